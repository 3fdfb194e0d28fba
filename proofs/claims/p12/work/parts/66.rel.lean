noncomputable section
/-- rows that are the same (some rows one behind another, and one row); places that are the same (of an object: its field; of a row: its element, by 1000 more; the second one a field); bounds of places -/
abbrev rl_P : Type := List (List Nat × Nat) × List ((Nat × Nat) × (Nat × Nat)) × List ((Nat × Nat) × Int × Int)
def rl_vs (e : va_E) : Option (List Value) := match e with
  | .inl (_, N, .inl f) => some ((List.range N).map (fun i => .int (f i)))
  | .inl (_, N, .inr (.inl f)) => some ((List.range N).map (fun i => .long (f i)))
  | _ => none
def rl_row (ws : va_W) (k : Nat) : Option (List Value) := match ws[k]? with
  | some q => rl_vs q.2
  | none => none
def rl_rows (ws : va_W) : List Nat → Option (List Value)
  | [] => some []
  | k :: r => match rl_row ws k, rl_rows ws r with
    | some a, some b => some (a ++ b)
    | _, _ => none
def rl_fs (e : va_E) (f : Nat) : Option Value := match e with
  | .inr (_, fs) => fs[f]?
  | _ => none
def rl_fld0 (ws : va_W) (q : Nat × Nat) : Option Value := match ws[q.1]? with
  | some w => rl_fs w.2 q.2
  | none => none
def rl_nth (l : Option (List Value)) (i : Nat) : Option Value := match l with
  | some v => v[i]?
  | none => none
def rl_fld (ws : va_W) (q : Nat × Nat) : Option Value := bif Nat.ble 1000 q.2 then rl_nth (rl_row ws q.1) (q.2 - 1000) else rl_fld0 ws q
def rl_BD (ws : va_W) (q : (Nat × Nat) × Int × Int) : Prop := ∃ x : Int32, rl_fld ws q.1 = some (.int x) ∧ q.2.1 ≤ x.toInt ∧ x.toInt ≤ q.2.2
def rl_EQ (P : rl_P) (ws : va_W) : Prop := (∀ q ∈ P.1, ∃ v, rl_rows ws q.1 = some v ∧ rl_row ws q.2 = some v) ∧ (∀ q ∈ P.2.1, ∃ v, rl_fld ws q.1 = some v ∧ rl_fld ws q.2 = some v) ∧ ∀ q ∈ P.2.2, rl_BD ws q
def rl_ik (c : ab_AC) : Option (List Nat) := match c.2.2 with
  | .inr (.inl ids) => some ids
  | _ => none
def rl_ir (h : ab_AH) (k : Nat) : Option (List Nat) := match ab_hg h k with
  | some c => rl_ik c
  | none => none
def rl_irs (h : ab_AH) : List Nat → Option (List Nat)
  | [] => some []
  | k :: r => match rl_ir h k, rl_irs h r with
    | some a, some b => some (a ++ b)
    | _, _ => none
def rl_ifk (c : ab_AC) (f : Nat) : Option Nat := match c.2.2 with
  | .inr (.inr (.inr (.inr svs))) => (match svs[f]? with
    | some (some (.inl k)) => some k
    | _ => none)
  | _ => none
def rl_if0 (h : ab_AH) (q : Nat × Nat) : Option Nat := match ab_hg h q.1 with
  | some c => rl_ifk c q.2
  | none => none
def rl_nthi (l : Option (List Nat)) (i : Nat) : Option Nat := match l with
  | some v => v[i]?
  | none => none
def rl_if (h : ab_AH) (q : Nat × Nat) : Option Nat := bif Nat.ble 1000 q.2 then rl_nthi (rl_ir h q.1) (q.2 - 1000) else rl_if0 h q
theorem rl_map {ρ : Nat → Value} {N : Nat} {g : Nat → Value} {ids : List Nat} (hl : ids.length = N) (h : ∀ i k, ids[i]? = some k → ρ k = g i) : (List.range N).map g = ids.map ρ := by
  apply List.ext_getElem?
  intro i
  rw [List.getElem?_map, List.getElem?_map]
  by_cases hi : i < N
  · rw [List.getElem?_range hi]
    obtain ⟨k, hk⟩ : ∃ k, ids[i]? = some k := ⟨ids[i]'(by omega), List.getElem?_eq_getElem _⟩
    rw [hk]
    show some (g i) = some (ρ k)
    rw [h i k hk]
  · rw [List.getElem?_eq_none (by simpa using hi), List.getElem?_eq_none (by omega)]
    rfl
theorem rl_ik_ok {ρ : Nat → Value} {n tS : Nat} {ad : List Nat} {tys : List (ClassId × FieldType)} {c : ab_AC} {e : va_E} {ids : List Nat} (h : rl_ik c = some ids) (ha : ab_acok ρ n ad tS tys c e) : rl_vs e = some (ids.map ρ) ∧ ∀ k ∈ ids, k < n := by
  obtain ⟨t, N, K⟩ := c
  have hK : K = .inr (.inl ids) := by
    unfold rl_ik at h
    split at h
    · rename_i ids' he
      have e1 : ids' = ids := Option.some.inj h
      subst e1
      exact he
    · cases h
  subst hK
  have mem : ∀ {P : Nat → Prop}, (∀ i k, ids[i]? = some k → P k) → ∀ k ∈ ids, P k := fun h k hk => by
    obtain ⟨i, hi, e1⟩ := List.getElem_of_mem hk
    exact h i k (by rw [List.getElem?_eq_getElem hi, e1])
  match e, ha with
  | .inr (ci, fs), ⟨_, _, svs, h3, _⟩ => cases h3
  | .inl (cA, M, .inl f), ⟨_, _, h3⟩ =>
    rcases h3 with ⟨U, q, _⟩ | ⟨ids', q, h4, h5⟩ | ⟨cs, q, _⟩
    · cases q
    · cases q
      exact ⟨congrArg some (rl_map h4 (fun i k hk => (h5 i k hk).2)), mem (fun i k hk => (h5 i k hk).1)⟩
    · cases q
  | .inl (cA, M, .inr (.inl f)), ⟨_, _, h3⟩ =>
    rcases h3 with ⟨U, q, _⟩ | ⟨ids', q, h4, h5⟩
    · cases q
    · cases q
      exact ⟨congrArg some (rl_map h4 (fun i k hk => (h5 i k hk).2)), mem (fun i k hk => (h5 i k hk).1)⟩
  | .inl (cA, M, .inr (.inr (.inr (.inr f)))), ⟨_, _, ks, h3, _⟩ => cases h3
  | .inl (cA, M, .inr (.inr (.inl f))), ha => exact ha.elim
  | .inl (cA, M, .inr (.inr (.inr (.inl f)))), ha => exact ha.elim
theorem rl_ir_ok {ρ : Nat → Value} {n tS : Nat} {tys : List (ClassId × FieldType)} {h : ab_AH} {ws : va_W} {k : Nat} {ids : List Nat} (hh : ab_heap ρ n tS tys h ws) (hi : rl_ir h k = some ids) : rl_row ws k = some (ids.map ρ) ∧ ∀ k ∈ ids, k < n := by
  unfold rl_ir at hi
  split at hi
  · rename_i c hc
    obtain ⟨a, e, h1, h2⟩ := hh k c hc
    obtain ⟨g1, g2⟩ := rl_ik_ok hi h2
    refine ⟨?_, g2⟩
    unfold rl_row
    rw [h1]
    exact g1
  · cases hi
theorem rl_irs_ok {ρ : Nat → Value} {n tS : Nat} {tys : List (ClassId × FieldType)} {h : ab_AH} {ws : va_W} (hh : ab_heap ρ n tS tys h ws) : ∀ {ks : List Nat} {ids : List Nat}, rl_irs h ks = some ids → rl_rows ws ks = some (ids.map ρ) ∧ ∀ k ∈ ids, k < n
  | [], ids, hi => by
    cases hi
    exact ⟨rfl, fun k hk => by cases hk⟩
  | k :: r, ids, hi => by
    rw [rl_irs] at hi
    split at hi
    · rename_i a b ha hb
      cases hi
      obtain ⟨g1, g2⟩ := rl_ir_ok hh ha
      obtain ⟨g3, g4⟩ := rl_irs_ok hh hb
      refine ⟨?_, fun k hk => ?_⟩
      · rw [rl_rows, g1, g3, List.map_append]
      · rcases List.mem_append.mp hk with hk | hk
        · exact g2 k hk
        · exact g4 k hk
    · cases hi
theorem rl_if0_ok {ρ : Nat → Value} {n tS : Nat} {tys : List (ClassId × FieldType)} {h : ab_AH} {ws : va_W} {q : Nat × Nat} {k : Nat} (hh : ab_heap ρ n tS tys h ws) (hi : rl_if0 h q = some k) : rl_fld0 ws q = some (ρ k) ∧ k < n := by
  unfold rl_if0 at hi
  split at hi
  · rename_i c hc
    obtain ⟨a, e, h1, h2⟩ := hh _ c hc
    obtain ⟨t, N, K⟩ := c
    unfold rl_ifk at hi
    split at hi
    · rename_i svs hK
      have hK : K = _ := hK
      subst hK
      split at hi
      · rename_i k' hk'
        have e1 : k' = k := Option.some.inj hi
        subst e1
        obtain ⟨fs, rfl, -, hal⟩ := ab_acok_obj h2
        obtain ⟨x, hx, hv⟩ := ab_all2_get hal hk'
        refine ⟨?_, hv.1⟩
        unfold rl_fld0
        rw [h1]
        show fs[q.2]? = _
        rw [hx, hv.2]
      · cases hi
    · cases hi
  · cases hi
theorem rl_if_ok {ρ : Nat → Value} {n tS : Nat} {tys : List (ClassId × FieldType)} {h : ab_AH} {ws : va_W} {q : Nat × Nat} {k : Nat} (hh : ab_heap ρ n tS tys h ws) (hi : rl_if h q = some k) : rl_fld ws q = some (ρ k) ∧ k < n := by
  unfold rl_if at hi
  unfold rl_fld
  cases hb : Nat.ble 1000 q.2 with
  | false =>
    rw [hb] at hi
    simp only [cond_false] at hi ⊢
    exact rl_if0_ok hh hi
  | true =>
    rw [hb] at hi
    simp only [cond_true] at hi ⊢
    cases hr : rl_ir h q.1 with
    | none => rw [hr] at hi; cases hi
    | some ids =>
      rw [hr] at hi
      have hi : ids[q.2 - 1000]? = some k := hi
      obtain ⟨g1, g2⟩ := rl_ir_ok hh hr
      rw [g1]
      refine ⟨?_, g2 k (List.mem_of_getElem? hi)⟩
      show (ids.map ρ)[q.2 - 1000]? = some (ρ k)
      rw [List.getElem?_map, hi]
      rfl
/-- the second row takes the first ones' numbers -/
def rl_aa (q : List Nat × Nat) (h : ab_AH) : ab_AH := match rl_irs h q.1, ab_hg h q.2 with
  | some ids, some (t, N, .inr (.inl js)) => bif Nat.beq ids.length js.length then (q.2, (t, N, .inr (.inl ids))) :: h else h
  | _, _ => h
theorem rl_aa_ok {ρ : Nat → Value} {n tS : Nat} {tys : List (ClassId × FieldType)} {h : ab_AH} {ws : va_W} {q : List Nat × Nat} (hh : ab_heap ρ n tS tys h ws) (hq : ∃ v, rl_rows ws q.1 = some v ∧ rl_row ws q.2 = some v) : ab_heap ρ n tS tys (rl_aa q h) ws := by
  unfold rl_aa
  split
  · rename_i ids t N js hi hj
    cases hb : Nat.beq ids.length js.length with
    | false => exact hh
    | true =>
      obtain ⟨v, hv1, hv2⟩ := hq
      obtain ⟨g1, g2⟩ := rl_irs_ok hh hi
      have ev : v = ids.map ρ := Option.some.inj (hv1.symm.trans g1)
      subst ev
      intro k c hc
      simp only [cond_true] at hc
      rw [ab_hg_cons] at hc
      by_cases e : q.2 = k
      · rw [if_pos e] at hc
        cases hc
        subst e
        obtain ⟨a, x, h1, h2⟩ := hh _ _ hj
        refine ⟨a, x, h1, ?_⟩
        have hr : rl_vs x = some (ids.map ρ) := by
          have h3 := hv2
          unfold rl_row at h3
          rw [h1] at h3
          exact h3
        have hel : ∀ (g : Nat → Value) (M : Nat), (List.range M).map g = ids.map ρ → ids.length = M ∧ ∀ i k, ids[i]? = some k → k < n ∧ ρ k = g i := fun g M hm => by
          have hl : ids.length = M := by
            have := congrArg List.length hm
            simpa using this.symm
          refine ⟨hl, fun i k hk => ⟨g2 k (List.mem_of_getElem? hk), ?_⟩⟩
          have h4 := congrArg (fun l => l[i]?) hm
          have hlt : i < M := by rw [← hl]; exact (List.getElem?_eq_some_iff.mp hk).1
          simp only [List.getElem?_map, List.getElem?_range hlt, hk, Option.map_some] at h4
          exact (Option.some.inj h4).symm
        match x, h2, hr with
        | .inr (ci, fs), h2, hr => cases hr
        | .inl (cA, M, .inl f), ⟨k1, k2, k3⟩, hr =>
          obtain ⟨e1, e2⟩ := hel _ _ (Option.some.inj hr)
          exact ⟨k1, k2, Or.inr (Or.inl ⟨ids, rfl, e1, e2⟩)⟩
        | .inl (cA, M, .inr (.inl f)), ⟨k1, k2, k3⟩, hr =>
          obtain ⟨e1, e2⟩ := hel _ _ (Option.some.inj hr)
          exact ⟨k1, k2, Or.inr ⟨ids, rfl, e1, e2⟩⟩
        | .inl (cA, M, .inr (.inr (.inr (.inr f)))), h2, hr => cases hr
        | .inl (cA, M, .inr (.inr (.inl f))), h2, hr => cases hr
        | .inl (cA, M, .inr (.inr (.inr (.inl f)))), h2, hr => cases hr
      · rw [if_neg e] at hc
        exact hh k c hc
  · exact hh
/-- the second field takes the first one's number -/
def rl_af0 (q : (Nat × Nat) × (Nat × Nat)) (h : ab_AH) : ab_AH := match rl_if h q.1, ab_hg h q.2.1 with
  | some k, some (t, N, .inr (.inr (.inr (.inr svs)))) => (q.2.1, (t, N, .inr (.inr (.inr (.inr (svs.set q.2.2 (some (.inl k)))))))) :: h
  | _, _ => h
theorem rl_af0_ok {ρ : Nat → Value} {n tS : Nat} {tys : List (ClassId × FieldType)} {h : ab_AH} {ws : va_W} {q : (Nat × Nat) × (Nat × Nat)} (hh : ab_heap ρ n tS tys h ws) (hq : ∃ v, rl_fld ws q.1 = some v ∧ rl_fld0 ws q.2 = some v) : ab_heap ρ n tS tys (rl_af0 q h) ws := by
  unfold rl_af0
  split
  · rename_i k t N svs hi hj
    obtain ⟨v, hv1, hv2⟩ := hq
    obtain ⟨g1, g2⟩ := rl_if_ok hh hi
    have ev : v = ρ k := Option.some.inj (hv1.symm.trans g1)
    subst ev
    intro j c hc
    rw [ab_hg_cons] at hc
    by_cases e : q.2.1 = j
    · rw [if_pos e] at hc
      cases hc
      subst e
      obtain ⟨a, x, h1, h2⟩ := hh _ _ hj
      obtain ⟨fs, rfl, hN, hal⟩ := ab_acok_obj h2
      have hf : fs[q.2.2]? = some (ρ k) := by
        have h3 := hv2
        unfold rl_fld0 at h3
        rw [h1] at h3
        exact h3
      have hs := ab_all2_set hal q.2.2 (v := some (.inl k)) (x := ρ k) ⟨g2, rfl⟩
      have hset : fs.set q.2.2 (ρ k) = fs := by
        apply List.ext_getElem?
        intro i
        by_cases ei : q.2.2 = i
        · subst ei
          rw [List.getElem?_set_self (List.getElem?_eq_some_iff.mp hf).1, hf]
        · rw [List.getElem?_set_ne ei]
      rw [hset] at hs
      exact ⟨a, _, h1, rfl, hN, _, rfl, hs⟩
    · rw [if_neg e] at hc
      exact hh j c hc
  · exact hh
def rl_af (q : (Nat × Nat) × (Nat × Nat)) (h : ab_AH) : ab_AH := bif Nat.ble 1000 q.2.2 then h else rl_af0 q h
theorem rl_af_ok {ρ : Nat → Value} {n tS : Nat} {tys : List (ClassId × FieldType)} {h : ab_AH} {ws : va_W} {q : (Nat × Nat) × (Nat × Nat)} (hh : ab_heap ρ n tS tys h ws) (hq : ∃ v, rl_fld ws q.1 = some v ∧ rl_fld ws q.2 = some v) : ab_heap ρ n tS tys (rl_af q h) ws := by
  unfold rl_af
  cases hb : Nat.ble 1000 q.2.2 with
  | true => exact hh
  | false =>
    obtain ⟨v, h1, h2⟩ := hq
    refine rl_af0_ok hh ⟨v, h1, ?_⟩
    unfold rl_fld at h2
    rw [hb] at h2
    exact h2
def rl_al (P : rl_P) (h : ab_AH) : ab_AH := P.2.1.foldl (fun h q => rl_af q h) (P.1.foldl (fun h q => rl_aa q h) h)
theorem rl_al_ok {ρ : Nat → Value} {n tS : Nat} {tys : List (ClassId × FieldType)} {h : ab_AH} {ws : va_W} {P : rl_P} (hh : ab_heap ρ n tS tys h ws) (hE : rl_EQ P ws) : ab_heap ρ n tS tys (rl_al P h) ws := by
  have f1 : ∀ (l : List (List Nat × Nat)) (h : ab_AH), (∀ q ∈ l, ∃ v, rl_rows ws q.1 = some v ∧ rl_row ws q.2 = some v) → ab_heap ρ n tS tys h ws → ab_heap ρ n tS tys (l.foldl (fun h q => rl_aa q h) h) ws := by
    intro l
    induction l with
    | nil => exact fun h _ hh => hh
    | cons q r ih => exact fun h hq hh => ih _ (fun w hw => hq w (List.mem_cons_of_mem _ hw)) (rl_aa_ok hh (hq q List.mem_cons_self))
  have f2 : ∀ (l : List ((Nat × Nat) × (Nat × Nat))) (h : ab_AH), (∀ q ∈ l, ∃ v, rl_fld ws q.1 = some v ∧ rl_fld ws q.2 = some v) → ab_heap ρ n tS tys h ws → ab_heap ρ n tS tys (l.foldl (fun h q => rl_af q h) h) ws := by
    intro l
    induction l with
    | nil => exact fun h _ hh => hh
    | cons q r ih => exact fun h hq hh => ih _ (fun w hw => hq w (List.mem_cons_of_mem _ hw)) (rl_af_ok hh (hq q List.mem_cons_self))
  exact f2 _ _ hE.2.1 (f1 _ _ hE.1 hh)
/-- the bounds of places, known of their numbers -/
def rl_b1 (h : ab_AH) (q : (Nat × Nat) × Int × Int) (e : ab_En) : ab_En := match rl_if h q.1 with
  | some k => (match ab_num e false (some (.inl k)) with
    | some x => ab_cutE x.1 x.2 (ab_max x.2.1 q.2.1, ab_min x.2.2.1 q.2.2) e
    | none => e)
  | none => e
theorem rl_b1_ok {ρ : Nat → Value} {n tS : Nat} {tys : List (ClassId × FieldType)} {h : ab_AH} {ws : va_W} {q : (Nat × Nat) × Int × Int} {e : ab_En} (he : ab_env ρ n e) (hh : ab_heap ρ n tS tys h ws) (hq : rl_BD ws q) : ab_env ρ n (rl_b1 h q e) := by
  unfold rl_b1
  split
  · rename_i k hk
    split
    · rename_i x hx
      obtain ⟨g1, g2⟩ := rl_if_ok hh hk
      obtain ⟨y, h1, h2, h3⟩ := hq
      have ey : ρ k = .int y := Option.some.inj (g1.symm.trans h1)
      obtain ⟨z, z1, z2, z3, z4⟩ := ab_inQ_of (ad := []) (tS := 0) (x := ρ k) (i := x.1) (q := x.2) he hx ⟨g2, rfl⟩
      have e2 : z = y := by
        rw [ey] at z1
        exact (Value.int.inj z1).symm
      subst e2
      refine ab_cutE_ok he z3 z2 z4 ?_ ?_
      · show ab_max x.2.1 q.2.1 ≤ z.toInt
        rw [ab_max_eq]
        exact Int.max_le.mpr ⟨z4.1, h2⟩
      · show z.toInt ≤ ab_min x.2.2.1 q.2.2
        rw [ab_min_eq]
        exact Int.le_min.mpr ⟨z4.2.1, h3⟩
    · exact he
  · exact he
def rl_bs (P : rl_P) (h : ab_AH) (e : ab_En) : ab_En := P.2.2.foldl (fun e q => rl_b1 h q e) e
theorem rl_bs_ok {ρ : Nat → Value} {n tS : Nat} {tys : List (ClassId × FieldType)} {h : ab_AH} {ws : va_W} {P : rl_P} {e : ab_En} (he : ab_env ρ n e) (hh : ab_heap ρ n tS tys h ws) (hE : rl_EQ P ws) : ab_env ρ n (rl_bs P h e) := by
  have f : ∀ (l : List ((Nat × Nat) × Int × Int)) (e : ab_En), (∀ q ∈ l, rl_BD ws q) → ab_env ρ n e → ab_env ρ n (l.foldl (fun e q => rl_b1 h q e) e) := by
    intro l
    induction l with
    | nil => exact fun e _ he => he
    | cons q r ih => exact fun e hq he => ih _ (fun w hw => hq w (List.mem_cons_of_mem _ hw)) (rl_b1_ok he hh (hq q List.mem_cons_self))
  exact f _ _ hE.2.2 he
/-- the same number, or the same int, or the same sum -/
def rl_1 (e : ab_En) (a b : Nat) : Bool := Nat.beq a b || (match ab_eg e a, ab_eg e b with
  | some x, some y => (!x.1 && !y.1) && (((ab_le x.2.2.1 x.2.1 && ab_le y.2.2.1 y.2.1) && (ab_le x.2.1 y.2.1 && ab_le y.2.1 x.2.1)) || (Nat.beq x.2.2.2.1 y.2.2.2.1 && (ab_le x.2.2.2.2 y.2.2.2.2 && ab_le y.2.2.2.2 x.2.2.2.2)))
  | _, _ => false)
theorem rl_1_ok {ρ : Nat → Value} {n : Nat} {e : ab_En} {a b : Nat} (he : ab_env ρ n e) (h : rl_1 e a b = true) : ρ a = ρ b := by
  unfold rl_1 at h
  rw [Bool.or_eq_true] at h
  rcases h with h | h
  · rw [Nat.eq_of_beq_eq_true h]
  · split at h
    · rename_i x y hx hy
      simp only [Bool.and_eq_true, Bool.or_eq_true, ab_le_iff, Bool.not_eq_true'] at h
      obtain ⟨⟨t1, t2⟩, h⟩ := h
      have gx := he _ (ab_eg_mem hx)
      have gy := he _ (ab_eg_mem hy)
      rcases gx.2.2 with ⟨q, -⟩ | ⟨-, u, u1, u2, u3, u4, u5, u6⟩
      · rw [t1] at q; cases q
      · rcases gy.2.2 with ⟨q, -⟩ | ⟨-, v, v1, v2, v3, v4, v5, v6⟩
        · rw [t2] at q; cases q
        · have u1 : ρ a = .int u := u1
          have v1 : ρ b = .int v := v1
          have u2 : x.2.1 ≤ u.toInt := u2
          have u3 : u.toInt ≤ x.2.2.1 := u3
          have v2 : y.2.1 ≤ v.toInt := v2
          have v3 : v.toInt ≤ y.2.2.1 := v3
          have u5 : ρ x.2.2.2.1 = .int u4 := u5
          have v5 : ρ y.2.2.2.1 = .int v4 := v5
          have u6 : u.toInt = u4.toInt + x.2.2.2.2 := u6
          have v6 : v.toInt = v4.toInt + y.2.2.2.2 := v6
          have euv : u = v := by
            refine Int32.toInt_inj.mp ?_
            rcases h with ⟨⟨k1, k2⟩, k3, k4⟩ | ⟨k1, k2, k3⟩
            · omega
            · have e1 : x.2.2.2.1 = y.2.2.2.1 := Nat.eq_of_beq_eq_true k1
              rw [e1, v5] at u5
              have e2 : v4 = u4 := Value.int.inj u5
              rw [e2] at v6
              omega
          rw [u1, v1, euv]
    · cases h
def rl_s (e : ab_En) : List Nat → List Nat → Bool
  | [], [] => true
  | a :: r, b :: s => rl_1 e a b && rl_s e r s
  | _, _ => false
theorem rl_s_ok {ρ : Nat → Value} {n : Nat} {e : ab_En} (he : ab_env ρ n e) : ∀ {a b : List Nat}, rl_s e a b = true → a.map ρ = b.map ρ
  | [], [], _ => rfl
  | a :: r, b :: s, h => by
    rw [rl_s, Bool.and_eq_true] at h
    rw [List.map_cons, List.map_cons, rl_1_ok he h.1, rl_s_ok he h.2]
  | [], _ :: _, h => by simp [rl_s] at h
  | _ :: _, [], h => by simp [rl_s] at h
def rl_bk (e : ab_En) (h : ab_AH) (q : (Nat × Nat) × Int × Int) : Bool := match rl_if h q.1 with
  | some k => (match ab_num e false (some (.inl k)) with
    | some x => ab_le q.2.1 x.2.1 && ab_le x.2.2.1 q.2.2
    | none => false)
  | none => false
theorem rl_bk_ok {ρ : Nat → Value} {n tS : Nat} {tys : List (ClassId × FieldType)} {e : ab_En} {h : ab_AH} {ws : va_W} {q : (Nat × Nat) × Int × Int} (he : ab_env ρ n e) (hh : ab_heap ρ n tS tys h ws) (hc : rl_bk e h q = true) : rl_BD ws q := by
  unfold rl_bk at hc
  split at hc
  · rename_i k hk
    split at hc
    · rename_i x hx
      obtain ⟨g1, g2⟩ := rl_if_ok hh hk
      obtain ⟨z, z1, z2, z3, z4⟩ := ab_inQ_of (ad := []) (tS := 0) (x := ρ k) (i := x.1) (q := x.2) he hx ⟨g2, rfl⟩
      rw [Bool.and_eq_true, ab_le_iff, ab_le_iff] at hc
      refine ⟨z, by rw [g1, z1], Int.le_trans hc.1 z4.1, Int.le_trans z4.2.1 hc.2⟩
    · cases hc
  · cases hc
def rl_ck (P : rl_P) (e : ab_En) (h : ab_AH) : Bool := P.1.all (fun q => match rl_irs h q.1, rl_ir h q.2 with
    | some a, some b => rl_s e a b
    | _, _ => false) && (P.2.1.all (fun q => match rl_if h q.1, rl_if h q.2 with
    | some a, some b => rl_1 e a b
    | _, _ => false) && P.2.2.all (rl_bk e h))
theorem rl_ck_ok {ρ : Nat → Value} {n tS : Nat} {tys : List (ClassId × FieldType)} {e : ab_En} {h : ab_AH} {ws : va_W} {P : rl_P} (he : ab_env ρ n e) (hh : ab_heap ρ n tS tys h ws) (hc : rl_ck P e h = true) : rl_EQ P ws := by
  unfold rl_ck at hc
  rw [Bool.and_eq_true, Bool.and_eq_true] at hc
  refine ⟨fun q hq => ?_, fun q hq => ?_, fun q hq => rl_bk_ok he hh (List.all_eq_true.mp hc.2.2 q hq)⟩
  · have h1 := List.all_eq_true.mp hc.1 q hq
    split at h1
    · rename_i a b ha hb
      refine ⟨a.map ρ, (rl_irs_ok hh ha).1, ?_⟩
      rw [(rl_ir_ok hh hb).1, rl_s_ok he h1]
    · cases h1
  · have h1 := List.all_eq_true.mp hc.2.1 q hq
    split at h1
    · rename_i a b ha hb
      refine ⟨ρ a, (rl_if_ok hh ha).1, ?_⟩
      rw [(rl_if_ok hh hb).1, rl_1_ok he h1]
    · cases h1
/-- nothing of it is touched -/
def rl_f1 (M : Nat → Bool) (q : Nat × Nat) : Bool := bif Nat.ble 1000 q.2 then !M q.1 else !M (ab_fc q.1 q.2)
def rl_fr (M : Nat → Bool) (P : rl_P) : Bool := P.1.all (fun q => q.1.all (fun k => !M k) && !M q.2) && (P.2.1.all (fun q => rl_f1 M q.1 && rl_f1 M q.2) && P.2.2.all (fun q => rl_f1 M q.1))
theorem rl_row_keep {M : Nat → Bool} {ws ws' : va_W} {k : Nat} {v : List Value} (hg : ab_gr M ws ws') (hM : M k = false) (h : rl_row ws k = some v) : rl_row ws' k = some v := by
  unfold rl_row at h ⊢
  cases hk : ws[k]? with
  | none => rw [hk] at h; cases h
  | some q =>
    rw [hk] at h
    rw [hg.2.1 k (List.getElem?_eq_some_iff.mp hk).1 hM, hk]
    exact h
theorem rl_rows_keep {M : Nat → Bool} {ws ws' : va_W} (hg : ab_gr M ws ws') : ∀ {ks : List Nat} {v : List Value}, (∀ k ∈ ks, M k = false) → rl_rows ws ks = some v → rl_rows ws' ks = some v
  | [], v, _, h => h
  | k :: r, v, hM, h => by
    rw [rl_rows] at h
    split at h
    · rename_i a b ha hb
      cases h
      rw [rl_rows, rl_row_keep hg (hM k List.mem_cons_self) ha, rl_rows_keep hg (fun j hj => hM j (List.mem_cons_of_mem _ hj)) hb]
    · cases h
theorem rl_fld0_keep {M : Nat → Bool} {ws ws' : va_W} {q : Nat × Nat} {v : Value} (hg : ab_gr M ws ws') (hM : M (ab_fc q.1 q.2) = false) (h : rl_fld0 ws q = some v) : rl_fld0 ws' q = some v := by
  unfold rl_fld0 at h ⊢
  cases hk : ws[q.1]? with
  | none => rw [hk] at h; cases h
  | some w =>
    rw [hk] at h
    obtain ⟨a, x⟩ := w
    obtain ⟨x', g1, g2⟩ := hg.2.2 q.1 a x hk
    rw [g1]
    match x, h, g2 with
    | .inr (ci, fs), h, ⟨fs', e1, e2⟩ =>
      subst e1
      show fs'[q.2]? = some v
      rw [e2 q.2 hM]
      exact h
    | .inl _, h, _ => cases h
theorem rl_fld_keep {M : Nat → Bool} {ws ws' : va_W} {q : Nat × Nat} {v : Value} (hg : ab_gr M ws ws') (hM : rl_f1 M q = true) (h : rl_fld ws q = some v) : rl_fld ws' q = some v := by
  unfold rl_f1 at hM
  unfold rl_fld at h ⊢
  cases hb : Nat.ble 1000 q.2 with
  | false =>
    rw [hb] at hM h
    simp only [cond_false] at hM h ⊢
    exact rl_fld0_keep hg (by simpa using hM) h
  | true =>
    rw [hb] at hM h
    simp only [cond_true] at hM h ⊢
    cases hr : rl_row ws q.1 with
    | none => rw [hr] at h; cases h
    | some l =>
      rw [hr] at h
      rw [rl_row_keep hg (by simpa using hM) hr]
      exact h
theorem rl_fr_ok {M : Nat → Bool} {P : rl_P} {ws ws' : va_W} (hf : rl_fr M P = true) (hg : ab_gr M ws ws') (hE : rl_EQ P ws) : rl_EQ P ws' := by
  unfold rl_fr at hf
  rw [Bool.and_eq_true, Bool.and_eq_true] at hf
  refine ⟨fun q hq => ?_, fun q hq => ?_, fun q hq => ?_⟩
  · have h1 := List.all_eq_true.mp hf.1 q hq
    rw [Bool.and_eq_true, Bool.not_eq_true'] at h1
    obtain ⟨v, g1, g2⟩ := hE.1 q hq
    exact ⟨v, rl_rows_keep hg (fun k hk => by simpa using List.all_eq_true.mp h1.1 k hk) g1, rl_row_keep hg h1.2 g2⟩
  · have h1 := List.all_eq_true.mp hf.2.1 q hq
    rw [Bool.and_eq_true] at h1
    obtain ⟨v, g1, g2⟩ := hE.2.1 q hq
    exact ⟨v, rl_fld_keep hg h1.1 g1, rl_fld_keep hg h1.2 g2⟩
  · have h1 := List.all_eq_true.mp hf.2.2 q hq
    obtain ⟨x, g1, g2⟩ := hE.2.2 q hq
    exact ⟨x, rl_fld_keep hg h1 g1, g2⟩
/-- a number's interval cut in two, again and again -/
def rl_on (w : List (Nat × Int × Int)) (st : ab_St) : Bool := w.all (fun c => match ab_num st.2.1 false (some (.inl c.1)) with
  | some y => ab_le c.2.1 y.2.1 && ab_le y.2.2.1 c.2.2
  | none => false)
def rl_spl : List (Nat × Int × List (Nat × Int × Int)) → ab_St → List ab_St
  | [], st => [st]
  | q :: r, st => match ab_num st.2.1 false (some (.inl q.1)) with
    | some x => bif rl_on q.2.2 st && (ab_le (Int.add x.2.1 (.ofNat 1)) q.2.1 && ab_le q.2.1 x.2.2.1) then rl_spl r (st.1, ab_cutE x.1 x.2 (x.2.1, Int.sub q.2.1 (.ofNat 1)) st.2.1, st.2.2) ++ rl_spl r (st.1, ab_cutE x.1 x.2 (q.2.1, x.2.2.1) st.2.1, st.2.2) else rl_spl r st
    | none => rl_spl r st
theorem rl_spl_ok {ρ : Nat → Value} {tS nL : Nat} {tys : List (ClassId × FieldType)} {ls : Array Slot} {stk : List Value} {w : va_W} : ∀ {sp : List (Nat × Int × List (Nat × Int × Int))} {st : ab_St}, ab_sat ρ tS tys nL st ls stk w → ∃ st' ∈ rl_spl sp st, st'.1 = st.1 ∧ ab_sat ρ tS tys nL st' ls stk w
  | [], st, S => ⟨st, List.mem_cons_self, rfl, S⟩
  | q :: r, st, S => by
    rw [rl_spl]
    split
    · rename_i x hx
      cases hb : (rl_on q.2.2 st && (ab_le (Int.add x.2.1 (.ofNat 1)) q.2.1 && ab_le q.2.1 x.2.2.1)) with
      | false => exact rl_spl_ok S
      | true =>
        obtain ⟨hv, hm⟩ := ab_num_spec (i := x.1) (q := x.2) hx
        have hlt0 : x.1 < st.1 := (S.1 _ hm).1
        have hi : ab_val ρ st.1 [] 0 (some (.inl q.1)) (ρ x.1) := by
          have e1 : q.1 = x.1 := by
            have := Option.some.inj hv
            exact Sum.inl.inj this
          rw [e1]
          exact ⟨hlt0, rfl⟩
        obtain ⟨y, y1, y2, y3, y4⟩ := ab_inQ_of S.1 hx hi
        simp only [cond_true]
        by_cases hlt : y.toInt < q.2.1
        · obtain ⟨st', h1, h2, h3⟩ := rl_spl_ok (sp := r) (st := (st.1, ab_cutE x.1 x.2 (x.2.1, Int.sub q.2.1 (.ofNat 1)) st.2.1, st.2.2)) ⟨ab_cutE_ok S.1 hlt0 y1 y4 y4.1 (by rw [ab_subE, ab_of1]; simp only; omega), S.2⟩
          exact ⟨st', List.mem_append_left _ h1, h2, h3⟩
        · obtain ⟨st', h1, h2, h3⟩ := rl_spl_ok (sp := r) (st := (st.1, ab_cutE x.1 x.2 (q.2.1, x.2.2.1) st.2.1, st.2.2)) ⟨ab_cutE_ok S.1 hlt0 y1 y4 (by simp only; omega) y4.2.1, S.2⟩
          exact ⟨st', List.mem_append_right _ h1, h2, h3⟩
    · exact rl_spl_ok S
theorem rl_spl_app : ∀ {a b : List (Nat × Int × List (Nat × Int × Int))} {st st' : ab_St}, st' ∈ rl_spl (a ++ b) st → ∃ s ∈ rl_spl a st, st' ∈ rl_spl b s
  | [], b, st, st', h => ⟨st, List.mem_cons_self, h⟩
  | q :: r, b, st, st', h => by
    rw [List.cons_append, rl_spl] at h
    rw [rl_spl]
    split at h
    · rename_i x hx
      cases hb : (rl_on q.2.2 st && (ab_le (Int.add x.2.1 (.ofNat 1)) q.2.1 && ab_le q.2.1 x.2.2.1)) with
      | false =>
        rw [hb] at h
        simp only [cond_false] at h ⊢
        exact rl_spl_app h
      | true =>
        rw [hb] at h
        simp only [cond_true] at h ⊢
        rcases List.mem_append.mp h with h | h
        · obtain ⟨s, h1, h2⟩ := rl_spl_app h
          exact ⟨s, List.mem_append_left _ h1, h2⟩
        · obtain ⟨s, h1, h2⟩ := rl_spl_app h
          exact ⟨s, List.mem_append_right _ h1, h2⟩
    · exact rl_spl_app h
def rl_blk1 (a b : List (Nat × Int × List (Nat × Int × Int))) (st : ab_St) (f : ab_St → Bool) (i : Nat) : Bool := match (rl_spl a st)[i]? with
  | some s => (rl_spl b s).all f
  | none => false
/-- starts by blocks -/
theorem rl_blk {a b : List (Nat × Int × List (Nat × Int × Int))} {st : ab_St} {f : ab_St → Bool} {K : Nat} {L : List Nat} (hl : Nat.beq (rl_spl a st).length K = true) (hL : ∀ i, i < K → i ∈ L) (h : ∀ i ∈ L, rl_blk1 a b st f i = true) : ∀ s ∈ rl_spl (a ++ b) st, f s = true := fun s hs => by
  obtain ⟨s1, h1, h2⟩ := rl_spl_app hs
  obtain ⟨i, hi, e1⟩ := List.getElem_of_mem h1
  have h3 := h i (hL i (by rw [← Nat.eq_of_beq_eq_true hl]; exact hi))
  unfold rl_blk1 at h3
  rw [List.getElem?_eq_getElem hi, e1] at h3
  exact List.all_eq_true.mp h3 s h2
end
