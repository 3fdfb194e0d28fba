noncomputable section
def rl_tg (th : ab_TH) (k : Nat) : Option ab_TC := @List.rec (Nat × ab_TC) (fun _ => Option ab_TC) none (fun q _ ih => @Bool.rec (fun _ => Option ab_TC) ih (some q.2) (Nat.beq q.1 k)) th
theorem rl_tg_mem {k : Nat} {c : ab_TC} : ∀ {th : ab_TH}, rl_tg th k = some c → (k, c) ∈ th
  | [], h => by cases h
  | q :: r, h => by
    have h2 : @Bool.rec (fun _ => Option ab_TC) (rl_tg r k) (some q.2) (Nat.beq q.1 k) = some c := h
    cases hb : Nat.beq q.1 k with
    | true =>
      rw [hb] at h2
      have e1 : q.1 = k := Nat.eq_of_beq_eq_true hb
      have e2 : q.2 = c := Option.some.inj h2
      rw [← e1, ← e2]
      exact List.mem_cons_self
    | false =>
      rw [hb] at h2
      exact List.mem_cons_of_mem _ (rl_tg_mem h2)
def rl_mk (lg : Bool) (v : Int) : Value := bif lg then .long (Int64.ofInt v) else .int (Int32.ofInt v)
/-- a row whose numbers are all known -/
def rl_c0 (c : ab_TC) : Option (Bool × List Int) := match c with
  | (t, N, .inl [q]) => bif ab_le q.2 q.1 then some (Nat.beq t 1, List.replicate N q.1) else none
  | (t, N, .inr (.inr (.inl ks))) => some (Nat.beq t 1, ks)
  | _ => none
theorem rl_rep {N : Nat} {v : Int} {g : Nat → Value} {lg : Bool} (h : ∀ i, i < N → g i = rl_mk lg v) : (List.range N).map g = (List.replicate N v).map (rl_mk lg) := by
  apply List.ext_getElem?
  intro i
  rw [List.getElem?_map, List.getElem?_map, List.getElem?_replicate]
  by_cases hi : i < N
  · rw [List.getElem?_range hi, if_pos hi]
    show some (g i) = some (rl_mk lg v)
    rw [h i hi]
  · rw [List.getElem?_eq_none (by simpa using hi), if_neg hi]
    rfl
theorem rl_c0_ok {ad : List Nat} {tS : Nat} {tys : List (ClassId × FieldType)} {c : ab_TC} {e : va_E} {lg : Bool} {l : List Int} (h : rl_c0 c = some (lg, l)) (he : ab_tc ad tS tys c e) : rl_vs e = some (l.map (rl_mk lg)) := by
  unfold rl_c0 at h
  split at h
  · rename_i t N q
    cases hb : ab_le q.2 q.1 with
    | false => rw [hb] at h; cases h
    | true =>
      rw [hb] at h
      simp only [cond_true] at h
      cases h
      rw [ab_le_iff] at hb
      match e, he with
      | .inr (ci, fs), ⟨_, _, tvs, h3, _⟩ => cases h3
      | .inl (cA, M, .inl f), ⟨h1, _, h2, h4⟩ =>
        have h1 : M = N := h1
        have h2 : Nat.beq t 1 = false := h2
        subst h1
        rcases h4 with ⟨U, h6, h7⟩ | ⟨vs, h6, _⟩ | ⟨ks, h6, _⟩
        · cases h6
          refine congrArg some (rl_rep (fun i hi => ?_))
          obtain ⟨v, hv, g1, g2⟩ := h7 i hi
          have ev : v = q := by simpa using hv
          subst ev
          have e3 : (f i).toInt = v.1 := by omega
          rw [h2]
          show Value.int (f i) = Value.int (Int32.ofInt v.1)
          rw [← e3, Int32.ofInt_toInt]
        · cases h6
        · cases h6
      | .inl (cA, M, .inr (.inl f)), ⟨h1, _, h2, h4⟩ =>
        have h1 : M = N := h1
        have h2 : Nat.beq t 1 = true := h2
        subst h1
        rcases h4 with ⟨U, h6, h7⟩ | ⟨vs, h6, _⟩
        · cases h6
          refine congrArg some (rl_rep (fun i hi => ?_))
          obtain ⟨v, hv, g1, g2⟩ := h7 i hi
          have ev : v = q := by simpa using hv
          subst ev
          have e3 : (f i).toInt = v.1 := by omega
          rw [h2]
          show Value.long (f i) = Value.long (Int64.ofInt v.1)
          rw [← e3, Int64.ofInt_toInt]
        · cases h6
      | .inl (cA, M, .inr (.inr (.inr (.inr f)))), ⟨_, _, ks, h3, _⟩ => cases h3
      | .inl (cA, M, .inr (.inr (.inl f))), he => exact he.elim
      | .inl (cA, M, .inr (.inr (.inr (.inl f)))), he => exact he.elim
  · rename_i t N ks
    cases h
    match e, he with
    | .inr (ci, fs), ⟨_, _, tvs, h3, _⟩ => cases h3
    | .inl (cA, M, .inl f), ⟨h1, _, h2, h4⟩ =>
      have h2 : Nat.beq t 1 = false := h2
      rcases h4 with ⟨U, h6, h7⟩ | ⟨vs, h6, _⟩ | ⟨ks', h6, h7, h8⟩
      · cases h6
      · cases h6
      · cases h6
        refine congrArg some ?_
        rw [h2]
        apply List.ext_getElem?
        intro i
        rw [List.getElem?_map, List.getElem?_map]
        by_cases hi : i < M
        · rw [List.getElem?_range hi]
          obtain ⟨k, hk⟩ : ∃ k, l[i]? = some k := ⟨l[i]'(by omega), List.getElem?_eq_getElem _⟩
          rw [hk]
          show some (Value.int (f i)) = some (Value.int (Int32.ofInt k))
          rw [← h8 i k hk, Int32.ofInt_toInt]
        · rw [List.getElem?_eq_none (by simpa using hi), List.getElem?_eq_none (by omega)]
          rfl
    | .inl (cA, M, .inr (.inl f)), ⟨_, _, _, h4⟩ =>
      rcases h4 with ⟨U, h6, _⟩ | ⟨vs, h6, _⟩ <;> cases h6
    | .inl (cA, M, .inr (.inr (.inr (.inr f)))), ⟨_, _, ks, h3, _⟩ => cases h3
    | .inl (cA, M, .inr (.inr (.inl f))), he => exact he.elim
    | .inl (cA, M, .inr (.inr (.inr (.inl f)))), he => exact he.elim
  · cases h
def rl_k0 (th : ab_TH) (k : Nat) : Option (Bool × List Int) := match rl_tg th k with
  | some c => rl_c0 c
  | none => none
def rl_k0s (th : ab_TH) (lg : Bool) : List Nat → Option (List Int)
  | [] => some []
  | k :: r => match rl_k0 th k, rl_k0s th lg r with
    | some a, some b => bif (bif a.1 then lg else !lg) then some (a.2 ++ b) else none
    | _, _ => none
theorem rl_k0_ok {tS : Nat} {tys : List (ClassId × FieldType)} {th : ab_TH} {ws : va_W} {k : Nat} {a : Bool × List Int} (hw : ab_th tS tys th ws) (h : rl_k0 th k = some a) : rl_row ws k = some (a.2.map (rl_mk a.1)) := by
  unfold rl_k0 at h
  split at h
  · rename_i c hc
    obtain ⟨b, e, g1, g2⟩ := hw _ (rl_tg_mem hc)
    unfold rl_row
    rw [g1]
    exact rl_c0_ok h g2
  · cases h
theorem rl_k0s_ok {tS : Nat} {tys : List (ClassId × FieldType)} {th : ab_TH} {ws : va_W} {lg : Bool} (hw : ab_th tS tys th ws) : ∀ {ks : List Nat} {l : List Int}, rl_k0s th lg ks = some l → rl_rows ws ks = some (l.map (rl_mk lg))
  | [], l, h => by
    cases h
    rfl
  | k :: r, l, h => by
    rw [rl_k0s] at h
    split at h
    · rename_i a b ha hb
      cases hc : (bif a.1 then lg else !lg) with
      | false => rw [hc] at h; cases h
      | true =>
        rw [hc] at h
        simp only [cond_true] at h
        cases h
        have e1 : a.1 = lg := by
          cases ha1 : a.1 <;> rw [ha1] at hc <;> cases lg <;> first | rfl | cases hc
        rw [rl_rows, rl_k0_ok hw ha, rl_k0s_ok hw hb, e1, List.map_append]
    · cases h
def rl_eqi : List Int → List Int → Bool
  | [], [] => true
  | a :: as, b :: bs => (ab_le a b && ab_le b a) && rl_eqi as bs
  | _, _ => false
theorem rl_eqi_ok : ∀ {a b : List Int}, rl_eqi a b = true → a = b
  | [], [], _ => rfl
  | a :: as, b :: bs, h => by
    rw [rl_eqi, Bool.and_eq_true, Bool.and_eq_true, ab_le_iff, ab_le_iff] at h
    have e1 : a = b := Int.le_antisymm h.1.1 h.1.2
    rw [e1, rl_eqi_ok h.2]
  | [], _ :: _, h => by simp [rl_eqi] at h
  | _ :: _, [], h => by simp [rl_eqi] at h
def rl_f00 (th : ab_TH) (q : Nat × Nat) : Option (Bool × Int) := match rl_tg th q.1 with
  | some (_, _, .inr (.inr (.inr (.inr ts)))) => (match ts[q.2]? with
    | some (some (.inl w)) => bif ab_le w.2.2 w.2.1 then some (w.1, w.2.1) else none
    | _ => none)
  | _ => none
theorem rl_f00_ok {tS : Nat} {tys : List (ClassId × FieldType)} {th : ab_TH} {ws : va_W} {q : Nat × Nat} {a : Bool × Int} (hw : ab_th tS tys th ws) (h : rl_f00 th q = some a) : rl_fld0 ws q = some (rl_mk a.1 a.2) := by
  unfold rl_f00 at h
  split at h
  · rename_i t N ts hc
    obtain ⟨b, e, g1, g2⟩ := hw _ (rl_tg_mem hc)
    obtain ⟨fs, rfl, -, hl⟩ := sg_tcO g2
    split at h
    · rename_i w hk
      obtain ⟨x, hx, hv⟩ := sg_tl_get hl hk
      unfold rl_fld0
      rw [g1]
      show fs[q.2]? = _
      rw [hx]
      cases hb : ab_le w.2.2 w.2.1 with
      | false => rw [hb] at h; cases h
      | true =>
        rw [hb] at h
        simp only [cond_true] at h
        cases h
        rw [ab_le_iff] at hb
        obtain ⟨lg, lo, hi⟩ := w
        cases lg with
        | true =>
          obtain ⟨y, rfl, k1, k2⟩ := hv
          have e3 : y.toInt = lo := by
            have : hi ≤ lo := hb
            omega
          show some (Value.long y) = some (Value.long (Int64.ofInt lo))
          rw [← e3, Int64.ofInt_toInt]
        | false =>
          obtain ⟨y, rfl, k1, k2⟩ := hv
          have e3 : y.toInt = lo := by
            have : hi ≤ lo := hb
            omega
          show some (Value.int y) = some (Value.int (Int32.ofInt lo))
          rw [← e3, Int32.ofInt_toInt]
    · cases h
  · cases h
def rl_f0e (a : Option (Bool × List Int)) (i : Nat) : Option (Bool × Int) := match a with
  | some b => (match b.2[i]? with
    | some v => some (b.1, v)
    | none => none)
  | none => none
def rl_f0 (th : ab_TH) (q : Nat × Nat) : Option (Bool × Int) := bif Nat.ble 1000 q.2 then rl_f0e (rl_k0 th q.1) (q.2 - 1000) else rl_f00 th q
theorem rl_f0_ok {tS : Nat} {tys : List (ClassId × FieldType)} {th : ab_TH} {ws : va_W} {q : Nat × Nat} {a : Bool × Int} (hw : ab_th tS tys th ws) (h : rl_f0 th q = some a) : rl_fld ws q = some (rl_mk a.1 a.2) := by
  unfold rl_f0 at h
  unfold rl_fld
  cases hb : Nat.ble 1000 q.2 with
  | false =>
    rw [hb] at h
    simp only [cond_false] at h ⊢
    exact rl_f00_ok hw h
  | true =>
    rw [hb] at h
    simp only [cond_true] at h ⊢
    cases hk : rl_k0 th q.1 with
    | none => rw [hk] at h; cases h
    | some b =>
      rw [hk] at h
      have h : (match b.2[q.2 - 1000]? with
        | some v => some (b.1, v)
        | none => none) = some a := h
      rw [rl_k0_ok hw hk]
      show (b.2.map (rl_mk b.1))[q.2 - 1000]? = _
      rw [List.getElem?_map]
      split at h
      · rename_i v hv
        cases h
        rw [hv]
        rfl
      · cases h
def rl_ck0 (P : rl_P) (th : ab_TH) : Bool := P.1.all (fun q => match rl_k0 th q.2 with
    | some b => (match rl_k0s th b.1 q.1 with
      | some a => rl_eqi a b.2
      | none => false)
    | none => false) && (P.2.1.all (fun q => match rl_f0 th q.1, rl_f0 th q.2 with
    | some a, some b => (bif a.1 then b.1 else !b.1) && (ab_le a.2 b.2 && ab_le b.2 a.2)
    | _, _ => false) && P.2.2.all (fun q => match rl_f0 th q.1 with
    | some a => !a.1 && (ab_i32 a.2 a.2 && (ab_le q.2.1 a.2 && ab_le a.2 q.2.2))
    | none => false))
theorem rl_ck0_ok {tS : Nat} {tys : List (ClassId × FieldType)} {th : ab_TH} {ws : va_W} {P : rl_P} (hw : ab_th tS tys th ws) (h : rl_ck0 P th = true) : rl_EQ P ws := by
  unfold rl_ck0 at h
  rw [Bool.and_eq_true, Bool.and_eq_true] at h
  refine ⟨fun q hq => ?_, fun q hq => ?_, fun q hq => ?_⟩
  · have h1 := List.all_eq_true.mp h.1 q hq
    split at h1
    · rename_i b hb
      split at h1
      · rename_i a ha
        refine ⟨_, rl_k0s_ok hw ha, ?_⟩
        rw [rl_k0_ok hw hb, rl_eqi_ok h1]
      · cases h1
    · cases h1
  · have h1 := List.all_eq_true.mp h.2.1 q hq
    split at h1
    · rename_i a b ha hb
      rw [Bool.and_eq_true, Bool.and_eq_true, ab_le_iff, ab_le_iff] at h1
      have e1 : a.1 = b.1 := by
        have h2 := h1.1
        cases ha1 : a.1 <;> rw [ha1] at h2 <;> cases hb1 : b.1 <;> rw [hb1] at h2 <;> first | rfl | cases h2
      have e2 : a.2 = b.2 := Int.le_antisymm h1.2.1 h1.2.2
      exact ⟨_, rl_f0_ok hw ha, by rw [rl_f0_ok hw hb, e1, e2]⟩
    · cases h1
  · have h1 := List.all_eq_true.mp h.2.2 q hq
    split at h1
    · rename_i a ha
      simp only [Bool.and_eq_true, Bool.not_eq_true', ab_le_iff, ab_i32_iff] at h1
      obtain ⟨k1, ⟨k2, k3⟩, k4, k5⟩ := h1
      have e3 : (Int32.ofInt a.2).toInt = a.2 := by
        rw [Int32.toInt_ofInt]
        exact ab_bm k2 k3
      refine ⟨Int32.ofInt a.2, ?_, by rw [e3]; exact k4, by rw [e3]; exact k5⟩
      rw [rl_f0_ok hw ha, k1]
      rfl
    · cases h1
theorem rl_tv_app {ad mo : List Nat} {tS : Nat} {t : ab_TV} {x : Value} (h : ab_tv ad tS t x) : ab_tv (ad ++ mo) tS t x := by
  match t, h with
  | none, _ => trivial
  | some (.inl (true, lo, hi)), h => exact h
  | some (.inl (false, lo, hi)), h => exact h
  | some (.inr (.inl ks)), ⟨k, a, h1, h2, h3⟩ => exact ⟨k, a, h1, by rw [List.getElem?_append_left (List.getElem?_eq_some_iff.mp h2).1]; exact h2, h3⟩
  | some (.inr (.inr _)), h => exact h
theorem rl_tl_app {ad mo : List Nat} {tS : Nat} : ∀ {ts : List ab_TV} {xs : List Value}, ab_tl ad tS ts xs → ab_tl (ad ++ mo) tS ts xs
  | [], [], _ => trivial
  | _ :: _, _ :: _, h => ⟨rl_tv_app h.1, rl_tl_app h.2⟩
  | [], _ :: _, h => h.elim
  | _ :: _, [], h => h.elim
theorem rl_tc_app {ad mo : List Nat} {tS : Nat} {tys : List (ClassId × FieldType)} {c : ab_TC} {e : va_E} (h : ab_tc ad tS tys c e) : ab_tc (ad ++ mo) tS tys c e := by
  match e, h with
  | .inr (ci, fs), ⟨h1, h2, tvs, h3, h4⟩ => exact ⟨h1, h2, tvs, h3, rl_tl_app h4⟩
  | .inl (cA, N, .inl f), h => exact h
  | .inl (cA, N, .inr (.inl f)), h => exact h
  | .inl (cA, N, .inr (.inr (.inr (.inr f)))), ⟨h1, h2, ks, h3, h4, h5⟩ =>
    refine ⟨h1, h2, ks, h3, h4, fun i k hk => ?_⟩
    obtain ⟨a, g1, g2⟩ := h5 i k hk
    exact ⟨a, by rw [List.getElem?_append_left (List.getElem?_eq_some_iff.mp g1).1]; exact g1, g2⟩
  | .inl (cA, N, .inr (.inr (.inl f))), h => exact h.elim
  | .inl (cA, N, .inr (.inr (.inr (.inl f)))), h => exact h.elim
/-- what was known of a part of the world -/
theorem rl_th_app {tS : Nat} {tys : List (ClassId × FieldType)} {th : ab_TH} {w1 w3 : va_W} {mo : List Nat} (h : ab_th tS tys th w1) (hk : ∀ k, k < w1.length → w3[k]? = w1[k]?) (ha : w3.map (·.1) = w1.map (·.1) ++ mo) : ab_th tS tys th w3 := fun q hq => by
  obtain ⟨a, e, g1, g2⟩ := h q hq
  refine ⟨a, e, (hk _ (List.getElem?_eq_some_iff.mp g1).1).trans g1, ?_⟩
  rw [ha]
  exact rl_tc_app g2
end
