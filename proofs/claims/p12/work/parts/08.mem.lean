noncomputable section
theorem ab_rd_nf {lo hi : Int} {K : ab_AK} {al : List (Nat ⊕ ab_Iv)} (h : ab_rd lo hi K = some al) : ∀ svs, K ≠ .inr (.inr (.inr (.inr svs))) := by
  intro svs q
  subst q
  simp [ab_rd] at h
theorem ab_ad_get {ws : va_W} {k a a' : Nat} {e : va_E} (h : (ws.map (·.1))[k]? = some a) (h2 : ws[k]? = some (a', e)) : a' = a := by
  rw [List.getElem?_map, h2] at h
  simpa using h
theorem ab_ad_of {ws : va_W} {k a : Nat} {e : va_E} (h2 : ws[k]? = some (a, e)) : (ws.map (·.1))[k]? = some a := by
  rw [List.getElem?_map, h2]
  rfl
def ab_insU (v : ab_Iv) (U : List ab_Iv) : List ab_Iv := bif U.any (fun w => ab_le w.1 v.1 && ab_le v.2 w.2) then U else v :: U
theorem ab_insU_old {v : ab_Iv} {U : List ab_Iv} {x : Int} (h : ab_inU U x) : ab_inU (ab_insU v U) x := by
  unfold ab_insU
  obtain ⟨w, hw, h1⟩ := h
  cases U.any (fun w => ab_le w.1 v.1 && ab_le v.2 w.2) with
  | true => exact ⟨w, hw, h1⟩
  | false => exact ⟨w, List.mem_cons_of_mem _ hw, h1⟩
theorem ab_insU_new {v : ab_Iv} {U : List ab_Iv} {x : Int} (h1 : v.1 ≤ x) (h2 : x ≤ v.2) : ab_inU (ab_insU v U) x := by
  unfold ab_insU
  cases h : U.any (fun w => ab_le w.1 v.1 && ab_le v.2 w.2) with
  | true =>
    obtain ⟨w, hw, h3⟩ := List.any_eq_true.mp h
    rw [Bool.and_eq_true, ab_le_iff, ab_le_iff] at h3
    exact ⟨w, hw, by omega, by omega⟩
  | false => exact ⟨v, List.mem_cons_self, h1, h2⟩
/-- what an array holds behind a store: at a place in lo .. hi the number id, which is in v; one: the array is known to be this one -/
def ab_wrK (lo hi : Int) (id : Nat) (v : ab_Iv) (one : Bool) (K : ab_AK) : Option ab_AK := match K with
  | .inl U => some (.inl (ab_insU v U))
  | .inr (.inl ids) => bif one && ab_le hi lo then some (.inr (.inl (ids.set lo.toNat id))) else none
  | .inr (.inr (.inl cs)) => bif one && (ab_le hi lo && ab_le v.2 v.1) then some (.inr (.inr (.inl (cs.set lo.toNat v.1)))) else none
  | _ => none
/-- one more kind of new content at each of these cells -/
def ab_wrE (f : ab_AC → Option ab_AK) (h : ab_AH) : List Nat → Option ab_AH
  | [] => some []
  | k :: r => match ab_hg h k, ab_wrE f h r with
    | some c, some E => (match f c with
      | some K => some ((k, c.1, c.2.1, K) :: E)
      | none => none)
    | _, _ => none
theorem ab_wrE_in {f : ab_AC → Option ab_AK} {h : ab_AH} : ∀ {ks : List Nat} {E : ab_AH}, ab_wrE f h ks = some E → ∀ k ∈ ks, ∃ c K, ab_hg h k = some c ∧ f c = some K
  | [], E, _, k, hk => by cases hk
  | j :: r, E, hE, k, hk => by
    simp only [ab_wrE] at hE
    split at hE
    · rename_i c E' hc hE'
      split at hE
      · rename_i K hK
        rcases List.mem_cons.mp hk with rfl | hk
        · exact ⟨c, K, hc, hK⟩
        · exact ab_wrE_in hE' k hk
      · cases hE
    · cases hE
theorem ab_wrE_get {f : ab_AC → Option ab_AK} {h : ab_AH} : ∀ {ks : List Nat} {E : ab_AH}, ab_wrE f h ks = some E → ∀ j c, ab_hg (E ++ h) j = some c → (j ∈ ks ∧ ∃ c0 K, ab_hg h j = some c0 ∧ f c0 = some K ∧ c = (c0.1, c0.2.1, K)) ∨ (j ∉ ks ∧ ab_hg h j = some c)
  | [], E, hE, j, c, hc => by
    simp only [ab_wrE] at hE
    cases hE
    exact Or.inr ⟨by simp, hc⟩
  | k :: r, E, hE, j, c, hc => by
    simp only [ab_wrE] at hE
    split at hE
    · rename_i c1 E' hc1 hE'
      split at hE
      · rename_i K hK
        cases hE
        rw [List.cons_append, ab_hg_cons] at hc
        by_cases hj : k = j
        · subst hj
          rw [if_pos rfl] at hc
          cases hc
          exact Or.inl ⟨List.mem_cons_self, c1, K, hc1, hK, rfl⟩
        · rw [if_neg hj] at hc
          rcases ab_wrE_get hE' j c hc with ⟨h1, h2⟩ | ⟨h1, h2⟩
          · exact Or.inl ⟨List.mem_cons_of_mem _ h1, h2⟩
          · exact Or.inr ⟨fun q => (List.mem_cons.mp q).elim (fun q => hj q.symm) h1, h2⟩
      · cases hE
    · cases hE
def ab_ast (t0 : Nat) (lg bo : Bool) (M : Nat → Bool) (st : ab_St) : Option ab_St := match st with
  | (n, e, h, L, b :: a :: some (.inr (.inl ks)) :: r) => (match ab_num e lg b, ab_num e false a with
    | some y, some x => bif ks.all M && (!bo || (ab_0le y.2.1 && ab_le y.2.2.1 (.ofNat 1))) then
      (match ab_wrE (fun c => bif Nat.beq c.1 t0 && (ab_0le x.2.1 && ab_le (Int.add x.2.2.1 (.ofNat 1)) (.ofNat c.2.1)) then ab_wrK x.2.1 x.2.2.1 y.1 (y.2.1, y.2.2.1) (Nat.beq ks.length 1) c.2.2 else none) h ks with
      | some E => some (n, e, E ++ h, L, r)
      | none => none) else none
    | _, _ => none)
  | _ => none
/-- the new content holds behind a store of an int -/
theorem ab_wrK_int {ρ : Nat → Value} {n : Nat} {ad : List Nat} {tS t0 N : Nat} {tys : List (ClassId × FieldType)} {K K' : ab_AK} {cA : ClassId} {f : Nat → Int32} (h : ab_acok ρ n ad tS tys (t0, N, K) (.inl (cA, N, .inl f))) {lo hi : Int} {id j : Nat} {v : ab_Iv} {one : Bool} {x : Int32} (h0 : 0 ≤ lo) (h1 : lo ≤ j) (h2 : (j : Int) ≤ hi) (hj : j < N) (hid : id < n) (hρ : ρ id = .int x) (v1 : v.1 ≤ x.toInt) (v2 : x.toInt ≤ v.2)
    (hw : ab_wrK lo hi id v one K = some K') : ab_acok ρ n ad tS tys (t0, N, K') (.inl (cA, N, .inl (upd f j x))) := by
  obtain ⟨a1, a2, h3⟩ := h
  refine ⟨a1, a2, ?_⟩
  rcases h3 with ⟨U, q, h4⟩ | ⟨ids, q, h4, h5⟩ | ⟨cs, q, h4, h5⟩
  · simp only at q; subst q
    simp only [ab_wrK] at hw
    cases hw
    refine Or.inl ⟨_, rfl, fun i hi' => ?_⟩
    by_cases e : i = j
    · subst e; rw [pk_us]; exact ab_insU_new v1 v2
    · rw [pk_un e]; exact ab_insU_old (h4 i hi')
  · simp only at q; subst q
    simp only [ab_wrK] at hw
    cases hb : (one && ab_le hi lo) with
    | false => rw [hb] at hw; simp at hw
    | true =>
      rw [hb] at hw
      simp only [cond_true] at hw
      cases hw
      rw [Bool.and_eq_true, ab_le_iff] at hb
      have e : lo.toNat = j := by omega
      rw [e]
      refine Or.inr (Or.inl ⟨_, rfl, by rw [List.length_set]; exact h4, fun i k hk => ?_⟩)
      by_cases e2 : i = j
      · subst e2
        rw [List.getElem?_set_self (by omega)] at hk
        cases hk
        rw [pk_us]
        exact ⟨hid, hρ⟩
      · rw [List.getElem?_set_ne (fun q => e2 q.symm)] at hk
        rw [pk_un e2]
        exact h5 i k hk
  · simp only at q; subst q
    simp only [ab_wrK] at hw
    cases hb : (one && (ab_le hi lo && ab_le v.2 v.1)) with
    | false => rw [hb] at hw; simp at hw
    | true =>
      rw [hb] at hw
      simp only [cond_true] at hw
      cases hw
      rw [Bool.and_eq_true, Bool.and_eq_true, ab_le_iff, ab_le_iff] at hb
      have e : lo.toNat = j := by omega
      rw [e]
      refine Or.inr (Or.inr ⟨_, rfl, by rw [List.length_set]; exact h4, fun i k hk => ?_⟩)
      by_cases e2 : i = j
      · subst e2
        rw [List.getElem?_set_self (by omega)] at hk
        cases hk
        rw [pk_us]
        omega
      · rw [List.getElem?_set_ne (fun q => e2 q.symm)] at hk
        rw [pk_un e2]
        exact h5 i k hk
theorem ab_wrK_long {ρ : Nat → Value} {n : Nat} {ad : List Nat} {tS t0 N : Nat} {tys : List (ClassId × FieldType)} {K K' : ab_AK} {cA : ClassId} {f : Nat → Int64} (h : ab_acok ρ n ad tS tys (t0, N, K) (.inl (cA, N, .inr (.inl f)))) {lo hi : Int} {id j : Nat} {v : ab_Iv} {one : Bool} {x : Int64} (h0 : 0 ≤ lo) (h1 : lo ≤ j) (h2 : (j : Int) ≤ hi) (hj : j < N) (hid : id < n) (hρ : ρ id = .long x) (v1 : v.1 ≤ x.toInt) (v2 : x.toInt ≤ v.2)
    (hw : ab_wrK lo hi id v one K = some K') : ab_acok ρ n ad tS tys (t0, N, K') (.inl (cA, N, .inr (.inl (vp_updL f j x)))) := by
  obtain ⟨a1, a2, h3⟩ := h
  refine ⟨a1, a2, ?_⟩
  rcases h3 with ⟨U, q, h4⟩ | ⟨ids, q, h4, h5⟩
  · simp only at q; subst q
    simp only [ab_wrK] at hw
    cases hw
    refine Or.inl ⟨_, rfl, fun i hi' => ?_⟩
    by_cases e : i = j
    · subst e; rw [pk_uLs]; exact ab_insU_new v1 v2
    · rw [pk_uLn e]; exact ab_insU_old (h4 i hi')
  · simp only at q; subst q
    simp only [ab_wrK] at hw
    cases hb : (one && ab_le hi lo) with
    | false => rw [hb] at hw; simp at hw
    | true =>
      rw [hb] at hw
      simp only [cond_true] at hw
      cases hw
      rw [Bool.and_eq_true, ab_le_iff] at hb
      have e : lo.toNat = j := by omega
      rw [e]
      refine Or.inr ⟨_, rfl, by rw [List.length_set]; exact h4, fun i k hk => ?_⟩
      by_cases e2 : i = j
      · subst e2
        rw [List.getElem?_set_self (by omega)] at hk
        cases hk
        rw [pk_uLs]
        exact ⟨hid, hρ⟩
      · rw [List.getElem?_set_ne (fun q => e2 q.symm)] at hk
        rw [pk_uLn e2]
        exact h5 i k hk
/-- a cell whose content may have been written, but was not -/
theorem ab_wrK_old {ρ : Nat → Value} {n : Nat} {ad : List Nat} {tS t0 N : Nat} {tys : List (ClassId × FieldType)} {K K' : ab_AK} {e : va_E} (h : ab_acok ρ n ad tS tys (t0, N, K) e) {lo hi : Int} {id : Nat} {v : ab_Iv} (hw : ab_wrK lo hi id v false K = some K') : ab_acok ρ n ad tS tys (t0, N, K') e := by
  match K, hw with
  | .inl U, hw =>
    simp only [ab_wrK] at hw
    cases hw
    match e, h with
    | .inr (ci', fs), ⟨h1, h2, svs', h3, h4⟩ => cases h3
    | .inl (cA, N', .inl f), ⟨a1, a2, h3⟩ =>
      refine ⟨a1, a2, Or.inl ?_⟩
      rcases h3 with ⟨U, q, h4⟩ | ⟨i, q, -⟩ | ⟨i, q, -⟩
      · cases q
        exact ⟨_, rfl, fun i hi => ab_insU_old (h4 i hi)⟩
      · cases q
      · cases q
    | .inl (cA, N', .inr (.inl f)), ⟨a1, a2, h3⟩ =>
      refine ⟨a1, a2, Or.inl ?_⟩
      rcases h3 with ⟨U, q, h4⟩ | ⟨i, q, -⟩
      · cases q
        exact ⟨_, rfl, fun i hi => ab_insU_old (h4 i hi)⟩
      · cases q
    | .inl (cA, N', .inr (.inr (.inr (.inr f)))), ⟨_, _, ks, q, _⟩ => cases q
    | .inl (cA, N', .inr (.inr (.inl f))), k => exact k.elim
    | .inl (cA, N', .inr (.inr (.inr (.inl f)))), k => exact k.elim
  | .inr (.inl ids), hw => simp [ab_wrK] at hw
  | .inr (.inr (.inl cs)), hw => simp [ab_wrK] at hw
  | .inr (.inr (.inr (.inl cs))), hw => simp [ab_wrK] at hw
  | .inr (.inr (.inr (.inr cs))), hw => simp [ab_wrK] at hw
theorem ab_wrK_nf {lo hi : Int} {id : Nat} {v : ab_Iv} {one : Bool} {K K' : ab_AK} (h : ab_wrK lo hi id v one K = some K') : ∀ svs, K ≠ .inr (.inr (.inr (.inr svs))) := by
  intro svs q
  subst q
  simp [ab_wrK] at h
section ABM
variable {p : Program} {l : Launch} {e : Env} {R : Room} {s : State} {m : MethodId} {args : Array Value} {below : List Frame} {meth : Method} {c : Code} {D : va_G} {cl : List vw_C} {A : Nat → Prop} {Q : State → Prop}
variable {I : (Nat → Value) → Nat → va_W → Prop} {tS : Nat} {cs : Nat → ClassId} {nL cells slots pc pc' : Nat} {st st' : ab_St} {cc : ByteArray} {sl : List ab_St}
theorem ab_s_aldI (hI : ab_IE I) {t0 : Nat} (ht : t0 = 0 ∨ t0 = 2)
    (row : ∀ (q0 N a : Nat) (f : Nat → Int32) (i : Int32) (ws : va_W) (H : Heap) (locs : List Loc) (ls : Array Slot) (rest : List Value), va_P D cl ws H → ws[q0]? = some (a, .inl (cs t0, N, .inl f)) → vp_in i N → W p l e R s m args below meth c H locs cells slots Q (F0 m pc' ls (.int (f i.toNatClampNeg) :: rest)) → W p l e R s m args below meth c H locs cells slots Q (F0 m pc ls (.int i :: .ref a :: rest)))
    (h : ab_ald t0 false st = some sl) (k : ∀ w ∈ sl, ab_Ok p l e R s m args below meth c D cl A Q I tS (ab_tys cs) nL cells slots pc' w) : ab_Ok p l e R s m args below meth c D cl A Q I tS (ab_tys cs) nL cells slots pc st := by
  match st, h with
  | (n, en, hp, L, a :: some (.inr (.inl ks)) :: r), h =>
    simp only [ab_ald] at h
    split at h
    · rename_i x hx
      split at h
      rotate_left
      · cases h
      rename_i al0 hal0
      cases h
      intro ρ ls stk ws hi S H locs hP hD hS
      obtain ⟨va, stk1, rfl, hva, S1⟩ := ab_sat_top S
      obtain ⟨vb, stk2, rfl, hvb, S2⟩ := ab_sat_top S1
      obtain ⟨y, rfl, -, -, hq⟩ := ab_inQ_of S.1 hx hva
      obtain ⟨kk, aa, hkk, had, rfl⟩ := hvb
      obtain ⟨o, ho1, ho2⟩ := ab_seq_in hal0 hkk
      split at ho1
      · rename_i cc' hcc
        cases hb : (Nat.beq cc'.1 t0 && (ab_0le x.2.1 && ab_le (Int.add x.2.2.1 (.ofNat 1)) (.ofNat cc'.2.1))) with
        | false => rw [hb] at ho1; simp at ho1
        | true =>
          rw [hb] at ho1
          simp only [cond_true] at ho1
          have hal := ho1
          · unfold ab_0le at hb
            rw [Bool.and_eq_true, Bool.and_eq_true, ab_le_iff, ab_le_iff, ab_of0, ab_addE, ab_of1] at hb
            obtain ⟨hb1, hb2, hb3⟩ := hb
            have ht0 : cc'.1 = t0 := Nat.eq_of_beq_eq_true hb1
            obtain ⟨a2, e2, hw, hac⟩ := S.2.1 kk cc' hcc
            have ea := ab_ad_get had hw
            subst ea
            obtain ⟨t1, N, K⟩ := cc'
            simp only at ht0 hal hb3
            subst ht0
            obtain ⟨f, rfl⟩ := ab_acok_int hac ht (ab_rd_nf hal)
            have hN : Int.ofNat N = (N : Int) := rfl
            rw [hN] at hb3
            have y1 := hq.1
            have y2 := hq.2.1
            have hcl := ab_clamp (x := y) (by omega)
            obtain ⟨w, hw1, hw2, hw3⟩ := ab_rd_int hac hb2 (j := y.toNatClampNeg) (by omega) (by omega) (by omega) hal
            refine row kk N a2 f y ws H locs ls stk2 hP hw (ab_vpin (by omega) (by omega)) ?_
            have hk := k _ (List.mem_map.mpr ⟨w, ab_dv_in (ho2 _ hw1), rfl⟩)
            match w, hk, hw2, hw3 with
            | .inl i, hk, hw2, _ =>
              obtain ⟨g1, g2⟩ := hw2 i rfl
              exact hk ρ ls (.int (f y.toNatClampNeg) :: stk2) ws hi ⟨S2.1, S2.2.1, S2.2.2.1, ⟨g1, g2.symm⟩, S2.2.2.2⟩ H locs hP hD hS
            | .inr v, hk, _, hw3 =>
              obtain ⟨g1, g2⟩ := hw3 v rfl
              exact hk _ ls (.int (f y.toNatClampNeg) :: stk2) ws (hI _ _ _ _ _ hi (ab_ext.up (.int (f y.toNatClampNeg)))) (ab_sat_pushI S2 g1 g2 (Or.inl ⟨rfl, rfl⟩)) H locs hP hD hS
      · cases ho1
    · cases h
  | (n, en, hp, L, []), h => simp [ab_ald] at h
  | (n, en, hp, L, [a]), h => simp [ab_ald] at h
  | (n, en, hp, L, a :: none :: r), h => simp [ab_ald] at h
  | (n, en, hp, L, a :: some (.inl _) :: r), h => simp [ab_ald] at h
  | (n, en, hp, L, a :: some (.inr (.inr _)) :: r), h => simp [ab_ald] at h
theorem ab_s_aldL (hI : ab_IE I)
    (row : ∀ (q0 N a : Nat) (f : Nat → Int64) (i : Int32) (ws : va_W) (H : Heap) (locs : List Loc) (ls : Array Slot) (rest : List Value), va_P D cl ws H → ws[q0]? = some (a, .inl (cs 1, N, .inr (.inl f))) → vp_in i N → W p l e R s m args below meth c H locs cells slots Q (F0 m pc' ls (.long (f i.toNatClampNeg) :: rest)) → W p l e R s m args below meth c H locs cells slots Q (F0 m pc ls (.int i :: .ref a :: rest)))
    (h : ab_ald 1 true st = some sl) (k : ∀ w ∈ sl, ab_Ok p l e R s m args below meth c D cl A Q I tS (ab_tys cs) nL cells slots pc' w) : ab_Ok p l e R s m args below meth c D cl A Q I tS (ab_tys cs) nL cells slots pc st := by
  match st, h with
  | (n, en, hp, L, a :: some (.inr (.inl ks)) :: r), h =>
    simp only [ab_ald] at h
    split at h
    · rename_i x hx
      split at h
      rotate_left
      · cases h
      rename_i al0 hal0
      cases h
      intro ρ ls stk ws hi S H locs hP hD hS
      obtain ⟨va, stk1, rfl, hva, S1⟩ := ab_sat_top S
      obtain ⟨vb, stk2, rfl, hvb, S2⟩ := ab_sat_top S1
      obtain ⟨y, rfl, -, -, hq⟩ := ab_inQ_of S.1 hx hva
      obtain ⟨kk, aa, hkk, had, rfl⟩ := hvb
      obtain ⟨o, ho1, ho2⟩ := ab_seq_in hal0 hkk
      split at ho1
      · rename_i cc' hcc
        cases hb : (Nat.beq cc'.1 1 && (ab_0le x.2.1 && ab_le (Int.add x.2.2.1 (.ofNat 1)) (.ofNat cc'.2.1))) with
        | false => rw [hb] at ho1; simp at ho1
        | true =>
          rw [hb] at ho1
          simp only [cond_true] at ho1
          have hal := ho1
          · unfold ab_0le at hb
            rw [Bool.and_eq_true, Bool.and_eq_true, ab_le_iff, ab_le_iff, ab_of0, ab_addE, ab_of1] at hb
            obtain ⟨hb1, hb2, hb3⟩ := hb
            have ht0 : cc'.1 = 1 := Nat.eq_of_beq_eq_true hb1
            obtain ⟨a2, e2, hw, hac⟩ := S.2.1 kk cc' hcc
            have ea := ab_ad_get had hw
            subst ea
            obtain ⟨t1, N, K⟩ := cc'
            simp only at ht0 hal hb3
            subst ht0
            obtain ⟨f, rfl⟩ := ab_acok_long hac (ab_rd_nf hal)
            have hN : Int.ofNat N = (N : Int) := rfl
            rw [hN] at hb3
            have y1 := hq.1
            have y2 := hq.2.1
            have hcl := ab_clamp (x := y) (by omega)
            obtain ⟨w, hw1, hw2, hw3⟩ := ab_rd_long hac hb2 (j := y.toNatClampNeg) (by omega) (by omega) (by omega) hal
            refine row kk N a2 f y ws H locs ls stk2 hP hw (ab_vpin (by omega) (by omega)) ?_
            have hk := k _ (List.mem_map.mpr ⟨w, ab_dv_in (ho2 _ hw1), rfl⟩)
            match w, hk, hw2, hw3 with
            | .inl i, hk, hw2, _ =>
              obtain ⟨g1, g2⟩ := hw2 i rfl
              exact hk ρ ls (.long (f y.toNatClampNeg) :: stk2) ws hi ⟨S2.1, S2.2.1, S2.2.2.1, ⟨g1, g2.symm⟩, S2.2.2.2⟩ H locs hP hD hS
            | .inr v, hk, _, hw3 =>
              obtain ⟨g1, g2⟩ := hw3 v rfl
              exact hk _ ls (.long (f y.toNatClampNeg) :: stk2) ws (hI _ _ _ _ _ hi (ab_ext.up (.long (f y.toNatClampNeg)))) (ab_sat_pushL S2 g1 g2) H locs hP hD hS
      · cases ho1
    · cases h
  | (n, en, hp, L, []), h => simp [ab_ald] at h
  | (n, en, hp, L, [a]), h => simp [ab_ald] at h
  | (n, en, hp, L, a :: none :: r), h => simp [ab_ald] at h
  | (n, en, hp, L, a :: some (.inl _) :: r), h => simp [ab_ald] at h
  | (n, en, hp, L, a :: some (.inr (.inr _)) :: r), h => simp [ab_ald] at h
theorem ab_sat_world {ρ : Nat → Value} {tys : List (ClassId × FieldType)} {n : Nat} {en : ab_En} {hp hp' : ab_AH} {L r : List ab_SV} {ls : Array Slot} {stk : List Value} {ws : va_W} (S : ab_sat ρ tS tys nL (n, en, hp, L, r) ls stk ws) {k a : Nat} {e0 e' : va_E} (hk : ws[k]? = some (a, e0)) (hh : ab_heap ρ n tS tys hp' (ws.set k (a, e'))) : ab_sat ρ tS tys nL (n, en, hp', L, r) ls stk (ws.set k (a, e')) := by
  refine ⟨S.1, hh, ?_, ?_⟩
  · rw [ab_ad_set hk]; exact S.2.2.1
  · rw [ab_ad_set hk]; exact S.2.2.2
theorem ab_one {ks : List Nat} {j k : Nat} (h : Nat.beq ks.length 1 = true) (hj : j ∈ ks) (hk : k ∈ ks) : j = k := by
  have h1 : ks.length = 1 := Nat.eq_of_beq_eq_true h
  match ks, h1 with
  | [a], _ =>
    simp at hj hk
    rw [hj, hk]
theorem ab_s_astI {M : Nat → Bool} (hM : ab_IM I M) {t0 : Nat} {bo : Bool} (ht : t0 = 0 ∨ t0 = 2) (nar : Int32 → Int32) (hnar : bo = false → ∀ x, nar x = x) (hnar2 : bo = true → ∀ x : Int32, 0 ≤ x.toInt → x.toInt ≤ 1 → nar x = x)
    (row : ∀ (q0 N a : Nat) (f : Nat → Int32) (i x : Int32) (ws : va_W) (H : Heap) (locs : List Loc) (ls : Array Slot) (rest : List Value), va_P D cl ws H → va_D A ws → va_S A s.heap H locs → ws[q0]? = some (a, .inl (cs t0, N, .inl f)) → vp_in i N → (∀ (H1 : Heap) (locs1 : List Loc), va_P D cl (ws.set q0 (a, .inl (cs t0, N, .inl (upd f i.toNatClampNeg (nar x))))) H1 → va_D A (ws.set q0 (a, .inl (cs t0, N, .inl (upd f i.toNatClampNeg (nar x))))) → va_S A s.heap H1 locs1 → W p l e R s m args below meth c H1 locs1 cells slots Q (F0 m pc' ls rest)) → W p l e R s m args below meth c H locs cells slots Q (F0 m pc ls (.int x :: .int i :: .ref a :: rest)))
    (h : ab_ast t0 false bo M st = some st') (k : ab_Ok p l e R s m args below meth c D cl A Q I tS (ab_tys cs) nL cells slots pc' st') : ab_Ok p l e R s m args below meth c D cl A Q I tS (ab_tys cs) nL cells slots pc st := by
  match st, h with
  | (n, en, hp, L, b :: a :: some (.inr (.inl ks)) :: r), h =>
    simp only [ab_ast] at h
    split at h
    · rename_i y x hy hx
      cases hb : (ks.all M && (!bo || (ab_0le y.2.1 && ab_le y.2.2.1 (.ofNat 1)))) with
      | false => rw [hb] at h; simp at h
      | true =>
        rw [hb] at h
        simp only [cond_true] at h
        rw [Bool.and_eq_true] at hb
        split at h
        · rename_i E hE
          cases h
          intro ρ ls stk ws hi S H locs hP hD hS
          obtain ⟨vy, stk0, rfl, hvy, S0⟩ := ab_sat_top S
          obtain ⟨va, stk1, rfl, hva, S1⟩ := ab_sat_top S0
          obtain ⟨vb, stk2, rfl, hvb, S2⟩ := ab_sat_top S1
          obtain ⟨yv, rfl, hyρ, hylt, hyq⟩ := ab_inQ_of S.1 hy hvy
          obtain ⟨iv, rfl, -, -, hq⟩ := ab_inQ_of S.1 hx hva
          obtain ⟨kk, aa, hkk, had, rfl⟩ := hvb
          obtain ⟨c0, K0, hc0, hf0⟩ := ab_wrE_in hE kk hkk
          obtain ⟨a2, e2, hw, hac⟩ := S.2.1 kk c0 hc0
          have ea := ab_ad_get had hw
          subst ea
          have hf0' := hf0
          obtain ⟨t1, N, K⟩ := c0
          simp only at hf0
          cases hb2 : (Nat.beq t1 t0 && (ab_0le x.2.1 && ab_le (Int.add x.2.2.1 (.ofNat 1)) (.ofNat N))) with
          | false => rw [hb2] at hf0; simp at hf0
          | true =>
            rw [hb2] at hf0
            simp only [cond_true] at hf0
            unfold ab_0le at hb2
            rw [Bool.and_eq_true, Bool.and_eq_true, ab_le_iff, ab_le_iff, ab_of0, ab_addE, ab_of1] at hb2
            obtain ⟨hb1, hb2, hb3⟩ := hb2
            have ht0 : t1 = t0 := Nat.eq_of_beq_eq_true hb1
            subst ht0
            obtain ⟨f, rfl⟩ := ab_acok_int hac ht (ab_wrK_nf hf0)
            have hN : Int.ofNat N = (N : Int) := rfl
            rw [hN] at hb3
            have y1 := hq.1
            have y2 := hq.2.1
            have hcl := ab_clamp (x := iv) (by omega)
            have hn : nar yv = yv := by
              cases bo with
              | false => exact hnar rfl yv
              | true =>
                have h3 := hb.2
                simp only [Bool.not_true, Bool.false_or] at h3
                unfold ab_0le at h3
                rw [Bool.and_eq_true, ab_le_iff, ab_le_iff, ab_of0, ab_of1] at h3
                have z1 := hyq.1
                have z2 := hyq.2.1
                exact hnar2 rfl yv (by omega) (by omega)
            refine row kk N a2 f iv yv ws H locs ls stk2 hP hD hS hw (ab_vpin (by omega) (by omega)) (fun H1 locs1 hP1 hD1 hS1 => ?_)
            rw [hn] at hP1 hD1
            have hMk : M kk = true := List.all_eq_true.mp hb.1 kk hkk
            refine k ρ ls stk2 _ (hM _ _ _ _ _ _ _ hi hw hMk trivial) (ab_sat_world S2 hw ?_) H1 locs1 hP1 hD1 hS1
            intro j cj hcj
            rw [ab_ad_set hw]
            have hl : kk < ws.length := (List.getElem?_eq_some_iff.mp hw).1
            rcases ab_wrE_get hE j cj hcj with ⟨hj, c1, K1, hc1, hf1, rfl⟩ | ⟨hj, hcj⟩
            · by_cases hjk : j = kk
              · subst hjk
                rw [hc0] at hc1
                cases hc1
                rw [hf0'] at hf1
                cases hf1
                refine ⟨a2, _, List.getElem?_set_self hl, ?_⟩
                exact ab_wrK_int hac hb2 (by omega) (by omega) (by omega) hylt hyρ hyq.1 hyq.2.1 hf0
              · obtain ⟨a3, e3, hw3, hac3⟩ := S.2.1 j c1 hc1
                refine ⟨a3, e3, by rw [List.getElem?_set_ne (fun q => hjk q.symm)]; exact hw3, ?_⟩
                have ho : Nat.beq ks.length 1 = false := by
                  cases hq1 : Nat.beq ks.length 1 with
                  | true => exact absurd (ab_one hq1 hj hkk) hjk
                  | false => rfl
                rw [ho] at hf1
                cases hb4 : (Nat.beq c1.1 t1 && (ab_0le x.2.1 && ab_le (Int.add x.2.2.1 (.ofNat 1)) (.ofNat c1.2.1))) with
                | false => rw [hb4] at hf1; simp at hf1
                | true =>
                  rw [hb4] at hf1
                  simp only [cond_true] at hf1
                  exact ab_wrK_old hac3 hf1
            · by_cases hjk : j = kk
              · subst hjk; exact absurd hkk hj
              · obtain ⟨a3, e3, hw3, hac3⟩ := S.2.1 j cj hcj
                exact ⟨a3, e3, by rw [List.getElem?_set_ne (fun q => hjk q.symm)]; exact hw3, hac3⟩
        · cases h
    · cases h
  | (n, en, hp, L, []), h => simp [ab_ast] at h
  | (n, en, hp, L, [a]), h => simp [ab_ast] at h
  | (n, en, hp, L, [a, b]), h => simp [ab_ast] at h
  | (n, en, hp, L, a :: b :: none :: r), h => simp [ab_ast] at h
  | (n, en, hp, L, a :: b :: some (.inl _) :: r), h => simp [ab_ast] at h
  | (n, en, hp, L, a :: b :: some (.inr (.inr _)) :: r), h => simp [ab_ast] at h
theorem ab_s_astL {M : Nat → Bool} (hM : ab_IM I M)
    (row : ∀ (q0 N a : Nat) (f : Nat → Int64) (i : Int32) (x : Int64) (ws : va_W) (H : Heap) (locs : List Loc) (ls : Array Slot) (rest : List Value), va_P D cl ws H → va_D A ws → va_S A s.heap H locs → ws[q0]? = some (a, .inl (cs 1, N, .inr (.inl f))) → vp_in i N → (∀ (H1 : Heap) (locs1 : List Loc), va_P D cl (ws.set q0 (a, .inl (cs 1, N, .inr (.inl (vp_updL f i.toNatClampNeg x))))) H1 → va_D A (ws.set q0 (a, .inl (cs 1, N, .inr (.inl (vp_updL f i.toNatClampNeg x))))) → va_S A s.heap H1 locs1 → W p l e R s m args below meth c H1 locs1 cells slots Q (F0 m pc' ls rest)) → W p l e R s m args below meth c H locs cells slots Q (F0 m pc ls (.long x :: .int i :: .ref a :: rest)))
    (h : ab_ast 1 true false M st = some st') (k : ab_Ok p l e R s m args below meth c D cl A Q I tS (ab_tys cs) nL cells slots pc' st') : ab_Ok p l e R s m args below meth c D cl A Q I tS (ab_tys cs) nL cells slots pc st := by
  match st, h with
  | (n, en, hp, L, b :: a :: some (.inr (.inl ks)) :: r), h =>
    simp only [ab_ast] at h
    split at h
    · rename_i y x hy hx
      cases hb : (ks.all M && (!false || (ab_0le y.2.1 && ab_le y.2.2.1 (.ofNat 1)))) with
      | false => rw [hb] at h; simp at h
      | true =>
        rw [hb] at h
        simp only [cond_true] at h
        rw [Bool.and_eq_true] at hb
        split at h
        · rename_i E hE
          cases h
          intro ρ ls stk ws hi S H locs hP hD hS
          obtain ⟨vy, stk0, rfl, hvy, S0⟩ := ab_sat_top S
          obtain ⟨va, stk1, rfl, hva, S1⟩ := ab_sat_top S0
          obtain ⟨vb, stk2, rfl, hvb, S2⟩ := ab_sat_top S1
          obtain ⟨hylt, -, -, yv, rfl, hyρ, hyq1, hyq2⟩ := ab_numL S.1 hy hvy
          obtain ⟨iv, rfl, -, -, hq⟩ := ab_inQ_of S.1 hx hva
          obtain ⟨kk, aa, hkk, had, rfl⟩ := hvb
          obtain ⟨c0, K0, hc0, hf0⟩ := ab_wrE_in hE kk hkk
          obtain ⟨a2, e2, hw, hac⟩ := S.2.1 kk c0 hc0
          have ea := ab_ad_get had hw
          subst ea
          have hf0' := hf0
          obtain ⟨t1, N, K⟩ := c0
          simp only at hf0
          cases hb2 : (Nat.beq t1 1 && (ab_0le x.2.1 && ab_le (Int.add x.2.2.1 (.ofNat 1)) (.ofNat N))) with
          | false => rw [hb2] at hf0; simp at hf0
          | true =>
            rw [hb2] at hf0
            simp only [cond_true] at hf0
            unfold ab_0le at hb2
            rw [Bool.and_eq_true, Bool.and_eq_true, ab_le_iff, ab_le_iff, ab_of0, ab_addE, ab_of1] at hb2
            obtain ⟨hb1, hb2, hb3⟩ := hb2
            have ht0 : t1 = 1 := Nat.eq_of_beq_eq_true hb1
            subst ht0
            obtain ⟨f, rfl⟩ := ab_acok_long hac (ab_wrK_nf hf0)
            have hN : Int.ofNat N = (N : Int) := rfl
            rw [hN] at hb3
            have y1 := hq.1
            have y2 := hq.2.1
            have hcl := ab_clamp (x := iv) (by omega)
            refine row kk N a2 f iv yv ws H locs ls stk2 hP hD hS hw (ab_vpin (by omega) (by omega)) (fun H1 locs1 hP1 hD1 hS1 => ?_)
            have hMk : M kk = true := List.all_eq_true.mp hb.1 kk hkk
            refine k ρ ls stk2 _ (hM _ _ _ _ _ _ _ hi hw hMk trivial) (ab_sat_world S2 hw ?_) H1 locs1 hP1 hD1 hS1
            intro j cj hcj
            rw [ab_ad_set hw]
            have hl : kk < ws.length := (List.getElem?_eq_some_iff.mp hw).1
            rcases ab_wrE_get hE j cj hcj with ⟨hj, c1, K1, hc1, hf1, rfl⟩ | ⟨hj, hcj⟩
            · by_cases hjk : j = kk
              · subst hjk
                rw [hc0] at hc1
                cases hc1
                rw [hf0'] at hf1
                cases hf1
                refine ⟨a2, _, List.getElem?_set_self hl, ?_⟩
                exact ab_wrK_long hac hb2 (by omega) (by omega) (by omega) hylt hyρ hyq1 hyq2 hf0
              · obtain ⟨a3, e3, hw3, hac3⟩ := S.2.1 j c1 hc1
                refine ⟨a3, e3, by rw [List.getElem?_set_ne (fun q => hjk q.symm)]; exact hw3, ?_⟩
                have ho : Nat.beq ks.length 1 = false := by
                  cases hq1 : Nat.beq ks.length 1 with
                  | true => exact absurd (ab_one hq1 hj hkk) hjk
                  | false => rfl
                rw [ho] at hf1
                cases hb4 : (Nat.beq c1.1 1 && (ab_0le x.2.1 && ab_le (Int.add x.2.2.1 (.ofNat 1)) (.ofNat c1.2.1))) with
                | false => rw [hb4] at hf1; simp at hf1
                | true =>
                  rw [hb4] at hf1
                  simp only [cond_true] at hf1
                  exact ab_wrK_old hac3 hf1
            · by_cases hjk : j = kk
              · subst hjk; exact absurd hkk hj
              · obtain ⟨a3, e3, hw3, hac3⟩ := S.2.1 j cj hcj
                exact ⟨a3, e3, by rw [List.getElem?_set_ne (fun q => hjk q.symm)]; exact hw3, hac3⟩
        · cases h
    · cases h
  | (n, en, hp, L, []), h => simp [ab_ast] at h
  | (n, en, hp, L, [a]), h => simp [ab_ast] at h
  | (n, en, hp, L, [a, b]), h => simp [ab_ast] at h
  | (n, en, hp, L, a :: b :: none :: r), h => simp [ab_ast] at h
  | (n, en, hp, L, a :: b :: some (.inl _) :: r), h => simp [ab_ast] at h
  | (n, en, hp, L, a :: b :: some (.inr (.inr _)) :: r), h => simp [ab_ast] at h
end ABM
end
