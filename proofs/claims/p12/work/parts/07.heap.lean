noncomputable section
def ab_tys (c : Nat → ClassId) : List (ClassId × FieldType) := [(c 0, .int), (c 1, .long), (c 2, .boolean), (c 3, .array .int), (c 4, .array .long)]
theorem ab_acok_obj {ρ : Nat → Value} {n : Nat} {ad : List Nat} {tS ci N : Nat} {tys : List (ClassId × FieldType)} {svs : List ab_SV} {e : va_E} (h : ab_acok ρ n ad tS tys (ci, N, .inr (.inr (.inr (.inr svs)))) e) : ∃ fs, e = .inr (ci, fs) ∧ fs.length = N ∧ ab_all2 (ab_val ρ n ad tS) svs fs := by
  match e, h with
  | .inr (ci', fs), ⟨h1, h2, svs', h3, h4⟩ =>
    simp only at h1 h2
    cases h3
    subst h1
    exact ⟨fs, rfl, h2, h4⟩
  | .inl (cA, N', .inl f), ⟨_, _, h3⟩ =>
    rcases h3 with ⟨U, q, -⟩ | ⟨i, q, -⟩ | ⟨i, q, -⟩ <;> cases q
  | .inl (cA, N', .inr (.inl f)), ⟨_, _, h3⟩ =>
    rcases h3 with ⟨U, q, -⟩ | ⟨i, q, -⟩ <;> cases q
  | .inl (cA, N', .inr (.inr (.inr (.inr f)))), ⟨_, _, ks, q, _⟩ => cases q
  | .inl (cA, N', .inr (.inr (.inl f))), k => exact k.elim
  | .inl (cA, N', .inr (.inr (.inr (.inl f)))), k => exact k.elim
/-- an array of ints (t0 = 0) or booleans (t0 = 2) -/
theorem ab_acok_int {ρ : Nat → Value} {n : Nat} {ad : List Nat} {tS t0 N : Nat} {cs : Nat → ClassId} {K : ab_AK} {e : va_E} (h : ab_acok ρ n ad tS (ab_tys cs) (t0, N, K) e) (ht : t0 = 0 ∨ t0 = 2) (hk : ∀ svs, K ≠ .inr (.inr (.inr (.inr svs)))) : ∃ f, e = .inl (cs t0, N, .inl f) := by
  match e, h with
  | .inr (ci', fs), ⟨h1, h2, svs', h3, h4⟩ => exact absurd h3 (hk svs')
  | .inl (cA, N', .inl f), ⟨h1, ⟨ty, h2, h2'⟩, h3⟩ =>
    simp only at h1 h2
    subst h1
    rcases ht with rfl | rfl
    · simp [ab_tys] at h2; exact ⟨f, by rw [h2.1]⟩
    · simp [ab_tys] at h2; exact ⟨f, by rw [h2.1]⟩
  | .inl (cA, N', .inr (.inl f)), ⟨h1, h2, h3⟩ =>
    simp only at h2
    rcases ht with rfl | rfl <;> simp [ab_tys] at h2
  | .inl (cA, N', .inr (.inr (.inr (.inr f)))), ⟨_, ⟨t, h2⟩, _⟩ =>
    simp only at h2
    rcases ht with rfl | rfl <;> simp [ab_tys] at h2
  | .inl (cA, N', .inr (.inr (.inl f))), k => exact k.elim
  | .inl (cA, N', .inr (.inr (.inr (.inl f)))), k => exact k.elim
theorem ab_acok_long {ρ : Nat → Value} {n : Nat} {ad : List Nat} {tS N : Nat} {cs : Nat → ClassId} {K : ab_AK} {e : va_E} (h : ab_acok ρ n ad tS (ab_tys cs) (1, N, K) e) (hk : ∀ svs, K ≠ .inr (.inr (.inr (.inr svs)))) : ∃ f, e = .inl (cs 1, N, .inr (.inl f)) := by
  match e, h with
  | .inr (ci', fs), ⟨h1, h2, svs', h3, h4⟩ => exact absurd h3 (hk svs')
  | .inl (cA, N', .inl f), ⟨h1, ⟨ty, h2, h2'⟩, h3⟩ =>
    simp [ab_tys] at h2
    obtain ⟨-, rfl⟩ := h2
    rcases h2' with q | q <;> cases q
  | .inl (cA, N', .inr (.inl f)), ⟨h1, h2, h3⟩ =>
    simp only at h1
    subst h1
    simp [ab_tys] at h2
    exact ⟨f, by rw [h2]⟩
  | .inl (cA, N', .inr (.inr (.inr (.inr f)))), ⟨_, ⟨t, h2⟩, _⟩ => simp [ab_tys] at h2
  | .inl (cA, N', .inr (.inr (.inl f))), k => exact k.elim
  | .inl (cA, N', .inr (.inr (.inr (.inl f)))), k => exact k.elim
theorem ab_acok_ref {ρ : Nat → Value} {n : Nat} {ad : List Nat} {tS t0 N : Nat} {tys : List (ClassId × FieldType)} {ks : List Nat} {e : va_E} (h : ab_acok ρ n ad tS tys (t0, N, .inr (.inr (.inr (.inl ks)))) e) : ∃ cA t f, e = .inl (cA, N, .inr (.inr (.inr (.inr f)))) ∧ tys[t0]? = some (cA, .array t) ∧ ks.length = N ∧ ∀ i k, ks[i]? = some k → ∃ a, ad[k]? = some a ∧ f i = some a := by
  match e, h with
  | .inr (ci', fs), ⟨h1, h2, svs', h3, h4⟩ => cases h3
  | .inl (cA, N', .inl f), ⟨_, _, h3⟩ =>
    rcases h3 with ⟨U, q, -⟩ | ⟨i, q, -⟩ | ⟨i, q, -⟩ <;> cases q
  | .inl (cA, N', .inr (.inl f)), ⟨_, _, h3⟩ =>
    rcases h3 with ⟨U, q, -⟩ | ⟨i, q, -⟩ <;> cases q
  | .inl (cA, N', .inr (.inr (.inr (.inr f)))), ⟨h1, ⟨t, h2⟩, ks', h3, h4, h5⟩ =>
    simp only at h1
    cases h3
    subst h1
    exact ⟨cA, t, f, rfl, h2, h4, h5⟩
  | .inl (cA, N', .inr (.inr (.inl f))), k => exact k.elim
  | .inl (cA, N', .inr (.inr (.inr (.inl f)))), k => exact k.elim
def ab_slice {α : Type} (lo hi : Int) (l : List α) : List α := (l.drop lo.toNat).take (Nat.succ (Int.sub hi lo).toNat)
theorem ab_slice_in {α : Type} {lo hi : Int} {l : List α} {j : Nat} {a : α} (h1 : lo ≤ j) (h2 : (j : Int) ≤ hi) (h0 : 0 ≤ lo) (h : l[j]? = some a) : a ∈ ab_slice lo hi l := by
  unfold ab_slice
  rw [ab_subE]
  refine List.mem_of_getElem? (i := j - lo.toNat) ?_
  rw [List.getElem?_take, if_pos (by omega), List.getElem?_drop]
  rw [show lo.toNat + (j - lo.toNat) = j by omega]
  exact h
/-- without the same again -/
def ab_dd : List Int → List Int
  | [] => []
  | a :: r => match ab_dd r with
    | [] => [a]
    | b :: t => bif ab_le a b && ab_le b a then b :: t else a :: b :: t
theorem ab_dd_in {a : Int} : ∀ {l : List Int}, a ∈ l → a ∈ ab_dd l
  | [], h => by cases h
  | b :: r, h => by
    rw [ab_dd]
    rcases List.mem_cons.mp h with rfl | h
    · split
      · exact List.mem_cons_self
      · rename_i c t ht
        cases hb : (ab_le a c && ab_le c a) with
        | true =>
          rw [Bool.and_eq_true, ab_le_iff, ab_le_iff] at hb
          rw [show a = c by omega]
          exact List.mem_cons_self
        | false => exact List.mem_cons_self
    · have ih := ab_dd_in h
      split
      · rename_i ht
        rw [ht] at ih
        cases ih
      · rename_i c t ht
        rw [ht] at ih
        cases (ab_le b c && ab_le c b) with
        | true => exact ih
        | false => exact List.mem_cons_of_mem _ ih
/-- what a place of an array may hold: known numbers, or intervals -/
def ab_rd (lo hi : Int) (k : ab_AK) : Option (List (Nat ⊕ ab_Iv)) := match k with
  | .inl U => some (U.map .inr)
  | .inr (.inl ids) => some ((ab_slice lo hi ids).map .inl)
  | .inr (.inr (.inl cs)) => some ((ab_dd (ab_slice lo hi cs)).map (fun v => .inr (v, v)))
  | _ => none
def ab_rdS (lg : Bool) (n : Nat) (e : ab_En) (h : ab_AH) (L r : List ab_SV) (w : Nat ⊕ ab_Iv) : ab_St := match w with
  | .inl i => (n, e, h, L, some (.inl i) :: r)
  | .inr v => ab_push lg (v.1, v.2, n, .ofNat 0) n e h L r
theorem ab_rd_int {ρ : Nat → Value} {n : Nat} {ad : List Nat} {tS t0 N : Nat} {tys : List (ClassId × FieldType)} {K : ab_AK} {cA : ClassId} {f : Nat → Int32} (h : ab_acok ρ n ad tS tys (t0, N, K) (.inl (cA, N, .inl f))) {lo hi : Int} {j : Nat} (h0 : 0 ≤ lo) (h1 : lo ≤ j) (h2 : (j : Int) ≤ hi) (hj : j < N) {al : List (Nat ⊕ ab_Iv)} (hr : ab_rd lo hi K = some al) :
    ∃ w ∈ al, (∀ i, w = .inl i → i < n ∧ ρ i = .int (f j)) ∧ (∀ v : ab_Iv, w = .inr v → v.1 ≤ (f j).toInt ∧ (f j).toInt ≤ v.2) := by
  obtain ⟨-, -, h3⟩ := h
  rcases h3 with ⟨U, q, h4⟩ | ⟨ids, q, h4, h5⟩ | ⟨cs, q, h4, h5⟩
  · simp only at q; subst q
    simp only [ab_rd] at hr
    cases hr
    obtain ⟨v, hv, v1, v2⟩ := h4 j hj
    exact ⟨.inr v, List.mem_map.mpr ⟨v, hv, rfl⟩, fun i q => (by cases q), fun v' q => by cases q; exact ⟨v1, v2⟩⟩
  · simp only at q; subst q
    simp only [ab_rd] at hr
    cases hr
    obtain ⟨i, hi⟩ : ∃ i, ids[j]? = some i := ⟨ids[j]'(by omega), by simp⟩
    exact ⟨.inl i, List.mem_map.mpr ⟨i, ab_slice_in h1 h2 h0 hi, rfl⟩, fun i' q => by cases q; exact h5 j i hi, fun v' q => by cases q⟩
  · simp only at q; subst q
    simp only [ab_rd] at hr
    cases hr
    obtain ⟨i, hi⟩ : ∃ i, cs[j]? = some i := ⟨cs[j]'(by omega), by simp⟩
    have e1 := h5 j i hi
    exact ⟨.inr (i, i), List.mem_map.mpr ⟨i, ab_dd_in (ab_slice_in h1 h2 h0 hi), rfl⟩, fun i' q => (by cases q), fun v' q => by cases q; simp only; omega⟩
theorem ab_rd_long {ρ : Nat → Value} {n : Nat} {ad : List Nat} {tS t0 N : Nat} {tys : List (ClassId × FieldType)} {K : ab_AK} {cA : ClassId} {f : Nat → Int64} (h : ab_acok ρ n ad tS tys (t0, N, K) (.inl (cA, N, .inr (.inl f)))) {lo hi : Int} {j : Nat} (h0 : 0 ≤ lo) (h1 : lo ≤ j) (h2 : (j : Int) ≤ hi) (hj : j < N) {al : List (Nat ⊕ ab_Iv)} (hr : ab_rd lo hi K = some al) :
    ∃ w ∈ al, (∀ i, w = .inl i → i < n ∧ ρ i = .long (f j)) ∧ (∀ v : ab_Iv, w = .inr v → v.1 ≤ (f j).toInt ∧ (f j).toInt ≤ v.2) := by
  obtain ⟨-, -, h3⟩ := h
  rcases h3 with ⟨U, q, h4⟩ | ⟨ids, q, h4, h5⟩
  · simp only at q; subst q
    simp only [ab_rd] at hr
    cases hr
    obtain ⟨v, hv, v1, v2⟩ := h4 j hj
    exact ⟨.inr v, List.mem_map.mpr ⟨v, hv, rfl⟩, fun i q => (by cases q), fun v' q => by cases q; exact ⟨v1, v2⟩⟩
  · simp only at q; subst q
    simp only [ab_rd] at hr
    cases hr
    obtain ⟨i, hi⟩ : ∃ i, ids[j]? = some i := ⟨ids[j]'(by omega), by simp⟩
    exact ⟨.inl i, List.mem_map.mpr ⟨i, ab_slice_in h1 h2 h0 hi, rfl⟩, fun i' q => by cases q; exact h5 j i hi, fun v' q => by cases q⟩
/-- all of some options -/
def ab_seq {α β : Type} (f : α → Option (List β)) : List α → Option (List β)
  | [] => some []
  | a :: r => match f a, ab_seq f r with
    | some x, some y => some (x ++ y)
    | _, _ => none
theorem ab_seq_in {α β : Type} {f : α → Option (List β)} : ∀ {l : List α} {y : List β}, ab_seq f l = some y → ∀ {a : α}, a ∈ l → ∃ x, f a = some x ∧ ∀ b ∈ x, b ∈ y
  | [], y, h, a, ha => by cases ha
  | c :: r, y, h, a, ha => by
    simp only [ab_seq] at h
    split at h
    · rename_i x z hx hz
      cases h
      rcases List.mem_cons.mp ha with rfl | ha
      · exact ⟨x, hx, fun b hb => List.mem_append_left _ hb⟩
      · obtain ⟨x', h1, h2⟩ := ab_seq_in hz ha
        exact ⟨x', h1, fun b hb => List.mem_append_right _ (h2 b hb)⟩
    · cases h
/-- without the same interval again -/
def ab_iveq (a b : Nat ⊕ ab_Iv) : Bool := match a, b with
  | .inr v, .inr w => (ab_le v.1 w.1 && ab_le w.1 v.1) && (ab_le v.2 w.2 && ab_le w.2 v.2)
  | _, _ => false
theorem ab_iveq_eq {a b : Nat ⊕ ab_Iv} (h : ab_iveq a b = true) : a = b := by
  match a, b, h with
  | .inr (a1, a2), .inr (b1, b2), h =>
    simp only [ab_iveq, Bool.and_eq_true, ab_le_iff] at h
    obtain ⟨⟨h1, h2⟩, h3, h4⟩ := h
    rw [show a1 = b1 by omega, show a2 = b2 by omega]
def ab_dv : List (Nat ⊕ ab_Iv) → List (Nat ⊕ ab_Iv)
  | [] => []
  | a :: r => match ab_dv r with
    | [] => [a]
    | b :: t => bif ab_iveq a b then b :: t else a :: b :: t
theorem ab_dv_in {a : Nat ⊕ ab_Iv} : ∀ {l : List (Nat ⊕ ab_Iv)}, a ∈ l → a ∈ ab_dv l
  | [], h => by cases h
  | b :: r, h => by
    rw [ab_dv]
    rcases List.mem_cons.mp h with rfl | h
    · split
      · exact List.mem_cons_self
      · rename_i c t ht
        cases hb : ab_iveq a c with
        | true =>
          rw [ab_iveq_eq hb]
          exact List.mem_cons_self
        | false => exact List.mem_cons_self
    · have ih := ab_dv_in h
      split
      · rename_i ht
        rw [ht] at ih
        cases ih
      · rename_i c t ht
        rw [ht] at ih
        cases ab_iveq b c with
        | true => exact ih
        | false => exact List.mem_cons_of_mem _ ih
/-- an array load: t0 the array's type -/
def ab_ald (t0 : Nat) (lg : Bool) (st : ab_St) : Option (List ab_St) := match st with
  | (n, e, h, L, a :: some (.inr (.inl ks)) :: r) => (match ab_num e false a with
    | some x => (match ab_seq (fun k => match ab_hg h k with
      | some c => bif Nat.beq c.1 t0 && (ab_0le x.2.1 && ab_le (Int.add x.2.2.1 (.ofNat 1)) (.ofNat c.2.1)) then ab_rd x.2.1 x.2.2.1 c.2.2 else none
      | none => none) ks with
      | some al => some ((ab_dv al).map (ab_rdS lg n e h L r))
      | none => none)
    | none => none)
  | _ => none
/-- a load off the static row -/
def ab_aldS (cs : List Int) (st : ab_St) : Option (List ab_St) := match st with
  | (n, e, h, L, a :: some (.inr (.inr _)) :: r) => (match ab_num e false a with
    | some x => bif ab_0le x.2.1 && ab_le (Int.add x.2.2.1 (.ofNat 1)) (.ofNat cs.length) then some ((ab_slice x.2.1 x.2.2.1 cs).map (fun v => ab_push false (v, v, n, .ofNat 0) n e h L r)) else none
    | none => none)
  | _ => none
def ab_aald (st : ab_St) : Option ab_St := match st with
  | (n, e, h, L, a :: some (.inr (.inl [k])) :: r) => (match ab_num e false a, ab_hg h k with
    | some x, some (_, N, .inr (.inr (.inr (.inl ks)))) => bif ab_0le x.2.1 && ab_le (Int.add x.2.2.1 (.ofNat 1)) (.ofNat N) then some (n, e, h, L, some (.inr (.inl (ab_slice x.2.1 x.2.2.1 ks))) :: r) else none
    | _, _ => none)
  | _ => none
theorem ab_vpin {x : Int32} {N : Nat} (h1 : 0 ≤ x.toInt) (h2 : x.toInt < N) : vp_in x N := vp_in_iff.mpr ⟨h1, h2⟩
theorem ab_clamp {x : Int32} (h1 : 0 ≤ x.toInt) : ((x.toNatClampNeg : Nat) : Int) = x.toInt := by
  obtain ⟨j, e, h2, h3⟩ := ab_nI h1
  rw [e, nI_clamp h3, nI_toInt h3]
end
