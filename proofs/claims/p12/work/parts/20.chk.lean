noncomputable section
/-- a point of a method at which it is known what holds: pc, locals, stack, heap, of the arguments, a measure -/
abbrev ab_An : Type := Nat × List ab_TV × List ab_TV × ab_TH × List (Option ab_Iv) × List (Int × Int × Nat)
def ab_lt4 (y x : Nat × Nat × Nat × Nat) : Prop := y.1 < x.1 ∨ (y.1 = x.1 ∧ (y.2.1 < x.2.1 ∨ (y.2.1 = x.2.1 ∧ (y.2.2.1 < x.2.2.1 ∨ (y.2.2.1 = x.2.2.1 ∧ y.2.2.2 < x.2.2.2)))))
theorem ab_lex4 {P : Nat × Nat × Nat × Nat → Prop} (h : ∀ x, (∀ y, ab_lt4 y x → P y) → P x) : ∀ x, P x := by
  have h1 : ∀ a b c d, P (a, b, c, d) := by
    intro a
    induction a using Nat.strongRecOn with
    | _ a iha =>
      intro b
      induction b using Nat.strongRecOn with
      | _ b ihb =>
        intro c
        induction c using Nat.strongRecOn with
        | _ c ihc =>
          intro d
          induction d using Nat.strongRecOn with
          | _ d ihd =>
            refine h _ (fun y hy => ?_)
            obtain ⟨y1, y2, y3, y4⟩ := y
            rcases hy with q | ⟨q, q2 | ⟨q2, q3 | ⟨q3, q4⟩⟩⟩
            · exact iha _ q _ _ _
            · simp only at q; subst q; exact ihb _ q2 _ _
            · simp only at q q2; subst q; subst q2; exact ihc _ q3 _
            · simp only at q q2 q3; subst q; subst q2; subst q3; exact ihd _ q4
  exact fun x => h1 x.1 x.2.1 x.2.2.1 x.2.2.2
def ab_lval (ls : Array Slot) (j : Nat) : Int := match ls[j]? with
  | some (Slot.val (.int x)) => x.toInt
  | _ => 0
def ab_mv (ls : Array Slot) (q : Int × Int × Nat) : Nat := (q.1 + q.2.1 * ab_lval ls q.2.2).toNat
def ab_mz : Int × Int × Nat := (.ofNat 0, .ofNat 0, 0)
def ab_mu (ls : Array Slot) (m : List (Int × Int × Nat)) : Nat × Nat × Nat × Nat := (ab_mv ls (m.getD 0 ab_mz), ab_mv ls (m.getD 1 ab_mz), ab_mv ls (m.getD 2 ab_mz), ab_mv ls (m.getD 3 ab_mz))
/-- a local's number -/
def ab_lid (e : ab_En) (L : List ab_SV) (j : Nat) : Option (Nat × ab_Q) := match L[j]? with
  | some v => ab_num e false v
  | none => none
def ab_isz (a : Int) : Bool := ab_le a (.ofNat 0) && ab_0le a
/-- the new part (q', at the state e', L') against the old one (q, at e, L): 0 less, 1 the same, 2 neither -/
def ab_cmp (e : ab_En) (L : List ab_SV) (q : Int × Int × Nat) (e' : ab_En) (L' : List ab_SV) (q' : Int × Int × Nat) : Nat :=
  bif ab_isz q.2.1 && ab_isz q'.2.1 then (bif ab_0le q'.1 && ab_le (Int.add q'.1 (.ofNat 1)) q.1 then 0 else bif ab_le q'.1 q.1 && ab_le q.1 q'.1 then 1 else 2)
  else bif ab_le q.2.1 q'.2.1 && ab_le q'.2.1 q.2.1 then (match ab_lid e L q.2.2, ab_lid e' L' q'.2.2 with
    | some x, some y => bif Nat.beq y.2.2.2.1 x.1 then
        (bif ab_le (Int.add (Int.sub q'.1 q.1) (Int.mul q.2.1 y.2.2.2.2)) (.negSucc 0) && (ab_0le (Int.add q'.1 (Int.mul q'.2.1 y.2.1)) && ab_0le (Int.add q'.1 (Int.mul q'.2.1 y.2.2.1))) then 0
         else bif ab_isz (Int.add (Int.sub q'.1 q.1) (Int.mul q.2.1 y.2.2.2.2)) then 1 else 2) else 2
    | _, _ => 2)
  else 2
def ab_dec4 (a b c d : Nat) : Bool := Nat.beq a 0 || (Nat.beq a 1 && (Nat.beq b 0 || (Nat.beq b 1 && (Nat.beq c 0 || (Nat.beq c 1 && Nat.beq d 0)))))
def ab_dec (e : ab_En) (L : List ab_SV) (m : List (Int × Int × Nat)) (e' : ab_En) (L' : List ab_SV) (m' : List (Int × Int × Nat)) : Bool :=
  ab_dec4 (ab_cmp e L (m.getD 0 ab_mz) e' L' (m'.getD 0 ab_mz)) (ab_cmp e L (m.getD 1 ab_mz) e' L' (m'.getD 1 ab_mz)) (ab_cmp e L (m.getD 2 ab_mz) e' L' (m'.getD 2 ab_mz)) (ab_cmp e L (m.getD 3 ab_mz) e' L' (m'.getD 3 ab_mz))
theorem ab_isz_iff {a : Int} : ab_isz a = true ↔ a = 0 := by
  unfold ab_isz ab_0le
  rw [Bool.and_eq_true, ab_le_iff, ab_le_iff, ab_of0]
  omega
theorem ab_lid_ok {ρ : Nat → Value} {n : Nat} {ad : List Nat} {tS nL j : Nat} {e : ab_En} {L : List ab_SV} {ls : Array Slot} {x : Nat × ab_Q} (he : ab_env ρ n e) (hl : ab_loc ρ n ad tS nL L ls) (h : ab_lid e L j = some x) : ∃ y : Int32, ab_lval ls j = y.toInt ∧ ρ x.1 = .int y ∧ x.1 < n ∧ ab_inQ ρ n y x.2 := by
  unfold ab_lid at h
  split at h
  · rename_i v hv
    obtain ⟨h1, h2⟩ := ab_num_spec h
    subst h1
    obtain ⟨z, h3, h4⟩ := hl.2.2.2 j _ hv
    obtain ⟨y, rfl, h5, h6, h7⟩ := ab_inQ_of he h h4
    exact ⟨y, by unfold ab_lval; rw [h3], h5, h6, h7⟩
  · cases h
theorem ab_lin {s lo hi x c : Int} (h1 : lo ≤ x) (h2 : x ≤ hi) (h3 : 0 ≤ c + s * lo) (h4 : 0 ≤ c + s * hi) : 0 ≤ c + s * x := by
  rcases Int.le_total 0 s with q | q
  · have := Int.mul_le_mul_of_nonneg_left h1 q
    omega
  · have := Int.mul_le_mul_of_nonpos_left q h2
    omega
theorem ab_cmp_ok {ρ ρ' : Nat → Value} {n n' : Nat} {ad ad' : List Nat} {tS nL : Nat} {e e' : ab_En} {L L' : List ab_SV} {ls ls' : Array Slot} {q q' : Int × Int × Nat} (he : ab_env ρ n e) (hl : ab_loc ρ n ad tS nL L ls) (he' : ab_env ρ' n' e') (hl' : ab_loc ρ' n' ad' tS nL L' ls') (hx : ab_ext ρ ρ' n n') :
    (ab_cmp e L q e' L' q' = 0 → ab_mv ls' q' < ab_mv ls q) ∧ (ab_cmp e L q e' L' q' = 1 → ab_mv ls' q' = ab_mv ls q) := by
  unfold ab_cmp ab_mv
  cases h1 : (ab_isz q.2.1 && ab_isz q'.2.1) with
  | true =>
    rw [Bool.and_eq_true, ab_isz_iff, ab_isz_iff] at h1
    rw [h1.1, h1.2]
    simp only [cond_true, ab_addE, ab_of1, Int.zero_mul, Int.add_zero]
    cases h2 : (ab_0le q'.1 && ab_le (q'.1 + 1) q.1) with
    | true =>
      unfold ab_0le at h2
      rw [Bool.and_eq_true, ab_le_iff, ab_le_iff, ab_of0] at h2
      exact ⟨fun _ => by omega, fun z => by simp at z⟩
    | false =>
      cases h3 : (ab_le q'.1 q.1 && ab_le q.1 q'.1) with
      | true =>
        rw [Bool.and_eq_true, ab_le_iff, ab_le_iff] at h3
        exact ⟨fun z => by simp at z, fun _ => by rw [show q'.1 = q.1 by omega]⟩
      | false => exact ⟨fun z => by simp at z, fun z => by simp at z⟩
  | false =>
    simp only [cond_false]
    cases h2 : (ab_le q.2.1 q'.2.1 && ab_le q'.2.1 q.2.1) with
    | false => exact ⟨fun z => by simp at z, fun z => by simp at z⟩
    | true =>
      rw [Bool.and_eq_true, ab_le_iff, ab_le_iff] at h2
      have es : q'.2.1 = q.2.1 := by omega
      simp only [cond_true]
      split
      · rename_i x y hxl hyl
        obtain ⟨x1, a1, a2, a3, a4⟩ := ab_lid_ok he hl hxl
        obtain ⟨y1, b1, b2, b3, b4⟩ := ab_lid_ok he' hl' hyl
        cases h3 : Nat.beq y.2.2.2.1 x.1 with
        | false => exact ⟨fun z => by simp at z, fun z => by simp at z⟩
        | true =>
          have e1 : y.2.2.2.1 = x.1 := Nat.eq_of_beq_eq_true h3
          obtain ⟨c1, c2, c3, z, c4, c5⟩ := b4
          rw [e1, hx.2 _ a3, a2] at c4
          cases c4
          rw [a1, b1, c5, es]
          simp only [cond_true, ab_addE, ab_subE, ab_mulE]
          have key : q.2.1 * (x1.toInt + y.2.2.2.2) = q.2.1 * x1.toInt + q.2.1 * y.2.2.2.2 := Int.mul_add _ _ _
          cases h4 : (ab_le (q'.1 - q.1 + q.2.1 * y.2.2.2.2) (.negSucc 0) && (ab_0le (q'.1 + q.2.1 * y.2.1) && ab_0le (q'.1 + q.2.1 * y.2.2.1))) with
          | true =>
            have h5 := h4
            unfold ab_0le at h5
            rw [Bool.and_eq_true, Bool.and_eq_true, ab_le_iff, ab_le_iff, ab_le_iff, ab_of0] at h5
            have em1 : Int.negSucc 0 = -1 := rfl
            rw [em1] at h5
            have hpos := ab_lin (s := q.2.1) (c := q'.1) c1 c2 h5.2.1 h5.2.2
            rw [c5, key] at hpos
            refine ⟨fun _ => ?_, fun z => by simp at z⟩
            rw [key]
            omega
          | false =>
            simp only [cond_false]
            cases h5 : ab_isz (q'.1 - q.1 + q.2.1 * y.2.2.2.2) with
            | true =>
              rw [ab_isz_iff] at h5
              refine ⟨fun z => by simp at z, fun _ => ?_⟩
              rw [key]
              congr 1
              omega
            | false => exact ⟨fun z => by simp at z, fun z => by simp at z⟩
      · exact ⟨fun z => by simp at z, fun z => by simp at z⟩
theorem ab_dec_ok {ρ ρ' : Nat → Value} {n n' : Nat} {ad ad' : List Nat} {tS nL : Nat} {e e' : ab_En} {L L' : List ab_SV} {ls ls' : Array Slot} {m m' : List (Int × Int × Nat)} (he : ab_env ρ n e) (hl : ab_loc ρ n ad tS nL L ls) (he' : ab_env ρ' n' e') (hl' : ab_loc ρ' n' ad' tS nL L' ls') (hx : ab_ext ρ ρ' n n') (h : ab_dec e L m e' L' m' = true) : ab_lt4 (ab_mu ls' m') (ab_mu ls m) := by
  unfold ab_dec ab_dec4 at h
  have c0 := ab_cmp_ok (q := m.getD 0 ab_mz) (q' := m'.getD 0 ab_mz) he hl he' hl' hx
  have c1 := ab_cmp_ok (q := m.getD 1 ab_mz) (q' := m'.getD 1 ab_mz) he hl he' hl' hx
  have c2 := ab_cmp_ok (q := m.getD 2 ab_mz) (q' := m'.getD 2 ab_mz) he hl he' hl' hx
  have c3 := ab_cmp_ok (q := m.getD 3 ab_mz) (q' := m'.getD 3 ab_mz) he hl he' hl' hx
  simp only [Bool.or_eq_true, Bool.and_eq_true] at h
  rcases h with h | ⟨h, h2 | ⟨h2, h3 | ⟨h3, h4⟩⟩⟩
  · exact Or.inl (c0.1 (Nat.eq_of_beq_eq_true h))
  · exact Or.inr ⟨c0.2 (Nat.eq_of_beq_eq_true h), Or.inl (c1.1 (Nat.eq_of_beq_eq_true h2))⟩
  · exact Or.inr ⟨c0.2 (Nat.eq_of_beq_eq_true h), Or.inr ⟨c1.2 (Nat.eq_of_beq_eq_true h2), Or.inl (c2.1 (Nat.eq_of_beq_eq_true h3))⟩⟩
  · exact Or.inr ⟨c0.2 (Nat.eq_of_beq_eq_true h), Or.inr ⟨c1.2 (Nat.eq_of_beq_eq_true h2), Or.inr ⟨c2.2 (Nat.eq_of_beq_eq_true h3), c3.1 (Nat.eq_of_beq_eq_true h4)⟩⟩⟩
end
