noncomputable section
theorem ab_addE (a b : Int) : Int.add a b = a + b := rfl
theorem ab_subE (a b : Int) : Int.sub a b = a - b := rfl
theorem ab_mulE (a b : Int) : Int.mul a b = a * b := rfl
theorem ab_negE (a : Int) : Int.neg a = -a := rfl
theorem ab_of0 : Int.ofNat 0 = 0 := rfl
theorem ab_of1 : Int.ofNat 1 = 1 := rfl
theorem ab_bm {t : Int} (h1 : -2147483648 ≤ t) (h2 : t ≤ 2147483647) : t.bmod (2 ^ 32) = t := by
  rw [Int.bmod_def]
  have h3 : ((2 : Nat) ^ 32 : Nat) = 4294967296 := by decide
  rw [h3]
  omega
theorem ab_bm64 {t : Int} (h1 : -9223372036854775808 ≤ t) (h2 : t ≤ 9223372036854775807) : t.bmod (2 ^ 64) = t := by
  rw [Int.bmod_def]
  have h3 : ((2 : Nat) ^ 64 : Nat) = 18446744073709551616 := by decide
  rw [h3]
  omega
theorem ab_lo32 (x : Int32) : -2147483648 ≤ x.toInt := by
  have := Int32.le_toInt x
  have h : -(2:Int) ^ 31 = -2147483648 := by decide
  omega
theorem ab_hi32 (x : Int32) : x.toInt ≤ 2147483647 := by
  have := Int32.toInt_lt x
  have h : (2:Int) ^ 31 = 2147483648 := by decide
  omega
theorem ab_lo64 (x : Int64) : -9223372036854775808 ≤ x.toInt := by
  have := Int64.le_toInt x
  have h : -(2:Int) ^ 63 = -9223372036854775808 := by decide
  omega
theorem ab_hi64 (x : Int64) : x.toInt ≤ 9223372036854775807 := by
  have := Int64.toInt_lt x
  have h : (2:Int) ^ 63 = 9223372036854775808 := by decide
  omega
def ab_okQ (ρ : Nat → Value) (n : Nat) (r : Int32) (q : ab_Q) : Prop := q.1 ≤ r.toInt ∧ r.toInt ≤ q.2.1 ∧ ((q.2.2.1 = n ∧ q.2.2.2 = 0) ∨ (q.2.2.1 < n ∧ ∃ z : Int32, ρ q.2.2.1 = .int z ∧ r.toInt = z.toInt + q.2.2.2))
def ab_inQ (ρ : Nat → Value) (n : Nat) (x : Int32) (q : ab_Q) : Prop := q.1 ≤ x.toInt ∧ x.toInt ≤ q.2.1 ∧ q.2.2.1 < n ∧ ∃ z : Int32, ρ q.2.2.1 = .int z ∧ x.toInt = z.toInt + q.2.2.2
def ab_full (n : Nat) : ab_Q := (ab_m31, ab_p31, n, .ofNat 0)
theorem ab_full_ok {ρ : Nat → Value} {n : Nat} {r : Int32} : ab_okQ ρ n r (ab_full n) := ⟨ab_lo32 r, ab_hi32 r, Or.inl ⟨rfl, rfl⟩⟩
/-- an interval of its own, if it is one of ints -/
def ab_own (n : Nat) (lo hi : Int) : ab_Q := bif ab_i32 lo hi then (lo, hi, n, .ofNat 0) else ab_full n
theorem ab_own_ok {ρ : Nat → Value} {n : Nat} {r : Int32} {lo hi : Int} (h : -2147483648 ≤ lo → hi ≤ 2147483647 → lo ≤ r.toInt ∧ r.toInt ≤ hi) : ab_okQ ρ n r (ab_own n lo hi) := by
  unfold ab_own
  cases hc : ab_i32 lo hi with
  | true =>
    rw [ab_i32_iff] at hc
    obtain ⟨h1, h2⟩ := h hc.1 hc.2
    exact ⟨h1, h2, Or.inl ⟨rfl, rfl⟩⟩
  | false => exact ab_full_ok
def ab_addQ (n : Nat) (x y : ab_Q) : Option ab_Q := some (bif ab_i32 (Int.add x.1 y.1) (Int.add x.2.1 y.2.1) then
    (bif ab_le y.2.1 y.1 then (Int.add x.1 y.1, Int.add x.2.1 y.2.1, x.2.2.1, Int.add x.2.2.2 y.1)
    else bif ab_le x.2.1 x.1 then (Int.add x.1 y.1, Int.add x.2.1 y.2.1, y.2.2.1, Int.add y.2.2.2 x.1) else (Int.add x.1 y.1, Int.add x.2.1 y.2.1, n, .ofNat 0)) else ab_full n)
theorem ab_addQ_ok {ρ : Nat → Value} {n : Nat} {x y : Int32} {a b q : ab_Q} (hx : ab_inQ ρ n x a) (hy : ab_inQ ρ n y b) (h : ab_addQ n a b = some q) : ab_okQ ρ n (x + y) q := by
  unfold ab_addQ at h
  cases h
  simp only [ab_addE]
  cases hc : ab_i32 (a.1 + b.1) (a.2.1 + b.2.1) with
  | false => exact ab_full_ok
  | true =>
    rw [ab_i32_iff] at hc
    obtain ⟨x1, x2, x3, zx, x4, x5⟩ := hx
    obtain ⟨y1, y2, y3, zy, y4, y5⟩ := hy
    have e : (x + y).toInt = x.toInt + y.toInt := by rw [Int32.toInt_add]; exact ab_bm (by omega) (by omega)
    cases h1 : ab_le b.2.1 b.1 with
    | true =>
      rw [ab_le_iff] at h1
      exact ⟨by simp only [cond_true]; omega, by simp only [cond_true]; omega, Or.inr ⟨x3, zx, x4, by simp only [cond_true]; omega⟩⟩
    | false =>
      cases h2 : ab_le a.2.1 a.1 with
      | true =>
        rw [ab_le_iff] at h2
        exact ⟨by simp only [cond_true, cond_false]; omega, by simp only [cond_true, cond_false]; omega, Or.inr ⟨y3, zy, y4, by simp only [cond_true, cond_false]; omega⟩⟩
      | false => exact ⟨by simp only [cond_true, cond_false]; omega, by simp only [cond_true, cond_false]; omega, Or.inl ⟨rfl, rfl⟩⟩
def ab_subQ (n : Nat) (x y : ab_Q) : Option ab_Q := some (bif ab_i32 (Int.sub x.1 y.2.1) (Int.sub x.2.1 y.1) then
    (bif ab_le y.2.1 y.1 then (Int.sub x.1 y.2.1, Int.sub x.2.1 y.1, x.2.2.1, Int.sub x.2.2.2 y.1)
    else (Int.sub x.1 y.2.1, Int.sub x.2.1 y.1, n, .ofNat 0)) else ab_full n)
theorem ab_subQ_ok {ρ : Nat → Value} {n : Nat} {x y : Int32} {a b q : ab_Q} (hx : ab_inQ ρ n x a) (hy : ab_inQ ρ n y b) (h : ab_subQ n a b = some q) : ab_okQ ρ n (x - y) q := by
  unfold ab_subQ at h
  cases h
  simp only [ab_subE]
  cases hc : ab_i32 (a.1 - b.2.1) (a.2.1 - b.1) with
  | false => exact ab_full_ok
  | true =>
    rw [ab_i32_iff] at hc
    obtain ⟨x1, x2, x3, zx, x4, x5⟩ := hx
    obtain ⟨y1, y2, y3, zy, y4, y5⟩ := hy
    have e : (x - y).toInt = x.toInt - y.toInt := by rw [Int32.toInt_sub]; exact ab_bm (by omega) (by omega)
    cases h1 : ab_le b.2.1 b.1 with
    | true =>
      rw [ab_le_iff] at h1
      exact ⟨by simp only [cond_true]; omega, by simp only [cond_true]; omega, Or.inr ⟨x3, zx, x4, by simp only [cond_true]; omega⟩⟩
    | false => exact ⟨by simp only [cond_true, cond_false]; omega, by simp only [cond_true, cond_false]; omega, Or.inl ⟨rfl, rfl⟩⟩
def ab_0le (a : Int) : Bool := ab_le (.ofNat 0) a
def ab_1le (a : Int) : Bool := ab_le (.ofNat 1) a
/-- bounds of a product -/
def ab_mulB (a b c d : Int) : Option ab_Iv :=
  bif ab_0le a && ab_0le c then some (Int.mul a c, Int.mul b d)
  else bif ab_le d c then (bif ab_0le c then some (Int.mul a c, Int.mul b c) else some (Int.mul b c, Int.mul a c))
  else bif ab_le b a then (bif ab_0le a then some (Int.mul c a, Int.mul d a) else some (Int.mul d a, Int.mul c a))
  else none
theorem ab_mulB_ok {a b c d x y : Int} {v : ab_Iv} (h1 : a ≤ x) (h2 : x ≤ b) (h3 : c ≤ y) (h4 : y ≤ d) (h : ab_mulB a b c d = some v) : v.1 ≤ x * y ∧ x * y ≤ v.2 := by
  unfold ab_mulB at h
  simp only [ab_mulE] at h
  cases k1 : (ab_0le a && ab_0le c) with
  | true =>
    rw [k1] at h
    simp only [cond_true] at h
    cases h
    unfold ab_0le at k1
    rw [Bool.and_eq_true, ab_le_iff, ab_le_iff, ab_of0] at k1
    exact ⟨Int.mul_le_mul h1 h3 k1.2 (by omega), Int.mul_le_mul h2 h4 (by omega) (by omega)⟩
  | false =>
    rw [k1] at h
    simp only [cond_false] at h
    cases k2 : ab_le d c with
    | true =>
      rw [k2] at h
      simp only [cond_true] at h
      rw [ab_le_iff] at k2
      have e : y = c := by omega
      subst e
      cases k3 : ab_0le y with
      | true =>
        rw [k3] at h
        simp only [cond_true] at h
        unfold ab_0le at k3
        rw [ab_le_iff, ab_of0] at k3
        cases h
        exact ⟨Int.mul_le_mul_of_nonneg_right h1 k3, Int.mul_le_mul_of_nonneg_right h2 k3⟩
      | false =>
        rw [k3] at h
        simp only [cond_false] at h
        unfold ab_0le at k3
        rw [ab_le_f, ab_of0] at k3
        cases h
        exact ⟨Int.mul_le_mul_of_nonpos_right h2 (by omega), Int.mul_le_mul_of_nonpos_right h1 (by omega)⟩
    | false =>
      rw [k2] at h
      simp only [cond_false] at h
      cases k4 : ab_le b a with
      | false => rw [k4] at h; simp at h
      | true =>
        rw [k4] at h
        simp only [cond_true] at h
        rw [ab_le_iff] at k4
        have e : x = a := by omega
        subst e
        cases k3 : ab_0le x with
        | true =>
          rw [k3] at h
          simp only [cond_true] at h
          unfold ab_0le at k3
          rw [ab_le_iff, ab_of0] at k3
          cases h
          rw [Int.mul_comm x y]
          exact ⟨Int.mul_le_mul_of_nonneg_right h3 k3, Int.mul_le_mul_of_nonneg_right h4 k3⟩
        | false =>
          rw [k3] at h
          simp only [cond_false] at h
          unfold ab_0le at k3
          rw [ab_le_f, ab_of0] at k3
          cases h
          rw [Int.mul_comm x y]
          exact ⟨Int.mul_le_mul_of_nonpos_right h4 (by omega), Int.mul_le_mul_of_nonpos_right h3 (by omega)⟩
def ab_mulQ (n : Nat) (x y : ab_Q) : Option ab_Q := some (match ab_mulB x.1 x.2.1 y.1 y.2.1 with
  | some v => ab_own n v.1 v.2
  | none => ab_full n)
theorem ab_mulQ_ok {ρ : Nat → Value} {n : Nat} {x y : Int32} {a b q : ab_Q} (hx : ab_inQ ρ n x a) (hy : ab_inQ ρ n y b) (h : ab_mulQ n a b = some q) : ab_okQ ρ n (x * y) q := by
  unfold ab_mulQ at h
  cases h
  split
  · rename_i v hv
    have h2 := ab_mulB_ok hx.1 hx.2.1 hy.1 hy.2.1 hv
    refine ab_own_ok (fun l1 l2 => ?_)
    have e : (x * y).toInt = x.toInt * y.toInt := by rw [Int32.toInt_mul]; exact ab_bm (by omega) (by omega)
    rw [e]
    exact h2
  · exact ab_full_ok
def ab_negQ (n : Nat) (x : ab_Q) : ab_Q := ab_own n (Int.neg x.2.1) (Int.neg x.1)
theorem ab_negQ_ok {ρ : Nat → Value} {n : Nat} {x : Int32} {a : ab_Q} (hx : ab_inQ ρ n x a) : ab_okQ ρ n (-x) (ab_negQ n a) := by
  unfold ab_negQ
  simp only [ab_negE]
  refine ab_own_ok (fun l1 l2 => ?_)
  obtain ⟨x1, x2, -⟩ := hx
  have e : (-x).toInt = -x.toInt := by rw [Int32.toInt_neg]; exact ab_bm (by omega) (by omega)
  omega
theorem ab_div_toInt {x y : Int32} (h : 1 ≤ y.toInt) : (x / y).toInt = x.toInt.tdiv y.toInt := by
  rw [Int32.toInt_div]
  have l1 := ab_lo32 x
  have l2 := ab_hi32 x
  apply ab_bm
  · rcases Int.le_total 0 x.toInt with k | k
    · have := Int.tdiv_nonneg k (show 0 ≤ y.toInt by omega); omega
    · have e : x.toInt.tdiv y.toInt = -((-x.toInt).tdiv y.toInt) := by rw [Int.neg_tdiv, Int.neg_neg]
      have := Int.tdiv_le_self (b := y.toInt) (show 0 ≤ -x.toInt by omega); omega
  · rcases Int.le_total 0 x.toInt with k | k
    · have := Int.tdiv_le_self (b := y.toInt) k; omega
    · have e : x.toInt.tdiv y.toInt = -((-x.toInt).tdiv y.toInt) := by rw [Int.neg_tdiv, Int.neg_neg]
      have := Int.tdiv_nonneg (show 0 ≤ -x.toInt by omega) (show 0 ≤ y.toInt by omega); omega
def ab_divB (x y : ab_Q) : Option ab_Iv := bif ab_1le y.1 then
    (bif ab_le y.2.1 y.1 then some (Int.tdiv x.1 y.1, Int.tdiv x.2.1 y.1) else some (ab_min x.1 (.ofNat 0), ab_max x.2.1 (.ofNat 0)))
  else bif ab_le y.2.1 (.negSucc 0) then some (ab_m31, ab_p31) else none
theorem ab_tdiv_mono {a b c : Int} (hc : 1 ≤ c) (h : a ≤ b) : a.tdiv c ≤ b.tdiv c := Int.tdiv_le_tdiv (by omega) h
def ab_divQ (n : Nat) (x y : ab_Q) : Option ab_Q := match ab_divB x y with
  | some v => some (ab_own n v.1 v.2)
  | none => none
theorem ab_divQ_ok {ρ : Nat → Value} {n : Nat} {x y : Int32} {a b q : ab_Q} (hx : ab_inQ ρ n x a) (hy : ab_inQ ρ n y b) (h : ab_divQ n a b = some q) : ¬ y = 0 ∧ ab_okQ ρ n (x / y) q := by
  unfold ab_divQ at h
  split at h
  · rename_i v hv
    cases h
    obtain ⟨x1, x2, -⟩ := hx
    obtain ⟨y1, y2, -⟩ := hy
    unfold ab_divB at hv
    cases k1 : ab_1le b.1 with
    | true =>
      rw [k1] at hv
      simp only [cond_true] at hv
      unfold ab_1le at k1
      rw [ab_le_iff, ab_of1] at k1
      have hy1 : 1 ≤ y.toInt := by omega
      refine ⟨fun e => by rw [e] at hy1; simp at hy1, ab_own_ok (fun l1 l2 => ?_)⟩
      rw [ab_div_toInt hy1]
      cases k2 : ab_le b.2.1 b.1 with
      | true =>
        rw [k2] at hv
        simp only [cond_true] at hv
        cases hv
        rw [ab_le_iff] at k2
        have e : y.toInt = b.1 := by omega
        rw [e]
        exact ⟨ab_tdiv_mono k1 x1, ab_tdiv_mono k1 x2⟩
      | false =>
        rw [k2] at hv
        simp only [cond_false] at hv
        cases hv
        rw [ab_min_eq, ab_max_eq, ab_of0]
        rcases Int.le_total 0 x.toInt with k | k
        · have h1 := Int.tdiv_nonneg k (show 0 ≤ y.toInt by omega)
          have h2 := Int.tdiv_le_self (b := y.toInt) k
          constructor
          · show min a.1 0 ≤ _; omega
          · show _ ≤ max a.2.1 0; omega
        · have e : x.toInt.tdiv y.toInt = -((-x.toInt).tdiv y.toInt) := by rw [Int.neg_tdiv, Int.neg_neg]
          have h1 := Int.tdiv_nonneg (show 0 ≤ -x.toInt by omega) (show 0 ≤ y.toInt by omega)
          have h2 := Int.tdiv_le_self (b := y.toInt) (show 0 ≤ -x.toInt by omega)
          constructor
          · show min a.1 0 ≤ _; omega
          · show _ ≤ max a.2.1 0; omega
    | false =>
      rw [k1] at hv
      simp only [cond_false] at hv
      cases k2 : ab_le b.2.1 (.negSucc 0) with
      | false => rw [k2] at hv; simp at hv
      | true =>
        rw [k2] at hv
        simp only [cond_true] at hv
        cases hv
        rw [ab_le_iff] at k2
        have e1 : Int.negSucc 0 = -1 := rfl
        rw [e1] at k2
        refine ⟨fun e => by rw [e] at y2; simp at y2; omega, ab_own_ok (fun l1 l2 => ⟨ab_lo32 _, ab_hi32 _⟩)⟩
  · cases h
def ab_remB (x y : ab_Q) : Option ab_Iv := bif ab_1le y.1 then
    (bif ab_0le x.1 then
      (bif ab_le (Int.add x.2.1 (.ofNat 1)) y.1 then some (x.1, x.2.1)
       else bif ab_le y.2.1 y.1 && ab_le x.2.1 x.1 then some (Int.tmod x.1 y.1, Int.tmod x.1 y.1)
       else some (.ofNat 0, ab_min x.2.1 (Int.sub y.2.1 (.ofNat 1))))
     else some (Int.sub (.ofNat 1) y.2.1, Int.sub y.2.1 (.ofNat 1)))
  else bif ab_le y.2.1 (.negSucc 0) then some (ab_m31, ab_p31) else none
def ab_remQ (n : Nat) (x y : ab_Q) : Option ab_Q := match ab_remB x y with
  | some v => some (ab_own n v.1 v.2)
  | none => none
theorem ab_remQ_ok {ρ : Nat → Value} {n : Nat} {x y : Int32} {a b q : ab_Q} (hx : ab_inQ ρ n x a) (hy : ab_inQ ρ n y b) (h : ab_remQ n a b = some q) : ¬ y = 0 ∧ ab_okQ ρ n (x - x / y * y) q := by
  unfold ab_remQ at h
  split at h
  · rename_i v hv
    cases h
    obtain ⟨x1, x2, -⟩ := hx
    obtain ⟨y1, y2, -⟩ := hy
    unfold ab_remB at hv
    simp only [ab_addE, ab_subE, ab_of1, ab_of0] at hv
    cases k1 : ab_1le b.1 with
    | true =>
      rw [k1] at hv
      simp only [cond_true] at hv
      unfold ab_1le at k1
      rw [ab_le_iff, ab_of1] at k1
      have hy1 : 1 ≤ y.toInt := by omega
      refine ⟨fun e => by rw [e] at hy1; simp at hy1, ab_own_ok (fun l1 l2 => ?_)⟩
      rw [rem_toInt]
      obtain ⟨t1, t2⟩ := tmod_bounds (a := x.toInt) (show 0 < y.toInt by omega)
      cases k2 : ab_0le a.1 with
      | true =>
        rw [k2] at hv
        simp only [cond_true] at hv
        unfold ab_0le at k2
        rw [ab_le_iff, ab_of0] at k2
        have hx0 : 0 ≤ x.toInt := by omega
        have t3 := Int.tmod_nonneg y.toInt hx0
        have t4 : x.toInt.tmod y.toInt ≤ x.toInt := by
          rw [Int.tmod_eq_emod_of_nonneg hx0]
          rw [Int.emod_def]
          have h1 := Int.mul_nonneg (show 0 ≤ y.toInt by omega) (Int.ediv_nonneg hx0 (show 0 ≤ y.toInt by omega))
          omega
        cases k3 : ab_le (a.2.1 + 1) b.1 with
        | true =>
          rw [k3] at hv
          simp only [cond_true] at hv
          cases hv
          rw [ab_le_iff] at k3
          rw [Int.tmod_eq_of_lt hx0 (by omega)]
          exact ⟨x1, x2⟩
        | false =>
          rw [k3] at hv
          simp only [cond_false] at hv
          cases k4 : (ab_le b.2.1 b.1 && ab_le a.2.1 a.1) with
          | true =>
            rw [k4] at hv
            simp only [cond_true] at hv
            cases hv
            rw [Bool.and_eq_true, ab_le_iff, ab_le_iff] at k4
            have e1 : y.toInt = b.1 := by omega
            have e2 : x.toInt = a.1 := by omega
            rw [e1, e2]
            exact ⟨Int.le_refl _, Int.le_refl _⟩
          | false =>
            rw [k4] at hv
            simp only [cond_false] at hv
            cases hv
            rw [ab_min_eq]
            constructor
            · exact t3
            · show _ ≤ min a.2.1 (b.2.1 - 1); omega
      | false =>
        rw [k2] at hv
        simp only [cond_false] at hv
        cases hv
        constructor
        · show 1 - b.2.1 ≤ _; omega
        · show _ ≤ b.2.1 - 1; omega
    | false =>
      rw [k1] at hv
      simp only [cond_false] at hv
      cases k2 : ab_le b.2.1 (.negSucc 0) with
      | false => rw [k2] at hv; simp at hv
      | true =>
        rw [k2] at hv
        simp only [cond_true] at hv
        cases hv
        rw [ab_le_iff] at k2
        have e1 : Int.negSucc 0 = -1 := rfl
        rw [e1] at k2
        refine ⟨fun e => by rw [e] at y2; simp at y2; omega, ab_own_ok (fun l1 l2 => ⟨ab_lo32 _, ab_hi32 _⟩)⟩
  · cases h
theorem ab_nI {x : Int32} (h : 0 ≤ x.toInt) : ∃ j : Nat, x = nI j ∧ x.toInt = j ∧ j < 2 ^ 31 := by
  have h2 := ab_hi32 x
  refine ⟨x.toInt.toNat, ?_, by omega, by omega⟩
  have h3 : (nI x.toInt.toNat).toInt = x.toInt := by rw [nI_toInt (by omega)]; omega
  exact (Int32.toInt_inj.mp h3).symm
theorem ab_and_l {x y : Int32} (h : 0 ≤ y.toInt) : 0 ≤ (x &&& y).toInt ∧ (x &&& y).toInt ≤ y.toInt := by
  obtain ⟨j, e, hj, hl⟩ := ab_nI h
  have h1 : (x &&& y).toBitVec.toNat ≤ j := by
    rw [Int32.toBitVec_and, BitVec.toNat_and]
    refine Nat.le_trans Nat.and_le_right ?_
    rw [e, pk_tn (by omega)]
    exact Nat.le_refl _
  have h2 : (x &&& y).toInt = ((x &&& y).toBitVec.toNat : Int) := by
    show (x &&& y).toBitVec.toInt = _
    rw [BitVec.toInt_eq_toNat_of_lt]
    omega
  omega
def ab_andQ (n : Nat) (x y : ab_Q) : Option ab_Q := some (bif ab_0le y.1 then (bif ab_0le x.1 then ab_own n (.ofNat 0) (ab_min x.2.1 y.2.1) else ab_own n (.ofNat 0) y.2.1) else bif ab_0le x.1 then ab_own n (.ofNat 0) x.2.1 else ab_full n)
theorem ab_andQ_ok {ρ : Nat → Value} {n : Nat} {x y : Int32} {a b q : ab_Q} (hx : ab_inQ ρ n x a) (hy : ab_inQ ρ n y b) (h : ab_andQ n a b = some q) : ab_okQ ρ n (x &&& y) q := by
  unfold ab_andQ at h
  cases h
  obtain ⟨x1, x2, -⟩ := hx
  obtain ⟨y1, y2, -⟩ := hy
  cases k1 : ab_0le b.1 with
  | true =>
    unfold ab_0le at k1
    rw [ab_le_iff, ab_of0] at k1
    have h1 := ab_and_l (x := x) (y := y) (by omega)
    cases k2 : ab_0le a.1 with
    | true =>
      unfold ab_0le at k2
      rw [ab_le_iff, ab_of0] at k2
      have h2 := ab_and_l (x := y) (y := x) (by omega)
      rw [Int32.and_comm] at h2
      simp only [cond_true]
      exact ab_own_ok (fun _ _ => by rw [ab_min_eq, ab_of0]; omega)
    | false =>
      simp only [cond_true, cond_false]
      exact ab_own_ok (fun _ _ => by rw [ab_of0]; omega)
  | false =>
    cases k2 : ab_0le a.1 with
    | true =>
      unfold ab_0le at k2
      rw [ab_le_iff, ab_of0] at k2
      have h2 := ab_and_l (x := y) (y := x) (by omega)
      rw [Int32.and_comm] at h2
      simp only [cond_true, cond_false]
      exact ab_own_ok (fun _ _ => by rw [ab_of0]; omega)
    | false => exact ab_full_ok
def ab_msk (a : Int) : Nat := Nat.sub (Nat.pow 2 (Nat.succ (Nat.log2 a.toNat))) 1
def ab_orQ (n : Nat) (x y : ab_Q) : Option ab_Q := some (bif ab_0le y.1 && ab_0le x.1 then ab_own n (.ofNat 0) (.ofNat (ab_msk (ab_max x.2.1 y.2.1))) else ab_full n)
theorem ab_orQ_ok {ρ : Nat → Value} {n : Nat} {x y : Int32} {a b q : ab_Q} (hx : ab_inQ ρ n x a) (hy : ab_inQ ρ n y b) (h : ab_orQ n a b = some q) : ab_okQ ρ n (x ||| y) q := by
  unfold ab_orQ at h
  cases h
  obtain ⟨x1, x2, -⟩ := hx
  obtain ⟨y1, y2, -⟩ := hy
  cases k1 : (ab_0le b.1 && ab_0le a.1) with
  | false => exact ab_full_ok
  | true =>
    unfold ab_0le at k1
    rw [Bool.and_eq_true, ab_le_iff, ab_le_iff, ab_of0] at k1
    simp only [cond_true]
    refine ab_own_ok (fun _ hm => ?_)
    obtain ⟨j, e, hj, hl⟩ := ab_nI (x := x) (by omega)
    obtain ⟨k, e', hk, hl'⟩ := ab_nI (x := y) (by omega)
    rw [ab_max_eq] at hm ⊢
    unfold ab_msk at hm ⊢
    generalize hM : (max a.2.1 b.2.1).toNat = M at hm ⊢
    have hp : M < 2 ^ (M.log2 + 1) := Nat.lt_log2_self
    have hor : j ||| k < 2 ^ (M.log2 + 1) := Nat.or_lt_two_pow (by omega) (by omega)
    have hm2 : ((2 ^ (M.log2 + 1) - 1 : Nat) : Int) ≤ 2147483647 := hm
    have h1 : (x ||| y).toBitVec.toNat = j ||| k := by
      rw [Int32.toBitVec_or, BitVec.toNat_or, e, e', pk_tn (by omega), pk_tn (by omega)]
    have h2 : (x ||| y).toInt = ((j ||| k : Nat) : Int) := by
      show (x ||| y).toBitVec.toInt = _
      rw [BitVec.toInt_eq_toNat_of_lt (by rw [h1]; omega), h1]
    rw [h2]
    constructor
    · exact Int.natCast_nonneg _
    · show _ ≤ ((2 ^ (M.log2 + 1) - 1 : Nat) : Int)
      omega
theorem ab_s_l : ∀ n, n < 32 → ((nI n &&& 31).toBitVec.smod 32).toNat = n := by decide +kernel
def ab_shlQ (n : Nat) (x y : ab_Q) : Option ab_Q := some (bif ab_0le x.1 && (ab_0le y.1 && ab_le y.2.1 (.ofNat 30)) then ab_own n (Int.mul x.1 (.ofNat (Nat.pow 2 y.1.toNat))) (Int.mul x.2.1 (.ofNat (Nat.pow 2 y.2.1.toNat))) else ab_full n)
theorem ab_shlQ_ok {ρ : Nat → Value} {n : Nat} {x y : Int32} {a b q : ab_Q} (hx : ab_inQ ρ n x a) (hy : ab_inQ ρ n y b) (h : ab_shlQ n a b = some q) : ab_okQ ρ n (x <<< (y &&& 31)) q := by
  unfold ab_shlQ at h
  cases h
  obtain ⟨x1, x2, -⟩ := hx
  obtain ⟨y1, y2, -⟩ := hy
  cases k1 : (ab_0le a.1 && (ab_0le b.1 && ab_le b.2.1 (.ofNat 30))) with
  | false => exact ab_full_ok
  | true =>
    unfold ab_0le at k1
    rw [Bool.and_eq_true, Bool.and_eq_true, ab_le_iff, ab_le_iff, ab_le_iff, ab_of0] at k1
    have e30 : Int.ofNat 30 = 30 := rfl
    rw [e30] at k1
    simp only [cond_true, ab_mulE]
    refine ab_own_ok (fun _ hm => ?_)
    obtain ⟨j, e, hj, hl⟩ := ab_nI (x := x) (by omega)
    obtain ⟨k, e', hk, hl'⟩ := ab_nI (x := y) (by omega)
    have p1 : 2 ^ b.1.toNat ≤ 2 ^ k := Nat.pow_le_pow_right (by decide) (by omega)
    have p2 : 2 ^ k ≤ 2 ^ b.2.1.toNat := Nat.pow_le_pow_right (by decide) (by omega)
    have m1 : a.1.toNat * 2 ^ b.1.toNat ≤ j * 2 ^ k := Nat.mul_le_mul (by omega) p1
    have m2 : j * 2 ^ k ≤ a.2.1.toNat * 2 ^ b.2.1.toNat := Nat.mul_le_mul (by omega) p2
    have c1 : a.1 * (Int.ofNat (Nat.pow 2 b.1.toNat)) = ((a.1.toNat * 2 ^ b.1.toNat : Nat) : Int) := by
      rw [Int.natCast_mul]
      have : (a.1.toNat : Int) = a.1 := by omega
      rw [this]
      rfl
    have c2 : a.2.1 * (Int.ofNat (Nat.pow 2 b.2.1.toNat)) = ((a.2.1.toNat * 2 ^ b.2.1.toNat : Nat) : Int) := by
      rw [Int.natCast_mul]
      have : (a.2.1.toNat : Int) = a.2.1 := by omega
      rw [this]
      rfl
    rw [c2] at hm
    rw [c1, c2]
    have hlt : j * 2 ^ k < 2 ^ 32 := by omega
    have h1 : x <<< (y &&& 31) = nI (j * 2 ^ k) := by
      rw [e, e']
      exact pk_shlN _ k (ab_s_l k (by omega)) hlt
    rw [h1, nI_toInt (by omega)]
    omega
def ab_shrQ (n : Nat) (x y : ab_Q) : Option ab_Q := some (bif ab_0le x.1 && (ab_0le y.1 && ab_le y.2.1 (.ofNat 30)) then ab_own n (.ofNat 0) x.2.1 else ab_full n)
theorem ab_shrQ_ok {ρ : Nat → Value} {n : Nat} {x y : Int32} {a b q : ab_Q} (hx : ab_inQ ρ n x a) (hy : ab_inQ ρ n y b) (h : ab_shrQ n a b = some q) : ab_okQ ρ n (x >>> (y &&& 31)) q := by
  unfold ab_shrQ at h
  cases h
  obtain ⟨x1, x2, -⟩ := hx
  obtain ⟨y1, y2, -⟩ := hy
  cases k1 : (ab_0le a.1 && (ab_0le b.1 && ab_le b.2.1 (.ofNat 30))) with
  | false => exact ab_full_ok
  | true =>
    unfold ab_0le at k1
    rw [Bool.and_eq_true, Bool.and_eq_true, ab_le_iff, ab_le_iff, ab_le_iff, ab_of0] at k1
    have e30 : Int.ofNat 30 = 30 := rfl
    rw [e30] at k1
    simp only [cond_true]
    refine ab_own_ok (fun _ hm => ?_)
    obtain ⟨j, e, hj, hl⟩ := ab_nI (x := x) (by omega)
    obtain ⟨k, e', hk, hl'⟩ := ab_nI (x := y) (by omega)
    have h1 : x >>> (y &&& 31) = nI (j / 2 ^ k) := by
      rw [e, e']
      exact pk_shrN hl _ k (ab_s_l k (by omega))
    have h2 : j / 2 ^ k ≤ j := Nat.div_le_self _ _
    rw [h1]
    generalize j / 2 ^ k = w at h2
    rw [nI_toInt (by omega), ab_of0]
    omega
/-- longs: intervals alone -/
def ab_ownL (n : Nat) (lo hi : Int) : ab_Q := bif ab_i64 lo hi then (lo, hi, n, .ofNat 0) else (ab_m63, ab_p63, n, .ofNat 0)
def ab_okL (n : Nat) (r : Int64) (q : ab_Q) : Prop := q.1 ≤ r.toInt ∧ r.toInt ≤ q.2.1 ∧ q.2.2.1 = n
theorem ab_ownL_ok {n : Nat} {r : Int64} {lo hi : Int} (h : -9223372036854775808 ≤ lo → hi ≤ 9223372036854775807 → lo ≤ r.toInt ∧ r.toInt ≤ hi) : ab_okL n r (ab_ownL n lo hi) := by
  unfold ab_ownL
  cases hc : ab_i64 lo hi with
  | true =>
    rw [ab_i64_iff] at hc
    obtain ⟨h1, h2⟩ := h hc.1 hc.2
    exact ⟨h1, h2, rfl⟩
  | false => exact ⟨ab_lo64 r, ab_hi64 r, rfl⟩
def ab_laddQ (n : Nat) (x y : ab_Q) : Option ab_Q := some (ab_ownL n (Int.add x.1 y.1) (Int.add x.2.1 y.2.1))
def ab_lsubQ (n : Nat) (x y : ab_Q) : Option ab_Q := some (ab_ownL n (Int.sub x.1 y.2.1) (Int.sub x.2.1 y.1))
def ab_lmulQ (n : Nat) (x y : ab_Q) : Option ab_Q := some (match ab_mulB x.1 x.2.1 y.1 y.2.1 with
  | some v => ab_ownL n v.1 v.2
  | none => ab_ownL n ab_m63 ab_p63)
def ab_ldivQ (n : Nat) (x y : ab_Q) : Option ab_Q := bif ab_1le y.1 then some (ab_ownL n ab_m63 ab_p63) else none
theorem ab_laddQ_ok {n : Nat} {x y : Int64} {a b q : ab_Q} (x1 : a.1 ≤ x.toInt) (x2 : x.toInt ≤ a.2.1) (y1 : b.1 ≤ y.toInt) (y2 : y.toInt ≤ b.2.1) (h : ab_laddQ n a b = some q) : ab_okL n (x + y) q := by
  unfold ab_laddQ at h
  cases h
  simp only [ab_addE]
  refine ab_ownL_ok (fun l1 l2 => ?_)
  have e : (x + y).toInt = x.toInt + y.toInt := by rw [Int64.toInt_add]; exact ab_bm64 (by omega) (by omega)
  omega
theorem ab_lsubQ_ok {n : Nat} {x y : Int64} {a b q : ab_Q} (x1 : a.1 ≤ x.toInt) (x2 : x.toInt ≤ a.2.1) (y1 : b.1 ≤ y.toInt) (y2 : y.toInt ≤ b.2.1) (h : ab_lsubQ n a b = some q) : ab_okL n (x - y) q := by
  unfold ab_lsubQ at h
  cases h
  simp only [ab_subE]
  refine ab_ownL_ok (fun l1 l2 => ?_)
  have e : (x - y).toInt = x.toInt - y.toInt := by rw [Int64.toInt_sub]; exact ab_bm64 (by omega) (by omega)
  omega
theorem ab_lmulQ_ok {n : Nat} {x y : Int64} {a b q : ab_Q} (x1 : a.1 ≤ x.toInt) (x2 : x.toInt ≤ a.2.1) (y1 : b.1 ≤ y.toInt) (y2 : y.toInt ≤ b.2.1) (h : ab_lmulQ n a b = some q) : ab_okL n (x * y) q := by
  unfold ab_lmulQ at h
  cases h
  split
  · rename_i v hv
    have h2 := ab_mulB_ok x1 x2 y1 y2 hv
    refine ab_ownL_ok (fun l1 l2 => ?_)
    have e : (x * y).toInt = x.toInt * y.toInt := by rw [Int64.toInt_mul]; exact ab_bm64 (by omega) (by omega)
    rw [e]
    exact h2
  · exact ab_ownL_ok (fun _ _ => ⟨ab_lo64 _, ab_hi64 _⟩)
theorem ab_ldivQ_ok {n : Nat} {x y : Int64} {a b q : ab_Q} (y1 : b.1 ≤ y.toInt) (h : ab_ldivQ n a b = some q) : ¬ y = 0 ∧ ∀ r, ab_okL n r q := by
  unfold ab_ldivQ at h
  cases k1 : ab_1le b.1 with
  | false => rw [k1] at h; simp at h
  | true =>
    rw [k1] at h
    simp only [cond_true] at h
    cases h
    unfold ab_1le at k1
    rw [ab_le_iff, ab_of1] at k1
    refine ⟨fun e => by rw [e] at y1; simp at y1; omega, fun r => ab_ownL_ok (fun _ _ => ⟨ab_lo64 _, ab_hi64 _⟩)⟩
end
