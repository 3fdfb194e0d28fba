noncomputable section
theorem lx_fullL2 (x : Int64) : -9223372036854775808 ≤ x.toInt ∧ x.toInt ≤ 9223372036854775807 := by
  have h1 := Int64.le_toInt x
  have h2 := Int64.toInt_lt x
  have e1 : -(2 : Int) ^ 63 = -9223372036854775808 := by decide
  have e2 : (2 : Int) ^ 63 = 9223372036854775808 := by decide
  omega
theorem TI_ub {h : Nat → Int} {B : Int} : ∀ k : Nat, (∀ x : Nat, x < k → h x ≤ B) → TI h k ≤ k * B
  | 0, _ => by
    show (0 : Int) ≤ ((0 : Nat) : Int) * B
    rw [show ((0 : Nat) : Int) = 0 from rfl, Int.zero_mul]
    exact Int.le_refl _
  | k + 1, e => by
    have h1 := TI_ub k (fun x hx => e x (by omega))
    have h2 := e k (by omega)
    rw [TI, show ((k + 1 : Nat) : Int) = (k : Int) + 1 from rfl, Int.add_mul, Int.one_mul]
    omega
theorem tot_ub {f : Nat → Int64} {B : Int} (h : ∀ x : Nat, x < 32 → 0 ≤ (f x).toInt ∧ (f x).toInt ≤ B) : nnF f ∧ 0 ≤ tot f ∧ tot f ≤ 32 * B :=
  ⟨fun x hx => (h x hx).1, TI_nn 32 (fun x hx => (h x hx).1), TI_ub 32 (fun x hx => (h x hx).2)⟩
theorem p32_pos : ∀ n : Nat, (1 : Int) ≤ 32 ^ n
  | 0 => Int.le_refl _
  | n + 1 => by
    have := p32_pos n
    rw [Int.pow_succ]
    omega
theorem wS_I {f : Nat → Int64} (hf : nnF f) : ∀ k : Nat, tot f * 32 ^ k ≤ 9223372036854775807 → (wS f k).toInt = tot f * 32 ^ k
  | 0, h => by
    rw [Int.pow_zero, Int.mul_one] at h ⊢
    exact sumL_tot hf h
  | k + 1, h => by
    have h0 : 0 ≤ tot f := TI_nn 32 hf
    have hp := p32_pos k
    have e1 : tot f * 32 ^ (k + 1) = tot f * 32 ^ k * 32 := by rw [Int.pow_succ, Int.mul_assoc]
    have h1 : 0 ≤ tot f * 32 ^ k := Int.mul_nonneg h0 (by omega)
    rw [e1] at h
    have k32 : (Int64.ofInt 32).toInt = 32 := by decide +kernel
    have ih := wS_I hf k (by omega)
    rw [wS, cx_mulL (by rw [ih, k32]; omega) (by rw [ih, k32]; omega), ih, k32, e1]
theorem wC_I {f : Nat → Int64} (hf : nnF f) : ∀ k : Nat, 8 * tot f * 32 ^ k ≤ 9223372036854775807 → (wC f k).toInt = 8 * tot f * 32 ^ k
  | 0, h => by
    have h0 : 0 ≤ tot f := TI_nn 32 hf
    have k8 : (Int64.ofInt 8).toInt = 8 := by decide +kernel
    rw [Int.pow_zero, Int.mul_one] at h ⊢
    have e1 := sumL_tot hf (by omega)
    rw [wC, cx_mulL (by rw [e1, k8]; omega) (by rw [e1, k8]; omega), e1, k8]
  | k + 1, h => by
    have h0 : 0 ≤ tot f := TI_nn 32 hf
    have hp := p32_pos k
    have e1 : 8 * tot f * 32 ^ (k + 1) = 8 * tot f * 32 ^ k * 32 := by rw [Int.pow_succ, Int.mul_assoc (8 * tot f)]
    have h1 : 0 ≤ 8 * tot f * 32 ^ k := Int.mul_nonneg (by omega) (by omega)
    rw [e1] at h
    have k32 : (Int64.ofInt 32).toInt = 32 := by decide +kernel
    have ih := wC_I hf k (by omega)
    rw [wC, cx_mulL (by rw [ih, k32]; omega) (by rw [ih, k32]; omega), ih, k32, e1]
theorem tot_pos {f : Nat → Int64} (hf : nnF f) (hT : tot f ≤ 9223372036854775807) (h : ¬ sumL f 32 = Int64.ofNat 0) : 1 ≤ tot f := by
  have h0 : 0 ≤ tot f := TI_nn 32 hf
  have e1 := sumL_tot hf hT
  by_cases q : tot f = 0
  · rw [q] at e1
    exact absurd (Int64.toInt_inj.mp (e1.trans (show (0 : Int) = (Int64.ofNat 0).toInt by decide +kernel))) h
  · omega
theorem bigN {a mm : Nat} (h1 : 1 ≤ mm) (h2 : a + 2 * mm ≤ 10) : (32 * (1000000 * 12 ^ a) * 32 ^ mm : Int) * 10 ≤ 9223372036854775807 := by
  rcases (show mm = 1 ∨ mm = 2 ∨ mm = 3 ∨ mm = 4 ∨ mm = 5 by omega) with rfl | rfl | rfl | rfl | rfl <;> rcases (show a = 0 ∨ a = 1 ∨ a = 2 ∨ a = 3 ∨ a = 4 ∨ a = 5 ∨ a = 6 ∨ a = 7 ∨ a = 8 by omega) with rfl | rfl | rfl | rfl | rfl | rfl | rfl | rfl | rfl <;> first | decide | (exfalso; omega)
/-- the whole is within a long -/
theorem bigW {f : Nat → Int64} {a mm : Nat} (hb : ∀ x : Nat, x < 32 → 0 ≤ (f x).toInt ∧ (f x).toInt ≤ (1000000 * 12 ^ a : Int)) (h1 : 1 ≤ mm) (h2 : a + 2 * mm ≤ 10) : nnF f ∧ 0 ≤ tot f ∧ tot f ≤ 9223372036854775807 ∧ 10 * (tot f * 32 ^ mm) ≤ 9223372036854775807 := by
  obtain ⟨g1, g2, g3⟩ := tot_ub hb
  have hp := p32_pos mm
  have e1 : tot f * 32 ^ mm ≤ 32 * (1000000 * 12 ^ a) * 32 ^ mm := Int.mul_le_mul_of_nonneg_right g3 (by omega)
  have e2 := bigN h1 h2
  have e3 : tot f * 1 ≤ tot f * 32 ^ mm := Int.mul_le_mul_of_nonneg_left hp g2
  rw [Int.mul_one] at e3
  exact ⟨g1, g2, by omega, by omega⟩
theorem wS_ne {f : Nat → Int64} {a mm : Nat} (hb : ∀ x : Nat, x < 32 → 0 ≤ (f x).toInt ∧ (f x).toInt ≤ (1000000 * 12 ^ a : Int)) (h1 : 1 ≤ mm) (h2 : a + 2 * mm ≤ 10) (h : ¬ sumL f 32 = Int64.ofNat 0) : ¬ wS f mm = 0 := by
  obtain ⟨g1, g2, g3, g4⟩ := bigW hb h1 h2
  have g5 := tot_pos g1 g3 h
  have hp := p32_pos mm
  have g6 : 1 * 1 ≤ tot f * 32 ^ mm := Int.mul_le_mul g5 hp (by omega) (by omega)
  have e1 := wS_I g1 mm (by omega)
  intro q
  rw [q] at e1
  have : (0 : Int64).toInt = 0 := by decide +kernel
  omega
theorem skR_E {m q z z2 : Int32} {sm : Int64} {md : Int32} (h1 : skR m q sm md z) (h2 : skR m q sm md z2) : z = z2 := by
  unfold skR at h1 h2
  rcases h1 with ⟨a1, a2⟩ | ⟨a1, a3, a2⟩ | ⟨a1, a3, a2⟩ | ⟨a1, a3, a4, a2⟩ <;> rcases h2 with ⟨c1, c2⟩ | ⟨c1, c3, c2⟩ | ⟨c1, c3, c2⟩ | ⟨c1, c3, c4, c2⟩ <;> first | (exfalso; omega) | (exact absurd a3 c3) | (exact absurd c3 a3) | (rw [a2, c2])
theorem skR_O {m q z : Int32} {sm : Int64} {md : Int32} (h1 : skR m q sm md z) (h2 : skO m q sm md) : False := by
  unfold skR at h1
  unfold skO at h2
  obtain ⟨c1, c3, c4⟩ := h2
  rcases h1 with ⟨a1, a2⟩ | ⟨a1, a3, a2⟩ | ⟨a1, a3, a2⟩ | ⟨a1, a3, a4, a2⟩
  · omega
  · omega
  · exact c3 a3
  · omega
/-- the two choices choose the same row -/
theorem ac_rl {dl ds dr q : Int32} {mi : Nat → Int32} {f f' : Nat → Int64} {a mm bN : Nat} (e1 : dl = mi 42) (e2 : ds = mi 43) (e3 : dr = mi 44) (hl : 0 ≤ dl.toInt) (hs : 0 ≤ ds.toInt) (hr : 0 ≤ dr.toInt) (h4 : dl.toInt + ds.toInt + dr.toInt = 4) (hq : 1 ≤ q.toInt ∧ q.toInt ≤ 8) (hf : ∀ x : Nat, x < 32 → f x = f' x) (hb : ∀ x : Nat, x < 32 → 0 ≤ (f' x).toInt ∧ (f' x).toInt ≤ (1000000 * 12 ^ a : Int)) (h1 : 1 ≤ mm) (h3 : mm ≤ 3) (h2 : a + 2 * mm ≤ 10) (hbn : bN < 32) :
    (tP dl ds dr q mm bN f (Int64.ofNat 0) [] (Int64.ofInt (-1), [])).2 = (acF mi q mm bN f').2 ∧ (tP dl ds dr q mm bN f (Int64.ofNat 0) [] (Int64.ofInt (-1), [])).2.length = mm ∧ 0 ≤ (tP dl ds dr q mm bN f (Int64.ofNat 0) [] (Int64.ofInt (-1), [])).1.toInt ∧ 0 ≤ (acF mi q mm bN f').1.toInt ∧ 4 * (tP dl ds dr q mm bN f (Int64.ofNat 0) [] (Int64.ofInt (-1), [])).1.toInt + (acF mi q mm bN f').1.toInt = tot f' * 32 ^ mm := by
  subst e1
  subst e2
  subst e3
  have hm : mm = 1 ∨ mm = 2 ∨ mm = 3 := by omega
  obtain ⟨g1, g2, g3, g4⟩ := bigW hb h1 h2
  obtain ⟨r1, R0, Rs, r2⟩ := rows_okE hm hbn
  have k0 : (Int64.ofNat 0).toInt = 0 := by decide +kernel
  have km : (Int64.ofInt (-1)).toInt = -1 := by decide +kernel
  rw [tP_E mm bN f f' _ _ _ hf, tP_rows]
  have eA : acF mi q mm bN f' = (rowsL mm bN).foldl (stR (fun R => sumL (R.foldl (nxP (mi 42) (mi 43) (mi 44) q) f') 32)) (Int64.ofInt (-1), []) := by
    unfold acF
    rw [stM_rows, dec_rowsE hm hbn]
  rw [eA]
  have hR : ∀ R ∈ rowsL mm bN, 0 ≤ (vF (mi 42) (mi 43) (mi 44) q f' (Int64.ofNat 0) R).toInt ∧ 0 ≤ (sumL (R.foldl (nxP (mi 42) (mi 43) (mi 44) q) f') 32).toInt ∧ 4 * (vF (mi 42) (mi 43) (mi 44) q f' (Int64.ofNat 0) R).toInt + (sumL (R.foldl (nxP (mi 42) (mi 43) (mi 44) q) f') 32).toInt = tot f' * 32 ^ mm := fun R hR => by
    obtain ⟨u1, u2⟩ := r1 R hR
    have v1 := vF_I hl hs hr h4 hq R f' (Int64.ofNat 0) u2 g1 (by rw [k0]; exact Int.le_refl _) (by rw [k0, u1, show 4 * (0 : Int) + tot f' = tot f' by omega]; omega)
    rw [k0, u1] at v1
    obtain ⟨v2, v3, v4⟩ := v1
    have v5 : 0 ≤ tot (R.foldl (nxP (mi 42) (mi 43) (mi 44) q) f') := TI_nn 32 v2
    rw [show 4 * (0 : Int) + tot f' = tot f' by omega] at v4
    have v6 := sumL_tot v2 (by omega)
    rw [v6]
    exact ⟨v3, v5, v4⟩
  have h5 := rlA_fold (Wt := tot f' * 32 ^ mm) (U := vF (mi 42) (mi 43) (mi 44) q f' (Int64.ofNat 0)) (V := fun R => sumL (R.foldl (nxP (mi 42) (mi 43) (mi 44) q) f') 32) (rowsL mm bN) (Int64.ofInt (-1), []) (Int64.ofInt (-1), []) hR ⟨rfl, Or.inl ⟨km, km⟩⟩
  have h6 : 0 ≤ ((rowsL mm bN).foldl (fun acc R => stX acc (vF (mi 42) (mi 43) (mi 44) q f' (Int64.ofNat 0) R) R) (Int64.ofInt (-1), [])).1.toInt ∧ ((rowsL mm bN).foldl (fun acc R => stX acc (vF (mi 42) (mi 43) (mi 44) q f' (Int64.ofNat 0) R) R) (Int64.ofInt (-1), [])).2.length = mm := by
    rw [r2] at r1 hR ⊢
    exact stX_some (P := fun R => R.length = mm) (fun R2 h2 => ⟨(hR R2 h2).1, (r1 R2 h2).1⟩) km
  obtain ⟨h7, h8⟩ := h5
  refine ⟨h7, h6.2, h6.1, ?_⟩
  rcases h8 with ⟨q1, q2⟩ | ⟨q1, q2, q3⟩
  · have := h6.1
    omega
  · exact ⟨q2, q3⟩
theorem cx_divL {x y : Int64} (h1 : 0 ≤ x.toInt) (h2 : 0 < y.toInt) : (x / y).toInt = x.toInt / y.toInt ∧ (x - x / y * y).toInt = x.toInt % y.toInt := by
  have hi := (lx_fullL2 x).2
  have e0 : 0 ≤ x.toInt / y.toInt := Int.ediv_nonneg h1 (by omega)
  have e9 : x.toInt / y.toInt ≤ x.toInt := Int.ediv_le_self _ h1
  have e1 : (x / y).toInt = x.toInt / y.toInt := by
    rw [Int64.toInt_div, Int.tdiv_eq_ediv_of_nonneg h1]
    exact ab_bm64 (by omega) (by omega)
  have h3 : x.toInt / y.toInt * y.toInt + x.toInt % y.toInt = x.toInt := Int.ediv_mul_add_emod _ _
  have h4 : 0 ≤ x.toInt % y.toInt := Int.emod_nonneg _ (by omega)
  have h5 : 0 ≤ x.toInt / y.toInt * y.toInt := Int.mul_nonneg e0 (by omega)
  have e2 : (x / y * y).toInt = x.toInt / y.toInt * y.toInt := by rw [cx_mulL (by rw [e1]; omega) (by rw [e1]; omega), e1]
  refine ⟨e1, ?_⟩
  rw [Int64.toInt_sub, e2]
  rw [ab_bm64 (by omega) (by omega)]
  omega
/-- digits by a whole and by four times it -/
theorem dg_E {W W4 : Int64} (hW : 0 < W.toInt) (h4 : W4.toInt = 4 * W.toInt) (hb : 10 * W4.toInt ≤ 9223372036854775807) {s : Int64 × Int64} {t : Int64 × Int32} (h1 : 0 ≤ s.1.toInt ∧ s.1.toInt < W.toInt) (h2 : t.1.toInt = 4 * s.1.toInt) (h3 : 0 ≤ s.2.toInt ∧ s.2.toInt ≤ 1) (h5 : t.2.toInt = s.2.toInt) : ∀ k : Nat, k ≤ 6 → (0 ≤ (dgX W s k).1.toInt ∧ (dgX W s k).1.toInt < W.toInt) ∧ (dgS W4 t k).1.toInt = 4 * (dgX W s k).1.toInt ∧ (0 ≤ (dgX W s k).2.toInt ∧ (dgX W s k).2.toInt < 2 * 10 ^ k) ∧ (dgS W4 t k).2.toInt = (dgX W s k).2.toInt
  | 0, _ => ⟨h1, h2, ⟨h3.1, by rw [Int.pow_zero]; show s.2.toInt < 2 * 1; omega⟩, h5⟩
  | k + 1, hk => by
    obtain ⟨i1, i2, i3, i4⟩ := dg_E hW h4 hb h1 h2 h3 h5 k (by omega)
    have k10 : (Int64.ofInt 10).toInt = 10 := by decide +kernel
    have c10 : (Int32.ofInt 10).toInt = 10 := by decide +kernel
    have hp : (10 : Int) ^ k ≤ 100000 := by
      rcases (show k = 0 ∨ k = 1 ∨ k = 2 ∨ k = 3 ∨ k = 4 ∨ k = 5 by omega) with rfl | rfl | rfl | rfl | rfl | rfl <;> decide
    rw [dgX, dgS]
    unfold dgc dgm
    dsimp only
    have x1 : ((dgX W s k).1 * Int64.ofInt 10).toInt = 10 * (dgX W s k).1.toInt := by rw [cx_mulL (by rw [k10]; omega) (by rw [k10]; omega), k10]; omega
    have m1 : ((dgS W4 t k).1 * Int64.ofInt 10).toInt = 4 * (10 * (dgX W s k).1.toInt) := by rw [cx_mulL (by rw [k10]; omega) (by rw [k10]; omega), k10]; omega
    obtain ⟨x2, x3⟩ := cx_divL (x := (dgX W s k).1 * Int64.ofInt 10) (y := W) (by omega) hW
    obtain ⟨m2, m3⟩ := cx_divL (x := (dgS W4 t k).1 * Int64.ofInt 10) (y := W4) (by omega) (by omega)
    rw [x1] at x2 x3
    rw [m1, h4] at m2 m3
    rw [Int.mul_ediv_mul_of_pos _ _ (by omega : (0 : Int) < 4)] at m2
    rw [Int.mul_emod_mul_of_pos _ _ (by omega : (0 : Int) < 4)] at m3
    have d0 : 0 ≤ 10 * (dgX W s k).1.toInt / W.toInt := Int.ediv_nonneg (by omega) (by omega)
    have d9 : 10 * (dgX W s k).1.toInt / W.toInt < 10 := Int.ediv_lt_of_lt_mul hW (by omega)
    have d1 : 0 ≤ 10 * (dgX W s k).1.toInt % W.toInt := Int.emod_nonneg _ (by omega)
    have d2 : 10 * (dgX W s k).1.toInt % W.toInt < W.toInt := Int.emod_lt_of_pos _ hW
    have y1 : ((dgX W s k).2 * Int64.ofInt 10).toInt = 10 * (dgX W s k).2.toInt := by rw [cx_mulL (by rw [k10]; omega) (by rw [k10]; omega), k10]; omega
    have y2 : ((dgX W s k).2 * Int64.ofInt 10 + (dgX W s k).1 * Int64.ofInt 10 / W).toInt = 10 * (dgX W s k).2.toInt + 10 * (dgX W s k).1.toInt / W.toInt := by rw [cx_addL (by rw [y1, x2]; omega) (by rw [y1, x2]; omega), y1, x2]
    have n1 : (Int64.toInt32 ((dgS W4 t k).1 * Int64.ofInt 10 / W4)).toInt = 10 * (dgX W s k).1.toInt / W.toInt := by
      rw [Int64.toInt_toInt32, m2]
      exact ab_bm (by omega) (by omega)
    have n2 : (Int32.ofInt 10 * (dgS W4 t k).2).toInt = 10 * (dgX W s k).2.toInt := by rw [cx_mulk (n := 10) c10 (by rw [i4]; omega) (by rw [i4]; omega), i4]
    have n3 : (Int32.ofInt 10 * (dgS W4 t k).2 + Int64.toInt32 ((dgS W4 t k).1 * Int64.ofInt 10 / W4)).toInt = 10 * (dgX W s k).2.toInt + 10 * (dgX W s k).1.toInt / W.toInt := by rw [cx_addc (by rw [n1, n2]; omega) (by rw [n1, n2]; omega), n1, n2]
    refine ⟨by rw [x3]; exact ⟨d1, d2⟩, by rw [m3, x3], ?_, by rw [n3, y2]⟩
    rw [y2, Int.pow_succ]
    omega
theorem ch_E {dl ds dr m q z z2 : Int32} {mi : Nat → Int32} {f f' : Nat → Int64} {a mm bN : Nat} {md : Int32} (e1 : dl = mi 42) (e2 : ds = mi 43) (e3 : dr = mi 44) (hl : 0 ≤ dl.toInt) (hs : 0 ≤ ds.toInt) (hr : 0 ≤ dr.toInt) (h4 : dl.toInt + ds.toInt + dr.toInt = 4) (hq : 1 ≤ q.toInt ∧ q.toInt ≤ 8) (hf : ∀ x : Nat, x < 32 → f x = f' x) (hb : ∀ x : Nat, x < 32 → 0 ≤ (f' x).toInt ∧ (f' x).toInt ≤ (1000000 * 12 ^ a : Int)) (h1 : 1 ≤ mm) (h3 : mm ≤ 3) (h2 : a + 2 * mm ≤ 10) (hbn : bN < 32) (hsm : ¬ sumL f' 32 = Int64.ofNat 0)
    (hx : (¬ 0 < (wC f (mm - 1)).toInt ∧ z = Int32.ofInt 0) ∨ (0 < (wC f (mm - 1)).toInt ∧ z = Int64.toInt32 (dgX (wC f (mm - 1)) ((tP dl ds dr q mm bN f (Int64.ofNat 0) [] (Int64.ofInt (-1), [])).1 - (tP dl ds dr q mm bN f (Int64.ofNat 0) [] (Int64.ofInt (-1), [])).1 / (wC f (mm - 1)) * (wC f (mm - 1)), (tP dl ds dr q mm bN f (Int64.ofNat 0) [] (Int64.ofInt (-1), [])).1 / (wC f (mm - 1))) 6).2))
    (hm : (wS f' mm - (acF mi q mm bN f').1 = wS f' mm ∧ z2 = (dgS (wS f' mm) (Int64.ofNat 0, Int32.ofInt 1) 6).2) ∨ (¬ wS f' mm - (acF mi q mm bN f').1 = wS f' mm ∧ z2 = (dgS (wS f' mm) (wS f' mm - (acF mi q mm bN f').1, Int32.ofInt 0) 6).2)) : z = z2 := by
  obtain ⟨c1, c2, c3, c4, c5⟩ := ac_rl e1 e2 e3 hl hs hr h4 hq hf hb h1 h3 h2 hbn
  obtain ⟨g1, g2, g3, g4⟩ := bigW hb h1 h2
  have g5 := tot_pos g1 g3 hsm
  have nf : nnF f := fun x hx => by rw [hf x hx]; exact g1 x hx
  have tf : tot f = tot f' := TI_E 32 (fun x hx => by rw [hf x hx])
  have ep : tot f' * 32 ^ mm = 4 * (8 * tot f' * 32 ^ (mm - 1)) := by
    have : mm = (mm - 1) + 1 := by omega
    rw [this, Int.pow_succ, show mm - 1 + 1 - 1 = mm - 1 by omega, Int.mul_assoc 8, ← Int.mul_assoc (tot f')]
    omega
  have hp := p32_pos (mm - 1)
  have w1 : (wC f (mm - 1)).toInt = 8 * tot f' * 32 ^ (mm - 1) := by rw [wC_I nf (mm - 1) (by rw [tf]; omega), tf]
  have w2 : (wS f' mm).toInt = tot f' * 32 ^ mm := wS_I g1 mm (by omega)
  have w3 : 1 * 1 ≤ 8 * tot f' * 32 ^ (mm - 1) := Int.mul_le_mul (by omega) hp (by omega) (by omega)
  have hW : 0 < (wC f (mm - 1)).toInt := by omega
  have hW4 : (wS f' mm).toInt = 4 * (wC f (mm - 1)).toInt := by omega
  rcases hx with ⟨q1, -⟩ | ⟨-, q2⟩
  · exact absurd hW q1
  · generalize (tP dl ds dr q mm bN f (Int64.ofNat 0) [] (Int64.ofInt (-1), [])).1 = bF at *
    generalize (acF mi q mm bN f').1 = bL at *
    have r1 : (wS f' mm - bL).toInt = 4 * bF.toInt := by
      rw [Int64.toInt_sub, ab_bm64 (by omega) (by omega)]
      omega
    obtain ⟨d1, d2⟩ := cx_divL (x := bF) (y := wC f (mm - 1)) c3 hW
    have fin : ∀ (t : Int64 × Int32), t.1.toInt = 4 * (bF - bF / wC f (mm - 1) * wC f (mm - 1)).toInt → t.2.toInt = (bF / wC f (mm - 1)).toInt → 0 ≤ (bF / wC f (mm - 1)).toInt ∧ (bF / wC f (mm - 1)).toInt ≤ 1 → 0 ≤ (bF - bF / wC f (mm - 1) * wC f (mm - 1)).toInt ∧ (bF - bF / wC f (mm - 1) * wC f (mm - 1)).toInt < (wC f (mm - 1)).toInt → z = (dgS (wS f' mm) t 6).2 := fun t t1 t2 t3 t4 => by
      obtain ⟨-, -, i3, i4⟩ := dg_E hW hW4 (by omega) (s := (bF - bF / wC f (mm - 1) * wC f (mm - 1), bF / wC f (mm - 1))) (t := t) t4 t1 t3 t2 6 (Nat.le_refl _)
      rw [q2]
      refine cx_i32 ?_
      rw [Int64.toInt_toInt32, i4]
      rw [show (2 : Int) * 10 ^ 6 = 2000000 by decide] at i3
      exact ab_bm (by omega) (by omega)
    have k0 : (Int64.ofNat 0).toInt = 0 := by decide +kernel
    have j1 : (Int32.ofInt 1).toInt = 1 := by decide +kernel
    have j0 : (Int32.ofInt 0).toInt = 0 := by decide +kernel
    have hle : bF.toInt ≤ (wC f (mm - 1)).toInt := by omega
    rcases hm with ⟨u1, u2⟩ | ⟨u1, u2⟩
    · have u3 := congrArg Int64.toInt u1
      have e5 : bF.toInt = (wC f (mm - 1)).toInt := by omega
      rw [e5, Int.ediv_self (by omega)] at d1
      rw [e5, Int.emod_self] at d2
      rw [u2]
      refine fin _ ?_ ?_ ?_ ?_
      · rw [d2]; exact k0
      · rw [d1]; exact j1
      · rw [d1]; omega
      · rw [d2]; omega
    · have e5 : ¬ bF.toInt = (wC f (mm - 1)).toInt := fun q => u1 (Int64.toInt_inj.mp (by omega))
      rw [Int.ediv_eq_zero_of_lt c3 (by omega)] at d1
      rw [Int.emod_eq_of_lt c3 (by omega)] at d2
      rw [u2]
      refine fin _ ?_ ?_ ?_ ?_
      · rw [d2]; exact r1
      · rw [d1]; exact j0
      · rw [d1]; omega
      · rw [d2]; omega
end
