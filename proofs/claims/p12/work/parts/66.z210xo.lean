noncomputable section
/-- four states in their order, as one number -/
def cdS (w : Nat → Nat) : Nat := 729 * w 0 + 81 * w 1 + 9 * w 2 + w 3
def ascN (w : Nat → Nat) (m : Nat) : Prop := ∀ i k : Nat, i ≤ k → k < m → w i ≤ w k
theorem insV_lt {f : Nat → Nat} {j v p : Nat} (h : p < j) : insV f j v p = f p := if_pos h
theorem insV_me {f : Nat → Nat} {j v : Nat} : insV f j v j = v := by
  unfold insV
  rw [if_neg (Nat.lt_irrefl j), if_pos rfl]
theorem insV_gt {f : Nat → Nat} {j v p : Nat} (h : j < p) : insV f j v p = f (p - 1) := by
  unfold insV
  rw [if_neg (by omega), if_neg (by omega)]
theorem ci_loop {mi : Nat → Int32} {ml : Nat → Int64} {th4 : Nat → Int32} {y w : Nat → Nat} {i : Int32} {k : Nat} {P : Option cx_V → cx_H → Prop} (hth : ∀ i : Nat, i < 4 → (th4 i).toInt = ((y i : Nat) : Int)) (hy9 : ∀ i : Nat, i < 4 → y i < 9) (hi : i.toInt = (k : Int)) (hk4 : k < 4) (hw9 : ∀ p : Nat, p < k → w p < 9) (hP : ∀ (j : Int32) (jN : Nat) (sx : Nat → Int32), j.toInt = (jN : Int) → jN ≤ k → (∀ p : Nat, p < jN → (sx p).toInt = ((w p : Nat) : Int)) → (∀ p : Nat, jN < p → p ≤ k → (sx p).toInt = ((w (p - 1) : Nat) : Int)) → (∀ p : Nat, jN ≤ p → p < k → y k < w p) → thU sx → (∀ p : Nat, p < jN → p + 1 = jN → w p ≤ y k) → cx_T 2 207 [119, 132, 133] 50 ([some (.inr (.inl 119)), some (.inl (.int i)), some (.inl (.int j))], [], [(119, .inl (11, vs_119 mi ml)), (132, .inr (.inl (0, 4, th4))), (133, .inr (.inl (0, 4, sx)))]) P) :
    ∀ (jN : Nat) (j : Int32), j.toInt = (jN : Int) → jN ≤ k → ∀ sx : Nat → Int32, (∀ p : Nat, p < jN → (sx p).toInt = ((w p : Nat) : Int)) → (∀ p : Nat, jN < p → p ≤ k → (sx p).toInt = ((w (p - 1) : Nat) : Int)) → (∀ p : Nat, jN ≤ p → p < k → y k < w p) → thU sx → cx_T 2 207 [119, 132, 133] 9 ([some (.inr (.inl 119)), some (.inl (.int i)), some (.inl (.int j))], [], [(119, .inl (11, vs_119 mi ml)), (132, .inr (.inl (0, 4, th4))), (133, .inr (.inl (0, 4, sx)))]) P := by
  have kcm1 : (Int32.ofInt (-1)).toInt = -1 := by decide +kernel
  have kc0 : (Int32.ofInt 0).toInt = 0 := by decide +kernel
  have kc1 : (Int32.ofInt 1).toInt = 1 := by decide +kernel
  have kc2 : (Int32.ofInt 2).toInt = 2 := by decide +kernel
  have kc3 : (Int32.ofInt 3).toInt = 3 := by decide +kernel
  have kc4 : (Int32.ofInt 4).toInt = 4 := by decide +kernel
  have kc9 : (Int32.ofInt 9).toInt = 9 := by decide +kernel
  have hyk : (th4 i.toNatClampNeg).toInt = ((y k : Nat) : Int) := by
    rw [cx_clamp hi]
    exact hth k hk4
  intro jN
  induction jN with
  | zero =>
    intro j hj hjk sx hs1 hs2 hs3 hsU
    refine ex_iload_n cg_207 (ix := 7) (pc' := 10) rfl rfl rfl ?_
    refine ex_if cg_207 (ix := 8) (t := 50) (pc' := 13) rfl rfl rfl (fun hb10 => ?_) (fun hb10 => ?_)
    · have hb10 : j.toInt ≤ 0 := hb10
      first
      | exact hP j 0 sx hj (by omega) hs1 hs2 hs3 hsU (fun p h1 _ => absurd h1 (Nat.not_lt_zero p))
      | exact hP j (jN + 1) sx hj (by omega) hs1 hs2 hs3 hsU (fun p h1 h2 => by
          have e9 : p = jN := by omega
          rw [e9]
          omega)
    · have hb10 : ¬ (j.toInt ≤ 0) := hb10
      exfalso; first | omega | exact absurd hb10 (by decide +kernel)
  | succ jN ih =>
    intro j hj hjk sx hs1 hs2 hs3 hsU
    have hjc : j.toNatClampNeg = jN + 1 := cx_clamp hj
    have hj1 : (j - Int32.ofInt 1).toInt = (jN : Int) := by
      rw [cx_subc (by omega) (by omega)]
      omega
    have hsv : (sx (j - Int32.ofInt 1).toNatClampNeg).toInt = ((w jN : Nat) : Int) := by
      rw [cx_clamp hj1]
      exact hs1 jN (by omega)
    refine ex_iload_n cg_207 (ix := 7) (pc' := 10) rfl rfl rfl ?_
    refine ex_if cg_207 (ix := 8) (t := 50) (pc' := 13) rfl rfl rfl (fun hb10 => ?_) (fun hb10 => ?_)
    · have hb10 : j.toInt ≤ 0 := hb10
      exfalso; first | omega | exact absurd hb10 (by decide +kernel)
    · have hb10 : ¬ (j.toInt ≤ 0) := hb10
      refine ex_aload_n cg_207 (ix := 9) (pc' := 14) rfl rfl rfl ?_
      refine ex_getfield cg_207 (ix := 10) (pc' := 17) (v := .inr (.inl 133)) rfl rfl rfl rfl rfl ?_
      refine ex_iload_n cg_207 (ix := 11) (pc' := 18) rfl rfl rfl ?_
      refine ex_iconst cg_207 (ix := 12) (pc' := 19) rfl rfl ?_
      refine ex_isub cg_207 (ix := 13) (pc' := 20) rfl rfl ?_
      refine ex_iaload cg_207 (ix := 14) (pc' := 21) rfl rfl (by omega) (by omega) rfl ?_
      refine ex_aload_n cg_207 (ix := 15) (pc' := 22) rfl rfl rfl ?_
      refine ex_getfield cg_207 (ix := 16) (pc' := 25) (v := .inr (.inl 132)) rfl rfl rfl rfl rfl ?_
      refine ex_iload_n cg_207 (ix := 17) (pc' := 26) rfl rfl rfl ?_
      refine ex_iaload cg_207 (ix := 18) (pc' := 27) rfl rfl (by omega) (by omega) rfl ?_
      refine ex_icmp cg_207 (ix := 19) (t := 50) (pc' := 30) rfl rfl rfl (fun hb27 => ?_) (fun hb27 => ?_)
      · have hb27 : (sx (j - (Int32.ofInt 1)).toNatClampNeg).toInt ≤ (th4 i.toNatClampNeg).toInt := hb27
        first
        | exact hP j 0 sx hj (by omega) hs1 hs2 hs3 hsU (fun p h1 _ => absurd h1 (Nat.not_lt_zero p))
        | exact hP j (jN + 1) sx hj (by omega) hs1 hs2 hs3 hsU (fun p h1 h2 => by
            have e9 : p = jN := by omega
            rw [e9]
            omega)
      · have hb27 : ¬ ((sx (j - (Int32.ofInt 1)).toNatClampNeg).toInt ≤ (th4 i.toNatClampNeg).toInt) := hb27
        refine ex_aload_n cg_207 (ix := 20) (pc' := 31) rfl rfl rfl ?_
        refine ex_getfield cg_207 (ix := 21) (pc' := 34) (v := .inr (.inl 133)) rfl rfl rfl rfl rfl ?_
        refine ex_iload_n cg_207 (ix := 22) (pc' := 35) rfl rfl rfl ?_
        refine ex_aload_n cg_207 (ix := 23) (pc' := 36) rfl rfl rfl ?_
        refine ex_getfield cg_207 (ix := 24) (pc' := 39) (v := .inr (.inl 133)) rfl rfl rfl rfl rfl ?_
        refine ex_iload_n cg_207 (ix := 25) (pc' := 40) rfl rfl rfl ?_
        refine ex_iconst cg_207 (ix := 26) (pc' := 41) rfl rfl ?_
        refine ex_isub cg_207 (ix := 27) (pc' := 42) rfl rfl ?_
        refine ex_iaload cg_207 (ix := 28) (pc' := 43) rfl rfl (by omega) (by omega) rfl ?_
        refine ex_iastore cg_207 (ix := 29) (pc' := 44) (h' := [(119, .inl (11, vs_119 mi ml)), (132, .inr (.inl (0, 4, th4))), (133, .inr (.inl (0, 4, upd sx j.toNatClampNeg (sx (j - (Int32.ofInt 1)).toNatClampNeg))))]) rfl rfl (by omega) (by omega) rfl rfl ?_
        refine ex_iinc cg_207 (ix := 30) (pc' := 47) (L' := [some (.inr (.inl 119)), some (.inl (.int i)), some (.inl (.int (j + Int32.ofInt (-1))))]) rfl rfl rfl rfl rfl ?_
        refine ex_goto cg_207 (ix := 31) (pc' := 9) rfl rfl ?_
        refine ih _ (by rw [cx_addc (by omega) (by omega)]; omega) (by omega) _ (fun p h1 => ?_) (fun p h1 h2 => ?_) (fun p h1 h2 => ?_) (fun p h1 => ?_)
        · rw [hjc]
          unfold upd
          rw [if_neg (by omega)]; exact hs1 p (by omega)
        · rw [hjc]
          unfold upd
          by_cases e : p = jN + 1
          · rw [e, if_pos rfl, Nat.add_sub_cancel]; exact hsv
          · rw [if_neg e]; exact hs2 p (by omega) h2
        · by_cases e : p = jN
          · rw [e]; omega
          · exact hs3 p (by omega) h2
        · rw [hjc]
          unfold upd
          split
          · have := hw9 jN (by omega)
            omega
          · exact hsU p h1
theorem co_loop {mi : Nat → Int32} {ml : Nat → Int64} {th4 : Nat → Int32} {y : Nat → Nat} {P : Option cx_V → cx_H → Prop} (hth : ∀ i : Nat, i < 4 → (th4 i).toInt = ((y i : Nat) : Int)) (hy9 : ∀ i : Nat, i < 4 → y i < 9) (hP : ∀ (z : Int32) (so2 : Nat → Int32) (w : Nat → Nat), ((∀ i : Nat, i < 4 → (so2 i).toInt = ((w i : Nat) : Int)) ∧ ascN w 4 ∧ (∀ v : Nat, cntV w 4 v = cntV y 4 v) ∧ (∀ i : Nat, i < 4 → w i < 9) ∧ thU so2 ∧ z.toInt = ((cdS w : Nat) : Int)) → P (some (.inl (.int z))) ([(119, .inl (11, vs_119 mi ml)), (132, .inr (.inl (0, 4, th4))), (133, .inr (.inl (0, 4, so2)))])) :
    ∀ (m k : Nat), k + m = 4 → ∀ i : Int32, i.toInt = (k : Int) → ∀ (w : Nat → Nat) (sx : Nat → Int32) (A : Option cx_V), (∀ p : Nat, p < k → (sx p).toInt = ((w p : Nat) : Int)) → ascN w k → (∀ v : Nat, cntV w k v = cntV y k v) → (∀ p : Nat, p < k → w p < 9) → thU sx → cx_T 2 207 [119, 132, 133] 2 ([some (.inr (.inl 119)), some (.inl (.int i)), A], [], [(119, .inl (11, vs_119 mi ml)), (132, .inr (.inl (0, 4, th4))), (133, .inr (.inl (0, 4, sx)))]) P := by
  have kcm1 : (Int32.ofInt (-1)).toInt = -1 := by decide +kernel
  have kc0 : (Int32.ofInt 0).toInt = 0 := by decide +kernel
  have kc1 : (Int32.ofInt 1).toInt = 1 := by decide +kernel
  have kc2 : (Int32.ofInt 2).toInt = 2 := by decide +kernel
  have kc3 : (Int32.ofInt 3).toInt = 3 := by decide +kernel
  have kc4 : (Int32.ofInt 4).toInt = 4 := by decide +kernel
  have kc9 : (Int32.ofInt 9).toInt = 9 := by decide +kernel
  intro m
  induction m with
  | zero =>
    intro k hk i hi w sx A hsx hwa hwc hw9 hsU
    have ek : k = 4 := by omega
    refine ex_iload_n cg_207 (ix := 2) (pc' := 3) rfl rfl rfl ?_
    refine ex_iconst cg_207 (ix := 3) (pc' := 4) rfl rfl ?_
    refine ex_icmp cg_207 (ix := 4) (t := 68) (pc' := 7) rfl rfl rfl (fun hb4 => ?_) (fun hb4 => ?_)
    · have hb4 : (Int32.ofInt 4).toInt ≤ i.toInt := hb4
      refine ex_aload_n cg_207 (ix := 42) (pc' := 69) rfl rfl rfl ?_
      refine ex_getfield cg_207 (ix := 43) (pc' := 72) (v := .inr (.inl 133)) rfl rfl rfl rfl rfl ?_
      refine ex_iconst cg_207 (ix := 44) (pc' := 73) rfl rfl ?_
      refine ex_iaload cg_207 (ix := 45) (pc' := 74) rfl rfl (by omega) (by omega) rfl ?_
      refine ex_bipush cg_207 (ix := 46) (pc' := 76) rfl rfl rfl ?_
      refine ex_imul cg_207 (ix := 47) (pc' := 77) rfl rfl ?_
      refine ex_aload_n cg_207 (ix := 48) (pc' := 78) rfl rfl rfl ?_
      refine ex_getfield cg_207 (ix := 49) (pc' := 81) (v := .inr (.inl 133)) rfl rfl rfl rfl rfl ?_
      refine ex_iconst cg_207 (ix := 50) (pc' := 82) rfl rfl ?_
      refine ex_iaload cg_207 (ix := 51) (pc' := 83) rfl rfl (by omega) (by omega) rfl ?_
      refine ex_iadd cg_207 (ix := 52) (pc' := 84) rfl rfl ?_
      refine ex_bipush cg_207 (ix := 53) (pc' := 86) rfl rfl rfl ?_
      refine ex_imul cg_207 (ix := 54) (pc' := 87) rfl rfl ?_
      refine ex_aload_n cg_207 (ix := 55) (pc' := 88) rfl rfl rfl ?_
      refine ex_getfield cg_207 (ix := 56) (pc' := 91) (v := .inr (.inl 133)) rfl rfl rfl rfl rfl ?_
      refine ex_iconst cg_207 (ix := 57) (pc' := 92) rfl rfl ?_
      refine ex_iaload cg_207 (ix := 58) (pc' := 93) rfl rfl (by omega) (by omega) rfl ?_
      refine ex_iadd cg_207 (ix := 59) (pc' := 94) rfl rfl ?_
      refine ex_bipush cg_207 (ix := 60) (pc' := 96) rfl rfl rfl ?_
      refine ex_imul cg_207 (ix := 61) (pc' := 97) rfl rfl ?_
      refine ex_aload_n cg_207 (ix := 62) (pc' := 98) rfl rfl rfl ?_
      refine ex_getfield cg_207 (ix := 63) (pc' := 101) (v := .inr (.inl 133)) rfl rfl rfl rfl rfl ?_
      refine ex_iconst cg_207 (ix := 64) (pc' := 102) rfl rfl ?_
      refine ex_iaload cg_207 (ix := 65) (pc' := 103) rfl rfl (by omega) (by omega) rfl ?_
      refine ex_iadd cg_207 (ix := 66) (pc' := 104) rfl rfl ?_
      refine ex_ireturn cg_207 (ix := 67) rfl ?_
      rw [ek] at hsx hwa hwc hw9
      have b0 := hw9 0 (by omega)
      have b1 := hw9 1 (by omega)
      have b2 := hw9 2 (by omega)
      have b3 := hw9 3 (by omega)
      have c0 : (sx (Int32.ofInt 0).toNatClampNeg).toInt = ((w 0 : Nat) : Int) := by
        rw [show (Int32.ofInt 0).toNatClampNeg = 0 from by decide +kernel]
        exact hsx 0 (by omega)
      have c1 : (sx (Int32.ofInt 1).toNatClampNeg).toInt = ((w 1 : Nat) : Int) := by
        rw [show (Int32.ofInt 1).toNatClampNeg = 1 from by decide +kernel]
        exact hsx 1 (by omega)
      have c2 : (sx (Int32.ofInt 2).toNatClampNeg).toInt = ((w 2 : Nat) : Int) := by
        rw [show (Int32.ofInt 2).toNatClampNeg = 2 from by decide +kernel]
        exact hsx 2 (by omega)
      have c3 : (sx (Int32.ofInt 3).toNatClampNeg).toInt = ((w 3 : Nat) : Int) := by
        rw [show (Int32.ofInt 3).toNatClampNeg = 3 from by decide +kernel]
        exact hsx 3 (by omega)
      have m1 : (sx (Int32.ofInt 0).toNatClampNeg * Int32.ofInt 9).toInt = 9 * (w 0 : Int) := by rw [cx_mulk2 kc9 (by omega) (by omega), c0]
      have a1 : (sx (Int32.ofInt 0).toNatClampNeg * Int32.ofInt 9 + sx (Int32.ofInt 1).toNatClampNeg).toInt = 9 * (w 0 : Int) + w 1 := by rw [cx_addc (by omega) (by omega), m1, c1]
      have m2 : ((sx (Int32.ofInt 0).toNatClampNeg * Int32.ofInt 9 + sx (Int32.ofInt 1).toNatClampNeg) * Int32.ofInt 9).toInt = 81 * (w 0 : Int) + 9 * w 1 := by
        rw [cx_mulk2 kc9 (by omega) (by omega), a1]
        omega
      have a2 : ((sx (Int32.ofInt 0).toNatClampNeg * Int32.ofInt 9 + sx (Int32.ofInt 1).toNatClampNeg) * Int32.ofInt 9 + sx (Int32.ofInt 2).toNatClampNeg).toInt = 81 * (w 0 : Int) + 9 * w 1 + w 2 := by rw [cx_addc (by omega) (by omega), m2, c2]
      have m3 : (((sx (Int32.ofInt 0).toNatClampNeg * Int32.ofInt 9 + sx (Int32.ofInt 1).toNatClampNeg) * Int32.ofInt 9 + sx (Int32.ofInt 2).toNatClampNeg) * Int32.ofInt 9).toInt = 729 * (w 0 : Int) + 81 * w 1 + 9 * w 2 := by
        rw [cx_mulk2 kc9 (by omega) (by omega), a2]
        omega
      refine hP _ sx w ⟨hsx, hwa, hwc, hw9, hsU, ?_⟩
      rw [cx_addc (by omega) (by omega), m3, c3]
      unfold cdS
      omega
    · have hb4 : ¬ ((Int32.ofInt 4).toInt ≤ i.toInt) := hb4
      exfalso; first | omega | exact absurd hb4 (by decide +kernel)
  | succ m ih =>
    intro k hk i hi w sx A hsx hwa hwc hw9 hsU
    have hik : i.toNatClampNeg = k := cx_clamp hi
    have hyk : (th4 i.toNatClampNeg).toInt = ((y k : Nat) : Int) := by
      rw [hik]
      exact hth k (by omega)
    refine ex_iload_n cg_207 (ix := 2) (pc' := 3) rfl rfl rfl ?_
    refine ex_iconst cg_207 (ix := 3) (pc' := 4) rfl rfl ?_
    refine ex_icmp cg_207 (ix := 4) (t := 68) (pc' := 7) rfl rfl rfl (fun hb4 => ?_) (fun hb4 => ?_)
    · have hb4 : (Int32.ofInt 4).toInt ≤ i.toInt := hb4
      exfalso; first | omega | exact absurd hb4 (by decide +kernel)
    · have hb4 : ¬ ((Int32.ofInt 4).toInt ≤ i.toInt) := hb4
      refine ex_iload_n cg_207 (ix := 5) (pc' := 8) rfl rfl rfl ?_
      refine ex_istore_n cg_207 (ix := 6) (pc' := 9) (L' := [some (.inr (.inl 119)), some (.inl (.int i)), some (.inl (.int i))]) rfl rfl rfl rfl ?_
      refine ci_loop (mi := mi) (ml := ml) (th4 := th4) (y := y) (w := w) (i := i) (k := k) hth hy9 hi (by omega) hw9 (P := P) (fun j jN sx2 hj hjk hs1 hs2 hs3 hsU2 hs4 => ?_) k i hi (Nat.le_refl _) sx hsx (fun p h1 h2 => absurd h1 (by omega)) (fun p h1 h2 => absurd h1 (by omega)) hsU
      refine ex_aload_n cg_207 (ix := 32) (pc' := 51) rfl rfl rfl ?_
      refine ex_getfield cg_207 (ix := 33) (pc' := 54) (v := .inr (.inl 133)) rfl rfl rfl rfl rfl ?_
      refine ex_iload_n cg_207 (ix := 34) (pc' := 55) rfl rfl rfl ?_
      refine ex_aload_n cg_207 (ix := 35) (pc' := 56) rfl rfl rfl ?_
      refine ex_getfield cg_207 (ix := 36) (pc' := 59) (v := .inr (.inl 132)) rfl rfl rfl rfl rfl ?_
      refine ex_iload_n cg_207 (ix := 37) (pc' := 60) rfl rfl rfl ?_
      refine ex_iaload cg_207 (ix := 38) (pc' := 61) rfl rfl (by omega) (by omega) rfl ?_
      refine ex_iastore cg_207 (ix := 39) (pc' := 62) (h' := [(119, .inl (11, vs_119 mi ml)), (132, .inr (.inl (0, 4, th4))), (133, .inr (.inl (0, 4, upd sx2 j.toNatClampNeg (th4 i.toNatClampNeg))))]) rfl rfl (by omega) (by omega) rfl rfl ?_
      refine ex_iinc cg_207 (ix := 40) (pc' := 65) (L' := [some (.inr (.inl 119)), some (.inl (.int (i + Int32.ofInt 1))), some (.inl (.int j))]) rfl rfl rfl rfl rfl ?_
      refine ex_goto cg_207 (ix := 41) (pc' := 2) rfl rfl ?_
      refine ih (k + 1) (by omega) _ (by rw [cx_addc (by omega) (by omega)]; omega) (insV w jN (y k)) _ _ (fun p h1 => ?_) ?_ (fun v => ?_) (fun p h1 => ?_) (fun p h1 => ?_)
      · rw [cx_clamp hj]
        unfold upd
        by_cases e : p = jN
        · rw [if_pos e, e, insV_me]; exact hyk
        · rw [if_neg e]
          by_cases e2 : p < jN
          · rw [insV_lt e2]; exact hs1 p e2
          · rw [insV_gt (by omega)]; exact hs2 p (by omega) (by omega)
      · exact ins_asc hjk hwa (fun p h1 => Nat.le_trans (hwa p (jN - 1) (by omega) (by omega)) (hs4 (jN - 1) (by omega) (by omega))) (fun p h1 h2 => Nat.le_of_lt (hs3 p h1 h2))
      · have hic := ins_cnt (f := w) (j := jN) (v := y k) (x := v) (n := k - jN)
        rw [show jN + (k - jN) = k by omega] at hic
        rw [hic, hwc v, cntV]
        omega
      · by_cases e : p = jN
        · rw [e, insV_me]; exact hy9 k (by omega)
        · by_cases e2 : p < jN
          · rw [insV_lt e2]; exact hw9 p (by omega)
          · rw [insV_gt (by omega)]; exact hw9 (p - 1) (by omega)
      · rw [cx_clamp hj]
        unfold upd
        split
        · have := hy9 k (by omega)
          omega
        · exact hsU2 p h1
theorem ct_co {mi : Nat → Int32} {ml : Nat → Int64} {th4 : Nat → Int32} {y : Nat → Nat} {so : Nat → Int32} (hth : ∀ i : Nat, i < 4 → (th4 i).toInt = ((y i : Nat) : Int)) (hy9 : ∀ i : Nat, i < 4 → y i < 9) (hsoU : thU so) : cx_Ct 2 207 [.inr (.inl 119)] ([(119, .inl (11, vs_119 mi ml)), (132, .inr (.inl (0, 4, th4))), (133, .inr (.inl (0, 4, so)))]) (fun v h2 => ∃ (z : Int32) (so2 : Nat → Int32) (w : Nat → Nat), v = some (.inl (.int z)) ∧ h2 = [(119, .inl (11, vs_119 mi ml)), (132, .inr (.inl (0, 4, th4))), (133, .inr (.inl (0, 4, so2)))] ∧ (∀ i : Nat, i < 4 → (so2 i).toInt = ((w i : Nat) : Int)) ∧ ascN w 4 ∧ (∀ v : Nat, cntV w 4 v = cntV y 4 v) ∧ (∀ i : Nat, i < 4 → w i < 9) ∧ thU so2 ∧ z.toInt = ((cdS w : Nat) : Int)) := by
  have kc0 : (Int32.ofInt 0).toInt = 0 := by decide +kernel
  have kc4 : (Int32.ofInt 4).toInt = 4 := by decide +kernel
  have kc1 : (Int32.ofInt 1).toInt = 1 := by decide +kernel
  have kcm1 : (Int32.ofInt (-1)).toInt = -1 := by decide +kernel
  have kc9 : (Int32.ofInt 9).toInt = 9 := by decide +kernel
  have kc2 : (Int32.ofInt 2).toInt = 2 := by decide +kernel
  have kc3 : (Int32.ofInt 3).toInt = 3 := by decide +kernel
  refine cx_Ct.of cg_207 (nL := 3) rfl rfl rfl ?_
  show cx_T 2 207 [119, 132, 133] 0 ([some (.inr (.inl 119)), none, none], [], ([(119, .inl (11, vs_119 mi ml)), (132, .inr (.inl (0, 4, th4))), (133, .inr (.inl (0, 4, so)))])) _
  refine ex_iconst cg_207 (ix := 0) (pc' := 1) rfl rfl ?_
  refine ex_istore_n cg_207 (ix := 1) (pc' := 2) (L' := [some (.inr (.inl 119)), some (.inl (.int (Int32.ofInt 0))), none]) rfl rfl rfl rfl ?_
  exact co_loop (mi := mi) (ml := ml) (th4 := th4) (y := y) hth hy9 (P := fun v h2 => ∃ (z : Int32) (so2 : Nat → Int32) (w : Nat → Nat), v = some (.inl (.int z)) ∧ h2 = [(119, .inl (11, vs_119 mi ml)), (132, .inr (.inl (0, 4, th4))), (133, .inr (.inl (0, 4, so2)))] ∧ (∀ i : Nat, i < 4 → (so2 i).toInt = ((w i : Nat) : Int)) ∧ ascN w 4 ∧ (∀ v : Nat, cntV w 4 v = cntV y 4 v) ∧ (∀ i : Nat, i < 4 → w i < 9) ∧ thU so2 ∧ z.toInt = ((cdS w : Nat) : Int)) (fun z so2 w h1 => ⟨z, so2, w, rfl, rfl, h1⟩) 4 0 (by omega) (Int32.ofInt 0) (by decide +kernel) (fun _ => 0) so none (fun p h1 => absurd h1 (Nat.not_lt_zero p)) (fun i k _ h1 => absurd h1 (Nat.not_lt_zero k)) (fun _ => rfl) (fun p h1 => absurd h1 (Nat.not_lt_zero p)) hsoU
end
