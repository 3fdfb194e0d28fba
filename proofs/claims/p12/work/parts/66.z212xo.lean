noncomputable section
/-- the table of an hour, so far as the codes below k: the least risk of the sorted states that there may be -/
def roL (nb : Nat → Nat → Prop) (rk : Nat → (Nat → Nat) → Nat) (G H : Nat) (ro : Nat → Int32) (q k : Nat) : Prop := ∀ w : Nat → Nat, ascN w 4 → (∀ i : Nat, i < 4 → w i < 9) → (∀ i : Nat, i < 4 - G → w i = 0) → (q = 0 → cdS w = 0) → cdS w < k → (ro (6561 * q + cdS w)).toInt = ((LV nb rk G (H - q) (spI (fsC w 4)) (zsC w 4 - (4 - G)) : Nat) : Int)
section ROL
variable {nb : Nat → Nat → Prop} {rk : Nat → (Nat → Nat) → Nat} {G H q k : Nat} {ro : Nat → Int32}
theorem roL_skip (h : roL nb rk G H ro q k) (hn : ∀ w : Nat → Nat, ascN w 4 → (∀ i : Nat, i < 4 → w i < 9) → (q = 0 → cdS w = 0) → ¬ cdS w = k) : roL nb rk G H ro q (k + 1) := fun w h1 h2 h3 h4 h5 => h w h1 h2 h3 h4 (by
  have := hn w h1 h2 h4
  omega)
theorem roL_oth {v : Int32} {p n : Nat} (h : roL nb rk G H ro q n) (hk : k < 6561) (hp : p < q) : roL nb rk G H (upd ro (6561 * p + k) v) q n := fun w h1 h2 h3 h4 h5 => by
  have h6 := (dS_cd h2).1
  have e : upd ro (6561 * p + k) v (6561 * q + cdS w) = ro (6561 * q + cdS w) := by
    show (if 6561 * q + cdS w = 6561 * p + k then v else ro (6561 * q + cdS w)) = _
    rw [if_neg (by omega)]
  rw [e]
  exact h w h1 h2 h3 h4 h5
theorem roL_set {v : Int32} (h : roL nb rk G H ro q k) (hv : ∀ w : Nat → Nat, ascN w 4 → (∀ i : Nat, i < 4 → w i < 9) → (∀ i : Nat, i < 4 - G → w i = 0) → cdS w = k → v.toInt = ((LV nb rk G (H - q) (spI (fsC w 4)) (zsC w 4 - (4 - G)) : Nat) : Int)) : roL nb rk G H (upd ro (6561 * q + k) v) q (k + 1) := fun w h1 h2 h3 h4 h5 => by
  by_cases e : cdS w = k
  · have e2 : upd ro (6561 * q + k) v (6561 * q + cdS w) = v := by
      show (if 6561 * q + cdS w = 6561 * q + k then v else ro (6561 * q + cdS w)) = _
      rw [if_pos (by rw [e])]
    rw [e2]
    exact hv w h1 h2 h3 e
  · have e2 : upd ro (6561 * q + k) v (6561 * q + cdS w) = ro (6561 * q + cdS w) := by
      show (if 6561 * q + cdS w = 6561 * q + k then v else ro (6561 * q + cdS w)) = _
      rw [if_neg (by omega)]
    rw [e2]
    exact h w h1 h2 h3 h4 (by omega)
end ROL
/-- digits in their order -/
def ascD (k : Nat) : Prop := k / 729 ≤ k / 81 % 9 ∧ k / 81 % 9 ≤ k / 9 % 9 ∧ k / 9 % 9 ≤ k % 9
theorem asc_D {w : Nat → Nat} (h : ascN w 4) (h9 : ∀ i : Nat, i < 4 → w i < 9) : ascD (cdS w) := by
  obtain ⟨-, e⟩ := dS_cd h9
  have e0 := e 0 (by omega)
  have e1 := e 1 (by omega)
  have e2 := e 2 (by omega)
  have e3 := e 3 (by omega)
  rw [dS_0] at e0
  rw [dS_1] at e1
  rw [dS_2] at e2
  rw [dS_3] at e3
  have h01 := h 0 1 (by omega) (by omega)
  have h12 := h 1 2 (by omega) (by omega)
  have h23 := h 2 3 (by omega) (by omega)
  unfold ascD
  omega
/-- what a state's code found is what the state is due -/
theorem fr_val {nb : Nat → Nat → Prop} {rk : Nat → (Nat → Nat) → Nat} {G j k : Nat} {v : Int} (hk : ∀ j c d, (∀ b, b < 4 → c b = d b) → rk j c = rk j d) (hr : ∀ j c, rk j c ≤ 100000) (hj : j ≤ 90) (hG : G ≤ 4) (hk6 : k < 6561) (h : (∀ i : Nat, i < 4 - G → dS k i = 0) → frI (fun K => ∀ i, i < 4 → okG nb True G (dS k) (dgK K) i) (totK (rk j) (LV nb rk G j) G (dS k)) 625 v) : ∀ w : Nat → Nat, ascN w 4 → (∀ i : Nat, i < 4 → w i < 9) → (∀ i : Nat, i < 4 - G → w i = 0) → cdS w = k → v = ((LV nb rk G (j + 1) (spI (fsC w 4)) (zsC w 4 - (4 - G)) : Nat) : Int) := fun w h1 h2 h3 h4 => by
  obtain ⟨-, e⟩ := dS_cd h2
  rw [h4] at e
  have hz : ∀ i : Nat, i < 4 - G → dS k i = 0 := fun i hi => by rw [e i (by omega)]; exact h3 i hi
  have h5 := fr_end hk hr hj hG (dS_9 hk6) hz (h hz)
  obtain ⟨u1, u2⟩ := cnt_same (f := dS k) (g := w) (m := 4) (fun v => cntV_E e)
  rw [u1, u2] at h5
  exact h5
theorem rq_in {mi : Nat → Int32} {ml : Nat → Int64} {mm mh ro fo4 th4 so ab : Nat → Int32} {x y h a z : Int32} {k : Nat} {A : Option cx_V} {P : Option cx_V → cx_H → Prop} (hzk : z.toInt = (k : Int)) (hk6 : k < 6561) (hP : ∀ v : Int32, ((ascD k ∧ v = Int32.ofInt 1) ∨ (¬ ascD k ∧ v = Int32.ofInt 0)) → cx_T 6 211 [119, 120, 124, 130, 131, 132, 133, 134] 114 ([some (.inr (.inl 119)), some (.inl (.int x)), some (.inl (.int y)), some (.inl (.int h)), some (.inl (.int a)), some (.inl (.int z)), A], [.inl (.int v)], [(119, .inl (11, vs_119 mi ml)), (120, .inr (.inl (0, 4, mm))), (124, .inr (.inl (0, 64, mh))), (130, .inr (.inl (0, 45927, ro))), (131, .inr (.inl (0, 4, fo4))), (132, .inr (.inl (0, 4, th4))), (133, .inr (.inl (0, 4, so))), (134, .inr (.inl (0, 5, ab)))]) P) : cx_T 6 211 [119, 120, 124, 130, 131, 132, 133, 134] 57 ([some (.inr (.inl 119)), some (.inl (.int x)), some (.inl (.int y)), some (.inl (.int h)), some (.inl (.int a)), some (.inl (.int z)), A], [], [(119, .inl (11, vs_119 mi ml)), (120, .inr (.inl (0, 4, mm))), (124, .inr (.inl (0, 64, mh))), (130, .inr (.inl (0, 45927, ro))), (131, .inr (.inl (0, 4, fo4))), (132, .inr (.inl (0, 4, th4))), (133, .inr (.inl (0, 4, so))), (134, .inr (.inl (0, 5, ab)))]) P := by
  have kc9 : (Int32.ofInt 9).toInt = 9 := by decide +kernel
  have kc81 : (Int32.ofInt 81).toInt = 81 := by decide +kernel
  have kc729 : (Int32.ofInt 729).toInt = 729 := by decide +kernel
  have kc6561 : (Int32.ofInt 6561).toInt = 6561 := by decide +kernel
  have kc0 : (Int32.ofInt 0).toInt = 0 := by decide +kernel
  have kc1 : (Int32.ofInt 1).toInt = 1 := by decide +kernel
  have d729 : (z / Int32.ofInt 729).toInt = ((k / 729 : Nat) : Int) := by
    rw [(ro_dm (by omega) (by omega)).1, hzk, kc729]
    omega
  have d81 : (z / Int32.ofInt 81).toInt = ((k / 81 : Nat) : Int) := by
    rw [(ro_dm (by omega) (by omega)).1, hzk, kc81]
    omega
  have d9 : (z / Int32.ofInt 9).toInt = ((k / 9 : Nat) : Int) := by
    rw [(ro_dm (by omega) (by omega)).1, hzk, kc9]
    omega
  have r81 : (z / Int32.ofInt 81 - z / Int32.ofInt 81 / Int32.ofInt 9 * Int32.ofInt 9).toInt = ((k / 81 % 9 : Nat) : Int) := by
    rw [(ro_dm (by omega) (by omega)).2, d81, kc9]
    omega
  have r9 : (z / Int32.ofInt 9 - z / Int32.ofInt 9 / Int32.ofInt 9 * Int32.ofInt 9).toInt = ((k / 9 % 9 : Nat) : Int) := by
    rw [(ro_dm (by omega) (by omega)).2, d9, kc9]
    omega
  have r1 : (z - z / Int32.ofInt 9 * Int32.ofInt 9).toInt = ((k % 9 : Nat) : Int) := by
    rw [(ro_dm (by omega) (by omega)).2, hzk, kc9]
    omega
  refine ex_iload cg_211 (ix := 33) (pc' := 59) rfl rfl rfl ?_
  refine ex_sipush cg_211 (ix := 34) (pc' := 62) rfl rfl rfl ?_
  refine ex_idiv cg_211 (ix := 35) (pc' := 63) rfl (by decide +kernel) rfl ?_
  refine ex_iload cg_211 (ix := 36) (pc' := 65) rfl rfl rfl ?_
  refine ex_bipush cg_211 (ix := 37) (pc' := 67) rfl rfl rfl ?_
  refine ex_idiv cg_211 (ix := 38) (pc' := 68) rfl (by decide +kernel) rfl ?_
  refine ex_bipush cg_211 (ix := 39) (pc' := 70) rfl rfl rfl ?_
  refine ex_irem cg_211 (ix := 40) (pc' := 71) rfl (by decide +kernel) rfl ?_
  refine ex_icmp cg_211 (ix := 41) (t := 113) (pc' := 74) rfl rfl rfl (fun hb71 => ?_) (fun hb71 => ?_)
  · have hb71 : ((z / (Int32.ofInt 81)) - (z / (Int32.ofInt 81)) / (Int32.ofInt 9) * (Int32.ofInt 9)).toInt < (z / (Int32.ofInt 729)).toInt := hb71
    refine ex_iconst cg_211 (ix := 64) (pc' := 114) rfl rfl ?_
    exact hP _ (Or.inr ⟨by unfold ascD; omega, rfl⟩)
  · have hb71 : ¬ (((z / (Int32.ofInt 81)) - (z / (Int32.ofInt 81)) / (Int32.ofInt 9) * (Int32.ofInt 9)).toInt < (z / (Int32.ofInt 729)).toInt) := hb71
    refine ex_iload cg_211 (ix := 42) (pc' := 76) rfl rfl rfl ?_
    refine ex_bipush cg_211 (ix := 43) (pc' := 78) rfl rfl rfl ?_
    refine ex_idiv cg_211 (ix := 44) (pc' := 79) rfl (by decide +kernel) rfl ?_
    refine ex_bipush cg_211 (ix := 45) (pc' := 81) rfl rfl rfl ?_
    refine ex_irem cg_211 (ix := 46) (pc' := 82) rfl (by decide +kernel) rfl ?_
    refine ex_iload cg_211 (ix := 47) (pc' := 84) rfl rfl rfl ?_
    refine ex_bipush cg_211 (ix := 48) (pc' := 86) rfl rfl rfl ?_
    refine ex_idiv cg_211 (ix := 49) (pc' := 87) rfl (by decide +kernel) rfl ?_
    refine ex_bipush cg_211 (ix := 50) (pc' := 89) rfl rfl rfl ?_
    refine ex_irem cg_211 (ix := 51) (pc' := 90) rfl (by decide +kernel) rfl ?_
    refine ex_icmp cg_211 (ix := 52) (t := 113) (pc' := 93) rfl rfl rfl (fun hb90 => ?_) (fun hb90 => ?_)
    · have hb90 : ((z / (Int32.ofInt 9)) - (z / (Int32.ofInt 9)) / (Int32.ofInt 9) * (Int32.ofInt 9)).toInt < ((z / (Int32.ofInt 81)) - (z / (Int32.ofInt 81)) / (Int32.ofInt 9) * (Int32.ofInt 9)).toInt := hb90
      refine ex_iconst cg_211 (ix := 64) (pc' := 114) rfl rfl ?_
      exact hP _ (Or.inr ⟨by unfold ascD; omega, rfl⟩)
    · have hb90 : ¬ (((z / (Int32.ofInt 9)) - (z / (Int32.ofInt 9)) / (Int32.ofInt 9) * (Int32.ofInt 9)).toInt < ((z / (Int32.ofInt 81)) - (z / (Int32.ofInt 81)) / (Int32.ofInt 9) * (Int32.ofInt 9)).toInt) := hb90
      refine ex_iload cg_211 (ix := 53) (pc' := 95) rfl rfl rfl ?_
      refine ex_bipush cg_211 (ix := 54) (pc' := 97) rfl rfl rfl ?_
      refine ex_idiv cg_211 (ix := 55) (pc' := 98) rfl (by decide +kernel) rfl ?_
      refine ex_bipush cg_211 (ix := 56) (pc' := 100) rfl rfl rfl ?_
      refine ex_irem cg_211 (ix := 57) (pc' := 101) rfl (by decide +kernel) rfl ?_
      refine ex_iload cg_211 (ix := 58) (pc' := 103) rfl rfl rfl ?_
      refine ex_bipush cg_211 (ix := 59) (pc' := 105) rfl rfl rfl ?_
      refine ex_irem cg_211 (ix := 60) (pc' := 106) rfl (by decide +kernel) rfl ?_
      refine ex_icmp cg_211 (ix := 61) (t := 113) (pc' := 109) rfl rfl rfl (fun hb106 => ?_) (fun hb106 => ?_)
      · have hb106 : (z - z / (Int32.ofInt 9) * (Int32.ofInt 9)).toInt < ((z / (Int32.ofInt 9)) - (z / (Int32.ofInt 9)) / (Int32.ofInt 9) * (Int32.ofInt 9)).toInt := hb106
        refine ex_iconst cg_211 (ix := 64) (pc' := 114) rfl rfl ?_
        exact hP _ (Or.inr ⟨by unfold ascD; omega, rfl⟩)
      · have hb106 : ¬ ((z - z / (Int32.ofInt 9) * (Int32.ofInt 9)).toInt < ((z / (Int32.ofInt 9)) - (z / (Int32.ofInt 9)) / (Int32.ofInt 9) * (Int32.ofInt 9)).toInt) := hb106
        refine ex_iconst cg_211 (ix := 62) (pc' := 110) rfl rfl ?_
        refine ex_goto cg_211 (ix := 63) (pc' := 114) rfl rfl ?_
        exact hP _ (Or.inl ⟨by unfold ascD; omega, rfl⟩)
theorem rc_loop {mi : Nat → Int32} {ml : Nat → Int64} {mm mh : Nat → Int32} {hd : Nat → Nat → Int32} {x y h a : Int32} {sN aN e H gN : Nat} {P : Option cx_V → cx_H → Prop} (hmm : ∀ b : Nat, b < 4 → 0 ≤ (mm b).toInt ∧ (mm b).toInt ≤ 40) (hmh : ∀ b h : Nat, b < 4 → h < 16 → (mh (16 * b + h)).toInt = (hd b h).toInt) (hhd : hdH hd) (hx : x.toInt = (sN : Int)) (hH : sN + H = e) (hH1 : 1 ≤ H) (hH6 : H ≤ 6) (he : e ≤ 16) (hh : h.toInt = (H : Int)) (hg : (mi 8).toInt = (gN : Int)) (hg4 : gN ≤ 4) (hS : ¬ (mi 21).toInt = 0) (ha : a.toInt = (aN : Int)) (haH : aN ≤ H) (hP : ∀ (ro fo4 th4 so ab : Nat → Int32) (i : Int32) (A : Option cx_V), (∀ i : Nat, i < 4 → 0 ≤ (fo4 i).toInt ∧ (fo4 i).toInt ≤ 8) → thU th4 → thU so → abU ab → (∀ q : Nat, aN < q → q ≤ H → roL (nbF mm) (rkE hd e) gN H ro q 6561) → roL (nbF mm) (rkE hd e) gN H ro aN 6561 → cx_T 6 211 [119, 120, 124, 130, 131, 132, 133, 134] 173 ([some (.inr (.inl 119)), some (.inl (.int x)), some (.inl (.int y)), some (.inl (.int h)), some (.inl (.int a)), some (.inl (.int i)), A], [], [(119, .inl (11, vs_119 mi ml)), (120, .inr (.inl (0, 4, mm))), (124, .inr (.inl (0, 64, mh))), (130, .inr (.inl (0, 45927, ro))), (131, .inr (.inl (0, 4, fo4))), (132, .inr (.inl (0, 4, th4))), (133, .inr (.inl (0, 4, so))), (134, .inr (.inl (0, 5, ab)))]) P) :
    ∀ (m k : Nat), k + m = 6561 → ∀ i : Int32, i.toInt = (k : Int) → ∀ (ro fo4 th4 so ab : Nat → Int32) (A : Option cx_V), (∀ i : Nat, i < 4 → 0 ≤ (fo4 i).toInt ∧ (fo4 i).toInt ≤ 8) → thU th4 → thU so → abU ab → (∀ q : Nat, aN < q → q ≤ H → roL (nbF mm) (rkE hd e) gN H ro q 6561) → roL (nbF mm) (rkE hd e) gN H ro aN k → cx_T 6 211 [119, 120, 124, 130, 131, 132, 133, 134] 49 ([some (.inr (.inl 119)), some (.inl (.int x)), some (.inl (.int y)), some (.inl (.int h)), some (.inl (.int a)), some (.inl (.int i)), A], [], [(119, .inl (11, vs_119 mi ml)), (120, .inr (.inl (0, 4, mm))), (124, .inr (.inl (0, 64, mh))), (130, .inr (.inl (0, 45927, ro))), (131, .inr (.inl (0, 4, fo4))), (132, .inr (.inl (0, 4, th4))), (133, .inr (.inl (0, 4, so))), (134, .inr (.inl (0, 5, ab)))]) P := by
  have kcm1 : (Int32.ofInt (-1)).toInt = -1 := by decide +kernel
  have kc0 : (Int32.ofInt 0).toInt = 0 := by decide +kernel
  have kc1 : (Int32.ofInt 1).toInt = 1 := by decide +kernel
  have kc9 : (Int32.ofInt 9).toInt = 9 := by decide +kernel
  have kc81 : (Int32.ofInt 81).toInt = 81 := by decide +kernel
  have kc729 : (Int32.ofInt 729).toInt = 729 := by decide +kernel
  have kc6561 : (Int32.ofInt 6561).toInt = 6561 := by decide +kernel
  intro m
  induction m with
  | zero =>
    intro k hk i hi ro fo4 th4 so ab A hfoU hthU hsoU habU hro1 hro2
    have ek : k = 6561 := by omega
    refine ex_iload cg_211 (ix := 30) (pc' := 51) rfl rfl rfl ?_
    refine ex_sipush cg_211 (ix := 31) (pc' := 54) rfl rfl rfl ?_
    refine ex_icmp cg_211 (ix := 32) (t := 173) (pc' := 57) rfl rfl rfl (fun hb54 => ?_) (fun hb54 => ?_)
    · have hb54 : (Int32.ofInt 6561).toInt ≤ i.toInt := hb54
      rw [ek] at hro2
      exact hP ro fo4 th4 so ab i A hfoU hthU hsoU habU hro1 hro2
    · have hb54 : ¬ ((Int32.ofInt 6561).toInt ≤ i.toInt) := hb54
      exfalso; first | omega | exact absurd hb54 (by decide +kernel)
  | succ m ih =>
    intro k hk i hi ro fo4 th4 so ab A hfoU hthU hsoU habU hro1 hro2
    have hik : i.toNatClampNeg = k := cx_clamp hi
    have hxa : (x + a).toInt = ((sN + aN : Nat) : Int) := by
      rw [cx_addc (by omega) (by omega)]
      omega
    have hm6 : (Int32.ofInt 6561 * a).toInt = 6561 * a.toInt := cx_mulk (by decide +kernel) (by omega) (by omega)
    have hix : (Int32.ofInt 6561 * a + i).toInt = ((6561 * aN + k : Nat) : Int) := by
      rw [cx_addc (by rw [hm6]; omega) (by rw [hm6]; omega), hm6]
      omega
    refine ex_iload cg_211 (ix := 30) (pc' := 51) rfl rfl rfl ?_
    refine ex_sipush cg_211 (ix := 31) (pc' := 54) rfl rfl rfl ?_
    refine ex_icmp cg_211 (ix := 32) (t := 173) (pc' := 57) rfl rfl rfl (fun hb54 => ?_) (fun hb54 => ?_)
    · have hb54 : (Int32.ofInt 6561).toInt ≤ i.toInt := hb54
      exfalso; first | omega | exact absurd hb54 (by decide +kernel)
    · have hb54 : ¬ ((Int32.ofInt 6561).toInt ≤ i.toInt) := hb54
      refine rq_in hi (by omega) (P := P) (fun v hv => ?_)
      refine ex_istore cg_211 (ix := 65) (pc' := 116) (L' := [some (.inr (.inl 119)), some (.inl (.int x)), some (.inl (.int y)), some (.inl (.int h)), some (.inl (.int a)), some (.inl (.int i)), some (.inl (.int v))]) rfl rfl rfl rfl ?_
      refine ex_iload cg_211 (ix := 66) (pc' := 118) rfl rfl rfl ?_
      refine ex_iload_n cg_211 (ix := 67) (pc' := 119) rfl rfl rfl ?_
      refine ex_icmp cg_211 (ix := 68) (t := 140) (pc' := 122) rfl rfl rfl (fun hb119 => ?_) (fun hb119 => ?_)
      · have hb119 : ¬ a.toInt = h.toInt := hb119
        refine ex_iload cg_211 (ix := 79) (pc' := 142) rfl rfl rfl ?_
        refine ex_if cg_211 (ix := 80) (t := 167) (pc' := 145) rfl rfl rfl (fun hb142 => ?_) (fun hb142 => ?_)
        · have hb142 : v.toInt = 0 := hb142
          have hvn : v.toInt = 0 → ¬ ascD k := fun z q0 => by
            rcases hv with ⟨-, q1⟩ | ⟨q1, -⟩
            · rw [q1] at z
              omega
            · exact q1 q0
          refine ex_iinc cg_211 (ix := 92) (pc' := 170) (L' := [some (.inr (.inl 119)), some (.inl (.int x)), some (.inl (.int y)), some (.inl (.int h)), some (.inl (.int a)), some (.inl (.int (i + Int32.ofInt 1))), some (.inl (.int v))]) rfl rfl rfl rfl rfl ?_
          refine ex_goto cg_211 (ix := 93) (pc' := 49) rfl rfl ?_
          refine ih (k + 1) (by omega) _ (by rw [cx_addc (by omega) (by omega)]; omega) ro fo4 th4 so ab _ hfoU hthU hsoU habU (fun q q1 q2 => hro1 q q1 q2) ?_
          refine roL_skip hro2 (fun w w1 w2 w3 w4 => ?_)
          first
          | (have w5 := asc_D w1 w2
             rw [w4] at w5
             exact hvn (by omega) w5)
          | (have w6 := w3 (by omega)
             omega)
        · have hb142 : ¬ (v.toInt = 0) := hb142
          refine ex_iload cg_211 (ix := 81) (pc' := 147) rfl rfl rfl ?_
          have hva : ascD k := by
            rcases hv with ⟨q1, -⟩ | ⟨-, q1⟩
            · exact q1
            · exact absurd (by rw [q1]; exact kc0) hb142
          refine ex_if cg_211 (ix := 82) (t := 155) (pc' := 150) rfl rfl rfl (fun hb147 => ?_) (fun hb147 => ?_)
          · have hb147 : 0 < a.toInt := hb147
            refine ex_aload_n cg_211 (ix := 85) (pc' := 156) rfl rfl rfl ?_
            refine ex_iload_n cg_211 (ix := 86) (pc' := 157) rfl rfl rfl ?_
            refine ex_iload cg_211 (ix := 87) (pc' := 159) rfl rfl rfl ?_
            refine ex_iadd cg_211 (ix := 88) (pc' := 160) rfl rfl ?_
            refine ex_iload cg_211 (ix := 89) (pc' := 162) rfl rfl rfl ?_
            refine ex_iload cg_211 (ix := 90) (pc' := 164) rfl rfl rfl ?_
            refine ex_callV cg_211 (ix := 91) (pc' := 167) (As := [.inl (.int (x + a)), .inl (.int a), .inl (.int i)]) (r := []) rfl rfl rfl (ct_fr (mi := mi) (ml := ml) (mm := mm) (mh := mh) (ro := ro) (fo4 := fo4) (th4 := th4) (so := so) (ab := ab) (hd := hd) (x := x + a) (y := a) (z := i) (hN := sN + aN) (aN := aN) (C := k) (gN := gN) (Lv := LV (nbF mm) (rkE hd e) gN (H - (aN + 1))) hmm (fun b hb => hmh b (sN + aN) hb (by omega)) hhd hxa (by omega) ha (by omega) hi (by omega) hg hg4 hS (fun f r => Nat.le_trans (LV_b (rkE_b (by omega) he hhd) (by omega)) (by omega)) (fun w w1 w2 w3 => hro1 (aN + 1) (by omega) (by omega) w w1 w2 w3 (fun z9 => absurd z9 (by omega)) (dS_cd w2).1) hthU hsoU habU) (by first | decide | omega) rfl rfl rfl ⟨rfl, rfl, rfl, rfl, rfl, rfl, rfl, rfl, trivial⟩ rfl rfl (fun v h2 hq => ?_)
            obtain ⟨rfl, fo5, th5, so5, ab5, vz, rfl, hfo5, hth5, hso5, hab5, hvz⟩ := hq
            show cx_T _ 211 _ 167 ([some (.inr (.inl 119)), some (.inl (.int x)), some (.inl (.int y)), some (.inl (.int h)), some (.inl (.int a)), some (.inl (.int i)), some (.inl (.int v))], [], [(119, .inl (11, vs_119 mi ml)), (120, .inr (.inl (0, 4, mm))), (124, .inr (.inl (0, 64, mh))), (130, .inr (.inl (0, 45927, (upd ro (6561 * aN + k) vz)))), (131, .inr (.inl (0, 4, fo5))), (132, .inr (.inl (0, 4, th5))), (133, .inr (.inl (0, 4, so5))), (134, .inr (.inl (0, 5, ab5)))]) _
            skip
            refine ex_iinc cg_211 (ix := 92) (pc' := 170) (L' := [some (.inr (.inl 119)), some (.inl (.int x)), some (.inl (.int y)), some (.inl (.int h)), some (.inl (.int a)), some (.inl (.int (i + Int32.ofInt 1))), some (.inl (.int v))]) rfl rfl rfl rfl rfl ?_
            refine ex_goto cg_211 (ix := 93) (pc' := 49) rfl rfl ?_
            refine ih (k + 1) (by omega) _ (by rw [cx_addc (by omega) (by omega)]; omega) _ fo5 th5 so5 ab5 _ hfo5 hth5 hso5 hab5 (fun q q1 q2 => roL_oth (hro1 q q1 q2) (by omega) q1) ?_
            refine roL_set hro2 ?_
            have w7 := fr_val (nb := nbF mm) (rk := rkE hd e) (G := gN) (j := H - (aN + 1)) (k := k) (v := vz.toInt) rkE_E (rkE_b (by omega) he hhd) (by omega) hg4 (by omega) (fun hc => by
              have w8 := hvz hc
              have w9 : rkE hd e (H - (aN + 1)) = rkH hd (sN + aN) := by
                unfold rkE
                rw [show e - 1 - (H - (aN + 1)) = sN + aN by omega]
              rw [w9]
              exact w8)
            rw [show H - (aN + 1) + 1 = H - aN by omega] at w7
            exact w7
          · have hb147 : ¬ (0 < a.toInt) := hb147
            refine ex_iload cg_211 (ix := 83) (pc' := 152) rfl rfl rfl ?_
            refine ex_if cg_211 (ix := 84) (t := 167) (pc' := 155) rfl rfl rfl (fun hb152 => ?_) (fun hb152 => ?_)
            · have hb152 : ¬ i.toInt = 0 := hb152
              have hvn : v.toInt = 0 → ¬ ascD k := fun z q0 => by
                rcases hv with ⟨-, q1⟩ | ⟨q1, -⟩
                · rw [q1] at z
                  omega
                · exact q1 q0
              refine ex_iinc cg_211 (ix := 92) (pc' := 170) (L' := [some (.inr (.inl 119)), some (.inl (.int x)), some (.inl (.int y)), some (.inl (.int h)), some (.inl (.int a)), some (.inl (.int (i + Int32.ofInt 1))), some (.inl (.int v))]) rfl rfl rfl rfl rfl ?_
              refine ex_goto cg_211 (ix := 93) (pc' := 49) rfl rfl ?_
              refine ih (k + 1) (by omega) _ (by rw [cx_addc (by omega) (by omega)]; omega) ro fo4 th4 so ab _ hfoU hthU hsoU habU (fun q q1 q2 => hro1 q q1 q2) ?_
              refine roL_skip hro2 (fun w w1 w2 w3 w4 => ?_)
              first
              | (have w5 := asc_D w1 w2
                 rw [w4] at w5
                 exact hvn (by omega) w5)
              | (have w6 := w3 (by omega)
                 omega)
            · have hb152 : ¬ (¬ i.toInt = 0) := hb152
              refine ex_aload_n cg_211 (ix := 85) (pc' := 156) rfl rfl rfl ?_
              refine ex_iload_n cg_211 (ix := 86) (pc' := 157) rfl rfl rfl ?_
              refine ex_iload cg_211 (ix := 87) (pc' := 159) rfl rfl rfl ?_
              refine ex_iadd cg_211 (ix := 88) (pc' := 160) rfl rfl ?_
              refine ex_iload cg_211 (ix := 89) (pc' := 162) rfl rfl rfl ?_
              refine ex_iload cg_211 (ix := 90) (pc' := 164) rfl rfl rfl ?_
              refine ex_callV cg_211 (ix := 91) (pc' := 167) (As := [.inl (.int (x + a)), .inl (.int a), .inl (.int i)]) (r := []) rfl rfl rfl (ct_fr (mi := mi) (ml := ml) (mm := mm) (mh := mh) (ro := ro) (fo4 := fo4) (th4 := th4) (so := so) (ab := ab) (hd := hd) (x := x + a) (y := a) (z := i) (hN := sN + aN) (aN := aN) (C := k) (gN := gN) (Lv := LV (nbF mm) (rkE hd e) gN (H - (aN + 1))) hmm (fun b hb => hmh b (sN + aN) hb (by omega)) hhd hxa (by omega) ha (by omega) hi (by omega) hg hg4 hS (fun f r => Nat.le_trans (LV_b (rkE_b (by omega) he hhd) (by omega)) (by omega)) (fun w w1 w2 w3 => hro1 (aN + 1) (by omega) (by omega) w w1 w2 w3 (fun z9 => absurd z9 (by omega)) (dS_cd w2).1) hthU hsoU habU) (by first | decide | omega) rfl rfl rfl ⟨rfl, rfl, rfl, rfl, rfl, rfl, rfl, rfl, trivial⟩ rfl rfl (fun v h2 hq => ?_)
              obtain ⟨rfl, fo5, th5, so5, ab5, vz, rfl, hfo5, hth5, hso5, hab5, hvz⟩ := hq
              show cx_T _ 211 _ 167 ([some (.inr (.inl 119)), some (.inl (.int x)), some (.inl (.int y)), some (.inl (.int h)), some (.inl (.int a)), some (.inl (.int i)), some (.inl (.int v))], [], [(119, .inl (11, vs_119 mi ml)), (120, .inr (.inl (0, 4, mm))), (124, .inr (.inl (0, 64, mh))), (130, .inr (.inl (0, 45927, (upd ro (6561 * aN + k) vz)))), (131, .inr (.inl (0, 4, fo5))), (132, .inr (.inl (0, 4, th5))), (133, .inr (.inl (0, 4, so5))), (134, .inr (.inl (0, 5, ab5)))]) _
              skip
              refine ex_iinc cg_211 (ix := 92) (pc' := 170) (L' := [some (.inr (.inl 119)), some (.inl (.int x)), some (.inl (.int y)), some (.inl (.int h)), some (.inl (.int a)), some (.inl (.int (i + Int32.ofInt 1))), some (.inl (.int v))]) rfl rfl rfl rfl rfl ?_
              refine ex_goto cg_211 (ix := 93) (pc' := 49) rfl rfl ?_
              refine ih (k + 1) (by omega) _ (by rw [cx_addc (by omega) (by omega)]; omega) _ fo5 th5 so5 ab5 _ hfo5 hth5 hso5 hab5 (fun q q1 q2 => roL_oth (hro1 q q1 q2) (by omega) q1) ?_
              refine roL_set hro2 ?_
              have w7 := fr_val (nb := nbF mm) (rk := rkE hd e) (G := gN) (j := H - (aN + 1)) (k := k) (v := vz.toInt) rkE_E (rkE_b (by omega) he hhd) (by omega) hg4 (by omega) (fun hc => by
                have w8 := hvz hc
                have w9 : rkE hd e (H - (aN + 1)) = rkH hd (sN + aN) := by
                  unfold rkE
                  rw [show e - 1 - (H - (aN + 1)) = sN + aN by omega]
                rw [w9]
                exact w8)
              rw [show H - (aN + 1) + 1 = H - aN by omega] at w7
              exact w7
      · have hb119 : ¬ (¬ a.toInt = h.toInt) := hb119
        refine ex_aload_n cg_211 (ix := 69) (pc' := 123) rfl rfl rfl ?_
        refine ex_getfield cg_211 (ix := 70) (pc' := 126) (v := .inr (.inl 130)) rfl rfl rfl rfl rfl ?_
        refine ex_sipush cg_211 (ix := 71) (pc' := 129) rfl rfl rfl ?_
        refine ex_iload cg_211 (ix := 72) (pc' := 131) rfl rfl rfl ?_
        refine ex_imul cg_211 (ix := 73) (pc' := 132) rfl rfl ?_
        refine ex_iload cg_211 (ix := 74) (pc' := 134) rfl rfl rfl ?_
        refine ex_iadd cg_211 (ix := 75) (pc' := 135) rfl rfl ?_
        refine ex_iconst cg_211 (ix := 76) (pc' := 136) rfl rfl ?_
        refine ex_iastore cg_211 (ix := 77) (pc' := 137) (h' := [(119, .inl (11, vs_119 mi ml)), (120, .inr (.inl (0, 4, mm))), (124, .inr (.inl (0, 64, mh))), (130, .inr (.inl (0, 45927, upd ro (((Int32.ofInt 6561) * a) + i).toNatClampNeg (Int32.ofInt 0)))), (131, .inr (.inl (0, 4, fo4))), (132, .inr (.inl (0, 4, th4))), (133, .inr (.inl (0, 4, so))), (134, .inr (.inl (0, 5, ab)))]) rfl rfl (by omega) (by omega) rfl rfl ?_
        refine ex_goto cg_211 (ix := 78) (pc' := 167) rfl rfl ?_
        skip
        refine ex_iinc cg_211 (ix := 92) (pc' := 170) (L' := [some (.inr (.inl 119)), some (.inl (.int x)), some (.inl (.int y)), some (.inl (.int h)), some (.inl (.int a)), some (.inl (.int (i + Int32.ofInt 1))), some (.inl (.int v))]) rfl rfl rfl rfl rfl ?_
        refine ex_goto cg_211 (ix := 93) (pc' := 49) rfl rfl ?_
        rw [cx_clamp hix]
        refine ih (k + 1) (by omega) _ (by rw [cx_addc (by omega) (by omega)]; omega) _ fo4 th4 so ab _ hfoU hthU hsoU habU (fun q q1 q2 => roL_oth (hro1 q q1 q2) (by omega) q1) ?_
        refine roL_set hro2 (fun w w1 w2 w3 w4 => ?_)
        rw [show H - aN = 0 by omega, LV]
        exact kc0
theorem rt_loop {mi : Nat → Int32} {ml : Nat → Int64} {mm mh : Nat → Int32} {hd : Nat → Nat → Int32} {x y h : Int32} {sN e H gN : Nat} {P : Option cx_V → cx_H → Prop} (hmm : ∀ b : Nat, b < 4 → 0 ≤ (mm b).toInt ∧ (mm b).toInt ≤ 40) (hmh : ∀ b h : Nat, b < 4 → h < 16 → (mh (16 * b + h)).toInt = (hd b h).toInt) (hhd : hdH hd) (hx : x.toInt = (sN : Int)) (hH : sN + H = e) (hH1 : 1 ≤ H) (hH6 : H ≤ 6) (he : e ≤ 16) (hh : h.toInt = (H : Int)) (hg : (mi 8).toInt = (gN : Int)) (hg4 : gN ≤ 4) (hS : ¬ (mi 21).toInt = 0) (hP : ∀ (ro fo4 th4 so ab : Nat → Int32), (∀ i : Nat, i < 4 → 0 ≤ (fo4 i).toInt ∧ (fo4 i).toInt ≤ 8) → thU th4 → thU so → abU ab → (∀ q : Nat, q ≤ H → roL (nbF mm) (rkE hd e) gN H ro q 6561) → P none ([(119, .inl (11, vs_119 mi ml)), (120, .inr (.inl (0, 4, mm))), (124, .inr (.inl (0, 64, mh))), (130, .inr (.inl (0, 45927, ro))), (131, .inr (.inl (0, 4, fo4))), (132, .inr (.inl (0, 4, th4))), (133, .inr (.inl (0, 4, so))), (134, .inr (.inl (0, 5, ab)))])) :
    ∀ (lN : Nat) (a : Int32), a.toInt = (lN : Int) - 1 → lN ≤ H + 1 → ∀ (ro fo4 th4 so ab : Nat → Int32) (A B : Option cx_V), (∀ i : Nat, i < 4 → 0 ≤ (fo4 i).toInt ∧ (fo4 i).toInt ≤ 8) → thU th4 → thU so → abU ab → (∀ q : Nat, lN ≤ q → q ≤ H → roL (nbF mm) (rkE hd e) gN H ro q 6561) → cx_T 6 211 [119, 120, 124, 130, 131, 132, 133, 134] 41 ([some (.inr (.inl 119)), some (.inl (.int x)), some (.inl (.int y)), some (.inl (.int h)), some (.inl (.int a)), B, A], [], [(119, .inl (11, vs_119 mi ml)), (120, .inr (.inl (0, 4, mm))), (124, .inr (.inl (0, 64, mh))), (130, .inr (.inl (0, 45927, ro))), (131, .inr (.inl (0, 4, fo4))), (132, .inr (.inl (0, 4, th4))), (133, .inr (.inl (0, 4, so))), (134, .inr (.inl (0, 5, ab)))]) P := by
  have kcm1 : (Int32.ofInt (-1)).toInt = -1 := by decide +kernel
  have kc0 : (Int32.ofInt 0).toInt = 0 := by decide +kernel
  have kc1 : (Int32.ofInt 1).toInt = 1 := by decide +kernel
  have kc9 : (Int32.ofInt 9).toInt = 9 := by decide +kernel
  have kc81 : (Int32.ofInt 81).toInt = 81 := by decide +kernel
  have kc729 : (Int32.ofInt 729).toInt = 729 := by decide +kernel
  have kc6561 : (Int32.ofInt 6561).toInt = 6561 := by decide +kernel
  intro lN
  induction lN with
  | zero =>
    intro a ha hlL ro fo4 th4 so ab A B hfoU hthU hsoU habU hro
    refine ex_iload cg_211 (ix := 26) (pc' := 43) rfl rfl rfl ?_
    refine ex_if cg_211 (ix := 27) (t := 179) (pc' := 46) rfl rfl rfl (fun hb43 => ?_) (fun hb43 => ?_)
    · have hb43 : a.toInt < 0 := hb43
      refine ex_return_ cg_211 (ix := 96) rfl ?_
      exact hP ro fo4 th4 so ab hfoU hthU hsoU habU (fun q q1 => hro q (Nat.zero_le _) q1)
    · have hb43 : ¬ (a.toInt < 0) := hb43
      exfalso; first | omega | exact absurd hb43 (by decide +kernel)
  | succ lN ih =>
    intro a ha hlL ro fo4 th4 so ab A B hfoU hthU hsoU habU hro
    have ha : a.toInt = (lN : Int) := by omega
    refine ex_iload cg_211 (ix := 26) (pc' := 43) rfl rfl rfl ?_
    refine ex_if cg_211 (ix := 27) (t := 179) (pc' := 46) rfl rfl rfl (fun hb43 => ?_) (fun hb43 => ?_)
    · have hb43 : a.toInt < 0 := hb43
      exfalso; first | omega | exact absurd hb43 (by decide +kernel)
    · have hb43 : ¬ (a.toInt < 0) := hb43
      refine ex_iconst cg_211 (ix := 28) (pc' := 47) rfl rfl ?_
      refine ex_istore cg_211 (ix := 29) (pc' := 49) (L' := [some (.inr (.inl 119)), some (.inl (.int x)), some (.inl (.int y)), some (.inl (.int h)), some (.inl (.int a)), some (.inl (.int (Int32.ofInt 0))), A]) rfl rfl rfl rfl ?_
      refine rc_loop (mi := mi) (ml := ml) (mm := mm) (mh := mh) (hd := hd) (x := x) (y := y) (h := h) (sN := sN) (e := e) (H := H) (gN := gN) (a := a) (aN := lN) hmm hmh hhd hx hH hH1 hH6 he hh hg hg4 hS ha (by omega) (P := P) (fun ro2 fo2 th2 so2 ab2 i2 A2 hfoU2 hthU2 hsoU2 habU2 hro3 hro4 => ?_) 6561 0 (by omega) (Int32.ofInt 0) (by decide +kernel) ro fo4 th4 so ab A hfoU hthU hsoU habU (fun q q1 q2 => hro q (by omega) q2) (fun w _ _ _ _ w5 => absurd w5 (Nat.not_lt_zero _))
      refine ex_iinc cg_211 (ix := 94) (pc' := 176) (L' := [some (.inr (.inl 119)), some (.inl (.int x)), some (.inl (.int y)), some (.inl (.int h)), some (.inl (.int (a + Int32.ofInt (-1)))), some (.inl (.int i2)), A2]) rfl rfl rfl rfl rfl ?_
      refine ex_goto cg_211 (ix := 95) (pc' := 41) rfl rfl ?_
      exact ih _ (by rw [cx_addc (by omega) (by omega)]; omega) (by omega) ro2 fo2 th2 so2 ab2 _ _ hfoU2 hthU2 hsoU2 habU2 (fun q q1 q2 => by
        by_cases e9 : q = lN
        · rw [e9]; exact hro4
        · exact hro3 q (by omega) q2)
theorem ct_fro {mi : Nat → Int32} {ml : Nat → Int64} {mm mh ro fo4 th4 so ab : Nat → Int32} {hd : Nat → Nat → Int32} {x y : Int32} {sN e H gN : Nat} (hmm : ∀ b : Nat, b < 4 → 0 ≤ (mm b).toInt ∧ (mm b).toInt ≤ 40) (hmh : ∀ b h : Nat, b < 4 → h < 16 → (mh (16 * b + h)).toInt = (hd b h).toInt) (hhd : hdH hd) (hx : x.toInt = (sN : Int)) (hy : y.toInt + 1 = (e : Int)) (hH : sN + H = e) (hH1 : 1 ≤ H) (hH6 : H ≤ 6) (he : e ≤ 16) (hg : (mi 8).toInt = (gN : Int)) (hg4 : gN ≤ 4) (hfoU : ∀ i : Nat, i < 4 → 0 ≤ (fo4 i).toInt ∧ (fo4 i).toInt ≤ 8) (hthU : thU th4) (hsoU : thU so) (habU : abU ab) : cx_Ct 6 211 [.inr (.inl 119), .inl (.int x), .inl (.int y)] ([(119, .inl (11, vs_119 mi ml)), (120, .inr (.inl (0, 4, mm))), (124, .inr (.inl (0, 64, mh))), (130, .inr (.inl (0, 45927, ro))), (131, .inr (.inl (0, 4, fo4))), (132, .inr (.inl (0, 4, th4))), (133, .inr (.inl (0, 4, so))), (134, .inr (.inl (0, 5, ab)))]) (fun v h2 => v = none ∧ ((mi 22 = x ∧ mi 23 = y ∧ h2 = [(119, .inl (11, vs_119 mi ml)), (120, .inr (.inl (0, 4, mm))), (124, .inr (.inl (0, 64, mh))), (130, .inr (.inl (0, 45927, ro))), (131, .inr (.inl (0, 4, fo4))), (132, .inr (.inl (0, 4, th4))), (133, .inr (.inl (0, 4, so))), (134, .inr (.inl (0, 5, ab)))]) ∨ (¬ (mi 22 = x ∧ mi 23 = y) ∧ ∃ ro2 fo2 th2 so2 ab2 : Nat → Int32, h2 = [(119, .inl (11, vs_119 (upi (upi (upi mi 21 (Int32.ofInt 1)) 22 x) 23 y) ml)), (120, .inr (.inl (0, 4, mm))), (124, .inr (.inl (0, 64, mh))), (130, .inr (.inl (0, 45927, ro2))), (131, .inr (.inl (0, 4, fo2))), (132, .inr (.inl (0, 4, th2))), (133, .inr (.inl (0, 4, so2))), (134, .inr (.inl (0, 5, ab2)))] ∧ (∀ i : Nat, i < 4 → 0 ≤ (fo2 i).toInt ∧ (fo2 i).toInt ≤ 8) ∧ thU th2 ∧ thU so2 ∧ abU ab2 ∧ ∀ q : Nat, q ≤ H → roL (nbF mm) (rkE hd e) gN H ro2 q 6561))) := by
  have kcm1 : (Int32.ofInt (-1)).toInt = -1 := by decide +kernel
  have kc0 : (Int32.ofInt 0).toInt = 0 := by decide +kernel
  have kc1 : (Int32.ofInt 1).toInt = 1 := by decide +kernel
  have kc9 : (Int32.ofInt 9).toInt = 9 := by decide +kernel
  have kc81 : (Int32.ofInt 81).toInt = 81 := by decide +kernel
  have kc729 : (Int32.ofInt 729).toInt = 729 := by decide +kernel
  have kc6561 : (Int32.ofInt 6561).toInt = 6561 := by decide +kernel
  have hyx : (y - x).toInt = y.toInt - x.toInt := cx_subc (by omega) (by omega)
  have hhH : (y - x + Int32.ofInt 1).toInt = (H : Int) := by
    rw [cx_addc (by omega) (by omega), hyx]
    omega
  refine cx_Ct.of cg_211 (nL := 7) rfl rfl rfl ?_
  show cx_T 6 211 [119, 120, 124, 130, 131, 132, 133, 134] 0 ([some (.inr (.inl 119)), some (.inl (.int x)), some (.inl (.int y)), none, none, none, none], [], ([(119, .inl (11, vs_119 mi ml)), (120, .inr (.inl (0, 4, mm))), (124, .inr (.inl (0, 64, mh))), (130, .inr (.inl (0, 45927, ro))), (131, .inr (.inl (0, 4, fo4))), (132, .inr (.inl (0, 4, th4))), (133, .inr (.inl (0, 4, so))), (134, .inr (.inl (0, 5, ab)))])) _
  refine ex_aload_n cg_211 (ix := 0) (pc' := 1) rfl rfl rfl ?_
  refine ex_getfield cg_211 (ix := 1) (pc' := 4) (v := .inl (.int (mi 22))) rfl rfl rfl rfl rfl ?_
  refine ex_iload_n cg_211 (ix := 2) (pc' := 5) rfl rfl rfl ?_
  refine ex_icmp cg_211 (ix := 3) (t := 17) (pc' := 8) rfl rfl rfl (fun hb5 => ?_) (fun hb5 => ?_)
  · have hb5 : ¬ (mi 22).toInt = x.toInt := hb5
    have hnc : ¬ (mi 22 = x ∧ mi 23 = y) := fun q => by
      first
      | exact hb5 (congrArg Int32.toInt q.1)
      | exact hb13 (congrArg Int32.toInt q.2)
    refine ex_aload_n cg_211 (ix := 9) (pc' := 18) rfl rfl rfl ?_
    refine ex_iload_n cg_211 (ix := 10) (pc' := 19) rfl rfl rfl ?_
    refine ex_putfield cg_211 (ix := 11) (pc' := 22) (h' := [(119, .inl (11, vs_119 (upi mi 22 x) ml)), (120, .inr (.inl (0, 4, mm))), (124, .inr (.inl (0, 64, mh))), (130, .inr (.inl (0, 45927, ro))), (131, .inr (.inl (0, 4, fo4))), (132, .inr (.inl (0, 4, th4))), (133, .inr (.inl (0, 4, so))), (134, .inr (.inl (0, 5, ab)))]) rfl rfl rfl rfl rfl rfl rfl rfl ?_
    refine ex_aload_n cg_211 (ix := 12) (pc' := 23) rfl rfl rfl ?_
    refine ex_iload_n cg_211 (ix := 13) (pc' := 24) rfl rfl rfl ?_
    refine ex_putfield cg_211 (ix := 14) (pc' := 27) (h' := [(119, .inl (11, vs_119 (upi (upi mi 22 x) 23 y) ml)), (120, .inr (.inl (0, 4, mm))), (124, .inr (.inl (0, 64, mh))), (130, .inr (.inl (0, 45927, ro))), (131, .inr (.inl (0, 4, fo4))), (132, .inr (.inl (0, 4, th4))), (133, .inr (.inl (0, 4, so))), (134, .inr (.inl (0, 5, ab)))]) rfl rfl rfl rfl rfl rfl rfl rfl ?_
    refine ex_aload_n cg_211 (ix := 15) (pc' := 28) rfl rfl rfl ?_
    refine ex_iconst cg_211 (ix := 16) (pc' := 29) rfl rfl ?_
    refine ex_putfield cg_211 (ix := 17) (pc' := 32) (h' := [(119, .inl (11, vs_119 (upi (upi (upi mi 21 (Int32.ofInt 1)) 22 x) 23 y) ml)), (120, .inr (.inl (0, 4, mm))), (124, .inr (.inl (0, 64, mh))), (130, .inr (.inl (0, 45927, ro))), (131, .inr (.inl (0, 4, fo4))), (132, .inr (.inl (0, 4, th4))), (133, .inr (.inl (0, 4, so))), (134, .inr (.inl (0, 5, ab)))]) rfl rfl rfl rfl rfl rfl rfl rfl ?_
    refine ex_iload_n cg_211 (ix := 18) (pc' := 33) rfl rfl rfl ?_
    refine ex_iload_n cg_211 (ix := 19) (pc' := 34) rfl rfl rfl ?_
    refine ex_isub cg_211 (ix := 20) (pc' := 35) rfl rfl ?_
    refine ex_iconst cg_211 (ix := 21) (pc' := 36) rfl rfl ?_
    refine ex_iadd cg_211 (ix := 22) (pc' := 37) rfl rfl ?_
    refine ex_istore_n cg_211 (ix := 23) (pc' := 38) (L' := [some (.inr (.inl 119)), some (.inl (.int x)), some (.inl (.int y)), some (.inl (.int ((y - x) + (Int32.ofInt 1)))), none, none, none]) rfl rfl rfl rfl ?_
    refine ex_iload_n cg_211 (ix := 24) (pc' := 39) rfl rfl rfl ?_
    refine ex_istore cg_211 (ix := 25) (pc' := 41) (L' := [some (.inr (.inl 119)), some (.inl (.int x)), some (.inl (.int y)), some (.inl (.int ((y - x) + (Int32.ofInt 1)))), some (.inl (.int ((y - x) + (Int32.ofInt 1)))), none, none]) rfl rfl rfl rfl ?_
    refine rt_loop (mi := (upi (upi (upi mi 21 (Int32.ofInt 1)) 22 x) 23 y)) (ml := ml) (mm := mm) (mh := mh) (hd := hd) (x := x) (y := y) (h := y - x + Int32.ofInt 1) (sN := sN) (e := e) (H := H) (gN := gN) hmm hmh hhd hx hH hH1 hH6 he hhH hg hg4 (by show ¬ (Int32.ofInt 1).toInt = 0; rw [kc1]; omega) (P := fun v h2 => v = none ∧ ((mi 22 = x ∧ mi 23 = y ∧ h2 = [(119, .inl (11, vs_119 mi ml)), (120, .inr (.inl (0, 4, mm))), (124, .inr (.inl (0, 64, mh))), (130, .inr (.inl (0, 45927, ro))), (131, .inr (.inl (0, 4, fo4))), (132, .inr (.inl (0, 4, th4))), (133, .inr (.inl (0, 4, so))), (134, .inr (.inl (0, 5, ab)))]) ∨ (¬ (mi 22 = x ∧ mi 23 = y) ∧ ∃ ro2 fo2 th2 so2 ab2 : Nat → Int32, h2 = [(119, .inl (11, vs_119 (upi (upi (upi mi 21 (Int32.ofInt 1)) 22 x) 23 y) ml)), (120, .inr (.inl (0, 4, mm))), (124, .inr (.inl (0, 64, mh))), (130, .inr (.inl (0, 45927, ro2))), (131, .inr (.inl (0, 4, fo2))), (132, .inr (.inl (0, 4, th2))), (133, .inr (.inl (0, 4, so2))), (134, .inr (.inl (0, 5, ab2)))] ∧ (∀ i : Nat, i < 4 → 0 ≤ (fo2 i).toInt ∧ (fo2 i).toInt ≤ 8) ∧ thU th2 ∧ thU so2 ∧ abU ab2 ∧ ∀ q : Nat, q ≤ H → roL (nbF mm) (rkE hd e) gN H ro2 q 6561))) (fun ro2 fo2 th2 so2 ab2 q1 q2 q3 q4 q5 => ⟨rfl, Or.inr ⟨hnc, ro2, fo2, th2, so2, ab2, rfl, q1, q2, q3, q4, q5⟩⟩) (H + 1) (y - x + Int32.ofInt 1) (by rw [hhH]; omega) (Nat.le_refl _) ro fo4 th4 so ab none none hfoU hthU hsoU habU (fun q q1 q2 => absurd q1 (by omega))
  · have hb5 : ¬ (¬ (mi 22).toInt = x.toInt) := hb5
    refine ex_aload_n cg_211 (ix := 4) (pc' := 9) rfl rfl rfl ?_
    refine ex_getfield cg_211 (ix := 5) (pc' := 12) (v := .inl (.int (mi 23))) rfl rfl rfl rfl rfl ?_
    refine ex_iload_n cg_211 (ix := 6) (pc' := 13) rfl rfl rfl ?_
    refine ex_icmp cg_211 (ix := 7) (t := 17) (pc' := 16) rfl rfl rfl (fun hb13 => ?_) (fun hb13 => ?_)
    · have hb13 : ¬ (mi 23).toInt = y.toInt := hb13
      have hnc : ¬ (mi 22 = x ∧ mi 23 = y) := fun q => by
        first
        | exact hb5 (congrArg Int32.toInt q.1)
        | exact hb13 (congrArg Int32.toInt q.2)
      refine ex_aload_n cg_211 (ix := 9) (pc' := 18) rfl rfl rfl ?_
      refine ex_iload_n cg_211 (ix := 10) (pc' := 19) rfl rfl rfl ?_
      refine ex_putfield cg_211 (ix := 11) (pc' := 22) (h' := [(119, .inl (11, vs_119 (upi mi 22 x) ml)), (120, .inr (.inl (0, 4, mm))), (124, .inr (.inl (0, 64, mh))), (130, .inr (.inl (0, 45927, ro))), (131, .inr (.inl (0, 4, fo4))), (132, .inr (.inl (0, 4, th4))), (133, .inr (.inl (0, 4, so))), (134, .inr (.inl (0, 5, ab)))]) rfl rfl rfl rfl rfl rfl rfl rfl ?_
      refine ex_aload_n cg_211 (ix := 12) (pc' := 23) rfl rfl rfl ?_
      refine ex_iload_n cg_211 (ix := 13) (pc' := 24) rfl rfl rfl ?_
      refine ex_putfield cg_211 (ix := 14) (pc' := 27) (h' := [(119, .inl (11, vs_119 (upi (upi mi 22 x) 23 y) ml)), (120, .inr (.inl (0, 4, mm))), (124, .inr (.inl (0, 64, mh))), (130, .inr (.inl (0, 45927, ro))), (131, .inr (.inl (0, 4, fo4))), (132, .inr (.inl (0, 4, th4))), (133, .inr (.inl (0, 4, so))), (134, .inr (.inl (0, 5, ab)))]) rfl rfl rfl rfl rfl rfl rfl rfl ?_
      refine ex_aload_n cg_211 (ix := 15) (pc' := 28) rfl rfl rfl ?_
      refine ex_iconst cg_211 (ix := 16) (pc' := 29) rfl rfl ?_
      refine ex_putfield cg_211 (ix := 17) (pc' := 32) (h' := [(119, .inl (11, vs_119 (upi (upi (upi mi 21 (Int32.ofInt 1)) 22 x) 23 y) ml)), (120, .inr (.inl (0, 4, mm))), (124, .inr (.inl (0, 64, mh))), (130, .inr (.inl (0, 45927, ro))), (131, .inr (.inl (0, 4, fo4))), (132, .inr (.inl (0, 4, th4))), (133, .inr (.inl (0, 4, so))), (134, .inr (.inl (0, 5, ab)))]) rfl rfl rfl rfl rfl rfl rfl rfl ?_
      refine ex_iload_n cg_211 (ix := 18) (pc' := 33) rfl rfl rfl ?_
      refine ex_iload_n cg_211 (ix := 19) (pc' := 34) rfl rfl rfl ?_
      refine ex_isub cg_211 (ix := 20) (pc' := 35) rfl rfl ?_
      refine ex_iconst cg_211 (ix := 21) (pc' := 36) rfl rfl ?_
      refine ex_iadd cg_211 (ix := 22) (pc' := 37) rfl rfl ?_
      refine ex_istore_n cg_211 (ix := 23) (pc' := 38) (L' := [some (.inr (.inl 119)), some (.inl (.int x)), some (.inl (.int y)), some (.inl (.int ((y - x) + (Int32.ofInt 1)))), none, none, none]) rfl rfl rfl rfl ?_
      refine ex_iload_n cg_211 (ix := 24) (pc' := 39) rfl rfl rfl ?_
      refine ex_istore cg_211 (ix := 25) (pc' := 41) (L' := [some (.inr (.inl 119)), some (.inl (.int x)), some (.inl (.int y)), some (.inl (.int ((y - x) + (Int32.ofInt 1)))), some (.inl (.int ((y - x) + (Int32.ofInt 1)))), none, none]) rfl rfl rfl rfl ?_
      refine rt_loop (mi := (upi (upi (upi mi 21 (Int32.ofInt 1)) 22 x) 23 y)) (ml := ml) (mm := mm) (mh := mh) (hd := hd) (x := x) (y := y) (h := y - x + Int32.ofInt 1) (sN := sN) (e := e) (H := H) (gN := gN) hmm hmh hhd hx hH hH1 hH6 he hhH hg hg4 (by show ¬ (Int32.ofInt 1).toInt = 0; rw [kc1]; omega) (P := fun v h2 => v = none ∧ ((mi 22 = x ∧ mi 23 = y ∧ h2 = [(119, .inl (11, vs_119 mi ml)), (120, .inr (.inl (0, 4, mm))), (124, .inr (.inl (0, 64, mh))), (130, .inr (.inl (0, 45927, ro))), (131, .inr (.inl (0, 4, fo4))), (132, .inr (.inl (0, 4, th4))), (133, .inr (.inl (0, 4, so))), (134, .inr (.inl (0, 5, ab)))]) ∨ (¬ (mi 22 = x ∧ mi 23 = y) ∧ ∃ ro2 fo2 th2 so2 ab2 : Nat → Int32, h2 = [(119, .inl (11, vs_119 (upi (upi (upi mi 21 (Int32.ofInt 1)) 22 x) 23 y) ml)), (120, .inr (.inl (0, 4, mm))), (124, .inr (.inl (0, 64, mh))), (130, .inr (.inl (0, 45927, ro2))), (131, .inr (.inl (0, 4, fo2))), (132, .inr (.inl (0, 4, th2))), (133, .inr (.inl (0, 4, so2))), (134, .inr (.inl (0, 5, ab2)))] ∧ (∀ i : Nat, i < 4 → 0 ≤ (fo2 i).toInt ∧ (fo2 i).toInt ≤ 8) ∧ thU th2 ∧ thU so2 ∧ abU ab2 ∧ ∀ q : Nat, q ≤ H → roL (nbF mm) (rkE hd e) gN H ro2 q 6561))) (fun ro2 fo2 th2 so2 ab2 q1 q2 q3 q4 q5 => ⟨rfl, Or.inr ⟨hnc, ro2, fo2, th2, so2, ab2, rfl, q1, q2, q3, q4, q5⟩⟩) (H + 1) (y - x + Int32.ofInt 1) (by rw [hhH]; omega) (Nat.le_refl _) ro fo4 th4 so ab none none hfoU hthU hsoU habU (fun q q1 q2 => absurd q1 (by omega))
    · have hb13 : ¬ (¬ (mi 23).toInt = y.toInt) := hb13
      refine ex_return_ cg_211 (ix := 8) rfl ?_
      exact ⟨rfl, Or.inl ⟨cx_i32 (by omega), cx_i32 (by omega), rfl⟩⟩
end
