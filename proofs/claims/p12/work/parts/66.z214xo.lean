noncomputable section
/-- in their order or not, the same counts -/
theorem zs_cn {f g : Nat → Nat} (h : ∀ v, cntV f 4 v = cntV g 4 v) : zsC f 4 = zsC g 4 ∧ fsC f 4 = fsC g 4 := cnt_same h
/-- the plan of one more hour -/
theorem plan_up {nb : Nat → Nat → Prop} {rk : Nat → (Nat → Nat) → Nat} {G H k : Nat} {SS TS : Nat → Nat → Nat} {ts : Nat → Nat} (h : planP nb rk G H SS TS k) (hF : isF nb (okD (rk (H - 1 - k)) (LV nb rk G (H - 1 - k)) G (LV nb rk G (H - k) (spI (fsC (SS k) G)) (zsC (SS k) G))) (SS k) G 0 (fun _ => 0) ts) : ∃ S2 T2 : Nat → Nat → Nat, planP nb rk G H S2 T2 (k + 1) ∧ T2 k = ts ∧ S2 k = SS k ∧ ∀ i, S2 (k + 1) i = if i < G then nxs (SS k i) (ts i) else 0 := by
  generalize hS2 : (fun j i9 => if j = k + 1 then (if i9 < G then nxs (SS k i9) (ts i9) else 0) else SS j i9) = SS2
  generalize hT2 : (fun j => if j = k then ts else TS j) = TS2
  have hSk1 : ∀ i9, SS2 (k + 1) i9 = if i9 < G then nxs (SS k i9) (ts i9) else 0 := fun i9 => by
    rw [← hS2]
    exact if_pos rfl
  have hSj : ∀ j, j ≤ k → SS2 j = SS j := fun j hj => by
    rw [← hS2]
    funext i9
    exact if_neg (by omega)
  have hTk : TS2 k = ts := by
    rw [← hT2]
    exact if_pos rfl
  have hTj : ∀ j, j < k → TS2 j = TS j := fun j hj => by
    rw [← hT2]
    exact if_neg (by omega)
  refine ⟨SS2, TS2, ⟨fun i9 => by rw [hSj 0 (by omega)]; exact h.1 i9, fun j hj => ?_⟩, hTk, hSj k (Nat.le_refl _), hSk1⟩
  by_cases e : j = k
  · subst e
    rw [hSj j (Nat.le_refl _), hTk]
    exact ⟨hF, hSk1⟩
  · rw [hSj j (by omega), hTj j (by omega), hSj (j + 1) (by omega)]
    exact h.2 j (by omega)
theorem plan_0 {nb : Nat → Nat → Prop} {rk : Nat → (Nat → Nat) → Nat} {G H n : Nat} {SS TS : Nat → Nat → Nat} (h : planP nb rk G H SS TS n) {j : Nat} (hj : j ≤ n) : ∀ i, G ≤ i → SS j i = 0 := fun i hi => by
  cases j with
  | zero => exact h.1 i
  | succ j => rw [(h.2 j (by omega)).2 i, if_neg (by omega)]
/-- what a table tells of a state as it is -/
theorem roL_st {nb : Nat → Nat → Prop} {rk : Nat → (Nat → Nat) → Nat} {G H q : Nat} {ro : Nat → Int32} {st w : Nat → Nat} (hG : G ≤ 4) (h : roL nb rk G H ro q 6561) (hw : ascN w 4) (h9 : ∀ i : Nat, i < 4 → w i < 9) (hc : ∀ v, cntV w 4 v = cntV st 4 v) (hz : 4 - G ≤ zsC st 4) (h0 : q = 0 → cdS w = 0) : (ro (6561 * q + cdS w)).toInt = ((LV nb rk G (H - q) (spI (fsC st 4)) (zsC st 4 - (4 - G)) : Nat) : Int) := by
  obtain ⟨u1, u2⟩ := cnt_same hc
  have h5 := h w hw h9 (asc_z hw (by rw [u1]; exact hz)) h0 (dS_cd h9).1
  rw [u1, u2] at h5
  exact h5
theorem told_v {s t : Nat} {z v : Int32} (hz : z.toInt = ((nxs s t : Nat) : Int)) (ht : t ≤ 4) (hv : (z.toInt = 0 ∧ v.toInt = -9) ∨ (¬ z.toInt = 0 ∧ v.toInt = (z.toInt - 1) / 2)) : v.toInt = rpv t := by
  unfold rpv
  unfold nxs at hz
  by_cases q4 : t = 4
  · rw [if_pos q4] at hz
    rw [if_pos q4]
    omega
  · rw [if_neg q4] at hz
    rw [if_neg q4]
    by_cases q0 : s = 0
    · rw [if_pos q0] at hz
      omega
    · rw [if_neg q0] at hz
      omega
theorem ak_loop {mi : Nat → Int32} {ml : Nat → Int64} {mm mh ro r : Nat → Int32} {hd : Nat → Nat → Int32} {x y g w wz : Int32} {sN e H gN jN D : Nat} {st : Nat → Nat} {cdw : Nat} {cc told h at9 : Int32} {fo4 : Nat → Int32} {P : Option cx_V → cx_H → Prop} (hmm : ∀ b : Nat, b < 4 → 0 ≤ (mm b).toInt ∧ (mm b).toInt ≤ 40) (hmh : ∀ b h : Nat, b < 4 → h < 16 → (mh (16 * b + h)).toInt = (hd b h).toInt) (hhd : hdH hd) (hx : x.toInt = (sN : Int)) (hH : sN + H = e) (hH1 : 1 ≤ H) (hH6 : H ≤ 6) (he : e ≤ 16) (hg8 : (mi 8).toInt = (gN : Int)) (hg4 : gN ≤ 4) (hS : (mi 21).toInt = 0) (hro : ∀ q : Nat, q ≤ H → roL (nbF mm) (rkE hd e) gN H ro q 6561) (hj : jN < H) (hfo : ∀ i : Nat, i < 4 → (fo4 i).toInt = ((st i : Nat) : Int)) (hst9 : ∀ i : Nat, st i < 9) (hst0 : ∀ i : Nat, gN ≤ i → st i = 0) (hcc : cc.toInt = (cdw : Int)) (hcw : cdw < 6561) (hrD : (ro (6561 * jN + cdw)).toInt = (D : Int)) (hD : D ≤ 1000000) (hh : h.toInt = ((sN + jN : Nat) : Int)) (hat : at9.toInt = (jN : Int)) (hex : ∃ K, K < 625 ∧ mtK (nbF mm) (rkH hd (sN + jN)) (LV (nbF mm) (rkE hd e) gN (H - 1 - jN)) gN D st K) (hP : ∀ (K : Nat) (th2 so2 ab2 : Nat → Int32) (f i : Int32) (A12 : Option cx_V), K < 625 → mtK (nbF mm) (rkH hd (sN + jN)) (LV (nbF mm) (rkE hd e) gN (H - 1 - jN)) gN D st K → (∀ K2, K2 < K → ¬ mtK (nbF mm) (rkH hd (sN + jN)) (LV (nbF mm) (rkE hd e) gN (H - 1 - jN)) gN D st K2) → (∀ i : Nat, i < 4 → (th2 i).toInt = ((nxs (st i) (dgK K i) : Nat) : Int)) → thU th2 → thU so2 → abU ab2 → cx_T 7 214 [119, 126, 120, 124, 130, 131, 132, 133, 134] 202 ([some (.inr (.inl 119)), some (.inl (.int x)), some (.inl (.int y)), some (.inl (.int g)), some (.inl (.int w)), some (.inl (.int wz)), some (.inl (.int cc)), some (.inl (.int told)), some (.inl (.int h)), some (.inl (.int at9)), some (.inl (.int f)), some (.inl (.int i)), A12], [], [(119, .inl (11, vs_119 mi ml)), (126, .inr (.inl (0, 7, r))), (120, .inr (.inl (0, 4, mm))), (124, .inr (.inl (0, 64, mh))), (130, .inr (.inl (0, 45927, ro))), (131, .inr (.inl (0, 4, fo4))), (132, .inr (.inl (0, 4, th2))), (133, .inr (.inl (0, 4, so2))), (134, .inr (.inl (0, 5, ab2)))]) P) :
    ∀ (m k : Nat), k + m = 625 → ∀ i : Int32, i.toInt = (k : Int) → ∀ (f : Int32) (th2 so2 ab2 : Nat → Int32) (A12 : Option cx_V), f.toInt = -1 → (∀ K2, K2 < k → ¬ mtK (nbF mm) (rkH hd (sN + jN)) (LV (nbF mm) (rkE hd e) gN (H - 1 - jN)) gN D st K2) → thU th2 → thU so2 → abU ab2 → cx_T 7 214 [119, 126, 120, 124, 130, 131, 132, 133, 134] 122 ([some (.inr (.inl 119)), some (.inl (.int x)), some (.inl (.int y)), some (.inl (.int g)), some (.inl (.int w)), some (.inl (.int wz)), some (.inl (.int cc)), some (.inl (.int told)), some (.inl (.int h)), some (.inl (.int at9)), some (.inl (.int f)), some (.inl (.int i)), A12], [], [(119, .inl (11, vs_119 mi ml)), (126, .inr (.inl (0, 7, r))), (120, .inr (.inl (0, 4, mm))), (124, .inr (.inl (0, 64, mh))), (130, .inr (.inl (0, 45927, ro))), (131, .inr (.inl (0, 4, fo4))), (132, .inr (.inl (0, 4, th2))), (133, .inr (.inl (0, 4, so2))), (134, .inr (.inl (0, 5, ab2)))]) P := by
  have kcm9 : (Int32.ofInt (-9)).toInt = -9 := by decide +kernel
  have kcm1 : (Int32.ofInt (-1)).toInt = -1 := by decide +kernel
  have kc0 : (Int32.ofInt 0).toInt = 0 := by decide +kernel
  have kc1 : (Int32.ofInt 1).toInt = 1 := by decide +kernel
  have kc2 : (Int32.ofInt 2).toInt = 2 := by decide +kernel
  have kc4 : (Int32.ofInt 4).toInt = 4 := by decide +kernel
  have kc625 : (Int32.ofInt 625).toInt = 625 := by decide +kernel
  have kc6561 : (Int32.ofInt 6561).toInt = 6561 := by decide +kernel
  intro m
  induction m with
  | zero =>
    intro k hk i hi f th2 so2 ab2 A12 hf hno hth hso hab
    have ek : k = 625 := by omega
    refine ex_iload cg_214 (ix := 69) (pc' := 124) rfl rfl rfl ?_
    refine ex_sipush cg_214 (ix := 70) (pc' := 127) rfl rfl rfl ?_
    refine ex_icmp cg_214 (ix := 71) (t := 202) (pc' := 130) rfl rfl rfl (fun hb127 => ?_) (fun hb127 => ?_)
    · have hb127 : (Int32.ofInt 625).toInt ≤ i.toInt := hb127
      exfalso
      obtain ⟨K0, k1, k2⟩ := hex
      exact hno K0 (by omega) k2
    · have hb127 : ¬ ((Int32.ofInt 625).toInt ≤ i.toInt) := hb127
      exfalso; first | omega | exact absurd hb127 (by decide +kernel)
  | succ m ih =>
    intro k hk i hi f th2 so2 ab2 A12 hf hno hth hso hab
    have hik : i.toNatClampNeg = k := cx_clamp hi
    have hy1 : (at9 + Int32.ofInt 1).toInt = ((jN + 1 : Nat) : Int) := by
      rw [cx_addc (by omega) (by omega)]
      omega
    have hm0 : (Int32.ofInt 6561 * (at9 + Int32.ofInt 1)).toInt = 6561 * (at9 + Int32.ofInt 1).toInt := cx_mulk (by decide +kernel) (by omega) (by omega)
    have hm1 : (Int32.ofInt 6561 * (at9 + Int32.ofInt 1)).toInt = ((6561 * (jN + 1) : Nat) : Int) := by
      rw [hm0, hy1]
      omega
    have hm2 : (Int32.ofInt 6561 * at9).toInt = 6561 * at9.toInt := cx_mulk (by decide +kernel) (by omega) (by omega)
    have hm3 : (Int32.ofInt 6561 * at9).toInt = ((6561 * jN : Nat) : Int) := by
      rw [hm2, hat]
      omega
    refine ex_iload cg_214 (ix := 69) (pc' := 124) rfl rfl rfl ?_
    refine ex_sipush cg_214 (ix := 70) (pc' := 127) rfl rfl rfl ?_
    refine ex_icmp cg_214 (ix := 71) (t := 202) (pc' := 130) rfl rfl rfl (fun hb127 => ?_) (fun hb127 => ?_)
    · have hb127 : (Int32.ofInt 625).toInt ≤ i.toInt := hb127
      exfalso; first | omega | exact absurd hb127 (by decide +kernel)
    · have hb127 : ¬ ((Int32.ofInt 625).toInt ≤ i.toInt) := hb127
      refine ex_iload cg_214 (ix := 72) (pc' := 132) rfl rfl rfl ?_
      refine ex_if cg_214 (ix := 73) (t := 202) (pc' := 135) rfl rfl rfl (fun hb132 => ?_) (fun hb132 => ?_)
      · have hb132 : 0 ≤ f.toInt := hb132
        exfalso; first | omega | exact absurd hb132 (by decide +kernel)
      · have hb132 : ¬ (0 ≤ f.toInt) := hb132
        refine ex_aload_n cg_214 (ix := 74) (pc' := 136) rfl rfl rfl ?_
        refine ex_iload cg_214 (ix := 75) (pc' := 138) rfl rfl rfl ?_
        refine ex_iload cg_214 (ix := 76) (pc' := 140) rfl rfl rfl ?_
        refine ex_callV cg_214 (ix := 77) (pc' := 143) (As := [.inl (.int i), .inl (.int h)]) (r := []) rfl rfl rfl (ct_rb (mi := mi) (ml := ml) (mm := mm) (mh := mh) (fo4 := fo4) (th4 := th2) (ab := ab2) (hd := hd) (x := i) (y := h) (K := k) (hN := sN + jN) (gN := gN) (S := False) (d := st) hmm (fun b hb => hmh b (sN + jN) hb (by omega)) hhd hfo hst9 hi (by omega) hh (by omega) hg8 hg4 ⟨fun q => absurd hS q, fun q => q.elim⟩ hth) (by first | decide | omega) rfl rfl rfl ⟨rfl, rfl, rfl, rfl, rfl, rfl, trivial⟩ rfl rfl (fun v h2 hq => ?_)
        obtain ⟨rz, th3, ab3, rfl, rfl, hth3, hab3, hrz⟩ := hq
        show cx_T _ 214 _ 143 ([some (.inr (.inl 119)), some (.inl (.int x)), some (.inl (.int y)), some (.inl (.int g)), some (.inl (.int w)), some (.inl (.int wz)), some (.inl (.int cc)), some (.inl (.int told)), some (.inl (.int h)), some (.inl (.int at9)), some (.inl (.int f)), some (.inl (.int i)), A12], [.inl (.int rz)], [(119, .inl (11, vs_119 mi ml)), (126, .inr (.inl (0, 7, r))), (120, .inr (.inl (0, 4, mm))), (124, .inr (.inl (0, 64, mh))), (130, .inr (.inl (0, 45927, ro))), (131, .inr (.inl (0, 4, fo4))), (132, .inr (.inl (0, 4, th3))), (133, .inr (.inl (0, 4, so2))), (134, .inr (.inl (0, 5, ab3)))]) _
        refine ex_istore cg_214 (ix := 78) (pc' := 145) (L' := [some (.inr (.inl 119)), some (.inl (.int x)), some (.inl (.int y)), some (.inl (.int g)), some (.inl (.int w)), some (.inl (.int wz)), some (.inl (.int cc)), some (.inl (.int told)), some (.inl (.int h)), some (.inl (.int at9)), some (.inl (.int f)), some (.inl (.int i)), some (.inl (.int rz))]) rfl rfl rfl rfl ?_
        refine ex_iload cg_214 (ix := 79) (pc' := 147) rfl rfl rfl ?_
        refine ex_if cg_214 (ix := 80) (t := 193) (pc' := 150) rfl rfl rfl (fun hb147 => ?_) (fun hb147 => ?_)
        · have hb147 : rz.toInt < 0 := hb147
          refine ex_iconst cg_214 (ix := 105) (pc' := 194) rfl rfl ?_
          refine ex_istore cg_214 (ix := 106) (pc' := 196) (L' := [some (.inr (.inl 119)), some (.inl (.int x)), some (.inl (.int y)), some (.inl (.int g)), some (.inl (.int w)), some (.inl (.int wz)), some (.inl (.int cc)), some (.inl (.int told)), some (.inl (.int h)), some (.inl (.int at9)), some (.inl (.int (Int32.ofInt (-1)))), some (.inl (.int i)), some (.inl (.int rz))]) rfl rfl rfl rfl ?_
          refine ex_iinc cg_214 (ix := 107) (pc' := 199) (L' := [some (.inr (.inl 119)), some (.inl (.int x)), some (.inl (.int y)), some (.inl (.int g)), some (.inl (.int w)), some (.inl (.int wz)), some (.inl (.int cc)), some (.inl (.int told)), some (.inl (.int h)), some (.inl (.int at9)), some (.inl (.int (Int32.ofInt (-1)))), some (.inl (.int (i + Int32.ofInt 1))), some (.inl (.int rz))]) rfl rfl rfl rfl rfl ?_
          refine ex_goto cg_214 (ix := 108) (pc' := 122) rfl rfl ?_
          refine ih (k + 1) (by omega) _ (by rw [cx_addc (by omega) (by omega)]; omega) _ th3 so2 ab3 _ kcm1 (fun K2 hK2 hm9 => ?_) hth3 hso hab3
          by_cases e9 : K2 = k
          · rw [e9] at hm9
            first
            | (rcases hrz with ⟨q1, q2⟩ | ⟨q1, q2, q3⟩
               · exact q2 hm9.1
               · exfalso
                 omega)
            | (have q3 := hm9.2
               omega)
          · exact hno K2 (by omega) hm9
        · have hb147 : ¬ (rz.toInt < 0) := hb147
          rcases hrz with ⟨q1, q2⟩ | ⟨hv, hzr, hyv⟩
          · exfalso
            omega
          refine ex_iload cg_214 (ix := 81) (pc' := 152) rfl rfl rfl ?_
          refine ex_aload_n cg_214 (ix := 82) (pc' := 153) rfl rfl rfl ?_
          refine ex_getfield cg_214 (ix := 83) (pc' := 156) (v := .inr (.inl 130)) rfl rfl rfl rfl rfl ?_
          refine ex_sipush cg_214 (ix := 84) (pc' := 159) rfl rfl rfl ?_
          refine ex_iload cg_214 (ix := 85) (pc' := 161) rfl rfl rfl ?_
          refine ex_iconst cg_214 (ix := 86) (pc' := 162) rfl rfl ?_
          refine ex_iadd cg_214 (ix := 87) (pc' := 163) rfl rfl ?_
          refine ex_imul cg_214 (ix := 88) (pc' := 164) rfl rfl ?_
          refine ex_aload_n cg_214 (ix := 89) (pc' := 165) rfl rfl rfl ?_
          refine ex_callV cg_214 (ix := 90) (pc' := 168) (As := []) (r := [.inl (.int ((Int32.ofInt 6561) * (at9 + (Int32.ofInt 1)))), .inr (.inl 130), .inl (.int rz)]) rfl rfl rfl (ct_co (mi := mi) (ml := ml) (th4 := th3) (y := fun q => nxs (st q) (dgK k q)) (so := so2) hyv (fun q _ => nxs_9 dgK_4) hso) (by first | decide | omega) rfl rfl rfl ⟨rfl, rfl, rfl, trivial⟩ rfl rfl (fun v h2 hq => ?_)
          obtain ⟨zc, so3, w3, rfl, rfl, hs3, hwa, hwc, hw9, hso3, hzc⟩ := hq
          show cx_T _ 214 _ 168 ([some (.inr (.inl 119)), some (.inl (.int x)), some (.inl (.int y)), some (.inl (.int g)), some (.inl (.int w)), some (.inl (.int wz)), some (.inl (.int cc)), some (.inl (.int told)), some (.inl (.int h)), some (.inl (.int at9)), some (.inl (.int f)), some (.inl (.int i)), some (.inl (.int rz))], [.inl (.int zc), .inl (.int ((Int32.ofInt 6561) * (at9 + (Int32.ofInt 1)))), .inr (.inl 130), .inl (.int rz)], [(119, .inl (11, vs_119 mi ml)), (126, .inr (.inl (0, 7, r))), (120, .inr (.inl (0, 4, mm))), (124, .inr (.inl (0, 64, mh))), (130, .inr (.inl (0, 45927, ro))), (131, .inr (.inl (0, 4, fo4))), (132, .inr (.inl (0, 4, th3))), (133, .inr (.inl (0, 4, so3))), (134, .inr (.inl (0, 5, ab3)))]) _
          refine ex_iadd cg_214 (ix := 91) (pc' := 169) rfl rfl ?_
          have hcw3 := (dS_cd hw9).1
          have hix : (Int32.ofInt 6561 * (at9 + Int32.ofInt 1) + zc).toInt = ((6561 * (jN + 1) + cdS w3 : Nat) : Int) := by
            rw [cx_addc (by rw [hm1]; omega) (by rw [hm1]; omega), hm1]
            omega
          refine ex_iaload cg_214 (ix := 92) (pc' := 170) rfl rfl (by omega) (by omega) rfl ?_
          refine ex_iadd cg_214 (ix := 93) (pc' := 171) rfl rfl ?_
          have hkb := rkH_b (hd := hd) (h := sN + jN) (c := cntV (dgK k) 4) (by omega) hhd
          have hy0 : 4 - gN ≤ zsC (fun q => nxs (st q) (dgK k q)) 4 := by
            have z4 := ((ok_F hg4).mp hv).2
            have := (fs_ext (st := fun q => nxs (st q) (dgK k q)) (G := gN) (n := 4 - gN) (fun i9 q1 q2 => by
              show nxs (st i9) (dgK k i9) = 0
              unfold nxs
              exact if_pos (z4 i9 q1 (by omega)))).2
            rw [show gN + (4 - gN) = 4 by omega] at this
            omega
          have htot : (rz + ro (Int32.ofInt 6561 * (at9 + Int32.ofInt 1) + zc).toNatClampNeg).toInt = ((totK (rkH hd (sN + jN)) (LV (nbF mm) (rkE hd e) gN (H - 1 - jN)) gN st k : Nat) : Int) := by
            have u4 := roL_st hg4 (hro (jN + 1) (by omega)) hwa hw9 hwc hy0 (fun z => absurd z (by omega))
            have u5 := LV_b (rkE_b (by omega) he hhd) (nb := nbF mm) (G := gN) (j := H - (jN + 1)) (F := spI (fsC (fun q => nxs (st q) (dgK k q)) 4)) (r := zsC (fun q => nxs (st q) (dgK k q)) 4 - (4 - gN)) (by omega)
            rw [cx_clamp hix, cx_addc (by rw [u4]; omega) (by rw [u4]; omega), u4, hzr]
            unfold totK
            rw [show H - 1 - jN = H - (jN + 1) by omega]
            omega
          refine ex_aload_n cg_214 (ix := 94) (pc' := 172) rfl rfl rfl ?_
          refine ex_getfield cg_214 (ix := 95) (pc' := 175) (v := .inr (.inl 130)) rfl rfl rfl rfl rfl ?_
          refine ex_sipush cg_214 (ix := 96) (pc' := 178) rfl rfl rfl ?_
          refine ex_iload cg_214 (ix := 97) (pc' := 180) rfl rfl rfl ?_
          refine ex_imul cg_214 (ix := 98) (pc' := 181) rfl rfl ?_
          refine ex_iload cg_214 (ix := 99) (pc' := 183) rfl rfl rfl ?_
          refine ex_iadd cg_214 (ix := 100) (pc' := 184) rfl rfl ?_
          have hix2 : (Int32.ofInt 6561 * at9 + cc).toInt = ((6561 * jN + cdw : Nat) : Int) := by
            rw [cx_addc (by rw [hm3]; omega) (by rw [hm3]; omega), hm3]
            omega
          have hrD2 : (ro (Int32.ofInt 6561 * at9 + cc).toNatClampNeg).toInt = (D : Int) := by
            rw [cx_clamp hix2]
            exact hrD
          refine ex_iaload cg_214 (ix := 101) (pc' := 185) rfl rfl (by omega) (by omega) rfl ?_
          refine ex_icmp cg_214 (ix := 102) (t := 193) (pc' := 188) rfl rfl rfl (fun hb185 => ?_) (fun hb185 => ?_)
          · have hb185 : ¬ (rz + (ro (((Int32.ofInt 6561) * (at9 + (Int32.ofInt 1))) + zc).toNatClampNeg)).toInt = (ro (((Int32.ofInt 6561) * at9) + cc).toNatClampNeg).toInt := hb185
            refine ex_iconst cg_214 (ix := 105) (pc' := 194) rfl rfl ?_
            refine ex_istore cg_214 (ix := 106) (pc' := 196) (L' := [some (.inr (.inl 119)), some (.inl (.int x)), some (.inl (.int y)), some (.inl (.int g)), some (.inl (.int w)), some (.inl (.int wz)), some (.inl (.int cc)), some (.inl (.int told)), some (.inl (.int h)), some (.inl (.int at9)), some (.inl (.int (Int32.ofInt (-1)))), some (.inl (.int i)), some (.inl (.int rz))]) rfl rfl rfl rfl ?_
            refine ex_iinc cg_214 (ix := 107) (pc' := 199) (L' := [some (.inr (.inl 119)), some (.inl (.int x)), some (.inl (.int y)), some (.inl (.int g)), some (.inl (.int w)), some (.inl (.int wz)), some (.inl (.int cc)), some (.inl (.int told)), some (.inl (.int h)), some (.inl (.int at9)), some (.inl (.int (Int32.ofInt (-1)))), some (.inl (.int (i + Int32.ofInt 1))), some (.inl (.int rz))]) rfl rfl rfl rfl rfl ?_
            refine ex_goto cg_214 (ix := 108) (pc' := 122) rfl rfl ?_
            refine ih (k + 1) (by omega) _ (by rw [cx_addc (by omega) (by omega)]; omega) _ th3 so3 ab3 _ kcm1 (fun K2 hK2 hm9 => ?_) hth3 hso3 hab3
            by_cases e9 : K2 = k
            · rw [e9] at hm9
              first
              | (rcases hrz with ⟨q1, q2⟩ | ⟨q1, q2, q3⟩
                 · exact q2 hm9.1
                 · exfalso
                   omega)
              | (have q3 := hm9.2
                 omega)
            · exact hno K2 (by omega) hm9
          · have hb185 : ¬ (¬ (rz + (ro (((Int32.ofInt 6561) * (at9 + (Int32.ofInt 1))) + zc).toNatClampNeg)).toInt = (ro (((Int32.ofInt 6561) * at9) + cc).toNatClampNeg).toInt) := hb185
            refine ex_iload cg_214 (ix := 103) (pc' := 190) rfl rfl rfl ?_
            refine ex_goto cg_214 (ix := 104) (pc' := 194) rfl rfl ?_
            refine ex_istore cg_214 (ix := 106) (pc' := 196) (L' := [some (.inr (.inl 119)), some (.inl (.int x)), some (.inl (.int y)), some (.inl (.int g)), some (.inl (.int w)), some (.inl (.int wz)), some (.inl (.int cc)), some (.inl (.int told)), some (.inl (.int h)), some (.inl (.int at9)), some (.inl (.int i)), some (.inl (.int i)), some (.inl (.int rz))]) rfl rfl rfl rfl ?_
            refine ex_iinc cg_214 (ix := 107) (pc' := 199) (L' := [some (.inr (.inl 119)), some (.inl (.int x)), some (.inl (.int y)), some (.inl (.int g)), some (.inl (.int w)), some (.inl (.int wz)), some (.inl (.int cc)), some (.inl (.int told)), some (.inl (.int h)), some (.inl (.int at9)), some (.inl (.int i)), some (.inl (.int (i + Int32.ofInt 1))), some (.inl (.int rz))]) rfl rfl rfl rfl rfl ?_
            refine ex_goto cg_214 (ix := 108) (pc' := 122) rfl rfl ?_
            have hmt : mtK (nbF mm) (rkH hd (sN + jN)) (LV (nbF mm) (rkE hd e) gN (H - 1 - jN)) gN D st k := ⟨hv, by omega⟩
            refine ex_iload cg_214 (ix := 69) (pc' := 124) rfl rfl rfl ?_
            refine ex_sipush cg_214 (ix := 70) (pc' := 127) rfl rfl rfl ?_
            refine ex_icmp cg_214 (ix := 71) (t := 202) (pc' := 130) rfl rfl rfl (fun hb127 => ?_) (fun hb127 => ?_)
            · have hb127 : (Int32.ofInt 625).toInt ≤ (i + Int32.ofInt 1).toInt := hb127
              exact hP k th3 so3 ab3 i _ _ (by omega) hmt hno hyv hth3 hso3 hab3
            · have hb127 : ¬ ((Int32.ofInt 625).toInt ≤ (i + Int32.ofInt 1).toInt) := hb127
              refine ex_iload cg_214 (ix := 72) (pc' := 132) rfl rfl rfl ?_
              refine ex_if cg_214 (ix := 73) (t := 202) (pc' := 135) rfl rfl rfl (fun hb132 => ?_) (fun hb132 => ?_)
              · have hb132 : 0 ≤ i.toInt := hb132
                exact hP k th3 so3 ab3 i _ _ (by omega) hmt hno hyv hth3 hso3 hab3
              · have hb132 : ¬ (0 ≤ i.toInt) := hb132
                exfalso; first | omega | exact absurd hb132 (by decide +kernel)
theorem ac_loop {mi : Nat → Int32} {ml : Nat → Int64} {mm mh ro r : Nat → Int32} {x y g w wz : Int32} {c2 told h at9 f : Int32} {st2 : Nat → Nat} {th4 so ab : Nat → Int32} {P : Option cx_V → cx_H → Prop} (hth2 : ∀ i : Nat, i < 4 → (th4 i).toInt = ((st2 i : Nat) : Int)) (hP : ∀ (fx : Nat → Int32) (i : Int32) (A12 : Option cx_V), (∀ i : Nat, i < 4 → (fx i).toInt = ((st2 i : Nat) : Int)) → cx_T 7 214 [119, 126, 120, 124, 130, 131, 132, 133, 134] 237 ([some (.inr (.inl 119)), some (.inl (.int x)), some (.inl (.int y)), some (.inl (.int g)), some (.inl (.int w)), some (.inl (.int wz)), some (.inl (.int c2)), some (.inl (.int told)), some (.inl (.int h)), some (.inl (.int at9)), some (.inl (.int f)), some (.inl (.int i)), A12], [], [(119, .inl (11, vs_119 mi ml)), (126, .inr (.inl (0, 7, r))), (120, .inr (.inl (0, 4, mm))), (124, .inr (.inl (0, 64, mh))), (130, .inr (.inl (0, 45927, ro))), (131, .inr (.inl (0, 4, fx))), (132, .inr (.inl (0, 4, th4))), (133, .inr (.inl (0, 4, so))), (134, .inr (.inl (0, 5, ab)))]) P) :
    ∀ (m k : Nat), k + m = 4 → ∀ i : Int32, i.toInt = (k : Int) → ∀ (fx : Nat → Int32) (A12 : Option cx_V), (∀ q : Nat, q < k → (fx q).toInt = ((st2 q : Nat) : Int)) → cx_T 7 214 [119, 126, 120, 124, 130, 131, 132, 133, 134] 211 ([some (.inr (.inl 119)), some (.inl (.int x)), some (.inl (.int y)), some (.inl (.int g)), some (.inl (.int w)), some (.inl (.int wz)), some (.inl (.int c2)), some (.inl (.int told)), some (.inl (.int h)), some (.inl (.int at9)), some (.inl (.int f)), some (.inl (.int i)), A12], [], [(119, .inl (11, vs_119 mi ml)), (126, .inr (.inl (0, 7, r))), (120, .inr (.inl (0, 4, mm))), (124, .inr (.inl (0, 64, mh))), (130, .inr (.inl (0, 45927, ro))), (131, .inr (.inl (0, 4, fx))), (132, .inr (.inl (0, 4, th4))), (133, .inr (.inl (0, 4, so))), (134, .inr (.inl (0, 5, ab)))]) P := by
  have kcm9 : (Int32.ofInt (-9)).toInt = -9 := by decide +kernel
  have kcm1 : (Int32.ofInt (-1)).toInt = -1 := by decide +kernel
  have kc0 : (Int32.ofInt 0).toInt = 0 := by decide +kernel
  have kc1 : (Int32.ofInt 1).toInt = 1 := by decide +kernel
  have kc2 : (Int32.ofInt 2).toInt = 2 := by decide +kernel
  have kc4 : (Int32.ofInt 4).toInt = 4 := by decide +kernel
  have kc625 : (Int32.ofInt 625).toInt = 625 := by decide +kernel
  have kc6561 : (Int32.ofInt 6561).toInt = 6561 := by decide +kernel
  intro m
  induction m with
  | zero =>
    intro k hk i hi fx A12 hfx
    have ek : k = 4 := by omega
    refine ex_iload cg_214 (ix := 114) (pc' := 213) rfl rfl rfl ?_
    refine ex_iconst cg_214 (ix := 115) (pc' := 214) rfl rfl ?_
    refine ex_icmp cg_214 (ix := 116) (t := 237) (pc' := 217) rfl rfl rfl (fun hb214 => ?_) (fun hb214 => ?_)
    · have hb214 : (Int32.ofInt 4).toInt ≤ i.toInt := hb214
      rw [ek] at hfx
      exact hP fx i A12 hfx
    · have hb214 : ¬ ((Int32.ofInt 4).toInt ≤ i.toInt) := hb214
      exfalso; first | omega | exact absurd hb214 (by decide +kernel)
  | succ m ih =>
    intro k hk i hi fx A12 hfx
    have hik : i.toNatClampNeg = k := cx_clamp hi
    refine ex_iload cg_214 (ix := 114) (pc' := 213) rfl rfl rfl ?_
    refine ex_iconst cg_214 (ix := 115) (pc' := 214) rfl rfl ?_
    refine ex_icmp cg_214 (ix := 116) (t := 237) (pc' := 217) rfl rfl rfl (fun hb214 => ?_) (fun hb214 => ?_)
    · have hb214 : (Int32.ofInt 4).toInt ≤ i.toInt := hb214
      exfalso; first | omega | exact absurd hb214 (by decide +kernel)
    · have hb214 : ¬ ((Int32.ofInt 4).toInt ≤ i.toInt) := hb214
      refine ex_aload_n cg_214 (ix := 117) (pc' := 218) rfl rfl rfl ?_
      refine ex_getfield cg_214 (ix := 118) (pc' := 221) (v := .inr (.inl 131)) rfl rfl rfl rfl rfl ?_
      refine ex_iload cg_214 (ix := 119) (pc' := 223) rfl rfl rfl ?_
      refine ex_aload_n cg_214 (ix := 120) (pc' := 224) rfl rfl rfl ?_
      refine ex_getfield cg_214 (ix := 121) (pc' := 227) (v := .inr (.inl 132)) rfl rfl rfl rfl rfl ?_
      refine ex_iload cg_214 (ix := 122) (pc' := 229) rfl rfl rfl ?_
      refine ex_iaload cg_214 (ix := 123) (pc' := 230) rfl rfl (by omega) (by omega) rfl ?_
      refine ex_iastore cg_214 (ix := 124) (pc' := 231) (h' := [(119, .inl (11, vs_119 mi ml)), (126, .inr (.inl (0, 7, r))), (120, .inr (.inl (0, 4, mm))), (124, .inr (.inl (0, 64, mh))), (130, .inr (.inl (0, 45927, ro))), (131, .inr (.inl (0, 4, upd fx i.toNatClampNeg (th4 i.toNatClampNeg)))), (132, .inr (.inl (0, 4, th4))), (133, .inr (.inl (0, 4, so))), (134, .inr (.inl (0, 5, ab)))]) rfl rfl (by omega) (by omega) rfl rfl ?_
      refine ex_iinc cg_214 (ix := 125) (pc' := 234) (L' := [some (.inr (.inl 119)), some (.inl (.int x)), some (.inl (.int y)), some (.inl (.int g)), some (.inl (.int w)), some (.inl (.int wz)), some (.inl (.int c2)), some (.inl (.int told)), some (.inl (.int h)), some (.inl (.int at9)), some (.inl (.int f)), some (.inl (.int (i + Int32.ofInt 1))), A12]) rfl rfl rfl rfl rfl ?_
      refine ex_goto cg_214 (ix := 126) (pc' := 211) rfl rfl ?_
      refine ih (k + 1) (by omega) _ (by rw [cx_addc (by omega) (by omega)]; omega) _ _ (fun q hq => ?_)
      rw [hik]
      unfold upd
      by_cases e9 : q = k
      · rw [e9, if_pos rfl]; exact hth2 k (by omega)
      · rw [if_neg e9]; exact hfx q (by omega)
theorem az_loop {mi : Nat → Int32} {ml : Nat → Int64} {mm mh ro r : Nat → Int32} {x y g w wz : Int32} {cc : Int32} {th4 so ab : Nat → Int32} {A8 A9 A10 A11 A12 : Option cx_V} {P : Option cx_V → cx_H → Prop}  (hP : ∀ (fx : Nat → Int32) (i : Int32), (∀ i : Nat, i < 4 → (fx i).toInt = 0) → cx_T 7 214 [119, 126, 120, 124, 130, 131, 132, 133, 134] 97 ([some (.inr (.inl 119)), some (.inl (.int x)), some (.inl (.int y)), some (.inl (.int g)), some (.inl (.int w)), some (.inl (.int wz)), some (.inl (.int cc)), some (.inl (.int i)), A8, A9, A10, A11, A12], [], [(119, .inl (11, vs_119 mi ml)), (126, .inr (.inl (0, 7, r))), (120, .inr (.inl (0, 4, mm))), (124, .inr (.inl (0, 64, mh))), (130, .inr (.inl (0, 45927, ro))), (131, .inr (.inl (0, 4, fx))), (132, .inr (.inl (0, 4, th4))), (133, .inr (.inl (0, 4, so))), (134, .inr (.inl (0, 5, ab)))]) P) :
    ∀ (m k : Nat), k + m = 4 → ∀ i : Int32, i.toInt = (k : Int) → ∀ (fx : Nat → Int32), (∀ q : Nat, q < k → (fx q).toInt = 0) → cx_T 7 214 [119, 126, 120, 124, 130, 131, 132, 133, 134] 77 ([some (.inr (.inl 119)), some (.inl (.int x)), some (.inl (.int y)), some (.inl (.int g)), some (.inl (.int w)), some (.inl (.int wz)), some (.inl (.int cc)), some (.inl (.int i)), A8, A9, A10, A11, A12], [], [(119, .inl (11, vs_119 mi ml)), (126, .inr (.inl (0, 7, r))), (120, .inr (.inl (0, 4, mm))), (124, .inr (.inl (0, 64, mh))), (130, .inr (.inl (0, 45927, ro))), (131, .inr (.inl (0, 4, fx))), (132, .inr (.inl (0, 4, th4))), (133, .inr (.inl (0, 4, so))), (134, .inr (.inl (0, 5, ab)))]) P := by
  have kcm9 : (Int32.ofInt (-9)).toInt = -9 := by decide +kernel
  have kcm1 : (Int32.ofInt (-1)).toInt = -1 := by decide +kernel
  have kc0 : (Int32.ofInt 0).toInt = 0 := by decide +kernel
  have kc1 : (Int32.ofInt 1).toInt = 1 := by decide +kernel
  have kc2 : (Int32.ofInt 2).toInt = 2 := by decide +kernel
  have kc4 : (Int32.ofInt 4).toInt = 4 := by decide +kernel
  have kc625 : (Int32.ofInt 625).toInt = 625 := by decide +kernel
  have kc6561 : (Int32.ofInt 6561).toInt = 6561 := by decide +kernel
  intro m
  induction m with
  | zero =>
    intro k hk i hi fx hfx
    have ek : k = 4 := by omega
    refine ex_iload cg_214 (ix := 44) (pc' := 79) rfl rfl rfl ?_
    refine ex_iconst cg_214 (ix := 45) (pc' := 80) rfl rfl ?_
    refine ex_icmp cg_214 (ix := 46) (t := 97) (pc' := 83) rfl rfl rfl (fun hb80 => ?_) (fun hb80 => ?_)
    · have hb80 : (Int32.ofInt 4).toInt ≤ i.toInt := hb80
      rw [ek] at hfx
      exact hP fx i hfx
    · have hb80 : ¬ ((Int32.ofInt 4).toInt ≤ i.toInt) := hb80
      exfalso; first | omega | exact absurd hb80 (by decide +kernel)
  | succ m ih =>
    intro k hk i hi fx hfx
    have hik : i.toNatClampNeg = k := cx_clamp hi
    refine ex_iload cg_214 (ix := 44) (pc' := 79) rfl rfl rfl ?_
    refine ex_iconst cg_214 (ix := 45) (pc' := 80) rfl rfl ?_
    refine ex_icmp cg_214 (ix := 46) (t := 97) (pc' := 83) rfl rfl rfl (fun hb80 => ?_) (fun hb80 => ?_)
    · have hb80 : (Int32.ofInt 4).toInt ≤ i.toInt := hb80
      exfalso; first | omega | exact absurd hb80 (by decide +kernel)
    · have hb80 : ¬ ((Int32.ofInt 4).toInt ≤ i.toInt) := hb80
      refine ex_aload_n cg_214 (ix := 47) (pc' := 84) rfl rfl rfl ?_
      refine ex_getfield cg_214 (ix := 48) (pc' := 87) (v := .inr (.inl 131)) rfl rfl rfl rfl rfl ?_
      refine ex_iload cg_214 (ix := 49) (pc' := 89) rfl rfl rfl ?_
      refine ex_iconst cg_214 (ix := 50) (pc' := 90) rfl rfl ?_
      refine ex_iastore cg_214 (ix := 51) (pc' := 91) (h' := [(119, .inl (11, vs_119 mi ml)), (126, .inr (.inl (0, 7, r))), (120, .inr (.inl (0, 4, mm))), (124, .inr (.inl (0, 64, mh))), (130, .inr (.inl (0, 45927, ro))), (131, .inr (.inl (0, 4, upd fx i.toNatClampNeg (Int32.ofInt 0)))), (132, .inr (.inl (0, 4, th4))), (133, .inr (.inl (0, 4, so))), (134, .inr (.inl (0, 5, ab)))]) rfl rfl (by omega) (by omega) rfl rfl ?_
      refine ex_iinc cg_214 (ix := 52) (pc' := 94) (L' := [some (.inr (.inl 119)), some (.inl (.int x)), some (.inl (.int y)), some (.inl (.int g)), some (.inl (.int w)), some (.inl (.int wz)), some (.inl (.int cc)), some (.inl (.int (i + Int32.ofInt 1))), A8, A9, A10, A11, A12]) rfl rfl rfl rfl rfl ?_
      refine ex_goto cg_214 (ix := 53) (pc' := 77) rfl rfl ?_
      refine ih (k + 1) (by omega) _ (by rw [cx_addc (by omega) (by omega)]; omega) _ (fun q hq => ?_)
      rw [hik]
      unfold upd
      split
      · exact kc0
      · exact hfx q (by omega)
theorem ah_loop {mi : Nat → Int32} {ml : Nat → Int64} {mm mh ro r : Nat → Int32} {hd : Nat → Nat → Int32} {x y g w wz : Int32} {sN e H gN gd : Nat} {n : Nat} {P : Option cx_V → cx_H → Prop} (hmm : ∀ b : Nat, b < 4 → 0 ≤ (mm b).toInt ∧ (mm b).toInt ≤ 40) (hmh : ∀ b h : Nat, b < 4 → h < 16 → (mh (16 * b + h)).toInt = (hd b h).toInt) (hhd : hdH hd) (hx : x.toInt = (sN : Int)) (hH : sN + H = e) (hH1 : 1 ≤ H) (hH6 : H ≤ 6) (he : e ≤ 16) (hg8 : (mi 8).toInt = (gN : Int)) (hg4 : gN ≤ 4) (hS : (mi 21).toInt = 0) (hro : ∀ q : Nat, q ≤ H → roL (nbF mm) (rkE hd e) gN H ro q 6561) (hn : n ≤ H) (hw : w.toInt + 1 = ((sN + n : Nat) : Int)) (hgd : g.toInt = (gd : Int)) (hgd4 : gd < gN) (hP : ∀ (SS TS : Nat → Nat → Nat) (cc told i : Int32) (fo4 th4 so ab : Nat → Int32) (A9 A10 A11 A12 : Option cx_V), planP (nbF mm) (rkE hd e) gN H SS TS n → (∀ k2, n = k2 + 1 → told.toInt = ((nxs (SS k2 gd) (TS k2 gd) : Nat) : Int)) → (∀ i : Nat, i < 4 → 0 ≤ (fo4 i).toInt ∧ (fo4 i).toInt ≤ 8) → thU th4 → thU so → abU ab → cx_T 7 214 [119, 126, 120, 124, 130, 131, 132, 133, 134] 251 ([some (.inr (.inl 119)), some (.inl (.int x)), some (.inl (.int y)), some (.inl (.int g)), some (.inl (.int w)), some (.inl (.int wz)), some (.inl (.int cc)), some (.inl (.int told)), some (.inl (.int i)), A9, A10, A11, A12], [], [(119, .inl (11, vs_119 mi ml)), (126, .inr (.inl (0, 7, r))), (120, .inr (.inl (0, 4, mm))), (124, .inr (.inl (0, 64, mh))), (130, .inr (.inl (0, 45927, ro))), (131, .inr (.inl (0, 4, fo4))), (132, .inr (.inl (0, 4, th4))), (133, .inr (.inl (0, 4, so))), (134, .inr (.inl (0, 5, ab)))]) P) :
    ∀ (m k : Nat), k + m = n → ∀ i : Int32, i.toInt = ((sN + k : Nat) : Int) → ∀ (SS TS : Nat → Nat → Nat) (wn : Nat → Nat) (cc told : Int32) (fo4 th4 so ab : Nat → Int32) (A9 A10 A11 A12 : Option cx_V), planP (nbF mm) (rkE hd e) gN H SS TS k → (∀ i : Nat, i < 4 → (fo4 i).toInt = ((SS k i : Nat) : Int)) → cc.toInt = ((cdS wn : Nat) : Int) → ascN wn 4 → (∀ i : Nat, i < 4 → wn i < 9) → (∀ v, cntV wn 4 v = cntV (SS k) 4 v) → (k = 0 → cdS wn = 0) → (∀ k2, k = k2 + 1 → told.toInt = ((nxs (SS k2 gd) (TS k2 gd) : Nat) : Int)) → thU th4 → thU so → abU ab → cx_T 7 214 [119, 126, 120, 124, 130, 131, 132, 133, 134] 103 ([some (.inr (.inl 119)), some (.inl (.int x)), some (.inl (.int y)), some (.inl (.int g)), some (.inl (.int w)), some (.inl (.int wz)), some (.inl (.int cc)), some (.inl (.int told)), some (.inl (.int i)), A9, A10, A11, A12], [], [(119, .inl (11, vs_119 mi ml)), (126, .inr (.inl (0, 7, r))), (120, .inr (.inl (0, 4, mm))), (124, .inr (.inl (0, 64, mh))), (130, .inr (.inl (0, 45927, ro))), (131, .inr (.inl (0, 4, fo4))), (132, .inr (.inl (0, 4, th4))), (133, .inr (.inl (0, 4, so))), (134, .inr (.inl (0, 5, ab)))]) P := by
  have kcm9 : (Int32.ofInt (-9)).toInt = -9 := by decide +kernel
  have kcm1 : (Int32.ofInt (-1)).toInt = -1 := by decide +kernel
  have kc0 : (Int32.ofInt 0).toInt = 0 := by decide +kernel
  have kc1 : (Int32.ofInt 1).toInt = 1 := by decide +kernel
  have kc2 : (Int32.ofInt 2).toInt = 2 := by decide +kernel
  have kc4 : (Int32.ofInt 4).toInt = 4 := by decide +kernel
  have kc625 : (Int32.ofInt 625).toInt = 625 := by decide +kernel
  have kc6561 : (Int32.ofInt 6561).toInt = 6561 := by decide +kernel
  intro m
  induction m with
  | zero =>
    intro k hk i hi SS TS wn cc told fo4 th4 so ab A9 A10 A11 A12 hpl hfo hcc hwa hw9 hwc hw0 htold hth hso hab
    have ek : k = n := by omega
    refine ex_iload cg_214 (ix := 58) (pc' := 105) rfl rfl rfl ?_
    refine ex_iload cg_214 (ix := 59) (pc' := 107) rfl rfl rfl ?_
    refine ex_icmp cg_214 (ix := 60) (t := 251) (pc' := 110) rfl rfl rfl (fun hb107 => ?_) (fun hb107 => ?_)
    · have hb107 : w.toInt < i.toInt := hb107
      rw [ek] at hpl htold hfo
      exact hP SS TS cc told i fo4 th4 so ab A9 A10 A11 A12 hpl htold (fun i9 h9 => by
        have := planP_9 hpl (Nat.le_refl n) i9
        rw [hfo i9 h9]
        omega) hth hso hab
    · have hb107 : ¬ (w.toInt < i.toInt) := hb107
      exfalso; first | omega | exact absurd hb107 (by decide +kernel)
  | succ m ih =>
    intro k hk i hi SS TS wn cc told fo4 th4 so ab A9 A10 A11 A12 hpl hfo hcc hwa hw9 hwc hw0 htold hth hso hab
    have hik : i.toNatClampNeg = sN + k := cx_clamp hi
    have hgc := cx_clamp hgd
    refine ex_iload cg_214 (ix := 58) (pc' := 105) rfl rfl rfl ?_
    refine ex_iload cg_214 (ix := 59) (pc' := 107) rfl rfl rfl ?_
    refine ex_icmp cg_214 (ix := 60) (t := 251) (pc' := 110) rfl rfl rfl (fun hb107 => ?_) (fun hb107 => ?_)
    · have hb107 : w.toInt < i.toInt := hb107
      exfalso; first | omega | exact absurd hb107 (by decide +kernel)
    · have hb107 : ¬ (w.toInt < i.toInt) := hb107
      refine ex_iload cg_214 (ix := 61) (pc' := 112) rfl rfl rfl ?_
      refine ex_iload_n cg_214 (ix := 62) (pc' := 113) rfl rfl rfl ?_
      refine ex_isub cg_214 (ix := 63) (pc' := 114) rfl rfl ?_
      refine ex_istore cg_214 (ix := 64) (pc' := 116) (L' := [some (.inr (.inl 119)), some (.inl (.int x)), some (.inl (.int y)), some (.inl (.int g)), some (.inl (.int w)), some (.inl (.int wz)), some (.inl (.int cc)), some (.inl (.int told)), some (.inl (.int i)), some (.inl (.int (i - x))), A10, A11, A12]) rfl rfl rfl rfl ?_
      refine ex_iconst cg_214 (ix := 65) (pc' := 117) rfl rfl ?_
      refine ex_istore cg_214 (ix := 66) (pc' := 119) (L' := [some (.inr (.inl 119)), some (.inl (.int x)), some (.inl (.int y)), some (.inl (.int g)), some (.inl (.int w)), some (.inl (.int wz)), some (.inl (.int cc)), some (.inl (.int told)), some (.inl (.int i)), some (.inl (.int (i - x))), some (.inl (.int (Int32.ofInt (-1)))), A11, A12]) rfl rfl rfl rfl ?_
      refine ex_iconst cg_214 (ix := 67) (pc' := 120) rfl rfl ?_
      refine ex_istore cg_214 (ix := 68) (pc' := 122) (L' := [some (.inr (.inl 119)), some (.inl (.int x)), some (.inl (.int y)), some (.inl (.int g)), some (.inl (.int w)), some (.inl (.int wz)), some (.inl (.int cc)), some (.inl (.int told)), some (.inl (.int i)), some (.inl (.int (i - x))), some (.inl (.int (Int32.ofInt (-1)))), some (.inl (.int (Int32.ofInt 0))), A12]) rfl rfl rfl rfl ?_
      have hix9 : (i - x).toInt = (k : Int) := by
        rw [cx_subc (by omega) (by omega)]
        omega
      have h9 := planP_9 hpl (Nat.le_refl k)
      have h0 := plan_0 hpl (Nat.le_refl k)
      obtain ⟨f1, f2, f3⟩ := fs_4 (st := SS k) hg4 h0
      have hrk : rkE hd e (H - 1 - k) = rkH hd (sN + k) := by
        unfold rkE
        rw [show e - 1 - (H - 1 - k) = sN + k by omega]
      have hrD := roL_st hg4 (hro k (by omega)) hwa hw9 hwc f3 hw0
      rw [f1, f2] at hrD
      have hDb := LV_b (rkE_b (by omega) he hhd) (nb := nbF mm) (G := gN) (j := H - k) (F := spI (fsC (SS k) gN)) (r := zsC (SS k) gN) (by omega)
      have hex : ∃ K, K < 625 ∧ mtK (nbF mm) (rkH hd (sN + k)) (LV (nbF mm) (rkE hd e) gN (H - 1 - k)) gN (LV (nbF mm) (rkE hd e) gN (H - k) (spI (fsC (SS k) gN)) (zsC (SS k) gN)) (SS k) K := by
        obtain ⟨ts, hts⟩ := plan_ex (nb := nbF mm) (rk := rkE hd e) (G := gN) (H := H) rkE_E (rkE_b (by omega) he hhd) hg4 (show H ≤ 90 by omega) (show k < H by omega) h9
        rw [hrk] at hts
        obtain ⟨K, k1, k2, -⟩ := vs_mt (fun _ _ q => rkH_E q) hg4 hts
        exact ⟨K, k1, k2⟩
      refine ak_loop (mi := mi) (ml := ml) (mm := mm) (mh := mh) (ro := ro) (r := r) (hd := hd) (x := x) (y := y) (g := g) (w := w) (wz := wz) (sN := sN) (e := e) (H := H) (gN := gN) (jN := k) (D := LV (nbF mm) (rkE hd e) gN (H - k) (spI (fsC (SS k) gN)) (zsC (SS k) gN)) (st := SS k) (cdw := cdS wn) (cc := cc) (told := told) (h := i) (at9 := i - x) (fo4 := fo4) hmm hmh hhd hx hH hH1 hH6 he hg8 hg4 hS hro (by omega) hfo h9 h0 hcc (dS_cd hw9).1 hrD (by omega) (by omega) hix9 hex (P := P) (fun K th2 so2 ab2 f i3 A12 hK hmt hno hyv hth2 hso2 hab2 => ?_) 625 0 (by omega) (Int32.ofInt 0) (by decide +kernel) (Int32.ofInt (-1)) th4 so ab A12 kcm1 (fun K2 h => absurd h (Nat.not_lt_zero K2)) hth hso hab
      have hF := mt_first (fun _ _ q => rkH_E q) hg4 hK hmt hno
      rw [← hrk] at hF
      obtain ⟨S2, T2, hpl2, hT2, hSk, hS2⟩ := plan_up hpl hF
      have hno4 := ((ok_F hg4).mp hmt.1).2
      have hSe : ∀ i9 : Nat, i9 < 4 → S2 (k + 1) i9 = nxs (SS k i9) (dgK K i9) := fun i9 h99 => by
        rw [hS2 i9]
        by_cases q : i9 < gN
        · rw [if_pos q]
        · rw [if_neg q]
          unfold nxs
          rw [if_pos (hno4 i9 (by omega) h99)]
      refine ex_aload_n cg_214 (ix := 109) (pc' := 203) rfl rfl rfl ?_
      refine ex_callV cg_214 (ix := 110) (pc' := 206) (As := []) (r := []) rfl rfl rfl (ct_co (mi := mi) (ml := ml) (th4 := th2) (y := fun q => nxs (SS k q) (dgK K q)) (so := so2) hyv (fun q _ => nxs_9 dgK_4) hso2) (by first | decide | omega) rfl rfl rfl ⟨rfl, rfl, rfl, trivial⟩ rfl rfl (fun v h2 hq => ?_)
      obtain ⟨zc, so3, w3, rfl, rfl, hs3, hwa, hwc, hw9, hso3, hzc⟩ := hq
      show cx_T _ 214 _ 206 ([some (.inr (.inl 119)), some (.inl (.int x)), some (.inl (.int y)), some (.inl (.int g)), some (.inl (.int w)), some (.inl (.int wz)), some (.inl (.int cc)), some (.inl (.int told)), some (.inl (.int i)), some (.inl (.int (i - x))), some (.inl (.int f)), some (.inl (.int i3)), A12], [.inl (.int zc)], [(119, .inl (11, vs_119 mi ml)), (126, .inr (.inl (0, 7, r))), (120, .inr (.inl (0, 4, mm))), (124, .inr (.inl (0, 64, mh))), (130, .inr (.inl (0, 45927, ro))), (131, .inr (.inl (0, 4, fo4))), (132, .inr (.inl (0, 4, th2))), (133, .inr (.inl (0, 4, so3))), (134, .inr (.inl (0, 5, ab2)))]) _
      refine ex_istore cg_214 (ix := 111) (pc' := 208) (L' := [some (.inr (.inl 119)), some (.inl (.int x)), some (.inl (.int y)), some (.inl (.int g)), some (.inl (.int w)), some (.inl (.int wz)), some (.inl (.int zc)), some (.inl (.int told)), some (.inl (.int i)), some (.inl (.int (i - x))), some (.inl (.int f)), some (.inl (.int i3)), A12]) rfl rfl rfl rfl ?_
      refine ex_iconst cg_214 (ix := 112) (pc' := 209) rfl rfl ?_
      refine ex_istore cg_214 (ix := 113) (pc' := 211) (L' := [some (.inr (.inl 119)), some (.inl (.int x)), some (.inl (.int y)), some (.inl (.int g)), some (.inl (.int w)), some (.inl (.int wz)), some (.inl (.int zc)), some (.inl (.int told)), some (.inl (.int i)), some (.inl (.int (i - x))), some (.inl (.int f)), some (.inl (.int (Int32.ofInt 0))), A12]) rfl rfl rfl rfl ?_
      refine ac_loop (mi := mi) (ml := ml) (ro := ro) (r := r) (x := x) (y := y) (g := g) (w := w) (wz := wz) (c2 := zc) (told := told) (h := i) (at9 := i - x) (f := f) (st2 := fun q => nxs (SS k q) (dgK K q)) (th4 := th2) (so := so3) (ab := ab2) hyv (P := P) (fun fx i4 A12 hfx => ?_) 4 0 (by omega) (Int32.ofInt 0) (by decide +kernel) fo4 A12 (fun q hq => absurd hq (Nat.not_lt_zero q))
      refine ex_aload_n cg_214 (ix := 127) (pc' := 238) rfl rfl rfl ?_
      refine ex_getfield cg_214 (ix := 128) (pc' := 241) (v := .inr (.inl 132)) rfl rfl rfl rfl rfl ?_
      refine ex_iload_n cg_214 (ix := 129) (pc' := 242) rfl rfl rfl ?_
      refine ex_iaload cg_214 (ix := 130) (pc' := 243) rfl rfl (by omega) (by omega) rfl ?_
      refine ex_istore cg_214 (ix := 131) (pc' := 245) (L' := [some (.inr (.inl 119)), some (.inl (.int x)), some (.inl (.int y)), some (.inl (.int g)), some (.inl (.int w)), some (.inl (.int wz)), some (.inl (.int zc)), some (.inl (.int (th2 g.toNatClampNeg))), some (.inl (.int i)), some (.inl (.int (i - x))), some (.inl (.int f)), some (.inl (.int i4)), A12]) rfl rfl rfl rfl ?_
      refine ex_iinc cg_214 (ix := 132) (pc' := 248) (L' := [some (.inr (.inl 119)), some (.inl (.int x)), some (.inl (.int y)), some (.inl (.int g)), some (.inl (.int w)), some (.inl (.int wz)), some (.inl (.int zc)), some (.inl (.int (th2 g.toNatClampNeg))), some (.inl (.int (i + Int32.ofInt 1))), some (.inl (.int (i - x))), some (.inl (.int f)), some (.inl (.int i4)), A12]) rfl rfl rfl rfl rfl ?_
      refine ex_goto cg_214 (ix := 133) (pc' := 103) rfl rfl ?_
      refine ih (k + 1) (by omega) _ (by rw [cx_addc (by omega) (by omega)]; omega) S2 T2 w3 zc _ fx th2 so3 ab2 _ _ _ _ hpl2 (fun i9 h9 => by rw [hfx i9 h9, hSe i9 h9]) hzc hwa hw9 (fun v => by rw [hwc v]; exact cntV_E (fun i9 h9 => (hSe i9 h9).symm)) (fun z => absurd z (by omega)) (fun k2 hk2 => ?_) hth2 hso3 hab2
      have ek2 : k2 = k := by omega
      rw [ek2, hSk, hT2, hgc]
      exact hyv gd (by omega)
theorem ct_mra {mi : Nat → Int32} {ml : Nat → Int64} {mm mh ro fo4 th4 so ab r : Nat → Int32} {hd : Nat → Nat → Int32} {x y : Int32} {gN : Nat} {g w : Int32} (hmm : ∀ b : Nat, b < 4 → 0 ≤ (mm b).toInt ∧ (mm b).toInt ≤ 40) (hmh : ∀ b h : Nat, b < 4 → h < 16 → (mh (16 * b + h)).toInt = (hd b h).toInt) (hhd : hdH hd) (hg : (mi 8).toInt = (gN : Int)) (hg4 : gN ≤ 4) (hfoU : ∀ i : Nat, i < 4 → 0 ≤ (fo4 i).toInt ∧ (fo4 i).toInt ≤ 8) (hthU : thU th4) (hsoU : thU so) (habU : abU ab) (hrm : rosM (nbF mm) hd gN (mi 22) (mi 23) ro) : cx_Ct 7 214 [.inr (.inl 119), .inl (.int x), .inl (.int y), .inl (.int g), .inl (.int w)] ([(119, .inl (11, vs_119 mi ml)), (126, .inr (.inl (0, 7, r))), (120, .inr (.inl (0, 4, mm))), (124, .inr (.inl (0, 64, mh))), (130, .inr (.inl (0, 45927, ro))), (131, .inr (.inl (0, 4, fo4))), (132, .inr (.inl (0, 4, th4))), (133, .inr (.inl (0, 4, so))), (134, .inr (.inl (0, 5, ab)))]) (fun v h2 => ∃ (z : Int32) (mi2 r2 ro2 fo2 th2 so2 ab2 : Nat → Int32), v = some (.inl (.int z)) ∧ h2 = [(119, .inl (11, vs_119 mi2 ml)), (126, .inr (.inl (0, 7, r2))), (120, .inr (.inl (0, 4, mm))), (124, .inr (.inl (0, 64, mh))), (130, .inr (.inl (0, 45927, ro2))), (131, .inr (.inl (0, 4, fo2))), (132, .inr (.inl (0, 4, th2))), (133, .inr (.inl (0, 4, so2))), (134, .inr (.inl (0, 5, ab2)))] ∧ ((∀ i : Nat, i < 4 → 0 ≤ (fo2 i).toInt ∧ (fo2 i).toInt ≤ 8) ∧ thU th2 ∧ thU so2 ∧ abU ab2) ∧ ((∀ i : Nat, (Nat.beq i 0 || (Nat.beq i 21 || (Nat.beq i 22 || Nat.beq i 23))) = false → mi2 i = mi i) ∧ ((mi2 21 = mi 21) ∨ (mi2 21).toInt = 0 ∨ (mi2 21).toInt = 1)) ∧ rosM (nbF mm) hd gN (mi2 22) (mi2 23) ro2 ∧ rosB (nbF mm) hd gN x y g w z) := by
  have kcm9 : (Int32.ofInt (-9)).toInt = -9 := by decide +kernel
  have kcm1 : (Int32.ofInt (-1)).toInt = -1 := by decide +kernel
  have kc0 : (Int32.ofInt 0).toInt = 0 := by decide +kernel
  have kc1 : (Int32.ofInt 1).toInt = 1 := by decide +kernel
  have kc2 : (Int32.ofInt 2).toInt = 2 := by decide +kernel
  have kc4 : (Int32.ofInt 4).toInt = 4 := by decide +kernel
  have kc625 : (Int32.ofInt 625).toInt = 625 := by decide +kernel
  have kc6561 : (Int32.ofInt 6561).toInt = 6561 := by decide +kernel
  refine cx_Ct.of cg_214 (nL := 13) rfl rfl rfl ?_
  show cx_T 7 214 [119, 126, 120, 124, 130, 131, 132, 133, 134] 0 ([some (.inr (.inl 119)), some (.inl (.int x)), some (.inl (.int y)), some (.inl (.int g)), some (.inl (.int w)), none, none, none, none, none, none, none, none], [], ([(119, .inl (11, vs_119 mi ml)), (126, .inr (.inl (0, 7, r))), (120, .inr (.inl (0, 4, mm))), (124, .inr (.inl (0, 64, mh))), (130, .inr (.inl (0, 45927, ro))), (131, .inr (.inl (0, 4, fo4))), (132, .inr (.inl (0, 4, th4))), (133, .inr (.inl (0, 4, so))), (134, .inr (.inl (0, 5, ab)))])) _
  refine ex_aload_n cg_214 (ix := 0) (pc' := 1) rfl rfl rfl ?_
  refine ex_iconst cg_214 (ix := 1) (pc' := 2) rfl rfl ?_
  refine ex_putfield cg_214 (ix := 2) (pc' := 5) (h' := [(119, .inl (11, vs_119 (upi mi 0 (Int32.ofInt 0)) ml)), (126, .inr (.inl (0, 7, r))), (120, .inr (.inl (0, 4, mm))), (124, .inr (.inl (0, 64, mh))), (130, .inr (.inl (0, 45927, ro))), (131, .inr (.inl (0, 4, fo4))), (132, .inr (.inl (0, 4, th4))), (133, .inr (.inl (0, 4, so))), (134, .inr (.inl (0, 5, ab)))]) rfl rfl rfl rfl rfl rfl rfl rfl ?_
  refine ex_iload_n cg_214 (ix := 3) (pc' := 6) rfl rfl rfl ?_
  refine ex_iload_n cg_214 (ix := 4) (pc' := 7) rfl rfl rfl ?_
  have hg1 : (mi 8 - Int32.ofInt 1).toInt = (gN : Int) - 1 := by
    rw [cx_subc (by omega) (by omega), kc1]
    omega
  refine ex_callS cg_214 (ix := 5) (pc' := 10) (As := [.inl (.int x), .inl (.int y)]) (r := []) rfl rfl rfl (ct_wro (x := x) (y := y)) (by first | decide | omega) rfl rfl trivial rfl rfl (fun v h2 hq => ?_)
  obtain ⟨wz, rfl, rfl, hwz⟩ := hq
  show cx_T _ 214 _ 10 ([some (.inr (.inl 119)), some (.inl (.int x)), some (.inl (.int y)), some (.inl (.int g)), some (.inl (.int w)), none, none, none, none, none, none, none, none], [.inl (.int wz)], [(119, .inl (11, vs_119 (upi mi 0 (Int32.ofInt 0)) ml)), (126, .inr (.inl (0, 7, r))), (120, .inr (.inl (0, 4, mm))), (124, .inr (.inl (0, 64, mh))), (130, .inr (.inl (0, 45927, ro))), (131, .inr (.inl (0, 4, fo4))), (132, .inr (.inl (0, 4, th4))), (133, .inr (.inl (0, 4, so))), (134, .inr (.inl (0, 5, ab)))]) _
  refine ex_istore cg_214 (ix := 6) (pc' := 12) (L' := [some (.inr (.inl 119)), some (.inl (.int x)), some (.inl (.int y)), some (.inl (.int g)), some (.inl (.int w)), some (.inl (.int wz)), none, none, none, none, none, none, none]) rfl rfl rfl rfl ?_
  refine ex_iload cg_214 (ix := 7) (pc' := 14) rfl rfl rfl ?_
  refine ex_iconst cg_214 (ix := 8) (pc' := 15) rfl rfl ?_
  refine ex_icmp cg_214 (ix := 9) (t := 42) (pc' := 18) rfl rfl rfl (fun hb15 => ?_) (fun hb15 => ?_)
  · have hb15 : wz.toInt = (Int32.ofInt (-1)).toInt := hb15
    refine ex_aload_n cg_214 (ix := 23) (pc' := 43) rfl rfl rfl ?_
    refine ex_iconst cg_214 (ix := 24) (pc' := 44) rfl rfl ?_
    refine ex_callV cg_214 (ix := 25) (pc' := 47) (As := [.inl (.int (Int32.ofInt (-1)))]) (r := []) rfl rfl rfl (ct_mref (x := Int32.ofInt (-1)) (mi := upi mi 0 (Int32.ofInt 0)) (ml := ml) (r := r) (by omega) (by omega)) (by first | decide | omega) rfl rfl rfl ⟨rfl, rfl, trivial⟩ rfl rfl (fun v h2 hq => ?_)
    obtain ⟨rfl, r2, rfl⟩ := hq
    show cx_T _ 214 _ 47 ([some (.inr (.inl 119)), some (.inl (.int x)), some (.inl (.int y)), some (.inl (.int g)), some (.inl (.int w)), some (.inl (.int wz)), none, none, none, none, none, none, none], [.inl (.int (Int32.ofInt (-1)))], [(119, .inl (11, vs_119 (upi mi 0 (Int32.ofInt 0)) ml)), (126, .inr (.inl (0, 7, r2))), (120, .inr (.inl (0, 4, mm))), (124, .inr (.inl (0, 64, mh))), (130, .inr (.inl (0, 45927, ro))), (131, .inr (.inl (0, 4, fo4))), (132, .inr (.inl (0, 4, th4))), (133, .inr (.inl (0, 4, so))), (134, .inr (.inl (0, 5, ab)))]) _
    refine ex_ireturn cg_214 (ix := 26) rfl ?_
    refine ⟨_, upi mi 0 (Int32.ofInt 0), r2, ro, fo4, th4, so, ab, rfl, rfl, ⟨hfoU, hthU, hsoU, habU⟩, ⟨fun i hi => ?_, Or.inl rfl⟩, hrm, ?_⟩
    · simp only [Bool.or_eq_false_iff] at hi
      obtain ⟨u0, u1, u2, u3⟩ := hi
      simp only [upi, u0, u1, u2, u3, cond_false]
    · refine Or.inl ⟨fun q => ?_, kcm1⟩
      obtain ⟨q1, q2, q3⟩ := q
      first
      | (rcases hwz with ⟨u, _⟩ | ⟨u, _, v⟩ | ⟨u, v⟩
         · exact u q1
         · exfalso
           omega
         · exfalso
           omega)
      | exact hiw q2
      | exact hig ⟨by omega, by omega⟩
  · have hb15 : ¬ (wz.toInt = (Int32.ofInt (-1)).toInt) := hb15
    refine ex_iload cg_214 (ix := 10) (pc' := 20) rfl rfl rfl ?_
    refine ex_iload_n cg_214 (ix := 11) (pc' := 21) rfl rfl rfl ?_
    refine ex_iload_n cg_214 (ix := 12) (pc' := 22) rfl rfl rfl ?_
    refine ex_callS cg_214 (ix := 13) (pc' := 25) (As := [.inl (.int w), .inl (.int x), .inl (.int y)]) (r := []) rfl rfl rfl (ct_min (x := w) (a := x) (b := y)) (by first | decide | omega) rfl rfl trivial rfl rfl (fun v h2 hq => ?_)
    obtain ⟨ziw, rfl, rfl, hziw⟩ := hq
    rcases hziw with ⟨hiw, rfl⟩ | ⟨hiw, rfl⟩
    · show cx_T _ 214 _ 25 ([some (.inr (.inl 119)), some (.inl (.int x)), some (.inl (.int y)), some (.inl (.int g)), some (.inl (.int w)), some (.inl (.int wz)), none, none, none, none, none, none, none], [.inl (.int (Int32.ofInt 1))], [(119, .inl (11, vs_119 (upi mi 0 (Int32.ofInt 0)) ml)), (126, .inr (.inl (0, 7, r))), (120, .inr (.inl (0, 4, mm))), (124, .inr (.inl (0, 64, mh))), (130, .inr (.inl (0, 45927, ro))), (131, .inr (.inl (0, 4, fo4))), (132, .inr (.inl (0, 4, th4))), (133, .inr (.inl (0, 4, so))), (134, .inr (.inl (0, 5, ab)))]) _
      refine ex_if cg_214 (ix := 14) (t := 42) (pc' := 28) rfl rfl rfl (fun hb25 => ?_) (fun hb25 => ?_)
      · have hb25 : (Int32.ofInt 1).toInt = 0 := hb25
        exfalso; first | omega | exact absurd hb25 (by decide +kernel)
      · have hb25 : ¬ ((Int32.ofInt 1).toInt = 0) := hb25
        refine ex_iload_n cg_214 (ix := 15) (pc' := 29) rfl rfl rfl ?_
        refine ex_iconst cg_214 (ix := 16) (pc' := 30) rfl rfl ?_
        refine ex_aload_n cg_214 (ix := 17) (pc' := 31) rfl rfl rfl ?_
        refine ex_getfield cg_214 (ix := 18) (pc' := 34) (v := .inl (.int (mi 8))) rfl rfl rfl rfl rfl ?_
        refine ex_iconst cg_214 (ix := 19) (pc' := 35) rfl rfl ?_
        refine ex_isub cg_214 (ix := 20) (pc' := 36) rfl rfl ?_
        refine ex_callS cg_214 (ix := 21) (pc' := 39) (As := [.inl (.int g), .inl (.int (Int32.ofInt 0)), .inl (.int ((mi 8) - (Int32.ofInt 1)))]) (r := []) rfl rfl rfl (ct_min (x := g) (a := Int32.ofInt 0) (b := mi 8 - Int32.ofInt 1)) (by first | decide | omega) rfl rfl trivial rfl rfl (fun v h2 hq => ?_)
        obtain ⟨zig, rfl, rfl, hzig⟩ := hq
        rcases hzig with ⟨hig, rfl⟩ | ⟨hig, rfl⟩
        · show cx_T _ 214 _ 39 ([some (.inr (.inl 119)), some (.inl (.int x)), some (.inl (.int y)), some (.inl (.int g)), some (.inl (.int w)), some (.inl (.int wz)), none, none, none, none, none, none, none], [.inl (.int (Int32.ofInt 1))], [(119, .inl (11, vs_119 (upi mi 0 (Int32.ofInt 0)) ml)), (126, .inr (.inl (0, 7, r))), (120, .inr (.inl (0, 4, mm))), (124, .inr (.inl (0, 64, mh))), (130, .inr (.inl (0, 45927, ro))), (131, .inr (.inl (0, 4, fo4))), (132, .inr (.inl (0, 4, th4))), (133, .inr (.inl (0, 4, so))), (134, .inr (.inl (0, 5, ab)))]) _
          refine ex_if cg_214 (ix := 22) (t := 48) (pc' := 42) rfl rfl rfl (fun hb39 => ?_) (fun hb39 => ?_)
          · have hb39 : ¬ (Int32.ofInt 1).toInt = 0 := hb39
            refine ex_iload cg_214 (ix := 27) (pc' := 50) rfl rfl rfl ?_
            have hw9 : -6 ≤ wz.toInt ∧ wz.toInt ≤ 0 := by
              rcases hwz with ⟨_, q⟩ | ⟨_, _, q⟩ | ⟨_, q⟩ <;> omega
            refine ex_if cg_214 (ix := 28) (t := 60) (pc' := 53) rfl rfl rfl (fun hb50 => ?_) (fun hb50 => ?_)
            · have hb50 : 0 ≤ wz.toInt := hb50
              have hsp : spR x y := by
                rcases hwz with ⟨_, q⟩ | ⟨_, _, q⟩ | ⟨q, _⟩
                · exfalso
                  omega
                · exfalso
                  omega
                · exact q
              obtain ⟨hs1, hs2, hs3, hs4, hs5, hs6⟩ := sp_n hsp
              have hgcl := ab_clamp (x := g) (by omega)
              have hatN : atN gN x y g w := ⟨hsp.1, hiw, by omega, by omega⟩
              refine ex_aload_n cg_214 (ix := 33) (pc' := 61) rfl rfl rfl ?_
              refine ex_iload_n cg_214 (ix := 34) (pc' := 62) rfl rfl rfl ?_
              refine ex_iload_n cg_214 (ix := 35) (pc' := 63) rfl rfl rfl ?_
              refine ex_callV cg_214 (ix := 36) (pc' := 66) (As := [.inl (.int x), .inl (.int y)]) (r := []) rfl rfl rfl (ct_fro (mi := upi mi 0 (Int32.ofInt 0)) (ml := ml) (mm := mm) (mh := mh) (hd := hd) (ro := ro) (fo4 := fo4) (th4 := th4) (so := so) (ab := ab) (x := x) (y := y) (sN := x.toInt.toNat) (e := eR y) (H := hR x y) (gN := gN) hmm hmh hhd hs1 hs2 hs3 hs4 hs5 hs6 hg hg4 hfoU hthU hsoU habU) (by first | decide | omega) rfl rfl rfl ⟨rfl, rfl, rfl, rfl, rfl, rfl, rfl, rfl, trivial⟩ rfl rfl (fun v h2 hq => ?_)
              obtain ⟨rfl, hq⟩ := hq
              rcases hq with ⟨hc1, hc2, rfl⟩ | ⟨hnc, ro2, fo2, th2, so2, ab2, rfl, hfo2, hth2, hso2, hab2, hrq⟩
              · show cx_T _ 214 _ 66 ([some (.inr (.inl 119)), some (.inl (.int x)), some (.inl (.int y)), some (.inl (.int g)), some (.inl (.int w)), some (.inl (.int wz)), none, none, none, none, none, none, none], [], [(119, .inl (11, vs_119 (upi mi 0 (Int32.ofInt 0)) ml)), (126, .inr (.inl (0, 7, r))), (120, .inr (.inl (0, 4, mm))), (124, .inr (.inl (0, 64, mh))), (130, .inr (.inl (0, 45927, ro))), (131, .inr (.inl (0, 4, fo4))), (132, .inr (.inl (0, 4, th4))), (133, .inr (.inl (0, 4, so))), (134, .inr (.inl (0, 5, ab)))]) _
                have hrq : ∀ q : Nat, q ≤ hR x y → roL (nbF mm) (rkE hd (eR y)) gN (hR x y) ro q 6561 := by
                  have hc1 : mi 22 = x := hc1
                  have hc2 : mi 23 = y := hc2
                  rcases hrm with q | ⟨q1, q2⟩
                  · exfalso
                    rw [hc1] at q
                    have := hsp.1.1.1
                    omega
                  · rw [hc1, hc2] at q2
                    exact q2
                refine ex_aload_n cg_214 (ix := 37) (pc' := 67) rfl rfl rfl ?_
                refine ex_iconst cg_214 (ix := 38) (pc' := 68) rfl rfl ?_
                refine ex_putfield cg_214 (ix := 39) (pc' := 71) (h' := [(119, .inl (11, vs_119 (upi (upi mi 0 (Int32.ofInt 0)) 21 (Int32.ofInt 0)) ml)), (126, .inr (.inl (0, 7, r))), (120, .inr (.inl (0, 4, mm))), (124, .inr (.inl (0, 64, mh))), (130, .inr (.inl (0, 45927, ro))), (131, .inr (.inl (0, 4, fo4))), (132, .inr (.inl (0, 4, th4))), (133, .inr (.inl (0, 4, so))), (134, .inr (.inl (0, 5, ab)))]) rfl rfl rfl rfl rfl rfl rfl rfl ?_
                refine ex_iconst cg_214 (ix := 40) (pc' := 72) rfl rfl ?_
                refine ex_istore cg_214 (ix := 41) (pc' := 74) (L' := [some (.inr (.inl 119)), some (.inl (.int x)), some (.inl (.int y)), some (.inl (.int g)), some (.inl (.int w)), some (.inl (.int wz)), some (.inl (.int (Int32.ofInt 0))), none, none, none, none, none, none]) rfl rfl rfl rfl ?_
                refine ex_iconst cg_214 (ix := 42) (pc' := 75) rfl rfl ?_
                refine ex_istore cg_214 (ix := 43) (pc' := 77) (L' := [some (.inr (.inl 119)), some (.inl (.int x)), some (.inl (.int y)), some (.inl (.int g)), some (.inl (.int w)), some (.inl (.int wz)), some (.inl (.int (Int32.ofInt 0))), some (.inl (.int (Int32.ofInt 0))), none, none, none, none, none]) rfl rfl rfl rfl ?_
                refine az_loop (mi := (upi (upi mi 0 (Int32.ofInt 0)) 21 (Int32.ofInt 0))) (ml := ml) (mm := mm) (mh := mh) (ro := ro) (r := r) (x := x) (y := y) (g := g) (w := w) (wz := wz) (cc := Int32.ofInt 0) (th4 := th4) (so := so) (ab := ab) (A8 := none) (A9 := none) (A10 := none) (A11 := none) (A12 := none) (P := fun v h2 => ∃ (z : Int32) (mi2 r2 ro2 fo2 th2 so2 ab2 : Nat → Int32), v = some (.inl (.int z)) ∧ h2 = [(119, .inl (11, vs_119 mi2 ml)), (126, .inr (.inl (0, 7, r2))), (120, .inr (.inl (0, 4, mm))), (124, .inr (.inl (0, 64, mh))), (130, .inr (.inl (0, 45927, ro2))), (131, .inr (.inl (0, 4, fo2))), (132, .inr (.inl (0, 4, th2))), (133, .inr (.inl (0, 4, so2))), (134, .inr (.inl (0, 5, ab2)))] ∧ ((∀ i : Nat, i < 4 → 0 ≤ (fo2 i).toInt ∧ (fo2 i).toInt ≤ 8) ∧ thU th2 ∧ thU so2 ∧ abU ab2) ∧ ((∀ i : Nat, (Nat.beq i 0 || (Nat.beq i 21 || (Nat.beq i 22 || Nat.beq i 23))) = false → mi2 i = mi i) ∧ ((mi2 21 = mi 21) ∨ (mi2 21).toInt = 0 ∨ (mi2 21).toInt = 1)) ∧ rosM (nbF mm) hd gN (mi2 22) (mi2 23) ro2 ∧ rosB (nbF mm) hd gN x y g w z) (fun fx i5 hfx => ?_) 4 0 (by omega) (Int32.ofInt 0) (by decide +kernel) fo4 (fun q hq => absurd hq (Nat.not_lt_zero q))
                refine ex_iconst cg_214 (ix := 54) (pc' := 98) rfl rfl ?_
                refine ex_istore cg_214 (ix := 55) (pc' := 100) (L' := [some (.inr (.inl 119)), some (.inl (.int x)), some (.inl (.int y)), some (.inl (.int g)), some (.inl (.int w)), some (.inl (.int wz)), some (.inl (.int (Int32.ofInt 0))), some (.inl (.int (Int32.ofInt 0))), none, none, none, none, none]) rfl rfl rfl rfl ?_
                refine ex_iload_n cg_214 (ix := 56) (pc' := 101) rfl rfl rfl ?_
                refine ex_istore cg_214 (ix := 57) (pc' := 103) (L' := [some (.inr (.inl 119)), some (.inl (.int x)), some (.inl (.int y)), some (.inl (.int g)), some (.inl (.int w)), some (.inl (.int wz)), some (.inl (.int (Int32.ofInt 0))), some (.inl (.int (Int32.ofInt 0))), some (.inl (.int x)), none, none, none, none]) rfl rfl rfl rfl ?_
                refine ah_loop (mi := (upi (upi mi 0 (Int32.ofInt 0)) 21 (Int32.ofInt 0))) (ml := ml) (mm := mm) (mh := mh) (ro := ro) (r := r) (hd := hd) (x := x) (y := y) (g := g) (w := w) (wz := wz) (sN := x.toInt.toNat) (e := eR y) (H := hR x y) (gN := gN) (gd := g.toNatClampNeg) (n := (w.toInt - x.toInt).toNat + 1) hmm hmh hhd hs1 hs3 hs4 hs5 hs6 hg hg4 kc0 hrq (by omega) (by omega) (by omega) (by omega) (P := fun v h2 => ∃ (z : Int32) (mi2 r2 ro2 fo2 th2 so2 ab2 : Nat → Int32), v = some (.inl (.int z)) ∧ h2 = [(119, .inl (11, vs_119 mi2 ml)), (126, .inr (.inl (0, 7, r2))), (120, .inr (.inl (0, 4, mm))), (124, .inr (.inl (0, 64, mh))), (130, .inr (.inl (0, 45927, ro2))), (131, .inr (.inl (0, 4, fo2))), (132, .inr (.inl (0, 4, th2))), (133, .inr (.inl (0, 4, so2))), (134, .inr (.inl (0, 5, ab2)))] ∧ ((∀ i : Nat, i < 4 → 0 ≤ (fo2 i).toInt ∧ (fo2 i).toInt ≤ 8) ∧ thU th2 ∧ thU so2 ∧ abU ab2) ∧ ((∀ i : Nat, (Nat.beq i 0 || (Nat.beq i 21 || (Nat.beq i 22 || Nat.beq i 23))) = false → mi2 i = mi i) ∧ ((mi2 21 = mi 21) ∨ (mi2 21).toInt = 0 ∨ (mi2 21).toInt = 1)) ∧ rosM (nbF mm) hd gN (mi2 22) (mi2 23) ro2 ∧ rosB (nbF mm) hd gN x y g w z) (fun SS TS cc9 told i9 fo5 th5 so5 ab5 A9 A10 A11 A12 hpl htold hfo5 hth5 hso5 hab5 => ?_) ((w.toInt - x.toInt).toNat + 1) 0 (by omega) x (by omega) (fun _ _ => 0) (fun _ _ => 0) (fun _ => 0) (Int32.ofInt 0) (Int32.ofInt 0) fx th4 so ab none none none none ⟨fun _ => rfl, fun j hj => absurd hj (Nat.not_lt_zero j)⟩ (fun i8 h8 => hfx i8 h8) kc0 (fun _ _ _ _ => Nat.le_refl _) (fun i8 _ => by show 0 < 9; omega) (fun _ => rfl) (fun _ => rfl) (fun k2 hk2 => absurd hk2 (by omega)) hthU hsoU habU
                refine ex_iload cg_214 (ix := 134) (pc' := 253) rfl rfl rfl ?_
                refine ex_if cg_214 (ix := 135) (t := 261) (pc' := 256) rfl rfl rfl (fun hb253 => ?_) (fun hb253 => ?_)
                · have hb253 : ¬ told.toInt = 0 := hb253
                  refine ex_iload cg_214 (ix := 138) (pc' := 263) rfl rfl rfl ?_
                  refine ex_iconst cg_214 (ix := 139) (pc' := 264) rfl rfl ?_
                  refine ex_isub cg_214 (ix := 140) (pc' := 265) rfl rfl ?_
                  refine ex_iconst cg_214 (ix := 141) (pc' := 266) rfl rfl ?_
                  refine ex_idiv cg_214 (ix := 142) (pc' := 267) rfl (by decide +kernel) rfl ?_
                  refine ex_ireturn cg_214 (ix := 143) rfl ?_
                  have htk := htold (w.toInt - x.toInt).toNat rfl
                  have ht4 := isF_4 (hpl.2 (w.toInt - x.toInt).toNat (Nat.lt_succ_self _)).1 g.toNatClampNeg (by omega)
                  have hn9 := nxs_9 (s := SS (w.toInt - x.toInt).toNat g.toNatClampNeg) ht4
                  have hts : (told - Int32.ofInt 1).toInt = told.toInt - 1 := by
                    rw [cx_subc (by omega) (by omega), kc1]
                  refine ⟨_, (upi (upi mi 0 (Int32.ofInt 0)) 21 (Int32.ofInt 0)), r, ro, fo5, th5, so5, ab5, rfl, rfl, ⟨hfo5, hth5, hso5, hab5⟩, ⟨fun i hi => ?_, Or.inr (Or.inl kc0)⟩, hrm, Or.inr (Or.inr ⟨hatN, hsp, SS, TS, hpl, told_v htk ht4 (Or.inr ⟨hb253, by rw [ro_div (by rw [hts]; omega) (by omega), hts, kc2]⟩)⟩)⟩
                  simp only [Bool.or_eq_false_iff] at hi
                  obtain ⟨u0, u1, u2, u3⟩ := hi
                  simp only [upi, u0, u1, u2, u3, cond_false]
                · have hb253 : ¬ (¬ told.toInt = 0) := hb253
                  refine ex_bipush cg_214 (ix := 136) (pc' := 258) rfl rfl rfl ?_
                  refine ex_goto cg_214 (ix := 137) (pc' := 267) rfl rfl ?_
                  refine ex_ireturn cg_214 (ix := 143) rfl ?_
                  have htk := htold (w.toInt - x.toInt).toNat rfl
                  have ht4 := isF_4 (hpl.2 (w.toInt - x.toInt).toNat (Nat.lt_succ_self _)).1 g.toNatClampNeg (by omega)
                  have hn9 := nxs_9 (s := SS (w.toInt - x.toInt).toNat g.toNatClampNeg) ht4
                  have hb253z : told.toInt = 0 := by omega
                  refine ⟨_, (upi (upi mi 0 (Int32.ofInt 0)) 21 (Int32.ofInt 0)), r, ro, fo5, th5, so5, ab5, rfl, rfl, ⟨hfo5, hth5, hso5, hab5⟩, ⟨fun i hi => ?_, Or.inr (Or.inl kc0)⟩, hrm, Or.inr (Or.inr ⟨hatN, hsp, SS, TS, hpl, told_v htk ht4 (Or.inl ⟨hb253z, kcm9⟩)⟩)⟩
                  simp only [Bool.or_eq_false_iff] at hi
                  obtain ⟨u0, u1, u2, u3⟩ := hi
                  simp only [upi, u0, u1, u2, u3, cond_false]
              · show cx_T _ 214 _ 66 ([some (.inr (.inl 119)), some (.inl (.int x)), some (.inl (.int y)), some (.inl (.int g)), some (.inl (.int w)), some (.inl (.int wz)), none, none, none, none, none, none, none], [], [(119, .inl (11, vs_119 (upi (upi (upi (upi mi 0 (Int32.ofInt 0)) 21 (Int32.ofInt 1)) 22 x) 23 y) ml)), (126, .inr (.inl (0, 7, r))), (120, .inr (.inl (0, 4, mm))), (124, .inr (.inl (0, 64, mh))), (130, .inr (.inl (0, 45927, ro2))), (131, .inr (.inl (0, 4, fo2))), (132, .inr (.inl (0, 4, th2))), (133, .inr (.inl (0, 4, so2))), (134, .inr (.inl (0, 5, ab2)))]) _
                skip
                refine ex_aload_n cg_214 (ix := 37) (pc' := 67) rfl rfl rfl ?_
                refine ex_iconst cg_214 (ix := 38) (pc' := 68) rfl rfl ?_
                refine ex_putfield cg_214 (ix := 39) (pc' := 71) (h' := [(119, .inl (11, vs_119 (upi (upi (upi (upi mi 0 (Int32.ofInt 0)) 21 (Int32.ofInt 0)) 22 x) 23 y) ml)), (126, .inr (.inl (0, 7, r))), (120, .inr (.inl (0, 4, mm))), (124, .inr (.inl (0, 64, mh))), (130, .inr (.inl (0, 45927, ro2))), (131, .inr (.inl (0, 4, fo2))), (132, .inr (.inl (0, 4, th2))), (133, .inr (.inl (0, 4, so2))), (134, .inr (.inl (0, 5, ab2)))]) rfl rfl rfl rfl rfl rfl rfl rfl ?_
                refine ex_iconst cg_214 (ix := 40) (pc' := 72) rfl rfl ?_
                refine ex_istore cg_214 (ix := 41) (pc' := 74) (L' := [some (.inr (.inl 119)), some (.inl (.int x)), some (.inl (.int y)), some (.inl (.int g)), some (.inl (.int w)), some (.inl (.int wz)), some (.inl (.int (Int32.ofInt 0))), none, none, none, none, none, none]) rfl rfl rfl rfl ?_
                refine ex_iconst cg_214 (ix := 42) (pc' := 75) rfl rfl ?_
                refine ex_istore cg_214 (ix := 43) (pc' := 77) (L' := [some (.inr (.inl 119)), some (.inl (.int x)), some (.inl (.int y)), some (.inl (.int g)), some (.inl (.int w)), some (.inl (.int wz)), some (.inl (.int (Int32.ofInt 0))), some (.inl (.int (Int32.ofInt 0))), none, none, none, none, none]) rfl rfl rfl rfl ?_
                refine az_loop (mi := (upi (upi (upi (upi mi 0 (Int32.ofInt 0)) 21 (Int32.ofInt 0)) 22 x) 23 y)) (ml := ml) (mm := mm) (mh := mh) (ro := ro2) (r := r) (x := x) (y := y) (g := g) (w := w) (wz := wz) (cc := Int32.ofInt 0) (th4 := th2) (so := so2) (ab := ab2) (A8 := none) (A9 := none) (A10 := none) (A11 := none) (A12 := none) (P := fun v h2 => ∃ (z : Int32) (mi2 r2 ro2 fo2 th2 so2 ab2 : Nat → Int32), v = some (.inl (.int z)) ∧ h2 = [(119, .inl (11, vs_119 mi2 ml)), (126, .inr (.inl (0, 7, r2))), (120, .inr (.inl (0, 4, mm))), (124, .inr (.inl (0, 64, mh))), (130, .inr (.inl (0, 45927, ro2))), (131, .inr (.inl (0, 4, fo2))), (132, .inr (.inl (0, 4, th2))), (133, .inr (.inl (0, 4, so2))), (134, .inr (.inl (0, 5, ab2)))] ∧ ((∀ i : Nat, i < 4 → 0 ≤ (fo2 i).toInt ∧ (fo2 i).toInt ≤ 8) ∧ thU th2 ∧ thU so2 ∧ abU ab2) ∧ ((∀ i : Nat, (Nat.beq i 0 || (Nat.beq i 21 || (Nat.beq i 22 || Nat.beq i 23))) = false → mi2 i = mi i) ∧ ((mi2 21 = mi 21) ∨ (mi2 21).toInt = 0 ∨ (mi2 21).toInt = 1)) ∧ rosM (nbF mm) hd gN (mi2 22) (mi2 23) ro2 ∧ rosB (nbF mm) hd gN x y g w z) (fun fx i5 hfx => ?_) 4 0 (by omega) (Int32.ofInt 0) (by decide +kernel) fo2 (fun q hq => absurd hq (Nat.not_lt_zero q))
                refine ex_iconst cg_214 (ix := 54) (pc' := 98) rfl rfl ?_
                refine ex_istore cg_214 (ix := 55) (pc' := 100) (L' := [some (.inr (.inl 119)), some (.inl (.int x)), some (.inl (.int y)), some (.inl (.int g)), some (.inl (.int w)), some (.inl (.int wz)), some (.inl (.int (Int32.ofInt 0))), some (.inl (.int (Int32.ofInt 0))), none, none, none, none, none]) rfl rfl rfl rfl ?_
                refine ex_iload_n cg_214 (ix := 56) (pc' := 101) rfl rfl rfl ?_
                refine ex_istore cg_214 (ix := 57) (pc' := 103) (L' := [some (.inr (.inl 119)), some (.inl (.int x)), some (.inl (.int y)), some (.inl (.int g)), some (.inl (.int w)), some (.inl (.int wz)), some (.inl (.int (Int32.ofInt 0))), some (.inl (.int (Int32.ofInt 0))), some (.inl (.int x)), none, none, none, none]) rfl rfl rfl rfl ?_
                refine ah_loop (mi := (upi (upi (upi (upi mi 0 (Int32.ofInt 0)) 21 (Int32.ofInt 0)) 22 x) 23 y)) (ml := ml) (mm := mm) (mh := mh) (ro := ro2) (r := r) (hd := hd) (x := x) (y := y) (g := g) (w := w) (wz := wz) (sN := x.toInt.toNat) (e := eR y) (H := hR x y) (gN := gN) (gd := g.toNatClampNeg) (n := (w.toInt - x.toInt).toNat + 1) hmm hmh hhd hs1 hs3 hs4 hs5 hs6 hg hg4 kc0 hrq (by omega) (by omega) (by omega) (by omega) (P := fun v h2 => ∃ (z : Int32) (mi2 r2 ro2 fo2 th2 so2 ab2 : Nat → Int32), v = some (.inl (.int z)) ∧ h2 = [(119, .inl (11, vs_119 mi2 ml)), (126, .inr (.inl (0, 7, r2))), (120, .inr (.inl (0, 4, mm))), (124, .inr (.inl (0, 64, mh))), (130, .inr (.inl (0, 45927, ro2))), (131, .inr (.inl (0, 4, fo2))), (132, .inr (.inl (0, 4, th2))), (133, .inr (.inl (0, 4, so2))), (134, .inr (.inl (0, 5, ab2)))] ∧ ((∀ i : Nat, i < 4 → 0 ≤ (fo2 i).toInt ∧ (fo2 i).toInt ≤ 8) ∧ thU th2 ∧ thU so2 ∧ abU ab2) ∧ ((∀ i : Nat, (Nat.beq i 0 || (Nat.beq i 21 || (Nat.beq i 22 || Nat.beq i 23))) = false → mi2 i = mi i) ∧ ((mi2 21 = mi 21) ∨ (mi2 21).toInt = 0 ∨ (mi2 21).toInt = 1)) ∧ rosM (nbF mm) hd gN (mi2 22) (mi2 23) ro2 ∧ rosB (nbF mm) hd gN x y g w z) (fun SS TS cc9 told i9 fo5 th5 so5 ab5 A9 A10 A11 A12 hpl htold hfo5 hth5 hso5 hab5 => ?_) ((w.toInt - x.toInt).toNat + 1) 0 (by omega) x (by omega) (fun _ _ => 0) (fun _ _ => 0) (fun _ => 0) (Int32.ofInt 0) (Int32.ofInt 0) fx th2 so2 ab2 none none none none ⟨fun _ => rfl, fun j hj => absurd hj (Nat.not_lt_zero j)⟩ (fun i8 h8 => hfx i8 h8) kc0 (fun _ _ _ _ => Nat.le_refl _) (fun i8 _ => by show 0 < 9; omega) (fun _ => rfl) (fun _ => rfl) (fun k2 hk2 => absurd hk2 (by omega)) hth2 hso2 hab2
                refine ex_iload cg_214 (ix := 134) (pc' := 253) rfl rfl rfl ?_
                refine ex_if cg_214 (ix := 135) (t := 261) (pc' := 256) rfl rfl rfl (fun hb253 => ?_) (fun hb253 => ?_)
                · have hb253 : ¬ told.toInt = 0 := hb253
                  refine ex_iload cg_214 (ix := 138) (pc' := 263) rfl rfl rfl ?_
                  refine ex_iconst cg_214 (ix := 139) (pc' := 264) rfl rfl ?_
                  refine ex_isub cg_214 (ix := 140) (pc' := 265) rfl rfl ?_
                  refine ex_iconst cg_214 (ix := 141) (pc' := 266) rfl rfl ?_
                  refine ex_idiv cg_214 (ix := 142) (pc' := 267) rfl (by decide +kernel) rfl ?_
                  refine ex_ireturn cg_214 (ix := 143) rfl ?_
                  have htk := htold (w.toInt - x.toInt).toNat rfl
                  have ht4 := isF_4 (hpl.2 (w.toInt - x.toInt).toNat (Nat.lt_succ_self _)).1 g.toNatClampNeg (by omega)
                  have hn9 := nxs_9 (s := SS (w.toInt - x.toInt).toNat g.toNatClampNeg) ht4
                  have hts : (told - Int32.ofInt 1).toInt = told.toInt - 1 := by
                    rw [cx_subc (by omega) (by omega), kc1]
                  refine ⟨_, (upi (upi (upi (upi mi 0 (Int32.ofInt 0)) 21 (Int32.ofInt 0)) 22 x) 23 y), r, ro2, fo5, th5, so5, ab5, rfl, rfl, ⟨hfo5, hth5, hso5, hab5⟩, ⟨fun i hi => ?_, Or.inr (Or.inl kc0)⟩, Or.inr ⟨hsp, hrq⟩, Or.inr (Or.inr ⟨hatN, hsp, SS, TS, hpl, told_v htk ht4 (Or.inr ⟨hb253, by rw [ro_div (by rw [hts]; omega) (by omega), hts, kc2]⟩)⟩)⟩
                  simp only [Bool.or_eq_false_iff] at hi
                  obtain ⟨u0, u1, u2, u3⟩ := hi
                  simp only [upi, u0, u1, u2, u3, cond_false]
                · have hb253 : ¬ (¬ told.toInt = 0) := hb253
                  refine ex_bipush cg_214 (ix := 136) (pc' := 258) rfl rfl rfl ?_
                  refine ex_goto cg_214 (ix := 137) (pc' := 267) rfl rfl ?_
                  refine ex_ireturn cg_214 (ix := 143) rfl ?_
                  have htk := htold (w.toInt - x.toInt).toNat rfl
                  have ht4 := isF_4 (hpl.2 (w.toInt - x.toInt).toNat (Nat.lt_succ_self _)).1 g.toNatClampNeg (by omega)
                  have hn9 := nxs_9 (s := SS (w.toInt - x.toInt).toNat g.toNatClampNeg) ht4
                  have hb253z : told.toInt = 0 := by omega
                  refine ⟨_, (upi (upi (upi (upi mi 0 (Int32.ofInt 0)) 21 (Int32.ofInt 0)) 22 x) 23 y), r, ro2, fo5, th5, so5, ab5, rfl, rfl, ⟨hfo5, hth5, hso5, hab5⟩, ⟨fun i hi => ?_, Or.inr (Or.inl kc0)⟩, Or.inr ⟨hsp, hrq⟩, Or.inr (Or.inr ⟨hatN, hsp, SS, TS, hpl, told_v htk ht4 (Or.inl ⟨hb253z, kcm9⟩)⟩)⟩
                  simp only [Bool.or_eq_false_iff] at hi
                  obtain ⟨u0, u1, u2, u3⟩ := hi
                  simp only [upi, u0, u1, u2, u3, cond_false]
            · have hb50 : ¬ (0 ≤ wz.toInt) := hb50
              refine ex_aload_n cg_214 (ix := 29) (pc' := 54) rfl rfl rfl ?_
              refine ex_iload cg_214 (ix := 30) (pc' := 56) rfl rfl rfl ?_
              refine ex_callV cg_214 (ix := 31) (pc' := 59) (As := [.inl (.int wz)]) (r := []) rfl rfl rfl (ct_mref (x := wz) (mi := upi mi 0 (Int32.ofInt 0)) (ml := ml) (r := r) (by omega) (by omega)) (by first | decide | omega) rfl rfl rfl ⟨rfl, rfl, trivial⟩ rfl rfl (fun v h2 hq => ?_)
              obtain ⟨rfl, r2, rfl⟩ := hq
              show cx_T _ 214 _ 59 ([some (.inr (.inl 119)), some (.inl (.int x)), some (.inl (.int y)), some (.inl (.int g)), some (.inl (.int w)), some (.inl (.int wz)), none, none, none, none, none, none, none], [.inl (.int wz)], [(119, .inl (11, vs_119 (upi mi 0 (Int32.ofInt 0)) ml)), (126, .inr (.inl (0, 7, r2))), (120, .inr (.inl (0, 4, mm))), (124, .inr (.inl (0, 64, mh))), (130, .inr (.inl (0, 45927, ro))), (131, .inr (.inl (0, 4, fo4))), (132, .inr (.inl (0, 4, th4))), (133, .inr (.inl (0, 4, so))), (134, .inr (.inl (0, 5, ab)))]) _
              refine ex_ireturn cg_214 (ix := 32) rfl ?_
              refine ⟨_, upi mi 0 (Int32.ofInt 0), r2, ro, fo4, th4, so, ab, rfl, rfl, ⟨hfoU, hthU, hsoU, habU⟩, ⟨fun i hi => ?_, Or.inl rfl⟩, hrm, ?_⟩
              · simp only [Bool.or_eq_false_iff] at hi
                obtain ⟨u0, u1, u2, u3⟩ := hi
                simp only [upi, u0, u1, u2, u3, cond_false]
              · rcases hwz with ⟨_, q⟩ | ⟨q1, q2, q3⟩ | ⟨_, q⟩
                · exfalso
                  omega
                · exact Or.inr (Or.inl ⟨⟨q1, hiw, by omega, by omega⟩, q2, q3⟩)
                · exfalso
                  omega
          · have hb39 : ¬ (¬ (Int32.ofInt 1).toInt = 0) := hb39
            exfalso; first | omega | exact absurd hb39 (by decide +kernel)
        · show cx_T _ 214 _ 39 ([some (.inr (.inl 119)), some (.inl (.int x)), some (.inl (.int y)), some (.inl (.int g)), some (.inl (.int w)), some (.inl (.int wz)), none, none, none, none, none, none, none], [.inl (.int (Int32.ofInt 0))], [(119, .inl (11, vs_119 (upi mi 0 (Int32.ofInt 0)) ml)), (126, .inr (.inl (0, 7, r))), (120, .inr (.inl (0, 4, mm))), (124, .inr (.inl (0, 64, mh))), (130, .inr (.inl (0, 45927, ro))), (131, .inr (.inl (0, 4, fo4))), (132, .inr (.inl (0, 4, th4))), (133, .inr (.inl (0, 4, so))), (134, .inr (.inl (0, 5, ab)))]) _
          refine ex_if cg_214 (ix := 22) (t := 48) (pc' := 42) rfl rfl rfl (fun hb39 => ?_) (fun hb39 => ?_)
          · have hb39 : ¬ (Int32.ofInt 0).toInt = 0 := hb39
            exfalso; first | omega | exact absurd hb39 (by decide +kernel)
          · have hb39 : ¬ (¬ (Int32.ofInt 0).toInt = 0) := hb39
            refine ex_aload_n cg_214 (ix := 23) (pc' := 43) rfl rfl rfl ?_
            refine ex_iconst cg_214 (ix := 24) (pc' := 44) rfl rfl ?_
            refine ex_callV cg_214 (ix := 25) (pc' := 47) (As := [.inl (.int (Int32.ofInt (-1)))]) (r := []) rfl rfl rfl (ct_mref (x := Int32.ofInt (-1)) (mi := upi mi 0 (Int32.ofInt 0)) (ml := ml) (r := r) (by omega) (by omega)) (by first | decide | omega) rfl rfl rfl ⟨rfl, rfl, trivial⟩ rfl rfl (fun v h2 hq => ?_)
            obtain ⟨rfl, r2, rfl⟩ := hq
            show cx_T _ 214 _ 47 ([some (.inr (.inl 119)), some (.inl (.int x)), some (.inl (.int y)), some (.inl (.int g)), some (.inl (.int w)), some (.inl (.int wz)), none, none, none, none, none, none, none], [.inl (.int (Int32.ofInt (-1)))], [(119, .inl (11, vs_119 (upi mi 0 (Int32.ofInt 0)) ml)), (126, .inr (.inl (0, 7, r2))), (120, .inr (.inl (0, 4, mm))), (124, .inr (.inl (0, 64, mh))), (130, .inr (.inl (0, 45927, ro))), (131, .inr (.inl (0, 4, fo4))), (132, .inr (.inl (0, 4, th4))), (133, .inr (.inl (0, 4, so))), (134, .inr (.inl (0, 5, ab)))]) _
            refine ex_ireturn cg_214 (ix := 26) rfl ?_
            refine ⟨_, upi mi 0 (Int32.ofInt 0), r2, ro, fo4, th4, so, ab, rfl, rfl, ⟨hfoU, hthU, hsoU, habU⟩, ⟨fun i hi => ?_, Or.inl rfl⟩, hrm, ?_⟩
            · simp only [Bool.or_eq_false_iff] at hi
              obtain ⟨u0, u1, u2, u3⟩ := hi
              simp only [upi, u0, u1, u2, u3, cond_false]
            · refine Or.inl ⟨fun q => ?_, kcm1⟩
              obtain ⟨q1, q2, q3⟩ := q
              first
              | (rcases hwz with ⟨u, _⟩ | ⟨u, _, v⟩ | ⟨u, v⟩
                 · exact u q1
                 · exfalso
                   omega
                 · exfalso
                   omega)
              | exact hiw q2
              | exact hig ⟨by omega, by omega⟩
    · show cx_T _ 214 _ 25 ([some (.inr (.inl 119)), some (.inl (.int x)), some (.inl (.int y)), some (.inl (.int g)), some (.inl (.int w)), some (.inl (.int wz)), none, none, none, none, none, none, none], [.inl (.int (Int32.ofInt 0))], [(119, .inl (11, vs_119 (upi mi 0 (Int32.ofInt 0)) ml)), (126, .inr (.inl (0, 7, r))), (120, .inr (.inl (0, 4, mm))), (124, .inr (.inl (0, 64, mh))), (130, .inr (.inl (0, 45927, ro))), (131, .inr (.inl (0, 4, fo4))), (132, .inr (.inl (0, 4, th4))), (133, .inr (.inl (0, 4, so))), (134, .inr (.inl (0, 5, ab)))]) _
      refine ex_if cg_214 (ix := 14) (t := 42) (pc' := 28) rfl rfl rfl (fun hb25 => ?_) (fun hb25 => ?_)
      · have hb25 : (Int32.ofInt 0).toInt = 0 := hb25
        refine ex_aload_n cg_214 (ix := 23) (pc' := 43) rfl rfl rfl ?_
        refine ex_iconst cg_214 (ix := 24) (pc' := 44) rfl rfl ?_
        refine ex_callV cg_214 (ix := 25) (pc' := 47) (As := [.inl (.int (Int32.ofInt (-1)))]) (r := []) rfl rfl rfl (ct_mref (x := Int32.ofInt (-1)) (mi := upi mi 0 (Int32.ofInt 0)) (ml := ml) (r := r) (by omega) (by omega)) (by first | decide | omega) rfl rfl rfl ⟨rfl, rfl, trivial⟩ rfl rfl (fun v h2 hq => ?_)
        obtain ⟨rfl, r2, rfl⟩ := hq
        show cx_T _ 214 _ 47 ([some (.inr (.inl 119)), some (.inl (.int x)), some (.inl (.int y)), some (.inl (.int g)), some (.inl (.int w)), some (.inl (.int wz)), none, none, none, none, none, none, none], [.inl (.int (Int32.ofInt (-1)))], [(119, .inl (11, vs_119 (upi mi 0 (Int32.ofInt 0)) ml)), (126, .inr (.inl (0, 7, r2))), (120, .inr (.inl (0, 4, mm))), (124, .inr (.inl (0, 64, mh))), (130, .inr (.inl (0, 45927, ro))), (131, .inr (.inl (0, 4, fo4))), (132, .inr (.inl (0, 4, th4))), (133, .inr (.inl (0, 4, so))), (134, .inr (.inl (0, 5, ab)))]) _
        refine ex_ireturn cg_214 (ix := 26) rfl ?_
        refine ⟨_, upi mi 0 (Int32.ofInt 0), r2, ro, fo4, th4, so, ab, rfl, rfl, ⟨hfoU, hthU, hsoU, habU⟩, ⟨fun i hi => ?_, Or.inl rfl⟩, hrm, ?_⟩
        · simp only [Bool.or_eq_false_iff] at hi
          obtain ⟨u0, u1, u2, u3⟩ := hi
          simp only [upi, u0, u1, u2, u3, cond_false]
        · refine Or.inl ⟨fun q => ?_, kcm1⟩
          obtain ⟨q1, q2, q3⟩ := q
          first
          | (rcases hwz with ⟨u, _⟩ | ⟨u, _, v⟩ | ⟨u, v⟩
             · exact u q1
             · exfalso
               omega
             · exfalso
               omega)
          | exact hiw q2
          | exact hig ⟨by omega, by omega⟩
      · have hb25 : ¬ ((Int32.ofInt 0).toInt = 0) := hb25
        exfalso; first | omega | exact absurd hb25 (by decide +kernel)
end
