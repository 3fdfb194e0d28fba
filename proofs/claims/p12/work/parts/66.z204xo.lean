noncomputable section
theorem lo_loop {g fk pf pt pr : Int32} {sz fo go : Nat → Int32} {x y : Int32} {nb : Nat → Nat → Prop} {sN rN : Nat} {gv : Nat → Nat} {P : Option cx_V → cx_H → Prop} (hsz : szH sz) (hx : x.toInt = (sN : Int)) (hs70 : sN < 70) (hy : y.toInt = (rN : Int)) (hr5 : rN < 5) (hfo : ∀ q : Nat, q < 70 → fo (70 * sN + q) = b2R (cho nb (cnL (cN sN)) (cN q))) (hgo : ∀ q : Nat, q < 70 → szN q ≤ szN sN → (go (5 * q + rN)).toInt = ((gv q : Nat) : Int)) (hP : ∀ z : Int32, z.toInt = ((mnZ 1000000000 (fun on => bP (cho nb (cnL (cN sN)) (cN on))) gv 70 : Nat) : Int) → P (some (.inl (.int z))) ([(43, .inl (4, [.inr (.inl 2), .inr (.inl 44), .inr (.inl 45), .inr (.inl 46), .inr (.inl 47), .inr (.inl 48), .inr (.inl 49), .inr (.inl 50), .inr (.inl 57), .inr (.inl 58), .inr (.inl 66), .inr (.inl 67), .inl (.int g), .inl (.int fk), .inl (.int pf), .inl (.int pt), .inl (.int pr)])), (46, .inr (.inl (0, 70, sz))), (49, .inr (.inl (2, 4900, fo))), (57, .inr (.inl (0, 350, go)))])) :
    ∀ (m k : Nat), k + m = 70 → ∀ i : Int32, i.toInt = (k : Int) → ∀ (z : Int32), z.toInt = ((mnZ 1000000000 (fun on => bP (cho nb (cnL (cN sN)) (cN on))) gv k : Nat) : Int) → cx_T 2 55 [43, 46, 49, 57] 6 ([some (.inr (.inl 43)), some (.inl (.int x)), some (.inl (.int y)), some (.inl (.int z)), some (.inl (.int i))], [], [(43, .inl (4, [.inr (.inl 2), .inr (.inl 44), .inr (.inl 45), .inr (.inl 46), .inr (.inl 47), .inr (.inl 48), .inr (.inl 49), .inr (.inl 50), .inr (.inl 57), .inr (.inl 58), .inr (.inl 66), .inr (.inl 67), .inl (.int g), .inl (.int fk), .inl (.int pf), .inl (.int pt), .inl (.int pr)])), (46, .inr (.inl (0, 70, sz))), (49, .inr (.inl (2, 4900, fo))), (57, .inr (.inl (0, 350, go)))]) P := by
  have kc0 : (Int32.ofInt 0).toInt = 0 := by decide +kernel
  have kc1 : (Int32.ofInt 1).toInt = 1 := by decide +kernel
  have kc5 : (Int32.ofInt 5).toInt = 5 := by decide +kernel
  have kc70 : (Int32.ofInt 70).toInt = 70 := by decide +kernel
  have kc1000000000 : (Int32.ofInt 1000000000).toInt = 1000000000 := by decide +kernel
  intro m
  induction m with
  | zero =>
    intro k hk i hi z hz0
    have ek : k = 70 := by omega
    refine ex_iload cg_55 (ix := 4) (pc' := 8) rfl rfl rfl ?_
    refine ex_bipush cg_55 (ix := 5) (pc' := 10) rfl rfl rfl ?_
    refine ex_icmp cg_55 (ix := 6) (t := 66) (pc' := 13) rfl rfl rfl (fun hb10 => ?_) (fun hb10 => ?_)
    · have hb10 : (Int32.ofInt 70).toInt ≤ i.toInt := hb10
      refine ex_iload_n cg_55 (ix := 38) (pc' := 67) rfl rfl rfl ?_
      refine ex_ireturn cg_55 (ix := 39) rfl ?_
      refine hP z ?_
      rw [hz0]
      first
      | rw [ek]
      | (rw [show (70 : Nat) = k + (70 - k) by omega, mnZ_stop (fun c h1 h2 q => ?_)]
         have h3 := cho_sz hs70 (show c < 70 by omega) (bP_iff.mp q)
         have h4 := sz_mono h1 (show c < 70 by omega)
         omega)
    · have hb10 : ¬ ((Int32.ofInt 70).toInt ≤ i.toInt) := hb10
      exfalso; first | omega | exact absurd hb10 (by decide +kernel)
  | succ m ih =>
    intro k hk i hi z hz0
    have hik : i.toNatClampNeg = k := cx_clamp hi
    have hz1 : (sz i.toNatClampNeg).toInt = ((szN k : Nat) : Int) := by
      rw [hik]
      exact hsz k (by omega)
    have hz2 : (sz x.toNatClampNeg).toInt = ((szN sN : Nat) : Int) := by
      rw [cx_clamp hx]
      exact hsz sN hs70
    refine ex_iload cg_55 (ix := 4) (pc' := 8) rfl rfl rfl ?_
    refine ex_bipush cg_55 (ix := 5) (pc' := 10) rfl rfl rfl ?_
    refine ex_icmp cg_55 (ix := 6) (t := 66) (pc' := 13) rfl rfl rfl (fun hb10 => ?_) (fun hb10 => ?_)
    · have hb10 : (Int32.ofInt 70).toInt ≤ i.toInt := hb10
      exfalso; first | omega | exact absurd hb10 (by decide +kernel)
    · have hb10 : ¬ ((Int32.ofInt 70).toInt ≤ i.toInt) := hb10
      refine ex_aload_n cg_55 (ix := 7) (pc' := 14) rfl rfl rfl ?_
      refine ex_getfield cg_55 (ix := 8) (pc' := 17) rfl rfl rfl rfl rfl ?_
      refine ex_iload cg_55 (ix := 9) (pc' := 19) rfl rfl rfl ?_
      refine ex_iaload cg_55 (ix := 10) (pc' := 20) rfl rfl (by omega) (by omega) rfl ?_
      refine ex_aload_n cg_55 (ix := 11) (pc' := 21) rfl rfl rfl ?_
      refine ex_getfield cg_55 (ix := 12) (pc' := 24) rfl rfl rfl rfl rfl ?_
      refine ex_iload_n cg_55 (ix := 13) (pc' := 25) rfl rfl rfl ?_
      refine ex_iaload cg_55 (ix := 14) (pc' := 26) rfl rfl (by omega) (by omega) rfl ?_
      refine ex_icmp cg_55 (ix := 15) (t := 66) (pc' := 29) rfl rfl rfl (fun hb26 => ?_) (fun hb26 => ?_)
      · have hb26 : (sz x.toNatClampNeg).toInt < (sz i.toNatClampNeg).toInt := hb26
        refine ex_iload_n cg_55 (ix := 38) (pc' := 67) rfl rfl rfl ?_
        refine ex_ireturn cg_55 (ix := 39) rfl ?_
        refine hP z ?_
        rw [hz0]
        first
        | rw [ek]
        | (rw [show (70 : Nat) = k + (70 - k) by omega, mnZ_stop (fun c h1 h2 q => ?_)]
           have h3 := cho_sz hs70 (show c < 70 by omega) (bP_iff.mp q)
           have h4 := sz_mono h1 (show c < 70 by omega)
           omega)
      · have hb26 : ¬ ((sz x.toNatClampNeg).toInt < (sz i.toNatClampNeg).toInt) := hb26
        have hx70 : (x * Int32.ofInt 70).toInt = 70 * x.toInt := cx_mulk2 kc70 (by omega) (by omega)
        have hxi : (x * Int32.ofInt 70 + i).toInt = ((70 * sN + k : Nat) : Int) := by
          rw [cx_addc (by omega) (by omega), hx70]
          omega
        have hfv : fo (x * Int32.ofInt 70 + i).toNatClampNeg = b2R (cho nb (cnL (cN sN)) (cN k)) := by
          rw [cx_clamp hxi]
          exact hfo k (by omega)
        have hi5 : (i * Int32.ofInt 5).toInt = 5 * i.toInt := cx_mulk2 kc5 (by omega) (by omega)
        have hiy : (i * Int32.ofInt 5 + y).toInt = ((5 * k + rN : Nat) : Int) := by
          rw [cx_addc (by omega) (by omega), hi5]
          omega
        have hgv : (go (i * Int32.ofInt 5 + y).toNatClampNeg).toInt = ((gv k : Nat) : Int) := by
          rw [cx_clamp hiy]
          exact hgo k (by omega) (by omega)
        refine ex_aload_n cg_55 (ix := 16) (pc' := 30) rfl rfl rfl ?_
        refine ex_getfield cg_55 (ix := 17) (pc' := 33) rfl rfl rfl rfl rfl ?_
        refine ex_iload_n cg_55 (ix := 18) (pc' := 34) rfl rfl rfl ?_
        refine ex_bipush cg_55 (ix := 19) (pc' := 36) rfl rfl rfl ?_
        refine ex_imul cg_55 (ix := 20) (pc' := 37) rfl rfl ?_
        refine ex_iload cg_55 (ix := 21) (pc' := 39) rfl rfl rfl ?_
        refine ex_iadd cg_55 (ix := 22) (pc' := 40) rfl rfl ?_
        refine ex_baload cg_55 (ix := 23) (pc' := 41) rfl rfl (by omega) (by omega) rfl ?_
        refine ex_if cg_55 (ix := 24) (t := 60) (pc' := 44) rfl rfl rfl (fun hb41 => ?_) (fun hb41 => ?_)
        · have hb41 : (fo ((x * (Int32.ofInt 70)) + i).toNatClampNeg).toInt = 0 := hb41
          refine ex_iinc cg_55 (ix := 36) (pc' := 63) (L' := [some (.inr (.inl 43)), some (.inl (.int x)), some (.inl (.int y)), some (.inl (.int z)), some (.inl (.int (i + Int32.ofInt 1)))]) rfl rfl rfl rfl rfl ?_
          refine ex_goto cg_55 (ix := 37) (pc' := 6) rfl rfl ?_
          exact ih (k + 1) (by omega) _ (by rw [cx_addc (by omega) (by omega)]; omega) z (by rw [mnZ, if_neg (fun q => (b2R_0.mp (by rw [← hfv]; exact hb41)) (bP_iff.mp q))]; exact hz0)
        · have hb41 : ¬ ((fo ((x * (Int32.ofInt 70)) + i).toNatClampNeg).toInt = 0) := hb41
          refine ex_iload_n cg_55 (ix := 25) (pc' := 45) rfl rfl rfl ?_
          refine ex_aload_n cg_55 (ix := 26) (pc' := 46) rfl rfl rfl ?_
          refine ex_getfield cg_55 (ix := 27) (pc' := 49) rfl rfl rfl rfl rfl ?_
          refine ex_iload cg_55 (ix := 28) (pc' := 51) rfl rfl rfl ?_
          refine ex_iconst cg_55 (ix := 29) (pc' := 52) rfl rfl ?_
          refine ex_imul cg_55 (ix := 30) (pc' := 53) rfl rfl ?_
          refine ex_iload_n cg_55 (ix := 31) (pc' := 54) rfl rfl rfl ?_
          refine ex_iadd cg_55 (ix := 32) (pc' := 55) rfl rfl ?_
          refine ex_iaload cg_55 (ix := 33) (pc' := 56) rfl rfl (by omega) (by omega) rfl ?_
          refine ex_min cg_55 (ix := 34) (pc' := 59) rfl rfl (by first | decide | omega) rfl rfl ?_
          refine ex_istore_n cg_55 (ix := 35) (pc' := 60) (L' := [some (.inr (.inl 43)), some (.inl (.int x)), some (.inl (.int y)), some (.inl (.int (if (go ((i * (Int32.ofInt 5)) + y).toNatClampNeg) < z then (go ((i * (Int32.ofInt 5)) + y).toNatClampNeg) else z))), some (.inl (.int i))]) rfl rfl rfl rfl ?_
          refine ex_iinc cg_55 (ix := 36) (pc' := 63) (L' := [some (.inr (.inl 43)), some (.inl (.int x)), some (.inl (.int y)), some (.inl (.int (if (go ((i * (Int32.ofInt 5)) + y).toNatClampNeg) < z then (go ((i * (Int32.ofInt 5)) + y).toNatClampNeg) else z))), some (.inl (.int (i + Int32.ofInt 1)))]) rfl rfl rfl rfl rfl ?_
          refine ex_goto cg_55 (ix := 37) (pc' := 6) rfl rfl ?_
          have hc : cho nb (cnL (cN sN)) (cN k) := Classical.byContradiction (fun q => hb41 (by rw [hfv]; exact b2R_0.mpr q))
          exact ih (k + 1) (by omega) _ (by rw [cx_addc (by omega) (by omega)]; omega) _ (by rw [ro_min, hz0, hgv, mnZ, if_pos (bP_iff.mpr hc)]; omega)
theorem ct_lo {g fk pf pt pr : Int32} {sz fo go : Nat → Int32} {x y : Int32} {nb : Nat → Nat → Prop} {sN rN : Nat} {gv : Nat → Nat} (hsz : szH sz) (hx : x.toInt = (sN : Int)) (hs70 : sN < 70) (hy : y.toInt = (rN : Int)) (hr5 : rN < 5) (hfo : ∀ q : Nat, q < 70 → fo (70 * sN + q) = b2R (cho nb (cnL (cN sN)) (cN q))) (hgo : ∀ q : Nat, q < 70 → szN q ≤ szN sN → (go (5 * q + rN)).toInt = ((gv q : Nat) : Int)) : cx_Ct 2 55 [.inr (.inl 43), .inl (.int x), .inl (.int y)] ([(43, .inl (4, [.inr (.inl 2), .inr (.inl 44), .inr (.inl 45), .inr (.inl 46), .inr (.inl 47), .inr (.inl 48), .inr (.inl 49), .inr (.inl 50), .inr (.inl 57), .inr (.inl 58), .inr (.inl 66), .inr (.inl 67), .inl (.int g), .inl (.int fk), .inl (.int pf), .inl (.int pt), .inl (.int pr)])), (46, .inr (.inl (0, 70, sz))), (49, .inr (.inl (2, 4900, fo))), (57, .inr (.inl (0, 350, go)))]) (fun v h2 => ∃ z : Int32, v = some (.inl (.int z)) ∧ h2 = [(43, .inl (4, [.inr (.inl 2), .inr (.inl 44), .inr (.inl 45), .inr (.inl 46), .inr (.inl 47), .inr (.inl 48), .inr (.inl 49), .inr (.inl 50), .inr (.inl 57), .inr (.inl 58), .inr (.inl 66), .inr (.inl 67), .inl (.int g), .inl (.int fk), .inl (.int pf), .inl (.int pt), .inl (.int pr)])), (46, .inr (.inl (0, 70, sz))), (49, .inr (.inl (2, 4900, fo))), (57, .inr (.inl (0, 350, go)))] ∧ z.toInt = ((mnZ 1000000000 (fun on => bP (cho nb (cnL (cN sN)) (cN on))) gv 70 : Nat) : Int)) := by
  have kc1000000000 : (Int32.ofInt 1000000000).toInt = 1000000000 := by decide +kernel
  have kc0 : (Int32.ofInt 0).toInt = 0 := by decide +kernel
  have kc70 : (Int32.ofInt 70).toInt = 70 := by decide +kernel
  have kc5 : (Int32.ofInt 5).toInt = 5 := by decide +kernel
  have kc1 : (Int32.ofInt 1).toInt = 1 := by decide +kernel
  refine cx_Ct.of cg_55 (nL := 5) rfl rfl rfl ?_
  show cx_T 2 55 [43, 46, 49, 57] 0 ([some (.inr (.inl 43)), some (.inl (.int x)), some (.inl (.int y)), none, none], [], ([(43, .inl (4, [.inr (.inl 2), .inr (.inl 44), .inr (.inl 45), .inr (.inl 46), .inr (.inl 47), .inr (.inl 48), .inr (.inl 49), .inr (.inl 50), .inr (.inl 57), .inr (.inl 58), .inr (.inl 66), .inr (.inl 67), .inl (.int g), .inl (.int fk), .inl (.int pf), .inl (.int pt), .inl (.int pr)])), (46, .inr (.inl (0, 70, sz))), (49, .inr (.inl (2, 4900, fo))), (57, .inr (.inl (0, 350, go)))])) _
  refine ex_ldc cg_55 (ix := 0) (pc' := 2) rfl rfl rfl ?_
  refine ex_istore_n cg_55 (ix := 1) (pc' := 3) (L' := [some (.inr (.inl 43)), some (.inl (.int x)), some (.inl (.int y)), some (.inl (.int (Int32.ofInt 1000000000))), none]) rfl rfl rfl rfl ?_
  refine ex_iconst cg_55 (ix := 2) (pc' := 4) rfl rfl ?_
  refine ex_istore cg_55 (ix := 3) (pc' := 6) (L' := [some (.inr (.inl 43)), some (.inl (.int x)), some (.inl (.int y)), some (.inl (.int (Int32.ofInt 1000000000))), some (.inl (.int (Int32.ofInt 0)))]) rfl rfl rfl rfl ?_
  exact lo_loop (g := g) (fk := fk) (pf := pf) (pt := pt) (pr := pr) (sz := sz) (fo := fo) (go := go) (x := x) (y := y) (nb := nb) (sN := sN) (rN := rN) (gv := gv) hsz hx hs70 hy hr5 hfo hgo (P := fun v h2 => ∃ z : Int32, v = some (.inl (.int z)) ∧ h2 = [(43, .inl (4, [.inr (.inl 2), .inr (.inl 44), .inr (.inl 45), .inr (.inl 46), .inr (.inl 47), .inr (.inl 48), .inr (.inl 49), .inr (.inl 50), .inr (.inl 57), .inr (.inl 58), .inr (.inl 66), .inr (.inl 67), .inl (.int g), .inl (.int fk), .inl (.int pf), .inl (.int pt), .inl (.int pr)])), (46, .inr (.inl (0, 70, sz))), (49, .inr (.inl (2, 4900, fo))), (57, .inr (.inl (0, 350, go)))] ∧ z.toInt = ((mnZ 1000000000 (fun on => bP (cho nb (cnL (cN sN)) (cN on))) gv 70 : Nat) : Int)) (fun z hz => ⟨z, rfl, rfl, hz⟩) 70 0 (by omega) (Int32.ofInt 0) (by decide +kernel) _ (by rw [mnZ]; decide +kernel)
theorem s1_loop {g fk pf pt pr : Int32} {mi cd sz sp th fo go la pl : Nat → Int32} {R L hd : Nat → Nat → Int32} {x : Int32} {xN gN : Nat} {rkc : (Nat → Nat) → Nat} {Lv : Nat → Nat → Nat} {s : Int32} {sN lN : Nat} {P : Option cx_V → cx_H → Prop} (hsz : szH sz) (hx : x.toInt = (xN : Int)) (hx6 : xN < 6) (hg : g.toInt = (gN : Int)) (hg4 : gN ≤ 4) (hfo : tbH mi fo) (hgo : ∀ q r : Nat, q < 70 → szN q + r ≤ gN → (go (5 * q + r)).toInt = ((GOv rkc Lv gN q r : Nat) : Int)) (hs : s.toInt = (sN : Int)) (hs70 : sN < 70) (hlo : lN + szN sN = gN) (hP : ∀ (L2 : Nat → Nat → Int32) (i : Int32), (∀ j : Nat, ¬ j = xN → L2 j = L j) → (∀ q r : Nat, q < sN → szN q + r ≤ gN → (L2 xN (5 * q + r)).toInt = ((LVv (nbF mi) rkc Lv gN q r : Nat) : Int)) → (∀ r : Nat, r ≤ lN → (L2 xN (5 * sN + r)).toInt = ((LVv (nbF mi) rkc Lv gN sN r : Nat) : Int)) → cx_T 3 54 [43, 44, 45, 46, 47, 48, 49, 50, 51, 52, 53, 54, 55, 56, 57, 58, 59, 60, 61, 62, 63, 64, 65, 66, 67, 2, 5, 6, 7, 8, 9] 62 ([some (.inr (.inl 43)), some (.inl (.int x)), some (.inl (.int s)), some (.inl (.int i))], [], [(43, .inl (4, [.inr (.inl 2), .inr (.inl 44), .inr (.inl 45), .inr (.inl 46), .inr (.inl 47), .inr (.inl 48), .inr (.inl 49), .inr (.inl 50), .inr (.inl 57), .inr (.inl 58), .inr (.inl 66), .inr (.inl 67), .inl (.int g), .inl (.int fk), .inl (.int pf), .inl (.int pt), .inl (.int pr)])), (44, .inr (.inl (0, 4, mi))), (45, .inr (.inl (0, 70, cd))), (46, .inr (.inl (0, 70, sz))), (47, .inr (.inl (0, 625, sp))), (48, .inr (.inl (0, 280, th))), (49, .inr (.inl (2, 4900, fo))), (50, .inr (.inr (.inr (3, [51, 52, 53, 54, 55, 56])))), (51, .inr (.inl (0, 70, R 0))), (52, .inr (.inl (0, 70, R 1))), (53, .inr (.inl (0, 70, R 2))), (54, .inr (.inl (0, 70, R 3))), (55, .inr (.inl (0, 70, R 4))), (56, .inr (.inl (0, 70, R 5))), (57, .inr (.inl (0, 350, go))), (58, .inr (.inr (.inr (3, [59, 60, 61, 62, 63, 64, 65])))), (59, .inr (.inl (0, 350, L2 0))), (60, .inr (.inl (0, 350, L2 1))), (61, .inr (.inl (0, 350, L2 2))), (62, .inr (.inl (0, 350, L2 3))), (63, .inr (.inl (0, 350, L2 4))), (64, .inr (.inl (0, 350, L2 5))), (65, .inr (.inl (0, 350, L2 6))), (66, .inr (.inl (0, 4, la))), (67, .inr (.inl (0, 24, pl))), (2, .inl (8, [.inr (.inl 3), .inr (.inl 4), .inr (.inl 5), .inr (.inl 10)])), (5, .inr (.inr (.inr (3, [6, 7, 8, 9])))), (6, .inr (.inl (0, 16, hd 0))), (7, .inr (.inl (0, 16, hd 1))), (8, .inr (.inl (0, 16, hd 2))), (9, .inr (.inl (0, 16, hd 3)))]) P) :
    ∀ (m k : Nat), k + m = lN + 1 → ∀ i : Int32, i.toInt = (k : Int) → ∀ (L2 : Nat → Nat → Int32), (∀ j : Nat, ¬ j = xN → L2 j = L j) → (∀ q r : Nat, q < sN → szN q + r ≤ gN → (L2 xN (5 * q + r)).toInt = ((LVv (nbF mi) rkc Lv gN q r : Nat) : Int)) → (∀ r : Nat, r < k → r ≤ lN → (L2 xN (5 * sN + r)).toInt = ((LVv (nbF mi) rkc Lv gN sN r : Nat) : Int)) → cx_T 3 54 [43, 44, 45, 46, 47, 48, 49, 50, 51, 52, 53, 54, 55, 56, 57, 58, 59, 60, 61, 62, 63, 64, 65, 66, 67, 2, 5, 6, 7, 8, 9] 23 ([some (.inr (.inl 43)), some (.inl (.int x)), some (.inl (.int s)), some (.inl (.int i))], [], [(43, .inl (4, [.inr (.inl 2), .inr (.inl 44), .inr (.inl 45), .inr (.inl 46), .inr (.inl 47), .inr (.inl 48), .inr (.inl 49), .inr (.inl 50), .inr (.inl 57), .inr (.inl 58), .inr (.inl 66), .inr (.inl 67), .inl (.int g), .inl (.int fk), .inl (.int pf), .inl (.int pt), .inl (.int pr)])), (44, .inr (.inl (0, 4, mi))), (45, .inr (.inl (0, 70, cd))), (46, .inr (.inl (0, 70, sz))), (47, .inr (.inl (0, 625, sp))), (48, .inr (.inl (0, 280, th))), (49, .inr (.inl (2, 4900, fo))), (50, .inr (.inr (.inr (3, [51, 52, 53, 54, 55, 56])))), (51, .inr (.inl (0, 70, R 0))), (52, .inr (.inl (0, 70, R 1))), (53, .inr (.inl (0, 70, R 2))), (54, .inr (.inl (0, 70, R 3))), (55, .inr (.inl (0, 70, R 4))), (56, .inr (.inl (0, 70, R 5))), (57, .inr (.inl (0, 350, go))), (58, .inr (.inr (.inr (3, [59, 60, 61, 62, 63, 64, 65])))), (59, .inr (.inl (0, 350, L2 0))), (60, .inr (.inl (0, 350, L2 1))), (61, .inr (.inl (0, 350, L2 2))), (62, .inr (.inl (0, 350, L2 3))), (63, .inr (.inl (0, 350, L2 4))), (64, .inr (.inl (0, 350, L2 5))), (65, .inr (.inl (0, 350, L2 6))), (66, .inr (.inl (0, 4, la))), (67, .inr (.inl (0, 24, pl))), (2, .inl (8, [.inr (.inl 3), .inr (.inl 4), .inr (.inl 5), .inr (.inl 10)])), (5, .inr (.inr (.inr (3, [6, 7, 8, 9])))), (6, .inr (.inl (0, 16, hd 0))), (7, .inr (.inl (0, 16, hd 1))), (8, .inr (.inl (0, 16, hd 2))), (9, .inr (.inl (0, 16, hd 3)))]) P := by
  have kc0 : (Int32.ofInt 0).toInt = 0 := by decide +kernel
  have kc1 : (Int32.ofInt 1).toInt = 1 := by decide +kernel
  have kc5 : (Int32.ofInt 5).toInt = 5 := by decide +kernel
  have kc70 : (Int32.ofInt 70).toInt = 70 := by decide +kernel
  intro m
  induction m with
  | zero =>
    intro k hk i hi L2 hw1 hw2 hw3
    have ek : k = lN + 1 := by omega
    have hz2 : (sz s.toNatClampNeg).toInt = ((szN sN : Nat) : Int) := by
      rw [cx_clamp hs]
      exact hsz sN hs70
    have hgz : (g - sz s.toNatClampNeg).toInt = (lN : Int) := by
      rw [cx_subc (by omega) (by omega)]
      omega
    refine ex_iload_n cg_54 (ix := 14) (pc' := 24) rfl rfl rfl ?_
    refine ex_aload_n cg_54 (ix := 15) (pc' := 25) rfl rfl rfl ?_
    refine ex_getfield cg_54 (ix := 16) (pc' := 28) rfl rfl rfl rfl rfl ?_
    refine ex_aload_n cg_54 (ix := 17) (pc' := 29) rfl rfl rfl ?_
    refine ex_getfield cg_54 (ix := 18) (pc' := 32) rfl rfl rfl rfl rfl ?_
    refine ex_iload_n cg_54 (ix := 19) (pc' := 33) rfl rfl rfl ?_
    refine ex_iaload cg_54 (ix := 20) (pc' := 34) rfl rfl (by omega) (by omega) rfl ?_
    refine ex_isub cg_54 (ix := 21) (pc' := 35) rfl rfl ?_
    refine ex_icmp cg_54 (ix := 22) (t := 62) (pc' := 38) rfl rfl rfl (fun hb35 => ?_) (fun hb35 => ?_)
    · have hb35 : (g - (sz s.toNatClampNeg)).toInt < i.toInt := hb35
      exact hP L2 i hw1 hw2 (fun r hr => hw3 r (by omega) hr)
    · have hb35 : ¬ ((g - (sz s.toNatClampNeg)).toInt < i.toInt) := hb35
      exfalso; first | omega | exact absurd hb35 (by decide +kernel)
  | succ m ih =>
    intro k hk i hi L2 hw1 hw2 hw3
    have hik : i.toNatClampNeg = k := cx_clamp hi
    have hz2 : (sz s.toNatClampNeg).toInt = ((szN sN : Nat) : Int) := by
      rw [cx_clamp hs]
      exact hsz sN hs70
    have hgz : (g - sz s.toNatClampNeg).toInt = (lN : Int) := by
      rw [cx_subc (by omega) (by omega)]
      omega
    have hs5 : (s * Int32.ofInt 5).toInt = 5 * s.toInt := cx_mulk2 kc5 (by omega) (by omega)
    have hat : (s * Int32.ofInt 5 + i).toInt = ((5 * sN + k : Nat) : Int) := by
      rw [cx_addc (by omega) (by omega), hs5]
      omega
    have hatc := cx_clamp hat
    refine ex_iload_n cg_54 (ix := 14) (pc' := 24) rfl rfl rfl ?_
    refine ex_aload_n cg_54 (ix := 15) (pc' := 25) rfl rfl rfl ?_
    refine ex_getfield cg_54 (ix := 16) (pc' := 28) rfl rfl rfl rfl rfl ?_
    refine ex_aload_n cg_54 (ix := 17) (pc' := 29) rfl rfl rfl ?_
    refine ex_getfield cg_54 (ix := 18) (pc' := 32) rfl rfl rfl rfl rfl ?_
    refine ex_iload_n cg_54 (ix := 19) (pc' := 33) rfl rfl rfl ?_
    refine ex_iaload cg_54 (ix := 20) (pc' := 34) rfl rfl (by omega) (by omega) rfl ?_
    refine ex_isub cg_54 (ix := 21) (pc' := 35) rfl rfl ?_
    refine ex_icmp cg_54 (ix := 22) (t := 62) (pc' := 38) rfl rfl rfl (fun hb35 => ?_) (fun hb35 => ?_)
    · have hb35 : (g - (sz s.toNatClampNeg)).toInt < i.toInt := hb35
      exfalso; first | omega | exact absurd hb35 (by decide +kernel)
    · have hb35 : ¬ ((g - (sz s.toNatClampNeg)).toInt < i.toInt) := hb35
      refine ex_aload_n cg_54 (ix := 23) (pc' := 39) rfl rfl rfl ?_
      refine ex_getfield cg_54 (ix := 24) (pc' := 42) rfl rfl rfl rfl rfl ?_
      refine ex_iload_n cg_54 (ix := 25) (pc' := 43) rfl rfl rfl ?_
      refine ex_aaload cg_54 (ix := 26) (pc' := 44) (k1 := (59 + xN)) rfl rfl (by omega) (ll_ix (by omega) hx) rfl ?_
      refine ex_iload_n cg_54 (ix := 27) (pc' := 45) rfl rfl rfl ?_
      refine ex_iconst cg_54 (ix := 28) (pc' := 46) rfl rfl ?_
      refine ex_imul cg_54 (ix := 29) (pc' := 47) rfl rfl ?_
      refine ex_iload_n cg_54 (ix := 30) (pc' := 48) rfl rfl rfl ?_
      refine ex_iadd cg_54 (ix := 31) (pc' := 49) rfl rfl ?_
      refine ex_aload_n cg_54 (ix := 32) (pc' := 50) rfl rfl rfl ?_
      refine ex_iload_n cg_54 (ix := 33) (pc' := 51) rfl rfl rfl ?_
      refine ex_iload_n cg_54 (ix := 34) (pc' := 52) rfl rfl rfl ?_
      refine ex_callV cg_54 (ix := 35) (pc' := 55) (As := [.inl (.int s), .inl (.int i)]) (r := [.inl (.int ((s * (Int32.ofInt 5)) + i)), .inr (.inl (59 + xN))]) rfl rfl rfl (ct_lo (g := g) (fk := fk) (pf := pf) (pt := pt) (pr := pr) (sz := sz) (fo := fo) (go := go) (x := s) (y := i) (nb := nbF mi) (sN := sN) (rN := k) (gv := fun on => GOv rkc Lv gN on k) hsz hs hs70 hi (by omega) (fun q hq => hfo sN q hs70 hq) (fun q hq hq2 => hgo q k hq (by omega))) (by first | decide | omega) rfl rfl rfl ⟨rfl, rfl, rfl, rfl, trivial⟩ rfl rfl (fun v h2 hq => ?_)
      obtain ⟨z, rfl, rfl, hz⟩ := hq
      show cx_T _ 54 _ 55 ([some (.inr (.inl 43)), some (.inl (.int x)), some (.inl (.int s)), some (.inl (.int i))], [.inl (.int z), .inl (.int ((s * (Int32.ofInt 5)) + i)), .inr (.inl (59 + xN))], [(43, .inl (4, [.inr (.inl 2), .inr (.inl 44), .inr (.inl 45), .inr (.inl 46), .inr (.inl 47), .inr (.inl 48), .inr (.inl 49), .inr (.inl 50), .inr (.inl 57), .inr (.inl 58), .inr (.inl 66), .inr (.inl 67), .inl (.int g), .inl (.int fk), .inl (.int pf), .inl (.int pt), .inl (.int pr)])), (44, .inr (.inl (0, 4, mi))), (45, .inr (.inl (0, 70, cd))), (46, .inr (.inl (0, 70, sz))), (47, .inr (.inl (0, 625, sp))), (48, .inr (.inl (0, 280, th))), (49, .inr (.inl (2, 4900, fo))), (50, .inr (.inr (.inr (3, [51, 52, 53, 54, 55, 56])))), (51, .inr (.inl (0, 70, R 0))), (52, .inr (.inl (0, 70, R 1))), (53, .inr (.inl (0, 70, R 2))), (54, .inr (.inl (0, 70, R 3))), (55, .inr (.inl (0, 70, R 4))), (56, .inr (.inl (0, 70, R 5))), (57, .inr (.inl (0, 350, go))), (58, .inr (.inr (.inr (3, [59, 60, 61, 62, 63, 64, 65])))), (59, .inr (.inl (0, 350, L2 0))), (60, .inr (.inl (0, 350, L2 1))), (61, .inr (.inl (0, 350, L2 2))), (62, .inr (.inl (0, 350, L2 3))), (63, .inr (.inl (0, 350, L2 4))), (64, .inr (.inl (0, 350, L2 5))), (65, .inr (.inl (0, 350, L2 6))), (66, .inr (.inl (0, 4, la))), (67, .inr (.inl (0, 24, pl))), (2, .inl (8, [.inr (.inl 3), .inr (.inl 4), .inr (.inl 5), .inr (.inl 10)])), (5, .inr (.inr (.inr (3, [6, 7, 8, 9])))), (6, .inr (.inl (0, 16, hd 0))), (7, .inr (.inl (0, 16, hd 1))), (8, .inr (.inl (0, 16, hd 2))), (9, .inr (.inl (0, 16, hd 3)))]) _
      refine ex_iastore cg_54 (ix := 36) (pc' := 56) (h' := [(43, .inl (4, [.inr (.inl 2), .inr (.inl 44), .inr (.inl 45), .inr (.inl 46), .inr (.inl 47), .inr (.inl 48), .inr (.inl 49), .inr (.inl 50), .inr (.inl 57), .inr (.inl 58), .inr (.inl 66), .inr (.inl 67), .inl (.int g), .inl (.int fk), .inl (.int pf), .inl (.int pt), .inl (.int pr)])), (44, .inr (.inl (0, 4, mi))), (45, .inr (.inl (0, 70, cd))), (46, .inr (.inl (0, 70, sz))), (47, .inr (.inl (0, 625, sp))), (48, .inr (.inl (0, 280, th))), (49, .inr (.inl (2, 4900, fo))), (50, .inr (.inr (.inr (3, [51, 52, 53, 54, 55, 56])))), (51, .inr (.inl (0, 70, R 0))), (52, .inr (.inl (0, 70, R 1))), (53, .inr (.inl (0, 70, R 2))), (54, .inr (.inl (0, 70, R 3))), (55, .inr (.inl (0, 70, R 4))), (56, .inr (.inl (0, 70, R 5))), (57, .inr (.inl (0, 350, go))), (58, .inr (.inr (.inr (3, [59, 60, 61, 62, 63, 64, 65])))), (59, .inr (.inl (0, 350, (up2 L2 xN (upd (L2 xN) ((s * (Int32.ofInt 5)) + i).toNatClampNeg z)) 0))), (60, .inr (.inl (0, 350, (up2 L2 xN (upd (L2 xN) ((s * (Int32.ofInt 5)) + i).toNatClampNeg z)) 1))), (61, .inr (.inl (0, 350, (up2 L2 xN (upd (L2 xN) ((s * (Int32.ofInt 5)) + i).toNatClampNeg z)) 2))), (62, .inr (.inl (0, 350, (up2 L2 xN (upd (L2 xN) ((s * (Int32.ofInt 5)) + i).toNatClampNeg z)) 3))), (63, .inr (.inl (0, 350, (up2 L2 xN (upd (L2 xN) ((s * (Int32.ofInt 5)) + i).toNatClampNeg z)) 4))), (64, .inr (.inl (0, 350, (up2 L2 xN (upd (L2 xN) ((s * (Int32.ofInt 5)) + i).toNatClampNeg z)) 5))), (65, .inr (.inl (0, 350, (up2 L2 xN (upd (L2 xN) ((s * (Int32.ofInt 5)) + i).toNatClampNeg z)) 6))), (66, .inr (.inl (0, 4, la))), (67, .inr (.inl (0, 24, pl))), (2, .inl (8, [.inr (.inl 3), .inr (.inl 4), .inr (.inl 5), .inr (.inl 10)])), (5, .inr (.inr (.inr (3, [6, 7, 8, 9])))), (6, .inr (.inl (0, 16, hd 0))), (7, .inr (.inl (0, 16, hd 1))), (8, .inr (.inl (0, 16, hd 2))), (9, .inr (.inl (0, 16, hd 3)))]) rfl (ll_get (V := L2) (by omega)) (by omega) (by omega) (ll_set (V := L2) (by omega)) rfl ?_
      refine ex_iinc cg_54 (ix := 37) (pc' := 59) (L' := [some (.inr (.inl 43)), some (.inl (.int x)), some (.inl (.int s)), some (.inl (.int (i + Int32.ofInt 1)))]) rfl rfl rfl rfl rfl ?_
      refine ex_goto cg_54 (ix := 38) (pc' := 23) rfl rfl ?_
      refine ih (k + 1) (by omega) _ (by rw [cx_addc (by omega) (by omega)]; omega) _ (fun j hj => ?_) (fun q r hq hr => ?_) (fun r hr hr2 => ?_)
      · rw [up2_ne hj]; exact hw1 j hj
      · rw [up2_me, hatc]
        unfold upd
        have := (sp_sz (show q < 70 by omega)).2.2.2
        rw [if_neg (by omega)]; exact hw2 q r hq hr
      · rw [up2_me, hatc]
        unfold upd
        by_cases e : r = k
        · rw [e, if_pos rfl]; exact hz
        · rw [if_neg (by omega)]; exact hw3 r (by omega) hr2
theorem s0_loop {g fk pf pt pr : Int32} {mi cd sz sp th fo go la pl : Nat → Int32} {R L hd : Nat → Nat → Int32} {x : Int32} {xN gN : Nat} {rkc : (Nat → Nat) → Nat} {Lv : Nat → Nat → Nat} {P : Option cx_V → cx_H → Prop} (hsz : szH sz) (hx : x.toInt = (xN : Int)) (hx6 : xN < 6) (hg : g.toInt = (gN : Int)) (hg4 : gN ≤ 4) (hfo : tbH mi fo) (hgo : ∀ q r : Nat, q < 70 → szN q + r ≤ gN → (go (5 * q + r)).toInt = ((GOv rkc Lv gN q r : Nat) : Int)) (hP : ∀ L2 : Nat → Nat → Int32, (∀ j : Nat, ¬ j = xN → L2 j = L j) → (∀ q r : Nat, q < 70 → szN q + r ≤ gN → (L2 xN (5 * q + r)).toInt = ((LVv (nbF mi) rkc Lv gN q r : Nat) : Int)) →  P none ([(43, .inl (4, [.inr (.inl 2), .inr (.inl 44), .inr (.inl 45), .inr (.inl 46), .inr (.inl 47), .inr (.inl 48), .inr (.inl 49), .inr (.inl 50), .inr (.inl 57), .inr (.inl 58), .inr (.inl 66), .inr (.inl 67), .inl (.int g), .inl (.int fk), .inl (.int pf), .inl (.int pt), .inl (.int pr)])), (44, .inr (.inl (0, 4, mi))), (45, .inr (.inl (0, 70, cd))), (46, .inr (.inl (0, 70, sz))), (47, .inr (.inl (0, 625, sp))), (48, .inr (.inl (0, 280, th))), (49, .inr (.inl (2, 4900, fo))), (50, .inr (.inr (.inr (3, [51, 52, 53, 54, 55, 56])))), (51, .inr (.inl (0, 70, R 0))), (52, .inr (.inl (0, 70, R 1))), (53, .inr (.inl (0, 70, R 2))), (54, .inr (.inl (0, 70, R 3))), (55, .inr (.inl (0, 70, R 4))), (56, .inr (.inl (0, 70, R 5))), (57, .inr (.inl (0, 350, go))), (58, .inr (.inr (.inr (3, [59, 60, 61, 62, 63, 64, 65])))), (59, .inr (.inl (0, 350, L2 0))), (60, .inr (.inl (0, 350, L2 1))), (61, .inr (.inl (0, 350, L2 2))), (62, .inr (.inl (0, 350, L2 3))), (63, .inr (.inl (0, 350, L2 4))), (64, .inr (.inl (0, 350, L2 5))), (65, .inr (.inl (0, 350, L2 6))), (66, .inr (.inl (0, 4, la))), (67, .inr (.inl (0, 24, pl))), (2, .inl (8, [.inr (.inl 3), .inr (.inl 4), .inr (.inl 5), .inr (.inl 10)])), (5, .inr (.inr (.inr (3, [6, 7, 8, 9])))), (6, .inr (.inl (0, 16, hd 0))), (7, .inr (.inl (0, 16, hd 1))), (8, .inr (.inl (0, 16, hd 2))), (9, .inr (.inl (0, 16, hd 3)))])) :
    ∀ (m k : Nat), k + m = 70 → ∀ i : Int32, i.toInt = (k : Int) → ∀ (L2 : Nat → Nat → Int32) (A : Option cx_V), (∀ j : Nat, ¬ j = xN → L2 j = L j) → (∀ q r : Nat, q < k → szN q + r ≤ gN → (L2 xN (5 * q + r)).toInt = ((LVv (nbF mi) rkc Lv gN q r : Nat) : Int)) → cx_T 3 54 [43, 44, 45, 46, 47, 48, 49, 50, 51, 52, 53, 54, 55, 56, 57, 58, 59, 60, 61, 62, 63, 64, 65, 66, 67, 2, 5, 6, 7, 8, 9] 2 ([some (.inr (.inl 43)), some (.inl (.int x)), some (.inl (.int i)), A], [], [(43, .inl (4, [.inr (.inl 2), .inr (.inl 44), .inr (.inl 45), .inr (.inl 46), .inr (.inl 47), .inr (.inl 48), .inr (.inl 49), .inr (.inl 50), .inr (.inl 57), .inr (.inl 58), .inr (.inl 66), .inr (.inl 67), .inl (.int g), .inl (.int fk), .inl (.int pf), .inl (.int pt), .inl (.int pr)])), (44, .inr (.inl (0, 4, mi))), (45, .inr (.inl (0, 70, cd))), (46, .inr (.inl (0, 70, sz))), (47, .inr (.inl (0, 625, sp))), (48, .inr (.inl (0, 280, th))), (49, .inr (.inl (2, 4900, fo))), (50, .inr (.inr (.inr (3, [51, 52, 53, 54, 55, 56])))), (51, .inr (.inl (0, 70, R 0))), (52, .inr (.inl (0, 70, R 1))), (53, .inr (.inl (0, 70, R 2))), (54, .inr (.inl (0, 70, R 3))), (55, .inr (.inl (0, 70, R 4))), (56, .inr (.inl (0, 70, R 5))), (57, .inr (.inl (0, 350, go))), (58, .inr (.inr (.inr (3, [59, 60, 61, 62, 63, 64, 65])))), (59, .inr (.inl (0, 350, L2 0))), (60, .inr (.inl (0, 350, L2 1))), (61, .inr (.inl (0, 350, L2 2))), (62, .inr (.inl (0, 350, L2 3))), (63, .inr (.inl (0, 350, L2 4))), (64, .inr (.inl (0, 350, L2 5))), (65, .inr (.inl (0, 350, L2 6))), (66, .inr (.inl (0, 4, la))), (67, .inr (.inl (0, 24, pl))), (2, .inl (8, [.inr (.inl 3), .inr (.inl 4), .inr (.inl 5), .inr (.inl 10)])), (5, .inr (.inr (.inr (3, [6, 7, 8, 9])))), (6, .inr (.inl (0, 16, hd 0))), (7, .inr (.inl (0, 16, hd 1))), (8, .inr (.inl (0, 16, hd 2))), (9, .inr (.inl (0, 16, hd 3)))]) P := by
  have kc0 : (Int32.ofInt 0).toInt = 0 := by decide +kernel
  have kc1 : (Int32.ofInt 1).toInt = 1 := by decide +kernel
  have kc5 : (Int32.ofInt 5).toInt = 5 := by decide +kernel
  have kc70 : (Int32.ofInt 70).toInt = 70 := by decide +kernel
  intro m
  induction m with
  | zero =>
    intro k hk i hi L2 A hw1 hw2
    have ek : k = 70 := by omega
    refine ex_iload_n cg_54 (ix := 2) (pc' := 3) rfl rfl rfl ?_
    refine ex_bipush cg_54 (ix := 3) (pc' := 5) rfl rfl rfl ?_
    refine ex_icmp cg_54 (ix := 4) (t := 68) (pc' := 8) rfl rfl rfl (fun hb5 => ?_) (fun hb5 => ?_)
    · have hb5 : (Int32.ofInt 70).toInt ≤ i.toInt := hb5
      refine ex_return_ cg_54 (ix := 41) rfl ?_
      refine hP L2 hw1 (fun q r hq hr => hw2 q r ?_ hr)
      first
      | omega
      | exact Classical.byContradiction (fun z => by
          have h3 := sz_mono (show k ≤ q by omega) hq
          omega)
    · have hb5 : ¬ ((Int32.ofInt 70).toInt ≤ i.toInt) := hb5
      exfalso; first | omega | exact absurd hb5 (by decide +kernel)
  | succ m ih =>
    intro k hk i hi L2 A hw1 hw2
    have hik : i.toNatClampNeg = k := cx_clamp hi
    have hzk : (sz i.toNatClampNeg).toInt = ((szN k : Nat) : Int) := by
      rw [hik]
      exact hsz k (by omega)
    have hzk4 := (sp_sz (show k < 70 by omega)).2.2.2
    refine ex_iload_n cg_54 (ix := 2) (pc' := 3) rfl rfl rfl ?_
    refine ex_bipush cg_54 (ix := 3) (pc' := 5) rfl rfl rfl ?_
    refine ex_icmp cg_54 (ix := 4) (t := 68) (pc' := 8) rfl rfl rfl (fun hb5 => ?_) (fun hb5 => ?_)
    · have hb5 : (Int32.ofInt 70).toInt ≤ i.toInt := hb5
      exfalso; first | omega | exact absurd hb5 (by decide +kernel)
    · have hb5 : ¬ ((Int32.ofInt 70).toInt ≤ i.toInt) := hb5
      refine ex_aload_n cg_54 (ix := 5) (pc' := 9) rfl rfl rfl ?_
      refine ex_getfield cg_54 (ix := 6) (pc' := 12) rfl rfl rfl rfl rfl ?_
      refine ex_iload_n cg_54 (ix := 7) (pc' := 13) rfl rfl rfl ?_
      refine ex_iaload cg_54 (ix := 8) (pc' := 14) rfl rfl (by omega) (by omega) rfl ?_
      refine ex_aload_n cg_54 (ix := 9) (pc' := 15) rfl rfl rfl ?_
      refine ex_getfield cg_54 (ix := 10) (pc' := 18) rfl rfl rfl rfl rfl ?_
      refine ex_icmp cg_54 (ix := 11) (t := 68) (pc' := 21) rfl rfl rfl (fun hb18 => ?_) (fun hb18 => ?_)
      · have hb18 : g.toInt < (sz i.toNatClampNeg).toInt := hb18
        refine ex_return_ cg_54 (ix := 41) rfl ?_
        refine hP L2 hw1 (fun q r hq hr => hw2 q r ?_ hr)
        first
        | omega
        | exact Classical.byContradiction (fun z => by
            have h3 := sz_mono (show k ≤ q by omega) hq
            omega)
      · have hb18 : ¬ (g.toInt < (sz i.toNatClampNeg).toInt) := hb18
        refine ex_iconst cg_54 (ix := 12) (pc' := 22) rfl rfl ?_
        refine ex_istore_n cg_54 (ix := 13) (pc' := 23) (L' := [some (.inr (.inl 43)), some (.inl (.int x)), some (.inl (.int i)), some (.inl (.int (Int32.ofInt 0)))]) rfl rfl rfl rfl ?_
        refine s1_loop (g := g) (fk := fk) (pf := pf) (pt := pt) (pr := pr) (mi := mi) (cd := cd) (sz := sz) (sp := sp) (th := th) (fo := fo) (go := go) (la := la) (pl := pl) (R := R) (L := L) (hd := hd) (x := x) (xN := xN) (gN := gN) (rkc := rkc) (Lv := Lv) hsz hx hx6 hg hg4 hfo hgo (s := i) (sN := k) (lN := gN - szN k) hi (by omega) (by omega) (P := P) (fun L3 i3 ha1 ha2 ha3 => ?_) (gN - szN k + 1) 0 (by omega) (Int32.ofInt 0) (by decide +kernel) L2 hw1 hw2 (fun r hr => absurd hr (Nat.not_lt_zero r))
        refine ex_iinc cg_54 (ix := 39) (pc' := 65) (L' := [some (.inr (.inl 43)), some (.inl (.int x)), some (.inl (.int (i + Int32.ofInt 1))), some (.inl (.int i3))]) rfl rfl rfl rfl rfl ?_
        refine ex_goto cg_54 (ix := 40) (pc' := 2) rfl rfl ?_
        exact ih (k + 1) (by omega) _ (by rw [cx_addc (by omega) (by omega)]; omega) L3 _ ha1 (fun q r hq hr => by
          by_cases e : q = k
          · rw [e]
            rw [e] at hr
            exact ha3 r (by omega)
          · exact ha2 q r (by omega) hr)
theorem ct_ws {g fk pf pt pr : Int32} {mi cd sz sp th fo go la pl : Nat → Int32} {R L hd : Nat → Nat → Int32} {x : Int32} {xN gN : Nat} {rkc : (Nat → Nat) → Nat} {Lv : Nat → Nat → Nat} (hsz : szH sz) (hx : x.toInt = (xN : Int)) (hx6 : xN < 6) (hg : g.toInt = (gN : Int)) (hg4 : gN ≤ 4) (hfo : tbH mi fo) (hgo : ∀ q r : Nat, q < 70 → szN q + r ≤ gN → (go (5 * q + r)).toInt = ((GOv rkc Lv gN q r : Nat) : Int)) : cx_Ct 3 54 [.inr (.inl 43), .inl (.int x)] (h_ro g fk pf pt pr mi cd sz sp th fo go la pl R L hd) (fun v h2 => v = none ∧ ∃ L2 : Nat → Nat → Int32, h2 = h_ro g fk pf pt pr mi cd sz sp th fo go la pl R L2 hd ∧ (∀ j : Nat, ¬ j = xN → L2 j = L j) ∧ ∀ q r : Nat, q < 70 → szN q + r ≤ gN → (L2 xN (5 * q + r)).toInt = ((LVv (nbF mi) rkc Lv gN q r : Nat) : Int)) := by
  have kc0 : (Int32.ofInt 0).toInt = 0 := by decide +kernel
  have kc70 : (Int32.ofInt 70).toInt = 70 := by decide +kernel
  have kc5 : (Int32.ofInt 5).toInt = 5 := by decide +kernel
  have kc1 : (Int32.ofInt 1).toInt = 1 := by decide +kernel
  refine cx_Ct.of cg_54 (nL := 4) rfl rfl rfl ?_
  show cx_T 3 54 [43, 44, 45, 46, 47, 48, 49, 50, 51, 52, 53, 54, 55, 56, 57, 58, 59, 60, 61, 62, 63, 64, 65, 66, 67, 2, 5, 6, 7, 8, 9] 0 ([some (.inr (.inl 43)), some (.inl (.int x)), none, none], [], (h_ro g fk pf pt pr mi cd sz sp th fo go la pl R L hd)) _
  refine ex_iconst cg_54 (ix := 0) (pc' := 1) rfl rfl ?_
  refine ex_istore_n cg_54 (ix := 1) (pc' := 2) (L' := [some (.inr (.inl 43)), some (.inl (.int x)), some (.inl (.int (Int32.ofInt 0))), none]) rfl rfl rfl rfl ?_
  exact s0_loop (g := g) (fk := fk) (pf := pf) (pt := pt) (pr := pr) (mi := mi) (cd := cd) (sz := sz) (sp := sp) (th := th) (fo := fo) (go := go) (la := la) (pl := pl) (R := R) (L := L) (hd := hd) (x := x) (xN := xN) (gN := gN) (rkc := rkc) (Lv := Lv) hsz hx hx6 hg hg4 hfo hgo (P := fun v h2 => v = none ∧ ∃ L2 : Nat → Nat → Int32, h2 = h_ro g fk pf pt pr mi cd sz sp th fo go la pl R L2 hd ∧ (∀ j : Nat, ¬ j = xN → L2 j = L j) ∧ ∀ q r : Nat, q < 70 → szN q + r ≤ gN → (L2 xN (5 * q + r)).toInt = ((LVv (nbF mi) rkc Lv gN q r : Nat) : Int)) (fun L2 h1 h3 => ⟨rfl, L2, rfl, h1, h3⟩) 70 0 (by omega) (Int32.ofInt 0) (by decide +kernel) L none (fun _ _ => rfl) (fun q r hq => absurd hq (Nat.not_lt_zero q))
end
