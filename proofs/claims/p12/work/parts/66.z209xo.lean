noncomputable section
/-- the four digits of a way -/
def dgK (K i : Nat) : Nat := K / 5 ^ (3 - i) % 5
/-- who is none in this order of the guards -/
def otG (S : Prop) (G i : Nat) : Prop := (S ∧ i < 4 - G) ∨ (¬ S ∧ G ≤ i)
def okG (nb : Nat → Nat → Prop) (S : Prop) (G : Nat) (d t : Nat → Nat) (i : Nat) : Prop := t i = 4 ∨ (¬ otG S G i ∧ t i < 4 ∧ mgS nb (d i) (t i))
/-- how many of the last m places -/
def cntD (t : Nat → Nat) : Nat → Nat → Nat
  | 0, _ => 0
  | m + 1, v => (if t (3 - m) = v then 1 else 0) + cntD t m v
theorem cntD_4 {t : Nat → Nat} {v : Nat} : cntD t 4 v = cntV t 4 v := by
  rw [cntD, cntD, cntD, cntD, cntD, cntV, cntV, cntV, cntV, cntV]
  show (if t 0 = v then 1 else 0) + ((if t 1 = v then 1 else 0) + ((if t 2 = v then 1 else 0) + ((if t 3 = v then 1 else 0) + 0))) = _
  omega
theorem cntD_b {t : Nat → Nat} {v : Nat} : ∀ {m : Nat}, cntD t m v ≤ m
  | 0 => Nat.le_refl _
  | m + 1 => by
    have := cntD_b (t := t) (v := v) (m := m)
    rw [cntD]
    split <;> omega
theorem cntV_on {st ts : Nat → Nat} {b : Nat} (hb : b < 4) : ∀ {m : Nat}, (∀ i, i < m → ts i ≤ 4) → cntV ts m b = onC st ts m b + frC st ts m b
  | 0, _ => rfl
  | m + 1, h => by
    have ih := cntV_on (st := st) (ts := ts) hb (m := m) (fun i hi => h i (by omega))
    have h4 := h m (by omega)
    rw [cntV, ih]
    by_cases q : ts m = 4
    · rw [onC_4 q, frC_4 q, if_neg (by omega)]
      omega
    · by_cases z : st m = 0
      · rw [onC_z z, frC_y (by omega) z]
        show _ = onC st ts m b + ((if b = ts m then 1 else 0) + frC st ts m b)
        by_cases w : ts m = b
        · rw [if_pos w, if_pos w.symm]; omega
        · rw [if_neg w, if_neg (fun u => w u.symm)]; omega
      · rw [onC_y (by omega) z, frC_n z]
        show _ = ((if b = ts m then 1 else 0) + onC st ts m b) + frC st ts m b
        by_cases w : ts m = b
        · rw [if_pos w, if_pos w.symm]; omega
        · rw [if_neg w, if_neg (fun u => w u.symm)]; omega
def thU (f : Nat → Int32) : Prop := ∀ i : Nat, i < 4 → -1 ≤ (f i).toInt ∧ (f i).toInt ≤ 8
def abU (f : Nat → Int32) : Prop := ∀ i : Nat, i < 5 → 0 ≤ (f i).toInt ∧ (f i).toInt ≤ 4
theorem rz_loop {mi : Nat → Int32} {ml : Nat → Int64} {mm mh fo4 th4 : Nat → Int32} {x y : Int32} {P : Option cx_V → cx_H → Prop}  (hP : ∀ (ab2 : Nat → Int32) (i : Int32) (A B C : Option cx_V), (∀ v : Nat, v < 5 → (ab2 v).toInt = 0) → cx_T 4 209 [119, 120, 124, 131, 132, 134] 20 ([some (.inr (.inl 119)), some (.inl (.int x)), some (.inl (.int y)), some (.inl (.int i)), A, B, C], [], [(119, .inl (11, vs_119 mi ml)), (120, .inr (.inl (0, 4, mm))), (124, .inr (.inl (0, 64, mh))), (131, .inr (.inl (0, 4, fo4))), (132, .inr (.inl (0, 4, th4))), (134, .inr (.inl (0, 5, ab2)))]) P) :
    ∀ (m k : Nat), k + m = 5 → ∀ i : Int32, i.toInt = (k : Int) → ∀ (ab2 : Nat → Int32) (A B C : Option cx_V), (∀ v : Nat, v < k → (ab2 v).toInt = 0) → cx_T 4 209 [119, 120, 124, 131, 132, 134] 2 ([some (.inr (.inl 119)), some (.inl (.int x)), some (.inl (.int y)), some (.inl (.int i)), A, B, C], [], [(119, .inl (11, vs_119 mi ml)), (120, .inr (.inl (0, 4, mm))), (124, .inr (.inl (0, 64, mh))), (131, .inr (.inl (0, 4, fo4))), (132, .inr (.inl (0, 4, th4))), (134, .inr (.inl (0, 5, ab2)))]) P := by
  have kcm1 : (Int32.ofInt (-1)).toInt = -1 := by decide +kernel
  have kc0 : (Int32.ofInt 0).toInt = 0 := by decide +kernel
  have kc1 : (Int32.ofInt 1).toInt = 1 := by decide +kernel
  have kc2 : (Int32.ofInt 2).toInt = 2 := by decide +kernel
  have kc3 : (Int32.ofInt 3).toInt = 3 := by decide +kernel
  have kc4 : (Int32.ofInt 4).toInt = 4 := by decide +kernel
  have kc5 : (Int32.ofInt 5).toInt = 5 := by decide +kernel
  intro m
  induction m with
  | zero =>
    intro k hk i hi ab2 A B C hab
    have ek : k = 5 := by omega
    refine ex_iload_n cg_209 (ix := 2) (pc' := 3) rfl rfl rfl ?_
    refine ex_iconst cg_209 (ix := 3) (pc' := 4) rfl rfl ?_
    refine ex_icmp cg_209 (ix := 4) (t := 20) (pc' := 7) rfl rfl rfl (fun hb4 => ?_) (fun hb4 => ?_)
    · have hb4 : (Int32.ofInt 5).toInt ≤ i.toInt := hb4
      rw [ek] at hab
      exact hP ab2 i A B C hab
    · have hb4 : ¬ ((Int32.ofInt 5).toInt ≤ i.toInt) := hb4
      exfalso; first | omega | exact absurd hb4 (by decide +kernel)
  | succ m ih =>
    intro k hk i hi ab2 A B C hab
    have hik : i.toNatClampNeg = k := cx_clamp hi
    refine ex_iload_n cg_209 (ix := 2) (pc' := 3) rfl rfl rfl ?_
    refine ex_iconst cg_209 (ix := 3) (pc' := 4) rfl rfl ?_
    refine ex_icmp cg_209 (ix := 4) (t := 20) (pc' := 7) rfl rfl rfl (fun hb4 => ?_) (fun hb4 => ?_)
    · have hb4 : (Int32.ofInt 5).toInt ≤ i.toInt := hb4
      exfalso; first | omega | exact absurd hb4 (by decide +kernel)
    · have hb4 : ¬ ((Int32.ofInt 5).toInt ≤ i.toInt) := hb4
      refine ex_aload_n cg_209 (ix := 5) (pc' := 8) rfl rfl rfl ?_
      refine ex_getfield cg_209 (ix := 6) (pc' := 11) (v := .inr (.inl 134)) rfl rfl rfl rfl rfl ?_
      refine ex_iload_n cg_209 (ix := 7) (pc' := 12) rfl rfl rfl ?_
      refine ex_iconst cg_209 (ix := 8) (pc' := 13) rfl rfl ?_
      refine ex_iastore cg_209 (ix := 9) (pc' := 14) (h' := [(119, .inl (11, vs_119 mi ml)), (120, .inr (.inl (0, 4, mm))), (124, .inr (.inl (0, 64, mh))), (131, .inr (.inl (0, 4, fo4))), (132, .inr (.inl (0, 4, th4))), (134, .inr (.inl (0, 5, upd ab2 i.toNatClampNeg (Int32.ofInt 0))))]) rfl rfl (by omega) (by omega) rfl rfl ?_
      refine ex_iinc cg_209 (ix := 10) (pc' := 17) (L' := [some (.inr (.inl 119)), some (.inl (.int x)), some (.inl (.int y)), some (.inl (.int (i + Int32.ofInt 1))), A, B, C]) rfl rfl rfl rfl rfl ?_
      refine ex_goto cg_209 (ix := 11) (pc' := 2) rfl rfl ?_
      refine ih (k + 1) (by omega) _ (by rw [cx_addc (by omega) (by omega)]; omega) _ _ _ _ (fun v hv => ?_)
      rw [hik]
      unfold upd
      split
      · exact kc0
      · exact hab v (by omega)
theorem rb_loop {mi : Nat → Int32} {ml : Nat → Int64} {mm mh fo4 : Nat → Int32} {hd : Nat → Nat → Int32} {x y : Int32} {K hN gN : Nat} {S : Prop} {d : Nat → Nat} {P : Option cx_V → cx_H → Prop} (hmm : ∀ b : Nat, b < 4 → 0 ≤ (mm b).toInt ∧ (mm b).toInt ≤ 40) (hmh : ∀ b : Nat, b < 4 → (mh (16 * b + hN)).toInt = (hd b hN).toInt) (hhd : hdH hd) (hfo : ∀ i : Nat, i < 4 → (fo4 i).toInt = ((d i : Nat) : Int)) (hd9 : ∀ i : Nat, d i < 9) (hx : x.toInt = (K : Int)) (hK : K < 625) (hy : y.toInt = (hN : Int)) (hh : hN < 16) (hg : (mi 8).toInt = (gN : Int)) (hg4 : gN ≤ 4) (hS : ¬ (mi 21).toInt = 0 ↔ S) (hP : ∀ (z : Int32) (th2 ab2 : Nat → Int32), (thU th2 ∧ abU ab2 ∧ ((z.toInt = -1 ∧ ¬ ∀ i : Nat, i < 4 → okG (nbF mm) S gN d (dgK K) i) ∨ ((∀ i : Nat, i < 4 → okG (nbF mm) S gN d (dgK K) i) ∧ z.toInt = ((rkH hd hN (cntV (dgK K) 4) : Nat) : Int) ∧ ∀ i : Nat, i < 4 → (th2 i).toInt = ((nxs (d i) (dgK K i) : Nat) : Int)))) → P (some (.inl (.int z))) ([(119, .inl (11, vs_119 mi ml)), (120, .inr (.inl (0, 4, mm))), (124, .inr (.inl (0, 64, mh))), (131, .inr (.inl (0, 4, fo4))), (132, .inr (.inl (0, 4, th2))), (134, .inr (.inl (0, 5, ab2)))])) :
    ∀ (lN : Nat) (i : Int32), i.toInt = (lN : Int) - 1 → lN ≤ 4 → ∀ (w : Int32) (th2 ab2 : Nat → Int32) (B C : Option cx_V), w.toInt = ((K / 5 ^ (4 - lN) : Nat) : Int) → thU th2 → (∀ v : Nat, v < 5 → (ab2 v).toInt = ((cntD (dgK K) (4 - lN) v : Nat) : Int)) → (∀ j : Nat, lN ≤ j → j < 4 → okG (nbF mm) S gN d (dgK K) j ∧ (th2 j).toInt = ((nxs (d j) (dgK K j) : Nat) : Int)) → cx_T 4 209 [119, 120, 124, 131, 132, 134] 25 ([some (.inr (.inl 119)), some (.inl (.int x)), some (.inl (.int y)), some (.inl (.int w)), some (.inl (.int i)), B, C], [], [(119, .inl (11, vs_119 mi ml)), (120, .inr (.inl (0, 4, mm))), (124, .inr (.inl (0, 64, mh))), (131, .inr (.inl (0, 4, fo4))), (132, .inr (.inl (0, 4, th2))), (134, .inr (.inl (0, 5, ab2)))]) P := by
  have kcm1 : (Int32.ofInt (-1)).toInt = -1 := by decide +kernel
  have kc0 : (Int32.ofInt 0).toInt = 0 := by decide +kernel
  have kc1 : (Int32.ofInt 1).toInt = 1 := by decide +kernel
  have kc2 : (Int32.ofInt 2).toInt = 2 := by decide +kernel
  have kc3 : (Int32.ofInt 3).toInt = 3 := by decide +kernel
  have kc4 : (Int32.ofInt 4).toInt = 4 := by decide +kernel
  have kc5 : (Int32.ofInt 5).toInt = 5 := by decide +kernel
  intro lN
  induction lN with
  | zero =>
    intro i hi hlL w th2 ab2 B C hw hth hab hok
    refine ex_iload cg_209 (ix := 16) (pc' := 27) rfl rfl rfl ?_
    refine ex_if cg_209 (ix := 17) (t := 141) (pc' := 30) rfl rfl rfl (fun hb27 => ?_) (fun hb27 => ?_)
    · have hb27 : i.toInt < 0 := hb27
      have hn0 : (ab2 (Int32.ofInt 0).toNatClampNeg).toInt = ((cntD (dgK K) 4 0 : Nat) : Int) := by
        rw [show (Int32.ofInt 0).toNatClampNeg = 0 from by decide +kernel]
        exact hab 0 (by omega)
      have hh0 := hhd 0 hN (by omega) hh
      have hv0 : (mh (16 * 0 + hN)).toInt = (((hd 0 hN).toInt.toNat : Nat) : Int) := by
        rw [hmh 0 (by omega)]
        omega
      have hn1 : (ab2 (Int32.ofInt 1).toNatClampNeg).toInt = ((cntD (dgK K) 4 1 : Nat) : Int) := by
        rw [show (Int32.ofInt 1).toNatClampNeg = 1 from by decide +kernel]
        exact hab 1 (by omega)
      have hh1 := hhd 1 hN (by omega) hh
      have hv1 : (mh (16 * 1 + hN)).toInt = (((hd 1 hN).toInt.toNat : Nat) : Int) := by
        rw [hmh 1 (by omega)]
        omega
      have hn2 : (ab2 (Int32.ofInt 2).toNatClampNeg).toInt = ((cntD (dgK K) 4 2 : Nat) : Int) := by
        rw [show (Int32.ofInt 2).toNatClampNeg = 2 from by decide +kernel]
        exact hab 2 (by omega)
      have hh2 := hhd 2 hN (by omega) hh
      have hv2 : (mh (16 * 2 + hN)).toInt = (((hd 2 hN).toInt.toNat : Nat) : Int) := by
        rw [hmh 2 (by omega)]
        omega
      have hn3 : (ab2 (Int32.ofInt 3).toNatClampNeg).toInt = ((cntD (dgK K) 4 3 : Nat) : Int) := by
        rw [show (Int32.ofInt 3).toNatClampNeg = 3 from by decide +kernel]
        exact hab 3 (by omega)
      have hh3 := hhd 3 hN (by omega) hh
      have hv3 : (mh (16 * 3 + hN)).toInt = (((hd 3 hN).toInt.toNat : Nat) : Int) := by
        rw [hmh 3 (by omega)]
        omega
      refine ex_aload_n cg_209 (ix := 80) (pc' := 142) rfl rfl rfl ?_
      refine ex_iconst cg_209 (ix := 81) (pc' := 143) rfl rfl ?_
      refine ex_iload_n cg_209 (ix := 82) (pc' := 144) rfl rfl rfl ?_
      refine ex_aload_n cg_209 (ix := 83) (pc' := 145) rfl rfl rfl ?_
      refine ex_getfield cg_209 (ix := 84) (pc' := 148) (v := .inr (.inl 134)) rfl rfl rfl rfl rfl ?_
      refine ex_iconst cg_209 (ix := 85) (pc' := 149) rfl rfl ?_
      refine ex_iaload cg_209 (ix := 86) (pc' := 150) rfl rfl (by omega) (by omega) rfl ?_
      refine ex_callV cg_209 (ix := 87) (pc' := 153) (As := [.inl (.int (Int32.ofInt 0)), .inl (.int y), .inl (.int (ab2 (Int32.ofInt 0).toNatClampNeg))]) (r := []) rfl rfl rfl (ct_ra (mi := mi) (ml := ml) (mh := mh) (x := Int32.ofInt 0) (y := y) (n := ab2 (Int32.ofInt 0).toNatClampNeg) (bN := 0) (hN := hN) (gN := cntD (dgK K) 4 0) (v := (hd 0 hN).toInt.toNat) (by omega) (by omega) hy hh hn0 (by have := cntD_b (t := dgK K) (v := 0) (m := 4); omega) hv0 (by omega)) (by first | decide | omega) rfl rfl rfl ⟨rfl, rfl, trivial⟩ rfl rfl (fun v h2 hq => ?_)
      obtain ⟨za0, rfl, rfl, hza0⟩ := hq
      show cx_T _ 209 _ 153 ([some (.inr (.inl 119)), some (.inl (.int x)), some (.inl (.int y)), some (.inl (.int w)), some (.inl (.int i)), B, C], [.inl (.int za0)], [(119, .inl (11, vs_119 mi ml)), (120, .inr (.inl (0, 4, mm))), (124, .inr (.inl (0, 64, mh))), (131, .inr (.inl (0, 4, fo4))), (132, .inr (.inl (0, 4, th2))), (134, .inr (.inl (0, 5, ab2)))]) _
      refine ex_aload_n cg_209 (ix := 88) (pc' := 154) rfl rfl rfl ?_
      refine ex_iconst cg_209 (ix := 89) (pc' := 155) rfl rfl ?_
      refine ex_iload_n cg_209 (ix := 90) (pc' := 156) rfl rfl rfl ?_
      refine ex_aload_n cg_209 (ix := 91) (pc' := 157) rfl rfl rfl ?_
      refine ex_getfield cg_209 (ix := 92) (pc' := 160) (v := .inr (.inl 134)) rfl rfl rfl rfl rfl ?_
      refine ex_iconst cg_209 (ix := 93) (pc' := 161) rfl rfl ?_
      refine ex_iaload cg_209 (ix := 94) (pc' := 162) rfl rfl (by omega) (by omega) rfl ?_
      refine ex_callV cg_209 (ix := 95) (pc' := 165) (As := [.inl (.int (Int32.ofInt 1)), .inl (.int y), .inl (.int (ab2 (Int32.ofInt 1).toNatClampNeg))]) (r := [.inl (.int za0)]) rfl rfl rfl (ct_ra (mi := mi) (ml := ml) (mh := mh) (x := Int32.ofInt 1) (y := y) (n := ab2 (Int32.ofInt 1).toNatClampNeg) (bN := 1) (hN := hN) (gN := cntD (dgK K) 4 1) (v := (hd 1 hN).toInt.toNat) (by omega) (by omega) hy hh hn1 (by have := cntD_b (t := dgK K) (v := 1) (m := 4); omega) hv1 (by omega)) (by first | decide | omega) rfl rfl rfl ⟨rfl, rfl, trivial⟩ rfl rfl (fun v h2 hq => ?_)
      obtain ⟨za1, rfl, rfl, hza1⟩ := hq
      show cx_T _ 209 _ 165 ([some (.inr (.inl 119)), some (.inl (.int x)), some (.inl (.int y)), some (.inl (.int w)), some (.inl (.int i)), B, C], [.inl (.int za1), .inl (.int za0)], [(119, .inl (11, vs_119 mi ml)), (120, .inr (.inl (0, 4, mm))), (124, .inr (.inl (0, 64, mh))), (131, .inr (.inl (0, 4, fo4))), (132, .inr (.inl (0, 4, th2))), (134, .inr (.inl (0, 5, ab2)))]) _
      refine ex_iadd cg_209 (ix := 96) (pc' := 166) rfl rfl ?_
      refine ex_aload_n cg_209 (ix := 97) (pc' := 167) rfl rfl rfl ?_
      refine ex_iconst cg_209 (ix := 98) (pc' := 168) rfl rfl ?_
      refine ex_iload_n cg_209 (ix := 99) (pc' := 169) rfl rfl rfl ?_
      refine ex_aload_n cg_209 (ix := 100) (pc' := 170) rfl rfl rfl ?_
      refine ex_getfield cg_209 (ix := 101) (pc' := 173) (v := .inr (.inl 134)) rfl rfl rfl rfl rfl ?_
      refine ex_iconst cg_209 (ix := 102) (pc' := 174) rfl rfl ?_
      refine ex_iaload cg_209 (ix := 103) (pc' := 175) rfl rfl (by omega) (by omega) rfl ?_
      refine ex_callV cg_209 (ix := 104) (pc' := 178) (As := [.inl (.int (Int32.ofInt 2)), .inl (.int y), .inl (.int (ab2 (Int32.ofInt 2).toNatClampNeg))]) (r := [.inl (.int (za0 + za1))]) rfl rfl rfl (ct_ra (mi := mi) (ml := ml) (mh := mh) (x := Int32.ofInt 2) (y := y) (n := ab2 (Int32.ofInt 2).toNatClampNeg) (bN := 2) (hN := hN) (gN := cntD (dgK K) 4 2) (v := (hd 2 hN).toInt.toNat) (by omega) (by omega) hy hh hn2 (by have := cntD_b (t := dgK K) (v := 2) (m := 4); omega) hv2 (by omega)) (by first | decide | omega) rfl rfl rfl ⟨rfl, rfl, trivial⟩ rfl rfl (fun v h2 hq => ?_)
      obtain ⟨za2, rfl, rfl, hza2⟩ := hq
      show cx_T _ 209 _ 178 ([some (.inr (.inl 119)), some (.inl (.int x)), some (.inl (.int y)), some (.inl (.int w)), some (.inl (.int i)), B, C], [.inl (.int za2), .inl (.int (za0 + za1))], [(119, .inl (11, vs_119 mi ml)), (120, .inr (.inl (0, 4, mm))), (124, .inr (.inl (0, 64, mh))), (131, .inr (.inl (0, 4, fo4))), (132, .inr (.inl (0, 4, th2))), (134, .inr (.inl (0, 5, ab2)))]) _
      refine ex_iadd cg_209 (ix := 105) (pc' := 179) rfl rfl ?_
      refine ex_aload_n cg_209 (ix := 106) (pc' := 180) rfl rfl rfl ?_
      refine ex_iconst cg_209 (ix := 107) (pc' := 181) rfl rfl ?_
      refine ex_iload_n cg_209 (ix := 108) (pc' := 182) rfl rfl rfl ?_
      refine ex_aload_n cg_209 (ix := 109) (pc' := 183) rfl rfl rfl ?_
      refine ex_getfield cg_209 (ix := 110) (pc' := 186) (v := .inr (.inl 134)) rfl rfl rfl rfl rfl ?_
      refine ex_iconst cg_209 (ix := 111) (pc' := 187) rfl rfl ?_
      refine ex_iaload cg_209 (ix := 112) (pc' := 188) rfl rfl (by omega) (by omega) rfl ?_
      refine ex_callV cg_209 (ix := 113) (pc' := 191) (As := [.inl (.int (Int32.ofInt 3)), .inl (.int y), .inl (.int (ab2 (Int32.ofInt 3).toNatClampNeg))]) (r := [.inl (.int ((za0 + za1) + za2))]) rfl rfl rfl (ct_ra (mi := mi) (ml := ml) (mh := mh) (x := Int32.ofInt 3) (y := y) (n := ab2 (Int32.ofInt 3).toNatClampNeg) (bN := 3) (hN := hN) (gN := cntD (dgK K) 4 3) (v := (hd 3 hN).toInt.toNat) (by omega) (by omega) hy hh hn3 (by have := cntD_b (t := dgK K) (v := 3) (m := 4); omega) hv3 (by omega)) (by first | decide | omega) rfl rfl rfl ⟨rfl, rfl, trivial⟩ rfl rfl (fun v h2 hq => ?_)
      obtain ⟨za3, rfl, rfl, hza3⟩ := hq
      show cx_T _ 209 _ 191 ([some (.inr (.inl 119)), some (.inl (.int x)), some (.inl (.int y)), some (.inl (.int w)), some (.inl (.int i)), B, C], [.inl (.int za3), .inl (.int ((za0 + za1) + za2))], [(119, .inl (11, vs_119 mi ml)), (120, .inr (.inl (0, 4, mm))), (124, .inr (.inl (0, 64, mh))), (131, .inr (.inl (0, 4, fo4))), (132, .inr (.inl (0, 4, th2))), (134, .inr (.inl (0, 5, ab2)))]) _
      refine ex_iadd cg_209 (ix := 114) (pc' := 192) rfl rfl ?_
      refine ex_ireturn cg_209 (ix := 115) rfl ?_
      have ev : ∀ b, cntV (dgK K) 4 b = cntD (dgK K) 4 b := fun b => cntD_4.symm
      have hk0 := rk1_le (h := (hd 0 hN).toInt.toNat) (g := cntD (dgK K) 4 0)
      have hk1 := rk1_le (h := (hd 1 hN).toInt.toNat) (g := cntD (dgK K) 4 1)
      have hk2 := rk1_le (h := (hd 2 hN).toInt.toNat) (g := cntD (dgK K) 4 2)
      have hk3 := rk1_le (h := (hd 3 hN).toInt.toNat) (g := cntD (dgK K) 4 3)
      have s1 : (za0 + za1).toInt = za0.toInt + za1.toInt := cx_addc (by omega) (by omega)
      have s2 : (za0 + za1 + za2).toInt = za0.toInt + za1.toInt + za2.toInt := by rw [cx_addc (by omega) (by omega), s1]
      have s3 : (za0 + za1 + za2 + za3).toInt = za0.toInt + za1.toInt + za2.toInt + za3.toInt := by rw [cx_addc (by omega) (by omega), s2]
      refine hP _ th2 ab2 ⟨hth, fun v hv => ?_, Or.inr ⟨fun j hj => (hok j (Nat.zero_le _) hj).1, ?_, fun j hj => (hok j (Nat.zero_le _) hj).2⟩⟩
      · rw [hab v hv]
        have := cntD_b (t := dgK K) (v := v) (m := 4 - 0)
        omega
      · unfold rkH
        rw [rkS, rkS, rkS, rkS, rkS, ev, ev, ev, ev, s3, hza0, hza1, hza2, hza3]
        omega
    · have hb27 : ¬ (i.toInt < 0) := hb27
      exfalso; first | omega | exact absurd hb27 (by decide +kernel)
  | succ lN ih =>
    intro i hi hlL w th2 ab2 B C hw hth hab hok
    have hi : i.toInt = (lN : Int) := by omega
    have hik : i.toNatClampNeg = lN := cx_clamp hi
    have hpw : K / 5 ^ (4 - (lN + 1)) = K / 5 ^ (3 - lN) := by rw [show 4 - (lN + 1) = 3 - lN by omega]
    have hKb : K / 5 ^ (3 - lN) ≤ K := Nat.div_le_self _ _
    rw [hpw] at hw
    have hd4 : dgK K lN ≤ 4 := by
      unfold dgK
      omega
    have hdm := ro_dm (x := w) (y := Int32.ofInt 5) (by rw [hw]; exact Int.natCast_nonneg _) (by omega)
    have hw5 : (w - w / Int32.ofInt 5 * Int32.ofInt 5).toInt = ((dgK K lN : Nat) : Int) := by
      rw [hdm.2, hw, kc5]
      unfold dgK
      omega
    have hw1 : (w / Int32.ofInt 5).toInt = ((K / 5 ^ (4 - lN) : Nat) : Int) := by
      rw [hdm.1, hw, kc5, show 4 - lN = (3 - lN) + 1 by omega, Nat.pow_succ, ← Nat.div_div_eq_div_mul]
      omega
    have hfi : (fo4 i.toNatClampNeg).toInt = ((d lN : Nat) : Int) := by
      rw [hik]
      exact hfo lN (by omega)
    have hn9 := nxs_9 (s := d lN) hd4
    have h4g : (Int32.ofInt 4 - mi 8).toInt = ((4 - gN : Nat) : Int) := by
      rw [cx_subc (by omega) (by omega)]
      omega
    refine ex_iload cg_209 (ix := 16) (pc' := 27) rfl rfl rfl ?_
    refine ex_if cg_209 (ix := 17) (t := 141) (pc' := 30) rfl rfl rfl (fun hb27 => ?_) (fun hb27 => ?_)
    · have hb27 : i.toInt < 0 := hb27
      exfalso; first | omega | exact absurd hb27 (by decide +kernel)
    · have hb27 : ¬ (i.toInt < 0) := hb27
      refine ex_iload_n cg_209 (ix := 18) (pc' := 31) rfl rfl rfl ?_
      refine ex_iconst cg_209 (ix := 19) (pc' := 32) rfl rfl ?_
      refine ex_irem cg_209 (ix := 20) (pc' := 33) rfl (by decide +kernel) rfl ?_
      refine ex_istore cg_209 (ix := 21) (pc' := 35) (L' := [some (.inr (.inl 119)), some (.inl (.int x)), some (.inl (.int y)), some (.inl (.int w)), some (.inl (.int i)), some (.inl (.int (w - w / (Int32.ofInt 5) * (Int32.ofInt 5)))), C]) rfl rfl rfl rfl ?_
      refine ex_iload_n cg_209 (ix := 22) (pc' := 36) rfl rfl rfl ?_
      refine ex_iconst cg_209 (ix := 23) (pc' := 37) rfl rfl ?_
      refine ex_idiv cg_209 (ix := 24) (pc' := 38) rfl (by decide +kernel) rfl ?_
      refine ex_istore_n cg_209 (ix := 25) (pc' := 39) (L' := [some (.inr (.inl 119)), some (.inl (.int x)), some (.inl (.int y)), some (.inl (.int (w / (Int32.ofInt 5)))), some (.inl (.int i)), some (.inl (.int (w - w / (Int32.ofInt 5) * (Int32.ofInt 5)))), C]) rfl rfl rfl rfl ?_
      refine ex_aload_n cg_209 (ix := 26) (pc' := 40) rfl rfl rfl ?_
      refine ex_getfield cg_209 (ix := 27) (pc' := 43) (v := .inr (.inl 132)) rfl rfl rfl rfl rfl ?_
      refine ex_iload cg_209 (ix := 28) (pc' := 45) rfl rfl rfl ?_
      refine ex_aload_n cg_209 (ix := 29) (pc' := 46) rfl rfl rfl ?_
      refine ex_aload_n cg_209 (ix := 30) (pc' := 47) rfl rfl rfl ?_
      refine ex_getfield cg_209 (ix := 31) (pc' := 50) (v := .inr (.inl 131)) rfl rfl rfl rfl rfl ?_
      refine ex_iload cg_209 (ix := 32) (pc' := 52) rfl rfl rfl ?_
      refine ex_iaload cg_209 (ix := 33) (pc' := 53) rfl rfl (by omega) (by omega) rfl ?_
      refine ex_iload cg_209 (ix := 34) (pc' := 55) rfl rfl rfl ?_
      refine ex_callV cg_209 (ix := 35) (pc' := 58) (As := [.inl (.int (fo4 i.toNatClampNeg)), .inl (.int (w - w / (Int32.ofInt 5) * (Int32.ofInt 5)))]) (r := [.inl (.int i), .inr (.inl 132)]) rfl rfl rfl (ct_goes (mi := mi) (ml := ml) (mm := mm) (x := fo4 i.toNatClampNeg) (y := w - w / Int32.ofInt 5 * Int32.ofInt 5) (sN := d lN) (tN := dgK K lN) hmm hfi (hd9 lN) hw5 hd4) (by first | decide | omega) rfl rfl rfl ⟨rfl, rfl, trivial⟩ rfl rfl (fun v h2 hq => ?_)
      obtain ⟨gz, rfl, rfl, hgz⟩ := hq
      have hg0 := gsV_0 hgz hd4
      have hgb : -1 ≤ gz.toInt ∧ gz.toInt ≤ 8 := by
        rcases hg0 with ⟨q1, q2, q3⟩ | ⟨q1, q2, q3⟩ <;> omega
      have hup : upd th2 i.toNatClampNeg gz i.toNatClampNeg = gz := by
        unfold upd
        exact if_pos rfl
      show cx_T _ 209 _ 58 ([some (.inr (.inl 119)), some (.inl (.int x)), some (.inl (.int y)), some (.inl (.int (w / (Int32.ofInt 5)))), some (.inl (.int i)), some (.inl (.int (w - w / (Int32.ofInt 5) * (Int32.ofInt 5)))), C], [.inl (.int gz), .inl (.int i), .inr (.inl 132)], [(119, .inl (11, vs_119 mi ml)), (120, .inr (.inl (0, 4, mm))), (124, .inr (.inl (0, 64, mh))), (131, .inr (.inl (0, 4, fo4))), (132, .inr (.inl (0, 4, th2))), (134, .inr (.inl (0, 5, ab2)))]) _
      refine ex_iastore cg_209 (ix := 36) (pc' := 59) (h' := [(119, .inl (11, vs_119 mi ml)), (120, .inr (.inl (0, 4, mm))), (124, .inr (.inl (0, 64, mh))), (131, .inr (.inl (0, 4, fo4))), (132, .inr (.inl (0, 4, upd th2 i.toNatClampNeg gz))), (134, .inr (.inl (0, 5, ab2)))]) rfl rfl (by omega) (by omega) rfl rfl ?_
      refine ex_aload_n cg_209 (ix := 37) (pc' := 60) rfl rfl rfl ?_
      refine ex_getfield cg_209 (ix := 38) (pc' := 63) (v := .inl (.int (mi 21))) rfl rfl rfl rfl rfl ?_
      refine ex_if cg_209 (ix := 39) (t := 85) (pc' := 66) rfl rfl rfl (fun hb63 => ?_) (fun hb63 => ?_)
      · have hb63 : (mi 21).toInt = 0 := hb63
        refine ex_iload cg_209 (ix := 50) (pc' := 87) rfl rfl rfl ?_
        refine ex_aload_n cg_209 (ix := 51) (pc' := 88) rfl rfl rfl ?_
        refine ex_getfield cg_209 (ix := 52) (pc' := 91) (v := .inl (.int (mi 8))) rfl rfl rfl rfl rfl ?_
        refine ex_icmp cg_209 (ix := 53) (t := 98) (pc' := 94) rfl rfl rfl (fun hb91 => ?_) (fun hb91 => ?_)
        · have hb91 : i.toInt < (mi 8).toInt := hb91
          refine ex_iconst cg_209 (ix := 56) (pc' := 99) rfl rfl ?_
          refine ex_istore cg_209 (ix := 57) (pc' := 101) (L' := [some (.inr (.inl 119)), some (.inl (.int x)), some (.inl (.int y)), some (.inl (.int (w / (Int32.ofInt 5)))), some (.inl (.int i)), some (.inl (.int (w - w / (Int32.ofInt 5) * (Int32.ofInt 5)))), some (.inl (.int (Int32.ofInt 0)))]) rfl rfl rfl rfl ?_
          refine ex_aload_n cg_209 (ix := 58) (pc' := 102) rfl rfl rfl ?_
          refine ex_getfield cg_209 (ix := 59) (pc' := 105) (v := .inr (.inl 132)) rfl rfl rfl rfl rfl ?_
          refine ex_iload cg_209 (ix := 60) (pc' := 107) rfl rfl rfl ?_
          refine ex_iaload cg_209 (ix := 61) (pc' := 108) rfl rfl (by omega) (by omega) rfl ?_
          refine ex_if cg_209 (ix := 62) (t := 122) (pc' := 111) rfl rfl rfl (fun hb108 => ?_) (fun hb108 => ?_)
          · have hb108 : ((upd th2 i.toNatClampNeg gz) i.toNatClampNeg).toInt < 0 := hb108
            refine ex_iconst cg_209 (ix := 68) (pc' := 123) rfl rfl ?_
            refine ex_ireturn cg_209 (ix := 69) rfl ?_
            rw [hup] at hb108
            refine hP _ _ ab2 ⟨fun v hv => ?_, fun v hv => ?_, Or.inl ⟨kcm1, fun hall => ?_⟩⟩
            · rw [hik]
              unfold upd
              split
              · omega
              · exact hth v hv
            · rw [hab v hv]
              have := cntD_b (t := dgK K) (v := v) (m := 4 - (lN + 1))
              omega
            · rcases hall lN (by omega) with q | ⟨q1, q2, q3⟩
              · rcases hg0 with ⟨w1, w2, w3⟩ | ⟨w1, w2, w3⟩ <;> omega
              · first
                | (rcases hg0 with ⟨w1, w2, w3⟩ | ⟨w1, w2, w3⟩
                   · exfalso
                     omega
                   · exact w3 q3)
                | (refine q1 ?_
                   first
                   | exact Or.inl ⟨hS.mp (by omega), by omega⟩
                   | exact Or.inr ⟨fun z => (hS.mpr z) (by omega), by omega⟩)
          · have hb108 : ¬ (((upd th2 i.toNatClampNeg gz) i.toNatClampNeg).toInt < 0) := hb108
            refine ex_iload cg_209 (ix := 63) (pc' := 113) rfl rfl rfl ?_
            refine ex_if cg_209 (ix := 64) (t := 124) (pc' := 116) rfl rfl rfl (fun hb113 => ?_) (fun hb113 => ?_)
            · have hb113 : (Int32.ofInt 0).toInt = 0 := hb113
              refine ex_aload_n cg_209 (ix := 70) (pc' := 125) rfl rfl rfl ?_
              refine ex_getfield cg_209 (ix := 71) (pc' := 128) (v := .inr (.inl 134)) rfl rfl rfl rfl rfl ?_
              refine ex_iload cg_209 (ix := 72) (pc' := 130) rfl rfl rfl ?_
              refine ex_dup2 cg_209 (ix := 73) (pc' := 131) rfl rfl rfl rfl ?_
              refine ex_iaload cg_209 (ix := 74) (pc' := 132) rfl rfl (by omega) (by omega) rfl ?_
              refine ex_iconst cg_209 (ix := 75) (pc' := 133) rfl rfl ?_
              refine ex_iadd cg_209 (ix := 76) (pc' := 134) rfl rfl ?_
              refine ex_iastore cg_209 (ix := 77) (pc' := 135) (h' := [(119, .inl (11, vs_119 mi ml)), (120, .inr (.inl (0, 4, mm))), (124, .inr (.inl (0, 64, mh))), (131, .inr (.inl (0, 4, fo4))), (132, .inr (.inl (0, 4, upd th2 i.toNatClampNeg gz))), (134, .inr (.inl (0, 5, upd ab2 (w - w / (Int32.ofInt 5) * (Int32.ofInt 5)).toNatClampNeg ((ab2 (w - w / (Int32.ofInt 5) * (Int32.ofInt 5)).toNatClampNeg) + (Int32.ofInt 1)))))]) rfl rfl (by omega) (by omega) rfl rfl ?_
              refine ex_iinc cg_209 (ix := 78) (pc' := 138) (L' := [some (.inr (.inl 119)), some (.inl (.int x)), some (.inl (.int y)), some (.inl (.int (w / (Int32.ofInt 5)))), some (.inl (.int (i + Int32.ofInt (-1)))), some (.inl (.int (w - w / (Int32.ofInt 5) * (Int32.ofInt 5)))), some (.inl (.int (Int32.ofInt 0)))]) rfl rfl rfl rfl rfl ?_
              refine ex_goto cg_209 (ix := 79) (pc' := 25) rfl rfl ?_
              rw [hup] at hb108
              refine ih _ (by rw [cx_addc (by omega) (by omega)]; omega) (by omega) _ _ _ _ _ hw1 (fun v hv => ?_) (fun v hv => ?_) (fun j h1 h2 => ?_)
              · rw [hik]
                unfold upd
                split
                · omega
                · exact hth v hv
              · rw [cx_clamp hw5]
                unfold upd
                rw [show 4 - lN = (4 - (lN + 1)) + 1 by omega, cntD, show 3 - (4 - (lN + 1)) = lN by omega]
                have hcb := cntD_b (t := dgK K) (v := dgK K lN) (m := 4 - (lN + 1))
                by_cases e : v = dgK K lN
                · rw [if_pos e, if_pos e.symm, cx_addc (by rw [hab _ (by omega)]; omega) (by rw [hab _ (by omega)]; omega), hab _ (by omega), e]
                  omega
                · rw [if_neg e, if_neg (fun z => e z.symm), hab v hv]
                  omega
              · by_cases e : j = lN
                · rw [e, hik]
                  unfold upd
                  rw [if_pos rfl]
                  refine ⟨?_, ?_⟩
                  · rcases hg0 with ⟨q1, q2, q3⟩ | ⟨q1, q2, q3⟩
                    · rcases q3 with q3 | ⟨q3, q4⟩
                      · exact Or.inl q3
                      · refine Or.inr ⟨fun z => ?_, q3, q4⟩
                        rcases z with ⟨z1, z2⟩ | ⟨z1, z2⟩
                        · have z3 := hS.mpr z1
                          omega
                        · have z3 : (mi 21).toInt = 0 := Classical.byContradiction (fun w => z1 (hS.mp w))
                          omega
                    · exfalso
                      omega
                  · rcases hg0 with ⟨q1, q2, q3⟩ | ⟨q1, q2, q3⟩
                    · exact q2
                    · exfalso
                      omega
                · rw [hik]
                  unfold upd
                  rw [if_neg e]; exact hok j (by omega) h2
            · have hb113 : ¬ ((Int32.ofInt 0).toInt = 0) := hb113
              exfalso; first | omega | exact absurd hb113 (by decide +kernel)
        · have hb91 : ¬ (i.toInt < (mi 8).toInt) := hb91
          refine ex_iconst cg_209 (ix := 54) (pc' := 95) rfl rfl ?_
          refine ex_goto cg_209 (ix := 55) (pc' := 99) rfl rfl ?_
          refine ex_istore cg_209 (ix := 57) (pc' := 101) (L' := [some (.inr (.inl 119)), some (.inl (.int x)), some (.inl (.int y)), some (.inl (.int (w / (Int32.ofInt 5)))), some (.inl (.int i)), some (.inl (.int (w - w / (Int32.ofInt 5) * (Int32.ofInt 5)))), some (.inl (.int (Int32.ofInt 1)))]) rfl rfl rfl rfl ?_
          refine ex_aload_n cg_209 (ix := 58) (pc' := 102) rfl rfl rfl ?_
          refine ex_getfield cg_209 (ix := 59) (pc' := 105) (v := .inr (.inl 132)) rfl rfl rfl rfl rfl ?_
          refine ex_iload cg_209 (ix := 60) (pc' := 107) rfl rfl rfl ?_
          refine ex_iaload cg_209 (ix := 61) (pc' := 108) rfl rfl (by omega) (by omega) rfl ?_
          refine ex_if cg_209 (ix := 62) (t := 122) (pc' := 111) rfl rfl rfl (fun hb108 => ?_) (fun hb108 => ?_)
          · have hb108 : ((upd th2 i.toNatClampNeg gz) i.toNatClampNeg).toInt < 0 := hb108
            refine ex_iconst cg_209 (ix := 68) (pc' := 123) rfl rfl ?_
            refine ex_ireturn cg_209 (ix := 69) rfl ?_
            rw [hup] at hb108
            refine hP _ _ ab2 ⟨fun v hv => ?_, fun v hv => ?_, Or.inl ⟨kcm1, fun hall => ?_⟩⟩
            · rw [hik]
              unfold upd
              split
              · omega
              · exact hth v hv
            · rw [hab v hv]
              have := cntD_b (t := dgK K) (v := v) (m := 4 - (lN + 1))
              omega
            · rcases hall lN (by omega) with q | ⟨q1, q2, q3⟩
              · rcases hg0 with ⟨w1, w2, w3⟩ | ⟨w1, w2, w3⟩ <;> omega
              · first
                | (rcases hg0 with ⟨w1, w2, w3⟩ | ⟨w1, w2, w3⟩
                   · exfalso
                     omega
                   · exact w3 q3)
                | (refine q1 ?_
                   first
                   | exact Or.inl ⟨hS.mp (by omega), by omega⟩
                   | exact Or.inr ⟨fun z => (hS.mpr z) (by omega), by omega⟩)
          · have hb108 : ¬ (((upd th2 i.toNatClampNeg gz) i.toNatClampNeg).toInt < 0) := hb108
            refine ex_iload cg_209 (ix := 63) (pc' := 113) rfl rfl rfl ?_
            refine ex_if cg_209 (ix := 64) (t := 124) (pc' := 116) rfl rfl rfl (fun hb113 => ?_) (fun hb113 => ?_)
            · have hb113 : (Int32.ofInt 1).toInt = 0 := hb113
              exfalso; first | omega | exact absurd hb113 (by decide +kernel)
            · have hb113 : ¬ ((Int32.ofInt 1).toInt = 0) := hb113
              refine ex_iload cg_209 (ix := 65) (pc' := 118) rfl rfl rfl ?_
              refine ex_iconst cg_209 (ix := 66) (pc' := 119) rfl rfl ?_
              refine ex_icmp cg_209 (ix := 67) (t := 124) (pc' := 122) rfl rfl rfl (fun hb119 => ?_) (fun hb119 => ?_)
              · have hb119 : (w - w / (Int32.ofInt 5) * (Int32.ofInt 5)).toInt = (Int32.ofInt 4).toInt := hb119
                refine ex_aload_n cg_209 (ix := 70) (pc' := 125) rfl rfl rfl ?_
                refine ex_getfield cg_209 (ix := 71) (pc' := 128) (v := .inr (.inl 134)) rfl rfl rfl rfl rfl ?_
                refine ex_iload cg_209 (ix := 72) (pc' := 130) rfl rfl rfl ?_
                refine ex_dup2 cg_209 (ix := 73) (pc' := 131) rfl rfl rfl rfl ?_
                refine ex_iaload cg_209 (ix := 74) (pc' := 132) rfl rfl (by omega) (by omega) rfl ?_
                refine ex_iconst cg_209 (ix := 75) (pc' := 133) rfl rfl ?_
                refine ex_iadd cg_209 (ix := 76) (pc' := 134) rfl rfl ?_
                refine ex_iastore cg_209 (ix := 77) (pc' := 135) (h' := [(119, .inl (11, vs_119 mi ml)), (120, .inr (.inl (0, 4, mm))), (124, .inr (.inl (0, 64, mh))), (131, .inr (.inl (0, 4, fo4))), (132, .inr (.inl (0, 4, upd th2 i.toNatClampNeg gz))), (134, .inr (.inl (0, 5, upd ab2 (w - w / (Int32.ofInt 5) * (Int32.ofInt 5)).toNatClampNeg ((ab2 (w - w / (Int32.ofInt 5) * (Int32.ofInt 5)).toNatClampNeg) + (Int32.ofInt 1)))))]) rfl rfl (by omega) (by omega) rfl rfl ?_
                refine ex_iinc cg_209 (ix := 78) (pc' := 138) (L' := [some (.inr (.inl 119)), some (.inl (.int x)), some (.inl (.int y)), some (.inl (.int (w / (Int32.ofInt 5)))), some (.inl (.int (i + Int32.ofInt (-1)))), some (.inl (.int (w - w / (Int32.ofInt 5) * (Int32.ofInt 5)))), some (.inl (.int (Int32.ofInt 1)))]) rfl rfl rfl rfl rfl ?_
                refine ex_goto cg_209 (ix := 79) (pc' := 25) rfl rfl ?_
                rw [hup] at hb108
                refine ih _ (by rw [cx_addc (by omega) (by omega)]; omega) (by omega) _ _ _ _ _ hw1 (fun v hv => ?_) (fun v hv => ?_) (fun j h1 h2 => ?_)
                · rw [hik]
                  unfold upd
                  split
                  · omega
                  · exact hth v hv
                · rw [cx_clamp hw5]
                  unfold upd
                  rw [show 4 - lN = (4 - (lN + 1)) + 1 by omega, cntD, show 3 - (4 - (lN + 1)) = lN by omega]
                  have hcb := cntD_b (t := dgK K) (v := dgK K lN) (m := 4 - (lN + 1))
                  by_cases e : v = dgK K lN
                  · rw [if_pos e, if_pos e.symm, cx_addc (by rw [hab _ (by omega)]; omega) (by rw [hab _ (by omega)]; omega), hab _ (by omega), e]
                    omega
                  · rw [if_neg e, if_neg (fun z => e z.symm), hab v hv]
                    omega
                · by_cases e : j = lN
                  · rw [e, hik]
                    unfold upd
                    rw [if_pos rfl]
                    refine ⟨?_, ?_⟩
                    · rcases hg0 with ⟨q1, q2, q3⟩ | ⟨q1, q2, q3⟩
                      · rcases q3 with q3 | ⟨q3, q4⟩
                        · exact Or.inl q3
                        · refine Or.inr ⟨fun z => ?_, q3, q4⟩
                          rcases z with ⟨z1, z2⟩ | ⟨z1, z2⟩
                          · have z3 := hS.mpr z1
                            omega
                          · have z3 : (mi 21).toInt = 0 := Classical.byContradiction (fun w => z1 (hS.mp w))
                            omega
                      · exfalso
                        omega
                    · rcases hg0 with ⟨q1, q2, q3⟩ | ⟨q1, q2, q3⟩
                      · exact q2
                      · exfalso
                        omega
                  · rw [hik]
                    unfold upd
                    rw [if_neg e]; exact hok j (by omega) h2
              · have hb119 : ¬ ((w - w / (Int32.ofInt 5) * (Int32.ofInt 5)).toInt = (Int32.ofInt 4).toInt) := hb119
                refine ex_iconst cg_209 (ix := 68) (pc' := 123) rfl rfl ?_
                refine ex_ireturn cg_209 (ix := 69) rfl ?_
                rw [hup] at hb108
                refine hP _ _ ab2 ⟨fun v hv => ?_, fun v hv => ?_, Or.inl ⟨kcm1, fun hall => ?_⟩⟩
                · rw [hik]
                  unfold upd
                  split
                  · omega
                  · exact hth v hv
                · rw [hab v hv]
                  have := cntD_b (t := dgK K) (v := v) (m := 4 - (lN + 1))
                  omega
                · rcases hall lN (by omega) with q | ⟨q1, q2, q3⟩
                  · rcases hg0 with ⟨w1, w2, w3⟩ | ⟨w1, w2, w3⟩ <;> omega
                  · first
                    | (rcases hg0 with ⟨w1, w2, w3⟩ | ⟨w1, w2, w3⟩
                       · exfalso
                         omega
                       · exact w3 q3)
                    | (refine q1 ?_
                       first
                       | exact Or.inl ⟨hS.mp (by omega), by omega⟩
                       | exact Or.inr ⟨fun z => (hS.mpr z) (by omega), by omega⟩)
      · have hb63 : ¬ ((mi 21).toInt = 0) := hb63
        refine ex_iload cg_209 (ix := 40) (pc' := 68) rfl rfl rfl ?_
        refine ex_iconst cg_209 (ix := 41) (pc' := 69) rfl rfl ?_
        refine ex_aload_n cg_209 (ix := 42) (pc' := 70) rfl rfl rfl ?_
        refine ex_getfield cg_209 (ix := 43) (pc' := 73) (v := .inl (.int (mi 8))) rfl rfl rfl rfl rfl ?_
        refine ex_isub cg_209 (ix := 44) (pc' := 74) rfl rfl ?_
        refine ex_icmp cg_209 (ix := 45) (t := 81) (pc' := 77) rfl rfl rfl (fun hb74 => ?_) (fun hb74 => ?_)
        · have hb74 : ((Int32.ofInt 4) - (mi 8)).toInt ≤ i.toInt := hb74
          refine ex_iconst cg_209 (ix := 48) (pc' := 82) rfl rfl ?_
          refine ex_goto cg_209 (ix := 49) (pc' := 99) rfl rfl ?_
          refine ex_istore cg_209 (ix := 57) (pc' := 101) (L' := [some (.inr (.inl 119)), some (.inl (.int x)), some (.inl (.int y)), some (.inl (.int (w / (Int32.ofInt 5)))), some (.inl (.int i)), some (.inl (.int (w - w / (Int32.ofInt 5) * (Int32.ofInt 5)))), some (.inl (.int (Int32.ofInt 0)))]) rfl rfl rfl rfl ?_
          refine ex_aload_n cg_209 (ix := 58) (pc' := 102) rfl rfl rfl ?_
          refine ex_getfield cg_209 (ix := 59) (pc' := 105) (v := .inr (.inl 132)) rfl rfl rfl rfl rfl ?_
          refine ex_iload cg_209 (ix := 60) (pc' := 107) rfl rfl rfl ?_
          refine ex_iaload cg_209 (ix := 61) (pc' := 108) rfl rfl (by omega) (by omega) rfl ?_
          refine ex_if cg_209 (ix := 62) (t := 122) (pc' := 111) rfl rfl rfl (fun hb108 => ?_) (fun hb108 => ?_)
          · have hb108 : ((upd th2 i.toNatClampNeg gz) i.toNatClampNeg).toInt < 0 := hb108
            refine ex_iconst cg_209 (ix := 68) (pc' := 123) rfl rfl ?_
            refine ex_ireturn cg_209 (ix := 69) rfl ?_
            rw [hup] at hb108
            refine hP _ _ ab2 ⟨fun v hv => ?_, fun v hv => ?_, Or.inl ⟨kcm1, fun hall => ?_⟩⟩
            · rw [hik]
              unfold upd
              split
              · omega
              · exact hth v hv
            · rw [hab v hv]
              have := cntD_b (t := dgK K) (v := v) (m := 4 - (lN + 1))
              omega
            · rcases hall lN (by omega) with q | ⟨q1, q2, q3⟩
              · rcases hg0 with ⟨w1, w2, w3⟩ | ⟨w1, w2, w3⟩ <;> omega
              · first
                | (rcases hg0 with ⟨w1, w2, w3⟩ | ⟨w1, w2, w3⟩
                   · exfalso
                     omega
                   · exact w3 q3)
                | (refine q1 ?_
                   first
                   | exact Or.inl ⟨hS.mp (by omega), by omega⟩
                   | exact Or.inr ⟨fun z => (hS.mpr z) (by omega), by omega⟩)
          · have hb108 : ¬ (((upd th2 i.toNatClampNeg gz) i.toNatClampNeg).toInt < 0) := hb108
            refine ex_iload cg_209 (ix := 63) (pc' := 113) rfl rfl rfl ?_
            refine ex_if cg_209 (ix := 64) (t := 124) (pc' := 116) rfl rfl rfl (fun hb113 => ?_) (fun hb113 => ?_)
            · have hb113 : (Int32.ofInt 0).toInt = 0 := hb113
              refine ex_aload_n cg_209 (ix := 70) (pc' := 125) rfl rfl rfl ?_
              refine ex_getfield cg_209 (ix := 71) (pc' := 128) (v := .inr (.inl 134)) rfl rfl rfl rfl rfl ?_
              refine ex_iload cg_209 (ix := 72) (pc' := 130) rfl rfl rfl ?_
              refine ex_dup2 cg_209 (ix := 73) (pc' := 131) rfl rfl rfl rfl ?_
              refine ex_iaload cg_209 (ix := 74) (pc' := 132) rfl rfl (by omega) (by omega) rfl ?_
              refine ex_iconst cg_209 (ix := 75) (pc' := 133) rfl rfl ?_
              refine ex_iadd cg_209 (ix := 76) (pc' := 134) rfl rfl ?_
              refine ex_iastore cg_209 (ix := 77) (pc' := 135) (h' := [(119, .inl (11, vs_119 mi ml)), (120, .inr (.inl (0, 4, mm))), (124, .inr (.inl (0, 64, mh))), (131, .inr (.inl (0, 4, fo4))), (132, .inr (.inl (0, 4, upd th2 i.toNatClampNeg gz))), (134, .inr (.inl (0, 5, upd ab2 (w - w / (Int32.ofInt 5) * (Int32.ofInt 5)).toNatClampNeg ((ab2 (w - w / (Int32.ofInt 5) * (Int32.ofInt 5)).toNatClampNeg) + (Int32.ofInt 1)))))]) rfl rfl (by omega) (by omega) rfl rfl ?_
              refine ex_iinc cg_209 (ix := 78) (pc' := 138) (L' := [some (.inr (.inl 119)), some (.inl (.int x)), some (.inl (.int y)), some (.inl (.int (w / (Int32.ofInt 5)))), some (.inl (.int (i + Int32.ofInt (-1)))), some (.inl (.int (w - w / (Int32.ofInt 5) * (Int32.ofInt 5)))), some (.inl (.int (Int32.ofInt 0)))]) rfl rfl rfl rfl rfl ?_
              refine ex_goto cg_209 (ix := 79) (pc' := 25) rfl rfl ?_
              rw [hup] at hb108
              refine ih _ (by rw [cx_addc (by omega) (by omega)]; omega) (by omega) _ _ _ _ _ hw1 (fun v hv => ?_) (fun v hv => ?_) (fun j h1 h2 => ?_)
              · rw [hik]
                unfold upd
                split
                · omega
                · exact hth v hv
              · rw [cx_clamp hw5]
                unfold upd
                rw [show 4 - lN = (4 - (lN + 1)) + 1 by omega, cntD, show 3 - (4 - (lN + 1)) = lN by omega]
                have hcb := cntD_b (t := dgK K) (v := dgK K lN) (m := 4 - (lN + 1))
                by_cases e : v = dgK K lN
                · rw [if_pos e, if_pos e.symm, cx_addc (by rw [hab _ (by omega)]; omega) (by rw [hab _ (by omega)]; omega), hab _ (by omega), e]
                  omega
                · rw [if_neg e, if_neg (fun z => e z.symm), hab v hv]
                  omega
              · by_cases e : j = lN
                · rw [e, hik]
                  unfold upd
                  rw [if_pos rfl]
                  refine ⟨?_, ?_⟩
                  · rcases hg0 with ⟨q1, q2, q3⟩ | ⟨q1, q2, q3⟩
                    · rcases q3 with q3 | ⟨q3, q4⟩
                      · exact Or.inl q3
                      · refine Or.inr ⟨fun z => ?_, q3, q4⟩
                        rcases z with ⟨z1, z2⟩ | ⟨z1, z2⟩
                        · have z3 := hS.mpr z1
                          omega
                        · have z3 : (mi 21).toInt = 0 := Classical.byContradiction (fun w => z1 (hS.mp w))
                          omega
                    · exfalso
                      omega
                  · rcases hg0 with ⟨q1, q2, q3⟩ | ⟨q1, q2, q3⟩
                    · exact q2
                    · exfalso
                      omega
                · rw [hik]
                  unfold upd
                  rw [if_neg e]; exact hok j (by omega) h2
            · have hb113 : ¬ ((Int32.ofInt 0).toInt = 0) := hb113
              exfalso; first | omega | exact absurd hb113 (by decide +kernel)
        · have hb74 : ¬ (((Int32.ofInt 4) - (mi 8)).toInt ≤ i.toInt) := hb74
          refine ex_iconst cg_209 (ix := 46) (pc' := 78) rfl rfl ?_
          refine ex_goto cg_209 (ix := 47) (pc' := 99) rfl rfl ?_
          refine ex_istore cg_209 (ix := 57) (pc' := 101) (L' := [some (.inr (.inl 119)), some (.inl (.int x)), some (.inl (.int y)), some (.inl (.int (w / (Int32.ofInt 5)))), some (.inl (.int i)), some (.inl (.int (w - w / (Int32.ofInt 5) * (Int32.ofInt 5)))), some (.inl (.int (Int32.ofInt 1)))]) rfl rfl rfl rfl ?_
          refine ex_aload_n cg_209 (ix := 58) (pc' := 102) rfl rfl rfl ?_
          refine ex_getfield cg_209 (ix := 59) (pc' := 105) (v := .inr (.inl 132)) rfl rfl rfl rfl rfl ?_
          refine ex_iload cg_209 (ix := 60) (pc' := 107) rfl rfl rfl ?_
          refine ex_iaload cg_209 (ix := 61) (pc' := 108) rfl rfl (by omega) (by omega) rfl ?_
          refine ex_if cg_209 (ix := 62) (t := 122) (pc' := 111) rfl rfl rfl (fun hb108 => ?_) (fun hb108 => ?_)
          · have hb108 : ((upd th2 i.toNatClampNeg gz) i.toNatClampNeg).toInt < 0 := hb108
            refine ex_iconst cg_209 (ix := 68) (pc' := 123) rfl rfl ?_
            refine ex_ireturn cg_209 (ix := 69) rfl ?_
            rw [hup] at hb108
            refine hP _ _ ab2 ⟨fun v hv => ?_, fun v hv => ?_, Or.inl ⟨kcm1, fun hall => ?_⟩⟩
            · rw [hik]
              unfold upd
              split
              · omega
              · exact hth v hv
            · rw [hab v hv]
              have := cntD_b (t := dgK K) (v := v) (m := 4 - (lN + 1))
              omega
            · rcases hall lN (by omega) with q | ⟨q1, q2, q3⟩
              · rcases hg0 with ⟨w1, w2, w3⟩ | ⟨w1, w2, w3⟩ <;> omega
              · first
                | (rcases hg0 with ⟨w1, w2, w3⟩ | ⟨w1, w2, w3⟩
                   · exfalso
                     omega
                   · exact w3 q3)
                | (refine q1 ?_
                   first
                   | exact Or.inl ⟨hS.mp (by omega), by omega⟩
                   | exact Or.inr ⟨fun z => (hS.mpr z) (by omega), by omega⟩)
          · have hb108 : ¬ (((upd th2 i.toNatClampNeg gz) i.toNatClampNeg).toInt < 0) := hb108
            refine ex_iload cg_209 (ix := 63) (pc' := 113) rfl rfl rfl ?_
            refine ex_if cg_209 (ix := 64) (t := 124) (pc' := 116) rfl rfl rfl (fun hb113 => ?_) (fun hb113 => ?_)
            · have hb113 : (Int32.ofInt 1).toInt = 0 := hb113
              exfalso; first | omega | exact absurd hb113 (by decide +kernel)
            · have hb113 : ¬ ((Int32.ofInt 1).toInt = 0) := hb113
              refine ex_iload cg_209 (ix := 65) (pc' := 118) rfl rfl rfl ?_
              refine ex_iconst cg_209 (ix := 66) (pc' := 119) rfl rfl ?_
              refine ex_icmp cg_209 (ix := 67) (t := 124) (pc' := 122) rfl rfl rfl (fun hb119 => ?_) (fun hb119 => ?_)
              · have hb119 : (w - w / (Int32.ofInt 5) * (Int32.ofInt 5)).toInt = (Int32.ofInt 4).toInt := hb119
                refine ex_aload_n cg_209 (ix := 70) (pc' := 125) rfl rfl rfl ?_
                refine ex_getfield cg_209 (ix := 71) (pc' := 128) (v := .inr (.inl 134)) rfl rfl rfl rfl rfl ?_
                refine ex_iload cg_209 (ix := 72) (pc' := 130) rfl rfl rfl ?_
                refine ex_dup2 cg_209 (ix := 73) (pc' := 131) rfl rfl rfl rfl ?_
                refine ex_iaload cg_209 (ix := 74) (pc' := 132) rfl rfl (by omega) (by omega) rfl ?_
                refine ex_iconst cg_209 (ix := 75) (pc' := 133) rfl rfl ?_
                refine ex_iadd cg_209 (ix := 76) (pc' := 134) rfl rfl ?_
                refine ex_iastore cg_209 (ix := 77) (pc' := 135) (h' := [(119, .inl (11, vs_119 mi ml)), (120, .inr (.inl (0, 4, mm))), (124, .inr (.inl (0, 64, mh))), (131, .inr (.inl (0, 4, fo4))), (132, .inr (.inl (0, 4, upd th2 i.toNatClampNeg gz))), (134, .inr (.inl (0, 5, upd ab2 (w - w / (Int32.ofInt 5) * (Int32.ofInt 5)).toNatClampNeg ((ab2 (w - w / (Int32.ofInt 5) * (Int32.ofInt 5)).toNatClampNeg) + (Int32.ofInt 1)))))]) rfl rfl (by omega) (by omega) rfl rfl ?_
                refine ex_iinc cg_209 (ix := 78) (pc' := 138) (L' := [some (.inr (.inl 119)), some (.inl (.int x)), some (.inl (.int y)), some (.inl (.int (w / (Int32.ofInt 5)))), some (.inl (.int (i + Int32.ofInt (-1)))), some (.inl (.int (w - w / (Int32.ofInt 5) * (Int32.ofInt 5)))), some (.inl (.int (Int32.ofInt 1)))]) rfl rfl rfl rfl rfl ?_
                refine ex_goto cg_209 (ix := 79) (pc' := 25) rfl rfl ?_
                rw [hup] at hb108
                refine ih _ (by rw [cx_addc (by omega) (by omega)]; omega) (by omega) _ _ _ _ _ hw1 (fun v hv => ?_) (fun v hv => ?_) (fun j h1 h2 => ?_)
                · rw [hik]
                  unfold upd
                  split
                  · omega
                  · exact hth v hv
                · rw [cx_clamp hw5]
                  unfold upd
                  rw [show 4 - lN = (4 - (lN + 1)) + 1 by omega, cntD, show 3 - (4 - (lN + 1)) = lN by omega]
                  have hcb := cntD_b (t := dgK K) (v := dgK K lN) (m := 4 - (lN + 1))
                  by_cases e : v = dgK K lN
                  · rw [if_pos e, if_pos e.symm, cx_addc (by rw [hab _ (by omega)]; omega) (by rw [hab _ (by omega)]; omega), hab _ (by omega), e]
                    omega
                  · rw [if_neg e, if_neg (fun z => e z.symm), hab v hv]
                    omega
                · by_cases e : j = lN
                  · rw [e, hik]
                    unfold upd
                    rw [if_pos rfl]
                    refine ⟨?_, ?_⟩
                    · rcases hg0 with ⟨q1, q2, q3⟩ | ⟨q1, q2, q3⟩
                      · rcases q3 with q3 | ⟨q3, q4⟩
                        · exact Or.inl q3
                        · refine Or.inr ⟨fun z => ?_, q3, q4⟩
                          rcases z with ⟨z1, z2⟩ | ⟨z1, z2⟩
                          · have z3 := hS.mpr z1
                            omega
                          · have z3 : (mi 21).toInt = 0 := Classical.byContradiction (fun w => z1 (hS.mp w))
                            omega
                      · exfalso
                        omega
                    · rcases hg0 with ⟨q1, q2, q3⟩ | ⟨q1, q2, q3⟩
                      · exact q2
                      · exfalso
                        omega
                  · rw [hik]
                    unfold upd
                    rw [if_neg e]; exact hok j (by omega) h2
              · have hb119 : ¬ ((w - w / (Int32.ofInt 5) * (Int32.ofInt 5)).toInt = (Int32.ofInt 4).toInt) := hb119
                refine ex_iconst cg_209 (ix := 68) (pc' := 123) rfl rfl ?_
                refine ex_ireturn cg_209 (ix := 69) rfl ?_
                rw [hup] at hb108
                refine hP _ _ ab2 ⟨fun v hv => ?_, fun v hv => ?_, Or.inl ⟨kcm1, fun hall => ?_⟩⟩
                · rw [hik]
                  unfold upd
                  split
                  · omega
                  · exact hth v hv
                · rw [hab v hv]
                  have := cntD_b (t := dgK K) (v := v) (m := 4 - (lN + 1))
                  omega
                · rcases hall lN (by omega) with q | ⟨q1, q2, q3⟩
                  · rcases hg0 with ⟨w1, w2, w3⟩ | ⟨w1, w2, w3⟩ <;> omega
                  · first
                    | (rcases hg0 with ⟨w1, w2, w3⟩ | ⟨w1, w2, w3⟩
                       · exfalso
                         omega
                       · exact w3 q3)
                    | (refine q1 ?_
                       first
                       | exact Or.inl ⟨hS.mp (by omega), by omega⟩
                       | exact Or.inr ⟨fun z => (hS.mpr z) (by omega), by omega⟩)
theorem ct_rb {mi : Nat → Int32} {ml : Nat → Int64} {mm mh fo4 th4 ab : Nat → Int32} {hd : Nat → Nat → Int32} {x y : Int32} {K hN gN : Nat} {S : Prop} {d : Nat → Nat} (hmm : ∀ b : Nat, b < 4 → 0 ≤ (mm b).toInt ∧ (mm b).toInt ≤ 40) (hmh : ∀ b : Nat, b < 4 → (mh (16 * b + hN)).toInt = (hd b hN).toInt) (hhd : hdH hd) (hfo : ∀ i : Nat, i < 4 → (fo4 i).toInt = ((d i : Nat) : Int)) (hd9 : ∀ i : Nat, d i < 9) (hx : x.toInt = (K : Int)) (hK : K < 625) (hy : y.toInt = (hN : Int)) (hh : hN < 16) (hg : (mi 8).toInt = (gN : Int)) (hg4 : gN ≤ 4) (hS : ¬ (mi 21).toInt = 0 ↔ S) (hthU : thU th4) : cx_Ct 4 209 [.inr (.inl 119), .inl (.int x), .inl (.int y)] ([(119, .inl (11, vs_119 mi ml)), (120, .inr (.inl (0, 4, mm))), (124, .inr (.inl (0, 64, mh))), (131, .inr (.inl (0, 4, fo4))), (132, .inr (.inl (0, 4, th4))), (134, .inr (.inl (0, 5, ab)))]) (fun v h2 => ∃ (z : Int32) (th2 ab2 : Nat → Int32), v = some (.inl (.int z)) ∧ h2 = [(119, .inl (11, vs_119 mi ml)), (120, .inr (.inl (0, 4, mm))), (124, .inr (.inl (0, 64, mh))), (131, .inr (.inl (0, 4, fo4))), (132, .inr (.inl (0, 4, th2))), (134, .inr (.inl (0, 5, ab2)))] ∧ (thU th2 ∧ abU ab2 ∧ ((z.toInt = -1 ∧ ¬ ∀ i : Nat, i < 4 → okG (nbF mm) S gN d (dgK K) i) ∨ ((∀ i : Nat, i < 4 → okG (nbF mm) S gN d (dgK K) i) ∧ z.toInt = ((rkH hd hN (cntV (dgK K) 4) : Nat) : Int) ∧ ∀ i : Nat, i < 4 → (th2 i).toInt = ((nxs (d i) (dgK K i) : Nat) : Int))))) := by
  have kcm1 : (Int32.ofInt (-1)).toInt = -1 := by decide +kernel
  have kc0 : (Int32.ofInt 0).toInt = 0 := by decide +kernel
  have kc1 : (Int32.ofInt 1).toInt = 1 := by decide +kernel
  have kc2 : (Int32.ofInt 2).toInt = 2 := by decide +kernel
  have kc3 : (Int32.ofInt 3).toInt = 3 := by decide +kernel
  have kc4 : (Int32.ofInt 4).toInt = 4 := by decide +kernel
  have kc5 : (Int32.ofInt 5).toInt = 5 := by decide +kernel
  refine cx_Ct.of cg_209 (nL := 7) rfl rfl rfl ?_
  show cx_T 4 209 [119, 120, 124, 131, 132, 134] 0 ([some (.inr (.inl 119)), some (.inl (.int x)), some (.inl (.int y)), none, none, none, none], [], ([(119, .inl (11, vs_119 mi ml)), (120, .inr (.inl (0, 4, mm))), (124, .inr (.inl (0, 64, mh))), (131, .inr (.inl (0, 4, fo4))), (132, .inr (.inl (0, 4, th4))), (134, .inr (.inl (0, 5, ab)))])) _
  refine ex_iconst cg_209 (ix := 0) (pc' := 1) rfl rfl ?_
  refine ex_istore_n cg_209 (ix := 1) (pc' := 2) (L' := [some (.inr (.inl 119)), some (.inl (.int x)), some (.inl (.int y)), some (.inl (.int (Int32.ofInt 0))), none, none, none]) rfl rfl rfl rfl ?_
  refine rz_loop (mi := mi) (ml := ml) (mm := mm) (mh := mh) (fo4 := fo4) (th4 := th4) (x := x) (y := y) (P := fun v h2 => ∃ (z : Int32) (th2 ab2 : Nat → Int32), v = some (.inl (.int z)) ∧ h2 = [(119, .inl (11, vs_119 mi ml)), (120, .inr (.inl (0, 4, mm))), (124, .inr (.inl (0, 64, mh))), (131, .inr (.inl (0, 4, fo4))), (132, .inr (.inl (0, 4, th2))), (134, .inr (.inl (0, 5, ab2)))] ∧ (thU th2 ∧ abU ab2 ∧ ((z.toInt = -1 ∧ ¬ ∀ i : Nat, i < 4 → okG (nbF mm) S gN d (dgK K) i) ∨ ((∀ i : Nat, i < 4 → okG (nbF mm) S gN d (dgK K) i) ∧ z.toInt = ((rkH hd hN (cntV (dgK K) 4) : Nat) : Int) ∧ ∀ i : Nat, i < 4 → (th2 i).toInt = ((nxs (d i) (dgK K i) : Nat) : Int))))) (fun ab2 i A B C hab => ?_) 5 0 (by omega) (Int32.ofInt 0) (by decide +kernel) ab none none none (fun v hv => absurd hv (Nat.not_lt_zero v))
  refine ex_iload_n cg_209 (ix := 12) (pc' := 21) rfl rfl rfl ?_
  refine ex_istore_n cg_209 (ix := 13) (pc' := 22) (L' := [some (.inr (.inl 119)), some (.inl (.int x)), some (.inl (.int y)), some (.inl (.int x)), A, B, C]) rfl rfl rfl rfl ?_
  refine ex_iconst cg_209 (ix := 14) (pc' := 23) rfl rfl ?_
  refine ex_istore cg_209 (ix := 15) (pc' := 25) (L' := [some (.inr (.inl 119)), some (.inl (.int x)), some (.inl (.int y)), some (.inl (.int x)), some (.inl (.int (Int32.ofInt 3))), B, C]) rfl rfl rfl rfl ?_
  exact rb_loop (mi := mi) (ml := ml) (mm := mm) (mh := mh) (fo4 := fo4) (hd := hd) (x := x) (y := y) (K := K) (hN := hN) (gN := gN) (S := S) (d := d) hmm hmh hhd hfo hd9 hx hK hy hh hg hg4 hS (P := fun v h2 => ∃ (z : Int32) (th2 ab2 : Nat → Int32), v = some (.inl (.int z)) ∧ h2 = [(119, .inl (11, vs_119 mi ml)), (120, .inr (.inl (0, 4, mm))), (124, .inr (.inl (0, 64, mh))), (131, .inr (.inl (0, 4, fo4))), (132, .inr (.inl (0, 4, th2))), (134, .inr (.inl (0, 5, ab2)))] ∧ (thU th2 ∧ abU ab2 ∧ ((z.toInt = -1 ∧ ¬ ∀ i : Nat, i < 4 → okG (nbF mm) S gN d (dgK K) i) ∨ ((∀ i : Nat, i < 4 → okG (nbF mm) S gN d (dgK K) i) ∧ z.toInt = ((rkH hd hN (cntV (dgK K) 4) : Nat) : Int) ∧ ∀ i : Nat, i < 4 → (th2 i).toInt = ((nxs (d i) (dgK K i) : Nat) : Int))))) (fun z th2 ab2 h1 => ⟨z, th2, ab2, rfl, rfl, h1⟩) 4 _ (by decide +kernel) (Nat.le_refl _) x th4 ab2 B C (by rw [show 5 ^ (4 - 4) = 1 from rfl, Nat.div_one]; exact hx) hthU (fun v hv => by rw [hab v hv]; rfl) (fun j h1 h2 => absurd h2 (by omega))
end
