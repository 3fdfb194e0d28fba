noncomputable section
theorem cg_136 : cx_G 136 tb_136 TbX10 (some .int) := cx_G.of gok_136
theorem cg_93 : cx_G 93 tb_93 TbX8 (some .int) := cx_G.of gok_93
theorem ct_fpo {g fk pf pt pr : Int32} : cx_Ct 2 43 [.inr (.inl 43)] ([(43, .inl (4, [.inr (.inl 2), .inr (.inl 44), .inr (.inl 45), .inr (.inl 46), .inr (.inl 47), .inr (.inl 48), .inr (.inl 49), .inr (.inl 50), .inr (.inl 57), .inr (.inl 58), .inr (.inl 66), .inr (.inl 67), .inl (.int g), .inl (.int fk), .inl (.int pf), .inl (.int pt), .inl (.int pr)]))]) (fun v h2 => v = none ∧ h2 = [(43, .inl (4, [.inr (.inl 2), .inr (.inl 44), .inr (.inl 45), .inr (.inl 46), .inr (.inl 47), .inr (.inl 48), .inr (.inl 49), .inr (.inl 50), .inr (.inl 57), .inr (.inl 58), .inr (.inl 66), .inr (.inl 67), .inl (.int g), .inl (.int fk), .inl (.int (Int32.ofInt (-9))), .inl (.int pt), .inl (.int pr)]))]) := by
  have kcm9 : (Int32.ofInt (-9)).toInt = -9 := by decide +kernel
  refine cx_Ct.of cg_43 (nL := 1) rfl rfl rfl ?_
  show cx_T 2 43 [43] 0 ([some (.inr (.inl 43))], [], ([(43, .inl (4, [.inr (.inl 2), .inr (.inl 44), .inr (.inl 45), .inr (.inl 46), .inr (.inl 47), .inr (.inl 48), .inr (.inl 49), .inr (.inl 50), .inr (.inl 57), .inr (.inl 58), .inr (.inl 66), .inr (.inl 67), .inl (.int g), .inl (.int fk), .inl (.int pf), .inl (.int pt), .inl (.int pr)]))])) _
  refine ex_aload_n cg_43 (ix := 0) (pc' := 1) rfl rfl rfl ?_
  refine ex_bipush cg_43 (ix := 1) (pc' := 3) rfl rfl rfl ?_
  refine ex_putfield cg_43 (ix := 2) (pc' := 6) (h' := [(43, .inl (4, [.inr (.inl 2), .inr (.inl 44), .inr (.inl 45), .inr (.inl 46), .inr (.inl 47), .inr (.inl 48), .inr (.inl 49), .inr (.inl 50), .inr (.inl 57), .inr (.inl 58), .inr (.inl 66), .inr (.inl 67), .inl (.int g), .inl (.int fk), .inl (.int (Int32.ofInt (-9))), .inl (.int pt), .inl (.int pr)]))]) rfl rfl rfl rfl rfl rfl rfl rfl ?_
  refine ex_return_ cg_43 (ix := 3) rfl ?_
  exact ⟨rfl, rfl⟩
theorem ct_pm {g fk pf pt pr : Int32} {mi : Nat → Int32} {x v : Int32} (hx : 0 ≤ x.toInt ∧ x.toInt < 4) : cx_Ct 3 42 [.inr (.inl 43), .inl (.int x), .inl (.int v)] ([(43, .inl (4, [.inr (.inl 2), .inr (.inl 44), .inr (.inl 45), .inr (.inl 46), .inr (.inl 47), .inr (.inl 48), .inr (.inl 49), .inr (.inl 50), .inr (.inl 57), .inr (.inl 58), .inr (.inl 66), .inr (.inl 67), .inl (.int g), .inl (.int fk), .inl (.int pf), .inl (.int pt), .inl (.int pr)])), (44, .inr (.inl (0, 4, mi)))]) (fun w h2 => w = some (.inl (.int (mi x.toNatClampNeg))) ∧ h2 = [(43, .inl (4, [.inr (.inl 2), .inr (.inl 44), .inr (.inl 45), .inr (.inl 46), .inr (.inl 47), .inr (.inl 48), .inr (.inl 49), .inr (.inl 50), .inr (.inl 57), .inr (.inl 58), .inr (.inl 66), .inr (.inl 67), .inl (.int g), .inl (.int (Int32.ofInt 0)), .inl (.int (Int32.ofInt (-9))), .inl (.int pt), .inl (.int pr)])), (44, .inr (.inl (0, 4, (upd mi x.toNatClampNeg v))))]) := by
  have kc0 : (Int32.ofInt 0).toInt = 0 := by decide +kernel
  refine cx_Ct.of cg_42 (nL := 4) rfl rfl rfl ?_
  show cx_T 3 42 [43, 44] 0 ([some (.inr (.inl 43)), some (.inl (.int x)), some (.inl (.int v)), none], [], ([(43, .inl (4, [.inr (.inl 2), .inr (.inl 44), .inr (.inl 45), .inr (.inl 46), .inr (.inl 47), .inr (.inl 48), .inr (.inl 49), .inr (.inl 50), .inr (.inl 57), .inr (.inl 58), .inr (.inl 66), .inr (.inl 67), .inl (.int g), .inl (.int fk), .inl (.int pf), .inl (.int pt), .inl (.int pr)])), (44, .inr (.inl (0, 4, mi)))])) _
  refine ex_aload_n cg_42 (ix := 0) (pc' := 1) rfl rfl rfl ?_
  refine ex_getfield cg_42 (ix := 1) (pc' := 4) rfl rfl rfl rfl rfl ?_
  refine ex_iload_n cg_42 (ix := 2) (pc' := 5) rfl rfl rfl ?_
  refine ex_iaload cg_42 (ix := 3) (pc' := 6) rfl rfl (by omega) (by omega) rfl ?_
  refine ex_istore_n cg_42 (ix := 4) (pc' := 7) (L' := [some (.inr (.inl 43)), some (.inl (.int x)), some (.inl (.int v)), some (.inl (.int (mi x.toNatClampNeg)))]) rfl rfl rfl rfl ?_
  refine ex_aload_n cg_42 (ix := 5) (pc' := 8) rfl rfl rfl ?_
  refine ex_getfield cg_42 (ix := 6) (pc' := 11) rfl rfl rfl rfl rfl ?_
  refine ex_iload_n cg_42 (ix := 7) (pc' := 12) rfl rfl rfl ?_
  refine ex_iload_n cg_42 (ix := 8) (pc' := 13) rfl rfl rfl ?_
  refine ex_iastore cg_42 (ix := 9) (pc' := 14) (h' := [(43, .inl (4, [.inr (.inl 2), .inr (.inl 44), .inr (.inl 45), .inr (.inl 46), .inr (.inl 47), .inr (.inl 48), .inr (.inl 49), .inr (.inl 50), .inr (.inl 57), .inr (.inl 58), .inr (.inl 66), .inr (.inl 67), .inl (.int g), .inl (.int fk), .inl (.int pf), .inl (.int pt), .inl (.int pr)])), (44, .inr (.inl (0, 4, upd mi x.toNatClampNeg v)))]) rfl rfl (by omega) (by omega) rfl rfl ?_
  refine ex_aload_n cg_42 (ix := 10) (pc' := 15) rfl rfl rfl ?_
  refine ex_iconst cg_42 (ix := 11) (pc' := 16) rfl rfl ?_
  refine ex_putfield cg_42 (ix := 12) (pc' := 19) (h' := [(43, .inl (4, [.inr (.inl 2), .inr (.inl 44), .inr (.inl 45), .inr (.inl 46), .inr (.inl 47), .inr (.inl 48), .inr (.inl 49), .inr (.inl 50), .inr (.inl 57), .inr (.inl 58), .inr (.inl 66), .inr (.inl 67), .inl (.int g), .inl (.int (Int32.ofInt 0)), .inl (.int pf), .inl (.int pt), .inl (.int pr)])), (44, .inr (.inl (0, 4, upd mi x.toNatClampNeg v)))]) rfl rfl rfl rfl rfl rfl rfl rfl ?_
  refine ex_aload_n cg_42 (ix := 13) (pc' := 20) rfl rfl rfl ?_
  refine ex_callV cg_42 (ix := 14) (pc' := 23) (As := []) (r := []) rfl rfl rfl (ct_fpo (g := g) (fk := Int32.ofInt 0) (pf := pf) (pt := pt) (pr := pr)) (by first | decide | omega) rfl rfl rfl ⟨rfl, trivial⟩ rfl rfl (fun v h2 hq => ?_)
  obtain ⟨rfl, rfl⟩ := hq
  show cx_T _ 42 _ 23 ([some (.inr (.inl 43)), some (.inl (.int x)), some (.inl (.int v)), some (.inl (.int (mi x.toNatClampNeg)))], [], [(43, .inl (4, [.inr (.inl 2), .inr (.inl 44), .inr (.inl 45), .inr (.inl 46), .inr (.inl 47), .inr (.inl 48), .inr (.inl 49), .inr (.inl 50), .inr (.inl 57), .inr (.inl 58), .inr (.inl 66), .inr (.inl 67), .inl (.int g), .inl (.int (Int32.ofInt 0)), .inl (.int (Int32.ofInt (-9))), .inl (.int pt), .inl (.int pr)])), (44, .inr (.inl (0, 4, upd mi x.toNatClampNeg v)))]) _
  refine ex_iload_n cg_42 (ix := 15) (pc' := 24) rfl rfl rfl ?_
  refine ex_ireturn cg_42 (ix := 16) rfl ?_
  exact ⟨rfl, rfl⟩
theorem ct_pg {g fk pf pt pr : Int32} {n : Int32} : cx_Ct 3 41 [.inr (.inl 43), .inl (.int n)] ([(43, .inl (4, [.inr (.inl 2), .inr (.inl 44), .inr (.inl 45), .inr (.inl 46), .inr (.inl 47), .inr (.inl 48), .inr (.inl 49), .inr (.inl 50), .inr (.inl 57), .inr (.inl 58), .inr (.inl 66), .inr (.inl 67), .inl (.int g), .inl (.int fk), .inl (.int pf), .inl (.int pt), .inl (.int pr)]))]) (fun w h2 => w = some (.inl (.int g)) ∧ h2 = [(43, .inl (4, [.inr (.inl 2), .inr (.inl 44), .inr (.inl 45), .inr (.inl 46), .inr (.inl 47), .inr (.inl 48), .inr (.inl 49), .inr (.inl 50), .inr (.inl 57), .inr (.inl 58), .inr (.inl 66), .inr (.inl 67), .inl (.int n), .inl (.int fk), .inl (.int (Int32.ofInt (-9))), .inl (.int pt), .inl (.int pr)]))]) := by
  refine cx_Ct.of cg_41 (nL := 3) rfl rfl rfl ?_
  show cx_T 3 41 [43] 0 ([some (.inr (.inl 43)), some (.inl (.int n)), none], [], ([(43, .inl (4, [.inr (.inl 2), .inr (.inl 44), .inr (.inl 45), .inr (.inl 46), .inr (.inl 47), .inr (.inl 48), .inr (.inl 49), .inr (.inl 50), .inr (.inl 57), .inr (.inl 58), .inr (.inl 66), .inr (.inl 67), .inl (.int g), .inl (.int fk), .inl (.int pf), .inl (.int pt), .inl (.int pr)]))])) _
  refine ex_aload_n cg_41 (ix := 0) (pc' := 1) rfl rfl rfl ?_
  refine ex_getfield cg_41 (ix := 1) (pc' := 4) rfl rfl rfl rfl rfl ?_
  refine ex_istore_n cg_41 (ix := 2) (pc' := 5) (L' := [some (.inr (.inl 43)), some (.inl (.int n)), some (.inl (.int g))]) rfl rfl rfl rfl ?_
  refine ex_aload_n cg_41 (ix := 3) (pc' := 6) rfl rfl rfl ?_
  refine ex_iload_n cg_41 (ix := 4) (pc' := 7) rfl rfl rfl ?_
  refine ex_putfield cg_41 (ix := 5) (pc' := 10) (h' := [(43, .inl (4, [.inr (.inl 2), .inr (.inl 44), .inr (.inl 45), .inr (.inl 46), .inr (.inl 47), .inr (.inl 48), .inr (.inl 49), .inr (.inl 50), .inr (.inl 57), .inr (.inl 58), .inr (.inl 66), .inr (.inl 67), .inl (.int n), .inl (.int fk), .inl (.int pf), .inl (.int pt), .inl (.int pr)]))]) rfl rfl rfl rfl rfl rfl rfl rfl ?_
  refine ex_aload_n cg_41 (ix := 6) (pc' := 11) rfl rfl rfl ?_
  refine ex_callV cg_41 (ix := 7) (pc' := 14) (As := []) (r := []) rfl rfl rfl (ct_fpo (g := n) (fk := fk) (pf := pf) (pt := pt) (pr := pr)) (by first | decide | omega) rfl rfl rfl ⟨rfl, trivial⟩ rfl rfl (fun v h2 hq => ?_)
  obtain ⟨rfl, rfl⟩ := hq
  show cx_T _ 41 _ 14 ([some (.inr (.inl 43)), some (.inl (.int n)), some (.inl (.int g))], [], [(43, .inl (4, [.inr (.inl 2), .inr (.inl 44), .inr (.inl 45), .inr (.inl 46), .inr (.inl 47), .inr (.inl 48), .inr (.inl 49), .inr (.inl 50), .inr (.inl 57), .inr (.inl 58), .inr (.inl 66), .inr (.inl 67), .inl (.int n), .inl (.int fk), .inl (.int (Int32.ofInt (-9))), .inl (.int pt), .inl (.int pr)]))]) _
  refine ex_iload_n cg_41 (ix := 8) (pc' := 15) rfl rfl rfl ?_
  refine ex_ireturn cg_41 (ix := 9) rfl ?_
  exact ⟨rfl, rfl⟩
theorem hd_set {V : Nat → Nat → Int32} {i : Nat} {f : Nat → Int32} (hi : i < 4) : cx_hs (h_hd V) (6 + i) (.inr (.inl (0, 16, f))) = h_hd (up2 V i f) := by
  rcases (show i = 0 ∨ i = 1 ∨ i = 2 ∨ i = 3 by omega) with rfl | rfl | rfl | rfl <;> rfl
theorem ct_ph {hd : Nat → Nat → Int32} {x y v : Int32} (hx : 0 ≤ x.toInt ∧ x.toInt < 4) (hy : 0 ≤ y.toInt ∧ y.toInt < 16) : cx_Ct 3 93 [.inr (.inl 2), .inl (.int x), .inl (.int y), .inl (.int v)] (h_hd hd) (fun w h2 => w = some (.inl (.int (hd x.toNatClampNeg y.toNatClampNeg))) ∧ h2 = h_hd (up2 hd x.toNatClampNeg (upd (hd x.toNatClampNeg) y.toNatClampNeg v))) := by
  have hx2 := (ab_clamp (x := x) hx.1)
  have hxn : x.toNatClampNeg < 4 := by omega
  have hx2 : x.toInt = ((x.toNatClampNeg : Nat) : Int) := by omega
  refine cx_Ct.of cg_93 (nL := 5) rfl rfl rfl ?_
  show cx_T 3 93 [2, 5, 6, 7, 8, 9] 0 ([some (.inr (.inl 2)), some (.inl (.int x)), some (.inl (.int y)), some (.inl (.int v)), none], [], (h_hd hd)) _
  refine ex_aload_n cg_93 (ix := 0) (pc' := 1) rfl rfl rfl ?_
  refine ex_getfield cg_93 (ix := 1) (pc' := 4) rfl rfl rfl rfl rfl ?_
  refine ex_iload_n cg_93 (ix := 2) (pc' := 5) rfl rfl rfl ?_
  refine ex_aaload cg_93 (ix := 3) (pc' := 6) (k1 := (6 + x.toNatClampNeg)) rfl rfl (by omega) (hh_ix hxn hx2) rfl ?_
  refine ex_iload_n cg_93 (ix := 4) (pc' := 7) rfl rfl rfl ?_
  refine ex_iaload cg_93 (ix := 5) (pc' := 8) rfl (hd_get (V := hd) (by omega)) (by omega) (by omega) rfl ?_
  refine ex_istore cg_93 (ix := 6) (pc' := 10) (L' := [some (.inr (.inl 2)), some (.inl (.int x)), some (.inl (.int y)), some (.inl (.int v)), some (.inl (.int ((hd x.toNatClampNeg) y.toNatClampNeg)))]) rfl rfl rfl rfl ?_
  refine ex_aload_n cg_93 (ix := 7) (pc' := 11) rfl rfl rfl ?_
  refine ex_getfield cg_93 (ix := 8) (pc' := 14) rfl rfl rfl rfl rfl ?_
  refine ex_iload_n cg_93 (ix := 9) (pc' := 15) rfl rfl rfl ?_
  refine ex_aaload cg_93 (ix := 10) (pc' := 16) (k1 := (6 + x.toNatClampNeg)) rfl rfl (by omega) (hh_ix hxn hx2) rfl ?_
  refine ex_iload_n cg_93 (ix := 11) (pc' := 17) rfl rfl rfl ?_
  refine ex_iload_n cg_93 (ix := 12) (pc' := 18) rfl rfl rfl ?_
  refine ex_iastore cg_93 (ix := 13) (pc' := 19) (h' := [(2, .inl (8, [.inr (.inl 3), .inr (.inl 4), .inr (.inl 5), .inr (.inl 10)])), (5, .inr (.inr (.inr (3, [6, 7, 8, 9])))), (6, .inr (.inl (0, 16, (up2 hd x.toNatClampNeg (upd (hd x.toNatClampNeg) y.toNatClampNeg v)) 0))), (7, .inr (.inl (0, 16, (up2 hd x.toNatClampNeg (upd (hd x.toNatClampNeg) y.toNatClampNeg v)) 1))), (8, .inr (.inl (0, 16, (up2 hd x.toNatClampNeg (upd (hd x.toNatClampNeg) y.toNatClampNeg v)) 2))), (9, .inr (.inl (0, 16, (up2 hd x.toNatClampNeg (upd (hd x.toNatClampNeg) y.toNatClampNeg v)) 3)))]) rfl (hd_get (V := hd) (by omega)) (by omega) (by omega) (hd_set (V := hd) (by omega)) rfl ?_
  refine ex_iload cg_93 (ix := 14) (pc' := 21) rfl rfl rfl ?_
  refine ex_ireturn cg_93 (ix := 15) rfl ?_
  exact ⟨rfl, rfl⟩
def okM (x v : Int32) : Prop := (0 ≤ x.toInt ∧ x.toInt < 4) ∧ 0 ≤ v.toInt ∧ v.toInt ≤ 40
def okC (x y v : Int32) : Prop := (0 ≤ x.toInt ∧ x.toInt < 4) ∧ (0 ≤ y.toInt ∧ y.toInt < 16) ∧ 0 ≤ v.toInt ∧ v.toInt ≤ 999
def okU (n : Int32) : Prop := 0 ≤ n.toInt ∧ n.toInt ≤ 4
theorem ct_xmile {g fk pf pt pr : Int32} {dy : Int32} {r mi : Nat → Int32} {x v : Int32} : cx_Ct 5 128 [.inr (.inl 0), .inl (.int x), .inl (.int v)] ([(0, .inl (10, [.inr (.inl 1), .inr (.inl 2), .inr (.inl 15), .inr (.inl 21), .inr (.inl 43), .inr (.inl 68), .inr (.inl 77), .inr (.inl 87), .inr (.inl 101), .inr (.inl 107), .inr (.inl 113), .inl (.int dy)])), (1, .inr (.inl (0, 7, r))), (43, .inl (4, [.inr (.inl 2), .inr (.inl 44), .inr (.inl 45), .inr (.inl 46), .inr (.inl 47), .inr (.inl 48), .inr (.inl 49), .inr (.inl 50), .inr (.inl 57), .inr (.inl 58), .inr (.inl 66), .inr (.inl 67), .inl (.int g), .inl (.int fk), .inl (.int pf), .inl (.int pt), .inl (.int pr)])), (44, .inr (.inl (0, 4, mi)))]) (fun w h2 => ∃ (z : Int32) (r2 mi2 : Nat → Int32) (fk2 pf2 : Int32), w = some (.inl (.int z)) ∧ h2 = [(0, .inl (10, [.inr (.inl 1), .inr (.inl 2), .inr (.inl 15), .inr (.inl 21), .inr (.inl 43), .inr (.inl 68), .inr (.inl 77), .inr (.inl 87), .inr (.inl 101), .inr (.inl 107), .inr (.inl 113), .inl (.int dy)])), (1, .inr (.inl (0, 7, r2))), (43, .inl (4, [.inr (.inl 2), .inr (.inl 44), .inr (.inl 45), .inr (.inl 46), .inr (.inl 47), .inr (.inl 48), .inr (.inl 49), .inr (.inl 50), .inr (.inl 57), .inr (.inl 58), .inr (.inl 66), .inr (.inl 67), .inl (.int g), .inl (.int fk2), .inl (.int pf2), .inl (.int pt), .inl (.int pr)])), (44, .inr (.inl (0, 4, mi2)))] ∧ ((okM x v ∧ mi2 = upd mi x.toNatClampNeg v ∧ fk2 = Int32.ofInt 0 ∧ pf2 = Int32.ofInt (-9)) ∨ (¬ okM x v ∧ mi2 = mi ∧ fk2 = fk ∧ pf2 = pf))) := by
  have kcm1 : (Int32.ofInt (-1)).toInt = -1 := by decide +kernel
  have kc0 : (Int32.ofInt 0).toInt = 0 := by decide +kernel
  have kc1 : (Int32.ofInt 1).toInt = 1 := by decide +kernel
  have kc40 : (Int32.ofInt 40).toInt = 40 := by decide +kernel
  refine cx_Ct.of cg_128 (nL := 4) rfl rfl rfl ?_
  show cx_T 5 128 [0, 1, 43, 44] 0 ([some (.inr (.inl 0)), some (.inl (.int x)), some (.inl (.int v)), none], [], ([(0, .inl (10, [.inr (.inl 1), .inr (.inl 2), .inr (.inl 15), .inr (.inl 21), .inr (.inl 43), .inr (.inl 68), .inr (.inl 77), .inr (.inl 87), .inr (.inl 101), .inr (.inl 107), .inr (.inl 113), .inl (.int dy)])), (1, .inr (.inl (0, 7, r))), (43, .inl (4, [.inr (.inl 2), .inr (.inl 44), .inr (.inl 45), .inr (.inl 46), .inr (.inl 47), .inr (.inl 48), .inr (.inl 49), .inr (.inl 50), .inr (.inl 57), .inr (.inl 58), .inr (.inl 66), .inr (.inl 67), .inl (.int g), .inl (.int fk), .inl (.int pf), .inl (.int pt), .inl (.int pr)])), (44, .inr (.inl (0, 4, mi)))])) _
  refine ex_iload_n cg_128 (ix := 0) (pc' := 1) rfl rfl rfl ?_
  refine ex_callS cg_128 (ix := 1) (pc' := 4) (As := [.inl (.int x)]) (r := []) rfl rfl rfl (ct_xbeach (x := x)) (by first | decide | omega) rfl rfl trivial rfl rfl (fun v h2 hq => ?_)
  obtain ⟨z1, rfl, rfl, hz1⟩ := hq
  rcases hz1 with ⟨hz1, rfl⟩ | ⟨hz1, rfl⟩
  · show cx_T _ 128 _ 4 ([some (.inr (.inl 0)), some (.inl (.int x)), some (.inl (.int v)), none], [.inl (.int (Int32.ofInt 1))], [(0, .inl (10, [.inr (.inl 1), .inr (.inl 2), .inr (.inl 15), .inr (.inl 21), .inr (.inl 43), .inr (.inl 68), .inr (.inl 77), .inr (.inl 87), .inr (.inl 101), .inr (.inl 107), .inr (.inl 113), .inl (.int dy)])), (1, .inr (.inl (0, 7, r))), (43, .inl (4, [.inr (.inl 2), .inr (.inl 44), .inr (.inl 45), .inr (.inl 46), .inr (.inl 47), .inr (.inl 48), .inr (.inl 49), .inr (.inl 50), .inr (.inl 57), .inr (.inl 58), .inr (.inl 66), .inr (.inl 67), .inl (.int g), .inl (.int fk), .inl (.int pf), .inl (.int pt), .inl (.int pr)])), (44, .inr (.inl (0, 4, mi)))]) _
    refine ex_if cg_128 (ix := 2) (t := 13) (pc' := 7) rfl rfl rfl (fun hb4 => ?_) (fun hb4 => ?_)
    · have hb4 : ¬ (Int32.ofInt 1).toInt = 0 := hb4
      refine ex_iload_n cg_128 (ix := 7) (pc' := 14) rfl rfl rfl ?_
      refine ex_iconst cg_128 (ix := 8) (pc' := 15) rfl rfl ?_
      refine ex_bipush cg_128 (ix := 9) (pc' := 17) rfl rfl rfl ?_
      refine ex_callS cg_128 (ix := 10) (pc' := 20) (As := [.inl (.int v), .inl (.int (Int32.ofInt 0)), .inl (.int (Int32.ofInt 40))]) (r := []) rfl rfl rfl (ct_out (x := v) (a := Int32.ofInt 0) (b := Int32.ofInt 40)) (by first | decide | omega) rfl rfl trivial rfl rfl (fun v h2 hq => ?_)
      obtain ⟨zo, rfl, rfl, hzo⟩ := hq
      have hzo9 : -6 ≤ zo.toInt ∧ zo.toInt ≤ 0 ∧ ¬ zo.toInt = -1 := by
        rcases hzo with ⟨_, q⟩ | ⟨_, _, q⟩ | ⟨_, _, q⟩ <;> rw [q] <;> decide +kernel
      show cx_T _ 128 _ 20 ([some (.inr (.inl 0)), some (.inl (.int x)), some (.inl (.int v)), none], [.inl (.int zo)], [(0, .inl (10, [.inr (.inl 1), .inr (.inl 2), .inr (.inl 15), .inr (.inl 21), .inr (.inl 43), .inr (.inl 68), .inr (.inl 77), .inr (.inl 87), .inr (.inl 101), .inr (.inl 107), .inr (.inl 113), .inl (.int dy)])), (1, .inr (.inl (0, 7, r))), (43, .inl (4, [.inr (.inl 2), .inr (.inl 44), .inr (.inl 45), .inr (.inl 46), .inr (.inl 47), .inr (.inl 48), .inr (.inl 49), .inr (.inl 50), .inr (.inl 57), .inr (.inl 58), .inr (.inl 66), .inr (.inl 67), .inl (.int g), .inl (.int fk), .inl (.int pf), .inl (.int pt), .inl (.int pr)])), (44, .inr (.inl (0, 4, mi)))]) _
      refine ex_istore_n cg_128 (ix := 11) (pc' := 21) (L' := [some (.inr (.inl 0)), some (.inl (.int x)), some (.inl (.int v)), some (.inl (.int zo))]) rfl rfl rfl rfl ?_
      refine ex_iload_n cg_128 (ix := 12) (pc' := 22) rfl rfl rfl ?_
      refine ex_if cg_128 (ix := 13) (t := 33) (pc' := 25) rfl rfl rfl (fun hb22 => ?_) (fun hb22 => ?_)
      · have hb22 : zo.toInt = 0 := hb22
        have hok0 : zo = Int32.ofInt 0 := by
          rcases hzo with ⟨_, q⟩ | ⟨_, _, q⟩ | ⟨_, _, q⟩
          · rw [q] at hb22
            exact absurd hb22 (by decide +kernel)
          · rw [q] at hb22
            exact absurd hb22 (by decide +kernel)
          · exact q
        have hok : okM x v := by
          rcases hzo with ⟨_, q⟩ | ⟨_, _, q⟩ | ⟨q1, q2, _⟩
          · rw [hok0] at q
            exact absurd q (by decide +kernel)
          · rw [hok0] at q
            exact absurd q (by decide +kernel)
          · exact ⟨hz1, by omega, by omega⟩
        refine ex_aload_n cg_128 (ix := 18) (pc' := 34) rfl rfl rfl ?_
        refine ex_getfield cg_128 (ix := 19) (pc' := 37) rfl rfl rfl rfl rfl ?_
        refine ex_iload_n cg_128 (ix := 20) (pc' := 38) rfl rfl rfl ?_
        refine ex_iload_n cg_128 (ix := 21) (pc' := 39) rfl rfl rfl ?_
        refine ex_callV cg_128 (ix := 22) (pc' := 42) (As := [.inl (.int x), .inl (.int v)]) (r := []) rfl rfl rfl (ct_pm (g := g) (fk := fk) (pf := pf) (pt := pt) (pr := pr) (mi := mi) (x := x) (v := v) hz1) (by first | decide | omega) rfl rfl rfl ⟨rfl, rfl, trivial⟩ rfl rfl (fun v h2 hq => ?_)
        obtain ⟨rfl, rfl⟩ := hq
        show cx_T _ 128 _ 42 ([some (.inr (.inl 0)), some (.inl (.int x)), some (.inl (.int v)), some (.inl (.int zo))], [.inl (.int (mi x.toNatClampNeg))], [(0, .inl (10, [.inr (.inl 1), .inr (.inl 2), .inr (.inl 15), .inr (.inl 21), .inr (.inl 43), .inr (.inl 68), .inr (.inl 77), .inr (.inl 87), .inr (.inl 101), .inr (.inl 107), .inr (.inl 113), .inl (.int dy)])), (1, .inr (.inl (0, 7, r))), (43, .inl (4, [.inr (.inl 2), .inr (.inl 44), .inr (.inl 45), .inr (.inl 46), .inr (.inl 47), .inr (.inl 48), .inr (.inl 49), .inr (.inl 50), .inr (.inl 57), .inr (.inl 58), .inr (.inl 66), .inr (.inl 67), .inl (.int g), .inl (.int (Int32.ofInt 0)), .inl (.int (Int32.ofInt (-9))), .inl (.int pt), .inl (.int pr)])), (44, .inr (.inl (0, 4, (upd mi x.toNatClampNeg v))))]) _
        refine ex_ireturn cg_128 (ix := 23) rfl ?_
        exact ⟨_, r, _, _, _, rfl, rfl, Or.inl ⟨hok, rfl, rfl, rfl⟩⟩
      · have hb22 : ¬ (zo.toInt = 0) := hb22
        have hbz : ¬ zo.toInt = 0 := hb22
        refine ex_aload_n cg_128 (ix := 14) (pc' := 26) rfl rfl rfl ?_
        refine ex_iload_n cg_128 (ix := 15) (pc' := 27) rfl rfl rfl ?_
        refine ex_callV cg_128 (ix := 16) (pc' := 30) (As := [.inl (.int zo)]) (r := []) rfl rfl rfl (ct_xref (dy := dy) (x := zo) (r := r) (by omega) (by omega)) (by first | decide | omega) rfl rfl rfl ⟨rfl, rfl, trivial⟩ rfl rfl (fun v h2 hq => ?_)
        obtain ⟨rfl, r2, rfl⟩ := hq
        show cx_T _ 128 _ 30 ([some (.inr (.inl 0)), some (.inl (.int x)), some (.inl (.int v)), some (.inl (.int zo))], [.inl (.int zo)], [(0, .inl (10, [.inr (.inl 1), .inr (.inl 2), .inr (.inl 15), .inr (.inl 21), .inr (.inl 43), .inr (.inl 68), .inr (.inl 77), .inr (.inl 87), .inr (.inl 101), .inr (.inl 107), .inr (.inl 113), .inl (.int dy)])), (1, .inr (.inl (0, 7, r2))), (43, .inl (4, [.inr (.inl 2), .inr (.inl 44), .inr (.inl 45), .inr (.inl 46), .inr (.inl 47), .inr (.inl 48), .inr (.inl 49), .inr (.inl 50), .inr (.inl 57), .inr (.inl 58), .inr (.inl 66), .inr (.inl 67), .inl (.int g), .inl (.int fk), .inl (.int pf), .inl (.int pt), .inl (.int pr)])), (44, .inr (.inl (0, 4, mi)))]) _
        refine ex_goto cg_128 (ix := 17) (pc' := 42) rfl rfl ?_
        refine ex_ireturn cg_128 (ix := 23) rfl ?_
        refine ⟨_, r2, mi, fk, pf, rfl, rfl, Or.inr ⟨fun hok => ?_, rfl, rfl, rfl⟩⟩
        unfold okM at hok
        first
        | (exact absurd hok.1 hz1)
        | (exact absurd hok.2.1 hz2)
        | (rcases hzo with ⟨u, q⟩ | ⟨u1, u2, q⟩ | ⟨u1, u2, q⟩
           · omega
           · omega
           · rw [q] at hbz
             exact hbz (by decide +kernel))
    · have hb4 : ¬ (¬ (Int32.ofInt 1).toInt = 0) := hb4
      exfalso; first | omega | exact absurd hb4 (by decide +kernel)
  · show cx_T _ 128 _ 4 ([some (.inr (.inl 0)), some (.inl (.int x)), some (.inl (.int v)), none], [.inl (.int (Int32.ofInt 0))], [(0, .inl (10, [.inr (.inl 1), .inr (.inl 2), .inr (.inl 15), .inr (.inl 21), .inr (.inl 43), .inr (.inl 68), .inr (.inl 77), .inr (.inl 87), .inr (.inl 101), .inr (.inl 107), .inr (.inl 113), .inl (.int dy)])), (1, .inr (.inl (0, 7, r))), (43, .inl (4, [.inr (.inl 2), .inr (.inl 44), .inr (.inl 45), .inr (.inl 46), .inr (.inl 47), .inr (.inl 48), .inr (.inl 49), .inr (.inl 50), .inr (.inl 57), .inr (.inl 58), .inr (.inl 66), .inr (.inl 67), .inl (.int g), .inl (.int fk), .inl (.int pf), .inl (.int pt), .inl (.int pr)])), (44, .inr (.inl (0, 4, mi)))]) _
    refine ex_if cg_128 (ix := 2) (t := 13) (pc' := 7) rfl rfl rfl (fun hb4 => ?_) (fun hb4 => ?_)
    · have hb4 : ¬ (Int32.ofInt 0).toInt = 0 := hb4
      exfalso; first | omega | exact absurd hb4 (by decide +kernel)
    · have hb4 : ¬ (¬ (Int32.ofInt 0).toInt = 0) := hb4
      refine ex_aload_n cg_128 (ix := 3) (pc' := 8) rfl rfl rfl ?_
      refine ex_iconst cg_128 (ix := 4) (pc' := 9) rfl rfl ?_
      refine ex_callV cg_128 (ix := 5) (pc' := 12) (As := [.inl (.int (Int32.ofInt (-1)))]) (r := []) rfl rfl rfl (ct_xref (dy := dy) (x := Int32.ofInt (-1)) (r := r) (by omega) (by omega)) (by first | decide | omega) rfl rfl rfl ⟨rfl, rfl, trivial⟩ rfl rfl (fun v h2 hq => ?_)
      obtain ⟨rfl, r2, rfl⟩ := hq
      show cx_T _ 128 _ 12 ([some (.inr (.inl 0)), some (.inl (.int x)), some (.inl (.int v)), none], [.inl (.int (Int32.ofInt (-1)))], [(0, .inl (10, [.inr (.inl 1), .inr (.inl 2), .inr (.inl 15), .inr (.inl 21), .inr (.inl 43), .inr (.inl 68), .inr (.inl 77), .inr (.inl 87), .inr (.inl 101), .inr (.inl 107), .inr (.inl 113), .inl (.int dy)])), (1, .inr (.inl (0, 7, r2))), (43, .inl (4, [.inr (.inl 2), .inr (.inl 44), .inr (.inl 45), .inr (.inl 46), .inr (.inl 47), .inr (.inl 48), .inr (.inl 49), .inr (.inl 50), .inr (.inl 57), .inr (.inl 58), .inr (.inl 66), .inr (.inl 67), .inl (.int g), .inl (.int fk), .inl (.int pf), .inl (.int pt), .inl (.int pr)])), (44, .inr (.inl (0, 4, mi)))]) _
      refine ex_ireturn cg_128 (ix := 6) rfl ?_
      refine ⟨_, r2, mi, fk, pf, rfl, rfl, Or.inr ⟨fun hok => ?_, rfl, rfl, rfl⟩⟩
      unfold okM at hok
      first
      | (exact absurd hok.1 hz1)
      | (exact absurd hok.2.1 hz2)
      | (rcases hzo with ⟨u, q⟩ | ⟨u1, u2, q⟩ | ⟨u1, u2, q⟩
         · omega
         · omega
         · rw [q] at hbz
           exact hbz (by decide +kernel))
theorem ct_xguards {g fk pf pt pr : Int32} {dy : Int32} {r : Nat → Int32} {n : Int32} : cx_Ct 5 137 [.inr (.inl 0), .inl (.int n)] ([(0, .inl (10, [.inr (.inl 1), .inr (.inl 2), .inr (.inl 15), .inr (.inl 21), .inr (.inl 43), .inr (.inl 68), .inr (.inl 77), .inr (.inl 87), .inr (.inl 101), .inr (.inl 107), .inr (.inl 113), .inl (.int dy)])), (1, .inr (.inl (0, 7, r))), (43, .inl (4, [.inr (.inl 2), .inr (.inl 44), .inr (.inl 45), .inr (.inl 46), .inr (.inl 47), .inr (.inl 48), .inr (.inl 49), .inr (.inl 50), .inr (.inl 57), .inr (.inl 58), .inr (.inl 66), .inr (.inl 67), .inl (.int g), .inl (.int fk), .inl (.int pf), .inl (.int pt), .inl (.int pr)]))]) (fun w h2 => ∃ (z : Int32) (r2 : Nat → Int32) (g2 pf2 : Int32), w = some (.inl (.int z)) ∧ h2 = [(0, .inl (10, [.inr (.inl 1), .inr (.inl 2), .inr (.inl 15), .inr (.inl 21), .inr (.inl 43), .inr (.inl 68), .inr (.inl 77), .inr (.inl 87), .inr (.inl 101), .inr (.inl 107), .inr (.inl 113), .inl (.int dy)])), (1, .inr (.inl (0, 7, r2))), (43, .inl (4, [.inr (.inl 2), .inr (.inl 44), .inr (.inl 45), .inr (.inl 46), .inr (.inl 47), .inr (.inl 48), .inr (.inl 49), .inr (.inl 50), .inr (.inl 57), .inr (.inl 58), .inr (.inl 66), .inr (.inl 67), .inl (.int g2), .inl (.int fk), .inl (.int pf2), .inl (.int pt), .inl (.int pr)]))] ∧ ((okU n ∧ g2 = n ∧ pf2 = Int32.ofInt (-9)) ∨ (¬ okU n ∧ g2 = g ∧ pf2 = pf))) := by
  have kc0 : (Int32.ofInt 0).toInt = 0 := by decide +kernel
  have kc1 : (Int32.ofInt 1).toInt = 1 := by decide +kernel
  have kc4 : (Int32.ofInt 4).toInt = 4 := by decide +kernel
  refine cx_Ct.of cg_137 (nL := 3) rfl rfl rfl ?_
  show cx_T 5 137 [0, 1, 43] 0 ([some (.inr (.inl 0)), some (.inl (.int n)), none], [], ([(0, .inl (10, [.inr (.inl 1), .inr (.inl 2), .inr (.inl 15), .inr (.inl 21), .inr (.inl 43), .inr (.inl 68), .inr (.inl 77), .inr (.inl 87), .inr (.inl 101), .inr (.inl 107), .inr (.inl 113), .inl (.int dy)])), (1, .inr (.inl (0, 7, r))), (43, .inl (4, [.inr (.inl 2), .inr (.inl 44), .inr (.inl 45), .inr (.inl 46), .inr (.inl 47), .inr (.inl 48), .inr (.inl 49), .inr (.inl 50), .inr (.inl 57), .inr (.inl 58), .inr (.inl 66), .inr (.inl 67), .inl (.int g), .inl (.int fk), .inl (.int pf), .inl (.int pt), .inl (.int pr)]))])) _
  refine ex_iload_n cg_137 (ix := 0) (pc' := 1) rfl rfl rfl ?_
  refine ex_iconst cg_137 (ix := 1) (pc' := 2) rfl rfl ?_
  refine ex_iconst cg_137 (ix := 2) (pc' := 3) rfl rfl ?_
  refine ex_callS cg_137 (ix := 3) (pc' := 6) (As := [.inl (.int n), .inl (.int (Int32.ofInt 0)), .inl (.int (Int32.ofInt 4))]) (r := []) rfl rfl rfl (ct_out (x := n) (a := Int32.ofInt 0) (b := Int32.ofInt 4)) (by first | decide | omega) rfl rfl trivial rfl rfl (fun v h2 hq => ?_)
  obtain ⟨zo, rfl, rfl, hzo⟩ := hq
  have hzo9 : -6 ≤ zo.toInt ∧ zo.toInt ≤ 0 ∧ ¬ zo.toInt = -1 := by
    rcases hzo with ⟨_, q⟩ | ⟨_, _, q⟩ | ⟨_, _, q⟩ <;> rw [q] <;> decide +kernel
  show cx_T _ 137 _ 6 ([some (.inr (.inl 0)), some (.inl (.int n)), none], [.inl (.int zo)], [(0, .inl (10, [.inr (.inl 1), .inr (.inl 2), .inr (.inl 15), .inr (.inl 21), .inr (.inl 43), .inr (.inl 68), .inr (.inl 77), .inr (.inl 87), .inr (.inl 101), .inr (.inl 107), .inr (.inl 113), .inl (.int dy)])), (1, .inr (.inl (0, 7, r))), (43, .inl (4, [.inr (.inl 2), .inr (.inl 44), .inr (.inl 45), .inr (.inl 46), .inr (.inl 47), .inr (.inl 48), .inr (.inl 49), .inr (.inl 50), .inr (.inl 57), .inr (.inl 58), .inr (.inl 66), .inr (.inl 67), .inl (.int g), .inl (.int fk), .inl (.int pf), .inl (.int pt), .inl (.int pr)]))]) _
  refine ex_istore_n cg_137 (ix := 4) (pc' := 7) (L' := [some (.inr (.inl 0)), some (.inl (.int n)), some (.inl (.int zo))]) rfl rfl rfl rfl ?_
  refine ex_iload_n cg_137 (ix := 5) (pc' := 8) rfl rfl rfl ?_
  refine ex_if cg_137 (ix := 6) (t := 19) (pc' := 11) rfl rfl rfl (fun hb8 => ?_) (fun hb8 => ?_)
  · have hb8 : zo.toInt = 0 := hb8
    have hok0 : zo = Int32.ofInt 0 := by
      rcases hzo with ⟨_, q⟩ | ⟨_, _, q⟩ | ⟨_, _, q⟩
      · rw [q] at hb8
        exact absurd hb8 (by decide +kernel)
      · rw [q] at hb8
        exact absurd hb8 (by decide +kernel)
      · exact q
    have hok : okU n := by
      rcases hzo with ⟨_, q⟩ | ⟨_, _, q⟩ | ⟨q1, q2, _⟩
      · rw [hok0] at q
        exact absurd q (by decide +kernel)
      · rw [hok0] at q
        exact absurd q (by decide +kernel)
      · exact ⟨by omega, by omega⟩
    refine ex_aload_n cg_137 (ix := 11) (pc' := 20) rfl rfl rfl ?_
    refine ex_getfield cg_137 (ix := 12) (pc' := 23) rfl rfl rfl rfl rfl ?_
    refine ex_iload_n cg_137 (ix := 13) (pc' := 24) rfl rfl rfl ?_
    refine ex_callV cg_137 (ix := 14) (pc' := 27) (As := [.inl (.int n)]) (r := []) rfl rfl rfl (ct_pg (g := g) (fk := fk) (pf := pf) (pt := pt) (pr := pr) (n := n)) (by first | decide | omega) rfl rfl rfl ⟨rfl, trivial⟩ rfl rfl (fun v h2 hq => ?_)
    obtain ⟨rfl, rfl⟩ := hq
    show cx_T _ 137 _ 27 ([some (.inr (.inl 0)), some (.inl (.int n)), some (.inl (.int zo))], [.inl (.int g)], [(0, .inl (10, [.inr (.inl 1), .inr (.inl 2), .inr (.inl 15), .inr (.inl 21), .inr (.inl 43), .inr (.inl 68), .inr (.inl 77), .inr (.inl 87), .inr (.inl 101), .inr (.inl 107), .inr (.inl 113), .inl (.int dy)])), (1, .inr (.inl (0, 7, r))), (43, .inl (4, [.inr (.inl 2), .inr (.inl 44), .inr (.inl 45), .inr (.inl 46), .inr (.inl 47), .inr (.inl 48), .inr (.inl 49), .inr (.inl 50), .inr (.inl 57), .inr (.inl 58), .inr (.inl 66), .inr (.inl 67), .inl (.int n), .inl (.int fk), .inl (.int (Int32.ofInt (-9))), .inl (.int pt), .inl (.int pr)]))]) _
    refine ex_ireturn cg_137 (ix := 15) rfl ?_
    exact ⟨_, r, _, _, rfl, rfl, Or.inl ⟨hok, rfl, rfl⟩⟩
  · have hb8 : ¬ (zo.toInt = 0) := hb8
    have hbz : ¬ zo.toInt = 0 := hb8
    refine ex_aload_n cg_137 (ix := 7) (pc' := 12) rfl rfl rfl ?_
    refine ex_iload_n cg_137 (ix := 8) (pc' := 13) rfl rfl rfl ?_
    refine ex_callV cg_137 (ix := 9) (pc' := 16) (As := [.inl (.int zo)]) (r := []) rfl rfl rfl (ct_xref (dy := dy) (x := zo) (r := r) (by omega) (by omega)) (by first | decide | omega) rfl rfl rfl ⟨rfl, rfl, trivial⟩ rfl rfl (fun v h2 hq => ?_)
    obtain ⟨rfl, r2, rfl⟩ := hq
    show cx_T _ 137 _ 16 ([some (.inr (.inl 0)), some (.inl (.int n)), some (.inl (.int zo))], [.inl (.int zo)], [(0, .inl (10, [.inr (.inl 1), .inr (.inl 2), .inr (.inl 15), .inr (.inl 21), .inr (.inl 43), .inr (.inl 68), .inr (.inl 77), .inr (.inl 87), .inr (.inl 101), .inr (.inl 107), .inr (.inl 113), .inl (.int dy)])), (1, .inr (.inl (0, 7, r2))), (43, .inl (4, [.inr (.inl 2), .inr (.inl 44), .inr (.inl 45), .inr (.inl 46), .inr (.inl 47), .inr (.inl 48), .inr (.inl 49), .inr (.inl 50), .inr (.inl 57), .inr (.inl 58), .inr (.inl 66), .inr (.inl 67), .inl (.int g), .inl (.int fk), .inl (.int pf), .inl (.int pt), .inl (.int pr)]))]) _
    refine ex_goto cg_137 (ix := 10) (pc' := 27) rfl rfl ?_
    refine ex_ireturn cg_137 (ix := 15) rfl ?_
    refine ⟨_, r2, g, pf, rfl, rfl, Or.inr ⟨fun hok => ?_, rfl, rfl⟩⟩
    unfold okU at hok
    first
    | (exact absurd hok.1 hz1)
    | (exact absurd hok.2.1 hz2)
    | (rcases hzo with ⟨u, q⟩ | ⟨u1, u2, q⟩ | ⟨u1, u2, q⟩
       · omega
       · omega
       · rw [q] at hbz
         exact hbz (by decide +kernel))
theorem ct_xcrowd {g fk pf pt pr : Int32} {dy : Int32} {r : Nat → Int32} {hd : Nat → Nat → Int32} {x y v : Int32} : cx_Ct 5 136 [.inr (.inl 0), .inl (.int x), .inl (.int y), .inl (.int v)] ([(0, .inl (10, [.inr (.inl 1), .inr (.inl 2), .inr (.inl 15), .inr (.inl 21), .inr (.inl 43), .inr (.inl 68), .inr (.inl 77), .inr (.inl 87), .inr (.inl 101), .inr (.inl 107), .inr (.inl 113), .inl (.int dy)])), (1, .inr (.inl (0, 7, r))), (43, .inl (4, [.inr (.inl 2), .inr (.inl 44), .inr (.inl 45), .inr (.inl 46), .inr (.inl 47), .inr (.inl 48), .inr (.inl 49), .inr (.inl 50), .inr (.inl 57), .inr (.inl 58), .inr (.inl 66), .inr (.inl 67), .inl (.int g), .inl (.int fk), .inl (.int pf), .inl (.int pt), .inl (.int pr)])), (2, .inl (8, [.inr (.inl 3), .inr (.inl 4), .inr (.inl 5), .inr (.inl 10)])), (5, .inr (.inr (.inr (3, [6, 7, 8, 9])))), (6, .inr (.inl (0, 16, hd 0))), (7, .inr (.inl (0, 16, hd 1))), (8, .inr (.inl (0, 16, hd 2))), (9, .inr (.inl (0, 16, hd 3)))]) (fun w h2 => ∃ (z : Int32) (r2 : Nat → Int32) (hd2 : Nat → Nat → Int32) (pf2 : Int32), w = some (.inl (.int z)) ∧ h2 = [(0, .inl (10, [.inr (.inl 1), .inr (.inl 2), .inr (.inl 15), .inr (.inl 21), .inr (.inl 43), .inr (.inl 68), .inr (.inl 77), .inr (.inl 87), .inr (.inl 101), .inr (.inl 107), .inr (.inl 113), .inl (.int dy)])), (1, .inr (.inl (0, 7, r2))), (43, .inl (4, [.inr (.inl 2), .inr (.inl 44), .inr (.inl 45), .inr (.inl 46), .inr (.inl 47), .inr (.inl 48), .inr (.inl 49), .inr (.inl 50), .inr (.inl 57), .inr (.inl 58), .inr (.inl 66), .inr (.inl 67), .inl (.int g), .inl (.int fk), .inl (.int pf2), .inl (.int pt), .inl (.int pr)])), (2, .inl (8, [.inr (.inl 3), .inr (.inl 4), .inr (.inl 5), .inr (.inl 10)])), (5, .inr (.inr (.inr (3, [6, 7, 8, 9])))), (6, .inr (.inl (0, 16, hd2 0))), (7, .inr (.inl (0, 16, hd2 1))), (8, .inr (.inl (0, 16, hd2 2))), (9, .inr (.inl (0, 16, hd2 3)))] ∧ ((okC x y v ∧ hd2 = up2 hd x.toNatClampNeg (upd (hd x.toNatClampNeg) y.toNatClampNeg v) ∧ pf2 = Int32.ofInt (-9)) ∨ (¬ okC x y v ∧ hd2 = hd ∧ pf2 = pf))) := by
  have kcm1 : (Int32.ofInt (-1)).toInt = -1 := by decide +kernel
  have kc0 : (Int32.ofInt 0).toInt = 0 := by decide +kernel
  have kc1 : (Int32.ofInt 1).toInt = 1 := by decide +kernel
  have kc999 : (Int32.ofInt 999).toInt = 999 := by decide +kernel
  refine cx_Ct.of cg_136 (nL := 5) rfl rfl rfl ?_
  show cx_T 5 136 [0, 1, 43, 2, 5, 6, 7, 8, 9] 0 ([some (.inr (.inl 0)), some (.inl (.int x)), some (.inl (.int y)), some (.inl (.int v)), none], [], ([(0, .inl (10, [.inr (.inl 1), .inr (.inl 2), .inr (.inl 15), .inr (.inl 21), .inr (.inl 43), .inr (.inl 68), .inr (.inl 77), .inr (.inl 87), .inr (.inl 101), .inr (.inl 107), .inr (.inl 113), .inl (.int dy)])), (1, .inr (.inl (0, 7, r))), (43, .inl (4, [.inr (.inl 2), .inr (.inl 44), .inr (.inl 45), .inr (.inl 46), .inr (.inl 47), .inr (.inl 48), .inr (.inl 49), .inr (.inl 50), .inr (.inl 57), .inr (.inl 58), .inr (.inl 66), .inr (.inl 67), .inl (.int g), .inl (.int fk), .inl (.int pf), .inl (.int pt), .inl (.int pr)])), (2, .inl (8, [.inr (.inl 3), .inr (.inl 4), .inr (.inl 5), .inr (.inl 10)])), (5, .inr (.inr (.inr (3, [6, 7, 8, 9])))), (6, .inr (.inl (0, 16, hd 0))), (7, .inr (.inl (0, 16, hd 1))), (8, .inr (.inl (0, 16, hd 2))), (9, .inr (.inl (0, 16, hd 3)))])) _
  refine ex_iload_n cg_136 (ix := 0) (pc' := 1) rfl rfl rfl ?_
  refine ex_callS cg_136 (ix := 1) (pc' := 4) (As := [.inl (.int x)]) (r := []) rfl rfl rfl (ct_xbeach (x := x)) (by first | decide | omega) rfl rfl trivial rfl rfl (fun v h2 hq => ?_)
  obtain ⟨z1, rfl, rfl, hz1⟩ := hq
  rcases hz1 with ⟨hz1, rfl⟩ | ⟨hz1, rfl⟩
  · show cx_T _ 136 _ 4 ([some (.inr (.inl 0)), some (.inl (.int x)), some (.inl (.int y)), some (.inl (.int v)), none], [.inl (.int (Int32.ofInt 1))], [(0, .inl (10, [.inr (.inl 1), .inr (.inl 2), .inr (.inl 15), .inr (.inl 21), .inr (.inl 43), .inr (.inl 68), .inr (.inl 77), .inr (.inl 87), .inr (.inl 101), .inr (.inl 107), .inr (.inl 113), .inl (.int dy)])), (1, .inr (.inl (0, 7, r))), (43, .inl (4, [.inr (.inl 2), .inr (.inl 44), .inr (.inl 45), .inr (.inl 46), .inr (.inl 47), .inr (.inl 48), .inr (.inl 49), .inr (.inl 50), .inr (.inl 57), .inr (.inl 58), .inr (.inl 66), .inr (.inl 67), .inl (.int g), .inl (.int fk), .inl (.int pf), .inl (.int pt), .inl (.int pr)])), (2, .inl (8, [.inr (.inl 3), .inr (.inl 4), .inr (.inl 5), .inr (.inl 10)])), (5, .inr (.inr (.inr (3, [6, 7, 8, 9])))), (6, .inr (.inl (0, 16, hd 0))), (7, .inr (.inl (0, 16, hd 1))), (8, .inr (.inl (0, 16, hd 2))), (9, .inr (.inl (0, 16, hd 3)))]) _
    refine ex_if cg_136 (ix := 2) (t := 14) (pc' := 7) rfl rfl rfl (fun hb4 => ?_) (fun hb4 => ?_)
    · have hb4 : (Int32.ofInt 1).toInt = 0 := hb4
      exfalso; first | omega | exact absurd hb4 (by decide +kernel)
    · have hb4 : ¬ ((Int32.ofInt 1).toInt = 0) := hb4
      refine ex_iload_n cg_136 (ix := 3) (pc' := 8) rfl rfl rfl ?_
      refine ex_callS cg_136 (ix := 4) (pc' := 11) (As := [.inl (.int y)]) (r := []) rfl rfl rfl (ct_xhour (x := y)) (by first | decide | omega) rfl rfl trivial rfl rfl (fun v h2 hq => ?_)
      obtain ⟨z2, rfl, rfl, hz2⟩ := hq
      rcases hz2 with ⟨hz2, rfl⟩ | ⟨hz2, rfl⟩
      · show cx_T _ 136 _ 11 ([some (.inr (.inl 0)), some (.inl (.int x)), some (.inl (.int y)), some (.inl (.int v)), none], [.inl (.int (Int32.ofInt 1))], [(0, .inl (10, [.inr (.inl 1), .inr (.inl 2), .inr (.inl 15), .inr (.inl 21), .inr (.inl 43), .inr (.inl 68), .inr (.inl 77), .inr (.inl 87), .inr (.inl 101), .inr (.inl 107), .inr (.inl 113), .inl (.int dy)])), (1, .inr (.inl (0, 7, r))), (43, .inl (4, [.inr (.inl 2), .inr (.inl 44), .inr (.inl 45), .inr (.inl 46), .inr (.inl 47), .inr (.inl 48), .inr (.inl 49), .inr (.inl 50), .inr (.inl 57), .inr (.inl 58), .inr (.inl 66), .inr (.inl 67), .inl (.int g), .inl (.int fk), .inl (.int pf), .inl (.int pt), .inl (.int pr)])), (2, .inl (8, [.inr (.inl 3), .inr (.inl 4), .inr (.inl 5), .inr (.inl 10)])), (5, .inr (.inr (.inr (3, [6, 7, 8, 9])))), (6, .inr (.inl (0, 16, hd 0))), (7, .inr (.inl (0, 16, hd 1))), (8, .inr (.inl (0, 16, hd 2))), (9, .inr (.inl (0, 16, hd 3)))]) _
        refine ex_if cg_136 (ix := 5) (t := 20) (pc' := 14) rfl rfl rfl (fun hb11 => ?_) (fun hb11 => ?_)
        · have hb11 : ¬ (Int32.ofInt 1).toInt = 0 := hb11
          refine ex_iload_n cg_136 (ix := 10) (pc' := 21) rfl rfl rfl ?_
          refine ex_iconst cg_136 (ix := 11) (pc' := 22) rfl rfl ?_
          refine ex_sipush cg_136 (ix := 12) (pc' := 25) rfl rfl rfl ?_
          refine ex_callS cg_136 (ix := 13) (pc' := 28) (As := [.inl (.int v), .inl (.int (Int32.ofInt 0)), .inl (.int (Int32.ofInt 999))]) (r := []) rfl rfl rfl (ct_out (x := v) (a := Int32.ofInt 0) (b := Int32.ofInt 999)) (by first | decide | omega) rfl rfl trivial rfl rfl (fun v h2 hq => ?_)
          obtain ⟨zo, rfl, rfl, hzo⟩ := hq
          have hzo9 : -6 ≤ zo.toInt ∧ zo.toInt ≤ 0 ∧ ¬ zo.toInt = -1 := by
            rcases hzo with ⟨_, q⟩ | ⟨_, _, q⟩ | ⟨_, _, q⟩ <;> rw [q] <;> decide +kernel
          show cx_T _ 136 _ 28 ([some (.inr (.inl 0)), some (.inl (.int x)), some (.inl (.int y)), some (.inl (.int v)), none], [.inl (.int zo)], [(0, .inl (10, [.inr (.inl 1), .inr (.inl 2), .inr (.inl 15), .inr (.inl 21), .inr (.inl 43), .inr (.inl 68), .inr (.inl 77), .inr (.inl 87), .inr (.inl 101), .inr (.inl 107), .inr (.inl 113), .inl (.int dy)])), (1, .inr (.inl (0, 7, r))), (43, .inl (4, [.inr (.inl 2), .inr (.inl 44), .inr (.inl 45), .inr (.inl 46), .inr (.inl 47), .inr (.inl 48), .inr (.inl 49), .inr (.inl 50), .inr (.inl 57), .inr (.inl 58), .inr (.inl 66), .inr (.inl 67), .inl (.int g), .inl (.int fk), .inl (.int pf), .inl (.int pt), .inl (.int pr)])), (2, .inl (8, [.inr (.inl 3), .inr (.inl 4), .inr (.inl 5), .inr (.inl 10)])), (5, .inr (.inr (.inr (3, [6, 7, 8, 9])))), (6, .inr (.inl (0, 16, hd 0))), (7, .inr (.inl (0, 16, hd 1))), (8, .inr (.inl (0, 16, hd 2))), (9, .inr (.inl (0, 16, hd 3)))]) _
          refine ex_istore cg_136 (ix := 14) (pc' := 30) (L' := [some (.inr (.inl 0)), some (.inl (.int x)), some (.inl (.int y)), some (.inl (.int v)), some (.inl (.int zo))]) rfl rfl rfl rfl ?_
          refine ex_iload cg_136 (ix := 15) (pc' := 32) rfl rfl rfl ?_
          refine ex_if cg_136 (ix := 16) (t := 42) (pc' := 35) rfl rfl rfl (fun hb32 => ?_) (fun hb32 => ?_)
          · have hb32 : zo.toInt = 0 := hb32
            have hok0 : zo = Int32.ofInt 0 := by
              rcases hzo with ⟨_, q⟩ | ⟨_, _, q⟩ | ⟨_, _, q⟩
              · rw [q] at hb32
                exact absurd hb32 (by decide +kernel)
              · rw [q] at hb32
                exact absurd hb32 (by decide +kernel)
              · exact q
            have hok : okC x y v := by
              rcases hzo with ⟨_, q⟩ | ⟨_, _, q⟩ | ⟨q1, q2, _⟩
              · rw [hok0] at q
                exact absurd q (by decide +kernel)
              · rw [hok0] at q
                exact absurd q (by decide +kernel)
              · exact ⟨hz1, hz2, by omega, by omega⟩
            refine ex_aload_n cg_136 (ix := 21) (pc' := 43) rfl rfl rfl ?_
            refine ex_getfield cg_136 (ix := 22) (pc' := 46) rfl rfl rfl rfl rfl ?_
            refine ex_callV cg_136 (ix := 23) (pc' := 49) (As := []) (r := []) rfl rfl rfl (ct_fpo (g := g) (fk := fk) (pf := pf) (pt := pt) (pr := pr)) (by first | decide | omega) rfl rfl rfl ⟨rfl, trivial⟩ rfl rfl (fun v h2 hq => ?_)
            obtain ⟨rfl, rfl⟩ := hq
            show cx_T _ 136 _ 49 ([some (.inr (.inl 0)), some (.inl (.int x)), some (.inl (.int y)), some (.inl (.int v)), some (.inl (.int zo))], [], [(0, .inl (10, [.inr (.inl 1), .inr (.inl 2), .inr (.inl 15), .inr (.inl 21), .inr (.inl 43), .inr (.inl 68), .inr (.inl 77), .inr (.inl 87), .inr (.inl 101), .inr (.inl 107), .inr (.inl 113), .inl (.int dy)])), (1, .inr (.inl (0, 7, r))), (43, .inl (4, [.inr (.inl 2), .inr (.inl 44), .inr (.inl 45), .inr (.inl 46), .inr (.inl 47), .inr (.inl 48), .inr (.inl 49), .inr (.inl 50), .inr (.inl 57), .inr (.inl 58), .inr (.inl 66), .inr (.inl 67), .inl (.int g), .inl (.int fk), .inl (.int (Int32.ofInt (-9))), .inl (.int pt), .inl (.int pr)])), (2, .inl (8, [.inr (.inl 3), .inr (.inl 4), .inr (.inl 5), .inr (.inl 10)])), (5, .inr (.inr (.inr (3, [6, 7, 8, 9])))), (6, .inr (.inl (0, 16, hd 0))), (7, .inr (.inl (0, 16, hd 1))), (8, .inr (.inl (0, 16, hd 2))), (9, .inr (.inl (0, 16, hd 3)))]) _
            refine ex_aload_n cg_136 (ix := 24) (pc' := 50) rfl rfl rfl ?_
            refine ex_getfield cg_136 (ix := 25) (pc' := 53) rfl rfl rfl rfl rfl ?_
            refine ex_iload_n cg_136 (ix := 26) (pc' := 54) rfl rfl rfl ?_
            refine ex_iload_n cg_136 (ix := 27) (pc' := 55) rfl rfl rfl ?_
            refine ex_iload_n cg_136 (ix := 28) (pc' := 56) rfl rfl rfl ?_
            refine ex_callV cg_136 (ix := 29) (pc' := 59) (As := [.inl (.int x), .inl (.int y), .inl (.int v)]) (r := []) rfl rfl rfl (ct_ph (hd := hd) (x := x) (y := y) (v := v) hok.1 hok.2.1) (by first | decide | omega) rfl rfl rfl ⟨rfl, rfl, rfl, rfl, rfl, rfl, trivial⟩ rfl rfl (fun v h2 hq => ?_)
            obtain ⟨rfl, rfl⟩ := hq
            show cx_T _ 136 _ 59 ([some (.inr (.inl 0)), some (.inl (.int x)), some (.inl (.int y)), some (.inl (.int v)), some (.inl (.int zo))], [.inl (.int (hd x.toNatClampNeg y.toNatClampNeg))], [(0, .inl (10, [.inr (.inl 1), .inr (.inl 2), .inr (.inl 15), .inr (.inl 21), .inr (.inl 43), .inr (.inl 68), .inr (.inl 77), .inr (.inl 87), .inr (.inl 101), .inr (.inl 107), .inr (.inl 113), .inl (.int dy)])), (1, .inr (.inl (0, 7, r))), (43, .inl (4, [.inr (.inl 2), .inr (.inl 44), .inr (.inl 45), .inr (.inl 46), .inr (.inl 47), .inr (.inl 48), .inr (.inl 49), .inr (.inl 50), .inr (.inl 57), .inr (.inl 58), .inr (.inl 66), .inr (.inl 67), .inl (.int g), .inl (.int fk), .inl (.int (Int32.ofInt (-9))), .inl (.int pt), .inl (.int pr)])), (2, .inl (8, [.inr (.inl 3), .inr (.inl 4), .inr (.inl 5), .inr (.inl 10)])), (5, .inr (.inr (.inr (3, [6, 7, 8, 9])))), (6, .inr (.inl (0, 16, (up2 hd x.toNatClampNeg (upd (hd x.toNatClampNeg) y.toNatClampNeg v)) 0))), (7, .inr (.inl (0, 16, (up2 hd x.toNatClampNeg (upd (hd x.toNatClampNeg) y.toNatClampNeg v)) 1))), (8, .inr (.inl (0, 16, (up2 hd x.toNatClampNeg (upd (hd x.toNatClampNeg) y.toNatClampNeg v)) 2))), (9, .inr (.inl (0, 16, (up2 hd x.toNatClampNeg (upd (hd x.toNatClampNeg) y.toNatClampNeg v)) 3)))]) _
            refine ex_ireturn cg_136 (ix := 30) rfl ?_
            exact ⟨_, r, _, _, rfl, rfl, Or.inl ⟨hok, rfl, rfl⟩⟩
          · have hb32 : ¬ (zo.toInt = 0) := hb32
            have hbz : ¬ zo.toInt = 0 := hb32
            refine ex_aload_n cg_136 (ix := 17) (pc' := 36) rfl rfl rfl ?_
            refine ex_iload cg_136 (ix := 18) (pc' := 38) rfl rfl rfl ?_
            refine ex_callV cg_136 (ix := 19) (pc' := 41) (As := [.inl (.int zo)]) (r := []) rfl rfl rfl (ct_xref (dy := dy) (x := zo) (r := r) (by omega) (by omega)) (by first | decide | omega) rfl rfl rfl ⟨rfl, rfl, trivial⟩ rfl rfl (fun v h2 hq => ?_)
            obtain ⟨rfl, r2, rfl⟩ := hq
            show cx_T _ 136 _ 41 ([some (.inr (.inl 0)), some (.inl (.int x)), some (.inl (.int y)), some (.inl (.int v)), some (.inl (.int zo))], [.inl (.int zo)], [(0, .inl (10, [.inr (.inl 1), .inr (.inl 2), .inr (.inl 15), .inr (.inl 21), .inr (.inl 43), .inr (.inl 68), .inr (.inl 77), .inr (.inl 87), .inr (.inl 101), .inr (.inl 107), .inr (.inl 113), .inl (.int dy)])), (1, .inr (.inl (0, 7, r2))), (43, .inl (4, [.inr (.inl 2), .inr (.inl 44), .inr (.inl 45), .inr (.inl 46), .inr (.inl 47), .inr (.inl 48), .inr (.inl 49), .inr (.inl 50), .inr (.inl 57), .inr (.inl 58), .inr (.inl 66), .inr (.inl 67), .inl (.int g), .inl (.int fk), .inl (.int pf), .inl (.int pt), .inl (.int pr)])), (2, .inl (8, [.inr (.inl 3), .inr (.inl 4), .inr (.inl 5), .inr (.inl 10)])), (5, .inr (.inr (.inr (3, [6, 7, 8, 9])))), (6, .inr (.inl (0, 16, hd 0))), (7, .inr (.inl (0, 16, hd 1))), (8, .inr (.inl (0, 16, hd 2))), (9, .inr (.inl (0, 16, hd 3)))]) _
            refine ex_ireturn cg_136 (ix := 20) rfl ?_
            refine ⟨_, r2, hd, pf, rfl, rfl, Or.inr ⟨fun hok => ?_, rfl, rfl⟩⟩
            unfold okC at hok
            first
            | (exact absurd hok.1 hz1)
            | (exact absurd hok.2.1 hz2)
            | (rcases hzo with ⟨u, q⟩ | ⟨u1, u2, q⟩ | ⟨u1, u2, q⟩
               · omega
               · omega
               · rw [q] at hbz
                 exact hbz (by decide +kernel))
        · have hb11 : ¬ (¬ (Int32.ofInt 1).toInt = 0) := hb11
          exfalso; first | omega | exact absurd hb11 (by decide +kernel)
      · show cx_T _ 136 _ 11 ([some (.inr (.inl 0)), some (.inl (.int x)), some (.inl (.int y)), some (.inl (.int v)), none], [.inl (.int (Int32.ofInt 0))], [(0, .inl (10, [.inr (.inl 1), .inr (.inl 2), .inr (.inl 15), .inr (.inl 21), .inr (.inl 43), .inr (.inl 68), .inr (.inl 77), .inr (.inl 87), .inr (.inl 101), .inr (.inl 107), .inr (.inl 113), .inl (.int dy)])), (1, .inr (.inl (0, 7, r))), (43, .inl (4, [.inr (.inl 2), .inr (.inl 44), .inr (.inl 45), .inr (.inl 46), .inr (.inl 47), .inr (.inl 48), .inr (.inl 49), .inr (.inl 50), .inr (.inl 57), .inr (.inl 58), .inr (.inl 66), .inr (.inl 67), .inl (.int g), .inl (.int fk), .inl (.int pf), .inl (.int pt), .inl (.int pr)])), (2, .inl (8, [.inr (.inl 3), .inr (.inl 4), .inr (.inl 5), .inr (.inl 10)])), (5, .inr (.inr (.inr (3, [6, 7, 8, 9])))), (6, .inr (.inl (0, 16, hd 0))), (7, .inr (.inl (0, 16, hd 1))), (8, .inr (.inl (0, 16, hd 2))), (9, .inr (.inl (0, 16, hd 3)))]) _
        refine ex_if cg_136 (ix := 5) (t := 20) (pc' := 14) rfl rfl rfl (fun hb11 => ?_) (fun hb11 => ?_)
        · have hb11 : ¬ (Int32.ofInt 0).toInt = 0 := hb11
          exfalso; first | omega | exact absurd hb11 (by decide +kernel)
        · have hb11 : ¬ (¬ (Int32.ofInt 0).toInt = 0) := hb11
          refine ex_aload_n cg_136 (ix := 6) (pc' := 15) rfl rfl rfl ?_
          refine ex_iconst cg_136 (ix := 7) (pc' := 16) rfl rfl ?_
          refine ex_callV cg_136 (ix := 8) (pc' := 19) (As := [.inl (.int (Int32.ofInt (-1)))]) (r := []) rfl rfl rfl (ct_xref (dy := dy) (x := Int32.ofInt (-1)) (r := r) (by omega) (by omega)) (by first | decide | omega) rfl rfl rfl ⟨rfl, rfl, trivial⟩ rfl rfl (fun v h2 hq => ?_)
          obtain ⟨rfl, r2, rfl⟩ := hq
          show cx_T _ 136 _ 19 ([some (.inr (.inl 0)), some (.inl (.int x)), some (.inl (.int y)), some (.inl (.int v)), none], [.inl (.int (Int32.ofInt (-1)))], [(0, .inl (10, [.inr (.inl 1), .inr (.inl 2), .inr (.inl 15), .inr (.inl 21), .inr (.inl 43), .inr (.inl 68), .inr (.inl 77), .inr (.inl 87), .inr (.inl 101), .inr (.inl 107), .inr (.inl 113), .inl (.int dy)])), (1, .inr (.inl (0, 7, r2))), (43, .inl (4, [.inr (.inl 2), .inr (.inl 44), .inr (.inl 45), .inr (.inl 46), .inr (.inl 47), .inr (.inl 48), .inr (.inl 49), .inr (.inl 50), .inr (.inl 57), .inr (.inl 58), .inr (.inl 66), .inr (.inl 67), .inl (.int g), .inl (.int fk), .inl (.int pf), .inl (.int pt), .inl (.int pr)])), (2, .inl (8, [.inr (.inl 3), .inr (.inl 4), .inr (.inl 5), .inr (.inl 10)])), (5, .inr (.inr (.inr (3, [6, 7, 8, 9])))), (6, .inr (.inl (0, 16, hd 0))), (7, .inr (.inl (0, 16, hd 1))), (8, .inr (.inl (0, 16, hd 2))), (9, .inr (.inl (0, 16, hd 3)))]) _
          refine ex_ireturn cg_136 (ix := 9) rfl ?_
          refine ⟨_, r2, hd, pf, rfl, rfl, Or.inr ⟨fun hok => ?_, rfl, rfl⟩⟩
          unfold okC at hok
          first
          | (exact absurd hok.1 hz1)
          | (exact absurd hok.2.1 hz2)
          | (rcases hzo with ⟨u, q⟩ | ⟨u1, u2, q⟩ | ⟨u1, u2, q⟩
             · omega
             · omega
             · rw [q] at hbz
               exact hbz (by decide +kernel))
  · show cx_T _ 136 _ 4 ([some (.inr (.inl 0)), some (.inl (.int x)), some (.inl (.int y)), some (.inl (.int v)), none], [.inl (.int (Int32.ofInt 0))], [(0, .inl (10, [.inr (.inl 1), .inr (.inl 2), .inr (.inl 15), .inr (.inl 21), .inr (.inl 43), .inr (.inl 68), .inr (.inl 77), .inr (.inl 87), .inr (.inl 101), .inr (.inl 107), .inr (.inl 113), .inl (.int dy)])), (1, .inr (.inl (0, 7, r))), (43, .inl (4, [.inr (.inl 2), .inr (.inl 44), .inr (.inl 45), .inr (.inl 46), .inr (.inl 47), .inr (.inl 48), .inr (.inl 49), .inr (.inl 50), .inr (.inl 57), .inr (.inl 58), .inr (.inl 66), .inr (.inl 67), .inl (.int g), .inl (.int fk), .inl (.int pf), .inl (.int pt), .inl (.int pr)])), (2, .inl (8, [.inr (.inl 3), .inr (.inl 4), .inr (.inl 5), .inr (.inl 10)])), (5, .inr (.inr (.inr (3, [6, 7, 8, 9])))), (6, .inr (.inl (0, 16, hd 0))), (7, .inr (.inl (0, 16, hd 1))), (8, .inr (.inl (0, 16, hd 2))), (9, .inr (.inl (0, 16, hd 3)))]) _
    refine ex_if cg_136 (ix := 2) (t := 14) (pc' := 7) rfl rfl rfl (fun hb4 => ?_) (fun hb4 => ?_)
    · have hb4 : (Int32.ofInt 0).toInt = 0 := hb4
      refine ex_aload_n cg_136 (ix := 6) (pc' := 15) rfl rfl rfl ?_
      refine ex_iconst cg_136 (ix := 7) (pc' := 16) rfl rfl ?_
      refine ex_callV cg_136 (ix := 8) (pc' := 19) (As := [.inl (.int (Int32.ofInt (-1)))]) (r := []) rfl rfl rfl (ct_xref (dy := dy) (x := Int32.ofInt (-1)) (r := r) (by omega) (by omega)) (by first | decide | omega) rfl rfl rfl ⟨rfl, rfl, trivial⟩ rfl rfl (fun v h2 hq => ?_)
      obtain ⟨rfl, r2, rfl⟩ := hq
      show cx_T _ 136 _ 19 ([some (.inr (.inl 0)), some (.inl (.int x)), some (.inl (.int y)), some (.inl (.int v)), none], [.inl (.int (Int32.ofInt (-1)))], [(0, .inl (10, [.inr (.inl 1), .inr (.inl 2), .inr (.inl 15), .inr (.inl 21), .inr (.inl 43), .inr (.inl 68), .inr (.inl 77), .inr (.inl 87), .inr (.inl 101), .inr (.inl 107), .inr (.inl 113), .inl (.int dy)])), (1, .inr (.inl (0, 7, r2))), (43, .inl (4, [.inr (.inl 2), .inr (.inl 44), .inr (.inl 45), .inr (.inl 46), .inr (.inl 47), .inr (.inl 48), .inr (.inl 49), .inr (.inl 50), .inr (.inl 57), .inr (.inl 58), .inr (.inl 66), .inr (.inl 67), .inl (.int g), .inl (.int fk), .inl (.int pf), .inl (.int pt), .inl (.int pr)])), (2, .inl (8, [.inr (.inl 3), .inr (.inl 4), .inr (.inl 5), .inr (.inl 10)])), (5, .inr (.inr (.inr (3, [6, 7, 8, 9])))), (6, .inr (.inl (0, 16, hd 0))), (7, .inr (.inl (0, 16, hd 1))), (8, .inr (.inl (0, 16, hd 2))), (9, .inr (.inl (0, 16, hd 3)))]) _
      refine ex_ireturn cg_136 (ix := 9) rfl ?_
      refine ⟨_, r2, hd, pf, rfl, rfl, Or.inr ⟨fun hok => ?_, rfl, rfl⟩⟩
      unfold okC at hok
      first
      | (exact absurd hok.1 hz1)
      | (exact absurd hok.2.1 hz2)
      | (rcases hzo with ⟨u, q⟩ | ⟨u1, u2, q⟩ | ⟨u1, u2, q⟩
         · omega
         · omega
         · rw [q] at hbz
           exact hbz (by decide +kernel))
    · have hb4 : ¬ ((Int32.ofInt 0).toInt = 0) := hb4
      exfalso; first | omega | exact absurd hb4 (by decide +kernel)
theorem ct_mmile {mi : Nat → Int32} {ml : Nat → Int64} {mm r : Nat → Int32} {x v : Int32} : cx_Ct 5 186 [.inr (.inl 119), .inl (.int x), .inl (.int v)] ([(119, .inl (11, vs_119 mi ml)), (126, .inr (.inl (0, 7, r))), (120, .inr (.inl (0, 4, mm)))]) (fun w h2 => ∃ (z : Int32) (mi2 r2 mm2 : Nat → Int32), w = some (.inl (.int z)) ∧ h2 = [(119, .inl (11, vs_119 mi2 ml)), (126, .inr (.inl (0, 7, r2))), (120, .inr (.inl (0, 4, mm2)))] ∧ ((okM x v ∧ mm2 = upd mm x.toNatClampNeg v ∧ mi2 = upi (upi mi 0 (Int32.ofInt 0)) 22 (Int32.ofInt (-1))) ∨ (¬ okM x v ∧ mm2 = mm ∧ mi2 = upi mi 0 (Int32.ofInt 0)))) := by
  have kcm6 : (Int32.ofInt (-6)).toInt = -6 := by decide +kernel
  have kcm4 : (Int32.ofInt (-4)).toInt = -4 := by decide +kernel
  have kcm1 : (Int32.ofInt (-1)).toInt = -1 := by decide +kernel
  have kc0 : (Int32.ofInt 0).toInt = 0 := by decide +kernel
  have kc1 : (Int32.ofInt 1).toInt = 1 := by decide +kernel
  have kc40 : (Int32.ofInt 40).toInt = 40 := by decide +kernel
  refine cx_Ct.of cg_186 (nL := 4) rfl rfl rfl ?_
  show cx_T 5 186 [119, 126, 120] 0 ([some (.inr (.inl 119)), some (.inl (.int x)), some (.inl (.int v)), none], [], ([(119, .inl (11, vs_119 mi ml)), (126, .inr (.inl (0, 7, r))), (120, .inr (.inl (0, 4, mm)))])) _
  refine ex_aload_n cg_186 (ix := 0) (pc' := 1) rfl rfl rfl ?_
  refine ex_iconst cg_186 (ix := 1) (pc' := 2) rfl rfl ?_
  refine ex_putfield cg_186 (ix := 2) (pc' := 5) (h' := [(119, .inl (11, vs_119 (upi mi 0 (Int32.ofInt 0)) ml)), (126, .inr (.inl (0, 7, r))), (120, .inr (.inl (0, 4, mm)))]) rfl rfl rfl rfl rfl rfl rfl rfl ?_
  refine ex_iload_n cg_186 (ix := 3) (pc' := 6) rfl rfl rfl ?_
  refine ex_callS cg_186 (ix := 4) (pc' := 9) (As := [.inl (.int x)]) (r := []) rfl rfl rfl (ct_mbeach (x := x)) (by first | decide | omega) rfl rfl trivial rfl rfl (fun v h2 hq => ?_)
  obtain ⟨z1, rfl, rfl, hz1⟩ := hq
  rcases hz1 with ⟨hz1, rfl⟩ | ⟨hz1, rfl⟩
  · show cx_T _ 186 _ 9 ([some (.inr (.inl 119)), some (.inl (.int x)), some (.inl (.int v)), none], [.inl (.int (Int32.ofInt 1))], [(119, .inl (11, vs_119 (upi mi 0 (Int32.ofInt 0)) ml)), (126, .inr (.inl (0, 7, r))), (120, .inr (.inl (0, 4, mm)))]) _
    refine ex_if cg_186 (ix := 5) (t := 18) (pc' := 12) rfl rfl rfl (fun hb9 => ?_) (fun hb9 => ?_)
    · have hb9 : ¬ (Int32.ofInt 1).toInt = 0 := hb9
      refine ex_iload_n cg_186 (ix := 10) (pc' := 19) rfl rfl rfl ?_
      refine ex_if cg_186 (ix := 11) (t := 29) (pc' := 22) rfl rfl rfl (fun hb19 => ?_) (fun hb19 => ?_)
      · have hb19 : 0 ≤ v.toInt := hb19
        refine ex_iload_n cg_186 (ix := 16) (pc' := 30) rfl rfl rfl ?_
        refine ex_bipush cg_186 (ix := 17) (pc' := 32) rfl rfl rfl ?_
        refine ex_icmp cg_186 (ix := 18) (t := 42) (pc' := 35) rfl rfl rfl (fun hb32 => ?_) (fun hb32 => ?_)
        · have hb32 : v.toInt ≤ (Int32.ofInt 40).toInt := hb32
          refine ex_aload_n cg_186 (ix := 23) (pc' := 43) rfl rfl rfl ?_
          refine ex_getfield cg_186 (ix := 24) (pc' := 46) (v := .inr (.inl 120)) rfl rfl rfl rfl rfl ?_
          refine ex_iload_n cg_186 (ix := 25) (pc' := 47) rfl rfl rfl ?_
          refine ex_iaload cg_186 (ix := 26) (pc' := 48) rfl rfl (by omega) (by omega) rfl ?_
          refine ex_istore_n cg_186 (ix := 27) (pc' := 49) (L' := [some (.inr (.inl 119)), some (.inl (.int x)), some (.inl (.int v)), some (.inl (.int (mm x.toNatClampNeg)))]) rfl rfl rfl rfl ?_
          refine ex_aload_n cg_186 (ix := 28) (pc' := 50) rfl rfl rfl ?_
          refine ex_getfield cg_186 (ix := 29) (pc' := 53) (v := .inr (.inl 120)) rfl rfl rfl rfl rfl ?_
          refine ex_iload_n cg_186 (ix := 30) (pc' := 54) rfl rfl rfl ?_
          refine ex_iload_n cg_186 (ix := 31) (pc' := 55) rfl rfl rfl ?_
          refine ex_iastore cg_186 (ix := 32) (pc' := 56) (h' := [(119, .inl (11, vs_119 (upi mi 0 (Int32.ofInt 0)) ml)), (126, .inr (.inl (0, 7, r))), (120, .inr (.inl (0, 4, upd mm x.toNatClampNeg v)))]) rfl rfl (by omega) (by omega) rfl rfl ?_
          refine ex_aload_n cg_186 (ix := 33) (pc' := 57) rfl rfl rfl ?_
          refine ex_iconst cg_186 (ix := 34) (pc' := 58) rfl rfl ?_
          refine ex_putfield cg_186 (ix := 35) (pc' := 61) (h' := [(119, .inl (11, vs_119 (upi (upi mi 0 (Int32.ofInt 0)) 22 (Int32.ofInt (-1))) ml)), (126, .inr (.inl (0, 7, r))), (120, .inr (.inl (0, 4, upd mm x.toNatClampNeg v)))]) rfl rfl rfl rfl rfl rfl rfl rfl ?_
          refine ex_iload_n cg_186 (ix := 36) (pc' := 62) rfl rfl rfl ?_
          refine ex_ireturn cg_186 (ix := 37) rfl ?_
          exact ⟨_, (upi (upi mi 0 (Int32.ofInt 0)) 22 (Int32.ofInt (-1))), r, _, rfl, rfl, Or.inl ⟨⟨hz1, by omega, by omega⟩, rfl, rfl⟩⟩
        · have hb32 : ¬ (v.toInt ≤ (Int32.ofInt 40).toInt) := hb32
          refine ex_aload_n cg_186 (ix := 19) (pc' := 36) rfl rfl rfl ?_
          refine ex_bipush cg_186 (ix := 20) (pc' := 38) rfl rfl rfl ?_
          refine ex_callV cg_186 (ix := 21) (pc' := 41) (As := [.inl (.int (Int32.ofInt (-6)))]) (r := []) rfl rfl rfl (ct_mref (x := Int32.ofInt (-6)) (mi := upi mi 0 (Int32.ofInt 0)) (ml := ml) (r := r) (by omega) (by omega)) (by first | decide | omega) rfl rfl rfl ⟨rfl, rfl, trivial⟩ rfl rfl (fun v h2 hq => ?_)
          obtain ⟨rfl, r2, rfl⟩ := hq
          show cx_T _ 186 _ 41 ([some (.inr (.inl 119)), some (.inl (.int x)), some (.inl (.int v)), none], [.inl (.int (Int32.ofInt (-6)))], [(119, .inl (11, vs_119 (upi mi 0 (Int32.ofInt 0)) ml)), (126, .inr (.inl (0, 7, r2))), (120, .inr (.inl (0, 4, mm)))]) _
          refine ex_ireturn cg_186 (ix := 22) rfl ?_
          refine ⟨_, upi mi 0 (Int32.ofInt 0), r2, mm, rfl, rfl, Or.inr ⟨fun hok => ?_, rfl, rfl⟩⟩
          unfold okM at hok
          first
          | omega
          | exact absurd hok.1 hz1
          | exact absurd hok.2.1 hz2
      · have hb19 : ¬ (0 ≤ v.toInt) := hb19
        refine ex_aload_n cg_186 (ix := 12) (pc' := 23) rfl rfl rfl ?_
        refine ex_bipush cg_186 (ix := 13) (pc' := 25) rfl rfl rfl ?_
        refine ex_callV cg_186 (ix := 14) (pc' := 28) (As := [.inl (.int (Int32.ofInt (-4)))]) (r := []) rfl rfl rfl (ct_mref (x := Int32.ofInt (-4)) (mi := upi mi 0 (Int32.ofInt 0)) (ml := ml) (r := r) (by omega) (by omega)) (by first | decide | omega) rfl rfl rfl ⟨rfl, rfl, trivial⟩ rfl rfl (fun v h2 hq => ?_)
        obtain ⟨rfl, r2, rfl⟩ := hq
        show cx_T _ 186 _ 28 ([some (.inr (.inl 119)), some (.inl (.int x)), some (.inl (.int v)), none], [.inl (.int (Int32.ofInt (-4)))], [(119, .inl (11, vs_119 (upi mi 0 (Int32.ofInt 0)) ml)), (126, .inr (.inl (0, 7, r2))), (120, .inr (.inl (0, 4, mm)))]) _
        refine ex_ireturn cg_186 (ix := 15) rfl ?_
        refine ⟨_, upi mi 0 (Int32.ofInt 0), r2, mm, rfl, rfl, Or.inr ⟨fun hok => ?_, rfl, rfl⟩⟩
        unfold okM at hok
        first
        | omega
        | exact absurd hok.1 hz1
        | exact absurd hok.2.1 hz2
    · have hb9 : ¬ (¬ (Int32.ofInt 1).toInt = 0) := hb9
      exfalso; first | omega | exact absurd hb9 (by decide +kernel)
  · show cx_T _ 186 _ 9 ([some (.inr (.inl 119)), some (.inl (.int x)), some (.inl (.int v)), none], [.inl (.int (Int32.ofInt 0))], [(119, .inl (11, vs_119 (upi mi 0 (Int32.ofInt 0)) ml)), (126, .inr (.inl (0, 7, r))), (120, .inr (.inl (0, 4, mm)))]) _
    refine ex_if cg_186 (ix := 5) (t := 18) (pc' := 12) rfl rfl rfl (fun hb9 => ?_) (fun hb9 => ?_)
    · have hb9 : ¬ (Int32.ofInt 0).toInt = 0 := hb9
      exfalso; first | omega | exact absurd hb9 (by decide +kernel)
    · have hb9 : ¬ (¬ (Int32.ofInt 0).toInt = 0) := hb9
      refine ex_aload_n cg_186 (ix := 6) (pc' := 13) rfl rfl rfl ?_
      refine ex_iconst cg_186 (ix := 7) (pc' := 14) rfl rfl ?_
      refine ex_callV cg_186 (ix := 8) (pc' := 17) (As := [.inl (.int (Int32.ofInt (-1)))]) (r := []) rfl rfl rfl (ct_mref (x := Int32.ofInt (-1)) (mi := upi mi 0 (Int32.ofInt 0)) (ml := ml) (r := r) (by omega) (by omega)) (by first | decide | omega) rfl rfl rfl ⟨rfl, rfl, trivial⟩ rfl rfl (fun v h2 hq => ?_)
      obtain ⟨rfl, r2, rfl⟩ := hq
      show cx_T _ 186 _ 17 ([some (.inr (.inl 119)), some (.inl (.int x)), some (.inl (.int v)), none], [.inl (.int (Int32.ofInt (-1)))], [(119, .inl (11, vs_119 (upi mi 0 (Int32.ofInt 0)) ml)), (126, .inr (.inl (0, 7, r2))), (120, .inr (.inl (0, 4, mm)))]) _
      refine ex_ireturn cg_186 (ix := 9) rfl ?_
      refine ⟨_, upi mi 0 (Int32.ofInt 0), r2, mm, rfl, rfl, Or.inr ⟨fun hok => ?_, rfl, rfl⟩⟩
      unfold okM at hok
      first
      | omega
      | exact absurd hok.1 hz1
      | exact absurd hok.2.1 hz2
theorem ct_mguards {mi : Nat → Int32} {ml : Nat → Int64} {r : Nat → Int32} {n : Int32} : cx_Ct 5 205 [.inr (.inl 119), .inl (.int n)] ([(119, .inl (11, vs_119 mi ml)), (126, .inr (.inl (0, 7, r)))]) (fun w h2 => ∃ (z : Int32) (mi2 r2 : Nat → Int32), w = some (.inl (.int z)) ∧ h2 = [(119, .inl (11, vs_119 mi2 ml)), (126, .inr (.inl (0, 7, r2)))] ∧ ((okU n ∧ mi2 = upi (upi (upi mi 0 (Int32.ofInt 0)) 8 n) 22 (Int32.ofInt (-1))) ∨ (¬ okU n ∧ mi2 = upi mi 0 (Int32.ofInt 0)))) := by
  have kcm6 : (Int32.ofInt (-6)).toInt = -6 := by decide +kernel
  have kcm4 : (Int32.ofInt (-4)).toInt = -4 := by decide +kernel
  have kcm1 : (Int32.ofInt (-1)).toInt = -1 := by decide +kernel
  have kc0 : (Int32.ofInt 0).toInt = 0 := by decide +kernel
  have kc1 : (Int32.ofInt 1).toInt = 1 := by decide +kernel
  have kc4 : (Int32.ofInt 4).toInt = 4 := by decide +kernel
  refine cx_Ct.of cg_205 (nL := 3) rfl rfl rfl ?_
  show cx_T 5 205 [119, 126] 0 ([some (.inr (.inl 119)), some (.inl (.int n)), none], [], ([(119, .inl (11, vs_119 mi ml)), (126, .inr (.inl (0, 7, r)))])) _
  refine ex_aload_n cg_205 (ix := 0) (pc' := 1) rfl rfl rfl ?_
  refine ex_iconst cg_205 (ix := 1) (pc' := 2) rfl rfl ?_
  refine ex_putfield cg_205 (ix := 2) (pc' := 5) (h' := [(119, .inl (11, vs_119 (upi mi 0 (Int32.ofInt 0)) ml)), (126, .inr (.inl (0, 7, r)))]) rfl rfl rfl rfl rfl rfl rfl rfl ?_
  refine ex_iload_n cg_205 (ix := 3) (pc' := 6) rfl rfl rfl ?_
  refine ex_if cg_205 (ix := 4) (t := 16) (pc' := 9) rfl rfl rfl (fun hb6 => ?_) (fun hb6 => ?_)
  · have hb6 : 0 ≤ n.toInt := hb6
    refine ex_iload_n cg_205 (ix := 9) (pc' := 17) rfl rfl rfl ?_
    refine ex_iconst cg_205 (ix := 10) (pc' := 18) rfl rfl ?_
    refine ex_icmp cg_205 (ix := 11) (t := 28) (pc' := 21) rfl rfl rfl (fun hb18 => ?_) (fun hb18 => ?_)
    · have hb18 : n.toInt ≤ (Int32.ofInt 4).toInt := hb18
      refine ex_aload_n cg_205 (ix := 16) (pc' := 29) rfl rfl rfl ?_
      refine ex_getfield cg_205 (ix := 17) (pc' := 32) (v := .inl (.int (mi 8))) rfl rfl rfl rfl rfl ?_
      refine ex_istore_n cg_205 (ix := 18) (pc' := 33) (L' := [some (.inr (.inl 119)), some (.inl (.int n)), some (.inl (.int (mi 8)))]) rfl rfl rfl rfl ?_
      refine ex_aload_n cg_205 (ix := 19) (pc' := 34) rfl rfl rfl ?_
      refine ex_iload_n cg_205 (ix := 20) (pc' := 35) rfl rfl rfl ?_
      refine ex_putfield cg_205 (ix := 21) (pc' := 38) (h' := [(119, .inl (11, vs_119 (upi (upi mi 0 (Int32.ofInt 0)) 8 n) ml)), (126, .inr (.inl (0, 7, r)))]) rfl rfl rfl rfl rfl rfl rfl rfl ?_
      refine ex_aload_n cg_205 (ix := 22) (pc' := 39) rfl rfl rfl ?_
      refine ex_iconst cg_205 (ix := 23) (pc' := 40) rfl rfl ?_
      refine ex_putfield cg_205 (ix := 24) (pc' := 43) (h' := [(119, .inl (11, vs_119 (upi (upi (upi mi 0 (Int32.ofInt 0)) 8 n) 22 (Int32.ofInt (-1))) ml)), (126, .inr (.inl (0, 7, r)))]) rfl rfl rfl rfl rfl rfl rfl rfl ?_
      refine ex_iload_n cg_205 (ix := 25) (pc' := 44) rfl rfl rfl ?_
      refine ex_ireturn cg_205 (ix := 26) rfl ?_
      exact ⟨_, (upi (upi (upi mi 0 (Int32.ofInt 0)) 8 n) 22 (Int32.ofInt (-1))), r, rfl, rfl, Or.inl ⟨⟨by omega, by omega⟩, rfl⟩⟩
    · have hb18 : ¬ (n.toInt ≤ (Int32.ofInt 4).toInt) := hb18
      refine ex_aload_n cg_205 (ix := 12) (pc' := 22) rfl rfl rfl ?_
      refine ex_bipush cg_205 (ix := 13) (pc' := 24) rfl rfl rfl ?_
      refine ex_callV cg_205 (ix := 14) (pc' := 27) (As := [.inl (.int (Int32.ofInt (-6)))]) (r := []) rfl rfl rfl (ct_mref (x := Int32.ofInt (-6)) (mi := upi mi 0 (Int32.ofInt 0)) (ml := ml) (r := r) (by omega) (by omega)) (by first | decide | omega) rfl rfl rfl ⟨rfl, rfl, trivial⟩ rfl rfl (fun v h2 hq => ?_)
      obtain ⟨rfl, r2, rfl⟩ := hq
      show cx_T _ 205 _ 27 ([some (.inr (.inl 119)), some (.inl (.int n)), none], [.inl (.int (Int32.ofInt (-6)))], [(119, .inl (11, vs_119 (upi mi 0 (Int32.ofInt 0)) ml)), (126, .inr (.inl (0, 7, r2)))]) _
      refine ex_ireturn cg_205 (ix := 15) rfl ?_
      refine ⟨_, upi mi 0 (Int32.ofInt 0), r2, rfl, rfl, Or.inr ⟨fun hok => ?_, rfl⟩⟩
      unfold okU at hok
      first
      | omega
      | exact absurd hok.1 hz1
      | exact absurd hok.2.1 hz2
  · have hb6 : ¬ (0 ≤ n.toInt) := hb6
    refine ex_aload_n cg_205 (ix := 5) (pc' := 10) rfl rfl rfl ?_
    refine ex_bipush cg_205 (ix := 6) (pc' := 12) rfl rfl rfl ?_
    refine ex_callV cg_205 (ix := 7) (pc' := 15) (As := [.inl (.int (Int32.ofInt (-4)))]) (r := []) rfl rfl rfl (ct_mref (x := Int32.ofInt (-4)) (mi := upi mi 0 (Int32.ofInt 0)) (ml := ml) (r := r) (by omega) (by omega)) (by first | decide | omega) rfl rfl rfl ⟨rfl, rfl, trivial⟩ rfl rfl (fun v h2 hq => ?_)
    obtain ⟨rfl, r2, rfl⟩ := hq
    show cx_T _ 205 _ 15 ([some (.inr (.inl 119)), some (.inl (.int n)), none], [.inl (.int (Int32.ofInt (-4)))], [(119, .inl (11, vs_119 (upi mi 0 (Int32.ofInt 0)) ml)), (126, .inr (.inl (0, 7, r2)))]) _
    refine ex_ireturn cg_205 (ix := 8) rfl ?_
    refine ⟨_, upi mi 0 (Int32.ofInt 0), r2, rfl, rfl, Or.inr ⟨fun hok => ?_, rfl⟩⟩
    unfold okU at hok
    first
    | omega
    | exact absurd hok.1 hz1
    | exact absurd hok.2.1 hz2
theorem ct_mcrowd {mi : Nat → Int32} {ml : Nat → Int64} {mh r : Nat → Int32} {x y v : Int32} : cx_Ct 5 204 [.inr (.inl 119), .inl (.int x), .inl (.int y), .inl (.int v)] ([(119, .inl (11, vs_119 mi ml)), (126, .inr (.inl (0, 7, r))), (124, .inr (.inl (0, 64, mh)))]) (fun w h2 => ∃ (z : Int32) (mi2 r2 mh2 : Nat → Int32), w = some (.inl (.int z)) ∧ h2 = [(119, .inl (11, vs_119 mi2 ml)), (126, .inr (.inl (0, 7, r2))), (124, .inr (.inl (0, 64, mh2)))] ∧ ((okC x y v ∧ mh2 = upd mh (16 * x.toNatClampNeg + y.toNatClampNeg) v ∧ mi2 = upi (upi mi 0 (Int32.ofInt 0)) 22 (Int32.ofInt (-1))) ∨ (¬ okC x y v ∧ mh2 = mh ∧ mi2 = upi mi 0 (Int32.ofInt 0)))) := by
  have kcm6 : (Int32.ofInt (-6)).toInt = -6 := by decide +kernel
  have kcm4 : (Int32.ofInt (-4)).toInt = -4 := by decide +kernel
  have kcm1 : (Int32.ofInt (-1)).toInt = -1 := by decide +kernel
  have kc0 : (Int32.ofInt 0).toInt = 0 := by decide +kernel
  have kc1 : (Int32.ofInt 1).toInt = 1 := by decide +kernel
  have kc16 : (Int32.ofInt 16).toInt = 16 := by decide +kernel
  have kc999 : (Int32.ofInt 999).toInt = 999 := by decide +kernel
  refine cx_Ct.of cg_204 (nL := 5) rfl rfl rfl ?_
  show cx_T 5 204 [119, 126, 124] 0 ([some (.inr (.inl 119)), some (.inl (.int x)), some (.inl (.int y)), some (.inl (.int v)), none], [], ([(119, .inl (11, vs_119 mi ml)), (126, .inr (.inl (0, 7, r))), (124, .inr (.inl (0, 64, mh)))])) _
  refine ex_aload_n cg_204 (ix := 0) (pc' := 1) rfl rfl rfl ?_
  refine ex_iconst cg_204 (ix := 1) (pc' := 2) rfl rfl ?_
  refine ex_putfield cg_204 (ix := 2) (pc' := 5) (h' := [(119, .inl (11, vs_119 (upi mi 0 (Int32.ofInt 0)) ml)), (126, .inr (.inl (0, 7, r))), (124, .inr (.inl (0, 64, mh)))]) rfl rfl rfl rfl rfl rfl rfl rfl ?_
  refine ex_iload_n cg_204 (ix := 3) (pc' := 6) rfl rfl rfl ?_
  refine ex_callS cg_204 (ix := 4) (pc' := 9) (As := [.inl (.int x)]) (r := []) rfl rfl rfl (ct_mbeach (x := x)) (by first | decide | omega) rfl rfl trivial rfl rfl (fun v h2 hq => ?_)
  obtain ⟨z1, rfl, rfl, hz1⟩ := hq
  rcases hz1 with ⟨hz1, rfl⟩ | ⟨hz1, rfl⟩
  · show cx_T _ 204 _ 9 ([some (.inr (.inl 119)), some (.inl (.int x)), some (.inl (.int y)), some (.inl (.int v)), none], [.inl (.int (Int32.ofInt 1))], [(119, .inl (11, vs_119 (upi mi 0 (Int32.ofInt 0)) ml)), (126, .inr (.inl (0, 7, r))), (124, .inr (.inl (0, 64, mh)))]) _
    refine ex_if cg_204 (ix := 5) (t := 19) (pc' := 12) rfl rfl rfl (fun hb9 => ?_) (fun hb9 => ?_)
    · have hb9 : (Int32.ofInt 1).toInt = 0 := hb9
      exfalso; first | omega | exact absurd hb9 (by decide +kernel)
    · have hb9 : ¬ ((Int32.ofInt 1).toInt = 0) := hb9
      refine ex_iload_n cg_204 (ix := 6) (pc' := 13) rfl rfl rfl ?_
      refine ex_callS cg_204 (ix := 7) (pc' := 16) (As := [.inl (.int y)]) (r := []) rfl rfl rfl (ct_mhour (x := y)) (by first | decide | omega) rfl rfl trivial rfl rfl (fun v h2 hq => ?_)
      obtain ⟨z2, rfl, rfl, hz2⟩ := hq
      rcases hz2 with ⟨hz2, rfl⟩ | ⟨hz2, rfl⟩
      · show cx_T _ 204 _ 16 ([some (.inr (.inl 119)), some (.inl (.int x)), some (.inl (.int y)), some (.inl (.int v)), none], [.inl (.int (Int32.ofInt 1))], [(119, .inl (11, vs_119 (upi mi 0 (Int32.ofInt 0)) ml)), (126, .inr (.inl (0, 7, r))), (124, .inr (.inl (0, 64, mh)))]) _
        refine ex_if cg_204 (ix := 8) (t := 25) (pc' := 19) rfl rfl rfl (fun hb16 => ?_) (fun hb16 => ?_)
        · have hb16 : ¬ (Int32.ofInt 1).toInt = 0 := hb16
          refine ex_iload_n cg_204 (ix := 13) (pc' := 26) rfl rfl rfl ?_
          refine ex_if cg_204 (ix := 14) (t := 36) (pc' := 29) rfl rfl rfl (fun hb26 => ?_) (fun hb26 => ?_)
          · have hb26 : 0 ≤ v.toInt := hb26
            refine ex_iload_n cg_204 (ix := 19) (pc' := 37) rfl rfl rfl ?_
            refine ex_sipush cg_204 (ix := 20) (pc' := 40) rfl rfl rfl ?_
            refine ex_icmp cg_204 (ix := 21) (t := 50) (pc' := 43) rfl rfl rfl (fun hb40 => ?_) (fun hb40 => ?_)
            · have hb40 : v.toInt ≤ (Int32.ofInt 999).toInt := hb40
              have hx1 := ab_clamp (x := x) hz1.1
              have hy1 := ab_clamp (x := y) hz2.1
              have hx16 : (Int32.ofInt 16 * x).toInt = 16 * x.toInt := cx_mulk (by decide +kernel) (by omega) (by omega)
              have hix : (Int32.ofInt 16 * x + y).toInt = ((16 * x.toNatClampNeg + y.toNatClampNeg : Nat) : Int) := by
                rw [cx_addc (by omega) (by omega), hx16]
                omega
              refine ex_aload_n cg_204 (ix := 26) (pc' := 51) rfl rfl rfl ?_
              refine ex_getfield cg_204 (ix := 27) (pc' := 54) (v := .inr (.inl 124)) rfl rfl rfl rfl rfl ?_
              refine ex_bipush cg_204 (ix := 28) (pc' := 56) rfl rfl rfl ?_
              refine ex_iload_n cg_204 (ix := 29) (pc' := 57) rfl rfl rfl ?_
              refine ex_imul cg_204 (ix := 30) (pc' := 58) rfl rfl ?_
              refine ex_iload_n cg_204 (ix := 31) (pc' := 59) rfl rfl rfl ?_
              refine ex_iadd cg_204 (ix := 32) (pc' := 60) rfl rfl ?_
              refine ex_iaload cg_204 (ix := 33) (pc' := 61) rfl rfl (by omega) (by omega) rfl ?_
              refine ex_istore cg_204 (ix := 34) (pc' := 63) (L' := [some (.inr (.inl 119)), some (.inl (.int x)), some (.inl (.int y)), some (.inl (.int v)), some (.inl (.int (mh (((Int32.ofInt 16) * x) + y).toNatClampNeg)))]) rfl rfl rfl rfl ?_
              refine ex_aload_n cg_204 (ix := 35) (pc' := 64) rfl rfl rfl ?_
              refine ex_getfield cg_204 (ix := 36) (pc' := 67) (v := .inr (.inl 124)) rfl rfl rfl rfl rfl ?_
              refine ex_bipush cg_204 (ix := 37) (pc' := 69) rfl rfl rfl ?_
              refine ex_iload_n cg_204 (ix := 38) (pc' := 70) rfl rfl rfl ?_
              refine ex_imul cg_204 (ix := 39) (pc' := 71) rfl rfl ?_
              refine ex_iload_n cg_204 (ix := 40) (pc' := 72) rfl rfl rfl ?_
              refine ex_iadd cg_204 (ix := 41) (pc' := 73) rfl rfl ?_
              refine ex_iload_n cg_204 (ix := 42) (pc' := 74) rfl rfl rfl ?_
              refine ex_iastore cg_204 (ix := 43) (pc' := 75) (h' := [(119, .inl (11, vs_119 (upi mi 0 (Int32.ofInt 0)) ml)), (126, .inr (.inl (0, 7, r))), (124, .inr (.inl (0, 64, upd mh (((Int32.ofInt 16) * x) + y).toNatClampNeg v)))]) rfl rfl (by omega) (by omega) rfl rfl ?_
              refine ex_aload_n cg_204 (ix := 44) (pc' := 76) rfl rfl rfl ?_
              refine ex_iconst cg_204 (ix := 45) (pc' := 77) rfl rfl ?_
              refine ex_putfield cg_204 (ix := 46) (pc' := 80) (h' := [(119, .inl (11, vs_119 (upi (upi mi 0 (Int32.ofInt 0)) 22 (Int32.ofInt (-1))) ml)), (126, .inr (.inl (0, 7, r))), (124, .inr (.inl (0, 64, upd mh (((Int32.ofInt 16) * x) + y).toNatClampNeg v)))]) rfl rfl rfl rfl rfl rfl rfl rfl ?_
              refine ex_iload cg_204 (ix := 47) (pc' := 82) rfl rfl rfl ?_
              refine ex_ireturn cg_204 (ix := 48) rfl ?_
              exact ⟨_, (upi (upi mi 0 (Int32.ofInt 0)) 22 (Int32.ofInt (-1))), r, _, rfl, rfl, Or.inl ⟨⟨hz1, hz2, by omega, by omega⟩, by rw [cx_clamp hix], rfl⟩⟩
            · have hb40 : ¬ (v.toInt ≤ (Int32.ofInt 999).toInt) := hb40
              refine ex_aload_n cg_204 (ix := 22) (pc' := 44) rfl rfl rfl ?_
              refine ex_bipush cg_204 (ix := 23) (pc' := 46) rfl rfl rfl ?_
              refine ex_callV cg_204 (ix := 24) (pc' := 49) (As := [.inl (.int (Int32.ofInt (-6)))]) (r := []) rfl rfl rfl (ct_mref (x := Int32.ofInt (-6)) (mi := upi mi 0 (Int32.ofInt 0)) (ml := ml) (r := r) (by omega) (by omega)) (by first | decide | omega) rfl rfl rfl ⟨rfl, rfl, trivial⟩ rfl rfl (fun v h2 hq => ?_)
              obtain ⟨rfl, r2, rfl⟩ := hq
              show cx_T _ 204 _ 49 ([some (.inr (.inl 119)), some (.inl (.int x)), some (.inl (.int y)), some (.inl (.int v)), none], [.inl (.int (Int32.ofInt (-6)))], [(119, .inl (11, vs_119 (upi mi 0 (Int32.ofInt 0)) ml)), (126, .inr (.inl (0, 7, r2))), (124, .inr (.inl (0, 64, mh)))]) _
              refine ex_ireturn cg_204 (ix := 25) rfl ?_
              refine ⟨_, upi mi 0 (Int32.ofInt 0), r2, mh, rfl, rfl, Or.inr ⟨fun hok => ?_, rfl, rfl⟩⟩
              unfold okC at hok
              first
              | omega
              | exact absurd hok.1 hz1
              | exact absurd hok.2.1 hz2
          · have hb26 : ¬ (0 ≤ v.toInt) := hb26
            refine ex_aload_n cg_204 (ix := 15) (pc' := 30) rfl rfl rfl ?_
            refine ex_bipush cg_204 (ix := 16) (pc' := 32) rfl rfl rfl ?_
            refine ex_callV cg_204 (ix := 17) (pc' := 35) (As := [.inl (.int (Int32.ofInt (-4)))]) (r := []) rfl rfl rfl (ct_mref (x := Int32.ofInt (-4)) (mi := upi mi 0 (Int32.ofInt 0)) (ml := ml) (r := r) (by omega) (by omega)) (by first | decide | omega) rfl rfl rfl ⟨rfl, rfl, trivial⟩ rfl rfl (fun v h2 hq => ?_)
            obtain ⟨rfl, r2, rfl⟩ := hq
            show cx_T _ 204 _ 35 ([some (.inr (.inl 119)), some (.inl (.int x)), some (.inl (.int y)), some (.inl (.int v)), none], [.inl (.int (Int32.ofInt (-4)))], [(119, .inl (11, vs_119 (upi mi 0 (Int32.ofInt 0)) ml)), (126, .inr (.inl (0, 7, r2))), (124, .inr (.inl (0, 64, mh)))]) _
            refine ex_ireturn cg_204 (ix := 18) rfl ?_
            refine ⟨_, upi mi 0 (Int32.ofInt 0), r2, mh, rfl, rfl, Or.inr ⟨fun hok => ?_, rfl, rfl⟩⟩
            unfold okC at hok
            first
            | omega
            | exact absurd hok.1 hz1
            | exact absurd hok.2.1 hz2
        · have hb16 : ¬ (¬ (Int32.ofInt 1).toInt = 0) := hb16
          exfalso; first | omega | exact absurd hb16 (by decide +kernel)
      · show cx_T _ 204 _ 16 ([some (.inr (.inl 119)), some (.inl (.int x)), some (.inl (.int y)), some (.inl (.int v)), none], [.inl (.int (Int32.ofInt 0))], [(119, .inl (11, vs_119 (upi mi 0 (Int32.ofInt 0)) ml)), (126, .inr (.inl (0, 7, r))), (124, .inr (.inl (0, 64, mh)))]) _
        refine ex_if cg_204 (ix := 8) (t := 25) (pc' := 19) rfl rfl rfl (fun hb16 => ?_) (fun hb16 => ?_)
        · have hb16 : ¬ (Int32.ofInt 0).toInt = 0 := hb16
          exfalso; first | omega | exact absurd hb16 (by decide +kernel)
        · have hb16 : ¬ (¬ (Int32.ofInt 0).toInt = 0) := hb16
          refine ex_aload_n cg_204 (ix := 9) (pc' := 20) rfl rfl rfl ?_
          refine ex_iconst cg_204 (ix := 10) (pc' := 21) rfl rfl ?_
          refine ex_callV cg_204 (ix := 11) (pc' := 24) (As := [.inl (.int (Int32.ofInt (-1)))]) (r := []) rfl rfl rfl (ct_mref (x := Int32.ofInt (-1)) (mi := upi mi 0 (Int32.ofInt 0)) (ml := ml) (r := r) (by omega) (by omega)) (by first | decide | omega) rfl rfl rfl ⟨rfl, rfl, trivial⟩ rfl rfl (fun v h2 hq => ?_)
          obtain ⟨rfl, r2, rfl⟩ := hq
          show cx_T _ 204 _ 24 ([some (.inr (.inl 119)), some (.inl (.int x)), some (.inl (.int y)), some (.inl (.int v)), none], [.inl (.int (Int32.ofInt (-1)))], [(119, .inl (11, vs_119 (upi mi 0 (Int32.ofInt 0)) ml)), (126, .inr (.inl (0, 7, r2))), (124, .inr (.inl (0, 64, mh)))]) _
          refine ex_ireturn cg_204 (ix := 12) rfl ?_
          refine ⟨_, upi mi 0 (Int32.ofInt 0), r2, mh, rfl, rfl, Or.inr ⟨fun hok => ?_, rfl, rfl⟩⟩
          unfold okC at hok
          first
          | omega
          | exact absurd hok.1 hz1
          | exact absurd hok.2.1 hz2
  · show cx_T _ 204 _ 9 ([some (.inr (.inl 119)), some (.inl (.int x)), some (.inl (.int y)), some (.inl (.int v)), none], [.inl (.int (Int32.ofInt 0))], [(119, .inl (11, vs_119 (upi mi 0 (Int32.ofInt 0)) ml)), (126, .inr (.inl (0, 7, r))), (124, .inr (.inl (0, 64, mh)))]) _
    refine ex_if cg_204 (ix := 5) (t := 19) (pc' := 12) rfl rfl rfl (fun hb9 => ?_) (fun hb9 => ?_)
    · have hb9 : (Int32.ofInt 0).toInt = 0 := hb9
      refine ex_aload_n cg_204 (ix := 9) (pc' := 20) rfl rfl rfl ?_
      refine ex_iconst cg_204 (ix := 10) (pc' := 21) rfl rfl ?_
      refine ex_callV cg_204 (ix := 11) (pc' := 24) (As := [.inl (.int (Int32.ofInt (-1)))]) (r := []) rfl rfl rfl (ct_mref (x := Int32.ofInt (-1)) (mi := upi mi 0 (Int32.ofInt 0)) (ml := ml) (r := r) (by omega) (by omega)) (by first | decide | omega) rfl rfl rfl ⟨rfl, rfl, trivial⟩ rfl rfl (fun v h2 hq => ?_)
      obtain ⟨rfl, r2, rfl⟩ := hq
      show cx_T _ 204 _ 24 ([some (.inr (.inl 119)), some (.inl (.int x)), some (.inl (.int y)), some (.inl (.int v)), none], [.inl (.int (Int32.ofInt (-1)))], [(119, .inl (11, vs_119 (upi mi 0 (Int32.ofInt 0)) ml)), (126, .inr (.inl (0, 7, r2))), (124, .inr (.inl (0, 64, mh)))]) _
      refine ex_ireturn cg_204 (ix := 12) rfl ?_
      refine ⟨_, upi mi 0 (Int32.ofInt 0), r2, mh, rfl, rfl, Or.inr ⟨fun hok => ?_, rfl, rfl⟩⟩
      unfold okC at hok
      first
      | omega
      | exact absurd hok.1 hz1
      | exact absurd hok.2.1 hz2
    · have hb9 : ¬ ((Int32.ofInt 0).toInt = 0) := hb9
      exfalso; first | omega | exact absurd hb9 (by decide +kernel)
end
