noncomputable section
theorem cg_70 : cx_G 70 tb_70 TbX6 (some .long) := cx_G.of gok_70
theorem cg_149 : cx_G 149 tb_149 TbX10 (some .long) := cx_G.of gok_149
theorem cg_232 : cx_G 232 tb_232 TbX11 (some .long) := cx_G.of gok_232
theorem cg_260 : cx_G 260 tb_260 TbX11 (some .int) := cx_G.of gok_260
theorem ct_pa {bf : Int64} {dl ds dr md bo : Int32} {f : Nat → Int64} {p : Int32} (hp0 : 0 ≤ p.toInt) (hp1 : p.toInt < 32) : cx_Ct 2 70 [.inr (.inl 77), .inl (.int p)] ([(77, .inl (6, [.inr (.inl 78), .inr (.inl 79), .inr (.inl 80), .inr (.inl 81), .inr (.inl 85), .inr (.inl 86), .inl (.long bf), .inl (.int dl), .inl (.int ds), .inl (.int dr), .inl (.int md), .inl (.int bo)])), (79, .inr (.inr (.inl (32, f))))]) (fun v h2 => v = some (.inl (.long (f p.toNatClampNeg))) ∧ h2 = [(77, .inl (6, [.inr (.inl 78), .inr (.inl 79), .inr (.inl 80), .inr (.inl 81), .inr (.inl 85), .inr (.inl 86), .inl (.long bf), .inl (.int dl), .inl (.int ds), .inl (.int dr), .inl (.int md), .inl (.int bo)])), (79, .inr (.inr (.inl (32, f))))]) := by
  refine cx_Ct.of cg_70 (nL := 2) rfl rfl rfl ?_
  show cx_T 2 70 [77, 79] 0 ([some (.inr (.inl 77)), some (.inl (.int p))], [], [(77, .inl (6, [.inr (.inl 78), .inr (.inl 79), .inr (.inl 80), .inr (.inl 81), .inr (.inl 85), .inr (.inl 86), .inl (.long bf), .inl (.int dl), .inl (.int ds), .inl (.int dr), .inl (.int md), .inl (.int bo)])), (79, .inr (.inr (.inl (32, f))))]) _
  refine ex_aload_n cg_70 (ix := 0) (pc' := 1) rfl rfl rfl ?_
  refine ex_getfield cg_70 (ix := 1) (pc' := 4) rfl rfl rfl rfl rfl ?_
  refine ex_iload_n cg_70 (ix := 2) (pc' := 5) rfl rfl rfl ?_
  refine ex_laload cg_70 (ix := 3) (pc' := 6) rfl rfl (by omega) (by omega) rfl ?_
  refine ex_lreturn cg_70 (ix := 4) rfl ?_
  exact ⟨rfl, rfl⟩
theorem ct_nowA {dy : Int32} {bf : Int64} {dl ds dr md bo : Int32} {f : Nat → Int64} {p al : Int32} (ha : ¬ al.toInt = 0) : cx_Ct 3 149 [.inr (.inl 0), .inl (.int p), .inl (.int al)] ([(0, .inl (10, [.inr (.inl 1), .inr (.inl 2), .inr (.inl 15), .inr (.inl 21), .inr (.inl 43), .inr (.inl 68), .inr (.inl 77), .inr (.inl 87), .inr (.inl 101), .inr (.inl 107), .inr (.inl 113), .inl (.int dy)])), (77, .inl (6, [.inr (.inl 78), .inr (.inl 79), .inr (.inl 80), .inr (.inl 81), .inr (.inl 85), .inr (.inl 86), .inl (.long bf), .inl (.int dl), .inl (.int ds), .inl (.int dr), .inl (.int md), .inl (.int bo)])), (79, .inr (.inr (.inl (32, f))))]) (fun v h2 => v = some (.inl (.long (sumL f 32))) ∧ h2 = [(0, .inl (10, [.inr (.inl 1), .inr (.inl 2), .inr (.inl 15), .inr (.inl 21), .inr (.inl 43), .inr (.inl 68), .inr (.inl 77), .inr (.inl 87), .inr (.inl 101), .inr (.inl 107), .inr (.inl 113), .inl (.int dy)])), (77, .inl (6, [.inr (.inl 78), .inr (.inl 79), .inr (.inl 80), .inr (.inl 81), .inr (.inl 85), .inr (.inl 86), .inl (.long bf), .inl (.int dl), .inl (.int ds), .inl (.int dr), .inl (.int md), .inl (.int bo)])), (79, .inr (.inr (.inl (32, f))))]) := by
  refine cx_Ct.of cg_149 (nL := 3) rfl rfl rfl ?_
  show cx_T 3 149 [0, 77, 79] 0 ([some (.inr (.inl 0)), some (.inl (.int p)), some (.inl (.int al))], [], [(0, .inl (10, [.inr (.inl 1), .inr (.inl 2), .inr (.inl 15), .inr (.inl 21), .inr (.inl 43), .inr (.inl 68), .inr (.inl 77), .inr (.inl 87), .inr (.inl 101), .inr (.inl 107), .inr (.inl 113), .inl (.int dy)])), (77, .inl (6, [.inr (.inl 78), .inr (.inl 79), .inr (.inl 80), .inr (.inl 81), .inr (.inl 85), .inr (.inl 86), .inl (.long bf), .inl (.int dl), .inl (.int ds), .inl (.int dr), .inl (.int md), .inl (.int bo)])), (79, .inr (.inr (.inl (32, f))))]) _
  refine ex_iload_n cg_149 (ix := 0) (pc' := 1) rfl rfl rfl ?_
  refine ex_if cg_149 (ix := 1) (t := 12) (pc' := 4) rfl rfl rfl (fun hb1 => ?_) (fun hb1 => ?_)
  · have hb1 : al.toInt = 0 := hb1
    exfalso; first | omega | exact absurd hb1 (by decide +kernel)
  · have hb1 : ¬ (al.toInt = 0) := hb1
    refine ex_aload_n cg_149 (ix := 2) (pc' := 5) rfl rfl rfl ?_
    refine ex_getfield cg_149 (ix := 3) (pc' := 8) rfl rfl rfl rfl rfl ?_
    refine ex_callV cg_149 (ix := 4) (pc' := 11) (As := []) (r := []) rfl rfl rfl (ct_tot (bf := bf) (dl := dl) (ds := ds) (dr := dr) (md := md) (bo := bo) (f := f)) (by first | decide | omega) rfl rfl rfl ⟨rfl, rfl, trivial⟩ rfl rfl (fun v h2 hq => ?_)
    obtain ⟨rfl, rfl⟩ := hq
    show cx_T _ 149 _ 11 ([some (.inr (.inl 0)), some (.inl (.int p)), some (.inl (.int al))], [.inl (.long (sumL f 32))], [(0, .inl (10, [.inr (.inl 1), .inr (.inl 2), .inr (.inl 15), .inr (.inl 21), .inr (.inl 43), .inr (.inl 68), .inr (.inl 77), .inr (.inl 87), .inr (.inl 101), .inr (.inl 107), .inr (.inl 113), .inl (.int dy)])), (77, .inl (6, [.inr (.inl 78), .inr (.inl 79), .inr (.inl 80), .inr (.inl 81), .inr (.inl 85), .inr (.inl 86), .inl (.long bf), .inl (.int dl), .inl (.int ds), .inl (.int dr), .inl (.int md), .inl (.int bo)])), (79, .inr (.inr (.inl (32, f))))]) _
    refine ex_lreturn cg_149 (ix := 5) rfl ?_
    exact ⟨rfl, rfl⟩
theorem ct_nowB {dy : Int32} {bf : Int64} {dl ds dr md bo : Int32} {f : Nat → Int64} {p al : Int32} (ha : al.toInt = 0) (hp : 0 ≤ p.toInt ∧ p.toInt < 32) : cx_Ct 3 149 [.inr (.inl 0), .inl (.int p), .inl (.int al)] ([(0, .inl (10, [.inr (.inl 1), .inr (.inl 2), .inr (.inl 15), .inr (.inl 21), .inr (.inl 43), .inr (.inl 68), .inr (.inl 77), .inr (.inl 87), .inr (.inl 101), .inr (.inl 107), .inr (.inl 113), .inl (.int dy)])), (77, .inl (6, [.inr (.inl 78), .inr (.inl 79), .inr (.inl 80), .inr (.inl 81), .inr (.inl 85), .inr (.inl 86), .inl (.long bf), .inl (.int dl), .inl (.int ds), .inl (.int dr), .inl (.int md), .inl (.int bo)])), (79, .inr (.inr (.inl (32, f))))]) (fun v h2 => v = some (.inl (.long (f p.toNatClampNeg))) ∧ h2 = [(0, .inl (10, [.inr (.inl 1), .inr (.inl 2), .inr (.inl 15), .inr (.inl 21), .inr (.inl 43), .inr (.inl 68), .inr (.inl 77), .inr (.inl 87), .inr (.inl 101), .inr (.inl 107), .inr (.inl 113), .inl (.int dy)])), (77, .inl (6, [.inr (.inl 78), .inr (.inl 79), .inr (.inl 80), .inr (.inl 81), .inr (.inl 85), .inr (.inl 86), .inl (.long bf), .inl (.int dl), .inl (.int ds), .inl (.int dr), .inl (.int md), .inl (.int bo)])), (79, .inr (.inr (.inl (32, f))))]) := by
  have kc0 : (Int32.ofInt 0).toInt = 0 := by decide +kernel
  have kc1 : (Int32.ofInt 1).toInt = 1 := by decide +kernel
  refine cx_Ct.of cg_149 (nL := 3) rfl rfl rfl ?_
  show cx_T 3 149 [0, 77, 79] 0 ([some (.inr (.inl 0)), some (.inl (.int p)), some (.inl (.int al))], [], [(0, .inl (10, [.inr (.inl 1), .inr (.inl 2), .inr (.inl 15), .inr (.inl 21), .inr (.inl 43), .inr (.inl 68), .inr (.inl 77), .inr (.inl 87), .inr (.inl 101), .inr (.inl 107), .inr (.inl 113), .inl (.int dy)])), (77, .inl (6, [.inr (.inl 78), .inr (.inl 79), .inr (.inl 80), .inr (.inl 81), .inr (.inl 85), .inr (.inl 86), .inl (.long bf), .inl (.int dl), .inl (.int ds), .inl (.int dr), .inl (.int md), .inl (.int bo)])), (79, .inr (.inr (.inl (32, f))))]) _
  refine ex_iload_n cg_149 (ix := 0) (pc' := 1) rfl rfl rfl ?_
  refine ex_if cg_149 (ix := 1) (t := 12) (pc' := 4) rfl rfl rfl (fun hb1 => ?_) (fun hb1 => ?_)
  · have hb1 : al.toInt = 0 := hb1
    refine ex_iload_n cg_149 (ix := 6) (pc' := 13) rfl rfl rfl ?_
    refine ex_callS cg_149 (ix := 7) (pc' := 16) (As := [.inl (.int p)]) (r := []) rfl rfl rfl (ct_xplace (x := p)) (by first | decide | omega) rfl rfl trivial rfl rfl (fun v h2 hq => ?_)
    obtain ⟨z, rfl, rfl, hz1⟩ := hq
    rcases hz1 with ⟨hz1, rfl⟩ | ⟨hz1, rfl⟩
    · show cx_T _ 149 _ 16 ([some (.inr (.inl 0)), some (.inl (.int p)), some (.inl (.int al))], [.inl (.int (Int32.ofInt 1))], [(0, .inl (10, [.inr (.inl 1), .inr (.inl 2), .inr (.inl 15), .inr (.inl 21), .inr (.inl 43), .inr (.inl 68), .inr (.inl 77), .inr (.inl 87), .inr (.inl 101), .inr (.inl 107), .inr (.inl 113), .inl (.int dy)])), (77, .inl (6, [.inr (.inl 78), .inr (.inl 79), .inr (.inl 80), .inr (.inl 81), .inr (.inl 85), .inr (.inl 86), .inl (.long bf), .inl (.int dl), .inl (.int ds), .inl (.int dr), .inl (.int md), .inl (.int bo)])), (79, .inr (.inr (.inl (32, f))))]) _
      refine ex_if cg_149 (ix := 8) (t := 29) (pc' := 19) rfl rfl rfl (fun hb16 => ?_) (fun hb16 => ?_)
      · have hb16 : ¬ (Int32.ofInt 1).toInt = 0 := hb16
        refine ex_aload_n cg_149 (ix := 14) (pc' := 30) rfl rfl rfl ?_
        refine ex_getfield cg_149 (ix := 15) (pc' := 33) rfl rfl rfl rfl rfl ?_
        refine ex_iload_n cg_149 (ix := 16) (pc' := 34) rfl rfl rfl ?_
        refine ex_callV cg_149 (ix := 17) (pc' := 37) (As := [.inl (.int p)]) (r := []) rfl rfl rfl (ct_pa (bf := bf) (dl := dl) (ds := ds) (dr := dr) (md := md) (bo := bo) (f := f) (p := p) hz1.1 hz1.2) (by first | decide | omega) rfl rfl rfl ⟨rfl, rfl, trivial⟩ rfl rfl (fun v h2 hq => ?_)
        obtain ⟨rfl, rfl⟩ := hq
        show cx_T _ 149 _ 37 ([some (.inr (.inl 0)), some (.inl (.int p)), some (.inl (.int al))], [.inl (.long (f p.toNatClampNeg))], [(0, .inl (10, [.inr (.inl 1), .inr (.inl 2), .inr (.inl 15), .inr (.inl 21), .inr (.inl 43), .inr (.inl 68), .inr (.inl 77), .inr (.inl 87), .inr (.inl 101), .inr (.inl 107), .inr (.inl 113), .inl (.int dy)])), (77, .inl (6, [.inr (.inl 78), .inr (.inl 79), .inr (.inl 80), .inr (.inl 81), .inr (.inl 85), .inr (.inl 86), .inl (.long bf), .inl (.int dl), .inl (.int ds), .inl (.int dr), .inl (.int md), .inl (.int bo)])), (79, .inr (.inr (.inl (32, f))))]) _
        refine ex_lreturn cg_149 (ix := 18) rfl ?_
        exact ⟨rfl, rfl⟩
      · have hb16 : ¬ (¬ (Int32.ofInt 1).toInt = 0) := hb16
        exfalso; first | omega | exact absurd hb16 (by decide +kernel)
    · show cx_T _ 149 _ 16 ([some (.inr (.inl 0)), some (.inl (.int p)), some (.inl (.int al))], [.inl (.int (Int32.ofInt 0))], [(0, .inl (10, [.inr (.inl 1), .inr (.inl 2), .inr (.inl 15), .inr (.inl 21), .inr (.inl 43), .inr (.inl 68), .inr (.inl 77), .inr (.inl 87), .inr (.inl 101), .inr (.inl 107), .inr (.inl 113), .inl (.int dy)])), (77, .inl (6, [.inr (.inl 78), .inr (.inl 79), .inr (.inl 80), .inr (.inl 81), .inr (.inl 85), .inr (.inl 86), .inl (.long bf), .inl (.int dl), .inl (.int ds), .inl (.int dr), .inl (.int md), .inl (.int bo)])), (79, .inr (.inr (.inl (32, f))))]) _
      refine ex_if cg_149 (ix := 8) (t := 29) (pc' := 19) rfl rfl rfl (fun hb16 => ?_) (fun hb16 => ?_)
      · have hb16 : ¬ (Int32.ofInt 0).toInt = 0 := hb16
        exfalso; first | omega | exact absurd hb16 (by decide +kernel)
      · have hb16 : ¬ (¬ (Int32.ofInt 0).toInt = 0) := hb16
        exfalso; omega
  · have hb1 : ¬ (al.toInt = 0) := hb1
    exfalso; first | omega | exact absurd hb1 (by decide +kernel)
/-- what the reference's now answers, and whether it throws -/
def nwA (p al : Int32) (f : Nat → Int64) (y : Int64) (z : Int32) : Prop := (¬ al.toInt = 0 ∧ z = Int32.ofInt 0 ∧ y = sumL f 32) ∨ (al.toInt = 0 ∧ (0 ≤ p.toInt ∧ p.toInt < 32) ∧ z = Int32.ofInt 0 ∧ y = f p.toNatClampNeg) ∨ (al.toInt = 0 ∧ ¬ (0 ≤ p.toInt ∧ p.toInt < 32) ∧ z = Int32.ofInt 1)
theorem ct_mnow {mi : Nat → Int32} {ml : Nat → Int64} {f : Nat → Int64} {p al : Int32} : cx_Ct 4 232 [.inr (.inl 119), .inl (.int p), .inl (.int al)] ([(119, .inl (11, vs_119 mi ml)), (144, .inr (.inr (.inl (32, f))))]) (fun v h2 => ∃ (y : Int64) (z : Int32), v = some (.inl (.long y)) ∧ h2 = [(119, .inl (11, vs_119 (upi mi 0 z) ml)), (144, .inr (.inr (.inl (32, f))))] ∧ nwA p al f y z) := by
  have kc0 : (Int32.ofInt 0).toInt = 0 := by decide +kernel
  have kc1 : (Int32.ofInt 1).toInt = 1 := by decide +kernel
  refine cx_Ct.of cg_232 (nL := 3) rfl rfl rfl ?_
  show cx_T 4 232 [119, 144] 0 ([some (.inr (.inl 119)), some (.inl (.int p)), some (.inl (.int al))], [], [(119, .inl (11, vs_119 mi ml)), (144, .inr (.inr (.inl (32, f))))]) _
  refine ex_aload_n cg_232 (ix := 0) (pc' := 1) rfl rfl rfl ?_
  refine ex_iload_n cg_232 (ix := 1) (pc' := 2) rfl rfl rfl ?_
  refine ex_if cg_232 (ix := 2) (t := 12) (pc' := 5) rfl rfl rfl (fun hb2 => ?_) (fun hb2 => ?_)
  · have hb2 : ¬ al.toInt = 0 := hb2
    refine ex_iconst cg_232 (ix := 6) (pc' := 13) rfl rfl ?_
    refine ex_goto cg_232 (ix := 7) (pc' := 17) rfl rfl ?_
    refine ex_putfield cg_232 (ix := 9) (pc' := 20) (h' := [(119, .inl (11, vs_119 (upi mi 0 (Int32.ofInt 0)) ml)), (144, .inr (.inr (.inl (32, f))))]) rfl rfl rfl rfl rfl rfl rfl rfl ?_
    refine ex_aload_n cg_232 (ix := 10) (pc' := 21) rfl rfl rfl ?_
    refine ex_getfield cg_232 (ix := 11) (pc' := 24) (v := .inl (.int (Int32.ofInt 0))) rfl rfl rfl rfl rfl ?_
    refine ex_if cg_232 (ix := 12) (t := 31) (pc' := 27) rfl rfl rfl (fun hb24 => ?_) (fun hb24 => ?_)
    · have hb24 : (Int32.ofInt 0).toInt ≤ 0 := hb24
      refine ex_iload_n cg_232 (ix := 15) (pc' := 32) rfl rfl rfl ?_
      refine ex_if cg_232 (ix := 16) (t := 42) (pc' := 35) rfl rfl rfl (fun hb32 => ?_) (fun hb32 => ?_)
      · have hb32 : al.toInt = 0 := hb32
        refine ex_aload_n cg_232 (ix := 20) (pc' := 43) rfl rfl rfl ?_
        refine ex_getfield cg_232 (ix := 21) (pc' := 46) (v := .inr (.inl 144)) rfl rfl rfl rfl rfl ?_
        refine ex_iload_n cg_232 (ix := 22) (pc' := 47) rfl rfl rfl ?_
        refine ex_laload cg_232 (ix := 23) (pc' := 48) rfl rfl (by omega) (by omega) rfl ?_
        refine ex_lreturn cg_232 (ix := 24) rfl ?_
        first | (exfalso; omega) | exact ⟨_, _, rfl, rfl, Or.inr (Or.inl ⟨by omega, hz1, rfl, rfl⟩)⟩
      · have hb32 : ¬ (al.toInt = 0) := hb32
        refine ex_aload_n cg_232 (ix := 17) (pc' := 36) rfl rfl rfl ?_
        refine ex_callV cg_232 (ix := 18) (pc' := 39) (As := []) (r := []) rfl rfl rfl (ct_mall (mi := (upi mi 0 (Int32.ofInt 0))) (ml := ml) (f := f)) (by first | decide | omega) rfl rfl rfl ⟨rfl, rfl, trivial⟩ rfl rfl (fun v h2 hq => ?_)
        obtain ⟨rfl, rfl⟩ := hq
        show cx_T _ 232 _ 39 ([some (.inr (.inl 119)), some (.inl (.int p)), some (.inl (.int al))], [.inl (.long (sumL f 32))], [(119, .inl (11, vs_119 (upi mi 0 (Int32.ofInt 0)) ml)), (144, .inr (.inr (.inl (32, f))))]) _
        refine ex_goto cg_232 (ix := 19) (pc' := 48) rfl rfl ?_
        refine ex_lreturn cg_232 (ix := 24) rfl ?_
        first | (exfalso; omega) | exact ⟨_, _, rfl, rfl, Or.inl ⟨by omega, rfl, rfl⟩⟩
    · have hb24 : ¬ ((Int32.ofInt 0).toInt ≤ 0) := hb24
      exfalso; first | omega | exact absurd hb24 (by decide +kernel)
  · have hb2 : ¬ (¬ al.toInt = 0) := hb2
    refine ex_iload_n cg_232 (ix := 3) (pc' := 6) rfl rfl rfl ?_
    refine ex_callS cg_232 (ix := 4) (pc' := 9) (As := [.inl (.int p)]) (r := [.inr (.inl 119)]) rfl rfl rfl (ct_mplace (x := p)) (by first | decide | omega) rfl rfl trivial rfl rfl (fun v h2 hq => ?_)
    obtain ⟨z, rfl, rfl, hz1⟩ := hq
    rcases hz1 with ⟨hz1, rfl⟩ | ⟨hz1, rfl⟩
    · show cx_T _ 232 _ 9 ([some (.inr (.inl 119)), some (.inl (.int p)), some (.inl (.int al))], [.inl (.int (Int32.ofInt 1)), .inr (.inl 119)], [(119, .inl (11, vs_119 mi ml)), (144, .inr (.inr (.inl (32, f))))]) _
      refine ex_if cg_232 (ix := 5) (t := 16) (pc' := 12) rfl rfl rfl (fun hb9 => ?_) (fun hb9 => ?_)
      · have hb9 : (Int32.ofInt 1).toInt = 0 := hb9
        exfalso; first | omega | exact absurd hb9 (by decide +kernel)
      · have hb9 : ¬ ((Int32.ofInt 1).toInt = 0) := hb9
        refine ex_iconst cg_232 (ix := 6) (pc' := 13) rfl rfl ?_
        refine ex_goto cg_232 (ix := 7) (pc' := 17) rfl rfl ?_
        refine ex_putfield cg_232 (ix := 9) (pc' := 20) (h' := [(119, .inl (11, vs_119 (upi mi 0 (Int32.ofInt 0)) ml)), (144, .inr (.inr (.inl (32, f))))]) rfl rfl rfl rfl rfl rfl rfl rfl ?_
        refine ex_aload_n cg_232 (ix := 10) (pc' := 21) rfl rfl rfl ?_
        refine ex_getfield cg_232 (ix := 11) (pc' := 24) (v := .inl (.int (Int32.ofInt 0))) rfl rfl rfl rfl rfl ?_
        refine ex_if cg_232 (ix := 12) (t := 31) (pc' := 27) rfl rfl rfl (fun hb24 => ?_) (fun hb24 => ?_)
        · have hb24 : (Int32.ofInt 0).toInt ≤ 0 := hb24
          refine ex_iload_n cg_232 (ix := 15) (pc' := 32) rfl rfl rfl ?_
          refine ex_if cg_232 (ix := 16) (t := 42) (pc' := 35) rfl rfl rfl (fun hb32 => ?_) (fun hb32 => ?_)
          · have hb32 : al.toInt = 0 := hb32
            refine ex_aload_n cg_232 (ix := 20) (pc' := 43) rfl rfl rfl ?_
            refine ex_getfield cg_232 (ix := 21) (pc' := 46) (v := .inr (.inl 144)) rfl rfl rfl rfl rfl ?_
            refine ex_iload_n cg_232 (ix := 22) (pc' := 47) rfl rfl rfl ?_
            refine ex_laload cg_232 (ix := 23) (pc' := 48) rfl rfl (by omega) (by omega) rfl ?_
            refine ex_lreturn cg_232 (ix := 24) rfl ?_
            first | (exfalso; omega) | exact ⟨_, _, rfl, rfl, Or.inr (Or.inl ⟨by omega, hz1, rfl, rfl⟩)⟩
          · have hb32 : ¬ (al.toInt = 0) := hb32
            refine ex_aload_n cg_232 (ix := 17) (pc' := 36) rfl rfl rfl ?_
            refine ex_callV cg_232 (ix := 18) (pc' := 39) (As := []) (r := []) rfl rfl rfl (ct_mall (mi := (upi mi 0 (Int32.ofInt 0))) (ml := ml) (f := f)) (by first | decide | omega) rfl rfl rfl ⟨rfl, rfl, trivial⟩ rfl rfl (fun v h2 hq => ?_)
            obtain ⟨rfl, rfl⟩ := hq
            show cx_T _ 232 _ 39 ([some (.inr (.inl 119)), some (.inl (.int p)), some (.inl (.int al))], [.inl (.long (sumL f 32))], [(119, .inl (11, vs_119 (upi mi 0 (Int32.ofInt 0)) ml)), (144, .inr (.inr (.inl (32, f))))]) _
            refine ex_goto cg_232 (ix := 19) (pc' := 48) rfl rfl ?_
            refine ex_lreturn cg_232 (ix := 24) rfl ?_
            first | (exfalso; omega) | exact ⟨_, _, rfl, rfl, Or.inl ⟨by omega, rfl, rfl⟩⟩
        · have hb24 : ¬ ((Int32.ofInt 0).toInt ≤ 0) := hb24
          exfalso; first | omega | exact absurd hb24 (by decide +kernel)
    · show cx_T _ 232 _ 9 ([some (.inr (.inl 119)), some (.inl (.int p)), some (.inl (.int al))], [.inl (.int (Int32.ofInt 0)), .inr (.inl 119)], [(119, .inl (11, vs_119 mi ml)), (144, .inr (.inr (.inl (32, f))))]) _
      refine ex_if cg_232 (ix := 5) (t := 16) (pc' := 12) rfl rfl rfl (fun hb9 => ?_) (fun hb9 => ?_)
      · have hb9 : (Int32.ofInt 0).toInt = 0 := hb9
        refine ex_iconst cg_232 (ix := 8) (pc' := 17) rfl rfl ?_
        refine ex_putfield cg_232 (ix := 9) (pc' := 20) (h' := [(119, .inl (11, vs_119 (upi mi 0 (Int32.ofInt 1)) ml)), (144, .inr (.inr (.inl (32, f))))]) rfl rfl rfl rfl rfl rfl rfl rfl ?_
        refine ex_aload_n cg_232 (ix := 10) (pc' := 21) rfl rfl rfl ?_
        refine ex_getfield cg_232 (ix := 11) (pc' := 24) (v := .inl (.int (Int32.ofInt 1))) rfl rfl rfl rfl rfl ?_
        refine ex_if cg_232 (ix := 12) (t := 31) (pc' := 27) rfl rfl rfl (fun hb24 => ?_) (fun hb24 => ?_)
        · have hb24 : (Int32.ofInt 1).toInt ≤ 0 := hb24
          exfalso; first | omega | exact absurd hb24 (by decide +kernel)
        · have hb24 : ¬ ((Int32.ofInt 1).toInt ≤ 0) := hb24
          refine ex_lconst cg_232 (ix := 13) (pc' := 28) rfl rfl ?_
          refine ex_goto cg_232 (ix := 14) (pc' := 48) rfl rfl ?_
          refine ex_lreturn cg_232 (ix := 24) rfl ?_
          exact ⟨_, _, rfl, rfl, Or.inr (Or.inr ⟨by omega, hz1, rfl⟩)⟩
      · have hb9 : ¬ ((Int32.ofInt 0).toInt = 0) := hb9
        exfalso; first | omega | exact absurd hb9 (by decide +kernel)
theorem ct_mth {mi : Nat → Int32} {ml : Nat → Int64} : cx_Ct 2 260 [.inr (.inl 119)] ([(119, .inl (11, vs_119 mi ml))]) (fun v h2 => v = some (.inl (.int (mi 0))) ∧ h2 = [(119, .inl (11, vs_119 mi ml))]) := by
  refine cx_Ct.of cg_260 (nL := 1) rfl rfl rfl ?_
  show cx_T 2 260 [119] 0 ([some (.inr (.inl 119))], [], [(119, .inl (11, vs_119 mi ml))]) _
  refine ex_aload_n cg_260 (ix := 0) (pc' := 1) rfl rfl rfl ?_
  refine ex_getfield cg_260 (ix := 1) (pc' := 4) (v := .inl (.int (mi 0))) rfl rfl rfl rfl rfl ?_
  refine ex_ireturn cg_260 (ix := 2) rfl ?_
  exact ⟨rfl, rfl⟩
end
