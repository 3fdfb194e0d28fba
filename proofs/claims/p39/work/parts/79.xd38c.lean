noncomputable section
def h_xd (dy : Int32) (r : Nat → Int32) (F : Nat → Nat → Int32) : cx_H := (0, .inl (10, vs_0 dy)) :: (1, .inr (.inl (0, 7, r))) :: h_hc F
/-- what drawn does in the class -/
def dr_x (b c n : Int32) (F : Nat → Nat → Int32) (z : Int32) (F2 : Nat → Nat → Int32) : Prop :=
  (¬ ((0 ≤ b.toInt ∧ b.toInt < 4) ∧ 0 ≤ c.toInt ∧ c.toInt < 24) ∧ z.toInt = -1 ∧ F2 = F) ∨
  (((0 ≤ b.toInt ∧ b.toInt < 4) ∧ 0 ≤ c.toInt ∧ c.toInt < 24) ∧ n.toInt < -1 ∧ z.toInt = -4 ∧ F2 = F) ∨
  (((0 ≤ b.toInt ∧ b.toInt < 4) ∧ 0 ≤ c.toInt ∧ c.toInt < 24) ∧ 30 < n.toInt ∧ z.toInt = -6 ∧ F2 = F) ∨
  (((0 ≤ b.toInt ∧ b.toInt < 4) ∧ 0 ≤ c.toInt ∧ c.toInt < 24) ∧ -1 ≤ n.toInt ∧ n.toInt ≤ 30 ∧ z.toInt = cn_x (F2 b.toNatClampNeg) 24 ∧ F2 = up2 F b.toNatClampNeg (upd (F b.toNatClampNeg) c.toNatClampNeg n))
theorem ct_drawn0 {dy c n : Int32} {r : Nat → Int32} {F : Nat → Nat → Int32} : cx_Ct 5 164 [.inr (.inl 0), .inl (.int (Int32.ofInt 0)), .inl (.int c), .inl (.int n)] (h_xd dy r F) (fun v h2 => ∃ (z : Int32) (r2 : Nat → Int32) (F2 : Nat → Nat → Int32), v = some (.inl (.int z)) ∧ h2 = h_xd dy r2 F2 ∧ dr_x (Int32.ofInt 0) c n F z F2) := by
  have kcm6 : (Int32.ofInt (-6)).toInt = -6 := by decide +kernel
  have kcm4 : (Int32.ofInt (-4)).toInt = -4 := by decide +kernel
  have kcm1 : (Int32.ofInt (-1)).toInt = -1 := by decide +kernel
  have kc0 : (Int32.ofInt 0).toInt = 0 := by decide +kernel
  have kc1 : (Int32.ofInt 1).toInt = 1 := by decide +kernel
  have kc4 : (Int32.ofInt 4).toInt = 4 := by decide +kernel
  have kc24 : (Int32.ofInt 24).toInt = 24 := by decide +kernel
  have kc30 : (Int32.ofInt 30).toInt = 30 := by decide +kernel
  refine cx_Ct.of cg_164 (nL := 5) rfl rfl rfl ?_
  show cx_T 5 164 [0, 1, 113, 114, 115, 116, 117, 118] 0 ([some (.inr (.inl 0)), some (.inl (.int (Int32.ofInt 0))), some (.inl (.int c)), some (.inl (.int n)), none], [], h_xd dy r F) _
  refine ex_iload_n cg_164 (ix := 0) (pc' := 1) rfl rfl rfl ?_
  refine ex_callS cg_164 (ix := 1) (pc' := 4) (As := [.inl (.int (Int32.ofInt 0))]) (r := []) rfl rfl rfl (ct_xbeach (x := Int32.ofInt 0)) (by decide) rfl rfl trivial rfl rfl (fun v h2 hq => ?_)
  obtain ⟨z, rfl, rfl, hz1⟩ := hq
  rcases hz1 with ⟨hz1, rfl⟩ | ⟨hz1, rfl⟩
  · show cx_T _ 164 _ 4 ([some (.inr (.inl 0)), some (.inl (.int (Int32.ofInt 0))), some (.inl (.int c)), some (.inl (.int n)), none], [.inl (.int (Int32.ofInt 1))], [(0, .inl (10, [.inr (.inl 1), .inr (.inl 2), .inr (.inl 15), .inr (.inl 21), .inr (.inl 43), .inr (.inl 68), .inr (.inl 77), .inr (.inl 87), .inr (.inl 101), .inr (.inl 107), .inr (.inl 113), .inl (.int dy)])), (1, .inr (.inl (0, 7, r))), (113, .inl (2, [.inr (.inl 114)])), (114, .inr (.inr (.inr (3, [115, 116, 117, 118])))), (115, .inr (.inl (0, 24, F 0))), (116, .inr (.inl (0, 24, F 1))), (117, .inr (.inl (0, 24, F 2))), (118, .inr (.inl (0, 24, F 3)))]) _
    refine ex_if cg_164 (ix := 2) (t := 14) (pc' := 7) rfl rfl rfl (fun hb4 => ?_) (fun hb4 => ?_)
    · have hb4 : (Int32.ofInt 1).toInt = 0 := hb4
      exfalso; first | omega | exact absurd hb4 (by decide +kernel)
    · have hb4 : ¬ ((Int32.ofInt 1).toInt = 0) := hb4
      refine ex_iload_n cg_164 (ix := 3) (pc' := 8) rfl rfl rfl ?_
      refine ex_callS cg_164 (ix := 4) (pc' := 11) (As := [.inl (.int c)]) (r := []) rfl rfl rfl (ct_xcell (x := c)) (by decide) rfl rfl trivial rfl rfl (fun v h2 hq => ?_)
      obtain ⟨z, rfl, rfl, hz2⟩ := hq
      rcases hz2 with ⟨hz2, rfl⟩ | ⟨hz2, rfl⟩
      · show cx_T _ 164 _ 11 ([some (.inr (.inl 0)), some (.inl (.int (Int32.ofInt 0))), some (.inl (.int c)), some (.inl (.int n)), none], [.inl (.int (Int32.ofInt 1))], [(0, .inl (10, [.inr (.inl 1), .inr (.inl 2), .inr (.inl 15), .inr (.inl 21), .inr (.inl 43), .inr (.inl 68), .inr (.inl 77), .inr (.inl 87), .inr (.inl 101), .inr (.inl 107), .inr (.inl 113), .inl (.int dy)])), (1, .inr (.inl (0, 7, r))), (113, .inl (2, [.inr (.inl 114)])), (114, .inr (.inr (.inr (3, [115, 116, 117, 118])))), (115, .inr (.inl (0, 24, F 0))), (116, .inr (.inl (0, 24, F 1))), (117, .inr (.inl (0, 24, F 2))), (118, .inr (.inl (0, 24, F 3)))]) _
        refine ex_if cg_164 (ix := 5) (t := 20) (pc' := 14) rfl rfl rfl (fun hb11 => ?_) (fun hb11 => ?_)
        · have hb11 : ¬ (Int32.ofInt 1).toInt = 0 := hb11
          refine ex_iload_n cg_164 (ix := 10) (pc' := 21) rfl rfl rfl ?_
          refine ex_iconst cg_164 (ix := 11) (pc' := 22) rfl rfl ?_
          refine ex_bipush cg_164 (ix := 12) (pc' := 24) rfl rfl rfl ?_
          refine ex_callS cg_164 (ix := 13) (pc' := 27) (As := [.inl (.int n), .inl (.int (Int32.ofInt (-1))), .inl (.int (Int32.ofInt 30))]) (r := []) rfl rfl rfl (ct_out (x := n) (a := Int32.ofInt (-1)) (b := Int32.ofInt 30)) (by decide) rfl rfl trivial rfl rfl (fun v h2 hq => ?_)
          obtain ⟨z, rfl, rfl, hz3⟩ := hq
          rcases hz3 with ⟨hz3, rfl⟩ | ⟨hz3, hz4, rfl⟩ | ⟨hz3, hz4, rfl⟩
          · show cx_T _ 164 _ 27 ([some (.inr (.inl 0)), some (.inl (.int (Int32.ofInt 0))), some (.inl (.int c)), some (.inl (.int n)), none], [.inl (.int (Int32.ofInt (-4)))], [(0, .inl (10, [.inr (.inl 1), .inr (.inl 2), .inr (.inl 15), .inr (.inl 21), .inr (.inl 43), .inr (.inl 68), .inr (.inl 77), .inr (.inl 87), .inr (.inl 101), .inr (.inl 107), .inr (.inl 113), .inl (.int dy)])), (1, .inr (.inl (0, 7, r))), (113, .inl (2, [.inr (.inl 114)])), (114, .inr (.inr (.inr (3, [115, 116, 117, 118])))), (115, .inr (.inl (0, 24, F 0))), (116, .inr (.inl (0, 24, F 1))), (117, .inr (.inl (0, 24, F 2))), (118, .inr (.inl (0, 24, F 3)))]) _
            refine ex_istore cg_164 (ix := 14) (pc' := 29) (L' := [some (.inr (.inl 0)), some (.inl (.int (Int32.ofInt 0))), some (.inl (.int c)), some (.inl (.int n)), some (.inl (.int (Int32.ofInt (-4))))]) rfl rfl rfl rfl ?_
            refine ex_iload cg_164 (ix := 15) (pc' := 31) rfl rfl rfl ?_
            refine ex_if cg_164 (ix := 16) (t := 43) (pc' := 34) rfl rfl rfl (fun hb31 => ?_) (fun hb31 => ?_)
            · have hb31 : (Int32.ofInt (-4)).toInt = 0 := hb31
              exfalso; first | omega | exact absurd hb31 (by decide +kernel)
            · have hb31 : ¬ ((Int32.ofInt (-4)).toInt = 0) := hb31
              refine ex_aload_n cg_164 (ix := 17) (pc' := 35) rfl rfl rfl ?_
              refine ex_iload cg_164 (ix := 18) (pc' := 37) rfl rfl rfl ?_
              refine ex_callV cg_164 (ix := 19) (pc' := 40) (As := [.inl (.int (Int32.ofInt (-4)))]) (r := []) rfl rfl rfl (ct_xref (dy := dy) (x := Int32.ofInt (-4)) (r := r) (by decide +kernel) (by decide +kernel)) (by decide) rfl rfl rfl ⟨rfl, rfl, trivial⟩ rfl rfl (fun v h2 hq => ?_)
              obtain ⟨rfl, r2, rfl⟩ := hq
              show cx_T _ 164 _ 40 ([some (.inr (.inl 0)), some (.inl (.int (Int32.ofInt 0))), some (.inl (.int c)), some (.inl (.int n)), some (.inl (.int (Int32.ofInt (-4))))], [.inl (.int (Int32.ofInt (-4)))], [(0, .inl (10, [.inr (.inl 1), .inr (.inl 2), .inr (.inl 15), .inr (.inl 21), .inr (.inl 43), .inr (.inl 68), .inr (.inl 77), .inr (.inl 87), .inr (.inl 101), .inr (.inl 107), .inr (.inl 113), .inl (.int dy)])), (1, .inr (.inl (0, 7, r2))), (113, .inl (2, [.inr (.inl 114)])), (114, .inr (.inr (.inr (3, [115, 116, 117, 118])))), (115, .inr (.inl (0, 24, F 0))), (116, .inr (.inl (0, 24, F 1))), (117, .inr (.inl (0, 24, F 2))), (118, .inr (.inl (0, 24, F 3)))]) _
              refine ex_goto cg_164 (ix := 20) (pc' := 53) rfl rfl ?_
              refine ex_ireturn cg_164 (ix := 27) rfl ?_
              exact ⟨_, _, _, rfl, rfl, Or.inr (Or.inl ⟨by omega, by omega, by decide +kernel, rfl⟩)⟩
          · show cx_T _ 164 _ 27 ([some (.inr (.inl 0)), some (.inl (.int (Int32.ofInt 0))), some (.inl (.int c)), some (.inl (.int n)), none], [.inl (.int (Int32.ofInt (-6)))], [(0, .inl (10, [.inr (.inl 1), .inr (.inl 2), .inr (.inl 15), .inr (.inl 21), .inr (.inl 43), .inr (.inl 68), .inr (.inl 77), .inr (.inl 87), .inr (.inl 101), .inr (.inl 107), .inr (.inl 113), .inl (.int dy)])), (1, .inr (.inl (0, 7, r))), (113, .inl (2, [.inr (.inl 114)])), (114, .inr (.inr (.inr (3, [115, 116, 117, 118])))), (115, .inr (.inl (0, 24, F 0))), (116, .inr (.inl (0, 24, F 1))), (117, .inr (.inl (0, 24, F 2))), (118, .inr (.inl (0, 24, F 3)))]) _
            refine ex_istore cg_164 (ix := 14) (pc' := 29) (L' := [some (.inr (.inl 0)), some (.inl (.int (Int32.ofInt 0))), some (.inl (.int c)), some (.inl (.int n)), some (.inl (.int (Int32.ofInt (-6))))]) rfl rfl rfl rfl ?_
            refine ex_iload cg_164 (ix := 15) (pc' := 31) rfl rfl rfl ?_
            refine ex_if cg_164 (ix := 16) (t := 43) (pc' := 34) rfl rfl rfl (fun hb31 => ?_) (fun hb31 => ?_)
            · have hb31 : (Int32.ofInt (-6)).toInt = 0 := hb31
              exfalso; first | omega | exact absurd hb31 (by decide +kernel)
            · have hb31 : ¬ ((Int32.ofInt (-6)).toInt = 0) := hb31
              refine ex_aload_n cg_164 (ix := 17) (pc' := 35) rfl rfl rfl ?_
              refine ex_iload cg_164 (ix := 18) (pc' := 37) rfl rfl rfl ?_
              refine ex_callV cg_164 (ix := 19) (pc' := 40) (As := [.inl (.int (Int32.ofInt (-6)))]) (r := []) rfl rfl rfl (ct_xref (dy := dy) (x := Int32.ofInt (-6)) (r := r) (by decide +kernel) (by decide +kernel)) (by decide) rfl rfl rfl ⟨rfl, rfl, trivial⟩ rfl rfl (fun v h2 hq => ?_)
              obtain ⟨rfl, r2, rfl⟩ := hq
              show cx_T _ 164 _ 40 ([some (.inr (.inl 0)), some (.inl (.int (Int32.ofInt 0))), some (.inl (.int c)), some (.inl (.int n)), some (.inl (.int (Int32.ofInt (-6))))], [.inl (.int (Int32.ofInt (-6)))], [(0, .inl (10, [.inr (.inl 1), .inr (.inl 2), .inr (.inl 15), .inr (.inl 21), .inr (.inl 43), .inr (.inl 68), .inr (.inl 77), .inr (.inl 87), .inr (.inl 101), .inr (.inl 107), .inr (.inl 113), .inl (.int dy)])), (1, .inr (.inl (0, 7, r2))), (113, .inl (2, [.inr (.inl 114)])), (114, .inr (.inr (.inr (3, [115, 116, 117, 118])))), (115, .inr (.inl (0, 24, F 0))), (116, .inr (.inl (0, 24, F 1))), (117, .inr (.inl (0, 24, F 2))), (118, .inr (.inl (0, 24, F 3)))]) _
              refine ex_goto cg_164 (ix := 20) (pc' := 53) rfl rfl ?_
              refine ex_ireturn cg_164 (ix := 27) rfl ?_
              exact ⟨_, _, _, rfl, rfl, Or.inr (Or.inr (Or.inl ⟨by omega, by omega, by decide +kernel, rfl⟩))⟩
          · show cx_T _ 164 _ 27 ([some (.inr (.inl 0)), some (.inl (.int (Int32.ofInt 0))), some (.inl (.int c)), some (.inl (.int n)), none], [.inl (.int (Int32.ofInt 0))], [(0, .inl (10, [.inr (.inl 1), .inr (.inl 2), .inr (.inl 15), .inr (.inl 21), .inr (.inl 43), .inr (.inl 68), .inr (.inl 77), .inr (.inl 87), .inr (.inl 101), .inr (.inl 107), .inr (.inl 113), .inl (.int dy)])), (1, .inr (.inl (0, 7, r))), (113, .inl (2, [.inr (.inl 114)])), (114, .inr (.inr (.inr (3, [115, 116, 117, 118])))), (115, .inr (.inl (0, 24, F 0))), (116, .inr (.inl (0, 24, F 1))), (117, .inr (.inl (0, 24, F 2))), (118, .inr (.inl (0, 24, F 3)))]) _
            refine ex_istore cg_164 (ix := 14) (pc' := 29) (L' := [some (.inr (.inl 0)), some (.inl (.int (Int32.ofInt 0))), some (.inl (.int c)), some (.inl (.int n)), some (.inl (.int (Int32.ofInt 0)))]) rfl rfl rfl rfl ?_
            refine ex_iload cg_164 (ix := 15) (pc' := 31) rfl rfl rfl ?_
            refine ex_if cg_164 (ix := 16) (t := 43) (pc' := 34) rfl rfl rfl (fun hb31 => ?_) (fun hb31 => ?_)
            · have hb31 : (Int32.ofInt 0).toInt = 0 := hb31
              refine ex_aload_n cg_164 (ix := 21) (pc' := 44) rfl rfl rfl ?_
              refine ex_getfield cg_164 (ix := 22) (pc' := 47) rfl rfl rfl rfl rfl ?_
              refine ex_iload_n cg_164 (ix := 23) (pc' := 48) rfl rfl rfl ?_
              refine ex_iload_n cg_164 (ix := 24) (pc' := 49) rfl rfl rfl ?_
              refine ex_iload_n cg_164 (ix := 25) (pc' := 50) rfl rfl rfl ?_
              refine ex_callV cg_164 (ix := 26) (pc' := 53) (As := [.inl (.int (Int32.ofInt 0)), .inl (.int c), .inl (.int n)]) (r := []) rfl rfl rfl (ct_put0 (c := c) (n := n) (F := F) (by omega) (by omega)) (by decide) rfl rfl rfl ⟨rfl, rfl, rfl, rfl, rfl, rfl, trivial⟩ rfl rfl (fun v h2 hq => ?_)
              obtain ⟨z, rfl, hz5, rfl⟩ := hq
              show cx_T _ 164 _ 53 ([some (.inr (.inl 0)), some (.inl (.int (Int32.ofInt 0))), some (.inl (.int c)), some (.inl (.int n)), some (.inl (.int (Int32.ofInt 0)))], [.inl (.int z)], [(0, .inl (10, [.inr (.inl 1), .inr (.inl 2), .inr (.inl 15), .inr (.inl 21), .inr (.inl 43), .inr (.inl 68), .inr (.inl 77), .inr (.inl 87), .inr (.inl 101), .inr (.inl 107), .inr (.inl 113), .inl (.int dy)])), (1, .inr (.inl (0, 7, r))), (113, .inl (2, [.inr (.inl 114)])), (114, .inr (.inr (.inr (3, [115, 116, 117, 118])))), (115, .inr (.inl (0, 24, upd (F 0) c.toNatClampNeg n))), (116, .inr (.inl (0, 24, F 1))), (117, .inr (.inl (0, 24, F 2))), (118, .inr (.inl (0, 24, F 3)))]) _
              refine ex_ireturn cg_164 (ix := 27) rfl ?_
              exact ⟨z, r, up2 F 0 (upd (F 0) c.toNatClampNeg n), rfl, rfl, Or.inr (Or.inr (Or.inr ⟨by omega, by omega, by omega, hz5, rfl⟩))⟩
            · have hb31 : ¬ ((Int32.ofInt 0).toInt = 0) := hb31
              exfalso; first | omega | exact absurd hb31 (by decide +kernel)
        · have hb11 : ¬ (¬ (Int32.ofInt 1).toInt = 0) := hb11
          exfalso; first | omega | exact absurd hb11 (by decide +kernel)
      · show cx_T _ 164 _ 11 ([some (.inr (.inl 0)), some (.inl (.int (Int32.ofInt 0))), some (.inl (.int c)), some (.inl (.int n)), none], [.inl (.int (Int32.ofInt 0))], [(0, .inl (10, [.inr (.inl 1), .inr (.inl 2), .inr (.inl 15), .inr (.inl 21), .inr (.inl 43), .inr (.inl 68), .inr (.inl 77), .inr (.inl 87), .inr (.inl 101), .inr (.inl 107), .inr (.inl 113), .inl (.int dy)])), (1, .inr (.inl (0, 7, r))), (113, .inl (2, [.inr (.inl 114)])), (114, .inr (.inr (.inr (3, [115, 116, 117, 118])))), (115, .inr (.inl (0, 24, F 0))), (116, .inr (.inl (0, 24, F 1))), (117, .inr (.inl (0, 24, F 2))), (118, .inr (.inl (0, 24, F 3)))]) _
        refine ex_if cg_164 (ix := 5) (t := 20) (pc' := 14) rfl rfl rfl (fun hb11 => ?_) (fun hb11 => ?_)
        · have hb11 : ¬ (Int32.ofInt 0).toInt = 0 := hb11
          exfalso; first | omega | exact absurd hb11 (by decide +kernel)
        · have hb11 : ¬ (¬ (Int32.ofInt 0).toInt = 0) := hb11
          refine ex_aload_n cg_164 (ix := 6) (pc' := 15) rfl rfl rfl ?_
          refine ex_iconst cg_164 (ix := 7) (pc' := 16) rfl rfl ?_
          refine ex_callV cg_164 (ix := 8) (pc' := 19) (As := [.inl (.int (Int32.ofInt (-1)))]) (r := []) rfl rfl rfl (ct_xref (dy := dy) (x := Int32.ofInt (-1)) (r := r) (by decide +kernel) (by decide +kernel)) (by decide) rfl rfl rfl ⟨rfl, rfl, trivial⟩ rfl rfl (fun v h2 hq => ?_)
          obtain ⟨rfl, r2, rfl⟩ := hq
          show cx_T _ 164 _ 19 ([some (.inr (.inl 0)), some (.inl (.int (Int32.ofInt 0))), some (.inl (.int c)), some (.inl (.int n)), none], [.inl (.int (Int32.ofInt (-1)))], [(0, .inl (10, [.inr (.inl 1), .inr (.inl 2), .inr (.inl 15), .inr (.inl 21), .inr (.inl 43), .inr (.inl 68), .inr (.inl 77), .inr (.inl 87), .inr (.inl 101), .inr (.inl 107), .inr (.inl 113), .inl (.int dy)])), (1, .inr (.inl (0, 7, r2))), (113, .inl (2, [.inr (.inl 114)])), (114, .inr (.inr (.inr (3, [115, 116, 117, 118])))), (115, .inr (.inl (0, 24, F 0))), (116, .inr (.inl (0, 24, F 1))), (117, .inr (.inl (0, 24, F 2))), (118, .inr (.inl (0, 24, F 3)))]) _
          refine ex_ireturn cg_164 (ix := 9) rfl ?_
          exact ⟨_, _, _, rfl, rfl, Or.inl ⟨by omega, by decide +kernel, rfl⟩⟩
  · show cx_T _ 164 _ 4 ([some (.inr (.inl 0)), some (.inl (.int (Int32.ofInt 0))), some (.inl (.int c)), some (.inl (.int n)), none], [.inl (.int (Int32.ofInt 0))], [(0, .inl (10, [.inr (.inl 1), .inr (.inl 2), .inr (.inl 15), .inr (.inl 21), .inr (.inl 43), .inr (.inl 68), .inr (.inl 77), .inr (.inl 87), .inr (.inl 101), .inr (.inl 107), .inr (.inl 113), .inl (.int dy)])), (1, .inr (.inl (0, 7, r))), (113, .inl (2, [.inr (.inl 114)])), (114, .inr (.inr (.inr (3, [115, 116, 117, 118])))), (115, .inr (.inl (0, 24, F 0))), (116, .inr (.inl (0, 24, F 1))), (117, .inr (.inl (0, 24, F 2))), (118, .inr (.inl (0, 24, F 3)))]) _
    refine ex_if cg_164 (ix := 2) (t := 14) (pc' := 7) rfl rfl rfl (fun hb4 => ?_) (fun hb4 => ?_)
    · have hb4 : (Int32.ofInt 0).toInt = 0 := hb4
      refine ex_aload_n cg_164 (ix := 6) (pc' := 15) rfl rfl rfl ?_
      refine ex_iconst cg_164 (ix := 7) (pc' := 16) rfl rfl ?_
      refine ex_callV cg_164 (ix := 8) (pc' := 19) (As := [.inl (.int (Int32.ofInt (-1)))]) (r := []) rfl rfl rfl (ct_xref (dy := dy) (x := Int32.ofInt (-1)) (r := r) (by decide +kernel) (by decide +kernel)) (by decide) rfl rfl rfl ⟨rfl, rfl, trivial⟩ rfl rfl (fun v h2 hq => ?_)
      obtain ⟨rfl, r2, rfl⟩ := hq
      show cx_T _ 164 _ 19 ([some (.inr (.inl 0)), some (.inl (.int (Int32.ofInt 0))), some (.inl (.int c)), some (.inl (.int n)), none], [.inl (.int (Int32.ofInt (-1)))], [(0, .inl (10, [.inr (.inl 1), .inr (.inl 2), .inr (.inl 15), .inr (.inl 21), .inr (.inl 43), .inr (.inl 68), .inr (.inl 77), .inr (.inl 87), .inr (.inl 101), .inr (.inl 107), .inr (.inl 113), .inl (.int dy)])), (1, .inr (.inl (0, 7, r2))), (113, .inl (2, [.inr (.inl 114)])), (114, .inr (.inr (.inr (3, [115, 116, 117, 118])))), (115, .inr (.inl (0, 24, F 0))), (116, .inr (.inl (0, 24, F 1))), (117, .inr (.inl (0, 24, F 2))), (118, .inr (.inl (0, 24, F 3)))]) _
      refine ex_ireturn cg_164 (ix := 9) rfl ?_
      exact ⟨_, _, _, rfl, rfl, Or.inl ⟨by omega, by decide +kernel, rfl⟩⟩
    · have hb4 : ¬ ((Int32.ofInt 0).toInt = 0) := hb4
      exfalso; first | omega | exact absurd hb4 (by decide +kernel)
theorem ct_drawn1 {dy c n : Int32} {r : Nat → Int32} {F : Nat → Nat → Int32} : cx_Ct 5 164 [.inr (.inl 0), .inl (.int (Int32.ofInt 1)), .inl (.int c), .inl (.int n)] (h_xd dy r F) (fun v h2 => ∃ (z : Int32) (r2 : Nat → Int32) (F2 : Nat → Nat → Int32), v = some (.inl (.int z)) ∧ h2 = h_xd dy r2 F2 ∧ dr_x (Int32.ofInt 1) c n F z F2) := by
  have kcm6 : (Int32.ofInt (-6)).toInt = -6 := by decide +kernel
  have kcm4 : (Int32.ofInt (-4)).toInt = -4 := by decide +kernel
  have kcm1 : (Int32.ofInt (-1)).toInt = -1 := by decide +kernel
  have kc0 : (Int32.ofInt 0).toInt = 0 := by decide +kernel
  have kc1 : (Int32.ofInt 1).toInt = 1 := by decide +kernel
  have kc4 : (Int32.ofInt 4).toInt = 4 := by decide +kernel
  have kc24 : (Int32.ofInt 24).toInt = 24 := by decide +kernel
  have kc30 : (Int32.ofInt 30).toInt = 30 := by decide +kernel
  refine cx_Ct.of cg_164 (nL := 5) rfl rfl rfl ?_
  show cx_T 5 164 [0, 1, 113, 114, 115, 116, 117, 118] 0 ([some (.inr (.inl 0)), some (.inl (.int (Int32.ofInt 1))), some (.inl (.int c)), some (.inl (.int n)), none], [], h_xd dy r F) _
  refine ex_iload_n cg_164 (ix := 0) (pc' := 1) rfl rfl rfl ?_
  refine ex_callS cg_164 (ix := 1) (pc' := 4) (As := [.inl (.int (Int32.ofInt 1))]) (r := []) rfl rfl rfl (ct_xbeach (x := Int32.ofInt 1)) (by decide) rfl rfl trivial rfl rfl (fun v h2 hq => ?_)
  obtain ⟨z, rfl, rfl, hz1⟩ := hq
  rcases hz1 with ⟨hz1, rfl⟩ | ⟨hz1, rfl⟩
  · show cx_T _ 164 _ 4 ([some (.inr (.inl 0)), some (.inl (.int (Int32.ofInt 1))), some (.inl (.int c)), some (.inl (.int n)), none], [.inl (.int (Int32.ofInt 1))], [(0, .inl (10, [.inr (.inl 1), .inr (.inl 2), .inr (.inl 15), .inr (.inl 21), .inr (.inl 43), .inr (.inl 68), .inr (.inl 77), .inr (.inl 87), .inr (.inl 101), .inr (.inl 107), .inr (.inl 113), .inl (.int dy)])), (1, .inr (.inl (0, 7, r))), (113, .inl (2, [.inr (.inl 114)])), (114, .inr (.inr (.inr (3, [115, 116, 117, 118])))), (115, .inr (.inl (0, 24, F 0))), (116, .inr (.inl (0, 24, F 1))), (117, .inr (.inl (0, 24, F 2))), (118, .inr (.inl (0, 24, F 3)))]) _
    refine ex_if cg_164 (ix := 2) (t := 14) (pc' := 7) rfl rfl rfl (fun hb4 => ?_) (fun hb4 => ?_)
    · have hb4 : (Int32.ofInt 1).toInt = 0 := hb4
      exfalso; first | omega | exact absurd hb4 (by decide +kernel)
    · have hb4 : ¬ ((Int32.ofInt 1).toInt = 0) := hb4
      refine ex_iload_n cg_164 (ix := 3) (pc' := 8) rfl rfl rfl ?_
      refine ex_callS cg_164 (ix := 4) (pc' := 11) (As := [.inl (.int c)]) (r := []) rfl rfl rfl (ct_xcell (x := c)) (by decide) rfl rfl trivial rfl rfl (fun v h2 hq => ?_)
      obtain ⟨z, rfl, rfl, hz2⟩ := hq
      rcases hz2 with ⟨hz2, rfl⟩ | ⟨hz2, rfl⟩
      · show cx_T _ 164 _ 11 ([some (.inr (.inl 0)), some (.inl (.int (Int32.ofInt 1))), some (.inl (.int c)), some (.inl (.int n)), none], [.inl (.int (Int32.ofInt 1))], [(0, .inl (10, [.inr (.inl 1), .inr (.inl 2), .inr (.inl 15), .inr (.inl 21), .inr (.inl 43), .inr (.inl 68), .inr (.inl 77), .inr (.inl 87), .inr (.inl 101), .inr (.inl 107), .inr (.inl 113), .inl (.int dy)])), (1, .inr (.inl (0, 7, r))), (113, .inl (2, [.inr (.inl 114)])), (114, .inr (.inr (.inr (3, [115, 116, 117, 118])))), (115, .inr (.inl (0, 24, F 0))), (116, .inr (.inl (0, 24, F 1))), (117, .inr (.inl (0, 24, F 2))), (118, .inr (.inl (0, 24, F 3)))]) _
        refine ex_if cg_164 (ix := 5) (t := 20) (pc' := 14) rfl rfl rfl (fun hb11 => ?_) (fun hb11 => ?_)
        · have hb11 : ¬ (Int32.ofInt 1).toInt = 0 := hb11
          refine ex_iload_n cg_164 (ix := 10) (pc' := 21) rfl rfl rfl ?_
          refine ex_iconst cg_164 (ix := 11) (pc' := 22) rfl rfl ?_
          refine ex_bipush cg_164 (ix := 12) (pc' := 24) rfl rfl rfl ?_
          refine ex_callS cg_164 (ix := 13) (pc' := 27) (As := [.inl (.int n), .inl (.int (Int32.ofInt (-1))), .inl (.int (Int32.ofInt 30))]) (r := []) rfl rfl rfl (ct_out (x := n) (a := Int32.ofInt (-1)) (b := Int32.ofInt 30)) (by decide) rfl rfl trivial rfl rfl (fun v h2 hq => ?_)
          obtain ⟨z, rfl, rfl, hz3⟩ := hq
          rcases hz3 with ⟨hz3, rfl⟩ | ⟨hz3, hz4, rfl⟩ | ⟨hz3, hz4, rfl⟩
          · show cx_T _ 164 _ 27 ([some (.inr (.inl 0)), some (.inl (.int (Int32.ofInt 1))), some (.inl (.int c)), some (.inl (.int n)), none], [.inl (.int (Int32.ofInt (-4)))], [(0, .inl (10, [.inr (.inl 1), .inr (.inl 2), .inr (.inl 15), .inr (.inl 21), .inr (.inl 43), .inr (.inl 68), .inr (.inl 77), .inr (.inl 87), .inr (.inl 101), .inr (.inl 107), .inr (.inl 113), .inl (.int dy)])), (1, .inr (.inl (0, 7, r))), (113, .inl (2, [.inr (.inl 114)])), (114, .inr (.inr (.inr (3, [115, 116, 117, 118])))), (115, .inr (.inl (0, 24, F 0))), (116, .inr (.inl (0, 24, F 1))), (117, .inr (.inl (0, 24, F 2))), (118, .inr (.inl (0, 24, F 3)))]) _
            refine ex_istore cg_164 (ix := 14) (pc' := 29) (L' := [some (.inr (.inl 0)), some (.inl (.int (Int32.ofInt 1))), some (.inl (.int c)), some (.inl (.int n)), some (.inl (.int (Int32.ofInt (-4))))]) rfl rfl rfl rfl ?_
            refine ex_iload cg_164 (ix := 15) (pc' := 31) rfl rfl rfl ?_
            refine ex_if cg_164 (ix := 16) (t := 43) (pc' := 34) rfl rfl rfl (fun hb31 => ?_) (fun hb31 => ?_)
            · have hb31 : (Int32.ofInt (-4)).toInt = 0 := hb31
              exfalso; first | omega | exact absurd hb31 (by decide +kernel)
            · have hb31 : ¬ ((Int32.ofInt (-4)).toInt = 0) := hb31
              refine ex_aload_n cg_164 (ix := 17) (pc' := 35) rfl rfl rfl ?_
              refine ex_iload cg_164 (ix := 18) (pc' := 37) rfl rfl rfl ?_
              refine ex_callV cg_164 (ix := 19) (pc' := 40) (As := [.inl (.int (Int32.ofInt (-4)))]) (r := []) rfl rfl rfl (ct_xref (dy := dy) (x := Int32.ofInt (-4)) (r := r) (by decide +kernel) (by decide +kernel)) (by decide) rfl rfl rfl ⟨rfl, rfl, trivial⟩ rfl rfl (fun v h2 hq => ?_)
              obtain ⟨rfl, r2, rfl⟩ := hq
              show cx_T _ 164 _ 40 ([some (.inr (.inl 0)), some (.inl (.int (Int32.ofInt 1))), some (.inl (.int c)), some (.inl (.int n)), some (.inl (.int (Int32.ofInt (-4))))], [.inl (.int (Int32.ofInt (-4)))], [(0, .inl (10, [.inr (.inl 1), .inr (.inl 2), .inr (.inl 15), .inr (.inl 21), .inr (.inl 43), .inr (.inl 68), .inr (.inl 77), .inr (.inl 87), .inr (.inl 101), .inr (.inl 107), .inr (.inl 113), .inl (.int dy)])), (1, .inr (.inl (0, 7, r2))), (113, .inl (2, [.inr (.inl 114)])), (114, .inr (.inr (.inr (3, [115, 116, 117, 118])))), (115, .inr (.inl (0, 24, F 0))), (116, .inr (.inl (0, 24, F 1))), (117, .inr (.inl (0, 24, F 2))), (118, .inr (.inl (0, 24, F 3)))]) _
              refine ex_goto cg_164 (ix := 20) (pc' := 53) rfl rfl ?_
              refine ex_ireturn cg_164 (ix := 27) rfl ?_
              exact ⟨_, _, _, rfl, rfl, Or.inr (Or.inl ⟨by omega, by omega, by decide +kernel, rfl⟩)⟩
          · show cx_T _ 164 _ 27 ([some (.inr (.inl 0)), some (.inl (.int (Int32.ofInt 1))), some (.inl (.int c)), some (.inl (.int n)), none], [.inl (.int (Int32.ofInt (-6)))], [(0, .inl (10, [.inr (.inl 1), .inr (.inl 2), .inr (.inl 15), .inr (.inl 21), .inr (.inl 43), .inr (.inl 68), .inr (.inl 77), .inr (.inl 87), .inr (.inl 101), .inr (.inl 107), .inr (.inl 113), .inl (.int dy)])), (1, .inr (.inl (0, 7, r))), (113, .inl (2, [.inr (.inl 114)])), (114, .inr (.inr (.inr (3, [115, 116, 117, 118])))), (115, .inr (.inl (0, 24, F 0))), (116, .inr (.inl (0, 24, F 1))), (117, .inr (.inl (0, 24, F 2))), (118, .inr (.inl (0, 24, F 3)))]) _
            refine ex_istore cg_164 (ix := 14) (pc' := 29) (L' := [some (.inr (.inl 0)), some (.inl (.int (Int32.ofInt 1))), some (.inl (.int c)), some (.inl (.int n)), some (.inl (.int (Int32.ofInt (-6))))]) rfl rfl rfl rfl ?_
            refine ex_iload cg_164 (ix := 15) (pc' := 31) rfl rfl rfl ?_
            refine ex_if cg_164 (ix := 16) (t := 43) (pc' := 34) rfl rfl rfl (fun hb31 => ?_) (fun hb31 => ?_)
            · have hb31 : (Int32.ofInt (-6)).toInt = 0 := hb31
              exfalso; first | omega | exact absurd hb31 (by decide +kernel)
            · have hb31 : ¬ ((Int32.ofInt (-6)).toInt = 0) := hb31
              refine ex_aload_n cg_164 (ix := 17) (pc' := 35) rfl rfl rfl ?_
              refine ex_iload cg_164 (ix := 18) (pc' := 37) rfl rfl rfl ?_
              refine ex_callV cg_164 (ix := 19) (pc' := 40) (As := [.inl (.int (Int32.ofInt (-6)))]) (r := []) rfl rfl rfl (ct_xref (dy := dy) (x := Int32.ofInt (-6)) (r := r) (by decide +kernel) (by decide +kernel)) (by decide) rfl rfl rfl ⟨rfl, rfl, trivial⟩ rfl rfl (fun v h2 hq => ?_)
              obtain ⟨rfl, r2, rfl⟩ := hq
              show cx_T _ 164 _ 40 ([some (.inr (.inl 0)), some (.inl (.int (Int32.ofInt 1))), some (.inl (.int c)), some (.inl (.int n)), some (.inl (.int (Int32.ofInt (-6))))], [.inl (.int (Int32.ofInt (-6)))], [(0, .inl (10, [.inr (.inl 1), .inr (.inl 2), .inr (.inl 15), .inr (.inl 21), .inr (.inl 43), .inr (.inl 68), .inr (.inl 77), .inr (.inl 87), .inr (.inl 101), .inr (.inl 107), .inr (.inl 113), .inl (.int dy)])), (1, .inr (.inl (0, 7, r2))), (113, .inl (2, [.inr (.inl 114)])), (114, .inr (.inr (.inr (3, [115, 116, 117, 118])))), (115, .inr (.inl (0, 24, F 0))), (116, .inr (.inl (0, 24, F 1))), (117, .inr (.inl (0, 24, F 2))), (118, .inr (.inl (0, 24, F 3)))]) _
              refine ex_goto cg_164 (ix := 20) (pc' := 53) rfl rfl ?_
              refine ex_ireturn cg_164 (ix := 27) rfl ?_
              exact ⟨_, _, _, rfl, rfl, Or.inr (Or.inr (Or.inl ⟨by omega, by omega, by decide +kernel, rfl⟩))⟩
          · show cx_T _ 164 _ 27 ([some (.inr (.inl 0)), some (.inl (.int (Int32.ofInt 1))), some (.inl (.int c)), some (.inl (.int n)), none], [.inl (.int (Int32.ofInt 0))], [(0, .inl (10, [.inr (.inl 1), .inr (.inl 2), .inr (.inl 15), .inr (.inl 21), .inr (.inl 43), .inr (.inl 68), .inr (.inl 77), .inr (.inl 87), .inr (.inl 101), .inr (.inl 107), .inr (.inl 113), .inl (.int dy)])), (1, .inr (.inl (0, 7, r))), (113, .inl (2, [.inr (.inl 114)])), (114, .inr (.inr (.inr (3, [115, 116, 117, 118])))), (115, .inr (.inl (0, 24, F 0))), (116, .inr (.inl (0, 24, F 1))), (117, .inr (.inl (0, 24, F 2))), (118, .inr (.inl (0, 24, F 3)))]) _
            refine ex_istore cg_164 (ix := 14) (pc' := 29) (L' := [some (.inr (.inl 0)), some (.inl (.int (Int32.ofInt 1))), some (.inl (.int c)), some (.inl (.int n)), some (.inl (.int (Int32.ofInt 0)))]) rfl rfl rfl rfl ?_
            refine ex_iload cg_164 (ix := 15) (pc' := 31) rfl rfl rfl ?_
            refine ex_if cg_164 (ix := 16) (t := 43) (pc' := 34) rfl rfl rfl (fun hb31 => ?_) (fun hb31 => ?_)
            · have hb31 : (Int32.ofInt 0).toInt = 0 := hb31
              refine ex_aload_n cg_164 (ix := 21) (pc' := 44) rfl rfl rfl ?_
              refine ex_getfield cg_164 (ix := 22) (pc' := 47) rfl rfl rfl rfl rfl ?_
              refine ex_iload_n cg_164 (ix := 23) (pc' := 48) rfl rfl rfl ?_
              refine ex_iload_n cg_164 (ix := 24) (pc' := 49) rfl rfl rfl ?_
              refine ex_iload_n cg_164 (ix := 25) (pc' := 50) rfl rfl rfl ?_
              refine ex_callV cg_164 (ix := 26) (pc' := 53) (As := [.inl (.int (Int32.ofInt 1)), .inl (.int c), .inl (.int n)]) (r := []) rfl rfl rfl (ct_put1 (c := c) (n := n) (F := F) (by omega) (by omega)) (by decide) rfl rfl rfl ⟨rfl, rfl, rfl, rfl, rfl, rfl, trivial⟩ rfl rfl (fun v h2 hq => ?_)
              obtain ⟨z, rfl, hz5, rfl⟩ := hq
              show cx_T _ 164 _ 53 ([some (.inr (.inl 0)), some (.inl (.int (Int32.ofInt 1))), some (.inl (.int c)), some (.inl (.int n)), some (.inl (.int (Int32.ofInt 0)))], [.inl (.int z)], [(0, .inl (10, [.inr (.inl 1), .inr (.inl 2), .inr (.inl 15), .inr (.inl 21), .inr (.inl 43), .inr (.inl 68), .inr (.inl 77), .inr (.inl 87), .inr (.inl 101), .inr (.inl 107), .inr (.inl 113), .inl (.int dy)])), (1, .inr (.inl (0, 7, r))), (113, .inl (2, [.inr (.inl 114)])), (114, .inr (.inr (.inr (3, [115, 116, 117, 118])))), (115, .inr (.inl (0, 24, F 0))), (116, .inr (.inl (0, 24, upd (F 1) c.toNatClampNeg n))), (117, .inr (.inl (0, 24, F 2))), (118, .inr (.inl (0, 24, F 3)))]) _
              refine ex_ireturn cg_164 (ix := 27) rfl ?_
              exact ⟨z, r, up2 F 1 (upd (F 1) c.toNatClampNeg n), rfl, rfl, Or.inr (Or.inr (Or.inr ⟨by omega, by omega, by omega, hz5, rfl⟩))⟩
            · have hb31 : ¬ ((Int32.ofInt 0).toInt = 0) := hb31
              exfalso; first | omega | exact absurd hb31 (by decide +kernel)
        · have hb11 : ¬ (¬ (Int32.ofInt 1).toInt = 0) := hb11
          exfalso; first | omega | exact absurd hb11 (by decide +kernel)
      · show cx_T _ 164 _ 11 ([some (.inr (.inl 0)), some (.inl (.int (Int32.ofInt 1))), some (.inl (.int c)), some (.inl (.int n)), none], [.inl (.int (Int32.ofInt 0))], [(0, .inl (10, [.inr (.inl 1), .inr (.inl 2), .inr (.inl 15), .inr (.inl 21), .inr (.inl 43), .inr (.inl 68), .inr (.inl 77), .inr (.inl 87), .inr (.inl 101), .inr (.inl 107), .inr (.inl 113), .inl (.int dy)])), (1, .inr (.inl (0, 7, r))), (113, .inl (2, [.inr (.inl 114)])), (114, .inr (.inr (.inr (3, [115, 116, 117, 118])))), (115, .inr (.inl (0, 24, F 0))), (116, .inr (.inl (0, 24, F 1))), (117, .inr (.inl (0, 24, F 2))), (118, .inr (.inl (0, 24, F 3)))]) _
        refine ex_if cg_164 (ix := 5) (t := 20) (pc' := 14) rfl rfl rfl (fun hb11 => ?_) (fun hb11 => ?_)
        · have hb11 : ¬ (Int32.ofInt 0).toInt = 0 := hb11
          exfalso; first | omega | exact absurd hb11 (by decide +kernel)
        · have hb11 : ¬ (¬ (Int32.ofInt 0).toInt = 0) := hb11
          refine ex_aload_n cg_164 (ix := 6) (pc' := 15) rfl rfl rfl ?_
          refine ex_iconst cg_164 (ix := 7) (pc' := 16) rfl rfl ?_
          refine ex_callV cg_164 (ix := 8) (pc' := 19) (As := [.inl (.int (Int32.ofInt (-1)))]) (r := []) rfl rfl rfl (ct_xref (dy := dy) (x := Int32.ofInt (-1)) (r := r) (by decide +kernel) (by decide +kernel)) (by decide) rfl rfl rfl ⟨rfl, rfl, trivial⟩ rfl rfl (fun v h2 hq => ?_)
          obtain ⟨rfl, r2, rfl⟩ := hq
          show cx_T _ 164 _ 19 ([some (.inr (.inl 0)), some (.inl (.int (Int32.ofInt 1))), some (.inl (.int c)), some (.inl (.int n)), none], [.inl (.int (Int32.ofInt (-1)))], [(0, .inl (10, [.inr (.inl 1), .inr (.inl 2), .inr (.inl 15), .inr (.inl 21), .inr (.inl 43), .inr (.inl 68), .inr (.inl 77), .inr (.inl 87), .inr (.inl 101), .inr (.inl 107), .inr (.inl 113), .inl (.int dy)])), (1, .inr (.inl (0, 7, r2))), (113, .inl (2, [.inr (.inl 114)])), (114, .inr (.inr (.inr (3, [115, 116, 117, 118])))), (115, .inr (.inl (0, 24, F 0))), (116, .inr (.inl (0, 24, F 1))), (117, .inr (.inl (0, 24, F 2))), (118, .inr (.inl (0, 24, F 3)))]) _
          refine ex_ireturn cg_164 (ix := 9) rfl ?_
          exact ⟨_, _, _, rfl, rfl, Or.inl ⟨by omega, by decide +kernel, rfl⟩⟩
  · show cx_T _ 164 _ 4 ([some (.inr (.inl 0)), some (.inl (.int (Int32.ofInt 1))), some (.inl (.int c)), some (.inl (.int n)), none], [.inl (.int (Int32.ofInt 0))], [(0, .inl (10, [.inr (.inl 1), .inr (.inl 2), .inr (.inl 15), .inr (.inl 21), .inr (.inl 43), .inr (.inl 68), .inr (.inl 77), .inr (.inl 87), .inr (.inl 101), .inr (.inl 107), .inr (.inl 113), .inl (.int dy)])), (1, .inr (.inl (0, 7, r))), (113, .inl (2, [.inr (.inl 114)])), (114, .inr (.inr (.inr (3, [115, 116, 117, 118])))), (115, .inr (.inl (0, 24, F 0))), (116, .inr (.inl (0, 24, F 1))), (117, .inr (.inl (0, 24, F 2))), (118, .inr (.inl (0, 24, F 3)))]) _
    refine ex_if cg_164 (ix := 2) (t := 14) (pc' := 7) rfl rfl rfl (fun hb4 => ?_) (fun hb4 => ?_)
    · have hb4 : (Int32.ofInt 0).toInt = 0 := hb4
      refine ex_aload_n cg_164 (ix := 6) (pc' := 15) rfl rfl rfl ?_
      refine ex_iconst cg_164 (ix := 7) (pc' := 16) rfl rfl ?_
      refine ex_callV cg_164 (ix := 8) (pc' := 19) (As := [.inl (.int (Int32.ofInt (-1)))]) (r := []) rfl rfl rfl (ct_xref (dy := dy) (x := Int32.ofInt (-1)) (r := r) (by decide +kernel) (by decide +kernel)) (by decide) rfl rfl rfl ⟨rfl, rfl, trivial⟩ rfl rfl (fun v h2 hq => ?_)
      obtain ⟨rfl, r2, rfl⟩ := hq
      show cx_T _ 164 _ 19 ([some (.inr (.inl 0)), some (.inl (.int (Int32.ofInt 1))), some (.inl (.int c)), some (.inl (.int n)), none], [.inl (.int (Int32.ofInt (-1)))], [(0, .inl (10, [.inr (.inl 1), .inr (.inl 2), .inr (.inl 15), .inr (.inl 21), .inr (.inl 43), .inr (.inl 68), .inr (.inl 77), .inr (.inl 87), .inr (.inl 101), .inr (.inl 107), .inr (.inl 113), .inl (.int dy)])), (1, .inr (.inl (0, 7, r2))), (113, .inl (2, [.inr (.inl 114)])), (114, .inr (.inr (.inr (3, [115, 116, 117, 118])))), (115, .inr (.inl (0, 24, F 0))), (116, .inr (.inl (0, 24, F 1))), (117, .inr (.inl (0, 24, F 2))), (118, .inr (.inl (0, 24, F 3)))]) _
      refine ex_ireturn cg_164 (ix := 9) rfl ?_
      exact ⟨_, _, _, rfl, rfl, Or.inl ⟨by omega, by decide +kernel, rfl⟩⟩
    · have hb4 : ¬ ((Int32.ofInt 0).toInt = 0) := hb4
      exfalso; first | omega | exact absurd hb4 (by decide +kernel)
theorem ct_drawn2 {dy c n : Int32} {r : Nat → Int32} {F : Nat → Nat → Int32} : cx_Ct 5 164 [.inr (.inl 0), .inl (.int (Int32.ofInt 2)), .inl (.int c), .inl (.int n)] (h_xd dy r F) (fun v h2 => ∃ (z : Int32) (r2 : Nat → Int32) (F2 : Nat → Nat → Int32), v = some (.inl (.int z)) ∧ h2 = h_xd dy r2 F2 ∧ dr_x (Int32.ofInt 2) c n F z F2) := by
  have kcm6 : (Int32.ofInt (-6)).toInt = -6 := by decide +kernel
  have kcm4 : (Int32.ofInt (-4)).toInt = -4 := by decide +kernel
  have kcm1 : (Int32.ofInt (-1)).toInt = -1 := by decide +kernel
  have kc0 : (Int32.ofInt 0).toInt = 0 := by decide +kernel
  have kc1 : (Int32.ofInt 1).toInt = 1 := by decide +kernel
  have kc2 : (Int32.ofInt 2).toInt = 2 := by decide +kernel
  have kc4 : (Int32.ofInt 4).toInt = 4 := by decide +kernel
  have kc24 : (Int32.ofInt 24).toInt = 24 := by decide +kernel
  have kc30 : (Int32.ofInt 30).toInt = 30 := by decide +kernel
  refine cx_Ct.of cg_164 (nL := 5) rfl rfl rfl ?_
  show cx_T 5 164 [0, 1, 113, 114, 115, 116, 117, 118] 0 ([some (.inr (.inl 0)), some (.inl (.int (Int32.ofInt 2))), some (.inl (.int c)), some (.inl (.int n)), none], [], h_xd dy r F) _
  refine ex_iload_n cg_164 (ix := 0) (pc' := 1) rfl rfl rfl ?_
  refine ex_callS cg_164 (ix := 1) (pc' := 4) (As := [.inl (.int (Int32.ofInt 2))]) (r := []) rfl rfl rfl (ct_xbeach (x := Int32.ofInt 2)) (by decide) rfl rfl trivial rfl rfl (fun v h2 hq => ?_)
  obtain ⟨z, rfl, rfl, hz1⟩ := hq
  rcases hz1 with ⟨hz1, rfl⟩ | ⟨hz1, rfl⟩
  · show cx_T _ 164 _ 4 ([some (.inr (.inl 0)), some (.inl (.int (Int32.ofInt 2))), some (.inl (.int c)), some (.inl (.int n)), none], [.inl (.int (Int32.ofInt 1))], [(0, .inl (10, [.inr (.inl 1), .inr (.inl 2), .inr (.inl 15), .inr (.inl 21), .inr (.inl 43), .inr (.inl 68), .inr (.inl 77), .inr (.inl 87), .inr (.inl 101), .inr (.inl 107), .inr (.inl 113), .inl (.int dy)])), (1, .inr (.inl (0, 7, r))), (113, .inl (2, [.inr (.inl 114)])), (114, .inr (.inr (.inr (3, [115, 116, 117, 118])))), (115, .inr (.inl (0, 24, F 0))), (116, .inr (.inl (0, 24, F 1))), (117, .inr (.inl (0, 24, F 2))), (118, .inr (.inl (0, 24, F 3)))]) _
    refine ex_if cg_164 (ix := 2) (t := 14) (pc' := 7) rfl rfl rfl (fun hb4 => ?_) (fun hb4 => ?_)
    · have hb4 : (Int32.ofInt 1).toInt = 0 := hb4
      exfalso; first | omega | exact absurd hb4 (by decide +kernel)
    · have hb4 : ¬ ((Int32.ofInt 1).toInt = 0) := hb4
      refine ex_iload_n cg_164 (ix := 3) (pc' := 8) rfl rfl rfl ?_
      refine ex_callS cg_164 (ix := 4) (pc' := 11) (As := [.inl (.int c)]) (r := []) rfl rfl rfl (ct_xcell (x := c)) (by decide) rfl rfl trivial rfl rfl (fun v h2 hq => ?_)
      obtain ⟨z, rfl, rfl, hz2⟩ := hq
      rcases hz2 with ⟨hz2, rfl⟩ | ⟨hz2, rfl⟩
      · show cx_T _ 164 _ 11 ([some (.inr (.inl 0)), some (.inl (.int (Int32.ofInt 2))), some (.inl (.int c)), some (.inl (.int n)), none], [.inl (.int (Int32.ofInt 1))], [(0, .inl (10, [.inr (.inl 1), .inr (.inl 2), .inr (.inl 15), .inr (.inl 21), .inr (.inl 43), .inr (.inl 68), .inr (.inl 77), .inr (.inl 87), .inr (.inl 101), .inr (.inl 107), .inr (.inl 113), .inl (.int dy)])), (1, .inr (.inl (0, 7, r))), (113, .inl (2, [.inr (.inl 114)])), (114, .inr (.inr (.inr (3, [115, 116, 117, 118])))), (115, .inr (.inl (0, 24, F 0))), (116, .inr (.inl (0, 24, F 1))), (117, .inr (.inl (0, 24, F 2))), (118, .inr (.inl (0, 24, F 3)))]) _
        refine ex_if cg_164 (ix := 5) (t := 20) (pc' := 14) rfl rfl rfl (fun hb11 => ?_) (fun hb11 => ?_)
        · have hb11 : ¬ (Int32.ofInt 1).toInt = 0 := hb11
          refine ex_iload_n cg_164 (ix := 10) (pc' := 21) rfl rfl rfl ?_
          refine ex_iconst cg_164 (ix := 11) (pc' := 22) rfl rfl ?_
          refine ex_bipush cg_164 (ix := 12) (pc' := 24) rfl rfl rfl ?_
          refine ex_callS cg_164 (ix := 13) (pc' := 27) (As := [.inl (.int n), .inl (.int (Int32.ofInt (-1))), .inl (.int (Int32.ofInt 30))]) (r := []) rfl rfl rfl (ct_out (x := n) (a := Int32.ofInt (-1)) (b := Int32.ofInt 30)) (by decide) rfl rfl trivial rfl rfl (fun v h2 hq => ?_)
          obtain ⟨z, rfl, rfl, hz3⟩ := hq
          rcases hz3 with ⟨hz3, rfl⟩ | ⟨hz3, hz4, rfl⟩ | ⟨hz3, hz4, rfl⟩
          · show cx_T _ 164 _ 27 ([some (.inr (.inl 0)), some (.inl (.int (Int32.ofInt 2))), some (.inl (.int c)), some (.inl (.int n)), none], [.inl (.int (Int32.ofInt (-4)))], [(0, .inl (10, [.inr (.inl 1), .inr (.inl 2), .inr (.inl 15), .inr (.inl 21), .inr (.inl 43), .inr (.inl 68), .inr (.inl 77), .inr (.inl 87), .inr (.inl 101), .inr (.inl 107), .inr (.inl 113), .inl (.int dy)])), (1, .inr (.inl (0, 7, r))), (113, .inl (2, [.inr (.inl 114)])), (114, .inr (.inr (.inr (3, [115, 116, 117, 118])))), (115, .inr (.inl (0, 24, F 0))), (116, .inr (.inl (0, 24, F 1))), (117, .inr (.inl (0, 24, F 2))), (118, .inr (.inl (0, 24, F 3)))]) _
            refine ex_istore cg_164 (ix := 14) (pc' := 29) (L' := [some (.inr (.inl 0)), some (.inl (.int (Int32.ofInt 2))), some (.inl (.int c)), some (.inl (.int n)), some (.inl (.int (Int32.ofInt (-4))))]) rfl rfl rfl rfl ?_
            refine ex_iload cg_164 (ix := 15) (pc' := 31) rfl rfl rfl ?_
            refine ex_if cg_164 (ix := 16) (t := 43) (pc' := 34) rfl rfl rfl (fun hb31 => ?_) (fun hb31 => ?_)
            · have hb31 : (Int32.ofInt (-4)).toInt = 0 := hb31
              exfalso; first | omega | exact absurd hb31 (by decide +kernel)
            · have hb31 : ¬ ((Int32.ofInt (-4)).toInt = 0) := hb31
              refine ex_aload_n cg_164 (ix := 17) (pc' := 35) rfl rfl rfl ?_
              refine ex_iload cg_164 (ix := 18) (pc' := 37) rfl rfl rfl ?_
              refine ex_callV cg_164 (ix := 19) (pc' := 40) (As := [.inl (.int (Int32.ofInt (-4)))]) (r := []) rfl rfl rfl (ct_xref (dy := dy) (x := Int32.ofInt (-4)) (r := r) (by decide +kernel) (by decide +kernel)) (by decide) rfl rfl rfl ⟨rfl, rfl, trivial⟩ rfl rfl (fun v h2 hq => ?_)
              obtain ⟨rfl, r2, rfl⟩ := hq
              show cx_T _ 164 _ 40 ([some (.inr (.inl 0)), some (.inl (.int (Int32.ofInt 2))), some (.inl (.int c)), some (.inl (.int n)), some (.inl (.int (Int32.ofInt (-4))))], [.inl (.int (Int32.ofInt (-4)))], [(0, .inl (10, [.inr (.inl 1), .inr (.inl 2), .inr (.inl 15), .inr (.inl 21), .inr (.inl 43), .inr (.inl 68), .inr (.inl 77), .inr (.inl 87), .inr (.inl 101), .inr (.inl 107), .inr (.inl 113), .inl (.int dy)])), (1, .inr (.inl (0, 7, r2))), (113, .inl (2, [.inr (.inl 114)])), (114, .inr (.inr (.inr (3, [115, 116, 117, 118])))), (115, .inr (.inl (0, 24, F 0))), (116, .inr (.inl (0, 24, F 1))), (117, .inr (.inl (0, 24, F 2))), (118, .inr (.inl (0, 24, F 3)))]) _
              refine ex_goto cg_164 (ix := 20) (pc' := 53) rfl rfl ?_
              refine ex_ireturn cg_164 (ix := 27) rfl ?_
              exact ⟨_, _, _, rfl, rfl, Or.inr (Or.inl ⟨by omega, by omega, by decide +kernel, rfl⟩)⟩
          · show cx_T _ 164 _ 27 ([some (.inr (.inl 0)), some (.inl (.int (Int32.ofInt 2))), some (.inl (.int c)), some (.inl (.int n)), none], [.inl (.int (Int32.ofInt (-6)))], [(0, .inl (10, [.inr (.inl 1), .inr (.inl 2), .inr (.inl 15), .inr (.inl 21), .inr (.inl 43), .inr (.inl 68), .inr (.inl 77), .inr (.inl 87), .inr (.inl 101), .inr (.inl 107), .inr (.inl 113), .inl (.int dy)])), (1, .inr (.inl (0, 7, r))), (113, .inl (2, [.inr (.inl 114)])), (114, .inr (.inr (.inr (3, [115, 116, 117, 118])))), (115, .inr (.inl (0, 24, F 0))), (116, .inr (.inl (0, 24, F 1))), (117, .inr (.inl (0, 24, F 2))), (118, .inr (.inl (0, 24, F 3)))]) _
            refine ex_istore cg_164 (ix := 14) (pc' := 29) (L' := [some (.inr (.inl 0)), some (.inl (.int (Int32.ofInt 2))), some (.inl (.int c)), some (.inl (.int n)), some (.inl (.int (Int32.ofInt (-6))))]) rfl rfl rfl rfl ?_
            refine ex_iload cg_164 (ix := 15) (pc' := 31) rfl rfl rfl ?_
            refine ex_if cg_164 (ix := 16) (t := 43) (pc' := 34) rfl rfl rfl (fun hb31 => ?_) (fun hb31 => ?_)
            · have hb31 : (Int32.ofInt (-6)).toInt = 0 := hb31
              exfalso; first | omega | exact absurd hb31 (by decide +kernel)
            · have hb31 : ¬ ((Int32.ofInt (-6)).toInt = 0) := hb31
              refine ex_aload_n cg_164 (ix := 17) (pc' := 35) rfl rfl rfl ?_
              refine ex_iload cg_164 (ix := 18) (pc' := 37) rfl rfl rfl ?_
              refine ex_callV cg_164 (ix := 19) (pc' := 40) (As := [.inl (.int (Int32.ofInt (-6)))]) (r := []) rfl rfl rfl (ct_xref (dy := dy) (x := Int32.ofInt (-6)) (r := r) (by decide +kernel) (by decide +kernel)) (by decide) rfl rfl rfl ⟨rfl, rfl, trivial⟩ rfl rfl (fun v h2 hq => ?_)
              obtain ⟨rfl, r2, rfl⟩ := hq
              show cx_T _ 164 _ 40 ([some (.inr (.inl 0)), some (.inl (.int (Int32.ofInt 2))), some (.inl (.int c)), some (.inl (.int n)), some (.inl (.int (Int32.ofInt (-6))))], [.inl (.int (Int32.ofInt (-6)))], [(0, .inl (10, [.inr (.inl 1), .inr (.inl 2), .inr (.inl 15), .inr (.inl 21), .inr (.inl 43), .inr (.inl 68), .inr (.inl 77), .inr (.inl 87), .inr (.inl 101), .inr (.inl 107), .inr (.inl 113), .inl (.int dy)])), (1, .inr (.inl (0, 7, r2))), (113, .inl (2, [.inr (.inl 114)])), (114, .inr (.inr (.inr (3, [115, 116, 117, 118])))), (115, .inr (.inl (0, 24, F 0))), (116, .inr (.inl (0, 24, F 1))), (117, .inr (.inl (0, 24, F 2))), (118, .inr (.inl (0, 24, F 3)))]) _
              refine ex_goto cg_164 (ix := 20) (pc' := 53) rfl rfl ?_
              refine ex_ireturn cg_164 (ix := 27) rfl ?_
              exact ⟨_, _, _, rfl, rfl, Or.inr (Or.inr (Or.inl ⟨by omega, by omega, by decide +kernel, rfl⟩))⟩
          · show cx_T _ 164 _ 27 ([some (.inr (.inl 0)), some (.inl (.int (Int32.ofInt 2))), some (.inl (.int c)), some (.inl (.int n)), none], [.inl (.int (Int32.ofInt 0))], [(0, .inl (10, [.inr (.inl 1), .inr (.inl 2), .inr (.inl 15), .inr (.inl 21), .inr (.inl 43), .inr (.inl 68), .inr (.inl 77), .inr (.inl 87), .inr (.inl 101), .inr (.inl 107), .inr (.inl 113), .inl (.int dy)])), (1, .inr (.inl (0, 7, r))), (113, .inl (2, [.inr (.inl 114)])), (114, .inr (.inr (.inr (3, [115, 116, 117, 118])))), (115, .inr (.inl (0, 24, F 0))), (116, .inr (.inl (0, 24, F 1))), (117, .inr (.inl (0, 24, F 2))), (118, .inr (.inl (0, 24, F 3)))]) _
            refine ex_istore cg_164 (ix := 14) (pc' := 29) (L' := [some (.inr (.inl 0)), some (.inl (.int (Int32.ofInt 2))), some (.inl (.int c)), some (.inl (.int n)), some (.inl (.int (Int32.ofInt 0)))]) rfl rfl rfl rfl ?_
            refine ex_iload cg_164 (ix := 15) (pc' := 31) rfl rfl rfl ?_
            refine ex_if cg_164 (ix := 16) (t := 43) (pc' := 34) rfl rfl rfl (fun hb31 => ?_) (fun hb31 => ?_)
            · have hb31 : (Int32.ofInt 0).toInt = 0 := hb31
              refine ex_aload_n cg_164 (ix := 21) (pc' := 44) rfl rfl rfl ?_
              refine ex_getfield cg_164 (ix := 22) (pc' := 47) rfl rfl rfl rfl rfl ?_
              refine ex_iload_n cg_164 (ix := 23) (pc' := 48) rfl rfl rfl ?_
              refine ex_iload_n cg_164 (ix := 24) (pc' := 49) rfl rfl rfl ?_
              refine ex_iload_n cg_164 (ix := 25) (pc' := 50) rfl rfl rfl ?_
              refine ex_callV cg_164 (ix := 26) (pc' := 53) (As := [.inl (.int (Int32.ofInt 2)), .inl (.int c), .inl (.int n)]) (r := []) rfl rfl rfl (ct_put2 (c := c) (n := n) (F := F) (by omega) (by omega)) (by decide) rfl rfl rfl ⟨rfl, rfl, rfl, rfl, rfl, rfl, trivial⟩ rfl rfl (fun v h2 hq => ?_)
              obtain ⟨z, rfl, hz5, rfl⟩ := hq
              show cx_T _ 164 _ 53 ([some (.inr (.inl 0)), some (.inl (.int (Int32.ofInt 2))), some (.inl (.int c)), some (.inl (.int n)), some (.inl (.int (Int32.ofInt 0)))], [.inl (.int z)], [(0, .inl (10, [.inr (.inl 1), .inr (.inl 2), .inr (.inl 15), .inr (.inl 21), .inr (.inl 43), .inr (.inl 68), .inr (.inl 77), .inr (.inl 87), .inr (.inl 101), .inr (.inl 107), .inr (.inl 113), .inl (.int dy)])), (1, .inr (.inl (0, 7, r))), (113, .inl (2, [.inr (.inl 114)])), (114, .inr (.inr (.inr (3, [115, 116, 117, 118])))), (115, .inr (.inl (0, 24, F 0))), (116, .inr (.inl (0, 24, F 1))), (117, .inr (.inl (0, 24, upd (F 2) c.toNatClampNeg n))), (118, .inr (.inl (0, 24, F 3)))]) _
              refine ex_ireturn cg_164 (ix := 27) rfl ?_
              exact ⟨z, r, up2 F 2 (upd (F 2) c.toNatClampNeg n), rfl, rfl, Or.inr (Or.inr (Or.inr ⟨by omega, by omega, by omega, hz5, rfl⟩))⟩
            · have hb31 : ¬ ((Int32.ofInt 0).toInt = 0) := hb31
              exfalso; first | omega | exact absurd hb31 (by decide +kernel)
        · have hb11 : ¬ (¬ (Int32.ofInt 1).toInt = 0) := hb11
          exfalso; first | omega | exact absurd hb11 (by decide +kernel)
      · show cx_T _ 164 _ 11 ([some (.inr (.inl 0)), some (.inl (.int (Int32.ofInt 2))), some (.inl (.int c)), some (.inl (.int n)), none], [.inl (.int (Int32.ofInt 0))], [(0, .inl (10, [.inr (.inl 1), .inr (.inl 2), .inr (.inl 15), .inr (.inl 21), .inr (.inl 43), .inr (.inl 68), .inr (.inl 77), .inr (.inl 87), .inr (.inl 101), .inr (.inl 107), .inr (.inl 113), .inl (.int dy)])), (1, .inr (.inl (0, 7, r))), (113, .inl (2, [.inr (.inl 114)])), (114, .inr (.inr (.inr (3, [115, 116, 117, 118])))), (115, .inr (.inl (0, 24, F 0))), (116, .inr (.inl (0, 24, F 1))), (117, .inr (.inl (0, 24, F 2))), (118, .inr (.inl (0, 24, F 3)))]) _
        refine ex_if cg_164 (ix := 5) (t := 20) (pc' := 14) rfl rfl rfl (fun hb11 => ?_) (fun hb11 => ?_)
        · have hb11 : ¬ (Int32.ofInt 0).toInt = 0 := hb11
          exfalso; first | omega | exact absurd hb11 (by decide +kernel)
        · have hb11 : ¬ (¬ (Int32.ofInt 0).toInt = 0) := hb11
          refine ex_aload_n cg_164 (ix := 6) (pc' := 15) rfl rfl rfl ?_
          refine ex_iconst cg_164 (ix := 7) (pc' := 16) rfl rfl ?_
          refine ex_callV cg_164 (ix := 8) (pc' := 19) (As := [.inl (.int (Int32.ofInt (-1)))]) (r := []) rfl rfl rfl (ct_xref (dy := dy) (x := Int32.ofInt (-1)) (r := r) (by decide +kernel) (by decide +kernel)) (by decide) rfl rfl rfl ⟨rfl, rfl, trivial⟩ rfl rfl (fun v h2 hq => ?_)
          obtain ⟨rfl, r2, rfl⟩ := hq
          show cx_T _ 164 _ 19 ([some (.inr (.inl 0)), some (.inl (.int (Int32.ofInt 2))), some (.inl (.int c)), some (.inl (.int n)), none], [.inl (.int (Int32.ofInt (-1)))], [(0, .inl (10, [.inr (.inl 1), .inr (.inl 2), .inr (.inl 15), .inr (.inl 21), .inr (.inl 43), .inr (.inl 68), .inr (.inl 77), .inr (.inl 87), .inr (.inl 101), .inr (.inl 107), .inr (.inl 113), .inl (.int dy)])), (1, .inr (.inl (0, 7, r2))), (113, .inl (2, [.inr (.inl 114)])), (114, .inr (.inr (.inr (3, [115, 116, 117, 118])))), (115, .inr (.inl (0, 24, F 0))), (116, .inr (.inl (0, 24, F 1))), (117, .inr (.inl (0, 24, F 2))), (118, .inr (.inl (0, 24, F 3)))]) _
          refine ex_ireturn cg_164 (ix := 9) rfl ?_
          exact ⟨_, _, _, rfl, rfl, Or.inl ⟨by omega, by decide +kernel, rfl⟩⟩
  · show cx_T _ 164 _ 4 ([some (.inr (.inl 0)), some (.inl (.int (Int32.ofInt 2))), some (.inl (.int c)), some (.inl (.int n)), none], [.inl (.int (Int32.ofInt 0))], [(0, .inl (10, [.inr (.inl 1), .inr (.inl 2), .inr (.inl 15), .inr (.inl 21), .inr (.inl 43), .inr (.inl 68), .inr (.inl 77), .inr (.inl 87), .inr (.inl 101), .inr (.inl 107), .inr (.inl 113), .inl (.int dy)])), (1, .inr (.inl (0, 7, r))), (113, .inl (2, [.inr (.inl 114)])), (114, .inr (.inr (.inr (3, [115, 116, 117, 118])))), (115, .inr (.inl (0, 24, F 0))), (116, .inr (.inl (0, 24, F 1))), (117, .inr (.inl (0, 24, F 2))), (118, .inr (.inl (0, 24, F 3)))]) _
    refine ex_if cg_164 (ix := 2) (t := 14) (pc' := 7) rfl rfl rfl (fun hb4 => ?_) (fun hb4 => ?_)
    · have hb4 : (Int32.ofInt 0).toInt = 0 := hb4
      refine ex_aload_n cg_164 (ix := 6) (pc' := 15) rfl rfl rfl ?_
      refine ex_iconst cg_164 (ix := 7) (pc' := 16) rfl rfl ?_
      refine ex_callV cg_164 (ix := 8) (pc' := 19) (As := [.inl (.int (Int32.ofInt (-1)))]) (r := []) rfl rfl rfl (ct_xref (dy := dy) (x := Int32.ofInt (-1)) (r := r) (by decide +kernel) (by decide +kernel)) (by decide) rfl rfl rfl ⟨rfl, rfl, trivial⟩ rfl rfl (fun v h2 hq => ?_)
      obtain ⟨rfl, r2, rfl⟩ := hq
      show cx_T _ 164 _ 19 ([some (.inr (.inl 0)), some (.inl (.int (Int32.ofInt 2))), some (.inl (.int c)), some (.inl (.int n)), none], [.inl (.int (Int32.ofInt (-1)))], [(0, .inl (10, [.inr (.inl 1), .inr (.inl 2), .inr (.inl 15), .inr (.inl 21), .inr (.inl 43), .inr (.inl 68), .inr (.inl 77), .inr (.inl 87), .inr (.inl 101), .inr (.inl 107), .inr (.inl 113), .inl (.int dy)])), (1, .inr (.inl (0, 7, r2))), (113, .inl (2, [.inr (.inl 114)])), (114, .inr (.inr (.inr (3, [115, 116, 117, 118])))), (115, .inr (.inl (0, 24, F 0))), (116, .inr (.inl (0, 24, F 1))), (117, .inr (.inl (0, 24, F 2))), (118, .inr (.inl (0, 24, F 3)))]) _
      refine ex_ireturn cg_164 (ix := 9) rfl ?_
      exact ⟨_, _, _, rfl, rfl, Or.inl ⟨by omega, by decide +kernel, rfl⟩⟩
    · have hb4 : ¬ ((Int32.ofInt 0).toInt = 0) := hb4
      exfalso; first | omega | exact absurd hb4 (by decide +kernel)
theorem ct_drawn3 {dy c n : Int32} {r : Nat → Int32} {F : Nat → Nat → Int32} : cx_Ct 5 164 [.inr (.inl 0), .inl (.int (Int32.ofInt 3)), .inl (.int c), .inl (.int n)] (h_xd dy r F) (fun v h2 => ∃ (z : Int32) (r2 : Nat → Int32) (F2 : Nat → Nat → Int32), v = some (.inl (.int z)) ∧ h2 = h_xd dy r2 F2 ∧ dr_x (Int32.ofInt 3) c n F z F2) := by
  have kcm6 : (Int32.ofInt (-6)).toInt = -6 := by decide +kernel
  have kcm4 : (Int32.ofInt (-4)).toInt = -4 := by decide +kernel
  have kcm1 : (Int32.ofInt (-1)).toInt = -1 := by decide +kernel
  have kc0 : (Int32.ofInt 0).toInt = 0 := by decide +kernel
  have kc1 : (Int32.ofInt 1).toInt = 1 := by decide +kernel
  have kc3 : (Int32.ofInt 3).toInt = 3 := by decide +kernel
  have kc4 : (Int32.ofInt 4).toInt = 4 := by decide +kernel
  have kc24 : (Int32.ofInt 24).toInt = 24 := by decide +kernel
  have kc30 : (Int32.ofInt 30).toInt = 30 := by decide +kernel
  refine cx_Ct.of cg_164 (nL := 5) rfl rfl rfl ?_
  show cx_T 5 164 [0, 1, 113, 114, 115, 116, 117, 118] 0 ([some (.inr (.inl 0)), some (.inl (.int (Int32.ofInt 3))), some (.inl (.int c)), some (.inl (.int n)), none], [], h_xd dy r F) _
  refine ex_iload_n cg_164 (ix := 0) (pc' := 1) rfl rfl rfl ?_
  refine ex_callS cg_164 (ix := 1) (pc' := 4) (As := [.inl (.int (Int32.ofInt 3))]) (r := []) rfl rfl rfl (ct_xbeach (x := Int32.ofInt 3)) (by decide) rfl rfl trivial rfl rfl (fun v h2 hq => ?_)
  obtain ⟨z, rfl, rfl, hz1⟩ := hq
  rcases hz1 with ⟨hz1, rfl⟩ | ⟨hz1, rfl⟩
  · show cx_T _ 164 _ 4 ([some (.inr (.inl 0)), some (.inl (.int (Int32.ofInt 3))), some (.inl (.int c)), some (.inl (.int n)), none], [.inl (.int (Int32.ofInt 1))], [(0, .inl (10, [.inr (.inl 1), .inr (.inl 2), .inr (.inl 15), .inr (.inl 21), .inr (.inl 43), .inr (.inl 68), .inr (.inl 77), .inr (.inl 87), .inr (.inl 101), .inr (.inl 107), .inr (.inl 113), .inl (.int dy)])), (1, .inr (.inl (0, 7, r))), (113, .inl (2, [.inr (.inl 114)])), (114, .inr (.inr (.inr (3, [115, 116, 117, 118])))), (115, .inr (.inl (0, 24, F 0))), (116, .inr (.inl (0, 24, F 1))), (117, .inr (.inl (0, 24, F 2))), (118, .inr (.inl (0, 24, F 3)))]) _
    refine ex_if cg_164 (ix := 2) (t := 14) (pc' := 7) rfl rfl rfl (fun hb4 => ?_) (fun hb4 => ?_)
    · have hb4 : (Int32.ofInt 1).toInt = 0 := hb4
      exfalso; first | omega | exact absurd hb4 (by decide +kernel)
    · have hb4 : ¬ ((Int32.ofInt 1).toInt = 0) := hb4
      refine ex_iload_n cg_164 (ix := 3) (pc' := 8) rfl rfl rfl ?_
      refine ex_callS cg_164 (ix := 4) (pc' := 11) (As := [.inl (.int c)]) (r := []) rfl rfl rfl (ct_xcell (x := c)) (by decide) rfl rfl trivial rfl rfl (fun v h2 hq => ?_)
      obtain ⟨z, rfl, rfl, hz2⟩ := hq
      rcases hz2 with ⟨hz2, rfl⟩ | ⟨hz2, rfl⟩
      · show cx_T _ 164 _ 11 ([some (.inr (.inl 0)), some (.inl (.int (Int32.ofInt 3))), some (.inl (.int c)), some (.inl (.int n)), none], [.inl (.int (Int32.ofInt 1))], [(0, .inl (10, [.inr (.inl 1), .inr (.inl 2), .inr (.inl 15), .inr (.inl 21), .inr (.inl 43), .inr (.inl 68), .inr (.inl 77), .inr (.inl 87), .inr (.inl 101), .inr (.inl 107), .inr (.inl 113), .inl (.int dy)])), (1, .inr (.inl (0, 7, r))), (113, .inl (2, [.inr (.inl 114)])), (114, .inr (.inr (.inr (3, [115, 116, 117, 118])))), (115, .inr (.inl (0, 24, F 0))), (116, .inr (.inl (0, 24, F 1))), (117, .inr (.inl (0, 24, F 2))), (118, .inr (.inl (0, 24, F 3)))]) _
        refine ex_if cg_164 (ix := 5) (t := 20) (pc' := 14) rfl rfl rfl (fun hb11 => ?_) (fun hb11 => ?_)
        · have hb11 : ¬ (Int32.ofInt 1).toInt = 0 := hb11
          refine ex_iload_n cg_164 (ix := 10) (pc' := 21) rfl rfl rfl ?_
          refine ex_iconst cg_164 (ix := 11) (pc' := 22) rfl rfl ?_
          refine ex_bipush cg_164 (ix := 12) (pc' := 24) rfl rfl rfl ?_
          refine ex_callS cg_164 (ix := 13) (pc' := 27) (As := [.inl (.int n), .inl (.int (Int32.ofInt (-1))), .inl (.int (Int32.ofInt 30))]) (r := []) rfl rfl rfl (ct_out (x := n) (a := Int32.ofInt (-1)) (b := Int32.ofInt 30)) (by decide) rfl rfl trivial rfl rfl (fun v h2 hq => ?_)
          obtain ⟨z, rfl, rfl, hz3⟩ := hq
          rcases hz3 with ⟨hz3, rfl⟩ | ⟨hz3, hz4, rfl⟩ | ⟨hz3, hz4, rfl⟩
          · show cx_T _ 164 _ 27 ([some (.inr (.inl 0)), some (.inl (.int (Int32.ofInt 3))), some (.inl (.int c)), some (.inl (.int n)), none], [.inl (.int (Int32.ofInt (-4)))], [(0, .inl (10, [.inr (.inl 1), .inr (.inl 2), .inr (.inl 15), .inr (.inl 21), .inr (.inl 43), .inr (.inl 68), .inr (.inl 77), .inr (.inl 87), .inr (.inl 101), .inr (.inl 107), .inr (.inl 113), .inl (.int dy)])), (1, .inr (.inl (0, 7, r))), (113, .inl (2, [.inr (.inl 114)])), (114, .inr (.inr (.inr (3, [115, 116, 117, 118])))), (115, .inr (.inl (0, 24, F 0))), (116, .inr (.inl (0, 24, F 1))), (117, .inr (.inl (0, 24, F 2))), (118, .inr (.inl (0, 24, F 3)))]) _
            refine ex_istore cg_164 (ix := 14) (pc' := 29) (L' := [some (.inr (.inl 0)), some (.inl (.int (Int32.ofInt 3))), some (.inl (.int c)), some (.inl (.int n)), some (.inl (.int (Int32.ofInt (-4))))]) rfl rfl rfl rfl ?_
            refine ex_iload cg_164 (ix := 15) (pc' := 31) rfl rfl rfl ?_
            refine ex_if cg_164 (ix := 16) (t := 43) (pc' := 34) rfl rfl rfl (fun hb31 => ?_) (fun hb31 => ?_)
            · have hb31 : (Int32.ofInt (-4)).toInt = 0 := hb31
              exfalso; first | omega | exact absurd hb31 (by decide +kernel)
            · have hb31 : ¬ ((Int32.ofInt (-4)).toInt = 0) := hb31
              refine ex_aload_n cg_164 (ix := 17) (pc' := 35) rfl rfl rfl ?_
              refine ex_iload cg_164 (ix := 18) (pc' := 37) rfl rfl rfl ?_
              refine ex_callV cg_164 (ix := 19) (pc' := 40) (As := [.inl (.int (Int32.ofInt (-4)))]) (r := []) rfl rfl rfl (ct_xref (dy := dy) (x := Int32.ofInt (-4)) (r := r) (by decide +kernel) (by decide +kernel)) (by decide) rfl rfl rfl ⟨rfl, rfl, trivial⟩ rfl rfl (fun v h2 hq => ?_)
              obtain ⟨rfl, r2, rfl⟩ := hq
              show cx_T _ 164 _ 40 ([some (.inr (.inl 0)), some (.inl (.int (Int32.ofInt 3))), some (.inl (.int c)), some (.inl (.int n)), some (.inl (.int (Int32.ofInt (-4))))], [.inl (.int (Int32.ofInt (-4)))], [(0, .inl (10, [.inr (.inl 1), .inr (.inl 2), .inr (.inl 15), .inr (.inl 21), .inr (.inl 43), .inr (.inl 68), .inr (.inl 77), .inr (.inl 87), .inr (.inl 101), .inr (.inl 107), .inr (.inl 113), .inl (.int dy)])), (1, .inr (.inl (0, 7, r2))), (113, .inl (2, [.inr (.inl 114)])), (114, .inr (.inr (.inr (3, [115, 116, 117, 118])))), (115, .inr (.inl (0, 24, F 0))), (116, .inr (.inl (0, 24, F 1))), (117, .inr (.inl (0, 24, F 2))), (118, .inr (.inl (0, 24, F 3)))]) _
              refine ex_goto cg_164 (ix := 20) (pc' := 53) rfl rfl ?_
              refine ex_ireturn cg_164 (ix := 27) rfl ?_
              exact ⟨_, _, _, rfl, rfl, Or.inr (Or.inl ⟨by omega, by omega, by decide +kernel, rfl⟩)⟩
          · show cx_T _ 164 _ 27 ([some (.inr (.inl 0)), some (.inl (.int (Int32.ofInt 3))), some (.inl (.int c)), some (.inl (.int n)), none], [.inl (.int (Int32.ofInt (-6)))], [(0, .inl (10, [.inr (.inl 1), .inr (.inl 2), .inr (.inl 15), .inr (.inl 21), .inr (.inl 43), .inr (.inl 68), .inr (.inl 77), .inr (.inl 87), .inr (.inl 101), .inr (.inl 107), .inr (.inl 113), .inl (.int dy)])), (1, .inr (.inl (0, 7, r))), (113, .inl (2, [.inr (.inl 114)])), (114, .inr (.inr (.inr (3, [115, 116, 117, 118])))), (115, .inr (.inl (0, 24, F 0))), (116, .inr (.inl (0, 24, F 1))), (117, .inr (.inl (0, 24, F 2))), (118, .inr (.inl (0, 24, F 3)))]) _
            refine ex_istore cg_164 (ix := 14) (pc' := 29) (L' := [some (.inr (.inl 0)), some (.inl (.int (Int32.ofInt 3))), some (.inl (.int c)), some (.inl (.int n)), some (.inl (.int (Int32.ofInt (-6))))]) rfl rfl rfl rfl ?_
            refine ex_iload cg_164 (ix := 15) (pc' := 31) rfl rfl rfl ?_
            refine ex_if cg_164 (ix := 16) (t := 43) (pc' := 34) rfl rfl rfl (fun hb31 => ?_) (fun hb31 => ?_)
            · have hb31 : (Int32.ofInt (-6)).toInt = 0 := hb31
              exfalso; first | omega | exact absurd hb31 (by decide +kernel)
            · have hb31 : ¬ ((Int32.ofInt (-6)).toInt = 0) := hb31
              refine ex_aload_n cg_164 (ix := 17) (pc' := 35) rfl rfl rfl ?_
              refine ex_iload cg_164 (ix := 18) (pc' := 37) rfl rfl rfl ?_
              refine ex_callV cg_164 (ix := 19) (pc' := 40) (As := [.inl (.int (Int32.ofInt (-6)))]) (r := []) rfl rfl rfl (ct_xref (dy := dy) (x := Int32.ofInt (-6)) (r := r) (by decide +kernel) (by decide +kernel)) (by decide) rfl rfl rfl ⟨rfl, rfl, trivial⟩ rfl rfl (fun v h2 hq => ?_)
              obtain ⟨rfl, r2, rfl⟩ := hq
              show cx_T _ 164 _ 40 ([some (.inr (.inl 0)), some (.inl (.int (Int32.ofInt 3))), some (.inl (.int c)), some (.inl (.int n)), some (.inl (.int (Int32.ofInt (-6))))], [.inl (.int (Int32.ofInt (-6)))], [(0, .inl (10, [.inr (.inl 1), .inr (.inl 2), .inr (.inl 15), .inr (.inl 21), .inr (.inl 43), .inr (.inl 68), .inr (.inl 77), .inr (.inl 87), .inr (.inl 101), .inr (.inl 107), .inr (.inl 113), .inl (.int dy)])), (1, .inr (.inl (0, 7, r2))), (113, .inl (2, [.inr (.inl 114)])), (114, .inr (.inr (.inr (3, [115, 116, 117, 118])))), (115, .inr (.inl (0, 24, F 0))), (116, .inr (.inl (0, 24, F 1))), (117, .inr (.inl (0, 24, F 2))), (118, .inr (.inl (0, 24, F 3)))]) _
              refine ex_goto cg_164 (ix := 20) (pc' := 53) rfl rfl ?_
              refine ex_ireturn cg_164 (ix := 27) rfl ?_
              exact ⟨_, _, _, rfl, rfl, Or.inr (Or.inr (Or.inl ⟨by omega, by omega, by decide +kernel, rfl⟩))⟩
          · show cx_T _ 164 _ 27 ([some (.inr (.inl 0)), some (.inl (.int (Int32.ofInt 3))), some (.inl (.int c)), some (.inl (.int n)), none], [.inl (.int (Int32.ofInt 0))], [(0, .inl (10, [.inr (.inl 1), .inr (.inl 2), .inr (.inl 15), .inr (.inl 21), .inr (.inl 43), .inr (.inl 68), .inr (.inl 77), .inr (.inl 87), .inr (.inl 101), .inr (.inl 107), .inr (.inl 113), .inl (.int dy)])), (1, .inr (.inl (0, 7, r))), (113, .inl (2, [.inr (.inl 114)])), (114, .inr (.inr (.inr (3, [115, 116, 117, 118])))), (115, .inr (.inl (0, 24, F 0))), (116, .inr (.inl (0, 24, F 1))), (117, .inr (.inl (0, 24, F 2))), (118, .inr (.inl (0, 24, F 3)))]) _
            refine ex_istore cg_164 (ix := 14) (pc' := 29) (L' := [some (.inr (.inl 0)), some (.inl (.int (Int32.ofInt 3))), some (.inl (.int c)), some (.inl (.int n)), some (.inl (.int (Int32.ofInt 0)))]) rfl rfl rfl rfl ?_
            refine ex_iload cg_164 (ix := 15) (pc' := 31) rfl rfl rfl ?_
            refine ex_if cg_164 (ix := 16) (t := 43) (pc' := 34) rfl rfl rfl (fun hb31 => ?_) (fun hb31 => ?_)
            · have hb31 : (Int32.ofInt 0).toInt = 0 := hb31
              refine ex_aload_n cg_164 (ix := 21) (pc' := 44) rfl rfl rfl ?_
              refine ex_getfield cg_164 (ix := 22) (pc' := 47) rfl rfl rfl rfl rfl ?_
              refine ex_iload_n cg_164 (ix := 23) (pc' := 48) rfl rfl rfl ?_
              refine ex_iload_n cg_164 (ix := 24) (pc' := 49) rfl rfl rfl ?_
              refine ex_iload_n cg_164 (ix := 25) (pc' := 50) rfl rfl rfl ?_
              refine ex_callV cg_164 (ix := 26) (pc' := 53) (As := [.inl (.int (Int32.ofInt 3)), .inl (.int c), .inl (.int n)]) (r := []) rfl rfl rfl (ct_put3 (c := c) (n := n) (F := F) (by omega) (by omega)) (by decide) rfl rfl rfl ⟨rfl, rfl, rfl, rfl, rfl, rfl, trivial⟩ rfl rfl (fun v h2 hq => ?_)
              obtain ⟨z, rfl, hz5, rfl⟩ := hq
              show cx_T _ 164 _ 53 ([some (.inr (.inl 0)), some (.inl (.int (Int32.ofInt 3))), some (.inl (.int c)), some (.inl (.int n)), some (.inl (.int (Int32.ofInt 0)))], [.inl (.int z)], [(0, .inl (10, [.inr (.inl 1), .inr (.inl 2), .inr (.inl 15), .inr (.inl 21), .inr (.inl 43), .inr (.inl 68), .inr (.inl 77), .inr (.inl 87), .inr (.inl 101), .inr (.inl 107), .inr (.inl 113), .inl (.int dy)])), (1, .inr (.inl (0, 7, r))), (113, .inl (2, [.inr (.inl 114)])), (114, .inr (.inr (.inr (3, [115, 116, 117, 118])))), (115, .inr (.inl (0, 24, F 0))), (116, .inr (.inl (0, 24, F 1))), (117, .inr (.inl (0, 24, F 2))), (118, .inr (.inl (0, 24, upd (F 3) c.toNatClampNeg n)))]) _
              refine ex_ireturn cg_164 (ix := 27) rfl ?_
              exact ⟨z, r, up2 F 3 (upd (F 3) c.toNatClampNeg n), rfl, rfl, Or.inr (Or.inr (Or.inr ⟨by omega, by omega, by omega, hz5, rfl⟩))⟩
            · have hb31 : ¬ ((Int32.ofInt 0).toInt = 0) := hb31
              exfalso; first | omega | exact absurd hb31 (by decide +kernel)
        · have hb11 : ¬ (¬ (Int32.ofInt 1).toInt = 0) := hb11
          exfalso; first | omega | exact absurd hb11 (by decide +kernel)
      · show cx_T _ 164 _ 11 ([some (.inr (.inl 0)), some (.inl (.int (Int32.ofInt 3))), some (.inl (.int c)), some (.inl (.int n)), none], [.inl (.int (Int32.ofInt 0))], [(0, .inl (10, [.inr (.inl 1), .inr (.inl 2), .inr (.inl 15), .inr (.inl 21), .inr (.inl 43), .inr (.inl 68), .inr (.inl 77), .inr (.inl 87), .inr (.inl 101), .inr (.inl 107), .inr (.inl 113), .inl (.int dy)])), (1, .inr (.inl (0, 7, r))), (113, .inl (2, [.inr (.inl 114)])), (114, .inr (.inr (.inr (3, [115, 116, 117, 118])))), (115, .inr (.inl (0, 24, F 0))), (116, .inr (.inl (0, 24, F 1))), (117, .inr (.inl (0, 24, F 2))), (118, .inr (.inl (0, 24, F 3)))]) _
        refine ex_if cg_164 (ix := 5) (t := 20) (pc' := 14) rfl rfl rfl (fun hb11 => ?_) (fun hb11 => ?_)
        · have hb11 : ¬ (Int32.ofInt 0).toInt = 0 := hb11
          exfalso; first | omega | exact absurd hb11 (by decide +kernel)
        · have hb11 : ¬ (¬ (Int32.ofInt 0).toInt = 0) := hb11
          refine ex_aload_n cg_164 (ix := 6) (pc' := 15) rfl rfl rfl ?_
          refine ex_iconst cg_164 (ix := 7) (pc' := 16) rfl rfl ?_
          refine ex_callV cg_164 (ix := 8) (pc' := 19) (As := [.inl (.int (Int32.ofInt (-1)))]) (r := []) rfl rfl rfl (ct_xref (dy := dy) (x := Int32.ofInt (-1)) (r := r) (by decide +kernel) (by decide +kernel)) (by decide) rfl rfl rfl ⟨rfl, rfl, trivial⟩ rfl rfl (fun v h2 hq => ?_)
          obtain ⟨rfl, r2, rfl⟩ := hq
          show cx_T _ 164 _ 19 ([some (.inr (.inl 0)), some (.inl (.int (Int32.ofInt 3))), some (.inl (.int c)), some (.inl (.int n)), none], [.inl (.int (Int32.ofInt (-1)))], [(0, .inl (10, [.inr (.inl 1), .inr (.inl 2), .inr (.inl 15), .inr (.inl 21), .inr (.inl 43), .inr (.inl 68), .inr (.inl 77), .inr (.inl 87), .inr (.inl 101), .inr (.inl 107), .inr (.inl 113), .inl (.int dy)])), (1, .inr (.inl (0, 7, r2))), (113, .inl (2, [.inr (.inl 114)])), (114, .inr (.inr (.inr (3, [115, 116, 117, 118])))), (115, .inr (.inl (0, 24, F 0))), (116, .inr (.inl (0, 24, F 1))), (117, .inr (.inl (0, 24, F 2))), (118, .inr (.inl (0, 24, F 3)))]) _
          refine ex_ireturn cg_164 (ix := 9) rfl ?_
          exact ⟨_, _, _, rfl, rfl, Or.inl ⟨by omega, by decide +kernel, rfl⟩⟩
  · show cx_T _ 164 _ 4 ([some (.inr (.inl 0)), some (.inl (.int (Int32.ofInt 3))), some (.inl (.int c)), some (.inl (.int n)), none], [.inl (.int (Int32.ofInt 0))], [(0, .inl (10, [.inr (.inl 1), .inr (.inl 2), .inr (.inl 15), .inr (.inl 21), .inr (.inl 43), .inr (.inl 68), .inr (.inl 77), .inr (.inl 87), .inr (.inl 101), .inr (.inl 107), .inr (.inl 113), .inl (.int dy)])), (1, .inr (.inl (0, 7, r))), (113, .inl (2, [.inr (.inl 114)])), (114, .inr (.inr (.inr (3, [115, 116, 117, 118])))), (115, .inr (.inl (0, 24, F 0))), (116, .inr (.inl (0, 24, F 1))), (117, .inr (.inl (0, 24, F 2))), (118, .inr (.inl (0, 24, F 3)))]) _
    refine ex_if cg_164 (ix := 2) (t := 14) (pc' := 7) rfl rfl rfl (fun hb4 => ?_) (fun hb4 => ?_)
    · have hb4 : (Int32.ofInt 0).toInt = 0 := hb4
      refine ex_aload_n cg_164 (ix := 6) (pc' := 15) rfl rfl rfl ?_
      refine ex_iconst cg_164 (ix := 7) (pc' := 16) rfl rfl ?_
      refine ex_callV cg_164 (ix := 8) (pc' := 19) (As := [.inl (.int (Int32.ofInt (-1)))]) (r := []) rfl rfl rfl (ct_xref (dy := dy) (x := Int32.ofInt (-1)) (r := r) (by decide +kernel) (by decide +kernel)) (by decide) rfl rfl rfl ⟨rfl, rfl, trivial⟩ rfl rfl (fun v h2 hq => ?_)
      obtain ⟨rfl, r2, rfl⟩ := hq
      show cx_T _ 164 _ 19 ([some (.inr (.inl 0)), some (.inl (.int (Int32.ofInt 3))), some (.inl (.int c)), some (.inl (.int n)), none], [.inl (.int (Int32.ofInt (-1)))], [(0, .inl (10, [.inr (.inl 1), .inr (.inl 2), .inr (.inl 15), .inr (.inl 21), .inr (.inl 43), .inr (.inl 68), .inr (.inl 77), .inr (.inl 87), .inr (.inl 101), .inr (.inl 107), .inr (.inl 113), .inl (.int dy)])), (1, .inr (.inl (0, 7, r2))), (113, .inl (2, [.inr (.inl 114)])), (114, .inr (.inr (.inr (3, [115, 116, 117, 118])))), (115, .inr (.inl (0, 24, F 0))), (116, .inr (.inl (0, 24, F 1))), (117, .inr (.inl (0, 24, F 2))), (118, .inr (.inl (0, 24, F 3)))]) _
      refine ex_ireturn cg_164 (ix := 9) rfl ?_
      exact ⟨_, _, _, rfl, rfl, Or.inl ⟨by omega, by decide +kernel, rfl⟩⟩
    · have hb4 : ¬ ((Int32.ofInt 0).toInt = 0) := hb4
      exfalso; first | omega | exact absurd hb4 (by decide +kernel)
theorem ct_drawnN {dy b c n : Int32} {r : Nat → Int32} {F : Nat → Nat → Int32} (hb : ¬ (0 ≤ b.toInt ∧ b.toInt < 4)) : cx_Ct 5 164 [.inr (.inl 0), .inl (.int b), .inl (.int c), .inl (.int n)] (h_xd dy r F) (fun v h2 => ∃ (z : Int32) (r2 : Nat → Int32) (F2 : Nat → Nat → Int32), v = some (.inl (.int z)) ∧ h2 = h_xd dy r2 F2 ∧ dr_x b c n F z F2) := by
  have kcm6 : (Int32.ofInt (-6)).toInt = -6 := by decide +kernel
  have kcm4 : (Int32.ofInt (-4)).toInt = -4 := by decide +kernel
  have kcm1 : (Int32.ofInt (-1)).toInt = -1 := by decide +kernel
  have kc0 : (Int32.ofInt 0).toInt = 0 := by decide +kernel
  have kc1 : (Int32.ofInt 1).toInt = 1 := by decide +kernel
  have kc30 : (Int32.ofInt 30).toInt = 30 := by decide +kernel
  refine cx_Ct.of cg_164 (nL := 5) rfl rfl rfl ?_
  show cx_T 5 164 [0, 1, 113, 114, 115, 116, 117, 118] 0 ([some (.inr (.inl 0)), some (.inl (.int b)), some (.inl (.int c)), some (.inl (.int n)), none], [], h_xd dy r F) _
  refine ex_iload_n cg_164 (ix := 0) (pc' := 1) rfl rfl rfl ?_
  refine ex_callS cg_164 (ix := 1) (pc' := 4) (As := [.inl (.int b)]) (r := []) rfl rfl rfl (ct_xbeach (x := b)) (by decide) rfl rfl trivial rfl rfl (fun v h2 hq => ?_)
  obtain ⟨z, rfl, rfl, hz1⟩ := hq
  rcases hz1 with ⟨hz1, rfl⟩ | ⟨hz1, rfl⟩
  · show cx_T _ 164 _ 4 ([some (.inr (.inl 0)), some (.inl (.int b)), some (.inl (.int c)), some (.inl (.int n)), none], [.inl (.int (Int32.ofInt 1))], [(0, .inl (10, [.inr (.inl 1), .inr (.inl 2), .inr (.inl 15), .inr (.inl 21), .inr (.inl 43), .inr (.inl 68), .inr (.inl 77), .inr (.inl 87), .inr (.inl 101), .inr (.inl 107), .inr (.inl 113), .inl (.int dy)])), (1, .inr (.inl (0, 7, r))), (113, .inl (2, [.inr (.inl 114)])), (114, .inr (.inr (.inr (3, [115, 116, 117, 118])))), (115, .inr (.inl (0, 24, F 0))), (116, .inr (.inl (0, 24, F 1))), (117, .inr (.inl (0, 24, F 2))), (118, .inr (.inl (0, 24, F 3)))]) _
    refine ex_if cg_164 (ix := 2) (t := 14) (pc' := 7) rfl rfl rfl (fun hb4 => ?_) (fun hb4 => ?_)
    · have hb4 : (Int32.ofInt 1).toInt = 0 := hb4
      exfalso; first | omega | exact absurd hb4 (by decide +kernel)
    · have hb4 : ¬ ((Int32.ofInt 1).toInt = 0) := hb4
      exfalso; omega
  · show cx_T _ 164 _ 4 ([some (.inr (.inl 0)), some (.inl (.int b)), some (.inl (.int c)), some (.inl (.int n)), none], [.inl (.int (Int32.ofInt 0))], [(0, .inl (10, [.inr (.inl 1), .inr (.inl 2), .inr (.inl 15), .inr (.inl 21), .inr (.inl 43), .inr (.inl 68), .inr (.inl 77), .inr (.inl 87), .inr (.inl 101), .inr (.inl 107), .inr (.inl 113), .inl (.int dy)])), (1, .inr (.inl (0, 7, r))), (113, .inl (2, [.inr (.inl 114)])), (114, .inr (.inr (.inr (3, [115, 116, 117, 118])))), (115, .inr (.inl (0, 24, F 0))), (116, .inr (.inl (0, 24, F 1))), (117, .inr (.inl (0, 24, F 2))), (118, .inr (.inl (0, 24, F 3)))]) _
    refine ex_if cg_164 (ix := 2) (t := 14) (pc' := 7) rfl rfl rfl (fun hb4 => ?_) (fun hb4 => ?_)
    · have hb4 : (Int32.ofInt 0).toInt = 0 := hb4
      refine ex_aload_n cg_164 (ix := 6) (pc' := 15) rfl rfl rfl ?_
      refine ex_iconst cg_164 (ix := 7) (pc' := 16) rfl rfl ?_
      refine ex_callV cg_164 (ix := 8) (pc' := 19) (As := [.inl (.int (Int32.ofInt (-1)))]) (r := []) rfl rfl rfl (ct_xref (dy := dy) (x := Int32.ofInt (-1)) (r := r) (by decide +kernel) (by decide +kernel)) (by decide) rfl rfl rfl ⟨rfl, rfl, trivial⟩ rfl rfl (fun v h2 hq => ?_)
      obtain ⟨rfl, r2, rfl⟩ := hq
      show cx_T _ 164 _ 19 ([some (.inr (.inl 0)), some (.inl (.int b)), some (.inl (.int c)), some (.inl (.int n)), none], [.inl (.int (Int32.ofInt (-1)))], [(0, .inl (10, [.inr (.inl 1), .inr (.inl 2), .inr (.inl 15), .inr (.inl 21), .inr (.inl 43), .inr (.inl 68), .inr (.inl 77), .inr (.inl 87), .inr (.inl 101), .inr (.inl 107), .inr (.inl 113), .inl (.int dy)])), (1, .inr (.inl (0, 7, r2))), (113, .inl (2, [.inr (.inl 114)])), (114, .inr (.inr (.inr (3, [115, 116, 117, 118])))), (115, .inr (.inl (0, 24, F 0))), (116, .inr (.inl (0, 24, F 1))), (117, .inr (.inl (0, 24, F 2))), (118, .inr (.inl (0, 24, F 3)))]) _
      refine ex_ireturn cg_164 (ix := 9) rfl ?_
      exact ⟨_, _, _, rfl, rfl, Or.inl ⟨by omega, by decide +kernel, rfl⟩⟩
    · have hb4 : ¬ ((Int32.ofInt 0).toInt = 0) := hb4
      exfalso; first | omega | exact absurd hb4 (by decide +kernel)
theorem ct_drawn {dy b c n : Int32} {r : Nat → Int32} {F : Nat → Nat → Int32} : cx_Ct 5 164 [.inr (.inl 0), .inl (.int b), .inl (.int c), .inl (.int n)] (h_xd dy r F) (fun v h2 => ∃ (z : Int32) (r2 : Nat → Int32) (F2 : Nat → Nat → Int32), v = some (.inl (.int z)) ∧ h2 = h_xd dy r2 F2 ∧ dr_x b c n F z F2) := by
  by_cases hb : 0 ≤ b.toInt ∧ b.toInt < 4
  · rcases (show b.toInt = 0 ∨ b.toInt = 1 ∨ b.toInt = 2 ∨ b.toInt = 3 by omega) with q | q | q | q
    · rw [show b = Int32.ofInt 0 from cx_i32 (by rw [q]; decide +kernel)]; exact ct_drawn0
    · rw [show b = Int32.ofInt 1 from cx_i32 (by rw [q]; decide +kernel)]; exact ct_drawn1
    · rw [show b = Int32.ofInt 2 from cx_i32 (by rw [q]; decide +kernel)]; exact ct_drawn2
    · rw [show b = Int32.ofInt 3 from cx_i32 (by rw [q]; decide +kernel)]; exact ct_drawn3
  · exact ct_drawnN hb
end
