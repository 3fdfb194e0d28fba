noncomputable section
theorem cg_176 : cx_G 176 tb_176 TbX10 (some .int) := cx_G.of gok_176
theorem cg_169 : cx_G 169 tb_169 TbX10 (some .boolean) := cx_G.of gok_169
theorem cg_130 : cx_G 130 tb_130 TbX10 (some .int) := cx_G.of gok_130
theorem cg_131 : cx_G 131 tb_131 TbX10 (some .int) := cx_G.of gok_131
theorem cg_182 : cx_G 182 tb_182 TbX11 (some .int) := cx_G.of gok_182
theorem cg_185 : cx_G 185 tb_185 TbX11 (some .boolean) := cx_G.of gok_185
theorem cg_188 : cx_G 188 tb_188 TbX11 (some .int) := cx_G.of gok_188
theorem cg_191 : cx_G 191 tb_191 TbX11 (some .int) := cx_G.of gok_191
theorem ct_xhour {x : Int32} : cx_Ct 2 169 [.inl (.int x)] [] (fun v h2 => ∃ z : Int32, v = some (.inl (.int z)) ∧ h2 = [] ∧ ((0 ≤ x.toInt ∧ x.toInt < 16) ∧ z = Int32.ofInt 1 ∨ ¬ (0 ≤ x.toInt ∧ x.toInt < 16) ∧ z = Int32.ofInt 0)) := by
  have kc16 : (Int32.ofInt 16).toInt = 16 := by decide +kernel
  have kc1 : (Int32.ofInt 1).toInt = 1 := by decide +kernel
  have kc0 : (Int32.ofInt 0).toInt = 0 := by decide +kernel
  refine cx_Ct.of cg_169 (nL := 1) rfl rfl rfl ?_
  show cx_T 2 169 [] 0 ([some (.inl (.int x))], [], []) _
  refine ex_iload_n cg_169 (ix := 0) (pc' := 1) rfl rfl rfl ?_
  refine ex_if cg_169 (ix := 1) (t := 14) (pc' := 4) rfl rfl rfl (fun hb1 => ?_) (fun hb1 => ?_)
  · have hb1 : x.toInt < 0 := hb1
    refine ex_iconst cg_169 (ix := 7) (pc' := 15) rfl rfl ?_
    refine ex_zreturn cg_169 (ix := 8) rfl (by first | exact Or.inl rfl | exact Or.inr rfl | (first | exact Or.inr rfl | exact Or.inl rfl)) ?_
    exact ⟨_, rfl, rfl, Or.inr ⟨by omega, rfl⟩⟩
  · have hb1 : ¬ (x.toInt < 0) := hb1
    refine ex_iload_n cg_169 (ix := 2) (pc' := 5) rfl rfl rfl ?_
    refine ex_bipush cg_169 (ix := 3) (pc' := 7) rfl rfl rfl ?_
    refine ex_icmp cg_169 (ix := 4) (t := 14) (pc' := 10) rfl rfl rfl (fun hb7 => ?_) (fun hb7 => ?_)
    · have hb7 : (Int32.ofInt 16).toInt ≤ x.toInt := hb7
      refine ex_iconst cg_169 (ix := 7) (pc' := 15) rfl rfl ?_
      refine ex_zreturn cg_169 (ix := 8) rfl (by first | exact Or.inl rfl | exact Or.inr rfl | (first | exact Or.inr rfl | exact Or.inl rfl)) ?_
      exact ⟨_, rfl, rfl, Or.inr ⟨by omega, rfl⟩⟩
    · have hb7 : ¬ ((Int32.ofInt 16).toInt ≤ x.toInt) := hb7
      refine ex_iconst cg_169 (ix := 5) (pc' := 11) rfl rfl ?_
      refine ex_goto cg_169 (ix := 6) (pc' := 15) rfl rfl ?_
      refine ex_zreturn cg_169 (ix := 8) rfl (by first | exact Or.inl rfl | exact Or.inr rfl | (first | exact Or.inr rfl | exact Or.inl rfl)) ?_
      exact ⟨_, rfl, rfl, Or.inl ⟨by omega, rfl⟩⟩
theorem ct_mhour {x : Int32} : cx_Ct 3 185 [.inl (.int x)] [] (fun v h2 => ∃ z : Int32, v = some (.inl (.int z)) ∧ h2 = [] ∧ ((0 ≤ x.toInt ∧ x.toInt < 16) ∧ z = Int32.ofInt 1 ∨ ¬ (0 ≤ x.toInt ∧ x.toInt < 16) ∧ z = Int32.ofInt 0)) := by
  have kc0 : (Int32.ofInt 0).toInt = 0 := by decide +kernel
  have kc15 : (Int32.ofInt 15).toInt = 15 := by decide +kernel
  refine cx_Ct.of cg_185 (nL := 1) rfl rfl rfl ?_
  show cx_T 3 185 [] 0 ([some (.inl (.int x))], [], []) _
  refine ex_iload_n cg_185 (ix := 0) (pc' := 1) rfl rfl rfl ?_
  refine ex_iconst cg_185 (ix := 1) (pc' := 2) rfl rfl ?_
  refine ex_bipush cg_185 (ix := 2) (pc' := 4) rfl rfl rfl ?_
  refine ex_callS cg_185 (ix := 3) (pc' := 7) (As := [.inl (.int x), .inl (.int (Int32.ofInt 0)), .inl (.int (Int32.ofInt 15))]) (r := []) rfl rfl rfl (ct_min (x := x) (a := Int32.ofInt 0) (b := Int32.ofInt 15)) (by first | decide | omega) rfl rfl trivial rfl rfl (fun v h2 hq => ?_)
  obtain ⟨z, rfl, rfl, hz⟩ := hq
  rcases hz with ⟨hz, rfl⟩ | ⟨hz, rfl⟩
  · show cx_T _ 185 _ 7 ([some (.inl (.int x))], [.inl (.int (Int32.ofInt 1))], []) _
    refine ex_zreturn cg_185 (ix := 4) rfl (by first | exact Or.inl rfl | exact Or.inr rfl | (first | exact Or.inr rfl | exact Or.inl rfl)) ?_
    exact ⟨_, rfl, rfl, Or.inl ⟨by omega, rfl⟩⟩
  · show cx_T _ 185 _ 7 ([some (.inl (.int x))], [.inl (.int (Int32.ofInt 0))], []) _
    refine ex_zreturn cg_185 (ix := 4) rfl (by first | exact Or.inl rfl | exact Or.inr rfl | (first | exact Or.inr rfl | exact Or.inl rfl)) ?_
    exact ⟨_, rfl, rfl, Or.inr ⟨by omega, rfl⟩⟩
theorem ct_xrs {dy x : Int32} {r : Nat → Int32} (h1 : -6 ≤ x.toInt) (h2 : x.toInt ≤ -1) : cx_Ct 3 176 [.inr (.inl 0), .inl (.int x)] (h_rf dy r) (fun v h2 => v = some (.inl (.int (Int32.ofInt 1000000000 - x))) ∧ ∃ r2, h2 = h_rf dy r2) := by
  refine cx_Ct.of cg_176 (nL := 2) rfl rfl rfl ?_
  show cx_T 3 176 [0, 1] 0 ([some (.inr (.inl 0)), some (.inl (.int x))], [], h_rf dy r) _
  refine ex_ldc_w cg_176 (ix := 0) (pc' := 3) rfl rfl rfl ?_
  refine ex_aload_n cg_176 (ix := 1) (pc' := 4) rfl rfl rfl ?_
  refine ex_iload_n cg_176 (ix := 2) (pc' := 5) rfl rfl rfl ?_
  refine ex_callV cg_176 (ix := 3) (pc' := 8) (As := [.inl (.int x)]) (r := [.inl (.int (Int32.ofInt 1000000000))]) rfl rfl rfl (ct_xref (dy := dy) (x := x) (r := r) h1 h2) (by first | decide | omega) rfl rfl rfl ⟨rfl, rfl, trivial⟩ rfl rfl (fun v h2 hq => ?_)
  obtain ⟨rfl, r2, rfl⟩ := hq
  show cx_T _ 176 _ 8 ([some (.inr (.inl 0)), some (.inl (.int x))], [.inl (.int x), .inl (.int (Int32.ofInt 1000000000))], [(0, .inl (10, [.inr (.inl 1), .inr (.inl 2), .inr (.inl 15), .inr (.inl 21), .inr (.inl 43), .inr (.inl 68), .inr (.inl 77), .inr (.inl 87), .inr (.inl 101), .inr (.inl 107), .inr (.inl 113), .inl (.int dy)])), (1, .inr (.inl (0, 7, r2)))]) _
  refine ex_isub cg_176 (ix := 4) (pc' := 9) rfl rfl ?_
  refine ex_ireturn cg_176 (ix := 5) rfl ?_
  exact ⟨rfl, _, rfl⟩
theorem ct_mrf {x : Int32} {mi : Nat → Int32} {ml : Nat → Int64} {r : Nat → Int32} (h1 : -6 ≤ x.toInt) (h2 : x.toInt ≤ -1) : cx_Ct 2 182 [.inr (.inl 119), .inl (.int x)] (h_mr mi ml r) (fun v h2 => v = some (.inl (.int (Int32.ofInt 1000000000 - x))) ∧ ∃ r2, h2 = h_mr mi ml r2) := by
  have kc1 : (Int32.ofInt 1).toInt = 1 := by decide +kernel
  have kc1000000000 : (Int32.ofInt 1000000000).toInt = 1000000000 := by decide +kernel
  have hng : (-x).toInt = - x.toInt := cx_negc (by omega)
  refine cx_Ct.of cg_182 (nL := 2) rfl rfl rfl ?_
  show cx_T 2 182 [119, 126] 0 ([some (.inr (.inl 119)), some (.inl (.int x))], [], (h_mr mi ml r)) _
  refine ex_aload_n cg_182 (ix := 0) (pc' := 1) rfl rfl rfl ?_
  refine ex_getfield cg_182 (ix := 1) (pc' := 4) (v := .inr (.inl 126)) rfl rfl rfl rfl rfl ?_
  refine ex_iload_n cg_182 (ix := 2) (pc' := 5) rfl rfl rfl ?_
  refine ex_ineg cg_182 (ix := 3) (pc' := 6) rfl rfl ?_
  refine ex_dup2 cg_182 (ix := 4) (pc' := 7) rfl rfl rfl rfl ?_
  refine ex_iaload cg_182 (ix := 5) (pc' := 8) rfl rfl (by omega) (by omega) rfl ?_
  refine ex_iconst cg_182 (ix := 6) (pc' := 9) rfl rfl ?_
  refine ex_iadd cg_182 (ix := 7) (pc' := 10) rfl rfl ?_
  refine ex_iastore cg_182 (ix := 8) (pc' := 11) (h' := [(119, .inl (11, vs_119 mi ml)), (126, .inr (.inl (0, 7, upd r (-x).toNatClampNeg ((r (-x).toNatClampNeg) + (Int32.ofInt 1)))))]) rfl rfl (by omega) (by omega) rfl rfl ?_
  refine ex_ldc cg_182 (ix := 9) (pc' := 13) rfl rfl rfl ?_
  refine ex_iload_n cg_182 (ix := 10) (pc' := 14) rfl rfl rfl ?_
  refine ex_isub cg_182 (ix := 11) (pc' := 15) rfl rfl ?_
  refine ex_ireturn cg_182 (ix := 12) rfl ?_
  exact ⟨rfl, _, rfl⟩
def fa (n : Int) : Int32 := Int32.ofInt 1000000000 - Int32.ofInt n
/-- what gauge answers and does -/
def ga (x w v : Int32) (t s : Nat → Int32) (z : Int32) (t2 s2 : Nat → Int32) : Prop :=
  (¬ (0 ≤ x.toInt ∧ x.toInt < 16) ∧ z = fa (-1) ∧ t2 = t ∧ s2 = s) ∨
  ((0 ≤ x.toInt ∧ x.toInt < 16) ∧ ¬ w.toInt = 0 ∧ ¬ w.toInt = 1 ∧ z = fa (-2) ∧ t2 = t ∧ s2 = s) ∨
  ((0 ≤ x.toInt ∧ x.toInt < 16) ∧ (w.toInt = 0 ∧ v.toInt < -9 ∨ w.toInt = 1 ∧ v.toInt < 0) ∧ z = fa (-4) ∧ t2 = t ∧ s2 = s) ∨
  ((0 ≤ x.toInt ∧ x.toInt < 16) ∧ (w.toInt = 0 ∨ w.toInt = 1) ∧ 9 < v.toInt ∧ ¬ v.toInt = 99 ∧ z = fa (-6) ∧ t2 = t ∧ s2 = s) ∨
  ((0 ≤ x.toInt ∧ x.toInt < 16) ∧ w.toInt = 0 ∧ (-9 ≤ v.toInt ∧ v.toInt ≤ 9 ∨ v.toInt = 99) ∧ z = t x.toNatClampNeg ∧ t2 = upd t x.toNatClampNeg v ∧ s2 = s) ∨
  ((0 ≤ x.toInt ∧ x.toInt < 16) ∧ w.toInt = 1 ∧ (0 ≤ v.toInt ∧ v.toInt ≤ 9 ∨ v.toInt = 99) ∧ z = s x.toNatClampNeg ∧ t2 = t ∧ s2 = upd s x.toNatClampNeg v)
theorem upd_id {f : Nat → Int32} {k : Nat} : upd f k (f k) = f := by
  funext i
  unfold upd
  by_cases q : i = k
  · rw [if_pos q, q]
  · rw [if_neg q]
/-- what may answers -/
def ma (x w : Int32) (t s : Nat → Int32) (z : Int32) : Prop :=
  (¬ (0 ≤ x.toInt ∧ x.toInt < 16) ∧ z = fa (-1)) ∨
  ((0 ≤ x.toInt ∧ x.toInt < 16) ∧ ¬ (0 ≤ w.toInt ∧ w.toInt ≤ 2) ∧ z = fa (-2)) ∨
  ((0 ≤ x.toInt ∧ x.toInt < 16) ∧ w.toInt = 0 ∧ z.toInt = td_lo (td_a t x.toNatClampNeg).toInt (td_b t x.toNatClampNeg (16 - x.toNatClampNeg)).toInt) ∨
  ((0 ≤ x.toInt ∧ x.toInt < 16) ∧ w.toInt = 1 ∧ z.toInt = td_hi (td_a t x.toNatClampNeg).toInt (td_b t x.toNatClampNeg (16 - x.toNatClampNeg)).toInt) ∨
  ((0 ≤ x.toInt ∧ x.toInt < 16) ∧ w.toInt = 2 ∧ z = sw_x s x.toNatClampNeg)
def h_xt (dy : Int32) (r t s : Nat → Int32) : cx_H := (0, .inl (10, vs_0 dy)) :: (1, .inr (.inl (0, 7, r))) :: h_td t s
theorem ct_gauge {dy x w v : Int32} {r t s : Nat → Int32} : cx_Ct 5 130 [.inr (.inl 0), .inl (.int x), .inl (.int w), .inl (.int v)] (h_xt dy r t s) (fun v2 h2 => ∃ (z : Int32) (r2 t2 s2 : Nat → Int32), v2 = some (.inl (.int z)) ∧ h2 = h_xt dy r2 t2 s2 ∧ ga x w v t s z t2 s2) := by
  have kc0 : (Int32.ofInt 0).toInt = 0 := by decide +kernel
  have kc1 : (Int32.ofInt 1).toInt = 1 := by decide +kernel
  have kc9 : (Int32.ofInt 9).toInt = 9 := by decide +kernel
  have kcm9 : (Int32.ofInt (-9)).toInt = -9 := by decide +kernel
  have kc99 : (Int32.ofInt 99).toInt = 99 := by decide +kernel
  have kcm1 : (Int32.ofInt (-1)).toInt = -1 := by decide +kernel
  have kcm2 : (Int32.ofInt (-2)).toInt = -2 := by decide +kernel
  have kcm4 : (Int32.ofInt (-4)).toInt = -4 := by decide +kernel
  have kcm6 : (Int32.ofInt (-6)).toInt = -6 := by decide +kernel
  refine cx_Ct.of cg_130 (nL := 5) rfl rfl rfl ?_
  show cx_T 5 130 [0, 1, 2, 3, 4] 0 ([some (.inr (.inl 0)), some (.inl (.int x)), some (.inl (.int w)), some (.inl (.int v)), none], [], h_xt dy r t s) _
  refine ex_iload_n cg_130 (ix := 0) (pc' := 1) rfl rfl rfl ?_
  refine ex_callS cg_130 (ix := 1) (pc' := 4) (As := [.inl (.int x)]) (r := []) rfl rfl rfl (ct_xhour (x := x)) (by first | decide | omega) rfl rfl trivial rfl rfl (fun v h2 hq => ?_)
  obtain ⟨z, rfl, rfl, hz1⟩ := hq
  rcases hz1 with ⟨hz1, rfl⟩ | ⟨hz1, rfl⟩
  · show cx_T _ 130 _ 4 ([some (.inr (.inl 0)), some (.inl (.int x)), some (.inl (.int w)), some (.inl (.int v)), none], [.inl (.int (Int32.ofInt 1))], [(0, .inl (10, [.inr (.inl 1), .inr (.inl 2), .inr (.inl 15), .inr (.inl 21), .inr (.inl 43), .inr (.inl 68), .inr (.inl 77), .inr (.inl 87), .inr (.inl 101), .inr (.inl 107), .inr (.inl 113), .inl (.int dy)])), (1, .inr (.inl (0, 7, r))), (2, .inl (8, [.inr (.inl 3), .inr (.inl 4), .inr (.inl 5), .inr (.inl 10)])), (3, .inr (.inl (0, 16, t))), (4, .inr (.inl (0, 16, s)))]) _
    refine ex_if cg_130 (ix := 2) (t := 13) (pc' := 7) rfl rfl rfl (fun hb4 => ?_) (fun hb4 => ?_)
    · have hb4 : ¬ (Int32.ofInt 1).toInt = 0 := hb4
      refine ex_iload_n cg_130 (ix := 7) (pc' := 14) rfl rfl rfl ?_
      refine ex_if cg_130 (ix := 8) (t := 29) (pc' := 17) rfl rfl rfl (fun hb14 => ?_) (fun hb14 => ?_)
      · have hb14 : w.toInt = 0 := hb14
        refine ex_iload_n cg_130 (ix := 16) (pc' := 30) rfl rfl rfl ?_
        refine ex_if cg_130 (ix := 17) (t := 44) (pc' := 33) rfl rfl rfl (fun hb30 => ?_) (fun hb30 => ?_)
        · have hb30 : ¬ w.toInt = 0 := hb30
          refine ex_iload_n cg_130 (ix := 23) (pc' := 45) rfl rfl rfl ?_
          refine ex_iconst cg_130 (ix := 24) (pc' := 46) rfl rfl ?_
          refine ex_bipush cg_130 (ix := 25) (pc' := 48) rfl rfl rfl ?_
          refine ex_callS cg_130 (ix := 26) (pc' := 51) (As := [.inl (.int v), .inl (.int (Int32.ofInt 0)), .inl (.int (Int32.ofInt 9))]) (r := []) rfl rfl rfl (ct_out (x := v) (a := Int32.ofInt 0) (b := Int32.ofInt 9)) (by first | decide | omega) rfl rfl trivial rfl rfl (fun v h2 hq => ?_)
          obtain ⟨z, rfl, rfl, hz3⟩ := hq
          rcases hz3 with ⟨hz3, rfl⟩ | ⟨hz3, hz4, rfl⟩ | ⟨hz3, hz4, rfl⟩
          · show cx_T _ 130 _ 51 ([some (.inr (.inl 0)), some (.inl (.int x)), some (.inl (.int w)), some (.inl (.int v)), none], [.inl (.int (Int32.ofInt (-4)))], [(0, .inl (10, [.inr (.inl 1), .inr (.inl 2), .inr (.inl 15), .inr (.inl 21), .inr (.inl 43), .inr (.inl 68), .inr (.inl 77), .inr (.inl 87), .inr (.inl 101), .inr (.inl 107), .inr (.inl 113), .inl (.int dy)])), (1, .inr (.inl (0, 7, r))), (2, .inl (8, [.inr (.inl 3), .inr (.inl 4), .inr (.inl 5), .inr (.inl 10)])), (3, .inr (.inl (0, 16, t))), (4, .inr (.inl (0, 16, s)))]) _
            refine ex_istore cg_130 (ix := 27) (pc' := 53) (L' := [some (.inr (.inl 0)), some (.inl (.int x)), some (.inl (.int w)), some (.inl (.int v)), some (.inl (.int (Int32.ofInt (-4))))]) rfl rfl rfl rfl ?_
            refine ex_iload cg_130 (ix := 28) (pc' := 55) rfl rfl rfl ?_
            refine ex_if cg_130 (ix := 29) (t := 71) (pc' := 58) rfl rfl rfl (fun hb55 => ?_) (fun hb55 => ?_)
            · have hb55 : (Int32.ofInt (-4)).toInt = 0 := hb55
              exfalso; first | omega | exact absurd hb55 (by decide +kernel)
            · have hb55 : ¬ ((Int32.ofInt (-4)).toInt = 0) := hb55
              refine ex_iload_n cg_130 (ix := 30) (pc' := 59) rfl rfl rfl ?_
              refine ex_bipush cg_130 (ix := 31) (pc' := 61) rfl rfl rfl ?_
              refine ex_icmp cg_130 (ix := 32) (t := 71) (pc' := 64) rfl rfl rfl (fun hb61 => ?_) (fun hb61 => ?_)
              · have hb61 : v.toInt = (Int32.ofInt 99).toInt := hb61
                refine ex_iload_n cg_130 (ix := 37) (pc' := 72) rfl rfl rfl ?_
                refine ex_if cg_130 (ix := 38) (t := 87) (pc' := 75) rfl rfl rfl (fun hb72 => ?_) (fun hb72 => ?_)
                · have hb72 : ¬ w.toInt = 0 := hb72
                  refine ex_aload_n cg_130 (ix := 45) (pc' := 88) rfl rfl rfl ?_
                  refine ex_getfield cg_130 (ix := 46) (pc' := 91) rfl rfl rfl rfl rfl ?_
                  refine ex_iload_n cg_130 (ix := 47) (pc' := 92) rfl rfl rfl ?_
                  refine ex_iload_n cg_130 (ix := 48) (pc' := 93) rfl rfl rfl ?_
                  refine ex_callV cg_130 (ix := 49) (pc' := 96) (As := [.inl (.int x), .inl (.int v)]) (r := []) rfl rfl rfl (ct_ps (x := x) (y := v) (t := t) (s := s) (by omega) (by omega)) (by first | decide | omega) rfl rfl rfl ⟨rfl, rfl, rfl, trivial⟩ rfl rfl (fun v h2 hq => ?_)
                  obtain ⟨rfl, rfl⟩ := hq
                  show cx_T _ 130 _ 96 ([some (.inr (.inl 0)), some (.inl (.int x)), some (.inl (.int w)), some (.inl (.int v)), some (.inl (.int (Int32.ofInt (-4))))], [.inl (.int (s x.toNatClampNeg))], [(0, .inl (10, [.inr (.inl 1), .inr (.inl 2), .inr (.inl 15), .inr (.inl 21), .inr (.inl 43), .inr (.inl 68), .inr (.inl 77), .inr (.inl 87), .inr (.inl 101), .inr (.inl 107), .inr (.inl 113), .inl (.int dy)])), (1, .inr (.inl (0, 7, r))), (2, .inl (8, [.inr (.inl 3), .inr (.inl 4), .inr (.inl 5), .inr (.inl 10)])), (3, .inr (.inl (0, 16, t))), (4, .inr (.inl (0, 16, upd s x.toNatClampNeg v)))]) _
                  refine ex_ireturn cg_130 (ix := 50) rfl ?_
                  exact ⟨_, r, _, _, rfl, rfl, Or.inr (Or.inr (Or.inr (Or.inr (Or.inr (⟨by omega, by omega, by omega, rfl, rfl, rfl⟩)))))⟩
                · have hb72 : ¬ (¬ w.toInt = 0) := hb72
                  refine ex_aload_n cg_130 (ix := 39) (pc' := 76) rfl rfl rfl ?_
                  refine ex_getfield cg_130 (ix := 40) (pc' := 79) rfl rfl rfl rfl rfl ?_
                  refine ex_iload_n cg_130 (ix := 41) (pc' := 80) rfl rfl rfl ?_
                  refine ex_iload_n cg_130 (ix := 42) (pc' := 81) rfl rfl rfl ?_
                  refine ex_callV cg_130 (ix := 43) (pc' := 84) (As := [.inl (.int x), .inl (.int v)]) (r := []) rfl rfl rfl (ct_pt (x := x) (y := v) (t := t) (s := s) (by omega) (by omega)) (by first | decide | omega) rfl rfl rfl ⟨rfl, rfl, rfl, trivial⟩ rfl rfl (fun v h2 hq => ?_)
                  obtain ⟨rfl, rfl⟩ := hq
                  show cx_T _ 130 _ 84 ([some (.inr (.inl 0)), some (.inl (.int x)), some (.inl (.int w)), some (.inl (.int v)), some (.inl (.int (Int32.ofInt (-4))))], [.inl (.int (t x.toNatClampNeg))], [(0, .inl (10, [.inr (.inl 1), .inr (.inl 2), .inr (.inl 15), .inr (.inl 21), .inr (.inl 43), .inr (.inl 68), .inr (.inl 77), .inr (.inl 87), .inr (.inl 101), .inr (.inl 107), .inr (.inl 113), .inl (.int dy)])), (1, .inr (.inl (0, 7, r))), (2, .inl (8, [.inr (.inl 3), .inr (.inl 4), .inr (.inl 5), .inr (.inl 10)])), (3, .inr (.inl (0, 16, upd t x.toNatClampNeg v))), (4, .inr (.inl (0, 16, s)))]) _
                  refine ex_goto cg_130 (ix := 44) (pc' := 96) rfl rfl ?_
                  refine ex_ireturn cg_130 (ix := 50) rfl ?_
                  exact ⟨_, r, _, _, rfl, rfl, Or.inr (Or.inr (Or.inr (Or.inr (Or.inl ⟨by omega, by omega, by omega, rfl, rfl, rfl⟩))))⟩
              · have hb61 : ¬ (v.toInt = (Int32.ofInt 99).toInt) := hb61
                refine ex_aload_n cg_130 (ix := 33) (pc' := 65) rfl rfl rfl ?_
                refine ex_iload cg_130 (ix := 34) (pc' := 67) rfl rfl rfl ?_
                refine ex_callV cg_130 (ix := 35) (pc' := 70) (As := [.inl (.int (Int32.ofInt (-4)))]) (r := []) rfl rfl rfl (ct_xrs (dy := dy) (x := Int32.ofInt (-4)) (r := r) (by decide +kernel) (by decide +kernel)) (by first | decide | omega) rfl rfl rfl ⟨rfl, rfl, trivial⟩ rfl rfl (fun v h2 hq => ?_)
                obtain ⟨rfl, r2, rfl⟩ := hq
                show cx_T _ 130 _ 70 ([some (.inr (.inl 0)), some (.inl (.int x)), some (.inl (.int w)), some (.inl (.int v)), some (.inl (.int (Int32.ofInt (-4))))], [.inl (.int (Int32.ofInt 1000000000 - (Int32.ofInt (-4))))], [(0, .inl (10, [.inr (.inl 1), .inr (.inl 2), .inr (.inl 15), .inr (.inl 21), .inr (.inl 43), .inr (.inl 68), .inr (.inl 77), .inr (.inl 87), .inr (.inl 101), .inr (.inl 107), .inr (.inl 113), .inl (.int dy)])), (1, .inr (.inl (0, 7, r2))), (2, .inl (8, [.inr (.inl 3), .inr (.inl 4), .inr (.inl 5), .inr (.inl 10)])), (3, .inr (.inl (0, 16, t))), (4, .inr (.inl (0, 16, s)))]) _
                refine ex_ireturn cg_130 (ix := 36) rfl ?_
                exact ⟨_, r2, _, _, rfl, rfl, Or.inr (Or.inr (Or.inl ⟨by omega, by omega, rfl, rfl, rfl⟩))⟩
          · show cx_T _ 130 _ 51 ([some (.inr (.inl 0)), some (.inl (.int x)), some (.inl (.int w)), some (.inl (.int v)), none], [.inl (.int (Int32.ofInt (-6)))], [(0, .inl (10, [.inr (.inl 1), .inr (.inl 2), .inr (.inl 15), .inr (.inl 21), .inr (.inl 43), .inr (.inl 68), .inr (.inl 77), .inr (.inl 87), .inr (.inl 101), .inr (.inl 107), .inr (.inl 113), .inl (.int dy)])), (1, .inr (.inl (0, 7, r))), (2, .inl (8, [.inr (.inl 3), .inr (.inl 4), .inr (.inl 5), .inr (.inl 10)])), (3, .inr (.inl (0, 16, t))), (4, .inr (.inl (0, 16, s)))]) _
            refine ex_istore cg_130 (ix := 27) (pc' := 53) (L' := [some (.inr (.inl 0)), some (.inl (.int x)), some (.inl (.int w)), some (.inl (.int v)), some (.inl (.int (Int32.ofInt (-6))))]) rfl rfl rfl rfl ?_
            refine ex_iload cg_130 (ix := 28) (pc' := 55) rfl rfl rfl ?_
            refine ex_if cg_130 (ix := 29) (t := 71) (pc' := 58) rfl rfl rfl (fun hb55 => ?_) (fun hb55 => ?_)
            · have hb55 : (Int32.ofInt (-6)).toInt = 0 := hb55
              exfalso; first | omega | exact absurd hb55 (by decide +kernel)
            · have hb55 : ¬ ((Int32.ofInt (-6)).toInt = 0) := hb55
              refine ex_iload_n cg_130 (ix := 30) (pc' := 59) rfl rfl rfl ?_
              refine ex_bipush cg_130 (ix := 31) (pc' := 61) rfl rfl rfl ?_
              refine ex_icmp cg_130 (ix := 32) (t := 71) (pc' := 64) rfl rfl rfl (fun hb61 => ?_) (fun hb61 => ?_)
              · have hb61 : v.toInt = (Int32.ofInt 99).toInt := hb61
                refine ex_iload_n cg_130 (ix := 37) (pc' := 72) rfl rfl rfl ?_
                refine ex_if cg_130 (ix := 38) (t := 87) (pc' := 75) rfl rfl rfl (fun hb72 => ?_) (fun hb72 => ?_)
                · have hb72 : ¬ w.toInt = 0 := hb72
                  refine ex_aload_n cg_130 (ix := 45) (pc' := 88) rfl rfl rfl ?_
                  refine ex_getfield cg_130 (ix := 46) (pc' := 91) rfl rfl rfl rfl rfl ?_
                  refine ex_iload_n cg_130 (ix := 47) (pc' := 92) rfl rfl rfl ?_
                  refine ex_iload_n cg_130 (ix := 48) (pc' := 93) rfl rfl rfl ?_
                  refine ex_callV cg_130 (ix := 49) (pc' := 96) (As := [.inl (.int x), .inl (.int v)]) (r := []) rfl rfl rfl (ct_ps (x := x) (y := v) (t := t) (s := s) (by omega) (by omega)) (by first | decide | omega) rfl rfl rfl ⟨rfl, rfl, rfl, trivial⟩ rfl rfl (fun v h2 hq => ?_)
                  obtain ⟨rfl, rfl⟩ := hq
                  show cx_T _ 130 _ 96 ([some (.inr (.inl 0)), some (.inl (.int x)), some (.inl (.int w)), some (.inl (.int v)), some (.inl (.int (Int32.ofInt (-6))))], [.inl (.int (s x.toNatClampNeg))], [(0, .inl (10, [.inr (.inl 1), .inr (.inl 2), .inr (.inl 15), .inr (.inl 21), .inr (.inl 43), .inr (.inl 68), .inr (.inl 77), .inr (.inl 87), .inr (.inl 101), .inr (.inl 107), .inr (.inl 113), .inl (.int dy)])), (1, .inr (.inl (0, 7, r))), (2, .inl (8, [.inr (.inl 3), .inr (.inl 4), .inr (.inl 5), .inr (.inl 10)])), (3, .inr (.inl (0, 16, t))), (4, .inr (.inl (0, 16, upd s x.toNatClampNeg v)))]) _
                  refine ex_ireturn cg_130 (ix := 50) rfl ?_
                  exact ⟨_, r, _, _, rfl, rfl, Or.inr (Or.inr (Or.inr (Or.inr (Or.inr (⟨by omega, by omega, by omega, rfl, rfl, rfl⟩)))))⟩
                · have hb72 : ¬ (¬ w.toInt = 0) := hb72
                  refine ex_aload_n cg_130 (ix := 39) (pc' := 76) rfl rfl rfl ?_
                  refine ex_getfield cg_130 (ix := 40) (pc' := 79) rfl rfl rfl rfl rfl ?_
                  refine ex_iload_n cg_130 (ix := 41) (pc' := 80) rfl rfl rfl ?_
                  refine ex_iload_n cg_130 (ix := 42) (pc' := 81) rfl rfl rfl ?_
                  refine ex_callV cg_130 (ix := 43) (pc' := 84) (As := [.inl (.int x), .inl (.int v)]) (r := []) rfl rfl rfl (ct_pt (x := x) (y := v) (t := t) (s := s) (by omega) (by omega)) (by first | decide | omega) rfl rfl rfl ⟨rfl, rfl, rfl, trivial⟩ rfl rfl (fun v h2 hq => ?_)
                  obtain ⟨rfl, rfl⟩ := hq
                  show cx_T _ 130 _ 84 ([some (.inr (.inl 0)), some (.inl (.int x)), some (.inl (.int w)), some (.inl (.int v)), some (.inl (.int (Int32.ofInt (-6))))], [.inl (.int (t x.toNatClampNeg))], [(0, .inl (10, [.inr (.inl 1), .inr (.inl 2), .inr (.inl 15), .inr (.inl 21), .inr (.inl 43), .inr (.inl 68), .inr (.inl 77), .inr (.inl 87), .inr (.inl 101), .inr (.inl 107), .inr (.inl 113), .inl (.int dy)])), (1, .inr (.inl (0, 7, r))), (2, .inl (8, [.inr (.inl 3), .inr (.inl 4), .inr (.inl 5), .inr (.inl 10)])), (3, .inr (.inl (0, 16, upd t x.toNatClampNeg v))), (4, .inr (.inl (0, 16, s)))]) _
                  refine ex_goto cg_130 (ix := 44) (pc' := 96) rfl rfl ?_
                  refine ex_ireturn cg_130 (ix := 50) rfl ?_
                  exact ⟨_, r, _, _, rfl, rfl, Or.inr (Or.inr (Or.inr (Or.inr (Or.inl ⟨by omega, by omega, by omega, rfl, rfl, rfl⟩))))⟩
              · have hb61 : ¬ (v.toInt = (Int32.ofInt 99).toInt) := hb61
                refine ex_aload_n cg_130 (ix := 33) (pc' := 65) rfl rfl rfl ?_
                refine ex_iload cg_130 (ix := 34) (pc' := 67) rfl rfl rfl ?_
                refine ex_callV cg_130 (ix := 35) (pc' := 70) (As := [.inl (.int (Int32.ofInt (-6)))]) (r := []) rfl rfl rfl (ct_xrs (dy := dy) (x := Int32.ofInt (-6)) (r := r) (by decide +kernel) (by decide +kernel)) (by first | decide | omega) rfl rfl rfl ⟨rfl, rfl, trivial⟩ rfl rfl (fun v h2 hq => ?_)
                obtain ⟨rfl, r2, rfl⟩ := hq
                show cx_T _ 130 _ 70 ([some (.inr (.inl 0)), some (.inl (.int x)), some (.inl (.int w)), some (.inl (.int v)), some (.inl (.int (Int32.ofInt (-6))))], [.inl (.int (Int32.ofInt 1000000000 - (Int32.ofInt (-6))))], [(0, .inl (10, [.inr (.inl 1), .inr (.inl 2), .inr (.inl 15), .inr (.inl 21), .inr (.inl 43), .inr (.inl 68), .inr (.inl 77), .inr (.inl 87), .inr (.inl 101), .inr (.inl 107), .inr (.inl 113), .inl (.int dy)])), (1, .inr (.inl (0, 7, r2))), (2, .inl (8, [.inr (.inl 3), .inr (.inl 4), .inr (.inl 5), .inr (.inl 10)])), (3, .inr (.inl (0, 16, t))), (4, .inr (.inl (0, 16, s)))]) _
                refine ex_ireturn cg_130 (ix := 36) rfl ?_
                exact ⟨_, r2, _, _, rfl, rfl, Or.inr (Or.inr (Or.inr (Or.inl ⟨by omega, by omega, by omega, by omega, rfl, rfl, rfl⟩)))⟩
          · show cx_T _ 130 _ 51 ([some (.inr (.inl 0)), some (.inl (.int x)), some (.inl (.int w)), some (.inl (.int v)), none], [.inl (.int (Int32.ofInt 0))], [(0, .inl (10, [.inr (.inl 1), .inr (.inl 2), .inr (.inl 15), .inr (.inl 21), .inr (.inl 43), .inr (.inl 68), .inr (.inl 77), .inr (.inl 87), .inr (.inl 101), .inr (.inl 107), .inr (.inl 113), .inl (.int dy)])), (1, .inr (.inl (0, 7, r))), (2, .inl (8, [.inr (.inl 3), .inr (.inl 4), .inr (.inl 5), .inr (.inl 10)])), (3, .inr (.inl (0, 16, t))), (4, .inr (.inl (0, 16, s)))]) _
            refine ex_istore cg_130 (ix := 27) (pc' := 53) (L' := [some (.inr (.inl 0)), some (.inl (.int x)), some (.inl (.int w)), some (.inl (.int v)), some (.inl (.int (Int32.ofInt 0)))]) rfl rfl rfl rfl ?_
            refine ex_iload cg_130 (ix := 28) (pc' := 55) rfl rfl rfl ?_
            refine ex_if cg_130 (ix := 29) (t := 71) (pc' := 58) rfl rfl rfl (fun hb55 => ?_) (fun hb55 => ?_)
            · have hb55 : (Int32.ofInt 0).toInt = 0 := hb55
              refine ex_iload_n cg_130 (ix := 37) (pc' := 72) rfl rfl rfl ?_
              refine ex_if cg_130 (ix := 38) (t := 87) (pc' := 75) rfl rfl rfl (fun hb72 => ?_) (fun hb72 => ?_)
              · have hb72 : ¬ w.toInt = 0 := hb72
                refine ex_aload_n cg_130 (ix := 45) (pc' := 88) rfl rfl rfl ?_
                refine ex_getfield cg_130 (ix := 46) (pc' := 91) rfl rfl rfl rfl rfl ?_
                refine ex_iload_n cg_130 (ix := 47) (pc' := 92) rfl rfl rfl ?_
                refine ex_iload_n cg_130 (ix := 48) (pc' := 93) rfl rfl rfl ?_
                refine ex_callV cg_130 (ix := 49) (pc' := 96) (As := [.inl (.int x), .inl (.int v)]) (r := []) rfl rfl rfl (ct_ps (x := x) (y := v) (t := t) (s := s) (by omega) (by omega)) (by first | decide | omega) rfl rfl rfl ⟨rfl, rfl, rfl, trivial⟩ rfl rfl (fun v h2 hq => ?_)
                obtain ⟨rfl, rfl⟩ := hq
                show cx_T _ 130 _ 96 ([some (.inr (.inl 0)), some (.inl (.int x)), some (.inl (.int w)), some (.inl (.int v)), some (.inl (.int (Int32.ofInt 0)))], [.inl (.int (s x.toNatClampNeg))], [(0, .inl (10, [.inr (.inl 1), .inr (.inl 2), .inr (.inl 15), .inr (.inl 21), .inr (.inl 43), .inr (.inl 68), .inr (.inl 77), .inr (.inl 87), .inr (.inl 101), .inr (.inl 107), .inr (.inl 113), .inl (.int dy)])), (1, .inr (.inl (0, 7, r))), (2, .inl (8, [.inr (.inl 3), .inr (.inl 4), .inr (.inl 5), .inr (.inl 10)])), (3, .inr (.inl (0, 16, t))), (4, .inr (.inl (0, 16, upd s x.toNatClampNeg v)))]) _
                refine ex_ireturn cg_130 (ix := 50) rfl ?_
                exact ⟨_, r, _, _, rfl, rfl, Or.inr (Or.inr (Or.inr (Or.inr (Or.inr (⟨by omega, by omega, by omega, rfl, rfl, rfl⟩)))))⟩
              · have hb72 : ¬ (¬ w.toInt = 0) := hb72
                refine ex_aload_n cg_130 (ix := 39) (pc' := 76) rfl rfl rfl ?_
                refine ex_getfield cg_130 (ix := 40) (pc' := 79) rfl rfl rfl rfl rfl ?_
                refine ex_iload_n cg_130 (ix := 41) (pc' := 80) rfl rfl rfl ?_
                refine ex_iload_n cg_130 (ix := 42) (pc' := 81) rfl rfl rfl ?_
                refine ex_callV cg_130 (ix := 43) (pc' := 84) (As := [.inl (.int x), .inl (.int v)]) (r := []) rfl rfl rfl (ct_pt (x := x) (y := v) (t := t) (s := s) (by omega) (by omega)) (by first | decide | omega) rfl rfl rfl ⟨rfl, rfl, rfl, trivial⟩ rfl rfl (fun v h2 hq => ?_)
                obtain ⟨rfl, rfl⟩ := hq
                show cx_T _ 130 _ 84 ([some (.inr (.inl 0)), some (.inl (.int x)), some (.inl (.int w)), some (.inl (.int v)), some (.inl (.int (Int32.ofInt 0)))], [.inl (.int (t x.toNatClampNeg))], [(0, .inl (10, [.inr (.inl 1), .inr (.inl 2), .inr (.inl 15), .inr (.inl 21), .inr (.inl 43), .inr (.inl 68), .inr (.inl 77), .inr (.inl 87), .inr (.inl 101), .inr (.inl 107), .inr (.inl 113), .inl (.int dy)])), (1, .inr (.inl (0, 7, r))), (2, .inl (8, [.inr (.inl 3), .inr (.inl 4), .inr (.inl 5), .inr (.inl 10)])), (3, .inr (.inl (0, 16, upd t x.toNatClampNeg v))), (4, .inr (.inl (0, 16, s)))]) _
                refine ex_goto cg_130 (ix := 44) (pc' := 96) rfl rfl ?_
                refine ex_ireturn cg_130 (ix := 50) rfl ?_
                exact ⟨_, r, _, _, rfl, rfl, Or.inr (Or.inr (Or.inr (Or.inr (Or.inl ⟨by omega, by omega, by omega, rfl, rfl, rfl⟩))))⟩
            · have hb55 : ¬ ((Int32.ofInt 0).toInt = 0) := hb55
              exfalso; first | omega | exact absurd hb55 (by decide +kernel)
        · have hb30 : ¬ (¬ w.toInt = 0) := hb30
          refine ex_iload_n cg_130 (ix := 18) (pc' := 34) rfl rfl rfl ?_
          refine ex_bipush cg_130 (ix := 19) (pc' := 36) rfl rfl rfl ?_
          refine ex_bipush cg_130 (ix := 20) (pc' := 38) rfl rfl rfl ?_
          refine ex_callS cg_130 (ix := 21) (pc' := 41) (As := [.inl (.int v), .inl (.int (Int32.ofInt (-9))), .inl (.int (Int32.ofInt 9))]) (r := []) rfl rfl rfl (ct_out (x := v) (a := Int32.ofInt (-9)) (b := Int32.ofInt 9)) (by first | decide | omega) rfl rfl trivial rfl rfl (fun v h2 hq => ?_)
          obtain ⟨z, rfl, rfl, hz3⟩ := hq
          rcases hz3 with ⟨hz3, rfl⟩ | ⟨hz3, hz4, rfl⟩ | ⟨hz3, hz4, rfl⟩
          · show cx_T _ 130 _ 41 ([some (.inr (.inl 0)), some (.inl (.int x)), some (.inl (.int w)), some (.inl (.int v)), none], [.inl (.int (Int32.ofInt (-4)))], [(0, .inl (10, [.inr (.inl 1), .inr (.inl 2), .inr (.inl 15), .inr (.inl 21), .inr (.inl 43), .inr (.inl 68), .inr (.inl 77), .inr (.inl 87), .inr (.inl 101), .inr (.inl 107), .inr (.inl 113), .inl (.int dy)])), (1, .inr (.inl (0, 7, r))), (2, .inl (8, [.inr (.inl 3), .inr (.inl 4), .inr (.inl 5), .inr (.inl 10)])), (3, .inr (.inl (0, 16, t))), (4, .inr (.inl (0, 16, s)))]) _
            refine ex_goto cg_130 (ix := 22) (pc' := 51) rfl rfl ?_
            refine ex_istore cg_130 (ix := 27) (pc' := 53) (L' := [some (.inr (.inl 0)), some (.inl (.int x)), some (.inl (.int w)), some (.inl (.int v)), some (.inl (.int (Int32.ofInt (-4))))]) rfl rfl rfl rfl ?_
            refine ex_iload cg_130 (ix := 28) (pc' := 55) rfl rfl rfl ?_
            refine ex_if cg_130 (ix := 29) (t := 71) (pc' := 58) rfl rfl rfl (fun hb55 => ?_) (fun hb55 => ?_)
            · have hb55 : (Int32.ofInt (-4)).toInt = 0 := hb55
              exfalso; first | omega | exact absurd hb55 (by decide +kernel)
            · have hb55 : ¬ ((Int32.ofInt (-4)).toInt = 0) := hb55
              refine ex_iload_n cg_130 (ix := 30) (pc' := 59) rfl rfl rfl ?_
              refine ex_bipush cg_130 (ix := 31) (pc' := 61) rfl rfl rfl ?_
              refine ex_icmp cg_130 (ix := 32) (t := 71) (pc' := 64) rfl rfl rfl (fun hb61 => ?_) (fun hb61 => ?_)
              · have hb61 : v.toInt = (Int32.ofInt 99).toInt := hb61
                refine ex_iload_n cg_130 (ix := 37) (pc' := 72) rfl rfl rfl ?_
                refine ex_if cg_130 (ix := 38) (t := 87) (pc' := 75) rfl rfl rfl (fun hb72 => ?_) (fun hb72 => ?_)
                · have hb72 : ¬ w.toInt = 0 := hb72
                  refine ex_aload_n cg_130 (ix := 45) (pc' := 88) rfl rfl rfl ?_
                  refine ex_getfield cg_130 (ix := 46) (pc' := 91) rfl rfl rfl rfl rfl ?_
                  refine ex_iload_n cg_130 (ix := 47) (pc' := 92) rfl rfl rfl ?_
                  refine ex_iload_n cg_130 (ix := 48) (pc' := 93) rfl rfl rfl ?_
                  refine ex_callV cg_130 (ix := 49) (pc' := 96) (As := [.inl (.int x), .inl (.int v)]) (r := []) rfl rfl rfl (ct_ps (x := x) (y := v) (t := t) (s := s) (by omega) (by omega)) (by first | decide | omega) rfl rfl rfl ⟨rfl, rfl, rfl, trivial⟩ rfl rfl (fun v h2 hq => ?_)
                  obtain ⟨rfl, rfl⟩ := hq
                  show cx_T _ 130 _ 96 ([some (.inr (.inl 0)), some (.inl (.int x)), some (.inl (.int w)), some (.inl (.int v)), some (.inl (.int (Int32.ofInt (-4))))], [.inl (.int (s x.toNatClampNeg))], [(0, .inl (10, [.inr (.inl 1), .inr (.inl 2), .inr (.inl 15), .inr (.inl 21), .inr (.inl 43), .inr (.inl 68), .inr (.inl 77), .inr (.inl 87), .inr (.inl 101), .inr (.inl 107), .inr (.inl 113), .inl (.int dy)])), (1, .inr (.inl (0, 7, r))), (2, .inl (8, [.inr (.inl 3), .inr (.inl 4), .inr (.inl 5), .inr (.inl 10)])), (3, .inr (.inl (0, 16, t))), (4, .inr (.inl (0, 16, upd s x.toNatClampNeg v)))]) _
                  refine ex_ireturn cg_130 (ix := 50) rfl ?_
                  exact ⟨_, r, _, _, rfl, rfl, Or.inr (Or.inr (Or.inr (Or.inr (Or.inr (⟨by omega, by omega, by omega, rfl, rfl, rfl⟩)))))⟩
                · have hb72 : ¬ (¬ w.toInt = 0) := hb72
                  refine ex_aload_n cg_130 (ix := 39) (pc' := 76) rfl rfl rfl ?_
                  refine ex_getfield cg_130 (ix := 40) (pc' := 79) rfl rfl rfl rfl rfl ?_
                  refine ex_iload_n cg_130 (ix := 41) (pc' := 80) rfl rfl rfl ?_
                  refine ex_iload_n cg_130 (ix := 42) (pc' := 81) rfl rfl rfl ?_
                  refine ex_callV cg_130 (ix := 43) (pc' := 84) (As := [.inl (.int x), .inl (.int v)]) (r := []) rfl rfl rfl (ct_pt (x := x) (y := v) (t := t) (s := s) (by omega) (by omega)) (by first | decide | omega) rfl rfl rfl ⟨rfl, rfl, rfl, trivial⟩ rfl rfl (fun v h2 hq => ?_)
                  obtain ⟨rfl, rfl⟩ := hq
                  show cx_T _ 130 _ 84 ([some (.inr (.inl 0)), some (.inl (.int x)), some (.inl (.int w)), some (.inl (.int v)), some (.inl (.int (Int32.ofInt (-4))))], [.inl (.int (t x.toNatClampNeg))], [(0, .inl (10, [.inr (.inl 1), .inr (.inl 2), .inr (.inl 15), .inr (.inl 21), .inr (.inl 43), .inr (.inl 68), .inr (.inl 77), .inr (.inl 87), .inr (.inl 101), .inr (.inl 107), .inr (.inl 113), .inl (.int dy)])), (1, .inr (.inl (0, 7, r))), (2, .inl (8, [.inr (.inl 3), .inr (.inl 4), .inr (.inl 5), .inr (.inl 10)])), (3, .inr (.inl (0, 16, upd t x.toNatClampNeg v))), (4, .inr (.inl (0, 16, s)))]) _
                  refine ex_goto cg_130 (ix := 44) (pc' := 96) rfl rfl ?_
                  refine ex_ireturn cg_130 (ix := 50) rfl ?_
                  exact ⟨_, r, _, _, rfl, rfl, Or.inr (Or.inr (Or.inr (Or.inr (Or.inl ⟨by omega, by omega, by omega, rfl, rfl, rfl⟩))))⟩
              · have hb61 : ¬ (v.toInt = (Int32.ofInt 99).toInt) := hb61
                refine ex_aload_n cg_130 (ix := 33) (pc' := 65) rfl rfl rfl ?_
                refine ex_iload cg_130 (ix := 34) (pc' := 67) rfl rfl rfl ?_
                refine ex_callV cg_130 (ix := 35) (pc' := 70) (As := [.inl (.int (Int32.ofInt (-4)))]) (r := []) rfl rfl rfl (ct_xrs (dy := dy) (x := Int32.ofInt (-4)) (r := r) (by decide +kernel) (by decide +kernel)) (by first | decide | omega) rfl rfl rfl ⟨rfl, rfl, trivial⟩ rfl rfl (fun v h2 hq => ?_)
                obtain ⟨rfl, r2, rfl⟩ := hq
                show cx_T _ 130 _ 70 ([some (.inr (.inl 0)), some (.inl (.int x)), some (.inl (.int w)), some (.inl (.int v)), some (.inl (.int (Int32.ofInt (-4))))], [.inl (.int (Int32.ofInt 1000000000 - (Int32.ofInt (-4))))], [(0, .inl (10, [.inr (.inl 1), .inr (.inl 2), .inr (.inl 15), .inr (.inl 21), .inr (.inl 43), .inr (.inl 68), .inr (.inl 77), .inr (.inl 87), .inr (.inl 101), .inr (.inl 107), .inr (.inl 113), .inl (.int dy)])), (1, .inr (.inl (0, 7, r2))), (2, .inl (8, [.inr (.inl 3), .inr (.inl 4), .inr (.inl 5), .inr (.inl 10)])), (3, .inr (.inl (0, 16, t))), (4, .inr (.inl (0, 16, s)))]) _
                refine ex_ireturn cg_130 (ix := 36) rfl ?_
                exact ⟨_, r2, _, _, rfl, rfl, Or.inr (Or.inr (Or.inl ⟨by omega, by omega, rfl, rfl, rfl⟩))⟩
          · show cx_T _ 130 _ 41 ([some (.inr (.inl 0)), some (.inl (.int x)), some (.inl (.int w)), some (.inl (.int v)), none], [.inl (.int (Int32.ofInt (-6)))], [(0, .inl (10, [.inr (.inl 1), .inr (.inl 2), .inr (.inl 15), .inr (.inl 21), .inr (.inl 43), .inr (.inl 68), .inr (.inl 77), .inr (.inl 87), .inr (.inl 101), .inr (.inl 107), .inr (.inl 113), .inl (.int dy)])), (1, .inr (.inl (0, 7, r))), (2, .inl (8, [.inr (.inl 3), .inr (.inl 4), .inr (.inl 5), .inr (.inl 10)])), (3, .inr (.inl (0, 16, t))), (4, .inr (.inl (0, 16, s)))]) _
            refine ex_goto cg_130 (ix := 22) (pc' := 51) rfl rfl ?_
            refine ex_istore cg_130 (ix := 27) (pc' := 53) (L' := [some (.inr (.inl 0)), some (.inl (.int x)), some (.inl (.int w)), some (.inl (.int v)), some (.inl (.int (Int32.ofInt (-6))))]) rfl rfl rfl rfl ?_
            refine ex_iload cg_130 (ix := 28) (pc' := 55) rfl rfl rfl ?_
            refine ex_if cg_130 (ix := 29) (t := 71) (pc' := 58) rfl rfl rfl (fun hb55 => ?_) (fun hb55 => ?_)
            · have hb55 : (Int32.ofInt (-6)).toInt = 0 := hb55
              exfalso; first | omega | exact absurd hb55 (by decide +kernel)
            · have hb55 : ¬ ((Int32.ofInt (-6)).toInt = 0) := hb55
              refine ex_iload_n cg_130 (ix := 30) (pc' := 59) rfl rfl rfl ?_
              refine ex_bipush cg_130 (ix := 31) (pc' := 61) rfl rfl rfl ?_
              refine ex_icmp cg_130 (ix := 32) (t := 71) (pc' := 64) rfl rfl rfl (fun hb61 => ?_) (fun hb61 => ?_)
              · have hb61 : v.toInt = (Int32.ofInt 99).toInt := hb61
                refine ex_iload_n cg_130 (ix := 37) (pc' := 72) rfl rfl rfl ?_
                refine ex_if cg_130 (ix := 38) (t := 87) (pc' := 75) rfl rfl rfl (fun hb72 => ?_) (fun hb72 => ?_)
                · have hb72 : ¬ w.toInt = 0 := hb72
                  refine ex_aload_n cg_130 (ix := 45) (pc' := 88) rfl rfl rfl ?_
                  refine ex_getfield cg_130 (ix := 46) (pc' := 91) rfl rfl rfl rfl rfl ?_
                  refine ex_iload_n cg_130 (ix := 47) (pc' := 92) rfl rfl rfl ?_
                  refine ex_iload_n cg_130 (ix := 48) (pc' := 93) rfl rfl rfl ?_
                  refine ex_callV cg_130 (ix := 49) (pc' := 96) (As := [.inl (.int x), .inl (.int v)]) (r := []) rfl rfl rfl (ct_ps (x := x) (y := v) (t := t) (s := s) (by omega) (by omega)) (by first | decide | omega) rfl rfl rfl ⟨rfl, rfl, rfl, trivial⟩ rfl rfl (fun v h2 hq => ?_)
                  obtain ⟨rfl, rfl⟩ := hq
                  show cx_T _ 130 _ 96 ([some (.inr (.inl 0)), some (.inl (.int x)), some (.inl (.int w)), some (.inl (.int v)), some (.inl (.int (Int32.ofInt (-6))))], [.inl (.int (s x.toNatClampNeg))], [(0, .inl (10, [.inr (.inl 1), .inr (.inl 2), .inr (.inl 15), .inr (.inl 21), .inr (.inl 43), .inr (.inl 68), .inr (.inl 77), .inr (.inl 87), .inr (.inl 101), .inr (.inl 107), .inr (.inl 113), .inl (.int dy)])), (1, .inr (.inl (0, 7, r))), (2, .inl (8, [.inr (.inl 3), .inr (.inl 4), .inr (.inl 5), .inr (.inl 10)])), (3, .inr (.inl (0, 16, t))), (4, .inr (.inl (0, 16, upd s x.toNatClampNeg v)))]) _
                  refine ex_ireturn cg_130 (ix := 50) rfl ?_
                  exact ⟨_, r, _, _, rfl, rfl, Or.inr (Or.inr (Or.inr (Or.inr (Or.inr (⟨by omega, by omega, by omega, rfl, rfl, rfl⟩)))))⟩
                · have hb72 : ¬ (¬ w.toInt = 0) := hb72
                  refine ex_aload_n cg_130 (ix := 39) (pc' := 76) rfl rfl rfl ?_
                  refine ex_getfield cg_130 (ix := 40) (pc' := 79) rfl rfl rfl rfl rfl ?_
                  refine ex_iload_n cg_130 (ix := 41) (pc' := 80) rfl rfl rfl ?_
                  refine ex_iload_n cg_130 (ix := 42) (pc' := 81) rfl rfl rfl ?_
                  refine ex_callV cg_130 (ix := 43) (pc' := 84) (As := [.inl (.int x), .inl (.int v)]) (r := []) rfl rfl rfl (ct_pt (x := x) (y := v) (t := t) (s := s) (by omega) (by omega)) (by first | decide | omega) rfl rfl rfl ⟨rfl, rfl, rfl, trivial⟩ rfl rfl (fun v h2 hq => ?_)
                  obtain ⟨rfl, rfl⟩ := hq
                  show cx_T _ 130 _ 84 ([some (.inr (.inl 0)), some (.inl (.int x)), some (.inl (.int w)), some (.inl (.int v)), some (.inl (.int (Int32.ofInt (-6))))], [.inl (.int (t x.toNatClampNeg))], [(0, .inl (10, [.inr (.inl 1), .inr (.inl 2), .inr (.inl 15), .inr (.inl 21), .inr (.inl 43), .inr (.inl 68), .inr (.inl 77), .inr (.inl 87), .inr (.inl 101), .inr (.inl 107), .inr (.inl 113), .inl (.int dy)])), (1, .inr (.inl (0, 7, r))), (2, .inl (8, [.inr (.inl 3), .inr (.inl 4), .inr (.inl 5), .inr (.inl 10)])), (3, .inr (.inl (0, 16, upd t x.toNatClampNeg v))), (4, .inr (.inl (0, 16, s)))]) _
                  refine ex_goto cg_130 (ix := 44) (pc' := 96) rfl rfl ?_
                  refine ex_ireturn cg_130 (ix := 50) rfl ?_
                  exact ⟨_, r, _, _, rfl, rfl, Or.inr (Or.inr (Or.inr (Or.inr (Or.inl ⟨by omega, by omega, by omega, rfl, rfl, rfl⟩))))⟩
              · have hb61 : ¬ (v.toInt = (Int32.ofInt 99).toInt) := hb61
                refine ex_aload_n cg_130 (ix := 33) (pc' := 65) rfl rfl rfl ?_
                refine ex_iload cg_130 (ix := 34) (pc' := 67) rfl rfl rfl ?_
                refine ex_callV cg_130 (ix := 35) (pc' := 70) (As := [.inl (.int (Int32.ofInt (-6)))]) (r := []) rfl rfl rfl (ct_xrs (dy := dy) (x := Int32.ofInt (-6)) (r := r) (by decide +kernel) (by decide +kernel)) (by first | decide | omega) rfl rfl rfl ⟨rfl, rfl, trivial⟩ rfl rfl (fun v h2 hq => ?_)
                obtain ⟨rfl, r2, rfl⟩ := hq
                show cx_T _ 130 _ 70 ([some (.inr (.inl 0)), some (.inl (.int x)), some (.inl (.int w)), some (.inl (.int v)), some (.inl (.int (Int32.ofInt (-6))))], [.inl (.int (Int32.ofInt 1000000000 - (Int32.ofInt (-6))))], [(0, .inl (10, [.inr (.inl 1), .inr (.inl 2), .inr (.inl 15), .inr (.inl 21), .inr (.inl 43), .inr (.inl 68), .inr (.inl 77), .inr (.inl 87), .inr (.inl 101), .inr (.inl 107), .inr (.inl 113), .inl (.int dy)])), (1, .inr (.inl (0, 7, r2))), (2, .inl (8, [.inr (.inl 3), .inr (.inl 4), .inr (.inl 5), .inr (.inl 10)])), (3, .inr (.inl (0, 16, t))), (4, .inr (.inl (0, 16, s)))]) _
                refine ex_ireturn cg_130 (ix := 36) rfl ?_
                exact ⟨_, r2, _, _, rfl, rfl, Or.inr (Or.inr (Or.inr (Or.inl ⟨by omega, by omega, by omega, by omega, rfl, rfl, rfl⟩)))⟩
          · show cx_T _ 130 _ 41 ([some (.inr (.inl 0)), some (.inl (.int x)), some (.inl (.int w)), some (.inl (.int v)), none], [.inl (.int (Int32.ofInt 0))], [(0, .inl (10, [.inr (.inl 1), .inr (.inl 2), .inr (.inl 15), .inr (.inl 21), .inr (.inl 43), .inr (.inl 68), .inr (.inl 77), .inr (.inl 87), .inr (.inl 101), .inr (.inl 107), .inr (.inl 113), .inl (.int dy)])), (1, .inr (.inl (0, 7, r))), (2, .inl (8, [.inr (.inl 3), .inr (.inl 4), .inr (.inl 5), .inr (.inl 10)])), (3, .inr (.inl (0, 16, t))), (4, .inr (.inl (0, 16, s)))]) _
            refine ex_goto cg_130 (ix := 22) (pc' := 51) rfl rfl ?_
            refine ex_istore cg_130 (ix := 27) (pc' := 53) (L' := [some (.inr (.inl 0)), some (.inl (.int x)), some (.inl (.int w)), some (.inl (.int v)), some (.inl (.int (Int32.ofInt 0)))]) rfl rfl rfl rfl ?_
            refine ex_iload cg_130 (ix := 28) (pc' := 55) rfl rfl rfl ?_
            refine ex_if cg_130 (ix := 29) (t := 71) (pc' := 58) rfl rfl rfl (fun hb55 => ?_) (fun hb55 => ?_)
            · have hb55 : (Int32.ofInt 0).toInt = 0 := hb55
              refine ex_iload_n cg_130 (ix := 37) (pc' := 72) rfl rfl rfl ?_
              refine ex_if cg_130 (ix := 38) (t := 87) (pc' := 75) rfl rfl rfl (fun hb72 => ?_) (fun hb72 => ?_)
              · have hb72 : ¬ w.toInt = 0 := hb72
                refine ex_aload_n cg_130 (ix := 45) (pc' := 88) rfl rfl rfl ?_
                refine ex_getfield cg_130 (ix := 46) (pc' := 91) rfl rfl rfl rfl rfl ?_
                refine ex_iload_n cg_130 (ix := 47) (pc' := 92) rfl rfl rfl ?_
                refine ex_iload_n cg_130 (ix := 48) (pc' := 93) rfl rfl rfl ?_
                refine ex_callV cg_130 (ix := 49) (pc' := 96) (As := [.inl (.int x), .inl (.int v)]) (r := []) rfl rfl rfl (ct_ps (x := x) (y := v) (t := t) (s := s) (by omega) (by omega)) (by first | decide | omega) rfl rfl rfl ⟨rfl, rfl, rfl, trivial⟩ rfl rfl (fun v h2 hq => ?_)
                obtain ⟨rfl, rfl⟩ := hq
                show cx_T _ 130 _ 96 ([some (.inr (.inl 0)), some (.inl (.int x)), some (.inl (.int w)), some (.inl (.int v)), some (.inl (.int (Int32.ofInt 0)))], [.inl (.int (s x.toNatClampNeg))], [(0, .inl (10, [.inr (.inl 1), .inr (.inl 2), .inr (.inl 15), .inr (.inl 21), .inr (.inl 43), .inr (.inl 68), .inr (.inl 77), .inr (.inl 87), .inr (.inl 101), .inr (.inl 107), .inr (.inl 113), .inl (.int dy)])), (1, .inr (.inl (0, 7, r))), (2, .inl (8, [.inr (.inl 3), .inr (.inl 4), .inr (.inl 5), .inr (.inl 10)])), (3, .inr (.inl (0, 16, t))), (4, .inr (.inl (0, 16, upd s x.toNatClampNeg v)))]) _
                refine ex_ireturn cg_130 (ix := 50) rfl ?_
                exact ⟨_, r, _, _, rfl, rfl, Or.inr (Or.inr (Or.inr (Or.inr (Or.inr (⟨by omega, by omega, by omega, rfl, rfl, rfl⟩)))))⟩
              · have hb72 : ¬ (¬ w.toInt = 0) := hb72
                refine ex_aload_n cg_130 (ix := 39) (pc' := 76) rfl rfl rfl ?_
                refine ex_getfield cg_130 (ix := 40) (pc' := 79) rfl rfl rfl rfl rfl ?_
                refine ex_iload_n cg_130 (ix := 41) (pc' := 80) rfl rfl rfl ?_
                refine ex_iload_n cg_130 (ix := 42) (pc' := 81) rfl rfl rfl ?_
                refine ex_callV cg_130 (ix := 43) (pc' := 84) (As := [.inl (.int x), .inl (.int v)]) (r := []) rfl rfl rfl (ct_pt (x := x) (y := v) (t := t) (s := s) (by omega) (by omega)) (by first | decide | omega) rfl rfl rfl ⟨rfl, rfl, rfl, trivial⟩ rfl rfl (fun v h2 hq => ?_)
                obtain ⟨rfl, rfl⟩ := hq
                show cx_T _ 130 _ 84 ([some (.inr (.inl 0)), some (.inl (.int x)), some (.inl (.int w)), some (.inl (.int v)), some (.inl (.int (Int32.ofInt 0)))], [.inl (.int (t x.toNatClampNeg))], [(0, .inl (10, [.inr (.inl 1), .inr (.inl 2), .inr (.inl 15), .inr (.inl 21), .inr (.inl 43), .inr (.inl 68), .inr (.inl 77), .inr (.inl 87), .inr (.inl 101), .inr (.inl 107), .inr (.inl 113), .inl (.int dy)])), (1, .inr (.inl (0, 7, r))), (2, .inl (8, [.inr (.inl 3), .inr (.inl 4), .inr (.inl 5), .inr (.inl 10)])), (3, .inr (.inl (0, 16, upd t x.toNatClampNeg v))), (4, .inr (.inl (0, 16, s)))]) _
                refine ex_goto cg_130 (ix := 44) (pc' := 96) rfl rfl ?_
                refine ex_ireturn cg_130 (ix := 50) rfl ?_
                exact ⟨_, r, _, _, rfl, rfl, Or.inr (Or.inr (Or.inr (Or.inr (Or.inl ⟨by omega, by omega, by omega, rfl, rfl, rfl⟩))))⟩
            · have hb55 : ¬ ((Int32.ofInt 0).toInt = 0) := hb55
              exfalso; first | omega | exact absurd hb55 (by decide +kernel)
      · have hb14 : ¬ (w.toInt = 0) := hb14
        refine ex_iload_n cg_130 (ix := 9) (pc' := 18) rfl rfl rfl ?_
        refine ex_iconst cg_130 (ix := 10) (pc' := 19) rfl rfl ?_
        refine ex_icmp cg_130 (ix := 11) (t := 29) (pc' := 22) rfl rfl rfl (fun hb19 => ?_) (fun hb19 => ?_)
        · have hb19 : w.toInt = (Int32.ofInt 1).toInt := hb19
          refine ex_iload_n cg_130 (ix := 16) (pc' := 30) rfl rfl rfl ?_
          refine ex_if cg_130 (ix := 17) (t := 44) (pc' := 33) rfl rfl rfl (fun hb30 => ?_) (fun hb30 => ?_)
          · have hb30 : ¬ w.toInt = 0 := hb30
            refine ex_iload_n cg_130 (ix := 23) (pc' := 45) rfl rfl rfl ?_
            refine ex_iconst cg_130 (ix := 24) (pc' := 46) rfl rfl ?_
            refine ex_bipush cg_130 (ix := 25) (pc' := 48) rfl rfl rfl ?_
            refine ex_callS cg_130 (ix := 26) (pc' := 51) (As := [.inl (.int v), .inl (.int (Int32.ofInt 0)), .inl (.int (Int32.ofInt 9))]) (r := []) rfl rfl rfl (ct_out (x := v) (a := Int32.ofInt 0) (b := Int32.ofInt 9)) (by first | decide | omega) rfl rfl trivial rfl rfl (fun v h2 hq => ?_)
            obtain ⟨z, rfl, rfl, hz3⟩ := hq
            rcases hz3 with ⟨hz3, rfl⟩ | ⟨hz3, hz4, rfl⟩ | ⟨hz3, hz4, rfl⟩
            · show cx_T _ 130 _ 51 ([some (.inr (.inl 0)), some (.inl (.int x)), some (.inl (.int w)), some (.inl (.int v)), none], [.inl (.int (Int32.ofInt (-4)))], [(0, .inl (10, [.inr (.inl 1), .inr (.inl 2), .inr (.inl 15), .inr (.inl 21), .inr (.inl 43), .inr (.inl 68), .inr (.inl 77), .inr (.inl 87), .inr (.inl 101), .inr (.inl 107), .inr (.inl 113), .inl (.int dy)])), (1, .inr (.inl (0, 7, r))), (2, .inl (8, [.inr (.inl 3), .inr (.inl 4), .inr (.inl 5), .inr (.inl 10)])), (3, .inr (.inl (0, 16, t))), (4, .inr (.inl (0, 16, s)))]) _
              refine ex_istore cg_130 (ix := 27) (pc' := 53) (L' := [some (.inr (.inl 0)), some (.inl (.int x)), some (.inl (.int w)), some (.inl (.int v)), some (.inl (.int (Int32.ofInt (-4))))]) rfl rfl rfl rfl ?_
              refine ex_iload cg_130 (ix := 28) (pc' := 55) rfl rfl rfl ?_
              refine ex_if cg_130 (ix := 29) (t := 71) (pc' := 58) rfl rfl rfl (fun hb55 => ?_) (fun hb55 => ?_)
              · have hb55 : (Int32.ofInt (-4)).toInt = 0 := hb55
                exfalso; first | omega | exact absurd hb55 (by decide +kernel)
              · have hb55 : ¬ ((Int32.ofInt (-4)).toInt = 0) := hb55
                refine ex_iload_n cg_130 (ix := 30) (pc' := 59) rfl rfl rfl ?_
                refine ex_bipush cg_130 (ix := 31) (pc' := 61) rfl rfl rfl ?_
                refine ex_icmp cg_130 (ix := 32) (t := 71) (pc' := 64) rfl rfl rfl (fun hb61 => ?_) (fun hb61 => ?_)
                · have hb61 : v.toInt = (Int32.ofInt 99).toInt := hb61
                  refine ex_iload_n cg_130 (ix := 37) (pc' := 72) rfl rfl rfl ?_
                  refine ex_if cg_130 (ix := 38) (t := 87) (pc' := 75) rfl rfl rfl (fun hb72 => ?_) (fun hb72 => ?_)
                  · have hb72 : ¬ w.toInt = 0 := hb72
                    refine ex_aload_n cg_130 (ix := 45) (pc' := 88) rfl rfl rfl ?_
                    refine ex_getfield cg_130 (ix := 46) (pc' := 91) rfl rfl rfl rfl rfl ?_
                    refine ex_iload_n cg_130 (ix := 47) (pc' := 92) rfl rfl rfl ?_
                    refine ex_iload_n cg_130 (ix := 48) (pc' := 93) rfl rfl rfl ?_
                    refine ex_callV cg_130 (ix := 49) (pc' := 96) (As := [.inl (.int x), .inl (.int v)]) (r := []) rfl rfl rfl (ct_ps (x := x) (y := v) (t := t) (s := s) (by omega) (by omega)) (by first | decide | omega) rfl rfl rfl ⟨rfl, rfl, rfl, trivial⟩ rfl rfl (fun v h2 hq => ?_)
                    obtain ⟨rfl, rfl⟩ := hq
                    show cx_T _ 130 _ 96 ([some (.inr (.inl 0)), some (.inl (.int x)), some (.inl (.int w)), some (.inl (.int v)), some (.inl (.int (Int32.ofInt (-4))))], [.inl (.int (s x.toNatClampNeg))], [(0, .inl (10, [.inr (.inl 1), .inr (.inl 2), .inr (.inl 15), .inr (.inl 21), .inr (.inl 43), .inr (.inl 68), .inr (.inl 77), .inr (.inl 87), .inr (.inl 101), .inr (.inl 107), .inr (.inl 113), .inl (.int dy)])), (1, .inr (.inl (0, 7, r))), (2, .inl (8, [.inr (.inl 3), .inr (.inl 4), .inr (.inl 5), .inr (.inl 10)])), (3, .inr (.inl (0, 16, t))), (4, .inr (.inl (0, 16, upd s x.toNatClampNeg v)))]) _
                    refine ex_ireturn cg_130 (ix := 50) rfl ?_
                    exact ⟨_, r, _, _, rfl, rfl, Or.inr (Or.inr (Or.inr (Or.inr (Or.inr (⟨by omega, by omega, by omega, rfl, rfl, rfl⟩)))))⟩
                  · have hb72 : ¬ (¬ w.toInt = 0) := hb72
                    refine ex_aload_n cg_130 (ix := 39) (pc' := 76) rfl rfl rfl ?_
                    refine ex_getfield cg_130 (ix := 40) (pc' := 79) rfl rfl rfl rfl rfl ?_
                    refine ex_iload_n cg_130 (ix := 41) (pc' := 80) rfl rfl rfl ?_
                    refine ex_iload_n cg_130 (ix := 42) (pc' := 81) rfl rfl rfl ?_
                    refine ex_callV cg_130 (ix := 43) (pc' := 84) (As := [.inl (.int x), .inl (.int v)]) (r := []) rfl rfl rfl (ct_pt (x := x) (y := v) (t := t) (s := s) (by omega) (by omega)) (by first | decide | omega) rfl rfl rfl ⟨rfl, rfl, rfl, trivial⟩ rfl rfl (fun v h2 hq => ?_)
                    obtain ⟨rfl, rfl⟩ := hq
                    show cx_T _ 130 _ 84 ([some (.inr (.inl 0)), some (.inl (.int x)), some (.inl (.int w)), some (.inl (.int v)), some (.inl (.int (Int32.ofInt (-4))))], [.inl (.int (t x.toNatClampNeg))], [(0, .inl (10, [.inr (.inl 1), .inr (.inl 2), .inr (.inl 15), .inr (.inl 21), .inr (.inl 43), .inr (.inl 68), .inr (.inl 77), .inr (.inl 87), .inr (.inl 101), .inr (.inl 107), .inr (.inl 113), .inl (.int dy)])), (1, .inr (.inl (0, 7, r))), (2, .inl (8, [.inr (.inl 3), .inr (.inl 4), .inr (.inl 5), .inr (.inl 10)])), (3, .inr (.inl (0, 16, upd t x.toNatClampNeg v))), (4, .inr (.inl (0, 16, s)))]) _
                    refine ex_goto cg_130 (ix := 44) (pc' := 96) rfl rfl ?_
                    refine ex_ireturn cg_130 (ix := 50) rfl ?_
                    exact ⟨_, r, _, _, rfl, rfl, Or.inr (Or.inr (Or.inr (Or.inr (Or.inl ⟨by omega, by omega, by omega, rfl, rfl, rfl⟩))))⟩
                · have hb61 : ¬ (v.toInt = (Int32.ofInt 99).toInt) := hb61
                  refine ex_aload_n cg_130 (ix := 33) (pc' := 65) rfl rfl rfl ?_
                  refine ex_iload cg_130 (ix := 34) (pc' := 67) rfl rfl rfl ?_
                  refine ex_callV cg_130 (ix := 35) (pc' := 70) (As := [.inl (.int (Int32.ofInt (-4)))]) (r := []) rfl rfl rfl (ct_xrs (dy := dy) (x := Int32.ofInt (-4)) (r := r) (by decide +kernel) (by decide +kernel)) (by first | decide | omega) rfl rfl rfl ⟨rfl, rfl, trivial⟩ rfl rfl (fun v h2 hq => ?_)
                  obtain ⟨rfl, r2, rfl⟩ := hq
                  show cx_T _ 130 _ 70 ([some (.inr (.inl 0)), some (.inl (.int x)), some (.inl (.int w)), some (.inl (.int v)), some (.inl (.int (Int32.ofInt (-4))))], [.inl (.int (Int32.ofInt 1000000000 - (Int32.ofInt (-4))))], [(0, .inl (10, [.inr (.inl 1), .inr (.inl 2), .inr (.inl 15), .inr (.inl 21), .inr (.inl 43), .inr (.inl 68), .inr (.inl 77), .inr (.inl 87), .inr (.inl 101), .inr (.inl 107), .inr (.inl 113), .inl (.int dy)])), (1, .inr (.inl (0, 7, r2))), (2, .inl (8, [.inr (.inl 3), .inr (.inl 4), .inr (.inl 5), .inr (.inl 10)])), (3, .inr (.inl (0, 16, t))), (4, .inr (.inl (0, 16, s)))]) _
                  refine ex_ireturn cg_130 (ix := 36) rfl ?_
                  exact ⟨_, r2, _, _, rfl, rfl, Or.inr (Or.inr (Or.inl ⟨by omega, by omega, rfl, rfl, rfl⟩))⟩
            · show cx_T _ 130 _ 51 ([some (.inr (.inl 0)), some (.inl (.int x)), some (.inl (.int w)), some (.inl (.int v)), none], [.inl (.int (Int32.ofInt (-6)))], [(0, .inl (10, [.inr (.inl 1), .inr (.inl 2), .inr (.inl 15), .inr (.inl 21), .inr (.inl 43), .inr (.inl 68), .inr (.inl 77), .inr (.inl 87), .inr (.inl 101), .inr (.inl 107), .inr (.inl 113), .inl (.int dy)])), (1, .inr (.inl (0, 7, r))), (2, .inl (8, [.inr (.inl 3), .inr (.inl 4), .inr (.inl 5), .inr (.inl 10)])), (3, .inr (.inl (0, 16, t))), (4, .inr (.inl (0, 16, s)))]) _
              refine ex_istore cg_130 (ix := 27) (pc' := 53) (L' := [some (.inr (.inl 0)), some (.inl (.int x)), some (.inl (.int w)), some (.inl (.int v)), some (.inl (.int (Int32.ofInt (-6))))]) rfl rfl rfl rfl ?_
              refine ex_iload cg_130 (ix := 28) (pc' := 55) rfl rfl rfl ?_
              refine ex_if cg_130 (ix := 29) (t := 71) (pc' := 58) rfl rfl rfl (fun hb55 => ?_) (fun hb55 => ?_)
              · have hb55 : (Int32.ofInt (-6)).toInt = 0 := hb55
                exfalso; first | omega | exact absurd hb55 (by decide +kernel)
              · have hb55 : ¬ ((Int32.ofInt (-6)).toInt = 0) := hb55
                refine ex_iload_n cg_130 (ix := 30) (pc' := 59) rfl rfl rfl ?_
                refine ex_bipush cg_130 (ix := 31) (pc' := 61) rfl rfl rfl ?_
                refine ex_icmp cg_130 (ix := 32) (t := 71) (pc' := 64) rfl rfl rfl (fun hb61 => ?_) (fun hb61 => ?_)
                · have hb61 : v.toInt = (Int32.ofInt 99).toInt := hb61
                  refine ex_iload_n cg_130 (ix := 37) (pc' := 72) rfl rfl rfl ?_
                  refine ex_if cg_130 (ix := 38) (t := 87) (pc' := 75) rfl rfl rfl (fun hb72 => ?_) (fun hb72 => ?_)
                  · have hb72 : ¬ w.toInt = 0 := hb72
                    refine ex_aload_n cg_130 (ix := 45) (pc' := 88) rfl rfl rfl ?_
                    refine ex_getfield cg_130 (ix := 46) (pc' := 91) rfl rfl rfl rfl rfl ?_
                    refine ex_iload_n cg_130 (ix := 47) (pc' := 92) rfl rfl rfl ?_
                    refine ex_iload_n cg_130 (ix := 48) (pc' := 93) rfl rfl rfl ?_
                    refine ex_callV cg_130 (ix := 49) (pc' := 96) (As := [.inl (.int x), .inl (.int v)]) (r := []) rfl rfl rfl (ct_ps (x := x) (y := v) (t := t) (s := s) (by omega) (by omega)) (by first | decide | omega) rfl rfl rfl ⟨rfl, rfl, rfl, trivial⟩ rfl rfl (fun v h2 hq => ?_)
                    obtain ⟨rfl, rfl⟩ := hq
                    show cx_T _ 130 _ 96 ([some (.inr (.inl 0)), some (.inl (.int x)), some (.inl (.int w)), some (.inl (.int v)), some (.inl (.int (Int32.ofInt (-6))))], [.inl (.int (s x.toNatClampNeg))], [(0, .inl (10, [.inr (.inl 1), .inr (.inl 2), .inr (.inl 15), .inr (.inl 21), .inr (.inl 43), .inr (.inl 68), .inr (.inl 77), .inr (.inl 87), .inr (.inl 101), .inr (.inl 107), .inr (.inl 113), .inl (.int dy)])), (1, .inr (.inl (0, 7, r))), (2, .inl (8, [.inr (.inl 3), .inr (.inl 4), .inr (.inl 5), .inr (.inl 10)])), (3, .inr (.inl (0, 16, t))), (4, .inr (.inl (0, 16, upd s x.toNatClampNeg v)))]) _
                    refine ex_ireturn cg_130 (ix := 50) rfl ?_
                    exact ⟨_, r, _, _, rfl, rfl, Or.inr (Or.inr (Or.inr (Or.inr (Or.inr (⟨by omega, by omega, by omega, rfl, rfl, rfl⟩)))))⟩
                  · have hb72 : ¬ (¬ w.toInt = 0) := hb72
                    refine ex_aload_n cg_130 (ix := 39) (pc' := 76) rfl rfl rfl ?_
                    refine ex_getfield cg_130 (ix := 40) (pc' := 79) rfl rfl rfl rfl rfl ?_
                    refine ex_iload_n cg_130 (ix := 41) (pc' := 80) rfl rfl rfl ?_
                    refine ex_iload_n cg_130 (ix := 42) (pc' := 81) rfl rfl rfl ?_
                    refine ex_callV cg_130 (ix := 43) (pc' := 84) (As := [.inl (.int x), .inl (.int v)]) (r := []) rfl rfl rfl (ct_pt (x := x) (y := v) (t := t) (s := s) (by omega) (by omega)) (by first | decide | omega) rfl rfl rfl ⟨rfl, rfl, rfl, trivial⟩ rfl rfl (fun v h2 hq => ?_)
                    obtain ⟨rfl, rfl⟩ := hq
                    show cx_T _ 130 _ 84 ([some (.inr (.inl 0)), some (.inl (.int x)), some (.inl (.int w)), some (.inl (.int v)), some (.inl (.int (Int32.ofInt (-6))))], [.inl (.int (t x.toNatClampNeg))], [(0, .inl (10, [.inr (.inl 1), .inr (.inl 2), .inr (.inl 15), .inr (.inl 21), .inr (.inl 43), .inr (.inl 68), .inr (.inl 77), .inr (.inl 87), .inr (.inl 101), .inr (.inl 107), .inr (.inl 113), .inl (.int dy)])), (1, .inr (.inl (0, 7, r))), (2, .inl (8, [.inr (.inl 3), .inr (.inl 4), .inr (.inl 5), .inr (.inl 10)])), (3, .inr (.inl (0, 16, upd t x.toNatClampNeg v))), (4, .inr (.inl (0, 16, s)))]) _
                    refine ex_goto cg_130 (ix := 44) (pc' := 96) rfl rfl ?_
                    refine ex_ireturn cg_130 (ix := 50) rfl ?_
                    exact ⟨_, r, _, _, rfl, rfl, Or.inr (Or.inr (Or.inr (Or.inr (Or.inl ⟨by omega, by omega, by omega, rfl, rfl, rfl⟩))))⟩
                · have hb61 : ¬ (v.toInt = (Int32.ofInt 99).toInt) := hb61
                  refine ex_aload_n cg_130 (ix := 33) (pc' := 65) rfl rfl rfl ?_
                  refine ex_iload cg_130 (ix := 34) (pc' := 67) rfl rfl rfl ?_
                  refine ex_callV cg_130 (ix := 35) (pc' := 70) (As := [.inl (.int (Int32.ofInt (-6)))]) (r := []) rfl rfl rfl (ct_xrs (dy := dy) (x := Int32.ofInt (-6)) (r := r) (by decide +kernel) (by decide +kernel)) (by first | decide | omega) rfl rfl rfl ⟨rfl, rfl, trivial⟩ rfl rfl (fun v h2 hq => ?_)
                  obtain ⟨rfl, r2, rfl⟩ := hq
                  show cx_T _ 130 _ 70 ([some (.inr (.inl 0)), some (.inl (.int x)), some (.inl (.int w)), some (.inl (.int v)), some (.inl (.int (Int32.ofInt (-6))))], [.inl (.int (Int32.ofInt 1000000000 - (Int32.ofInt (-6))))], [(0, .inl (10, [.inr (.inl 1), .inr (.inl 2), .inr (.inl 15), .inr (.inl 21), .inr (.inl 43), .inr (.inl 68), .inr (.inl 77), .inr (.inl 87), .inr (.inl 101), .inr (.inl 107), .inr (.inl 113), .inl (.int dy)])), (1, .inr (.inl (0, 7, r2))), (2, .inl (8, [.inr (.inl 3), .inr (.inl 4), .inr (.inl 5), .inr (.inl 10)])), (3, .inr (.inl (0, 16, t))), (4, .inr (.inl (0, 16, s)))]) _
                  refine ex_ireturn cg_130 (ix := 36) rfl ?_
                  exact ⟨_, r2, _, _, rfl, rfl, Or.inr (Or.inr (Or.inr (Or.inl ⟨by omega, by omega, by omega, by omega, rfl, rfl, rfl⟩)))⟩
            · show cx_T _ 130 _ 51 ([some (.inr (.inl 0)), some (.inl (.int x)), some (.inl (.int w)), some (.inl (.int v)), none], [.inl (.int (Int32.ofInt 0))], [(0, .inl (10, [.inr (.inl 1), .inr (.inl 2), .inr (.inl 15), .inr (.inl 21), .inr (.inl 43), .inr (.inl 68), .inr (.inl 77), .inr (.inl 87), .inr (.inl 101), .inr (.inl 107), .inr (.inl 113), .inl (.int dy)])), (1, .inr (.inl (0, 7, r))), (2, .inl (8, [.inr (.inl 3), .inr (.inl 4), .inr (.inl 5), .inr (.inl 10)])), (3, .inr (.inl (0, 16, t))), (4, .inr (.inl (0, 16, s)))]) _
              refine ex_istore cg_130 (ix := 27) (pc' := 53) (L' := [some (.inr (.inl 0)), some (.inl (.int x)), some (.inl (.int w)), some (.inl (.int v)), some (.inl (.int (Int32.ofInt 0)))]) rfl rfl rfl rfl ?_
              refine ex_iload cg_130 (ix := 28) (pc' := 55) rfl rfl rfl ?_
              refine ex_if cg_130 (ix := 29) (t := 71) (pc' := 58) rfl rfl rfl (fun hb55 => ?_) (fun hb55 => ?_)
              · have hb55 : (Int32.ofInt 0).toInt = 0 := hb55
                refine ex_iload_n cg_130 (ix := 37) (pc' := 72) rfl rfl rfl ?_
                refine ex_if cg_130 (ix := 38) (t := 87) (pc' := 75) rfl rfl rfl (fun hb72 => ?_) (fun hb72 => ?_)
                · have hb72 : ¬ w.toInt = 0 := hb72
                  refine ex_aload_n cg_130 (ix := 45) (pc' := 88) rfl rfl rfl ?_
                  refine ex_getfield cg_130 (ix := 46) (pc' := 91) rfl rfl rfl rfl rfl ?_
                  refine ex_iload_n cg_130 (ix := 47) (pc' := 92) rfl rfl rfl ?_
                  refine ex_iload_n cg_130 (ix := 48) (pc' := 93) rfl rfl rfl ?_
                  refine ex_callV cg_130 (ix := 49) (pc' := 96) (As := [.inl (.int x), .inl (.int v)]) (r := []) rfl rfl rfl (ct_ps (x := x) (y := v) (t := t) (s := s) (by omega) (by omega)) (by first | decide | omega) rfl rfl rfl ⟨rfl, rfl, rfl, trivial⟩ rfl rfl (fun v h2 hq => ?_)
                  obtain ⟨rfl, rfl⟩ := hq
                  show cx_T _ 130 _ 96 ([some (.inr (.inl 0)), some (.inl (.int x)), some (.inl (.int w)), some (.inl (.int v)), some (.inl (.int (Int32.ofInt 0)))], [.inl (.int (s x.toNatClampNeg))], [(0, .inl (10, [.inr (.inl 1), .inr (.inl 2), .inr (.inl 15), .inr (.inl 21), .inr (.inl 43), .inr (.inl 68), .inr (.inl 77), .inr (.inl 87), .inr (.inl 101), .inr (.inl 107), .inr (.inl 113), .inl (.int dy)])), (1, .inr (.inl (0, 7, r))), (2, .inl (8, [.inr (.inl 3), .inr (.inl 4), .inr (.inl 5), .inr (.inl 10)])), (3, .inr (.inl (0, 16, t))), (4, .inr (.inl (0, 16, upd s x.toNatClampNeg v)))]) _
                  refine ex_ireturn cg_130 (ix := 50) rfl ?_
                  exact ⟨_, r, _, _, rfl, rfl, Or.inr (Or.inr (Or.inr (Or.inr (Or.inr (⟨by omega, by omega, by omega, rfl, rfl, rfl⟩)))))⟩
                · have hb72 : ¬ (¬ w.toInt = 0) := hb72
                  refine ex_aload_n cg_130 (ix := 39) (pc' := 76) rfl rfl rfl ?_
                  refine ex_getfield cg_130 (ix := 40) (pc' := 79) rfl rfl rfl rfl rfl ?_
                  refine ex_iload_n cg_130 (ix := 41) (pc' := 80) rfl rfl rfl ?_
                  refine ex_iload_n cg_130 (ix := 42) (pc' := 81) rfl rfl rfl ?_
                  refine ex_callV cg_130 (ix := 43) (pc' := 84) (As := [.inl (.int x), .inl (.int v)]) (r := []) rfl rfl rfl (ct_pt (x := x) (y := v) (t := t) (s := s) (by omega) (by omega)) (by first | decide | omega) rfl rfl rfl ⟨rfl, rfl, rfl, trivial⟩ rfl rfl (fun v h2 hq => ?_)
                  obtain ⟨rfl, rfl⟩ := hq
                  show cx_T _ 130 _ 84 ([some (.inr (.inl 0)), some (.inl (.int x)), some (.inl (.int w)), some (.inl (.int v)), some (.inl (.int (Int32.ofInt 0)))], [.inl (.int (t x.toNatClampNeg))], [(0, .inl (10, [.inr (.inl 1), .inr (.inl 2), .inr (.inl 15), .inr (.inl 21), .inr (.inl 43), .inr (.inl 68), .inr (.inl 77), .inr (.inl 87), .inr (.inl 101), .inr (.inl 107), .inr (.inl 113), .inl (.int dy)])), (1, .inr (.inl (0, 7, r))), (2, .inl (8, [.inr (.inl 3), .inr (.inl 4), .inr (.inl 5), .inr (.inl 10)])), (3, .inr (.inl (0, 16, upd t x.toNatClampNeg v))), (4, .inr (.inl (0, 16, s)))]) _
                  refine ex_goto cg_130 (ix := 44) (pc' := 96) rfl rfl ?_
                  refine ex_ireturn cg_130 (ix := 50) rfl ?_
                  exact ⟨_, r, _, _, rfl, rfl, Or.inr (Or.inr (Or.inr (Or.inr (Or.inl ⟨by omega, by omega, by omega, rfl, rfl, rfl⟩))))⟩
              · have hb55 : ¬ ((Int32.ofInt 0).toInt = 0) := hb55
                exfalso; first | omega | exact absurd hb55 (by decide +kernel)
          · have hb30 : ¬ (¬ w.toInt = 0) := hb30
            refine ex_iload_n cg_130 (ix := 18) (pc' := 34) rfl rfl rfl ?_
            refine ex_bipush cg_130 (ix := 19) (pc' := 36) rfl rfl rfl ?_
            refine ex_bipush cg_130 (ix := 20) (pc' := 38) rfl rfl rfl ?_
            refine ex_callS cg_130 (ix := 21) (pc' := 41) (As := [.inl (.int v), .inl (.int (Int32.ofInt (-9))), .inl (.int (Int32.ofInt 9))]) (r := []) rfl rfl rfl (ct_out (x := v) (a := Int32.ofInt (-9)) (b := Int32.ofInt 9)) (by first | decide | omega) rfl rfl trivial rfl rfl (fun v h2 hq => ?_)
            obtain ⟨z, rfl, rfl, hz3⟩ := hq
            rcases hz3 with ⟨hz3, rfl⟩ | ⟨hz3, hz4, rfl⟩ | ⟨hz3, hz4, rfl⟩
            · show cx_T _ 130 _ 41 ([some (.inr (.inl 0)), some (.inl (.int x)), some (.inl (.int w)), some (.inl (.int v)), none], [.inl (.int (Int32.ofInt (-4)))], [(0, .inl (10, [.inr (.inl 1), .inr (.inl 2), .inr (.inl 15), .inr (.inl 21), .inr (.inl 43), .inr (.inl 68), .inr (.inl 77), .inr (.inl 87), .inr (.inl 101), .inr (.inl 107), .inr (.inl 113), .inl (.int dy)])), (1, .inr (.inl (0, 7, r))), (2, .inl (8, [.inr (.inl 3), .inr (.inl 4), .inr (.inl 5), .inr (.inl 10)])), (3, .inr (.inl (0, 16, t))), (4, .inr (.inl (0, 16, s)))]) _
              refine ex_goto cg_130 (ix := 22) (pc' := 51) rfl rfl ?_
              refine ex_istore cg_130 (ix := 27) (pc' := 53) (L' := [some (.inr (.inl 0)), some (.inl (.int x)), some (.inl (.int w)), some (.inl (.int v)), some (.inl (.int (Int32.ofInt (-4))))]) rfl rfl rfl rfl ?_
              refine ex_iload cg_130 (ix := 28) (pc' := 55) rfl rfl rfl ?_
              refine ex_if cg_130 (ix := 29) (t := 71) (pc' := 58) rfl rfl rfl (fun hb55 => ?_) (fun hb55 => ?_)
              · have hb55 : (Int32.ofInt (-4)).toInt = 0 := hb55
                exfalso; first | omega | exact absurd hb55 (by decide +kernel)
              · have hb55 : ¬ ((Int32.ofInt (-4)).toInt = 0) := hb55
                refine ex_iload_n cg_130 (ix := 30) (pc' := 59) rfl rfl rfl ?_
                refine ex_bipush cg_130 (ix := 31) (pc' := 61) rfl rfl rfl ?_
                refine ex_icmp cg_130 (ix := 32) (t := 71) (pc' := 64) rfl rfl rfl (fun hb61 => ?_) (fun hb61 => ?_)
                · have hb61 : v.toInt = (Int32.ofInt 99).toInt := hb61
                  refine ex_iload_n cg_130 (ix := 37) (pc' := 72) rfl rfl rfl ?_
                  refine ex_if cg_130 (ix := 38) (t := 87) (pc' := 75) rfl rfl rfl (fun hb72 => ?_) (fun hb72 => ?_)
                  · have hb72 : ¬ w.toInt = 0 := hb72
                    refine ex_aload_n cg_130 (ix := 45) (pc' := 88) rfl rfl rfl ?_
                    refine ex_getfield cg_130 (ix := 46) (pc' := 91) rfl rfl rfl rfl rfl ?_
                    refine ex_iload_n cg_130 (ix := 47) (pc' := 92) rfl rfl rfl ?_
                    refine ex_iload_n cg_130 (ix := 48) (pc' := 93) rfl rfl rfl ?_
                    refine ex_callV cg_130 (ix := 49) (pc' := 96) (As := [.inl (.int x), .inl (.int v)]) (r := []) rfl rfl rfl (ct_ps (x := x) (y := v) (t := t) (s := s) (by omega) (by omega)) (by first | decide | omega) rfl rfl rfl ⟨rfl, rfl, rfl, trivial⟩ rfl rfl (fun v h2 hq => ?_)
                    obtain ⟨rfl, rfl⟩ := hq
                    show cx_T _ 130 _ 96 ([some (.inr (.inl 0)), some (.inl (.int x)), some (.inl (.int w)), some (.inl (.int v)), some (.inl (.int (Int32.ofInt (-4))))], [.inl (.int (s x.toNatClampNeg))], [(0, .inl (10, [.inr (.inl 1), .inr (.inl 2), .inr (.inl 15), .inr (.inl 21), .inr (.inl 43), .inr (.inl 68), .inr (.inl 77), .inr (.inl 87), .inr (.inl 101), .inr (.inl 107), .inr (.inl 113), .inl (.int dy)])), (1, .inr (.inl (0, 7, r))), (2, .inl (8, [.inr (.inl 3), .inr (.inl 4), .inr (.inl 5), .inr (.inl 10)])), (3, .inr (.inl (0, 16, t))), (4, .inr (.inl (0, 16, upd s x.toNatClampNeg v)))]) _
                    refine ex_ireturn cg_130 (ix := 50) rfl ?_
                    exact ⟨_, r, _, _, rfl, rfl, Or.inr (Or.inr (Or.inr (Or.inr (Or.inr (⟨by omega, by omega, by omega, rfl, rfl, rfl⟩)))))⟩
                  · have hb72 : ¬ (¬ w.toInt = 0) := hb72
                    refine ex_aload_n cg_130 (ix := 39) (pc' := 76) rfl rfl rfl ?_
                    refine ex_getfield cg_130 (ix := 40) (pc' := 79) rfl rfl rfl rfl rfl ?_
                    refine ex_iload_n cg_130 (ix := 41) (pc' := 80) rfl rfl rfl ?_
                    refine ex_iload_n cg_130 (ix := 42) (pc' := 81) rfl rfl rfl ?_
                    refine ex_callV cg_130 (ix := 43) (pc' := 84) (As := [.inl (.int x), .inl (.int v)]) (r := []) rfl rfl rfl (ct_pt (x := x) (y := v) (t := t) (s := s) (by omega) (by omega)) (by first | decide | omega) rfl rfl rfl ⟨rfl, rfl, rfl, trivial⟩ rfl rfl (fun v h2 hq => ?_)
                    obtain ⟨rfl, rfl⟩ := hq
                    show cx_T _ 130 _ 84 ([some (.inr (.inl 0)), some (.inl (.int x)), some (.inl (.int w)), some (.inl (.int v)), some (.inl (.int (Int32.ofInt (-4))))], [.inl (.int (t x.toNatClampNeg))], [(0, .inl (10, [.inr (.inl 1), .inr (.inl 2), .inr (.inl 15), .inr (.inl 21), .inr (.inl 43), .inr (.inl 68), .inr (.inl 77), .inr (.inl 87), .inr (.inl 101), .inr (.inl 107), .inr (.inl 113), .inl (.int dy)])), (1, .inr (.inl (0, 7, r))), (2, .inl (8, [.inr (.inl 3), .inr (.inl 4), .inr (.inl 5), .inr (.inl 10)])), (3, .inr (.inl (0, 16, upd t x.toNatClampNeg v))), (4, .inr (.inl (0, 16, s)))]) _
                    refine ex_goto cg_130 (ix := 44) (pc' := 96) rfl rfl ?_
                    refine ex_ireturn cg_130 (ix := 50) rfl ?_
                    exact ⟨_, r, _, _, rfl, rfl, Or.inr (Or.inr (Or.inr (Or.inr (Or.inl ⟨by omega, by omega, by omega, rfl, rfl, rfl⟩))))⟩
                · have hb61 : ¬ (v.toInt = (Int32.ofInt 99).toInt) := hb61
                  refine ex_aload_n cg_130 (ix := 33) (pc' := 65) rfl rfl rfl ?_
                  refine ex_iload cg_130 (ix := 34) (pc' := 67) rfl rfl rfl ?_
                  refine ex_callV cg_130 (ix := 35) (pc' := 70) (As := [.inl (.int (Int32.ofInt (-4)))]) (r := []) rfl rfl rfl (ct_xrs (dy := dy) (x := Int32.ofInt (-4)) (r := r) (by decide +kernel) (by decide +kernel)) (by first | decide | omega) rfl rfl rfl ⟨rfl, rfl, trivial⟩ rfl rfl (fun v h2 hq => ?_)
                  obtain ⟨rfl, r2, rfl⟩ := hq
                  show cx_T _ 130 _ 70 ([some (.inr (.inl 0)), some (.inl (.int x)), some (.inl (.int w)), some (.inl (.int v)), some (.inl (.int (Int32.ofInt (-4))))], [.inl (.int (Int32.ofInt 1000000000 - (Int32.ofInt (-4))))], [(0, .inl (10, [.inr (.inl 1), .inr (.inl 2), .inr (.inl 15), .inr (.inl 21), .inr (.inl 43), .inr (.inl 68), .inr (.inl 77), .inr (.inl 87), .inr (.inl 101), .inr (.inl 107), .inr (.inl 113), .inl (.int dy)])), (1, .inr (.inl (0, 7, r2))), (2, .inl (8, [.inr (.inl 3), .inr (.inl 4), .inr (.inl 5), .inr (.inl 10)])), (3, .inr (.inl (0, 16, t))), (4, .inr (.inl (0, 16, s)))]) _
                  refine ex_ireturn cg_130 (ix := 36) rfl ?_
                  exact ⟨_, r2, _, _, rfl, rfl, Or.inr (Or.inr (Or.inl ⟨by omega, by omega, rfl, rfl, rfl⟩))⟩
            · show cx_T _ 130 _ 41 ([some (.inr (.inl 0)), some (.inl (.int x)), some (.inl (.int w)), some (.inl (.int v)), none], [.inl (.int (Int32.ofInt (-6)))], [(0, .inl (10, [.inr (.inl 1), .inr (.inl 2), .inr (.inl 15), .inr (.inl 21), .inr (.inl 43), .inr (.inl 68), .inr (.inl 77), .inr (.inl 87), .inr (.inl 101), .inr (.inl 107), .inr (.inl 113), .inl (.int dy)])), (1, .inr (.inl (0, 7, r))), (2, .inl (8, [.inr (.inl 3), .inr (.inl 4), .inr (.inl 5), .inr (.inl 10)])), (3, .inr (.inl (0, 16, t))), (4, .inr (.inl (0, 16, s)))]) _
              refine ex_goto cg_130 (ix := 22) (pc' := 51) rfl rfl ?_
              refine ex_istore cg_130 (ix := 27) (pc' := 53) (L' := [some (.inr (.inl 0)), some (.inl (.int x)), some (.inl (.int w)), some (.inl (.int v)), some (.inl (.int (Int32.ofInt (-6))))]) rfl rfl rfl rfl ?_
              refine ex_iload cg_130 (ix := 28) (pc' := 55) rfl rfl rfl ?_
              refine ex_if cg_130 (ix := 29) (t := 71) (pc' := 58) rfl rfl rfl (fun hb55 => ?_) (fun hb55 => ?_)
              · have hb55 : (Int32.ofInt (-6)).toInt = 0 := hb55
                exfalso; first | omega | exact absurd hb55 (by decide +kernel)
              · have hb55 : ¬ ((Int32.ofInt (-6)).toInt = 0) := hb55
                refine ex_iload_n cg_130 (ix := 30) (pc' := 59) rfl rfl rfl ?_
                refine ex_bipush cg_130 (ix := 31) (pc' := 61) rfl rfl rfl ?_
                refine ex_icmp cg_130 (ix := 32) (t := 71) (pc' := 64) rfl rfl rfl (fun hb61 => ?_) (fun hb61 => ?_)
                · have hb61 : v.toInt = (Int32.ofInt 99).toInt := hb61
                  refine ex_iload_n cg_130 (ix := 37) (pc' := 72) rfl rfl rfl ?_
                  refine ex_if cg_130 (ix := 38) (t := 87) (pc' := 75) rfl rfl rfl (fun hb72 => ?_) (fun hb72 => ?_)
                  · have hb72 : ¬ w.toInt = 0 := hb72
                    refine ex_aload_n cg_130 (ix := 45) (pc' := 88) rfl rfl rfl ?_
                    refine ex_getfield cg_130 (ix := 46) (pc' := 91) rfl rfl rfl rfl rfl ?_
                    refine ex_iload_n cg_130 (ix := 47) (pc' := 92) rfl rfl rfl ?_
                    refine ex_iload_n cg_130 (ix := 48) (pc' := 93) rfl rfl rfl ?_
                    refine ex_callV cg_130 (ix := 49) (pc' := 96) (As := [.inl (.int x), .inl (.int v)]) (r := []) rfl rfl rfl (ct_ps (x := x) (y := v) (t := t) (s := s) (by omega) (by omega)) (by first | decide | omega) rfl rfl rfl ⟨rfl, rfl, rfl, trivial⟩ rfl rfl (fun v h2 hq => ?_)
                    obtain ⟨rfl, rfl⟩ := hq
                    show cx_T _ 130 _ 96 ([some (.inr (.inl 0)), some (.inl (.int x)), some (.inl (.int w)), some (.inl (.int v)), some (.inl (.int (Int32.ofInt (-6))))], [.inl (.int (s x.toNatClampNeg))], [(0, .inl (10, [.inr (.inl 1), .inr (.inl 2), .inr (.inl 15), .inr (.inl 21), .inr (.inl 43), .inr (.inl 68), .inr (.inl 77), .inr (.inl 87), .inr (.inl 101), .inr (.inl 107), .inr (.inl 113), .inl (.int dy)])), (1, .inr (.inl (0, 7, r))), (2, .inl (8, [.inr (.inl 3), .inr (.inl 4), .inr (.inl 5), .inr (.inl 10)])), (3, .inr (.inl (0, 16, t))), (4, .inr (.inl (0, 16, upd s x.toNatClampNeg v)))]) _
                    refine ex_ireturn cg_130 (ix := 50) rfl ?_
                    exact ⟨_, r, _, _, rfl, rfl, Or.inr (Or.inr (Or.inr (Or.inr (Or.inr (⟨by omega, by omega, by omega, rfl, rfl, rfl⟩)))))⟩
                  · have hb72 : ¬ (¬ w.toInt = 0) := hb72
                    refine ex_aload_n cg_130 (ix := 39) (pc' := 76) rfl rfl rfl ?_
                    refine ex_getfield cg_130 (ix := 40) (pc' := 79) rfl rfl rfl rfl rfl ?_
                    refine ex_iload_n cg_130 (ix := 41) (pc' := 80) rfl rfl rfl ?_
                    refine ex_iload_n cg_130 (ix := 42) (pc' := 81) rfl rfl rfl ?_
                    refine ex_callV cg_130 (ix := 43) (pc' := 84) (As := [.inl (.int x), .inl (.int v)]) (r := []) rfl rfl rfl (ct_pt (x := x) (y := v) (t := t) (s := s) (by omega) (by omega)) (by first | decide | omega) rfl rfl rfl ⟨rfl, rfl, rfl, trivial⟩ rfl rfl (fun v h2 hq => ?_)
                    obtain ⟨rfl, rfl⟩ := hq
                    show cx_T _ 130 _ 84 ([some (.inr (.inl 0)), some (.inl (.int x)), some (.inl (.int w)), some (.inl (.int v)), some (.inl (.int (Int32.ofInt (-6))))], [.inl (.int (t x.toNatClampNeg))], [(0, .inl (10, [.inr (.inl 1), .inr (.inl 2), .inr (.inl 15), .inr (.inl 21), .inr (.inl 43), .inr (.inl 68), .inr (.inl 77), .inr (.inl 87), .inr (.inl 101), .inr (.inl 107), .inr (.inl 113), .inl (.int dy)])), (1, .inr (.inl (0, 7, r))), (2, .inl (8, [.inr (.inl 3), .inr (.inl 4), .inr (.inl 5), .inr (.inl 10)])), (3, .inr (.inl (0, 16, upd t x.toNatClampNeg v))), (4, .inr (.inl (0, 16, s)))]) _
                    refine ex_goto cg_130 (ix := 44) (pc' := 96) rfl rfl ?_
                    refine ex_ireturn cg_130 (ix := 50) rfl ?_
                    exact ⟨_, r, _, _, rfl, rfl, Or.inr (Or.inr (Or.inr (Or.inr (Or.inl ⟨by omega, by omega, by omega, rfl, rfl, rfl⟩))))⟩
                · have hb61 : ¬ (v.toInt = (Int32.ofInt 99).toInt) := hb61
                  refine ex_aload_n cg_130 (ix := 33) (pc' := 65) rfl rfl rfl ?_
                  refine ex_iload cg_130 (ix := 34) (pc' := 67) rfl rfl rfl ?_
                  refine ex_callV cg_130 (ix := 35) (pc' := 70) (As := [.inl (.int (Int32.ofInt (-6)))]) (r := []) rfl rfl rfl (ct_xrs (dy := dy) (x := Int32.ofInt (-6)) (r := r) (by decide +kernel) (by decide +kernel)) (by first | decide | omega) rfl rfl rfl ⟨rfl, rfl, trivial⟩ rfl rfl (fun v h2 hq => ?_)
                  obtain ⟨rfl, r2, rfl⟩ := hq
                  show cx_T _ 130 _ 70 ([some (.inr (.inl 0)), some (.inl (.int x)), some (.inl (.int w)), some (.inl (.int v)), some (.inl (.int (Int32.ofInt (-6))))], [.inl (.int (Int32.ofInt 1000000000 - (Int32.ofInt (-6))))], [(0, .inl (10, [.inr (.inl 1), .inr (.inl 2), .inr (.inl 15), .inr (.inl 21), .inr (.inl 43), .inr (.inl 68), .inr (.inl 77), .inr (.inl 87), .inr (.inl 101), .inr (.inl 107), .inr (.inl 113), .inl (.int dy)])), (1, .inr (.inl (0, 7, r2))), (2, .inl (8, [.inr (.inl 3), .inr (.inl 4), .inr (.inl 5), .inr (.inl 10)])), (3, .inr (.inl (0, 16, t))), (4, .inr (.inl (0, 16, s)))]) _
                  refine ex_ireturn cg_130 (ix := 36) rfl ?_
                  exact ⟨_, r2, _, _, rfl, rfl, Or.inr (Or.inr (Or.inr (Or.inl ⟨by omega, by omega, by omega, by omega, rfl, rfl, rfl⟩)))⟩
            · show cx_T _ 130 _ 41 ([some (.inr (.inl 0)), some (.inl (.int x)), some (.inl (.int w)), some (.inl (.int v)), none], [.inl (.int (Int32.ofInt 0))], [(0, .inl (10, [.inr (.inl 1), .inr (.inl 2), .inr (.inl 15), .inr (.inl 21), .inr (.inl 43), .inr (.inl 68), .inr (.inl 77), .inr (.inl 87), .inr (.inl 101), .inr (.inl 107), .inr (.inl 113), .inl (.int dy)])), (1, .inr (.inl (0, 7, r))), (2, .inl (8, [.inr (.inl 3), .inr (.inl 4), .inr (.inl 5), .inr (.inl 10)])), (3, .inr (.inl (0, 16, t))), (4, .inr (.inl (0, 16, s)))]) _
              refine ex_goto cg_130 (ix := 22) (pc' := 51) rfl rfl ?_
              refine ex_istore cg_130 (ix := 27) (pc' := 53) (L' := [some (.inr (.inl 0)), some (.inl (.int x)), some (.inl (.int w)), some (.inl (.int v)), some (.inl (.int (Int32.ofInt 0)))]) rfl rfl rfl rfl ?_
              refine ex_iload cg_130 (ix := 28) (pc' := 55) rfl rfl rfl ?_
              refine ex_if cg_130 (ix := 29) (t := 71) (pc' := 58) rfl rfl rfl (fun hb55 => ?_) (fun hb55 => ?_)
              · have hb55 : (Int32.ofInt 0).toInt = 0 := hb55
                refine ex_iload_n cg_130 (ix := 37) (pc' := 72) rfl rfl rfl ?_
                refine ex_if cg_130 (ix := 38) (t := 87) (pc' := 75) rfl rfl rfl (fun hb72 => ?_) (fun hb72 => ?_)
                · have hb72 : ¬ w.toInt = 0 := hb72
                  refine ex_aload_n cg_130 (ix := 45) (pc' := 88) rfl rfl rfl ?_
                  refine ex_getfield cg_130 (ix := 46) (pc' := 91) rfl rfl rfl rfl rfl ?_
                  refine ex_iload_n cg_130 (ix := 47) (pc' := 92) rfl rfl rfl ?_
                  refine ex_iload_n cg_130 (ix := 48) (pc' := 93) rfl rfl rfl ?_
                  refine ex_callV cg_130 (ix := 49) (pc' := 96) (As := [.inl (.int x), .inl (.int v)]) (r := []) rfl rfl rfl (ct_ps (x := x) (y := v) (t := t) (s := s) (by omega) (by omega)) (by first | decide | omega) rfl rfl rfl ⟨rfl, rfl, rfl, trivial⟩ rfl rfl (fun v h2 hq => ?_)
                  obtain ⟨rfl, rfl⟩ := hq
                  show cx_T _ 130 _ 96 ([some (.inr (.inl 0)), some (.inl (.int x)), some (.inl (.int w)), some (.inl (.int v)), some (.inl (.int (Int32.ofInt 0)))], [.inl (.int (s x.toNatClampNeg))], [(0, .inl (10, [.inr (.inl 1), .inr (.inl 2), .inr (.inl 15), .inr (.inl 21), .inr (.inl 43), .inr (.inl 68), .inr (.inl 77), .inr (.inl 87), .inr (.inl 101), .inr (.inl 107), .inr (.inl 113), .inl (.int dy)])), (1, .inr (.inl (0, 7, r))), (2, .inl (8, [.inr (.inl 3), .inr (.inl 4), .inr (.inl 5), .inr (.inl 10)])), (3, .inr (.inl (0, 16, t))), (4, .inr (.inl (0, 16, upd s x.toNatClampNeg v)))]) _
                  refine ex_ireturn cg_130 (ix := 50) rfl ?_
                  exact ⟨_, r, _, _, rfl, rfl, Or.inr (Or.inr (Or.inr (Or.inr (Or.inr (⟨by omega, by omega, by omega, rfl, rfl, rfl⟩)))))⟩
                · have hb72 : ¬ (¬ w.toInt = 0) := hb72
                  refine ex_aload_n cg_130 (ix := 39) (pc' := 76) rfl rfl rfl ?_
                  refine ex_getfield cg_130 (ix := 40) (pc' := 79) rfl rfl rfl rfl rfl ?_
                  refine ex_iload_n cg_130 (ix := 41) (pc' := 80) rfl rfl rfl ?_
                  refine ex_iload_n cg_130 (ix := 42) (pc' := 81) rfl rfl rfl ?_
                  refine ex_callV cg_130 (ix := 43) (pc' := 84) (As := [.inl (.int x), .inl (.int v)]) (r := []) rfl rfl rfl (ct_pt (x := x) (y := v) (t := t) (s := s) (by omega) (by omega)) (by first | decide | omega) rfl rfl rfl ⟨rfl, rfl, rfl, trivial⟩ rfl rfl (fun v h2 hq => ?_)
                  obtain ⟨rfl, rfl⟩ := hq
                  show cx_T _ 130 _ 84 ([some (.inr (.inl 0)), some (.inl (.int x)), some (.inl (.int w)), some (.inl (.int v)), some (.inl (.int (Int32.ofInt 0)))], [.inl (.int (t x.toNatClampNeg))], [(0, .inl (10, [.inr (.inl 1), .inr (.inl 2), .inr (.inl 15), .inr (.inl 21), .inr (.inl 43), .inr (.inl 68), .inr (.inl 77), .inr (.inl 87), .inr (.inl 101), .inr (.inl 107), .inr (.inl 113), .inl (.int dy)])), (1, .inr (.inl (0, 7, r))), (2, .inl (8, [.inr (.inl 3), .inr (.inl 4), .inr (.inl 5), .inr (.inl 10)])), (3, .inr (.inl (0, 16, upd t x.toNatClampNeg v))), (4, .inr (.inl (0, 16, s)))]) _
                  refine ex_goto cg_130 (ix := 44) (pc' := 96) rfl rfl ?_
                  refine ex_ireturn cg_130 (ix := 50) rfl ?_
                  exact ⟨_, r, _, _, rfl, rfl, Or.inr (Or.inr (Or.inr (Or.inr (Or.inl ⟨by omega, by omega, by omega, rfl, rfl, rfl⟩))))⟩
              · have hb55 : ¬ ((Int32.ofInt 0).toInt = 0) := hb55
                exfalso; first | omega | exact absurd hb55 (by decide +kernel)
        · have hb19 : ¬ (w.toInt = (Int32.ofInt 1).toInt) := hb19
          refine ex_aload_n cg_130 (ix := 12) (pc' := 23) rfl rfl rfl ?_
          refine ex_bipush cg_130 (ix := 13) (pc' := 25) rfl rfl rfl ?_
          refine ex_callV cg_130 (ix := 14) (pc' := 28) (As := [.inl (.int (Int32.ofInt (-2)))]) (r := []) rfl rfl rfl (ct_xrs (dy := dy) (x := Int32.ofInt (-2)) (r := r) (by decide +kernel) (by decide +kernel)) (by first | decide | omega) rfl rfl rfl ⟨rfl, rfl, trivial⟩ rfl rfl (fun v h2 hq => ?_)
          obtain ⟨rfl, r2, rfl⟩ := hq
          show cx_T _ 130 _ 28 ([some (.inr (.inl 0)), some (.inl (.int x)), some (.inl (.int w)), some (.inl (.int v)), none], [.inl (.int (Int32.ofInt 1000000000 - (Int32.ofInt (-2))))], [(0, .inl (10, [.inr (.inl 1), .inr (.inl 2), .inr (.inl 15), .inr (.inl 21), .inr (.inl 43), .inr (.inl 68), .inr (.inl 77), .inr (.inl 87), .inr (.inl 101), .inr (.inl 107), .inr (.inl 113), .inl (.int dy)])), (1, .inr (.inl (0, 7, r2))), (2, .inl (8, [.inr (.inl 3), .inr (.inl 4), .inr (.inl 5), .inr (.inl 10)])), (3, .inr (.inl (0, 16, t))), (4, .inr (.inl (0, 16, s)))]) _
          refine ex_ireturn cg_130 (ix := 15) rfl ?_
          exact ⟨_, r2, _, _, rfl, rfl, Or.inr (Or.inl ⟨by omega, by omega, by omega, rfl, rfl, rfl⟩)⟩
    · have hb4 : ¬ (¬ (Int32.ofInt 1).toInt = 0) := hb4
      exfalso; first | omega | exact absurd hb4 (by decide +kernel)
  · show cx_T _ 130 _ 4 ([some (.inr (.inl 0)), some (.inl (.int x)), some (.inl (.int w)), some (.inl (.int v)), none], [.inl (.int (Int32.ofInt 0))], [(0, .inl (10, [.inr (.inl 1), .inr (.inl 2), .inr (.inl 15), .inr (.inl 21), .inr (.inl 43), .inr (.inl 68), .inr (.inl 77), .inr (.inl 87), .inr (.inl 101), .inr (.inl 107), .inr (.inl 113), .inl (.int dy)])), (1, .inr (.inl (0, 7, r))), (2, .inl (8, [.inr (.inl 3), .inr (.inl 4), .inr (.inl 5), .inr (.inl 10)])), (3, .inr (.inl (0, 16, t))), (4, .inr (.inl (0, 16, s)))]) _
    refine ex_if cg_130 (ix := 2) (t := 13) (pc' := 7) rfl rfl rfl (fun hb4 => ?_) (fun hb4 => ?_)
    · have hb4 : ¬ (Int32.ofInt 0).toInt = 0 := hb4
      exfalso; first | omega | exact absurd hb4 (by decide +kernel)
    · have hb4 : ¬ (¬ (Int32.ofInt 0).toInt = 0) := hb4
      refine ex_aload_n cg_130 (ix := 3) (pc' := 8) rfl rfl rfl ?_
      refine ex_iconst cg_130 (ix := 4) (pc' := 9) rfl rfl ?_
      refine ex_callV cg_130 (ix := 5) (pc' := 12) (As := [.inl (.int (Int32.ofInt (-1)))]) (r := []) rfl rfl rfl (ct_xrs (dy := dy) (x := Int32.ofInt (-1)) (r := r) (by decide +kernel) (by decide +kernel)) (by first | decide | omega) rfl rfl rfl ⟨rfl, rfl, trivial⟩ rfl rfl (fun v h2 hq => ?_)
      obtain ⟨rfl, r2, rfl⟩ := hq
      show cx_T _ 130 _ 12 ([some (.inr (.inl 0)), some (.inl (.int x)), some (.inl (.int w)), some (.inl (.int v)), none], [.inl (.int (Int32.ofInt 1000000000 - (Int32.ofInt (-1))))], [(0, .inl (10, [.inr (.inl 1), .inr (.inl 2), .inr (.inl 15), .inr (.inl 21), .inr (.inl 43), .inr (.inl 68), .inr (.inl 77), .inr (.inl 87), .inr (.inl 101), .inr (.inl 107), .inr (.inl 113), .inl (.int dy)])), (1, .inr (.inl (0, 7, r2))), (2, .inl (8, [.inr (.inl 3), .inr (.inl 4), .inr (.inl 5), .inr (.inl 10)])), (3, .inr (.inl (0, 16, t))), (4, .inr (.inl (0, 16, s)))]) _
      refine ex_ireturn cg_130 (ix := 6) rfl ?_
      exact ⟨_, r2, _, _, rfl, rfl, Or.inl ⟨by omega, rfl, rfl, rfl⟩⟩
theorem ct_may {dy x w : Int32} {r t s : Nat → Int32} (ht : ∀ i : Nat, i < 16 → tdU (t i).toInt) : cx_Ct 5 131 [.inr (.inl 0), .inl (.int x), .inl (.int w)] (h_xt dy r t s) (fun v2 h2 => ∃ (z : Int32) (r2 : Nat → Int32), v2 = some (.inl (.int z)) ∧ h2 = h_xt dy r2 t s ∧ ma x w t s z) := by
  have kc0 : (Int32.ofInt 0).toInt = 0 := by decide +kernel
  have kc1 : (Int32.ofInt 1).toInt = 1 := by decide +kernel
  have kc2 : (Int32.ofInt 2).toInt = 2 := by decide +kernel
  have kcm1 : (Int32.ofInt (-1)).toInt = -1 := by decide +kernel
  have kcm2 : (Int32.ofInt (-2)).toInt = -2 := by decide +kernel
  refine cx_Ct.of cg_131 (nL := 3) rfl rfl rfl ?_
  show cx_T 5 131 [0, 1, 2, 3, 4] 0 ([some (.inr (.inl 0)), some (.inl (.int x)), some (.inl (.int w))], [], h_xt dy r t s) _
  refine ex_iload_n cg_131 (ix := 0) (pc' := 1) rfl rfl rfl ?_
  refine ex_callS cg_131 (ix := 1) (pc' := 4) (As := [.inl (.int x)]) (r := []) rfl rfl rfl (ct_xhour (x := x)) (by first | decide | omega) rfl rfl trivial rfl rfl (fun v h2 hq => ?_)
  obtain ⟨z, rfl, rfl, hz1⟩ := hq
  rcases hz1 with ⟨hz1, rfl⟩ | ⟨hz1, rfl⟩
  · show cx_T _ 131 _ 4 ([some (.inr (.inl 0)), some (.inl (.int x)), some (.inl (.int w))], [.inl (.int (Int32.ofInt 1))], [(0, .inl (10, [.inr (.inl 1), .inr (.inl 2), .inr (.inl 15), .inr (.inl 21), .inr (.inl 43), .inr (.inl 68), .inr (.inl 77), .inr (.inl 87), .inr (.inl 101), .inr (.inl 107), .inr (.inl 113), .inl (.int dy)])), (1, .inr (.inl (0, 7, r))), (2, .inl (8, [.inr (.inl 3), .inr (.inl 4), .inr (.inl 5), .inr (.inl 10)])), (3, .inr (.inl (0, 16, t))), (4, .inr (.inl (0, 16, s)))]) _
    refine ex_if cg_131 (ix := 2) (t := 13) (pc' := 7) rfl rfl rfl (fun hb4 => ?_) (fun hb4 => ?_)
    · have hb4 : ¬ (Int32.ofInt 1).toInt = 0 := hb4
      refine ex_iload_n cg_131 (ix := 7) (pc' := 14) rfl rfl rfl ?_
      have hxk : x.toInt = (x.toNatClampNeg : Int) := (ab_clamp (by omega)).symm
      have hk16 : x.toNatClampNeg < 16 := by omega
      rcases (show w.toInt = 0 ∨ w.toInt = 1 ∨ w.toInt = 2 ∨ (w.toInt < 0 ∨ 2 < w.toInt) by omega) with hw | hw | hw | hw
      · refine ex_tabIn cg_131 (ix := 8) (off := 26) (t := 40) rfl (by omega) (by omega) (by rw [hw]; rfl) rfl ?_
        refine ex_aload_n cg_131 (ix := 9) (pc' := 41) rfl rfl rfl ?_
        refine ex_getfield cg_131 (ix := 10) (pc' := 44) rfl rfl rfl rfl rfl ?_
        refine ex_iload_n cg_131 (ix := 11) (pc' := 45) rfl rfl rfl ?_
        refine ex_callV cg_131 (ix := 12) (pc' := 48) (As := [.inl (.int x)]) (r := []) rfl rfl rfl (ct_lt (x := x) (k := x.toNatClampNeg) (t := t) (s := s) hxk hk16 ht) (by first | decide | omega) rfl rfl rfl ⟨rfl, rfl, rfl, trivial⟩ rfl rfl (fun v h2 hq => ?_)
        obtain ⟨z, rfl, hz5, rfl⟩ := hq
        show cx_T _ 131 _ 48 ([some (.inr (.inl 0)), some (.inl (.int x)), some (.inl (.int w))], [.inl (.int z)], [(0, .inl (10, [.inr (.inl 1), .inr (.inl 2), .inr (.inl 15), .inr (.inl 21), .inr (.inl 43), .inr (.inl 68), .inr (.inl 77), .inr (.inl 87), .inr (.inl 101), .inr (.inl 107), .inr (.inl 113), .inl (.int dy)])), (1, .inr (.inl (0, 7, r))), (2, .inl (8, [.inr (.inl 3), .inr (.inl 4), .inr (.inl 5), .inr (.inl 10)])), (3, .inr (.inl (0, 16, t))), (4, .inr (.inl (0, 16, s)))]) _
        refine ex_ireturn cg_131 (ix := 13) rfl ?_
        first | exact ⟨_, r, rfl, rfl, Or.inr (Or.inr (Or.inl ⟨by omega, by omega, hz5⟩))⟩ | exact ⟨_, r, rfl, rfl, Or.inr (Or.inr (Or.inr (Or.inl ⟨by omega, by omega, hz5⟩)))⟩
      · refine ex_tabIn cg_131 (ix := 8) (off := 35) (t := 49) rfl (by omega) (by omega) (by rw [hw]; rfl) rfl ?_
        refine ex_aload_n cg_131 (ix := 14) (pc' := 50) rfl rfl rfl ?_
        refine ex_getfield cg_131 (ix := 15) (pc' := 53) rfl rfl rfl rfl rfl ?_
        refine ex_iload_n cg_131 (ix := 16) (pc' := 54) rfl rfl rfl ?_
        refine ex_callV cg_131 (ix := 17) (pc' := 57) (As := [.inl (.int x)]) (r := []) rfl rfl rfl (ct_gt (x := x) (k := x.toNatClampNeg) (t := t) (s := s) hxk hk16 ht) (by first | decide | omega) rfl rfl rfl ⟨rfl, rfl, rfl, trivial⟩ rfl rfl (fun v h2 hq => ?_)
        obtain ⟨z, rfl, hz5, rfl⟩ := hq
        show cx_T _ 131 _ 57 ([some (.inr (.inl 0)), some (.inl (.int x)), some (.inl (.int w))], [.inl (.int z)], [(0, .inl (10, [.inr (.inl 1), .inr (.inl 2), .inr (.inl 15), .inr (.inl 21), .inr (.inl 43), .inr (.inl 68), .inr (.inl 77), .inr (.inl 87), .inr (.inl 101), .inr (.inl 107), .inr (.inl 113), .inl (.int dy)])), (1, .inr (.inl (0, 7, r))), (2, .inl (8, [.inr (.inl 3), .inr (.inl 4), .inr (.inl 5), .inr (.inl 10)])), (3, .inr (.inl (0, 16, t))), (4, .inr (.inl (0, 16, s)))]) _
        refine ex_ireturn cg_131 (ix := 18) rfl ?_
        first | exact ⟨_, r, rfl, rfl, Or.inr (Or.inr (Or.inl ⟨by omega, by omega, hz5⟩))⟩ | exact ⟨_, r, rfl, rfl, Or.inr (Or.inr (Or.inr (Or.inl ⟨by omega, by omega, hz5⟩)))⟩
      · refine ex_tabIn cg_131 (ix := 8) (off := 44) (t := 58) rfl (by omega) (by omega) (by rw [hw]; rfl) rfl ?_
        refine ex_aload_n cg_131 (ix := 19) (pc' := 59) rfl rfl rfl ?_
        refine ex_getfield cg_131 (ix := 20) (pc' := 62) rfl rfl rfl rfl rfl ?_
        refine ex_iload_n cg_131 (ix := 21) (pc' := 63) rfl rfl rfl ?_
        refine ex_callV cg_131 (ix := 22) (pc' := 66) (As := [.inl (.int x)]) (r := []) rfl rfl rfl (ct_gs (x := x) (k := x.toNatClampNeg) (t := t) (s := s) hxk hk16) (by first | decide | omega) rfl rfl rfl ⟨rfl, rfl, rfl, trivial⟩ rfl rfl (fun v h2 hq => ?_)
        obtain ⟨rfl, rfl⟩ := hq
        show cx_T _ 131 _ 66 ([some (.inr (.inl 0)), some (.inl (.int x)), some (.inl (.int w))], [.inl (.int (sw_x s x.toNatClampNeg))], [(0, .inl (10, [.inr (.inl 1), .inr (.inl 2), .inr (.inl 15), .inr (.inl 21), .inr (.inl 43), .inr (.inl 68), .inr (.inl 77), .inr (.inl 87), .inr (.inl 101), .inr (.inl 107), .inr (.inl 113), .inl (.int dy)])), (1, .inr (.inl (0, 7, r))), (2, .inl (8, [.inr (.inl 3), .inr (.inl 4), .inr (.inl 5), .inr (.inl 10)])), (3, .inr (.inl (0, 16, t))), (4, .inr (.inl (0, 16, s)))]) _
        refine ex_ireturn cg_131 (ix := 23) rfl ?_
        exact ⟨_, r, rfl, rfl, Or.inr (Or.inr (Or.inr (Or.inr (⟨by omega, by omega, rfl⟩))))⟩
      · refine ex_tabOut cg_131 (ix := 8) (t := 67) rfl hw rfl ?_
        refine ex_aload_n cg_131 (ix := 24) (pc' := 68) rfl rfl rfl ?_
        refine ex_bipush cg_131 (ix := 25) (pc' := 70) rfl rfl rfl ?_
        refine ex_callV cg_131 (ix := 26) (pc' := 73) (As := [.inl (.int (Int32.ofInt (-2)))]) (r := []) rfl rfl rfl (ct_xrs (dy := dy) (x := Int32.ofInt (-2)) (r := r) (by decide +kernel) (by decide +kernel)) (by first | decide | omega) rfl rfl rfl ⟨rfl, rfl, trivial⟩ rfl rfl (fun v h2 hq => ?_)
        obtain ⟨rfl, r2, rfl⟩ := hq
        show cx_T _ 131 _ 73 ([some (.inr (.inl 0)), some (.inl (.int x)), some (.inl (.int w))], [.inl (.int (Int32.ofInt 1000000000 - (Int32.ofInt (-2))))], [(0, .inl (10, [.inr (.inl 1), .inr (.inl 2), .inr (.inl 15), .inr (.inl 21), .inr (.inl 43), .inr (.inl 68), .inr (.inl 77), .inr (.inl 87), .inr (.inl 101), .inr (.inl 107), .inr (.inl 113), .inl (.int dy)])), (1, .inr (.inl (0, 7, r2))), (2, .inl (8, [.inr (.inl 3), .inr (.inl 4), .inr (.inl 5), .inr (.inl 10)])), (3, .inr (.inl (0, 16, t))), (4, .inr (.inl (0, 16, s)))]) _
        refine ex_ireturn cg_131 (ix := 27) rfl ?_
        exact ⟨_, r2, rfl, rfl, Or.inr (Or.inl ⟨by omega, by omega, rfl⟩)⟩
    · have hb4 : ¬ (¬ (Int32.ofInt 1).toInt = 0) := hb4
      exfalso; first | omega | exact absurd hb4 (by decide +kernel)
  · show cx_T _ 131 _ 4 ([some (.inr (.inl 0)), some (.inl (.int x)), some (.inl (.int w))], [.inl (.int (Int32.ofInt 0))], [(0, .inl (10, [.inr (.inl 1), .inr (.inl 2), .inr (.inl 15), .inr (.inl 21), .inr (.inl 43), .inr (.inl 68), .inr (.inl 77), .inr (.inl 87), .inr (.inl 101), .inr (.inl 107), .inr (.inl 113), .inl (.int dy)])), (1, .inr (.inl (0, 7, r))), (2, .inl (8, [.inr (.inl 3), .inr (.inl 4), .inr (.inl 5), .inr (.inl 10)])), (3, .inr (.inl (0, 16, t))), (4, .inr (.inl (0, 16, s)))]) _
    refine ex_if cg_131 (ix := 2) (t := 13) (pc' := 7) rfl rfl rfl (fun hb4 => ?_) (fun hb4 => ?_)
    · have hb4 : ¬ (Int32.ofInt 0).toInt = 0 := hb4
      exfalso; first | omega | exact absurd hb4 (by decide +kernel)
    · have hb4 : ¬ (¬ (Int32.ofInt 0).toInt = 0) := hb4
      refine ex_aload_n cg_131 (ix := 3) (pc' := 8) rfl rfl rfl ?_
      refine ex_iconst cg_131 (ix := 4) (pc' := 9) rfl rfl ?_
      refine ex_callV cg_131 (ix := 5) (pc' := 12) (As := [.inl (.int (Int32.ofInt (-1)))]) (r := []) rfl rfl rfl (ct_xrs (dy := dy) (x := Int32.ofInt (-1)) (r := r) (by decide +kernel) (by decide +kernel)) (by first | decide | omega) rfl rfl rfl ⟨rfl, rfl, trivial⟩ rfl rfl (fun v h2 hq => ?_)
      obtain ⟨rfl, r2, rfl⟩ := hq
      show cx_T _ 131 _ 12 ([some (.inr (.inl 0)), some (.inl (.int x)), some (.inl (.int w))], [.inl (.int (Int32.ofInt 1000000000 - (Int32.ofInt (-1))))], [(0, .inl (10, [.inr (.inl 1), .inr (.inl 2), .inr (.inl 15), .inr (.inl 21), .inr (.inl 43), .inr (.inl 68), .inr (.inl 77), .inr (.inl 87), .inr (.inl 101), .inr (.inl 107), .inr (.inl 113), .inl (.int dy)])), (1, .inr (.inl (0, 7, r2))), (2, .inl (8, [.inr (.inl 3), .inr (.inl 4), .inr (.inl 5), .inr (.inl 10)])), (3, .inr (.inl (0, 16, t))), (4, .inr (.inl (0, 16, s)))]) _
      refine ex_ireturn cg_131 (ix := 6) rfl ?_
      exact ⟨_, r2, rfl, rfl, Or.inl ⟨by omega, rfl⟩⟩
end
