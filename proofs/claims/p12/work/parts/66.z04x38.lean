noncomputable section
theorem cx_addc {x y : Int32} (h1 : -2147483648 ≤ x.toInt + y.toInt) (h2 : x.toInt + y.toInt ≤ 2147483647) : (x + y).toInt = x.toInt + y.toInt := by rw [Int32.toInt_add]; exact ab_bm h1 h2
theorem cx_subc {x y : Int32} (h1 : -2147483648 ≤ x.toInt - y.toInt) (h2 : x.toInt - y.toInt ≤ 2147483647) : (x - y).toInt = x.toInt - y.toInt := by rw [Int32.toInt_sub]; exact ab_bm h1 h2
theorem cx_mulc {x y : Int32} (h1 : -2147483648 ≤ x.toInt * y.toInt) (h2 : x.toInt * y.toInt ≤ 2147483647) : (x * y).toInt = x.toInt * y.toInt := by rw [Int32.toInt_mul]; exact ab_bm h1 h2
theorem cx_mulk {n : Int} {x : Int32} (hn : (Int32.ofInt n).toInt = n) (h1 : -2147483648 ≤ n * x.toInt) (h2 : n * x.toInt ≤ 2147483647) : (Int32.ofInt n * x).toInt = n * x.toInt := by rw [Int32.toInt_mul, hn]; exact ab_bm h1 h2
theorem cx_mulk2 {n : Int} {x : Int32} (hn : (Int32.ofInt n).toInt = n) (h1 : -2147483648 ≤ n * x.toInt) (h2 : n * x.toInt ≤ 2147483647) : (x * Int32.ofInt n).toInt = n * x.toInt := by rw [Int32.toInt_mul, hn, Int.mul_comm]; exact ab_bm h1 h2
theorem cx_negc {x : Int32} (h1 : -2147483648 < x.toInt) : (-x).toInt = - x.toInt := by
  rw [Int32.toInt_neg]
  have := ab_hi32 x
  exact ab_bm (by omega) (by omega)
theorem cx_clamp {x : Int32} {k : Nat} (h : x.toInt = (k : Int)) : x.toNatClampNeg = k := by
  have := ab_clamp (x := x) (by omega)
  omega
theorem cx_i32 {x y : Int32} (h : x.toInt = y.toInt) : x = y := Int32.toInt_inj.mp h
theorem cg_167 : cx_G 167 tb_167 TbX10 (some .boolean) := cx_G.of gok_167
theorem cg_168 : cx_G 168 tb_168 TbX10 (some .boolean) := cx_G.of gok_168
theorem cg_172 : cx_G 172 tb_172 TbX10 (some .int) := cx_G.of gok_172
theorem cg_175 : cx_G 175 tb_175 TbX10 (some .int) := cx_G.of gok_175
theorem cg_180 : cx_G 180 tb_180 TbX11 (some .boolean) := cx_G.of gok_180
theorem cg_183 : cx_G 183 tb_183 TbX11 (some .boolean) := cx_G.of gok_183
theorem cg_184 : cx_G 184 tb_184 TbX11 (some .boolean) := cx_G.of gok_184
theorem cg_181 : cx_G 181 tb_181 TbX11 (some .int) := cx_G.of gok_181
theorem cg_24 : cx_G 24 tb_24 TbX2 (some .int) := cx_G.of gok_24
theorem cg_23 : cx_G 23 tb_23 TbX2 (some .int) := cx_G.of gok_23
theorem cg_164 : cx_G 164 tb_164 TbX10 (some .int) := cx_G.of gok_164
theorem cg_257 : cx_G 257 tb_257 TbX11 (some .int) := cx_G.of gok_257
theorem cg_256 : cx_G 256 tb_256 TbX11 (some .int) := cx_G.of gok_256
theorem ct_xbeach {x : Int32} : cx_Ct 2 167 [.inl (.int x)] [] (fun v h2 => ∃ z : Int32, v = some (.inl (.int z)) ∧ h2 = [] ∧ ((0 ≤ x.toInt ∧ x.toInt < 4) ∧ z = Int32.ofInt 1 ∨ ¬ (0 ≤ x.toInt ∧ x.toInt < 4) ∧ z = Int32.ofInt 0)) := by
  have kc4 : (Int32.ofInt 4).toInt = 4 := by decide +kernel
  have kc1 : (Int32.ofInt 1).toInt = 1 := by decide +kernel
  have kc0 : (Int32.ofInt 0).toInt = 0 := by decide +kernel
  refine cx_Ct.of cg_167 (nL := 1) rfl rfl rfl ?_
  show cx_T 2 167 [] 0 ([some (.inl (.int x))], [], []) _
  refine ex_iload_n cg_167 (ix := 0) (pc' := 1) rfl rfl rfl ?_
  refine ex_if cg_167 (ix := 1) (t := 13) (pc' := 4) rfl rfl rfl (fun hb1 => ?_) (fun hb1 => ?_)
  · have hb1 : x.toInt < 0 := hb1
    refine ex_iconst cg_167 (ix := 7) (pc' := 14) rfl rfl ?_
    refine ex_zreturn cg_167 (ix := 8) rfl (by first | exact Or.inl rfl | exact Or.inr rfl | (first | exact Or.inr rfl | exact Or.inl rfl)) ?_
    exact ⟨_, rfl, rfl, Or.inr ⟨by omega, rfl⟩⟩
  · have hb1 : ¬ (x.toInt < 0) := hb1
    refine ex_iload_n cg_167 (ix := 2) (pc' := 5) rfl rfl rfl ?_
    refine ex_iconst cg_167 (ix := 3) (pc' := 6) rfl rfl ?_
    refine ex_icmp cg_167 (ix := 4) (t := 13) (pc' := 9) rfl rfl rfl (fun hb6 => ?_) (fun hb6 => ?_)
    · have hb6 : (Int32.ofInt 4).toInt ≤ x.toInt := hb6
      refine ex_iconst cg_167 (ix := 7) (pc' := 14) rfl rfl ?_
      refine ex_zreturn cg_167 (ix := 8) rfl (by first | exact Or.inl rfl | exact Or.inr rfl | (first | exact Or.inr rfl | exact Or.inl rfl)) ?_
      exact ⟨_, rfl, rfl, Or.inr ⟨by omega, rfl⟩⟩
    · have hb6 : ¬ ((Int32.ofInt 4).toInt ≤ x.toInt) := hb6
      refine ex_iconst cg_167 (ix := 5) (pc' := 10) rfl rfl ?_
      refine ex_goto cg_167 (ix := 6) (pc' := 14) rfl rfl ?_
      refine ex_zreturn cg_167 (ix := 8) rfl (by first | exact Or.inl rfl | exact Or.inr rfl | (first | exact Or.inr rfl | exact Or.inl rfl)) ?_
      exact ⟨_, rfl, rfl, Or.inl ⟨by omega, rfl⟩⟩
theorem ct_xcell {x : Int32} : cx_Ct 2 168 [.inl (.int x)] [] (fun v h2 => ∃ z : Int32, v = some (.inl (.int z)) ∧ h2 = [] ∧ ((0 ≤ x.toInt ∧ x.toInt < 24) ∧ z = Int32.ofInt 1 ∨ ¬ (0 ≤ x.toInt ∧ x.toInt < 24) ∧ z = Int32.ofInt 0)) := by
  have kc24 : (Int32.ofInt 24).toInt = 24 := by decide +kernel
  have kc1 : (Int32.ofInt 1).toInt = 1 := by decide +kernel
  have kc0 : (Int32.ofInt 0).toInt = 0 := by decide +kernel
  refine cx_Ct.of cg_168 (nL := 1) rfl rfl rfl ?_
  show cx_T 2 168 [] 0 ([some (.inl (.int x))], [], []) _
  refine ex_iload_n cg_168 (ix := 0) (pc' := 1) rfl rfl rfl ?_
  refine ex_if cg_168 (ix := 1) (t := 14) (pc' := 4) rfl rfl rfl (fun hb1 => ?_) (fun hb1 => ?_)
  · have hb1 : x.toInt < 0 := hb1
    refine ex_iconst cg_168 (ix := 7) (pc' := 15) rfl rfl ?_
    refine ex_zreturn cg_168 (ix := 8) rfl (by first | exact Or.inl rfl | exact Or.inr rfl | (first | exact Or.inr rfl | exact Or.inl rfl)) ?_
    exact ⟨_, rfl, rfl, Or.inr ⟨by omega, rfl⟩⟩
  · have hb1 : ¬ (x.toInt < 0) := hb1
    refine ex_iload_n cg_168 (ix := 2) (pc' := 5) rfl rfl rfl ?_
    refine ex_bipush cg_168 (ix := 3) (pc' := 7) rfl rfl rfl ?_
    refine ex_icmp cg_168 (ix := 4) (t := 14) (pc' := 10) rfl rfl rfl (fun hb7 => ?_) (fun hb7 => ?_)
    · have hb7 : (Int32.ofInt 24).toInt ≤ x.toInt := hb7
      refine ex_iconst cg_168 (ix := 7) (pc' := 15) rfl rfl ?_
      refine ex_zreturn cg_168 (ix := 8) rfl (by first | exact Or.inl rfl | exact Or.inr rfl | (first | exact Or.inr rfl | exact Or.inl rfl)) ?_
      exact ⟨_, rfl, rfl, Or.inr ⟨by omega, rfl⟩⟩
    · have hb7 : ¬ ((Int32.ofInt 24).toInt ≤ x.toInt) := hb7
      refine ex_iconst cg_168 (ix := 5) (pc' := 11) rfl rfl ?_
      refine ex_goto cg_168 (ix := 6) (pc' := 15) rfl rfl ?_
      refine ex_zreturn cg_168 (ix := 8) rfl (by first | exact Or.inl rfl | exact Or.inr rfl | (first | exact Or.inr rfl | exact Or.inl rfl)) ?_
      exact ⟨_, rfl, rfl, Or.inl ⟨by omega, rfl⟩⟩
theorem ct_out {x a b : Int32} : cx_Ct 2 172 [.inl (.int x), .inl (.int a), .inl (.int b)] [] (fun v h2 => ∃ z : Int32, v = some (.inl (.int z)) ∧ h2 = [] ∧ (x.toInt < a.toInt ∧ z = Int32.ofInt (-4) ∨ ¬ x.toInt < a.toInt ∧ b.toInt < x.toInt ∧ z = Int32.ofInt (-6) ∨ ¬ x.toInt < a.toInt ∧ ¬ b.toInt < x.toInt ∧ z = Int32.ofInt 0)) := by
  have kcm4 : (Int32.ofInt (-4)).toInt = -4 := by decide +kernel
  have kcm6 : (Int32.ofInt (-6)).toInt = -6 := by decide +kernel
  have kc0 : (Int32.ofInt 0).toInt = 0 := by decide +kernel
  refine cx_Ct.of cg_172 (nL := 3) rfl rfl rfl ?_
  show cx_T 2 172 [] 0 ([some (.inl (.int x)), some (.inl (.int a)), some (.inl (.int b))], [], []) _
  refine ex_iload_n cg_172 (ix := 0) (pc' := 1) rfl rfl rfl ?_
  refine ex_iload_n cg_172 (ix := 1) (pc' := 2) rfl rfl rfl ?_
  refine ex_icmp cg_172 (ix := 2) (t := 8) (pc' := 5) rfl rfl rfl (fun hb2 => ?_) (fun hb2 => ?_)
  · have hb2 : a.toInt ≤ x.toInt := hb2
    refine ex_iload_n cg_172 (ix := 5) (pc' := 9) rfl rfl rfl ?_
    refine ex_iload_n cg_172 (ix := 6) (pc' := 10) rfl rfl rfl ?_
    refine ex_icmp cg_172 (ix := 7) (t := 18) (pc' := 13) rfl rfl rfl (fun hb10 => ?_) (fun hb10 => ?_)
    · have hb10 : x.toInt ≤ b.toInt := hb10
      refine ex_iconst cg_172 (ix := 10) (pc' := 19) rfl rfl ?_
      refine ex_ireturn cg_172 (ix := 11) rfl ?_
      exact ⟨_, rfl, rfl, Or.inr (Or.inr ⟨by omega, by omega, rfl⟩)⟩
    · have hb10 : ¬ (x.toInt ≤ b.toInt) := hb10
      refine ex_bipush cg_172 (ix := 8) (pc' := 15) rfl rfl rfl ?_
      refine ex_goto cg_172 (ix := 9) (pc' := 19) rfl rfl ?_
      refine ex_ireturn cg_172 (ix := 11) rfl ?_
      exact ⟨_, rfl, rfl, Or.inr (Or.inl ⟨by omega, by omega, rfl⟩)⟩
  · have hb2 : ¬ (a.toInt ≤ x.toInt) := hb2
    refine ex_bipush cg_172 (ix := 3) (pc' := 7) rfl rfl rfl ?_
    refine ex_ireturn cg_172 (ix := 4) rfl ?_
    exact ⟨_, rfl, rfl, Or.inl ⟨by omega, rfl⟩⟩
def vs_0 (dy : Int32) : List cx_V := [.inr (.inl 1), .inr (.inl 2), .inr (.inl 15), .inr (.inl 21), .inr (.inl 43), .inr (.inl 68), .inr (.inl 77), .inr (.inl 87), .inr (.inl 101), .inr (.inl 107), .inr (.inl 113), .inl (.int dy)]
def h_rf (dy : Int32) (r : Nat → Int32) : cx_H := [(0, .inl (10, vs_0 dy)), (1, .inr (.inl (0, 7, r)))]
theorem ct_xref {dy x : Int32} {r : Nat → Int32} (h1 : -6 ≤ x.toInt) (h2 : x.toInt ≤ -1) : cx_Ct 2 175 [.inr (.inl 0), .inl (.int x)] (h_rf dy r) (fun v h2 => v = some (.inl (.int x)) ∧ ∃ r2, h2 = h_rf dy r2) := by
  have kc1 : (Int32.ofInt 1).toInt = 1 := by decide +kernel
  have kc6 : (Int32.ofInt 6).toInt = 6 := by decide +kernel
  have hng : (-x).toInt = - x.toInt := cx_negc (by omega)
  refine cx_Ct.of cg_175 (nL := 3) rfl rfl rfl ?_
  show cx_T 2 175 [0, 1] 0 ([some (.inr (.inl 0)), some (.inl (.int x)), none], [], (h_rf dy r)) _
  refine ex_iload_n cg_175 (ix := 0) (pc' := 1) rfl rfl rfl ?_
  refine ex_ineg cg_175 (ix := 1) (pc' := 2) rfl rfl ?_
  refine ex_istore_n cg_175 (ix := 2) (pc' := 3) (L' := [some (.inr (.inl 0)), some (.inl (.int x)), some (.inl (.int (-x)))]) rfl rfl rfl rfl ?_
  refine ex_iload_n cg_175 (ix := 3) (pc' := 4) rfl rfl rfl ?_
  refine ex_iconst cg_175 (ix := 4) (pc' := 5) rfl rfl ?_
  refine ex_icmp cg_175 (ix := 5) (t := 24) (pc' := 8) rfl rfl rfl (fun hb5 => ?_) (fun hb5 => ?_)
  · have hb5 : (-x).toInt < (Int32.ofInt 1).toInt := hb5
    exfalso; first | omega | exact absurd hb5 (by decide +kernel)
  · have hb5 : ¬ ((-x).toInt < (Int32.ofInt 1).toInt) := hb5
    refine ex_iload_n cg_175 (ix := 6) (pc' := 9) rfl rfl rfl ?_
    refine ex_bipush cg_175 (ix := 7) (pc' := 11) rfl rfl rfl ?_
    refine ex_icmp cg_175 (ix := 8) (t := 24) (pc' := 14) rfl rfl rfl (fun hb11 => ?_) (fun hb11 => ?_)
    · have hb11 : (Int32.ofInt 6).toInt < (-x).toInt := hb11
      exfalso; first | omega | exact absurd hb11 (by decide +kernel)
    · have hb11 : ¬ ((Int32.ofInt 6).toInt < (-x).toInt) := hb11
      refine ex_aload_n cg_175 (ix := 9) (pc' := 15) rfl rfl rfl ?_
      refine ex_getfield cg_175 (ix := 10) (pc' := 18) rfl rfl rfl rfl rfl ?_
      refine ex_iload_n cg_175 (ix := 11) (pc' := 19) rfl rfl rfl ?_
      refine ex_dup2 cg_175 (ix := 12) (pc' := 20) rfl rfl rfl rfl ?_
      refine ex_iaload cg_175 (ix := 13) (pc' := 21) rfl rfl (by omega) (by omega) rfl ?_
      refine ex_iconst cg_175 (ix := 14) (pc' := 22) rfl rfl ?_
      refine ex_iadd cg_175 (ix := 15) (pc' := 23) rfl rfl ?_
      refine ex_iastore cg_175 (ix := 16) (pc' := 24) (h' := [(0, .inl (10, [.inr (.inl 1), .inr (.inl 2), .inr (.inl 15), .inr (.inl 21), .inr (.inl 43), .inr (.inl 68), .inr (.inl 77), .inr (.inl 87), .inr (.inl 101), .inr (.inl 107), .inr (.inl 113), .inl (.int dy)])), (1, .inr (.inl (0, 7, upd r (-x).toNatClampNeg ((r (-x).toNatClampNeg) + (Int32.ofInt 1)))))]) rfl rfl (by omega) (by omega) rfl rfl ?_
      refine ex_iload_n cg_175 (ix := 17) (pc' := 25) rfl rfl rfl ?_
      refine ex_ireturn cg_175 (ix := 18) rfl ?_
      exact ⟨rfl, _, rfl⟩
theorem ct_min {x a b : Int32} : cx_Ct 2 180 [.inl (.int x), .inl (.int a), .inl (.int b)] [] (fun v h2 => ∃ z : Int32, v = some (.inl (.int z)) ∧ h2 = [] ∧ ((a.toInt ≤ x.toInt ∧ x.toInt ≤ b.toInt) ∧ z = Int32.ofInt 1 ∨ ¬ (a.toInt ≤ x.toInt ∧ x.toInt ≤ b.toInt) ∧ z = Int32.ofInt 0)) := by
  have kc1 : (Int32.ofInt 1).toInt = 1 := by decide +kernel
  have kc0 : (Int32.ofInt 0).toInt = 0 := by decide +kernel
  refine cx_Ct.of cg_180 (nL := 3) rfl rfl rfl ?_
  show cx_T 2 180 [] 0 ([some (.inl (.int x)), some (.inl (.int a)), some (.inl (.int b))], [], []) _
  refine ex_iload_n cg_180 (ix := 0) (pc' := 1) rfl rfl rfl ?_
  refine ex_iload_n cg_180 (ix := 1) (pc' := 2) rfl rfl rfl ?_
  refine ex_icmp cg_180 (ix := 2) (t := 14) (pc' := 5) rfl rfl rfl (fun hb2 => ?_) (fun hb2 => ?_)
  · have hb2 : x.toInt < a.toInt := hb2
    refine ex_iconst cg_180 (ix := 8) (pc' := 15) rfl rfl ?_
    refine ex_zreturn cg_180 (ix := 9) rfl (by first | exact Or.inl rfl | exact Or.inr rfl | (first | exact Or.inr rfl | exact Or.inl rfl)) ?_
    exact ⟨_, rfl, rfl, Or.inr ⟨by omega, rfl⟩⟩
  · have hb2 : ¬ (x.toInt < a.toInt) := hb2
    refine ex_iload_n cg_180 (ix := 3) (pc' := 6) rfl rfl rfl ?_
    refine ex_iload_n cg_180 (ix := 4) (pc' := 7) rfl rfl rfl ?_
    refine ex_icmp cg_180 (ix := 5) (t := 14) (pc' := 10) rfl rfl rfl (fun hb7 => ?_) (fun hb7 => ?_)
    · have hb7 : b.toInt < x.toInt := hb7
      refine ex_iconst cg_180 (ix := 8) (pc' := 15) rfl rfl ?_
      refine ex_zreturn cg_180 (ix := 9) rfl (by first | exact Or.inl rfl | exact Or.inr rfl | (first | exact Or.inr rfl | exact Or.inl rfl)) ?_
      exact ⟨_, rfl, rfl, Or.inr ⟨by omega, rfl⟩⟩
    · have hb7 : ¬ (b.toInt < x.toInt) := hb7
      refine ex_iconst cg_180 (ix := 6) (pc' := 11) rfl rfl ?_
      refine ex_goto cg_180 (ix := 7) (pc' := 15) rfl rfl ?_
      refine ex_zreturn cg_180 (ix := 9) rfl (by first | exact Or.inl rfl | exact Or.inr rfl | (first | exact Or.inr rfl | exact Or.inl rfl)) ?_
      exact ⟨_, rfl, rfl, Or.inl ⟨by omega, rfl⟩⟩
theorem ct_mbeach {x : Int32} : cx_Ct 3 183 [.inl (.int x)] [] (fun v h2 => ∃ z : Int32, v = some (.inl (.int z)) ∧ h2 = [] ∧ ((0 ≤ x.toInt ∧ x.toInt < 4) ∧ z = Int32.ofInt 1 ∨ ¬ (0 ≤ x.toInt ∧ x.toInt < 4) ∧ z = Int32.ofInt 0)) := by
  have kc0 : (Int32.ofInt 0).toInt = 0 := by decide +kernel
  have kc3 : (Int32.ofInt 3).toInt = 3 := by decide +kernel
  refine cx_Ct.of cg_183 (nL := 1) rfl rfl rfl ?_
  show cx_T 3 183 [] 0 ([some (.inl (.int x))], [], []) _
  refine ex_iload_n cg_183 (ix := 0) (pc' := 1) rfl rfl rfl ?_
  refine ex_iconst cg_183 (ix := 1) (pc' := 2) rfl rfl ?_
  refine ex_iconst cg_183 (ix := 2) (pc' := 3) rfl rfl ?_
  refine ex_callS cg_183 (ix := 3) (pc' := 6) (As := [.inl (.int x), .inl (.int (Int32.ofInt 0)), .inl (.int (Int32.ofInt 3))]) (r := []) rfl rfl rfl (ct_min (x := x) (a := Int32.ofInt 0) (b := Int32.ofInt 3)) (by first | decide | omega) rfl rfl trivial rfl rfl (fun v h2 hq => ?_)
  obtain ⟨z, rfl, rfl, hz⟩ := hq
  rcases hz with ⟨hz, rfl⟩ | ⟨hz, rfl⟩
  · show cx_T _ 183 _ 6 ([some (.inl (.int x))], [.inl (.int (Int32.ofInt 1))], []) _
    refine ex_zreturn cg_183 (ix := 4) rfl (by first | exact Or.inl rfl | exact Or.inr rfl | (first | exact Or.inr rfl | exact Or.inl rfl)) ?_
    exact ⟨_, rfl, rfl, Or.inl ⟨by omega, rfl⟩⟩
  · show cx_T _ 183 _ 6 ([some (.inl (.int x))], [.inl (.int (Int32.ofInt 0))], []) _
    refine ex_zreturn cg_183 (ix := 4) rfl (by first | exact Or.inl rfl | exact Or.inr rfl | (first | exact Or.inr rfl | exact Or.inl rfl)) ?_
    exact ⟨_, rfl, rfl, Or.inr ⟨by omega, rfl⟩⟩
theorem ct_mcell {x : Int32} : cx_Ct 3 184 [.inl (.int x)] [] (fun v h2 => ∃ z : Int32, v = some (.inl (.int z)) ∧ h2 = [] ∧ ((0 ≤ x.toInt ∧ x.toInt < 24) ∧ z = Int32.ofInt 1 ∨ ¬ (0 ≤ x.toInt ∧ x.toInt < 24) ∧ z = Int32.ofInt 0)) := by
  have kc0 : (Int32.ofInt 0).toInt = 0 := by decide +kernel
  have kc23 : (Int32.ofInt 23).toInt = 23 := by decide +kernel
  refine cx_Ct.of cg_184 (nL := 1) rfl rfl rfl ?_
  show cx_T 3 184 [] 0 ([some (.inl (.int x))], [], []) _
  refine ex_iload_n cg_184 (ix := 0) (pc' := 1) rfl rfl rfl ?_
  refine ex_iconst cg_184 (ix := 1) (pc' := 2) rfl rfl ?_
  refine ex_bipush cg_184 (ix := 2) (pc' := 4) rfl rfl rfl ?_
  refine ex_callS cg_184 (ix := 3) (pc' := 7) (As := [.inl (.int x), .inl (.int (Int32.ofInt 0)), .inl (.int (Int32.ofInt 23))]) (r := []) rfl rfl rfl (ct_min (x := x) (a := Int32.ofInt 0) (b := Int32.ofInt 23)) (by first | decide | omega) rfl rfl trivial rfl rfl (fun v h2 hq => ?_)
  obtain ⟨z, rfl, rfl, hz⟩ := hq
  rcases hz with ⟨hz, rfl⟩ | ⟨hz, rfl⟩
  · show cx_T _ 184 _ 7 ([some (.inl (.int x))], [.inl (.int (Int32.ofInt 1))], []) _
    refine ex_zreturn cg_184 (ix := 4) rfl (by first | exact Or.inl rfl | exact Or.inr rfl | (first | exact Or.inr rfl | exact Or.inl rfl)) ?_
    exact ⟨_, rfl, rfl, Or.inl ⟨by omega, rfl⟩⟩
  · show cx_T _ 184 _ 7 ([some (.inl (.int x))], [.inl (.int (Int32.ofInt 0))], []) _
    refine ex_zreturn cg_184 (ix := 4) rfl (by first | exact Or.inl rfl | exact Or.inr rfl | (first | exact Or.inr rfl | exact Or.inl rfl)) ?_
    exact ⟨_, rfl, rfl, Or.inr ⟨by omega, rfl⟩⟩
def vs_119 (mi : Nat → Int32) (ml : Nat → Int64) : List cx_V := [.inl (.int (mi 0)), .inl (.int (mi 1)), .inr (.inl 120), .inr (.inl 121), .inr (.inl 122), .inr (.inl 123), .inr (.inl 124), .inr (.inl 125), .inl (.int (mi 8)), .inr (.inl 126), .inl (.int (mi 10)), .inl (.int (mi 11)), .inl (.int (mi 12)), .inr (.inl 127), .inr (.inl 128), .inr (.inl 129), .inr (.inl 130), .inr (.inl 131), .inr (.inl 132), .inr (.inl 133), .inr (.inl 134), .inl (.int (mi 21)), .inl (.int (mi 22)), .inl (.int (mi 23)), .inl (.int (mi 24)), .inr (.inl 135), .inl (.int (mi 26)), .inl (.int (mi 27)), .inr (.inl 136), .inl (.int (mi 29)), .inl (.int (mi 30)), .inl (.int (mi 31)), .inr (.inl 137), .inr (.inl 138), .inr (.inl 139), .inr (.inl 140), .inr (.inl 141), .inr (.inl 142), .inr (.inl 143), .inr (.inl 144), .inr (.inl 145), .inl (.int (mi 41)), .inl (.int (mi 42)), .inl (.int (mi 43)), .inl (.int (mi 44)), .inl (.int (mi 45)), .inr (.inl 146), .inr (.inl 147), .inr (.inl 148), .inl (.long (ml 49)), .inl (.long (ml 50)), .inr (.inl 149), .inr (.inl 150), .inr (.inl 151), .inr (.inl 152), .inl (.int (mi 55)), .inr (.inl 153), .inr (.inl 154), .inr (.inl 155), .inr (.inl 156), .inr (.inl 157), .inl (.int (mi 61)), .inr (.inl 158), .inr (.inl 159), .inr (.inl 160), .inr (.inl 161), .inr (.inl 162), .inr (.inl 163)]
def upi (m : Nat → Int32) (k : Nat) (x : Int32) : Nat → Int32 := fun i => bif Nat.beq i k then x else m i
def h_mr (mi : Nat → Int32) (ml : Nat → Int64) (r : Nat → Int32) : cx_H := [(119, .inl (11, vs_119 mi ml)), (126, .inr (.inl (0, 7, r)))]
theorem ct_mref {x : Int32} {mi : Nat → Int32} {ml : Nat → Int64} {r : Nat → Int32} (h1 : -6 ≤ x.toInt) (h2 : x.toInt ≤ -1) : cx_Ct 2 181 [.inr (.inl 119), .inl (.int x)] (h_mr mi ml r) (fun v h2 => v = some (.inl (.int x)) ∧ ∃ r2, h2 = h_mr mi ml r2) := by
  have kc1 : (Int32.ofInt 1).toInt = 1 := by decide +kernel
  have hng : (-x).toInt = - x.toInt := cx_negc (by omega)
  refine cx_Ct.of cg_181 (nL := 2) rfl rfl rfl ?_
  show cx_T 2 181 [119, 126] 0 ([some (.inr (.inl 119)), some (.inl (.int x))], [], (h_mr mi ml r)) _
  refine ex_aload_n cg_181 (ix := 0) (pc' := 1) rfl rfl rfl ?_
  refine ex_getfield cg_181 (ix := 1) (pc' := 4) (v := .inr (.inl 126)) rfl rfl rfl rfl rfl ?_
  refine ex_iload_n cg_181 (ix := 2) (pc' := 5) rfl rfl rfl ?_
  refine ex_ineg cg_181 (ix := 3) (pc' := 6) rfl rfl ?_
  refine ex_dup2 cg_181 (ix := 4) (pc' := 7) rfl rfl rfl rfl ?_
  refine ex_iaload cg_181 (ix := 5) (pc' := 8) rfl rfl (by omega) (by omega) rfl ?_
  refine ex_iconst cg_181 (ix := 6) (pc' := 9) rfl rfl ?_
  refine ex_iadd cg_181 (ix := 7) (pc' := 10) rfl rfl ?_
  refine ex_iastore cg_181 (ix := 8) (pc' := 11) (h' := [(119, .inl (11, vs_119 mi ml)), (126, .inr (.inl (0, 7, upd r (-x).toNatClampNeg ((r (-x).toNatClampNeg) + (Int32.ofInt 1)))))]) rfl rfl (by omega) (by omega) rfl rfl ?_
  refine ex_iload_n cg_181 (ix := 9) (pc' := 12) rfl rfl rfl ?_
  refine ex_ireturn cg_181 (ix := 10) rfl ?_
  exact ⟨rfl, _, rfl⟩
end
