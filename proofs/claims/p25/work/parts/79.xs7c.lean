noncomputable section
theorem cg_77 : cx_G 77 tb_77 TbX6 none := cx_G.of gok_77
theorem cg_78 : cx_G 78 tb_78 TbX6 none := cx_G.of gok_78
theorem cg_79 : cx_G 79 tb_79 TbX6 (some .int) := cx_G.of gok_79
theorem cg_80 : cx_G 80 tb_80 TbX6 (some .int) := cx_G.of gok_80
theorem cg_174 : cx_G 174 tb_174 TbX10 (some .int) := cx_G.of gok_174
theorem cg_151 : cx_G 151 tb_151 TbX10 (some .int) := cx_G.of gok_151
theorem cg_152 : cx_G 152 tb_152 TbX10 (some .int) := cx_G.of gok_152
theorem tl_1_1 {dl ds dr md bo q from_ : Int32} {fnd : Int64} {pre : List Nat} {acc : Int64 × List Nat} {bf : Int64} {g a0 a1 a2 : Nat → Int64} {tr b : Nat → Int32} (hbf : bf = acc.1) (hok : okM 1 acc b) (htr : (∀ j : Nat, j < 1 → ∀ w : Nat, pre[j]? = some w → (tr j).toInt = (w : Int))) (hpl : pre.length = 1) : cx_Ct 2 78 [.inr (.inl 77), .inl (.int (Int32.ofInt 1)), .inl (.int (Int32.ofInt 1)), .inl (.int q), .inl (.int from_), .inl (.long fnd)] ([(77, .inl (6, [.inr (.inl 78), .inr (.inl 79), .inr (.inl 80), .inr (.inl 81), .inr (.inl 85), .inr (.inl 86), .inl (.long bf), .inl (.int dl), .inl (.int ds), .inl (.int dr), .inl (.int md), .inl (.int bo)])), (80, .inr (.inr (.inl (32, g)))), (81, .inr (.inr (.inr (4, [82, 83, 84])))), (82, .inr (.inr (.inl (32, a0)))), (83, .inr (.inr (.inl (32, a1)))), (84, .inr (.inr (.inl (32, a2)))), (85, .inr (.inl (0, 3, tr))), (86, .inr (.inl (0, 3, b)))]) (fun v h2 => ∃ (bf2 : Int64) (g2 a2x : Nat → Int64) (tr2 b2 : Nat → Int32), v = none ∧ h2 = [(77, .inl (6, [.inr (.inl 78), .inr (.inl 79), .inr (.inl 80), .inr (.inl 81), .inr (.inl 85), .inr (.inl 86), .inl (.long bf2), .inl (.int dl), .inl (.int ds), .inl (.int dr), .inl (.int md), .inl (.int bo)])), (80, .inr (.inr (.inl (32, g2)))), (81, .inr (.inr (.inr (4, [82, 83, 84])))), (82, .inr (.inr (.inl (32, a0)))), (83, .inr (.inr (.inl (32, a1)))), (84, .inr (.inr (.inl (32, a2x)))), (85, .inr (.inl (0, 3, tr2))), (86, .inr (.inl (0, 3, b2)))] ∧ bf2 = (stX acc fnd pre).1 ∧ okM 1 (stX acc fnd pre) b2 ∧ (∀ j : Nat, j < 1 → ∀ w : Nat, pre[j]? = some w → (tr2 j).toInt = (w : Int))) := by
  have hbf2 : bf.toInt = acc.1.toInt := by rw [hbf]
  have kc0 : (Int32.ofInt 0).toInt = 0 := by decide +kernel
  have kc1 : (Int32.ofInt 1).toInt = 1 := by decide +kernel
  have kc2 : (Int32.ofInt 2).toInt = 2 := by decide +kernel
  have kc3 : (Int32.ofInt 3).toInt = 3 := by decide +kernel
  have kc31 : (Int32.ofInt 31).toInt = 31 := by decide +kernel
  refine cx_Ct.of cg_78 (nL := 9) rfl rfl rfl ?_
  show cx_T 2 78 [77, 80, 81, 82, 83, 84, 85, 86] 0 ([some (.inr (.inl 77)), some (.inl (.int (Int32.ofInt 1))), some (.inl (.int (Int32.ofInt 1))), some (.inl (.int q)), some (.inl (.int from_)), some (.inl (.long fnd)), none, none, none], [], [(77, .inl (6, [.inr (.inl 78), .inr (.inl 79), .inr (.inl 80), .inr (.inl 81), .inr (.inl 85), .inr (.inl 86), .inl (.long bf), .inl (.int dl), .inl (.int ds), .inl (.int dr), .inl (.int md), .inl (.int bo)])), (80, .inr (.inr (.inl (32, g)))), (81, .inr (.inr (.inr (4, [82, 83, 84])))), (82, .inr (.inr (.inl (32, a0)))), (83, .inr (.inr (.inl (32, a1)))), (84, .inr (.inr (.inl (32, a2)))), (85, .inr (.inl (0, 3, tr))), (86, .inr (.inl (0, 3, b)))]) _
  refine ex_iload_n cg_78 (ix := 0) (pc' := 1) rfl rfl rfl ?_
  refine ex_iload_n cg_78 (ix := 1) (pc' := 2) rfl rfl rfl ?_
  refine ex_icmp cg_78 (ix := 2) (t := 10) (pc' := 5) rfl rfl rfl (fun hb2 => ?_) (fun hb2 => ?_)
  · have hb2 : (Int32.ofInt 1).toInt ≤ (Int32.ofInt 1).toInt := hb2
    refine ex_lload cg_78 (ix := 6) (pc' := 12) rfl rfl rfl ?_
    refine ex_aload_n cg_78 (ix := 7) (pc' := 13) rfl rfl rfl ?_
    refine ex_getfield cg_78 (ix := 8) (pc' := 16) rfl rfl rfl rfl rfl ?_
    refine ex_lcmp cg_78 (ix := 9) (pc' := 17) rfl rfl ?_
    have hlc16 := cx_cmp fnd bf
    refine ex_if cg_78 (ix := 10) (t := 40) (pc' := 20) rfl rfl rfl (fun hb17 => ?_) (fun hb17 => ?_)
    · have hb17 : (lg_cmp fnd bf).toInt ≤ 0 := hb17
      refine ex_return_ cg_78 (ix := 22) rfl ?_
      refine ⟨bf, g, a2, tr, b, rfl, rfl, ?_, ?_, htr⟩
      · unfold stX; rw [if_neg (by omega)]; exact hbf
      · unfold stX; rw [if_neg (by omega)]; exact hok
    · have hb17 : ¬ ((lg_cmp fnd bf).toInt ≤ 0) := hb17
      refine ex_aload_n cg_78 (ix := 11) (pc' := 21) rfl rfl rfl ?_
      refine ex_lload cg_78 (ix := 12) (pc' := 23) rfl rfl rfl ?_
      refine ex_putfield cg_78 (ix := 13) (pc' := 26) (h' := [(77, .inl (6, [.inr (.inl 78), .inr (.inl 79), .inr (.inl 80), .inr (.inl 81), .inr (.inl 85), .inr (.inl 86), .inl (.long fnd), .inl (.int dl), .inl (.int ds), .inl (.int dr), .inl (.int md), .inl (.int bo)])), (80, .inr (.inr (.inl (32, g)))), (81, .inr (.inr (.inr (4, [82, 83, 84])))), (82, .inr (.inr (.inl (32, a0)))), (83, .inr (.inr (.inl (32, a1)))), (84, .inr (.inr (.inl (32, a2)))), (85, .inr (.inl (0, 3, tr))), (86, .inr (.inl (0, 3, b)))]) rfl rfl rfl rfl rfl rfl rfl rfl ?_
      refine ex_aload_n cg_78 (ix := 14) (pc' := 27) rfl rfl rfl ?_
      refine ex_getfield cg_78 (ix := 15) (pc' := 30) rfl rfl rfl rfl rfl ?_
      refine ex_iconst cg_78 (ix := 16) (pc' := 31) rfl rfl ?_
      refine ex_aload_n cg_78 (ix := 17) (pc' := 32) rfl rfl rfl ?_
      refine ex_getfield cg_78 (ix := 18) (pc' := 35) rfl rfl rfl rfl rfl ?_
      refine ex_iconst cg_78 (ix := 19) (pc' := 36) rfl rfl ?_
      refine ex_iconst cg_78 (ix := 20) (pc' := 37) rfl rfl ?_
      refine ex_copyI cg_78 (ix := 21) (pc' := 40) (h' := [(77, .inl (6, [.inr (.inl 78), .inr (.inl 79), .inr (.inl 80), .inr (.inl 81), .inr (.inl 85), .inr (.inl 86), .inl (.long fnd), .inl (.int dl), .inl (.int ds), .inl (.int dr), .inl (.int md), .inl (.int bo)])), (80, .inr (.inr (.inl (32, g)))), (81, .inr (.inr (.inr (4, [82, 83, 84])))), (82, .inr (.inr (.inl (32, a0)))), (83, .inr (.inr (.inl (32, a1)))), (84, .inr (.inr (.inl (32, a2)))), (85, .inr (.inl (0, 3, tr))), (86, .inr (.inl (0, 3, va_cpy tr b 0 0 (Int32.ofInt 3).toNatClampNeg)))]) rfl rfl (by first | decide | omega) rfl rfl rfl (by decide +kernel) (by decide +kernel) (by decide +kernel) rfl rfl ?_
      refine ex_return_ cg_78 (ix := 22) rfl ?_
      refine ⟨_, g, a2, tr, _, rfl, rfl, ?_, ?_, htr⟩
      · unfold stX; rw [if_pos (by omega)]
      · unfold stX; rw [if_pos (by omega)]
        intro j hj w hw
        have e1 : va_cpy tr b 0 0 (Int32.ofInt 3).toNatClampNeg j = tr j := by
          unfold va_cpy
          rw [if_pos ⟨Nat.zero_le _, by rw [show (Int32.ofInt 3).toNatClampNeg = 3 by decide +kernel]; omega⟩, Nat.zero_add, Nat.sub_zero]
        rw [e1]
        exact htr j hj w hw
  · have hb2 : ¬ ((Int32.ofInt 1).toInt ≤ (Int32.ofInt 1).toInt) := hb2
    exfalso; first | omega | exact absurd hb2 (by decide +kernel)
theorem tp_1_0 {d : Nat} {dl ds dr md bo q from_ : Int32} {fnd : Int64} {pre : List Nat} {last : Int32} {N1 : Nat} {a0 : Nat → Int64} {accF : Int64 × List Nat} {P : Option cx_V → cx_H → Prop} (hd : 3 ≤ d) (hN1 : N1 ≤ 32) (hlast : last.toInt + 1 = (N1 : Int)) (hpl : pre.length = 0) (hP : ∀ (bf : Int64) (g a1 a2 : Nat → Int64) (tr b : Nat → Int32), bf = accF.1 → okM 1 accF b → (∀ j : Nat, j < 0 → ∀ w : Nat, pre[j]? = some w → (tr j).toInt = (w : Int)) → P none ([(77, .inl (6, [.inr (.inl 78), .inr (.inl 79), .inr (.inl 80), .inr (.inl 81), .inr (.inl 85), .inr (.inl 86), .inl (.long bf), .inl (.int dl), .inl (.int ds), .inl (.int dr), .inl (.int md), .inl (.int bo)])), (80, .inr (.inr (.inl (32, g)))), (81, .inr (.inr (.inr (4, [82, 83, 84])))), (82, .inr (.inr (.inl (32, a0)))), (83, .inr (.inr (.inl (32, a1)))), (84, .inr (.inr (.inl (32, a2)))), (85, .inr (.inl (0, 3, tr))), (86, .inr (.inl (0, 3, b)))])) :
    ∀ m_ k : Nat, k + m_ = N1 → ∀ i : Int32, i.toInt = (k : Int) → ∀ (bf : Int64) (g a1 a2 : Nat → Int64) (tr b : Nat → Int32) (acc : Int64 × List Nat), bf = acc.1 → okM 1 acc b → (∀ j : Nat, j < 0 → ∀ w : Nat, pre[j]? = some w → (tr j).toInt = (w : Int)) → (List.range' k m_).foldl (fun acc pl => tP dl ds dr q 0 pl (nxP dl ds dr q a0 pl) (fnd * Int64.ofInt 32 + q.toInt64 * a0 pl) (pre ++ [pl]) acc) acc = accF → cx_T d 78 [77, 80, 81, 82, 83, 84, 85, 86] 62 ([some (.inr (.inl 77)), some (.inl (.int (Int32.ofInt 0))), some (.inl (.int (Int32.ofInt 1))), some (.inl (.int q)), some (.inl (.int from_)), some (.inl (.long fnd)), none, some (.inl (.int last)), some (.inl (.int i))], [], [(77, .inl (6, [.inr (.inl 78), .inr (.inl 79), .inr (.inl 80), .inr (.inl 81), .inr (.inl 85), .inr (.inl 86), .inl (.long bf), .inl (.int dl), .inl (.int ds), .inl (.int dr), .inl (.int md), .inl (.int bo)])), (80, .inr (.inr (.inl (32, g)))), (81, .inr (.inr (.inr (4, [82, 83, 84])))), (82, .inr (.inr (.inl (32, a0)))), (83, .inr (.inr (.inl (32, a1)))), (84, .inr (.inr (.inl (32, a2)))), (85, .inr (.inl (0, 3, tr))), (86, .inr (.inl (0, 3, b)))]) P := by
  have kc0 : (Int32.ofInt 0).toInt = 0 := by decide +kernel
  have kc1 : (Int32.ofInt 1).toInt = 1 := by decide +kernel
  have kc2 : (Int32.ofInt 2).toInt = 2 := by decide +kernel
  have kc3 : (Int32.ofInt 3).toInt = 3 := by decide +kernel
  have kc31 : (Int32.ofInt 31).toInt = 31 := by decide +kernel
  intro m_
  induction m_ with
  | zero =>
    intro k hk i hi bf g a1 a2 tr b acc hbf hok htr hacc
    refine ex_iload cg_78 (ix := 35) (pc' := 64) rfl rfl rfl ?_
    refine ex_iload cg_78 (ix := 36) (pc' := 66) rfl rfl rfl ?_
    refine ex_icmp cg_78 (ix := 37) (t := 152) (pc' := 69) rfl rfl rfl (fun hb66 => ?_) (fun hb66 => ?_)
    · have hb66 : last.toInt < i.toInt := hb66
      refine ex_return_ cg_78 (ix := 92) rfl ?_
      have hacc : acc = accF := hacc
      subst hacc
      exact hP _ _ _ _ _ _ hbf hok htr
    · have hb66 : ¬ (last.toInt < i.toInt) := hb66
      exfalso; first | omega | exact absurd hb66 (by decide +kernel)
  | succ m_ ih =>
    intro k hk i hi bf g a1 a2 tr b acc hbf hok htr hacc
    have hik : i.toNatClampNeg = k := cx_clamp hi
    have hk32 : k < 32 := by omega
    have hst : (Int32.ofInt 0).toNatClampNeg = 0 := by decide +kernel
    have htr3 : ∀ j : Nat, j < 1 → ∀ w : Nat, (pre ++ [k])[j]? = some w → (upd tr (Int32.ofInt 0).toNatClampNeg i j).toInt = (w : Int) := fun j hj w hw => by
      unfold upd
      rw [hst]
      by_cases q1 : j = 0
      · rw [if_pos q1]
        rw [q1, List.getElem?_append_right (by omega), hpl] at hw
        have hw : k = w := Option.some.inj hw
        omega
      · rw [if_neg q1]
        rw [List.getElem?_append_left (by omega)] at hw
        exact htr j (by omega) w hw
    refine ex_iload cg_78 (ix := 35) (pc' := 64) rfl rfl rfl ?_
    refine ex_iload cg_78 (ix := 36) (pc' := 66) rfl rfl rfl ?_
    refine ex_icmp cg_78 (ix := 37) (t := 152) (pc' := 69) rfl rfl rfl (fun hb66 => ?_) (fun hb66 => ?_)
    · have hb66 : last.toInt < i.toInt := hb66
      exfalso; first | omega | exact absurd hb66 (by decide +kernel)
    · have hb66 : ¬ (last.toInt < i.toInt) := hb66
      refine ex_aload_n cg_78 (ix := 38) (pc' := 70) rfl rfl rfl ?_
      refine ex_getfield cg_78 (ix := 39) (pc' := 73) rfl rfl rfl rfl rfl ?_
      refine ex_iload_n cg_78 (ix := 40) (pc' := 74) rfl rfl rfl ?_
      refine ex_iload cg_78 (ix := 41) (pc' := 76) rfl rfl rfl ?_
      refine ex_iastore cg_78 (ix := 42) (pc' := 77) (h' := [(77, .inl (6, [.inr (.inl 78), .inr (.inl 79), .inr (.inl 80), .inr (.inl 81), .inr (.inl 85), .inr (.inl 86), .inl (.long bf), .inl (.int dl), .inl (.int ds), .inl (.int dr), .inl (.int md), .inl (.int bo)])), (80, .inr (.inr (.inl (32, g)))), (81, .inr (.inr (.inr (4, [82, 83, 84])))), (82, .inr (.inr (.inl (32, a0)))), (83, .inr (.inr (.inl (32, a1)))), (84, .inr (.inr (.inl (32, a2)))), (85, .inr (.inl (0, 3, upd tr (Int32.ofInt 0).toNatClampNeg i))), (86, .inr (.inl (0, 3, b)))]) rfl rfl (by omega) (by omega) rfl rfl ?_
      refine ex_iload_n cg_78 (ix := 43) (pc' := 78) rfl rfl rfl ?_
      refine ex_iconst cg_78 (ix := 44) (pc' := 79) rfl rfl ?_
      refine ex_iadd cg_78 (ix := 45) (pc' := 80) rfl rfl ?_
      rw [show (Int32.ofInt 0) + (Int32.ofInt 1) = Int32.ofInt 1 by decide +kernel]
      refine ex_iload_n cg_78 (ix := 46) (pc' := 81) rfl rfl rfl ?_
      refine ex_icmp cg_78 (ix := 47) (t := 116) (pc' := 84) rfl rfl rfl (fun hb81 => ?_) (fun hb81 => ?_)
      · have hb81 : (Int32.ofInt 1).toInt ≤ (Int32.ofInt 1).toInt := hb81
        refine ex_aload_n cg_78 (ix := 69) (pc' := 117) rfl rfl rfl ?_
        refine ex_iload_n cg_78 (ix := 70) (pc' := 118) rfl rfl rfl ?_
        refine ex_iconst cg_78 (ix := 71) (pc' := 119) rfl rfl ?_
        refine ex_iadd cg_78 (ix := 72) (pc' := 120) rfl rfl ?_
        rw [show (Int32.ofInt 0) + (Int32.ofInt 1) = Int32.ofInt 1 by decide +kernel]
        refine ex_iload_n cg_78 (ix := 73) (pc' := 121) rfl rfl rfl ?_
        refine ex_iload_n cg_78 (ix := 74) (pc' := 122) rfl rfl rfl ?_
        refine ex_iload cg_78 (ix := 75) (pc' := 124) rfl rfl rfl ?_
        refine ex_lload cg_78 (ix := 76) (pc' := 126) rfl rfl rfl ?_
        refine ex_ldc2_w cg_78 (ix := 77) (pc' := 129) rfl rfl rfl ?_
        refine ex_lmul cg_78 (ix := 78) (pc' := 130) rfl rfl ?_
        refine ex_iload_n cg_78 (ix := 79) (pc' := 131) rfl rfl rfl ?_
        refine ex_i2l cg_78 (ix := 80) (pc' := 132) rfl rfl ?_
        refine ex_aload_n cg_78 (ix := 81) (pc' := 133) rfl rfl rfl ?_
        refine ex_getfield cg_78 (ix := 82) (pc' := 136) rfl rfl rfl rfl rfl ?_
        refine ex_iload_n cg_78 (ix := 83) (pc' := 137) rfl rfl rfl ?_
        refine ex_aaload cg_78 (ix := 84) (pc' := 138) (k1 := 82) rfl rfl (by decide +kernel) (by decide +kernel) rfl ?_
        refine ex_iload cg_78 (ix := 85) (pc' := 140) rfl rfl rfl ?_
        refine ex_laload cg_78 (ix := 86) (pc' := 141) rfl rfl (by omega) (by omega) rfl ?_
        refine ex_lmul cg_78 (ix := 87) (pc' := 142) rfl rfl ?_
        refine ex_ladd cg_78 (ix := 88) (pc' := 143) rfl rfl ?_
        refine ex_callV cg_78 (ix := 89) (pc' := 146) (As := [.inl (.int (Int32.ofInt 1)), .inl (.int (Int32.ofInt 1)), .inl (.int q), .inl (.int i), .inl (.long ((fnd * (Int64.ofInt 32)) + ((Int32.toInt64 q) * (a0 i.toNatClampNeg))))]) (r := []) rfl rfl rfl (tl_1_1 (dl := dl) (ds := ds) (dr := dr) (md := md) (bo := bo) (q := q) (from_ := i) (fnd := (fnd * (Int64.ofInt 32)) + ((Int32.toInt64 q) * (a0 i.toNatClampNeg))) (pre := pre ++ [k]) (acc := acc) (bf := bf) (g := g) (a0 := a0) (a1 := a1) (a2 := a2) (tr := upd tr (Int32.ofInt 0).toNatClampNeg i) (b := b) hbf hok htr3 (by rw [List.length_append, hpl]; rfl)) (by first | decide | omega) rfl rfl rfl ⟨rfl, rfl, rfl, rfl, rfl, rfl, rfl, rfl, trivial⟩ rfl rfl (fun v h2 hq => ?_)
        obtain ⟨bf2, g2, a2x, tr2, b2, rfl, rfl, hbf2, hok2, htr2⟩ := hq
        show cx_T _ 78 _ 146 ([some (.inr (.inl 77)), some (.inl (.int (Int32.ofInt 0))), some (.inl (.int (Int32.ofInt 1))), some (.inl (.int q)), some (.inl (.int from_)), some (.inl (.long fnd)), none, some (.inl (.int last)), some (.inl (.int i))], [], [(77, .inl (6, [.inr (.inl 78), .inr (.inl 79), .inr (.inl 80), .inr (.inl 81), .inr (.inl 85), .inr (.inl 86), .inl (.long bf2), .inl (.int dl), .inl (.int ds), .inl (.int dr), .inl (.int md), .inl (.int bo)])), (80, .inr (.inr (.inl (32, g2)))), (81, .inr (.inr (.inr (4, [82, 83, 84])))), (82, .inr (.inr (.inl (32, a0)))), (83, .inr (.inr (.inl (32, a1)))), (84, .inr (.inr (.inl (32, a2x)))), (85, .inr (.inl (0, 3, tr2))), (86, .inr (.inl (0, 3, b2)))]) _
        refine ex_iinc cg_78 (ix := 90) (pc' := 149) (L' := [some (.inr (.inl 77)), some (.inl (.int (Int32.ofInt 0))), some (.inl (.int (Int32.ofInt 1))), some (.inl (.int q)), some (.inl (.int from_)), some (.inl (.long fnd)), none, some (.inl (.int last)), some (.inl (.int (i + Int32.ofInt 1)))]) rfl rfl rfl rfl rfl ?_
        refine ex_goto cg_78 (ix := 91) (pc' := 62) rfl rfl ?_
        have e7 : a0 i.toNatClampNeg = a0 k := by rw [hik]
        rw [e7] at hbf2 hok2
        refine ih (k + 1) (by omega) _ (by rw [cx_addc (by omega) (by omega)]; omega) _ _ _ _ _ _ _ hbf2 hok2 (fun j hj w hw => htr2 j (by omega) w ?_) ?_
        · rw [List.getElem?_append_left (by omega)]; exact hw
        · rw [← hacc, List.range'_succ, List.foldl_cons]
          rfl
      · have hb81 : ¬ ((Int32.ofInt 1).toInt ≤ (Int32.ofInt 1).toInt) := hb81
        exfalso; first | omega | exact absurd hb81 (by decide +kernel)
theorem tl_1_0 {dl ds dr md bo q from_ : Int32} {fnd : Int64} {pre : List Nat} {acc : Int64 × List Nat} {bf : Int64} {g a0 a1 a2 : Nat → Int64} {tr b : Nat → Int32} {bN : Nat} (hfr : from_.toInt = (bN : Int)) (hb32 : bN < 32) (hbf : bf = acc.1) (hok : okM 1 acc b) (htr : (∀ j : Nat, j < 0 → ∀ w : Nat, pre[j]? = some w → (tr j).toInt = (w : Int))) (hpl : pre.length = 0) : cx_Ct 3 78 [.inr (.inl 77), .inl (.int (Int32.ofInt 0)), .inl (.int (Int32.ofInt 1)), .inl (.int q), .inl (.int from_), .inl (.long fnd)] ([(77, .inl (6, [.inr (.inl 78), .inr (.inl 79), .inr (.inl 80), .inr (.inl 81), .inr (.inl 85), .inr (.inl 86), .inl (.long bf), .inl (.int dl), .inl (.int ds), .inl (.int dr), .inl (.int md), .inl (.int bo)])), (80, .inr (.inr (.inl (32, g)))), (81, .inr (.inr (.inr (4, [82, 83, 84])))), (82, .inr (.inr (.inl (32, a0)))), (83, .inr (.inr (.inl (32, a1)))), (84, .inr (.inr (.inl (32, a2)))), (85, .inr (.inl (0, 3, tr))), (86, .inr (.inl (0, 3, b)))]) (fun v h2 => ∃ (bf2 : Int64) (g2 a1x a2x : Nat → Int64) (tr2 b2 : Nat → Int32), v = none ∧ h2 = [(77, .inl (6, [.inr (.inl 78), .inr (.inl 79), .inr (.inl 80), .inr (.inl 81), .inr (.inl 85), .inr (.inl 86), .inl (.long bf2), .inl (.int dl), .inl (.int ds), .inl (.int dr), .inl (.int md), .inl (.int bo)])), (80, .inr (.inr (.inl (32, g2)))), (81, .inr (.inr (.inr (4, [82, 83, 84])))), (82, .inr (.inr (.inl (32, a0)))), (83, .inr (.inr (.inl (32, a1x)))), (84, .inr (.inr (.inl (32, a2x)))), (85, .inr (.inl (0, 3, tr2))), (86, .inr (.inl (0, 3, b2)))] ∧ bf2 = (tP dl ds dr q 1 bN a0 fnd pre acc).1 ∧ okM 1 (tP dl ds dr q 1 bN a0 fnd pre acc) b2 ∧ (∀ j : Nat, j < 0 → ∀ w : Nat, pre[j]? = some w → (tr2 j).toInt = (w : Int))) := by
  have kc0 : (Int32.ofInt 0).toInt = 0 := by decide +kernel
  have kc1 : (Int32.ofInt 1).toInt = 1 := by decide +kernel
  have kc2 : (Int32.ofInt 2).toInt = 2 := by decide +kernel
  have kc3 : (Int32.ofInt 3).toInt = 3 := by decide +kernel
  have kc31 : (Int32.ofInt 31).toInt = 31 := by decide +kernel
  refine cx_Ct.of cg_78 (nL := 9) rfl rfl rfl ?_
  show cx_T 3 78 [77, 80, 81, 82, 83, 84, 85, 86] 0 ([some (.inr (.inl 77)), some (.inl (.int (Int32.ofInt 0))), some (.inl (.int (Int32.ofInt 1))), some (.inl (.int q)), some (.inl (.int from_)), some (.inl (.long fnd)), none, none, none], [], [(77, .inl (6, [.inr (.inl 78), .inr (.inl 79), .inr (.inl 80), .inr (.inl 81), .inr (.inl 85), .inr (.inl 86), .inl (.long bf), .inl (.int dl), .inl (.int ds), .inl (.int dr), .inl (.int md), .inl (.int bo)])), (80, .inr (.inr (.inl (32, g)))), (81, .inr (.inr (.inr (4, [82, 83, 84])))), (82, .inr (.inr (.inl (32, a0)))), (83, .inr (.inr (.inl (32, a1)))), (84, .inr (.inr (.inl (32, a2)))), (85, .inr (.inl (0, 3, tr))), (86, .inr (.inl (0, 3, b)))]) _
  refine ex_iload_n cg_78 (ix := 0) (pc' := 1) rfl rfl rfl ?_
  refine ex_iload_n cg_78 (ix := 1) (pc' := 2) rfl rfl rfl ?_
  refine ex_icmp cg_78 (ix := 2) (t := 10) (pc' := 5) rfl rfl rfl (fun hb2 => ?_) (fun hb2 => ?_)
  · have hb2 : (Int32.ofInt 1).toInt ≤ (Int32.ofInt 0).toInt := hb2
    exfalso; first | omega | exact absurd hb2 (by decide +kernel)
  · have hb2 : ¬ ((Int32.ofInt 1).toInt ≤ (Int32.ofInt 0).toInt) := hb2
    refine ex_iload_n cg_78 (ix := 3) (pc' := 6) rfl rfl rfl ?_
    refine ex_iconst cg_78 (ix := 4) (pc' := 7) rfl rfl ?_
    refine ex_icmp cg_78 (ix := 5) (t := 41) (pc' := 10) rfl rfl rfl (fun hb7 => ?_) (fun hb7 => ?_)
    · have hb7 : (Int32.ofInt 0).toInt < (Int32.ofInt 3).toInt := hb7
      refine ex_bipush cg_78 (ix := 23) (pc' := 43) rfl rfl rfl ?_
      refine ex_iload cg_78 (ix := 24) (pc' := 45) rfl rfl rfl ?_
      refine ex_iconst cg_78 (ix := 25) (pc' := 46) rfl rfl ?_
      refine ex_iadd cg_78 (ix := 26) (pc' := 47) rfl rfl ?_
      refine ex_min cg_78 (ix := 27) (pc' := 50) rfl rfl (by first | decide | omega) rfl rfl ?_
      refine ex_istore cg_78 (ix := 28) (pc' := 52) (L' := [some (.inr (.inl 77)), some (.inl (.int (Int32.ofInt 0))), some (.inl (.int (Int32.ofInt 1))), some (.inl (.int q)), some (.inl (.int from_)), some (.inl (.long fnd)), none, some (.inl (.int (if (from_ + (Int32.ofInt 3)) < (Int32.ofInt 31) then (from_ + (Int32.ofInt 3)) else (Int32.ofInt 31)))), none]) rfl rfl rfl rfl ?_
      refine ex_iconst cg_78 (ix := 29) (pc' := 53) rfl rfl ?_
      refine ex_iload cg_78 (ix := 30) (pc' := 55) rfl rfl rfl ?_
      refine ex_iconst cg_78 (ix := 31) (pc' := 56) rfl rfl ?_
      refine ex_isub cg_78 (ix := 32) (pc' := 57) rfl rfl ?_
      refine ex_max cg_78 (ix := 33) (pc' := 60) rfl rfl (by first | decide | omega) rfl rfl ?_
      refine ex_istore cg_78 (ix := 34) (pc' := 62) (L' := [some (.inr (.inl 77)), some (.inl (.int (Int32.ofInt 0))), some (.inl (.int (Int32.ofInt 1))), some (.inl (.int q)), some (.inl (.int from_)), some (.inl (.long fnd)), none, some (.inl (.int (if (from_ + (Int32.ofInt 3)) < (Int32.ofInt 31) then (from_ + (Int32.ofInt 3)) else (Int32.ofInt 31)))), some (.inl (.int (if (Int32.ofInt 0) < (from_ - (Int32.ofInt 3)) then (from_ - (Int32.ofInt 3)) else (Int32.ofInt 0))))]) rfl rfl rfl rfl ?_
      have e1 : (from_ + Int32.ofInt 3).toInt = (bN : Int) + 3 := by rw [cx_addc (by omega) (by omega)]; omega
      have e2 : (from_ - Int32.ofInt 3).toInt = (bN : Int) - 3 := by rw [cx_subc (by omega) (by omega)]; omega
      have e3 : (if (from_ + (Int32.ofInt 3)) < (Int32.ofInt 31) then (from_ + (Int32.ofInt 3)) else (Int32.ofInt 31) : Int32).toInt + 1 = ((min 31 (bN + 3) + 1 : Nat) : Int) := by
        by_cases q1 : (from_ + Int32.ofInt 3) < Int32.ofInt 31
        · rw [if_pos q1]; rw [Int32.lt_iff_toInt_lt] at q1; omega
        · rw [if_neg q1]; rw [Int32.lt_iff_toInt_lt] at q1; omega
      have e4 : (if (Int32.ofInt 0) < (from_ - (Int32.ofInt 3)) then (from_ - (Int32.ofInt 3)) else (Int32.ofInt 0) : Int32).toInt = ((bN - 3 : Nat) : Int) := by
        by_cases q1 : Int32.ofInt 0 < (from_ - Int32.ofInt 3)
        · rw [if_pos q1]; rw [Int32.lt_iff_toInt_lt] at q1; omega
        · rw [if_neg q1]; rw [Int32.lt_iff_toInt_lt] at q1; omega
      refine tp_1_0 (d := 3) (accF := tP dl ds dr q 1 bN a0 fnd pre acc) (by decide) (by omega) e3 hpl (fun bf2 g2 a1x a2x tr2 b2 h1 h2 h3 => ⟨bf2, g2, a1x, a2x, tr2, b2, rfl, rfl, h1, h2, h3⟩) (min 31 (bN + 3) + 1 - (bN - 3)) (bN - 3) (by omega) _ e4 bf g a1 a2 tr b acc hbf hok htr ?_
      rfl
    · have hb7 : ¬ ((Int32.ofInt 0).toInt < (Int32.ofInt 3).toInt) := hb7
      exfalso; first | omega | exact absurd hb7 (by decide +kernel)
theorem tl_2_2 {dl ds dr md bo q from_ : Int32} {fnd : Int64} {pre : List Nat} {acc : Int64 × List Nat} {bf : Int64} {g a0 a1 a2 : Nat → Int64} {tr b : Nat → Int32} (hbf : bf = acc.1) (hok : okM 2 acc b) (htr : (∀ j : Nat, j < 2 → ∀ w : Nat, pre[j]? = some w → (tr j).toInt = (w : Int))) (hpl : pre.length = 2) : cx_Ct 2 78 [.inr (.inl 77), .inl (.int (Int32.ofInt 2)), .inl (.int (Int32.ofInt 2)), .inl (.int q), .inl (.int from_), .inl (.long fnd)] ([(77, .inl (6, [.inr (.inl 78), .inr (.inl 79), .inr (.inl 80), .inr (.inl 81), .inr (.inl 85), .inr (.inl 86), .inl (.long bf), .inl (.int dl), .inl (.int ds), .inl (.int dr), .inl (.int md), .inl (.int bo)])), (80, .inr (.inr (.inl (32, g)))), (81, .inr (.inr (.inr (4, [82, 83, 84])))), (82, .inr (.inr (.inl (32, a0)))), (83, .inr (.inr (.inl (32, a1)))), (84, .inr (.inr (.inl (32, a2)))), (85, .inr (.inl (0, 3, tr))), (86, .inr (.inl (0, 3, b)))]) (fun v h2 => ∃ (bf2 : Int64) (g2 : Nat → Int64) (tr2 b2 : Nat → Int32), v = none ∧ h2 = [(77, .inl (6, [.inr (.inl 78), .inr (.inl 79), .inr (.inl 80), .inr (.inl 81), .inr (.inl 85), .inr (.inl 86), .inl (.long bf2), .inl (.int dl), .inl (.int ds), .inl (.int dr), .inl (.int md), .inl (.int bo)])), (80, .inr (.inr (.inl (32, g2)))), (81, .inr (.inr (.inr (4, [82, 83, 84])))), (82, .inr (.inr (.inl (32, a0)))), (83, .inr (.inr (.inl (32, a1)))), (84, .inr (.inr (.inl (32, a2)))), (85, .inr (.inl (0, 3, tr2))), (86, .inr (.inl (0, 3, b2)))] ∧ bf2 = (stX acc fnd pre).1 ∧ okM 2 (stX acc fnd pre) b2 ∧ (∀ j : Nat, j < 2 → ∀ w : Nat, pre[j]? = some w → (tr2 j).toInt = (w : Int))) := by
  have hbf2 : bf.toInt = acc.1.toInt := by rw [hbf]
  have kc0 : (Int32.ofInt 0).toInt = 0 := by decide +kernel
  have kc1 : (Int32.ofInt 1).toInt = 1 := by decide +kernel
  have kc2 : (Int32.ofInt 2).toInt = 2 := by decide +kernel
  have kc3 : (Int32.ofInt 3).toInt = 3 := by decide +kernel
  have kc31 : (Int32.ofInt 31).toInt = 31 := by decide +kernel
  refine cx_Ct.of cg_78 (nL := 9) rfl rfl rfl ?_
  show cx_T 2 78 [77, 80, 81, 82, 83, 84, 85, 86] 0 ([some (.inr (.inl 77)), some (.inl (.int (Int32.ofInt 2))), some (.inl (.int (Int32.ofInt 2))), some (.inl (.int q)), some (.inl (.int from_)), some (.inl (.long fnd)), none, none, none], [], [(77, .inl (6, [.inr (.inl 78), .inr (.inl 79), .inr (.inl 80), .inr (.inl 81), .inr (.inl 85), .inr (.inl 86), .inl (.long bf), .inl (.int dl), .inl (.int ds), .inl (.int dr), .inl (.int md), .inl (.int bo)])), (80, .inr (.inr (.inl (32, g)))), (81, .inr (.inr (.inr (4, [82, 83, 84])))), (82, .inr (.inr (.inl (32, a0)))), (83, .inr (.inr (.inl (32, a1)))), (84, .inr (.inr (.inl (32, a2)))), (85, .inr (.inl (0, 3, tr))), (86, .inr (.inl (0, 3, b)))]) _
  refine ex_iload_n cg_78 (ix := 0) (pc' := 1) rfl rfl rfl ?_
  refine ex_iload_n cg_78 (ix := 1) (pc' := 2) rfl rfl rfl ?_
  refine ex_icmp cg_78 (ix := 2) (t := 10) (pc' := 5) rfl rfl rfl (fun hb2 => ?_) (fun hb2 => ?_)
  · have hb2 : (Int32.ofInt 2).toInt ≤ (Int32.ofInt 2).toInt := hb2
    refine ex_lload cg_78 (ix := 6) (pc' := 12) rfl rfl rfl ?_
    refine ex_aload_n cg_78 (ix := 7) (pc' := 13) rfl rfl rfl ?_
    refine ex_getfield cg_78 (ix := 8) (pc' := 16) rfl rfl rfl rfl rfl ?_
    refine ex_lcmp cg_78 (ix := 9) (pc' := 17) rfl rfl ?_
    have hlc16 := cx_cmp fnd bf
    refine ex_if cg_78 (ix := 10) (t := 40) (pc' := 20) rfl rfl rfl (fun hb17 => ?_) (fun hb17 => ?_)
    · have hb17 : (lg_cmp fnd bf).toInt ≤ 0 := hb17
      refine ex_return_ cg_78 (ix := 22) rfl ?_
      refine ⟨bf, g, tr, b, rfl, rfl, ?_, ?_, htr⟩
      · unfold stX; rw [if_neg (by omega)]; exact hbf
      · unfold stX; rw [if_neg (by omega)]; exact hok
    · have hb17 : ¬ ((lg_cmp fnd bf).toInt ≤ 0) := hb17
      refine ex_aload_n cg_78 (ix := 11) (pc' := 21) rfl rfl rfl ?_
      refine ex_lload cg_78 (ix := 12) (pc' := 23) rfl rfl rfl ?_
      refine ex_putfield cg_78 (ix := 13) (pc' := 26) (h' := [(77, .inl (6, [.inr (.inl 78), .inr (.inl 79), .inr (.inl 80), .inr (.inl 81), .inr (.inl 85), .inr (.inl 86), .inl (.long fnd), .inl (.int dl), .inl (.int ds), .inl (.int dr), .inl (.int md), .inl (.int bo)])), (80, .inr (.inr (.inl (32, g)))), (81, .inr (.inr (.inr (4, [82, 83, 84])))), (82, .inr (.inr (.inl (32, a0)))), (83, .inr (.inr (.inl (32, a1)))), (84, .inr (.inr (.inl (32, a2)))), (85, .inr (.inl (0, 3, tr))), (86, .inr (.inl (0, 3, b)))]) rfl rfl rfl rfl rfl rfl rfl rfl ?_
      refine ex_aload_n cg_78 (ix := 14) (pc' := 27) rfl rfl rfl ?_
      refine ex_getfield cg_78 (ix := 15) (pc' := 30) rfl rfl rfl rfl rfl ?_
      refine ex_iconst cg_78 (ix := 16) (pc' := 31) rfl rfl ?_
      refine ex_aload_n cg_78 (ix := 17) (pc' := 32) rfl rfl rfl ?_
      refine ex_getfield cg_78 (ix := 18) (pc' := 35) rfl rfl rfl rfl rfl ?_
      refine ex_iconst cg_78 (ix := 19) (pc' := 36) rfl rfl ?_
      refine ex_iconst cg_78 (ix := 20) (pc' := 37) rfl rfl ?_
      refine ex_copyI cg_78 (ix := 21) (pc' := 40) (h' := [(77, .inl (6, [.inr (.inl 78), .inr (.inl 79), .inr (.inl 80), .inr (.inl 81), .inr (.inl 85), .inr (.inl 86), .inl (.long fnd), .inl (.int dl), .inl (.int ds), .inl (.int dr), .inl (.int md), .inl (.int bo)])), (80, .inr (.inr (.inl (32, g)))), (81, .inr (.inr (.inr (4, [82, 83, 84])))), (82, .inr (.inr (.inl (32, a0)))), (83, .inr (.inr (.inl (32, a1)))), (84, .inr (.inr (.inl (32, a2)))), (85, .inr (.inl (0, 3, tr))), (86, .inr (.inl (0, 3, va_cpy tr b 0 0 (Int32.ofInt 3).toNatClampNeg)))]) rfl rfl (by first | decide | omega) rfl rfl rfl (by decide +kernel) (by decide +kernel) (by decide +kernel) rfl rfl ?_
      refine ex_return_ cg_78 (ix := 22) rfl ?_
      refine ⟨_, g, tr, _, rfl, rfl, ?_, ?_, htr⟩
      · unfold stX; rw [if_pos (by omega)]
      · unfold stX; rw [if_pos (by omega)]
        intro j hj w hw
        have e1 : va_cpy tr b 0 0 (Int32.ofInt 3).toNatClampNeg j = tr j := by
          unfold va_cpy
          rw [if_pos ⟨Nat.zero_le _, by rw [show (Int32.ofInt 3).toNatClampNeg = 3 by decide +kernel]; omega⟩, Nat.zero_add, Nat.sub_zero]
        rw [e1]
        exact htr j hj w hw
  · have hb2 : ¬ ((Int32.ofInt 2).toInt ≤ (Int32.ofInt 2).toInt) := hb2
    exfalso; first | omega | exact absurd hb2 (by decide +kernel)
theorem tp_2_1 {d : Nat} {dl ds dr md bo q from_ : Int32} {fnd : Int64} {pre : List Nat} {last : Int32} {N1 : Nat} {a0 a1 : Nat → Int64} {accF : Int64 × List Nat} {P : Option cx_V → cx_H → Prop} (hd : 3 ≤ d) (hN1 : N1 ≤ 32) (hlast : last.toInt + 1 = (N1 : Int)) (hpl : pre.length = 1) (hP : ∀ (bf : Int64) (g a2 : Nat → Int64) (tr b : Nat → Int32), bf = accF.1 → okM 2 accF b → (∀ j : Nat, j < 1 → ∀ w : Nat, pre[j]? = some w → (tr j).toInt = (w : Int)) → P none ([(77, .inl (6, [.inr (.inl 78), .inr (.inl 79), .inr (.inl 80), .inr (.inl 81), .inr (.inl 85), .inr (.inl 86), .inl (.long bf), .inl (.int dl), .inl (.int ds), .inl (.int dr), .inl (.int md), .inl (.int bo)])), (80, .inr (.inr (.inl (32, g)))), (81, .inr (.inr (.inr (4, [82, 83, 84])))), (82, .inr (.inr (.inl (32, a0)))), (83, .inr (.inr (.inl (32, a1)))), (84, .inr (.inr (.inl (32, a2)))), (85, .inr (.inl (0, 3, tr))), (86, .inr (.inl (0, 3, b)))])) :
    ∀ m_ k : Nat, k + m_ = N1 → ∀ i : Int32, i.toInt = (k : Int) → ∀ (bf : Int64) (g a2 : Nat → Int64) (tr b : Nat → Int32) (acc : Int64 × List Nat), bf = acc.1 → okM 2 acc b → (∀ j : Nat, j < 1 → ∀ w : Nat, pre[j]? = some w → (tr j).toInt = (w : Int)) → (List.range' k m_).foldl (fun acc pl => tP dl ds dr q 0 pl (nxP dl ds dr q a1 pl) (fnd * Int64.ofInt 32 + q.toInt64 * a1 pl) (pre ++ [pl]) acc) acc = accF → cx_T d 78 [77, 80, 81, 82, 83, 84, 85, 86] 62 ([some (.inr (.inl 77)), some (.inl (.int (Int32.ofInt 1))), some (.inl (.int (Int32.ofInt 2))), some (.inl (.int q)), some (.inl (.int from_)), some (.inl (.long fnd)), none, some (.inl (.int last)), some (.inl (.int i))], [], [(77, .inl (6, [.inr (.inl 78), .inr (.inl 79), .inr (.inl 80), .inr (.inl 81), .inr (.inl 85), .inr (.inl 86), .inl (.long bf), .inl (.int dl), .inl (.int ds), .inl (.int dr), .inl (.int md), .inl (.int bo)])), (80, .inr (.inr (.inl (32, g)))), (81, .inr (.inr (.inr (4, [82, 83, 84])))), (82, .inr (.inr (.inl (32, a0)))), (83, .inr (.inr (.inl (32, a1)))), (84, .inr (.inr (.inl (32, a2)))), (85, .inr (.inl (0, 3, tr))), (86, .inr (.inl (0, 3, b)))]) P := by
  have kc0 : (Int32.ofInt 0).toInt = 0 := by decide +kernel
  have kc1 : (Int32.ofInt 1).toInt = 1 := by decide +kernel
  have kc2 : (Int32.ofInt 2).toInt = 2 := by decide +kernel
  have kc3 : (Int32.ofInt 3).toInt = 3 := by decide +kernel
  have kc31 : (Int32.ofInt 31).toInt = 31 := by decide +kernel
  intro m_
  induction m_ with
  | zero =>
    intro k hk i hi bf g a2 tr b acc hbf hok htr hacc
    refine ex_iload cg_78 (ix := 35) (pc' := 64) rfl rfl rfl ?_
    refine ex_iload cg_78 (ix := 36) (pc' := 66) rfl rfl rfl ?_
    refine ex_icmp cg_78 (ix := 37) (t := 152) (pc' := 69) rfl rfl rfl (fun hb66 => ?_) (fun hb66 => ?_)
    · have hb66 : last.toInt < i.toInt := hb66
      refine ex_return_ cg_78 (ix := 92) rfl ?_
      have hacc : acc = accF := hacc
      subst hacc
      exact hP _ _ _ _ _ hbf hok htr
    · have hb66 : ¬ (last.toInt < i.toInt) := hb66
      exfalso; first | omega | exact absurd hb66 (by decide +kernel)
  | succ m_ ih =>
    intro k hk i hi bf g a2 tr b acc hbf hok htr hacc
    have hik : i.toNatClampNeg = k := cx_clamp hi
    have hk32 : k < 32 := by omega
    have hst : (Int32.ofInt 1).toNatClampNeg = 1 := by decide +kernel
    have htr3 : ∀ j : Nat, j < 2 → ∀ w : Nat, (pre ++ [k])[j]? = some w → (upd tr (Int32.ofInt 1).toNatClampNeg i j).toInt = (w : Int) := fun j hj w hw => by
      unfold upd
      rw [hst]
      by_cases q1 : j = 1
      · rw [if_pos q1]
        rw [q1, List.getElem?_append_right (by omega), hpl] at hw
        have hw : k = w := Option.some.inj hw
        omega
      · rw [if_neg q1]
        rw [List.getElem?_append_left (by omega)] at hw
        exact htr j (by omega) w hw
    refine ex_iload cg_78 (ix := 35) (pc' := 64) rfl rfl rfl ?_
    refine ex_iload cg_78 (ix := 36) (pc' := 66) rfl rfl rfl ?_
    refine ex_icmp cg_78 (ix := 37) (t := 152) (pc' := 69) rfl rfl rfl (fun hb66 => ?_) (fun hb66 => ?_)
    · have hb66 : last.toInt < i.toInt := hb66
      exfalso; first | omega | exact absurd hb66 (by decide +kernel)
    · have hb66 : ¬ (last.toInt < i.toInt) := hb66
      refine ex_aload_n cg_78 (ix := 38) (pc' := 70) rfl rfl rfl ?_
      refine ex_getfield cg_78 (ix := 39) (pc' := 73) rfl rfl rfl rfl rfl ?_
      refine ex_iload_n cg_78 (ix := 40) (pc' := 74) rfl rfl rfl ?_
      refine ex_iload cg_78 (ix := 41) (pc' := 76) rfl rfl rfl ?_
      refine ex_iastore cg_78 (ix := 42) (pc' := 77) (h' := [(77, .inl (6, [.inr (.inl 78), .inr (.inl 79), .inr (.inl 80), .inr (.inl 81), .inr (.inl 85), .inr (.inl 86), .inl (.long bf), .inl (.int dl), .inl (.int ds), .inl (.int dr), .inl (.int md), .inl (.int bo)])), (80, .inr (.inr (.inl (32, g)))), (81, .inr (.inr (.inr (4, [82, 83, 84])))), (82, .inr (.inr (.inl (32, a0)))), (83, .inr (.inr (.inl (32, a1)))), (84, .inr (.inr (.inl (32, a2)))), (85, .inr (.inl (0, 3, upd tr (Int32.ofInt 1).toNatClampNeg i))), (86, .inr (.inl (0, 3, b)))]) rfl rfl (by omega) (by omega) rfl rfl ?_
      refine ex_iload_n cg_78 (ix := 43) (pc' := 78) rfl rfl rfl ?_
      refine ex_iconst cg_78 (ix := 44) (pc' := 79) rfl rfl ?_
      refine ex_iadd cg_78 (ix := 45) (pc' := 80) rfl rfl ?_
      rw [show (Int32.ofInt 1) + (Int32.ofInt 1) = Int32.ofInt 2 by decide +kernel]
      refine ex_iload_n cg_78 (ix := 46) (pc' := 81) rfl rfl rfl ?_
      refine ex_icmp cg_78 (ix := 47) (t := 116) (pc' := 84) rfl rfl rfl (fun hb81 => ?_) (fun hb81 => ?_)
      · have hb81 : (Int32.ofInt 2).toInt ≤ (Int32.ofInt 2).toInt := hb81
        refine ex_aload_n cg_78 (ix := 69) (pc' := 117) rfl rfl rfl ?_
        refine ex_iload_n cg_78 (ix := 70) (pc' := 118) rfl rfl rfl ?_
        refine ex_iconst cg_78 (ix := 71) (pc' := 119) rfl rfl ?_
        refine ex_iadd cg_78 (ix := 72) (pc' := 120) rfl rfl ?_
        rw [show (Int32.ofInt 1) + (Int32.ofInt 1) = Int32.ofInt 2 by decide +kernel]
        refine ex_iload_n cg_78 (ix := 73) (pc' := 121) rfl rfl rfl ?_
        refine ex_iload_n cg_78 (ix := 74) (pc' := 122) rfl rfl rfl ?_
        refine ex_iload cg_78 (ix := 75) (pc' := 124) rfl rfl rfl ?_
        refine ex_lload cg_78 (ix := 76) (pc' := 126) rfl rfl rfl ?_
        refine ex_ldc2_w cg_78 (ix := 77) (pc' := 129) rfl rfl rfl ?_
        refine ex_lmul cg_78 (ix := 78) (pc' := 130) rfl rfl ?_
        refine ex_iload_n cg_78 (ix := 79) (pc' := 131) rfl rfl rfl ?_
        refine ex_i2l cg_78 (ix := 80) (pc' := 132) rfl rfl ?_
        refine ex_aload_n cg_78 (ix := 81) (pc' := 133) rfl rfl rfl ?_
        refine ex_getfield cg_78 (ix := 82) (pc' := 136) rfl rfl rfl rfl rfl ?_
        refine ex_iload_n cg_78 (ix := 83) (pc' := 137) rfl rfl rfl ?_
        refine ex_aaload cg_78 (ix := 84) (pc' := 138) (k1 := 83) rfl rfl (by decide +kernel) (by decide +kernel) rfl ?_
        refine ex_iload cg_78 (ix := 85) (pc' := 140) rfl rfl rfl ?_
        refine ex_laload cg_78 (ix := 86) (pc' := 141) rfl rfl (by omega) (by omega) rfl ?_
        refine ex_lmul cg_78 (ix := 87) (pc' := 142) rfl rfl ?_
        refine ex_ladd cg_78 (ix := 88) (pc' := 143) rfl rfl ?_
        refine ex_callV cg_78 (ix := 89) (pc' := 146) (As := [.inl (.int (Int32.ofInt 2)), .inl (.int (Int32.ofInt 2)), .inl (.int q), .inl (.int i), .inl (.long ((fnd * (Int64.ofInt 32)) + ((Int32.toInt64 q) * (a1 i.toNatClampNeg))))]) (r := []) rfl rfl rfl (tl_2_2 (dl := dl) (ds := ds) (dr := dr) (md := md) (bo := bo) (q := q) (from_ := i) (fnd := (fnd * (Int64.ofInt 32)) + ((Int32.toInt64 q) * (a1 i.toNatClampNeg))) (pre := pre ++ [k]) (acc := acc) (bf := bf) (g := g) (a0 := a0) (a1 := a1) (a2 := a2) (tr := upd tr (Int32.ofInt 1).toNatClampNeg i) (b := b) hbf hok htr3 (by rw [List.length_append, hpl]; rfl)) (by first | decide | omega) rfl rfl rfl ⟨rfl, rfl, rfl, rfl, rfl, rfl, rfl, rfl, trivial⟩ rfl rfl (fun v h2 hq => ?_)
        obtain ⟨bf2, g2, tr2, b2, rfl, rfl, hbf2, hok2, htr2⟩ := hq
        show cx_T _ 78 _ 146 ([some (.inr (.inl 77)), some (.inl (.int (Int32.ofInt 1))), some (.inl (.int (Int32.ofInt 2))), some (.inl (.int q)), some (.inl (.int from_)), some (.inl (.long fnd)), none, some (.inl (.int last)), some (.inl (.int i))], [], [(77, .inl (6, [.inr (.inl 78), .inr (.inl 79), .inr (.inl 80), .inr (.inl 81), .inr (.inl 85), .inr (.inl 86), .inl (.long bf2), .inl (.int dl), .inl (.int ds), .inl (.int dr), .inl (.int md), .inl (.int bo)])), (80, .inr (.inr (.inl (32, g2)))), (81, .inr (.inr (.inr (4, [82, 83, 84])))), (82, .inr (.inr (.inl (32, a0)))), (83, .inr (.inr (.inl (32, a1)))), (84, .inr (.inr (.inl (32, a2)))), (85, .inr (.inl (0, 3, tr2))), (86, .inr (.inl (0, 3, b2)))]) _
        refine ex_iinc cg_78 (ix := 90) (pc' := 149) (L' := [some (.inr (.inl 77)), some (.inl (.int (Int32.ofInt 1))), some (.inl (.int (Int32.ofInt 2))), some (.inl (.int q)), some (.inl (.int from_)), some (.inl (.long fnd)), none, some (.inl (.int last)), some (.inl (.int (i + Int32.ofInt 1)))]) rfl rfl rfl rfl rfl ?_
        refine ex_goto cg_78 (ix := 91) (pc' := 62) rfl rfl ?_
        have e7 : a1 i.toNatClampNeg = a1 k := by rw [hik]
        rw [e7] at hbf2 hok2
        refine ih (k + 1) (by omega) _ (by rw [cx_addc (by omega) (by omega)]; omega) _ _ _ _ _ _ hbf2 hok2 (fun j hj w hw => htr2 j (by omega) w ?_) ?_
        · rw [List.getElem?_append_left (by omega)]; exact hw
        · rw [← hacc, List.range'_succ, List.foldl_cons]
          rfl
      · have hb81 : ¬ ((Int32.ofInt 2).toInt ≤ (Int32.ofInt 2).toInt) := hb81
        exfalso; first | omega | exact absurd hb81 (by decide +kernel)
theorem tl_2_1 {dl ds dr md bo q from_ : Int32} {fnd : Int64} {pre : List Nat} {acc : Int64 × List Nat} {bf : Int64} {g a0 a1 a2 : Nat → Int64} {tr b : Nat → Int32} {bN : Nat} (hfr : from_.toInt = (bN : Int)) (hb32 : bN < 32) (hbf : bf = acc.1) (hok : okM 2 acc b) (htr : (∀ j : Nat, j < 1 → ∀ w : Nat, pre[j]? = some w → (tr j).toInt = (w : Int))) (hpl : pre.length = 1) : cx_Ct 3 78 [.inr (.inl 77), .inl (.int (Int32.ofInt 1)), .inl (.int (Int32.ofInt 2)), .inl (.int q), .inl (.int from_), .inl (.long fnd)] ([(77, .inl (6, [.inr (.inl 78), .inr (.inl 79), .inr (.inl 80), .inr (.inl 81), .inr (.inl 85), .inr (.inl 86), .inl (.long bf), .inl (.int dl), .inl (.int ds), .inl (.int dr), .inl (.int md), .inl (.int bo)])), (80, .inr (.inr (.inl (32, g)))), (81, .inr (.inr (.inr (4, [82, 83, 84])))), (82, .inr (.inr (.inl (32, a0)))), (83, .inr (.inr (.inl (32, a1)))), (84, .inr (.inr (.inl (32, a2)))), (85, .inr (.inl (0, 3, tr))), (86, .inr (.inl (0, 3, b)))]) (fun v h2 => ∃ (bf2 : Int64) (g2 a2x : Nat → Int64) (tr2 b2 : Nat → Int32), v = none ∧ h2 = [(77, .inl (6, [.inr (.inl 78), .inr (.inl 79), .inr (.inl 80), .inr (.inl 81), .inr (.inl 85), .inr (.inl 86), .inl (.long bf2), .inl (.int dl), .inl (.int ds), .inl (.int dr), .inl (.int md), .inl (.int bo)])), (80, .inr (.inr (.inl (32, g2)))), (81, .inr (.inr (.inr (4, [82, 83, 84])))), (82, .inr (.inr (.inl (32, a0)))), (83, .inr (.inr (.inl (32, a1)))), (84, .inr (.inr (.inl (32, a2x)))), (85, .inr (.inl (0, 3, tr2))), (86, .inr (.inl (0, 3, b2)))] ∧ bf2 = (tP dl ds dr q 1 bN a1 fnd pre acc).1 ∧ okM 2 (tP dl ds dr q 1 bN a1 fnd pre acc) b2 ∧ (∀ j : Nat, j < 1 → ∀ w : Nat, pre[j]? = some w → (tr2 j).toInt = (w : Int))) := by
  have kc0 : (Int32.ofInt 0).toInt = 0 := by decide +kernel
  have kc1 : (Int32.ofInt 1).toInt = 1 := by decide +kernel
  have kc2 : (Int32.ofInt 2).toInt = 2 := by decide +kernel
  have kc3 : (Int32.ofInt 3).toInt = 3 := by decide +kernel
  have kc31 : (Int32.ofInt 31).toInt = 31 := by decide +kernel
  refine cx_Ct.of cg_78 (nL := 9) rfl rfl rfl ?_
  show cx_T 3 78 [77, 80, 81, 82, 83, 84, 85, 86] 0 ([some (.inr (.inl 77)), some (.inl (.int (Int32.ofInt 1))), some (.inl (.int (Int32.ofInt 2))), some (.inl (.int q)), some (.inl (.int from_)), some (.inl (.long fnd)), none, none, none], [], [(77, .inl (6, [.inr (.inl 78), .inr (.inl 79), .inr (.inl 80), .inr (.inl 81), .inr (.inl 85), .inr (.inl 86), .inl (.long bf), .inl (.int dl), .inl (.int ds), .inl (.int dr), .inl (.int md), .inl (.int bo)])), (80, .inr (.inr (.inl (32, g)))), (81, .inr (.inr (.inr (4, [82, 83, 84])))), (82, .inr (.inr (.inl (32, a0)))), (83, .inr (.inr (.inl (32, a1)))), (84, .inr (.inr (.inl (32, a2)))), (85, .inr (.inl (0, 3, tr))), (86, .inr (.inl (0, 3, b)))]) _
  refine ex_iload_n cg_78 (ix := 0) (pc' := 1) rfl rfl rfl ?_
  refine ex_iload_n cg_78 (ix := 1) (pc' := 2) rfl rfl rfl ?_
  refine ex_icmp cg_78 (ix := 2) (t := 10) (pc' := 5) rfl rfl rfl (fun hb2 => ?_) (fun hb2 => ?_)
  · have hb2 : (Int32.ofInt 2).toInt ≤ (Int32.ofInt 1).toInt := hb2
    exfalso; first | omega | exact absurd hb2 (by decide +kernel)
  · have hb2 : ¬ ((Int32.ofInt 2).toInt ≤ (Int32.ofInt 1).toInt) := hb2
    refine ex_iload_n cg_78 (ix := 3) (pc' := 6) rfl rfl rfl ?_
    refine ex_iconst cg_78 (ix := 4) (pc' := 7) rfl rfl ?_
    refine ex_icmp cg_78 (ix := 5) (t := 41) (pc' := 10) rfl rfl rfl (fun hb7 => ?_) (fun hb7 => ?_)
    · have hb7 : (Int32.ofInt 1).toInt < (Int32.ofInt 3).toInt := hb7
      refine ex_bipush cg_78 (ix := 23) (pc' := 43) rfl rfl rfl ?_
      refine ex_iload cg_78 (ix := 24) (pc' := 45) rfl rfl rfl ?_
      refine ex_iconst cg_78 (ix := 25) (pc' := 46) rfl rfl ?_
      refine ex_iadd cg_78 (ix := 26) (pc' := 47) rfl rfl ?_
      refine ex_min cg_78 (ix := 27) (pc' := 50) rfl rfl (by first | decide | omega) rfl rfl ?_
      refine ex_istore cg_78 (ix := 28) (pc' := 52) (L' := [some (.inr (.inl 77)), some (.inl (.int (Int32.ofInt 1))), some (.inl (.int (Int32.ofInt 2))), some (.inl (.int q)), some (.inl (.int from_)), some (.inl (.long fnd)), none, some (.inl (.int (if (from_ + (Int32.ofInt 3)) < (Int32.ofInt 31) then (from_ + (Int32.ofInt 3)) else (Int32.ofInt 31)))), none]) rfl rfl rfl rfl ?_
      refine ex_iconst cg_78 (ix := 29) (pc' := 53) rfl rfl ?_
      refine ex_iload cg_78 (ix := 30) (pc' := 55) rfl rfl rfl ?_
      refine ex_iconst cg_78 (ix := 31) (pc' := 56) rfl rfl ?_
      refine ex_isub cg_78 (ix := 32) (pc' := 57) rfl rfl ?_
      refine ex_max cg_78 (ix := 33) (pc' := 60) rfl rfl (by first | decide | omega) rfl rfl ?_
      refine ex_istore cg_78 (ix := 34) (pc' := 62) (L' := [some (.inr (.inl 77)), some (.inl (.int (Int32.ofInt 1))), some (.inl (.int (Int32.ofInt 2))), some (.inl (.int q)), some (.inl (.int from_)), some (.inl (.long fnd)), none, some (.inl (.int (if (from_ + (Int32.ofInt 3)) < (Int32.ofInt 31) then (from_ + (Int32.ofInt 3)) else (Int32.ofInt 31)))), some (.inl (.int (if (Int32.ofInt 0) < (from_ - (Int32.ofInt 3)) then (from_ - (Int32.ofInt 3)) else (Int32.ofInt 0))))]) rfl rfl rfl rfl ?_
      have e1 : (from_ + Int32.ofInt 3).toInt = (bN : Int) + 3 := by rw [cx_addc (by omega) (by omega)]; omega
      have e2 : (from_ - Int32.ofInt 3).toInt = (bN : Int) - 3 := by rw [cx_subc (by omega) (by omega)]; omega
      have e3 : (if (from_ + (Int32.ofInt 3)) < (Int32.ofInt 31) then (from_ + (Int32.ofInt 3)) else (Int32.ofInt 31) : Int32).toInt + 1 = ((min 31 (bN + 3) + 1 : Nat) : Int) := by
        by_cases q1 : (from_ + Int32.ofInt 3) < Int32.ofInt 31
        · rw [if_pos q1]; rw [Int32.lt_iff_toInt_lt] at q1; omega
        · rw [if_neg q1]; rw [Int32.lt_iff_toInt_lt] at q1; omega
      have e4 : (if (Int32.ofInt 0) < (from_ - (Int32.ofInt 3)) then (from_ - (Int32.ofInt 3)) else (Int32.ofInt 0) : Int32).toInt = ((bN - 3 : Nat) : Int) := by
        by_cases q1 : Int32.ofInt 0 < (from_ - Int32.ofInt 3)
        · rw [if_pos q1]; rw [Int32.lt_iff_toInt_lt] at q1; omega
        · rw [if_neg q1]; rw [Int32.lt_iff_toInt_lt] at q1; omega
      refine tp_2_1 (d := 3) (accF := tP dl ds dr q 1 bN a1 fnd pre acc) (by decide) (by omega) e3 hpl (fun bf2 g2 a2x tr2 b2 h1 h2 h3 => ⟨bf2, g2, a2x, tr2, b2, rfl, rfl, h1, h2, h3⟩) (min 31 (bN + 3) + 1 - (bN - 3)) (bN - 3) (by omega) _ e4 bf g a2 tr b acc hbf hok htr ?_
      rfl
    · have hb7 : ¬ ((Int32.ofInt 1).toInt < (Int32.ofInt 3).toInt) := hb7
      exfalso; first | omega | exact absurd hb7 (by decide +kernel)
theorem tp_2_0 {d : Nat} {dl ds dr md bo q from_ : Int32} {fnd : Int64} {pre : List Nat} {last : Int32} {N1 : Nat} {a0 : Nat → Int64} {accF : Int64 × List Nat} {P : Option cx_V → cx_H → Prop} (hd : 4 ≤ d) (hN1 : N1 ≤ 32) (hlast : last.toInt + 1 = (N1 : Int)) (hpl : pre.length = 0) (hP : ∀ (bf : Int64) (g a1 a2 : Nat → Int64) (tr b : Nat → Int32), bf = accF.1 → okM 2 accF b → (∀ j : Nat, j < 0 → ∀ w : Nat, pre[j]? = some w → (tr j).toInt = (w : Int)) → P none ([(77, .inl (6, [.inr (.inl 78), .inr (.inl 79), .inr (.inl 80), .inr (.inl 81), .inr (.inl 85), .inr (.inl 86), .inl (.long bf), .inl (.int dl), .inl (.int ds), .inl (.int dr), .inl (.int md), .inl (.int bo)])), (80, .inr (.inr (.inl (32, g)))), (81, .inr (.inr (.inr (4, [82, 83, 84])))), (82, .inr (.inr (.inl (32, a0)))), (83, .inr (.inr (.inl (32, a1)))), (84, .inr (.inr (.inl (32, a2)))), (85, .inr (.inl (0, 3, tr))), (86, .inr (.inl (0, 3, b)))])) :
    ∀ m_ k : Nat, k + m_ = N1 → ∀ i : Int32, i.toInt = (k : Int) → ∀ (bf : Int64) (g a1 a2 : Nat → Int64) (tr b : Nat → Int32) (acc : Int64 × List Nat), bf = acc.1 → okM 2 acc b → (∀ j : Nat, j < 0 → ∀ w : Nat, pre[j]? = some w → (tr j).toInt = (w : Int)) → (List.range' k m_).foldl (fun acc pl => tP dl ds dr q 1 pl (nxP dl ds dr q a0 pl) (fnd * Int64.ofInt 32 + q.toInt64 * a0 pl) (pre ++ [pl]) acc) acc = accF → cx_T d 78 [77, 80, 81, 82, 83, 84, 85, 86] 62 ([some (.inr (.inl 77)), some (.inl (.int (Int32.ofInt 0))), some (.inl (.int (Int32.ofInt 2))), some (.inl (.int q)), some (.inl (.int from_)), some (.inl (.long fnd)), none, some (.inl (.int last)), some (.inl (.int i))], [], [(77, .inl (6, [.inr (.inl 78), .inr (.inl 79), .inr (.inl 80), .inr (.inl 81), .inr (.inl 85), .inr (.inl 86), .inl (.long bf), .inl (.int dl), .inl (.int ds), .inl (.int dr), .inl (.int md), .inl (.int bo)])), (80, .inr (.inr (.inl (32, g)))), (81, .inr (.inr (.inr (4, [82, 83, 84])))), (82, .inr (.inr (.inl (32, a0)))), (83, .inr (.inr (.inl (32, a1)))), (84, .inr (.inr (.inl (32, a2)))), (85, .inr (.inl (0, 3, tr))), (86, .inr (.inl (0, 3, b)))]) P := by
  have kc0 : (Int32.ofInt 0).toInt = 0 := by decide +kernel
  have kc1 : (Int32.ofInt 1).toInt = 1 := by decide +kernel
  have kc2 : (Int32.ofInt 2).toInt = 2 := by decide +kernel
  have kc3 : (Int32.ofInt 3).toInt = 3 := by decide +kernel
  have kc31 : (Int32.ofInt 31).toInt = 31 := by decide +kernel
  intro m_
  induction m_ with
  | zero =>
    intro k hk i hi bf g a1 a2 tr b acc hbf hok htr hacc
    refine ex_iload cg_78 (ix := 35) (pc' := 64) rfl rfl rfl ?_
    refine ex_iload cg_78 (ix := 36) (pc' := 66) rfl rfl rfl ?_
    refine ex_icmp cg_78 (ix := 37) (t := 152) (pc' := 69) rfl rfl rfl (fun hb66 => ?_) (fun hb66 => ?_)
    · have hb66 : last.toInt < i.toInt := hb66
      refine ex_return_ cg_78 (ix := 92) rfl ?_
      have hacc : acc = accF := hacc
      subst hacc
      exact hP _ _ _ _ _ _ hbf hok htr
    · have hb66 : ¬ (last.toInt < i.toInt) := hb66
      exfalso; first | omega | exact absurd hb66 (by decide +kernel)
  | succ m_ ih =>
    intro k hk i hi bf g a1 a2 tr b acc hbf hok htr hacc
    have hik : i.toNatClampNeg = k := cx_clamp hi
    have hk32 : k < 32 := by omega
    have hst : (Int32.ofInt 0).toNatClampNeg = 0 := by decide +kernel
    have htr3 : ∀ j : Nat, j < 1 → ∀ w : Nat, (pre ++ [k])[j]? = some w → (upd tr (Int32.ofInt 0).toNatClampNeg i j).toInt = (w : Int) := fun j hj w hw => by
      unfold upd
      rw [hst]
      by_cases q1 : j = 0
      · rw [if_pos q1]
        rw [q1, List.getElem?_append_right (by omega), hpl] at hw
        have hw : k = w := Option.some.inj hw
        omega
      · rw [if_neg q1]
        rw [List.getElem?_append_left (by omega)] at hw
        exact htr j (by omega) w hw
    refine ex_iload cg_78 (ix := 35) (pc' := 64) rfl rfl rfl ?_
    refine ex_iload cg_78 (ix := 36) (pc' := 66) rfl rfl rfl ?_
    refine ex_icmp cg_78 (ix := 37) (t := 152) (pc' := 69) rfl rfl rfl (fun hb66 => ?_) (fun hb66 => ?_)
    · have hb66 : last.toInt < i.toInt := hb66
      exfalso; first | omega | exact absurd hb66 (by decide +kernel)
    · have hb66 : ¬ (last.toInt < i.toInt) := hb66
      refine ex_aload_n cg_78 (ix := 38) (pc' := 70) rfl rfl rfl ?_
      refine ex_getfield cg_78 (ix := 39) (pc' := 73) rfl rfl rfl rfl rfl ?_
      refine ex_iload_n cg_78 (ix := 40) (pc' := 74) rfl rfl rfl ?_
      refine ex_iload cg_78 (ix := 41) (pc' := 76) rfl rfl rfl ?_
      refine ex_iastore cg_78 (ix := 42) (pc' := 77) (h' := [(77, .inl (6, [.inr (.inl 78), .inr (.inl 79), .inr (.inl 80), .inr (.inl 81), .inr (.inl 85), .inr (.inl 86), .inl (.long bf), .inl (.int dl), .inl (.int ds), .inl (.int dr), .inl (.int md), .inl (.int bo)])), (80, .inr (.inr (.inl (32, g)))), (81, .inr (.inr (.inr (4, [82, 83, 84])))), (82, .inr (.inr (.inl (32, a0)))), (83, .inr (.inr (.inl (32, a1)))), (84, .inr (.inr (.inl (32, a2)))), (85, .inr (.inl (0, 3, upd tr (Int32.ofInt 0).toNatClampNeg i))), (86, .inr (.inl (0, 3, b)))]) rfl rfl (by omega) (by omega) rfl rfl ?_
      refine ex_iload_n cg_78 (ix := 43) (pc' := 78) rfl rfl rfl ?_
      refine ex_iconst cg_78 (ix := 44) (pc' := 79) rfl rfl ?_
      refine ex_iadd cg_78 (ix := 45) (pc' := 80) rfl rfl ?_
      rw [show (Int32.ofInt 0) + (Int32.ofInt 1) = Int32.ofInt 1 by decide +kernel]
      refine ex_iload_n cg_78 (ix := 46) (pc' := 81) rfl rfl rfl ?_
      refine ex_icmp cg_78 (ix := 47) (t := 116) (pc' := 84) rfl rfl rfl (fun hb81 => ?_) (fun hb81 => ?_)
      · have hb81 : (Int32.ofInt 2).toInt ≤ (Int32.ofInt 1).toInt := hb81
        exfalso; first | omega | exact absurd hb81 (by decide +kernel)
      · have hb81 : ¬ ((Int32.ofInt 2).toInt ≤ (Int32.ofInt 1).toInt) := hb81
        refine ex_iload_n cg_78 (ix := 48) (pc' := 85) rfl rfl rfl ?_
        refine ex_iconst cg_78 (ix := 49) (pc' := 86) rfl rfl ?_
        refine ex_iadd cg_78 (ix := 50) (pc' := 87) rfl rfl ?_
        rw [show (Int32.ofInt 0) + (Int32.ofInt 1) = Int32.ofInt 1 by decide +kernel]
        refine ex_iconst cg_78 (ix := 51) (pc' := 88) rfl rfl ?_
        refine ex_icmp cg_78 (ix := 52) (t := 116) (pc' := 91) rfl rfl rfl (fun hb88 => ?_) (fun hb88 => ?_)
        · have hb88 : (Int32.ofInt 3).toInt ≤ (Int32.ofInt 1).toInt := hb88
          exfalso; first | omega | exact absurd hb88 (by decide +kernel)
        · have hb88 : ¬ ((Int32.ofInt 3).toInt ≤ (Int32.ofInt 1).toInt) := hb88
          refine ex_aload_n cg_78 (ix := 53) (pc' := 92) rfl rfl rfl ?_
          refine ex_aload_n cg_78 (ix := 54) (pc' := 93) rfl rfl rfl ?_
          refine ex_getfield cg_78 (ix := 55) (pc' := 96) rfl rfl rfl rfl rfl ?_
          refine ex_iload_n cg_78 (ix := 56) (pc' := 97) rfl rfl rfl ?_
          refine ex_aaload cg_78 (ix := 57) (pc' := 98) (k1 := 82) rfl rfl (by decide +kernel) (by decide +kernel) rfl ?_
          refine ex_iload cg_78 (ix := 58) (pc' := 100) rfl rfl rfl ?_
          refine ex_iload_n cg_78 (ix := 59) (pc' := 101) rfl rfl rfl ?_
          refine ex_callV cg_78 (ix := 60) (pc' := 104) (As := [.inr (.inl 82), .inl (.int i), .inl (.int q)]) (r := []) rfl rfl rfl (ct_lt82 (bf := bf) (dl := dl) (ds := ds) (dr := dr) (md := md) (bo := bo) (f := a0) (g := g) (p := i) (q := q)) (by first | decide | omega) rfl rfl rfl ⟨rfl, rfl, rfl, trivial⟩ rfl rfl (fun v h2 hq => ?_)
          obtain ⟨rfl, rfl⟩ := hq
          show cx_T _ 78 _ 104 ([some (.inr (.inl 77)), some (.inl (.int (Int32.ofInt 0))), some (.inl (.int (Int32.ofInt 2))), some (.inl (.int q)), some (.inl (.int from_)), some (.inl (.long fnd)), none, some (.inl (.int last)), some (.inl (.int i))], [], [(77, .inl (6, [.inr (.inl 78), .inr (.inl 79), .inr (.inl 80), .inr (.inl 81), .inr (.inl 85), .inr (.inl 86), .inl (.long bf), .inl (.int dl), .inl (.int ds), .inl (.int dr), .inl (.int md), .inl (.int bo)])), (80, .inr (.inr (.inl (32, rowU (lkF a0 i q) g 32)))), (81, .inr (.inr (.inr (4, [82, 83, 84])))), (82, .inr (.inr (.inl (32, a0)))), (83, .inr (.inr (.inl (32, a1)))), (84, .inr (.inr (.inl (32, a2)))), (85, .inr (.inl (0, 3, upd tr (Int32.ofInt 0).toNatClampNeg i))), (86, .inr (.inl (0, 3, b)))]) _
          refine ex_aload_n cg_78 (ix := 61) (pc' := 105) rfl rfl rfl ?_
          refine ex_aload_n cg_78 (ix := 62) (pc' := 106) rfl rfl rfl ?_
          refine ex_getfield cg_78 (ix := 63) (pc' := 109) rfl rfl rfl rfl rfl ?_
          refine ex_iload_n cg_78 (ix := 64) (pc' := 110) rfl rfl rfl ?_
          refine ex_iconst cg_78 (ix := 65) (pc' := 111) rfl rfl ?_
          refine ex_iadd cg_78 (ix := 66) (pc' := 112) rfl rfl ?_
          rw [show (Int32.ofInt 0) + (Int32.ofInt 1) = Int32.ofInt 1 by decide +kernel]
          refine ex_aaload cg_78 (ix := 67) (pc' := 113) (k1 := 83) rfl rfl (by decide +kernel) (by decide +kernel) rfl ?_
          refine ex_callV cg_78 (ix := 68) (pc' := 116) (As := [.inr (.inl 83)]) (r := []) rfl rfl rfl (ct_cy83 (bf := bf) (dl := dl) (ds := ds) (dr := dr) (md := md) (bo := bo) (g := rowU (lkF a0 i q) g 32) (t := a1)) (by first | decide | omega) rfl rfl rfl ⟨rfl, rfl, rfl, trivial⟩ rfl rfl (fun v h2 hq => ?_)
          obtain ⟨rfl, rfl⟩ := hq
          show cx_T _ 78 _ 116 ([some (.inr (.inl 77)), some (.inl (.int (Int32.ofInt 0))), some (.inl (.int (Int32.ofInt 2))), some (.inl (.int q)), some (.inl (.int from_)), some (.inl (.long fnd)), none, some (.inl (.int last)), some (.inl (.int i))], [], [(77, .inl (6, [.inr (.inl 78), .inr (.inl 79), .inr (.inl 80), .inr (.inl 81), .inr (.inl 85), .inr (.inl 86), .inl (.long bf), .inl (.int dl), .inl (.int ds), .inl (.int dr), .inl (.int md), .inl (.int bo)])), (80, .inr (.inr (.inl (32, rowU (lkF a0 i q) g 32)))), (81, .inr (.inr (.inr (4, [82, 83, 84])))), (82, .inr (.inr (.inl (32, a0)))), (83, .inr (.inr (.inl (32, rowU (drF (rowU (lkF a0 i q) g 32) dl ds dr) a1 32)))), (84, .inr (.inr (.inl (32, a2)))), (85, .inr (.inl (0, 3, upd tr (Int32.ofInt 0).toNatClampNeg i))), (86, .inr (.inl (0, 3, b)))]) _
          refine ex_aload_n cg_78 (ix := 69) (pc' := 117) rfl rfl rfl ?_
          refine ex_iload_n cg_78 (ix := 70) (pc' := 118) rfl rfl rfl ?_
          refine ex_iconst cg_78 (ix := 71) (pc' := 119) rfl rfl ?_
          refine ex_iadd cg_78 (ix := 72) (pc' := 120) rfl rfl ?_
          rw [show (Int32.ofInt 0) + (Int32.ofInt 1) = Int32.ofInt 1 by decide +kernel]
          refine ex_iload_n cg_78 (ix := 73) (pc' := 121) rfl rfl rfl ?_
          refine ex_iload_n cg_78 (ix := 74) (pc' := 122) rfl rfl rfl ?_
          refine ex_iload cg_78 (ix := 75) (pc' := 124) rfl rfl rfl ?_
          refine ex_lload cg_78 (ix := 76) (pc' := 126) rfl rfl rfl ?_
          refine ex_ldc2_w cg_78 (ix := 77) (pc' := 129) rfl rfl rfl ?_
          refine ex_lmul cg_78 (ix := 78) (pc' := 130) rfl rfl ?_
          refine ex_iload_n cg_78 (ix := 79) (pc' := 131) rfl rfl rfl ?_
          refine ex_i2l cg_78 (ix := 80) (pc' := 132) rfl rfl ?_
          refine ex_aload_n cg_78 (ix := 81) (pc' := 133) rfl rfl rfl ?_
          refine ex_getfield cg_78 (ix := 82) (pc' := 136) rfl rfl rfl rfl rfl ?_
          refine ex_iload_n cg_78 (ix := 83) (pc' := 137) rfl rfl rfl ?_
          refine ex_aaload cg_78 (ix := 84) (pc' := 138) (k1 := 82) rfl rfl (by decide +kernel) (by decide +kernel) rfl ?_
          refine ex_iload cg_78 (ix := 85) (pc' := 140) rfl rfl rfl ?_
          refine ex_laload cg_78 (ix := 86) (pc' := 141) rfl rfl (by omega) (by omega) rfl ?_
          refine ex_lmul cg_78 (ix := 87) (pc' := 142) rfl rfl ?_
          refine ex_ladd cg_78 (ix := 88) (pc' := 143) rfl rfl ?_
          refine ex_callV cg_78 (ix := 89) (pc' := 146) (As := [.inl (.int (Int32.ofInt 1)), .inl (.int (Int32.ofInt 2)), .inl (.int q), .inl (.int i), .inl (.long ((fnd * (Int64.ofInt 32)) + ((Int32.toInt64 q) * (a0 i.toNatClampNeg))))]) (r := []) rfl rfl rfl (tl_2_1 (dl := dl) (ds := ds) (dr := dr) (md := md) (bo := bo) (q := q) (from_ := i) (fnd := (fnd * (Int64.ofInt 32)) + ((Int32.toInt64 q) * (a0 i.toNatClampNeg))) (pre := pre ++ [k]) (acc := acc) (bf := bf) (g := rowU (lkF a0 i q) g 32) (a0 := a0) (a1 := rowU (drF (rowU (lkF a0 i q) g 32) dl ds dr) a1 32) (a2 := a2) (tr := upd tr (Int32.ofInt 0).toNatClampNeg i) (b := b) (bN := k) hi hk32 hbf hok htr3 (by rw [List.length_append, hpl]; rfl)) (by first | decide | omega) rfl rfl rfl ⟨rfl, rfl, rfl, rfl, rfl, rfl, rfl, rfl, trivial⟩ rfl rfl (fun v h2 hq => ?_)
          obtain ⟨bf2, g2, a2x, tr2, b2, rfl, rfl, hbf2, hok2, htr2⟩ := hq
          show cx_T _ 78 _ 146 ([some (.inr (.inl 77)), some (.inl (.int (Int32.ofInt 0))), some (.inl (.int (Int32.ofInt 2))), some (.inl (.int q)), some (.inl (.int from_)), some (.inl (.long fnd)), none, some (.inl (.int last)), some (.inl (.int i))], [], [(77, .inl (6, [.inr (.inl 78), .inr (.inl 79), .inr (.inl 80), .inr (.inl 81), .inr (.inl 85), .inr (.inl 86), .inl (.long bf2), .inl (.int dl), .inl (.int ds), .inl (.int dr), .inl (.int md), .inl (.int bo)])), (80, .inr (.inr (.inl (32, g2)))), (81, .inr (.inr (.inr (4, [82, 83, 84])))), (82, .inr (.inr (.inl (32, a0)))), (83, .inr (.inr (.inl (32, rowU (drF (rowU (lkF a0 i q) g 32) dl ds dr) a1 32)))), (84, .inr (.inr (.inl (32, a2x)))), (85, .inr (.inl (0, 3, tr2))), (86, .inr (.inl (0, 3, b2)))]) _
          refine ex_iinc cg_78 (ix := 90) (pc' := 149) (L' := [some (.inr (.inl 77)), some (.inl (.int (Int32.ofInt 0))), some (.inl (.int (Int32.ofInt 2))), some (.inl (.int q)), some (.inl (.int from_)), some (.inl (.long fnd)), none, some (.inl (.int last)), some (.inl (.int (i + Int32.ofInt 1)))]) rfl rfl rfl rfl rfl ?_
          refine ex_goto cg_78 (ix := 91) (pc' := 62) rfl rfl ?_
          have e7 : a0 i.toNatClampNeg = a0 k := by rw [hik]
          rw [e7] at hbf2 hok2
          refine ih (k + 1) (by omega) _ (by rw [cx_addc (by omega) (by omega)]; omega) _ _ _ _ _ _ _ hbf2 hok2 (fun j hj w hw => htr2 j (by omega) w ?_) ?_
          · rw [List.getElem?_append_left (by omega)]; exact hw
          · rw [← hacc, List.range'_succ, List.foldl_cons]
            rw [tP_E 1 k (rowU (drF (rowU (lkF a0 i q) g 32) dl ds dr) a1 32) (nxP dl ds dr q a0 k) _ _ _ (fun x hx => ?_)]
            rw [rowU_in hx]
            refine drF_E (fun y hy => ?_) hx
            rw [rowU_in hy, lkF_N hi]
theorem tl_2_0 {dl ds dr md bo q from_ : Int32} {fnd : Int64} {pre : List Nat} {acc : Int64 × List Nat} {bf : Int64} {g a0 a1 a2 : Nat → Int64} {tr b : Nat → Int32} {bN : Nat} (hfr : from_.toInt = (bN : Int)) (hb32 : bN < 32) (hbf : bf = acc.1) (hok : okM 2 acc b) (htr : (∀ j : Nat, j < 0 → ∀ w : Nat, pre[j]? = some w → (tr j).toInt = (w : Int))) (hpl : pre.length = 0) : cx_Ct 4 78 [.inr (.inl 77), .inl (.int (Int32.ofInt 0)), .inl (.int (Int32.ofInt 2)), .inl (.int q), .inl (.int from_), .inl (.long fnd)] ([(77, .inl (6, [.inr (.inl 78), .inr (.inl 79), .inr (.inl 80), .inr (.inl 81), .inr (.inl 85), .inr (.inl 86), .inl (.long bf), .inl (.int dl), .inl (.int ds), .inl (.int dr), .inl (.int md), .inl (.int bo)])), (80, .inr (.inr (.inl (32, g)))), (81, .inr (.inr (.inr (4, [82, 83, 84])))), (82, .inr (.inr (.inl (32, a0)))), (83, .inr (.inr (.inl (32, a1)))), (84, .inr (.inr (.inl (32, a2)))), (85, .inr (.inl (0, 3, tr))), (86, .inr (.inl (0, 3, b)))]) (fun v h2 => ∃ (bf2 : Int64) (g2 a1x a2x : Nat → Int64) (tr2 b2 : Nat → Int32), v = none ∧ h2 = [(77, .inl (6, [.inr (.inl 78), .inr (.inl 79), .inr (.inl 80), .inr (.inl 81), .inr (.inl 85), .inr (.inl 86), .inl (.long bf2), .inl (.int dl), .inl (.int ds), .inl (.int dr), .inl (.int md), .inl (.int bo)])), (80, .inr (.inr (.inl (32, g2)))), (81, .inr (.inr (.inr (4, [82, 83, 84])))), (82, .inr (.inr (.inl (32, a0)))), (83, .inr (.inr (.inl (32, a1x)))), (84, .inr (.inr (.inl (32, a2x)))), (85, .inr (.inl (0, 3, tr2))), (86, .inr (.inl (0, 3, b2)))] ∧ bf2 = (tP dl ds dr q 2 bN a0 fnd pre acc).1 ∧ okM 2 (tP dl ds dr q 2 bN a0 fnd pre acc) b2 ∧ (∀ j : Nat, j < 0 → ∀ w : Nat, pre[j]? = some w → (tr2 j).toInt = (w : Int))) := by
  have kc0 : (Int32.ofInt 0).toInt = 0 := by decide +kernel
  have kc1 : (Int32.ofInt 1).toInt = 1 := by decide +kernel
  have kc2 : (Int32.ofInt 2).toInt = 2 := by decide +kernel
  have kc3 : (Int32.ofInt 3).toInt = 3 := by decide +kernel
  have kc31 : (Int32.ofInt 31).toInt = 31 := by decide +kernel
  refine cx_Ct.of cg_78 (nL := 9) rfl rfl rfl ?_
  show cx_T 4 78 [77, 80, 81, 82, 83, 84, 85, 86] 0 ([some (.inr (.inl 77)), some (.inl (.int (Int32.ofInt 0))), some (.inl (.int (Int32.ofInt 2))), some (.inl (.int q)), some (.inl (.int from_)), some (.inl (.long fnd)), none, none, none], [], [(77, .inl (6, [.inr (.inl 78), .inr (.inl 79), .inr (.inl 80), .inr (.inl 81), .inr (.inl 85), .inr (.inl 86), .inl (.long bf), .inl (.int dl), .inl (.int ds), .inl (.int dr), .inl (.int md), .inl (.int bo)])), (80, .inr (.inr (.inl (32, g)))), (81, .inr (.inr (.inr (4, [82, 83, 84])))), (82, .inr (.inr (.inl (32, a0)))), (83, .inr (.inr (.inl (32, a1)))), (84, .inr (.inr (.inl (32, a2)))), (85, .inr (.inl (0, 3, tr))), (86, .inr (.inl (0, 3, b)))]) _
  refine ex_iload_n cg_78 (ix := 0) (pc' := 1) rfl rfl rfl ?_
  refine ex_iload_n cg_78 (ix := 1) (pc' := 2) rfl rfl rfl ?_
  refine ex_icmp cg_78 (ix := 2) (t := 10) (pc' := 5) rfl rfl rfl (fun hb2 => ?_) (fun hb2 => ?_)
  · have hb2 : (Int32.ofInt 2).toInt ≤ (Int32.ofInt 0).toInt := hb2
    exfalso; first | omega | exact absurd hb2 (by decide +kernel)
  · have hb2 : ¬ ((Int32.ofInt 2).toInt ≤ (Int32.ofInt 0).toInt) := hb2
    refine ex_iload_n cg_78 (ix := 3) (pc' := 6) rfl rfl rfl ?_
    refine ex_iconst cg_78 (ix := 4) (pc' := 7) rfl rfl ?_
    refine ex_icmp cg_78 (ix := 5) (t := 41) (pc' := 10) rfl rfl rfl (fun hb7 => ?_) (fun hb7 => ?_)
    · have hb7 : (Int32.ofInt 0).toInt < (Int32.ofInt 3).toInt := hb7
      refine ex_bipush cg_78 (ix := 23) (pc' := 43) rfl rfl rfl ?_
      refine ex_iload cg_78 (ix := 24) (pc' := 45) rfl rfl rfl ?_
      refine ex_iconst cg_78 (ix := 25) (pc' := 46) rfl rfl ?_
      refine ex_iadd cg_78 (ix := 26) (pc' := 47) rfl rfl ?_
      refine ex_min cg_78 (ix := 27) (pc' := 50) rfl rfl (by first | decide | omega) rfl rfl ?_
      refine ex_istore cg_78 (ix := 28) (pc' := 52) (L' := [some (.inr (.inl 77)), some (.inl (.int (Int32.ofInt 0))), some (.inl (.int (Int32.ofInt 2))), some (.inl (.int q)), some (.inl (.int from_)), some (.inl (.long fnd)), none, some (.inl (.int (if (from_ + (Int32.ofInt 3)) < (Int32.ofInt 31) then (from_ + (Int32.ofInt 3)) else (Int32.ofInt 31)))), none]) rfl rfl rfl rfl ?_
      refine ex_iconst cg_78 (ix := 29) (pc' := 53) rfl rfl ?_
      refine ex_iload cg_78 (ix := 30) (pc' := 55) rfl rfl rfl ?_
      refine ex_iconst cg_78 (ix := 31) (pc' := 56) rfl rfl ?_
      refine ex_isub cg_78 (ix := 32) (pc' := 57) rfl rfl ?_
      refine ex_max cg_78 (ix := 33) (pc' := 60) rfl rfl (by first | decide | omega) rfl rfl ?_
      refine ex_istore cg_78 (ix := 34) (pc' := 62) (L' := [some (.inr (.inl 77)), some (.inl (.int (Int32.ofInt 0))), some (.inl (.int (Int32.ofInt 2))), some (.inl (.int q)), some (.inl (.int from_)), some (.inl (.long fnd)), none, some (.inl (.int (if (from_ + (Int32.ofInt 3)) < (Int32.ofInt 31) then (from_ + (Int32.ofInt 3)) else (Int32.ofInt 31)))), some (.inl (.int (if (Int32.ofInt 0) < (from_ - (Int32.ofInt 3)) then (from_ - (Int32.ofInt 3)) else (Int32.ofInt 0))))]) rfl rfl rfl rfl ?_
      have e1 : (from_ + Int32.ofInt 3).toInt = (bN : Int) + 3 := by rw [cx_addc (by omega) (by omega)]; omega
      have e2 : (from_ - Int32.ofInt 3).toInt = (bN : Int) - 3 := by rw [cx_subc (by omega) (by omega)]; omega
      have e3 : (if (from_ + (Int32.ofInt 3)) < (Int32.ofInt 31) then (from_ + (Int32.ofInt 3)) else (Int32.ofInt 31) : Int32).toInt + 1 = ((min 31 (bN + 3) + 1 : Nat) : Int) := by
        by_cases q1 : (from_ + Int32.ofInt 3) < Int32.ofInt 31
        · rw [if_pos q1]; rw [Int32.lt_iff_toInt_lt] at q1; omega
        · rw [if_neg q1]; rw [Int32.lt_iff_toInt_lt] at q1; omega
      have e4 : (if (Int32.ofInt 0) < (from_ - (Int32.ofInt 3)) then (from_ - (Int32.ofInt 3)) else (Int32.ofInt 0) : Int32).toInt = ((bN - 3 : Nat) : Int) := by
        by_cases q1 : Int32.ofInt 0 < (from_ - Int32.ofInt 3)
        · rw [if_pos q1]; rw [Int32.lt_iff_toInt_lt] at q1; omega
        · rw [if_neg q1]; rw [Int32.lt_iff_toInt_lt] at q1; omega
      refine tp_2_0 (d := 4) (accF := tP dl ds dr q 2 bN a0 fnd pre acc) (by decide) (by omega) e3 hpl (fun bf2 g2 a1x a2x tr2 b2 h1 h2 h3 => ⟨bf2, g2, a1x, a2x, tr2, b2, rfl, rfl, h1, h2, h3⟩) (min 31 (bN + 3) + 1 - (bN - 3)) (bN - 3) (by omega) _ e4 bf g a1 a2 tr b acc hbf hok htr ?_
      rfl
    · have hb7 : ¬ ((Int32.ofInt 0).toInt < (Int32.ofInt 3).toInt) := hb7
      exfalso; first | omega | exact absurd hb7 (by decide +kernel)
theorem tl_3_3 {dl ds dr md bo q from_ : Int32} {fnd : Int64} {pre : List Nat} {acc : Int64 × List Nat} {bf : Int64} {g a0 a1 a2 : Nat → Int64} {tr b : Nat → Int32} (hbf : bf = acc.1) (hok : okM 3 acc b) (htr : (∀ j : Nat, j < 3 → ∀ w : Nat, pre[j]? = some w → (tr j).toInt = (w : Int))) (hpl : pre.length = 3) : cx_Ct 2 78 [.inr (.inl 77), .inl (.int (Int32.ofInt 3)), .inl (.int (Int32.ofInt 3)), .inl (.int q), .inl (.int from_), .inl (.long fnd)] ([(77, .inl (6, [.inr (.inl 78), .inr (.inl 79), .inr (.inl 80), .inr (.inl 81), .inr (.inl 85), .inr (.inl 86), .inl (.long bf), .inl (.int dl), .inl (.int ds), .inl (.int dr), .inl (.int md), .inl (.int bo)])), (80, .inr (.inr (.inl (32, g)))), (81, .inr (.inr (.inr (4, [82, 83, 84])))), (82, .inr (.inr (.inl (32, a0)))), (83, .inr (.inr (.inl (32, a1)))), (84, .inr (.inr (.inl (32, a2)))), (85, .inr (.inl (0, 3, tr))), (86, .inr (.inl (0, 3, b)))]) (fun v h2 => ∃ (bf2 : Int64) (g2 : Nat → Int64) (tr2 b2 : Nat → Int32), v = none ∧ h2 = [(77, .inl (6, [.inr (.inl 78), .inr (.inl 79), .inr (.inl 80), .inr (.inl 81), .inr (.inl 85), .inr (.inl 86), .inl (.long bf2), .inl (.int dl), .inl (.int ds), .inl (.int dr), .inl (.int md), .inl (.int bo)])), (80, .inr (.inr (.inl (32, g2)))), (81, .inr (.inr (.inr (4, [82, 83, 84])))), (82, .inr (.inr (.inl (32, a0)))), (83, .inr (.inr (.inl (32, a1)))), (84, .inr (.inr (.inl (32, a2)))), (85, .inr (.inl (0, 3, tr2))), (86, .inr (.inl (0, 3, b2)))] ∧ bf2 = (stX acc fnd pre).1 ∧ okM 3 (stX acc fnd pre) b2 ∧ (∀ j : Nat, j < 3 → ∀ w : Nat, pre[j]? = some w → (tr2 j).toInt = (w : Int))) := by
  have hbf2 : bf.toInt = acc.1.toInt := by rw [hbf]
  have kc0 : (Int32.ofInt 0).toInt = 0 := by decide +kernel
  have kc1 : (Int32.ofInt 1).toInt = 1 := by decide +kernel
  have kc2 : (Int32.ofInt 2).toInt = 2 := by decide +kernel
  have kc3 : (Int32.ofInt 3).toInt = 3 := by decide +kernel
  have kc31 : (Int32.ofInt 31).toInt = 31 := by decide +kernel
  refine cx_Ct.of cg_78 (nL := 9) rfl rfl rfl ?_
  show cx_T 2 78 [77, 80, 81, 82, 83, 84, 85, 86] 0 ([some (.inr (.inl 77)), some (.inl (.int (Int32.ofInt 3))), some (.inl (.int (Int32.ofInt 3))), some (.inl (.int q)), some (.inl (.int from_)), some (.inl (.long fnd)), none, none, none], [], [(77, .inl (6, [.inr (.inl 78), .inr (.inl 79), .inr (.inl 80), .inr (.inl 81), .inr (.inl 85), .inr (.inl 86), .inl (.long bf), .inl (.int dl), .inl (.int ds), .inl (.int dr), .inl (.int md), .inl (.int bo)])), (80, .inr (.inr (.inl (32, g)))), (81, .inr (.inr (.inr (4, [82, 83, 84])))), (82, .inr (.inr (.inl (32, a0)))), (83, .inr (.inr (.inl (32, a1)))), (84, .inr (.inr (.inl (32, a2)))), (85, .inr (.inl (0, 3, tr))), (86, .inr (.inl (0, 3, b)))]) _
  refine ex_iload_n cg_78 (ix := 0) (pc' := 1) rfl rfl rfl ?_
  refine ex_iload_n cg_78 (ix := 1) (pc' := 2) rfl rfl rfl ?_
  refine ex_icmp cg_78 (ix := 2) (t := 10) (pc' := 5) rfl rfl rfl (fun hb2 => ?_) (fun hb2 => ?_)
  · have hb2 : (Int32.ofInt 3).toInt ≤ (Int32.ofInt 3).toInt := hb2
    refine ex_lload cg_78 (ix := 6) (pc' := 12) rfl rfl rfl ?_
    refine ex_aload_n cg_78 (ix := 7) (pc' := 13) rfl rfl rfl ?_
    refine ex_getfield cg_78 (ix := 8) (pc' := 16) rfl rfl rfl rfl rfl ?_
    refine ex_lcmp cg_78 (ix := 9) (pc' := 17) rfl rfl ?_
    have hlc16 := cx_cmp fnd bf
    refine ex_if cg_78 (ix := 10) (t := 40) (pc' := 20) rfl rfl rfl (fun hb17 => ?_) (fun hb17 => ?_)
    · have hb17 : (lg_cmp fnd bf).toInt ≤ 0 := hb17
      refine ex_return_ cg_78 (ix := 22) rfl ?_
      refine ⟨bf, g, tr, b, rfl, rfl, ?_, ?_, htr⟩
      · unfold stX; rw [if_neg (by omega)]; exact hbf
      · unfold stX; rw [if_neg (by omega)]; exact hok
    · have hb17 : ¬ ((lg_cmp fnd bf).toInt ≤ 0) := hb17
      refine ex_aload_n cg_78 (ix := 11) (pc' := 21) rfl rfl rfl ?_
      refine ex_lload cg_78 (ix := 12) (pc' := 23) rfl rfl rfl ?_
      refine ex_putfield cg_78 (ix := 13) (pc' := 26) (h' := [(77, .inl (6, [.inr (.inl 78), .inr (.inl 79), .inr (.inl 80), .inr (.inl 81), .inr (.inl 85), .inr (.inl 86), .inl (.long fnd), .inl (.int dl), .inl (.int ds), .inl (.int dr), .inl (.int md), .inl (.int bo)])), (80, .inr (.inr (.inl (32, g)))), (81, .inr (.inr (.inr (4, [82, 83, 84])))), (82, .inr (.inr (.inl (32, a0)))), (83, .inr (.inr (.inl (32, a1)))), (84, .inr (.inr (.inl (32, a2)))), (85, .inr (.inl (0, 3, tr))), (86, .inr (.inl (0, 3, b)))]) rfl rfl rfl rfl rfl rfl rfl rfl ?_
      refine ex_aload_n cg_78 (ix := 14) (pc' := 27) rfl rfl rfl ?_
      refine ex_getfield cg_78 (ix := 15) (pc' := 30) rfl rfl rfl rfl rfl ?_
      refine ex_iconst cg_78 (ix := 16) (pc' := 31) rfl rfl ?_
      refine ex_aload_n cg_78 (ix := 17) (pc' := 32) rfl rfl rfl ?_
      refine ex_getfield cg_78 (ix := 18) (pc' := 35) rfl rfl rfl rfl rfl ?_
      refine ex_iconst cg_78 (ix := 19) (pc' := 36) rfl rfl ?_
      refine ex_iconst cg_78 (ix := 20) (pc' := 37) rfl rfl ?_
      refine ex_copyI cg_78 (ix := 21) (pc' := 40) (h' := [(77, .inl (6, [.inr (.inl 78), .inr (.inl 79), .inr (.inl 80), .inr (.inl 81), .inr (.inl 85), .inr (.inl 86), .inl (.long fnd), .inl (.int dl), .inl (.int ds), .inl (.int dr), .inl (.int md), .inl (.int bo)])), (80, .inr (.inr (.inl (32, g)))), (81, .inr (.inr (.inr (4, [82, 83, 84])))), (82, .inr (.inr (.inl (32, a0)))), (83, .inr (.inr (.inl (32, a1)))), (84, .inr (.inr (.inl (32, a2)))), (85, .inr (.inl (0, 3, tr))), (86, .inr (.inl (0, 3, va_cpy tr b 0 0 (Int32.ofInt 3).toNatClampNeg)))]) rfl rfl (by first | decide | omega) rfl rfl rfl (by decide +kernel) (by decide +kernel) (by decide +kernel) rfl rfl ?_
      refine ex_return_ cg_78 (ix := 22) rfl ?_
      refine ⟨_, g, tr, _, rfl, rfl, ?_, ?_, htr⟩
      · unfold stX; rw [if_pos (by omega)]
      · unfold stX; rw [if_pos (by omega)]
        intro j hj w hw
        have e1 : va_cpy tr b 0 0 (Int32.ofInt 3).toNatClampNeg j = tr j := by
          unfold va_cpy
          rw [if_pos ⟨Nat.zero_le _, by rw [show (Int32.ofInt 3).toNatClampNeg = 3 by decide +kernel]; omega⟩, Nat.zero_add, Nat.sub_zero]
        rw [e1]
        exact htr j hj w hw
  · have hb2 : ¬ ((Int32.ofInt 3).toInt ≤ (Int32.ofInt 3).toInt) := hb2
    exfalso; first | omega | exact absurd hb2 (by decide +kernel)
theorem tp_3_2 {d : Nat} {dl ds dr md bo q from_ : Int32} {fnd : Int64} {pre : List Nat} {last : Int32} {N1 : Nat} {a0 a1 a2 : Nat → Int64} {accF : Int64 × List Nat} {P : Option cx_V → cx_H → Prop} (hd : 3 ≤ d) (hN1 : N1 ≤ 32) (hlast : last.toInt + 1 = (N1 : Int)) (hpl : pre.length = 2) (hP : ∀ (bf : Int64) (g : Nat → Int64) (tr b : Nat → Int32), bf = accF.1 → okM 3 accF b → (∀ j : Nat, j < 2 → ∀ w : Nat, pre[j]? = some w → (tr j).toInt = (w : Int)) → P none ([(77, .inl (6, [.inr (.inl 78), .inr (.inl 79), .inr (.inl 80), .inr (.inl 81), .inr (.inl 85), .inr (.inl 86), .inl (.long bf), .inl (.int dl), .inl (.int ds), .inl (.int dr), .inl (.int md), .inl (.int bo)])), (80, .inr (.inr (.inl (32, g)))), (81, .inr (.inr (.inr (4, [82, 83, 84])))), (82, .inr (.inr (.inl (32, a0)))), (83, .inr (.inr (.inl (32, a1)))), (84, .inr (.inr (.inl (32, a2)))), (85, .inr (.inl (0, 3, tr))), (86, .inr (.inl (0, 3, b)))])) :
    ∀ m_ k : Nat, k + m_ = N1 → ∀ i : Int32, i.toInt = (k : Int) → ∀ (bf : Int64) (g : Nat → Int64) (tr b : Nat → Int32) (acc : Int64 × List Nat), bf = acc.1 → okM 3 acc b → (∀ j : Nat, j < 2 → ∀ w : Nat, pre[j]? = some w → (tr j).toInt = (w : Int)) → (List.range' k m_).foldl (fun acc pl => tP dl ds dr q 0 pl (nxP dl ds dr q a2 pl) (fnd * Int64.ofInt 32 + q.toInt64 * a2 pl) (pre ++ [pl]) acc) acc = accF → cx_T d 78 [77, 80, 81, 82, 83, 84, 85, 86] 62 ([some (.inr (.inl 77)), some (.inl (.int (Int32.ofInt 2))), some (.inl (.int (Int32.ofInt 3))), some (.inl (.int q)), some (.inl (.int from_)), some (.inl (.long fnd)), none, some (.inl (.int last)), some (.inl (.int i))], [], [(77, .inl (6, [.inr (.inl 78), .inr (.inl 79), .inr (.inl 80), .inr (.inl 81), .inr (.inl 85), .inr (.inl 86), .inl (.long bf), .inl (.int dl), .inl (.int ds), .inl (.int dr), .inl (.int md), .inl (.int bo)])), (80, .inr (.inr (.inl (32, g)))), (81, .inr (.inr (.inr (4, [82, 83, 84])))), (82, .inr (.inr (.inl (32, a0)))), (83, .inr (.inr (.inl (32, a1)))), (84, .inr (.inr (.inl (32, a2)))), (85, .inr (.inl (0, 3, tr))), (86, .inr (.inl (0, 3, b)))]) P := by
  have kc0 : (Int32.ofInt 0).toInt = 0 := by decide +kernel
  have kc1 : (Int32.ofInt 1).toInt = 1 := by decide +kernel
  have kc2 : (Int32.ofInt 2).toInt = 2 := by decide +kernel
  have kc3 : (Int32.ofInt 3).toInt = 3 := by decide +kernel
  have kc31 : (Int32.ofInt 31).toInt = 31 := by decide +kernel
  intro m_
  induction m_ with
  | zero =>
    intro k hk i hi bf g tr b acc hbf hok htr hacc
    refine ex_iload cg_78 (ix := 35) (pc' := 64) rfl rfl rfl ?_
    refine ex_iload cg_78 (ix := 36) (pc' := 66) rfl rfl rfl ?_
    refine ex_icmp cg_78 (ix := 37) (t := 152) (pc' := 69) rfl rfl rfl (fun hb66 => ?_) (fun hb66 => ?_)
    · have hb66 : last.toInt < i.toInt := hb66
      refine ex_return_ cg_78 (ix := 92) rfl ?_
      have hacc : acc = accF := hacc
      subst hacc
      exact hP _ _ _ _ hbf hok htr
    · have hb66 : ¬ (last.toInt < i.toInt) := hb66
      exfalso; first | omega | exact absurd hb66 (by decide +kernel)
  | succ m_ ih =>
    intro k hk i hi bf g tr b acc hbf hok htr hacc
    have hik : i.toNatClampNeg = k := cx_clamp hi
    have hk32 : k < 32 := by omega
    have hst : (Int32.ofInt 2).toNatClampNeg = 2 := by decide +kernel
    have htr3 : ∀ j : Nat, j < 3 → ∀ w : Nat, (pre ++ [k])[j]? = some w → (upd tr (Int32.ofInt 2).toNatClampNeg i j).toInt = (w : Int) := fun j hj w hw => by
      unfold upd
      rw [hst]
      by_cases q1 : j = 2
      · rw [if_pos q1]
        rw [q1, List.getElem?_append_right (by omega), hpl] at hw
        have hw : k = w := Option.some.inj hw
        omega
      · rw [if_neg q1]
        rw [List.getElem?_append_left (by omega)] at hw
        exact htr j (by omega) w hw
    refine ex_iload cg_78 (ix := 35) (pc' := 64) rfl rfl rfl ?_
    refine ex_iload cg_78 (ix := 36) (pc' := 66) rfl rfl rfl ?_
    refine ex_icmp cg_78 (ix := 37) (t := 152) (pc' := 69) rfl rfl rfl (fun hb66 => ?_) (fun hb66 => ?_)
    · have hb66 : last.toInt < i.toInt := hb66
      exfalso; first | omega | exact absurd hb66 (by decide +kernel)
    · have hb66 : ¬ (last.toInt < i.toInt) := hb66
      refine ex_aload_n cg_78 (ix := 38) (pc' := 70) rfl rfl rfl ?_
      refine ex_getfield cg_78 (ix := 39) (pc' := 73) rfl rfl rfl rfl rfl ?_
      refine ex_iload_n cg_78 (ix := 40) (pc' := 74) rfl rfl rfl ?_
      refine ex_iload cg_78 (ix := 41) (pc' := 76) rfl rfl rfl ?_
      refine ex_iastore cg_78 (ix := 42) (pc' := 77) (h' := [(77, .inl (6, [.inr (.inl 78), .inr (.inl 79), .inr (.inl 80), .inr (.inl 81), .inr (.inl 85), .inr (.inl 86), .inl (.long bf), .inl (.int dl), .inl (.int ds), .inl (.int dr), .inl (.int md), .inl (.int bo)])), (80, .inr (.inr (.inl (32, g)))), (81, .inr (.inr (.inr (4, [82, 83, 84])))), (82, .inr (.inr (.inl (32, a0)))), (83, .inr (.inr (.inl (32, a1)))), (84, .inr (.inr (.inl (32, a2)))), (85, .inr (.inl (0, 3, upd tr (Int32.ofInt 2).toNatClampNeg i))), (86, .inr (.inl (0, 3, b)))]) rfl rfl (by omega) (by omega) rfl rfl ?_
      refine ex_iload_n cg_78 (ix := 43) (pc' := 78) rfl rfl rfl ?_
      refine ex_iconst cg_78 (ix := 44) (pc' := 79) rfl rfl ?_
      refine ex_iadd cg_78 (ix := 45) (pc' := 80) rfl rfl ?_
      rw [show (Int32.ofInt 2) + (Int32.ofInt 1) = Int32.ofInt 3 by decide +kernel]
      refine ex_iload_n cg_78 (ix := 46) (pc' := 81) rfl rfl rfl ?_
      refine ex_icmp cg_78 (ix := 47) (t := 116) (pc' := 84) rfl rfl rfl (fun hb81 => ?_) (fun hb81 => ?_)
      · have hb81 : (Int32.ofInt 3).toInt ≤ (Int32.ofInt 3).toInt := hb81
        refine ex_aload_n cg_78 (ix := 69) (pc' := 117) rfl rfl rfl ?_
        refine ex_iload_n cg_78 (ix := 70) (pc' := 118) rfl rfl rfl ?_
        refine ex_iconst cg_78 (ix := 71) (pc' := 119) rfl rfl ?_
        refine ex_iadd cg_78 (ix := 72) (pc' := 120) rfl rfl ?_
        rw [show (Int32.ofInt 2) + (Int32.ofInt 1) = Int32.ofInt 3 by decide +kernel]
        refine ex_iload_n cg_78 (ix := 73) (pc' := 121) rfl rfl rfl ?_
        refine ex_iload_n cg_78 (ix := 74) (pc' := 122) rfl rfl rfl ?_
        refine ex_iload cg_78 (ix := 75) (pc' := 124) rfl rfl rfl ?_
        refine ex_lload cg_78 (ix := 76) (pc' := 126) rfl rfl rfl ?_
        refine ex_ldc2_w cg_78 (ix := 77) (pc' := 129) rfl rfl rfl ?_
        refine ex_lmul cg_78 (ix := 78) (pc' := 130) rfl rfl ?_
        refine ex_iload_n cg_78 (ix := 79) (pc' := 131) rfl rfl rfl ?_
        refine ex_i2l cg_78 (ix := 80) (pc' := 132) rfl rfl ?_
        refine ex_aload_n cg_78 (ix := 81) (pc' := 133) rfl rfl rfl ?_
        refine ex_getfield cg_78 (ix := 82) (pc' := 136) rfl rfl rfl rfl rfl ?_
        refine ex_iload_n cg_78 (ix := 83) (pc' := 137) rfl rfl rfl ?_
        refine ex_aaload cg_78 (ix := 84) (pc' := 138) (k1 := 84) rfl rfl (by decide +kernel) (by decide +kernel) rfl ?_
        refine ex_iload cg_78 (ix := 85) (pc' := 140) rfl rfl rfl ?_
        refine ex_laload cg_78 (ix := 86) (pc' := 141) rfl rfl (by omega) (by omega) rfl ?_
        refine ex_lmul cg_78 (ix := 87) (pc' := 142) rfl rfl ?_
        refine ex_ladd cg_78 (ix := 88) (pc' := 143) rfl rfl ?_
        refine ex_callV cg_78 (ix := 89) (pc' := 146) (As := [.inl (.int (Int32.ofInt 3)), .inl (.int (Int32.ofInt 3)), .inl (.int q), .inl (.int i), .inl (.long ((fnd * (Int64.ofInt 32)) + ((Int32.toInt64 q) * (a2 i.toNatClampNeg))))]) (r := []) rfl rfl rfl (tl_3_3 (dl := dl) (ds := ds) (dr := dr) (md := md) (bo := bo) (q := q) (from_ := i) (fnd := (fnd * (Int64.ofInt 32)) + ((Int32.toInt64 q) * (a2 i.toNatClampNeg))) (pre := pre ++ [k]) (acc := acc) (bf := bf) (g := g) (a0 := a0) (a1 := a1) (a2 := a2) (tr := upd tr (Int32.ofInt 2).toNatClampNeg i) (b := b) hbf hok htr3 (by rw [List.length_append, hpl]; rfl)) (by first | decide | omega) rfl rfl rfl ⟨rfl, rfl, rfl, rfl, rfl, rfl, rfl, rfl, trivial⟩ rfl rfl (fun v h2 hq => ?_)
        obtain ⟨bf2, g2, tr2, b2, rfl, rfl, hbf2, hok2, htr2⟩ := hq
        show cx_T _ 78 _ 146 ([some (.inr (.inl 77)), some (.inl (.int (Int32.ofInt 2))), some (.inl (.int (Int32.ofInt 3))), some (.inl (.int q)), some (.inl (.int from_)), some (.inl (.long fnd)), none, some (.inl (.int last)), some (.inl (.int i))], [], [(77, .inl (6, [.inr (.inl 78), .inr (.inl 79), .inr (.inl 80), .inr (.inl 81), .inr (.inl 85), .inr (.inl 86), .inl (.long bf2), .inl (.int dl), .inl (.int ds), .inl (.int dr), .inl (.int md), .inl (.int bo)])), (80, .inr (.inr (.inl (32, g2)))), (81, .inr (.inr (.inr (4, [82, 83, 84])))), (82, .inr (.inr (.inl (32, a0)))), (83, .inr (.inr (.inl (32, a1)))), (84, .inr (.inr (.inl (32, a2)))), (85, .inr (.inl (0, 3, tr2))), (86, .inr (.inl (0, 3, b2)))]) _
        refine ex_iinc cg_78 (ix := 90) (pc' := 149) (L' := [some (.inr (.inl 77)), some (.inl (.int (Int32.ofInt 2))), some (.inl (.int (Int32.ofInt 3))), some (.inl (.int q)), some (.inl (.int from_)), some (.inl (.long fnd)), none, some (.inl (.int last)), some (.inl (.int (i + Int32.ofInt 1)))]) rfl rfl rfl rfl rfl ?_
        refine ex_goto cg_78 (ix := 91) (pc' := 62) rfl rfl ?_
        have e7 : a2 i.toNatClampNeg = a2 k := by rw [hik]
        rw [e7] at hbf2 hok2
        refine ih (k + 1) (by omega) _ (by rw [cx_addc (by omega) (by omega)]; omega) _ _ _ _ _ hbf2 hok2 (fun j hj w hw => htr2 j (by omega) w ?_) ?_
        · rw [List.getElem?_append_left (by omega)]; exact hw
        · rw [← hacc, List.range'_succ, List.foldl_cons]
          rfl
      · have hb81 : ¬ ((Int32.ofInt 3).toInt ≤ (Int32.ofInt 3).toInt) := hb81
        exfalso; first | omega | exact absurd hb81 (by decide +kernel)
theorem tl_3_2 {dl ds dr md bo q from_ : Int32} {fnd : Int64} {pre : List Nat} {acc : Int64 × List Nat} {bf : Int64} {g a0 a1 a2 : Nat → Int64} {tr b : Nat → Int32} {bN : Nat} (hfr : from_.toInt = (bN : Int)) (hb32 : bN < 32) (hbf : bf = acc.1) (hok : okM 3 acc b) (htr : (∀ j : Nat, j < 2 → ∀ w : Nat, pre[j]? = some w → (tr j).toInt = (w : Int))) (hpl : pre.length = 2) : cx_Ct 3 78 [.inr (.inl 77), .inl (.int (Int32.ofInt 2)), .inl (.int (Int32.ofInt 3)), .inl (.int q), .inl (.int from_), .inl (.long fnd)] ([(77, .inl (6, [.inr (.inl 78), .inr (.inl 79), .inr (.inl 80), .inr (.inl 81), .inr (.inl 85), .inr (.inl 86), .inl (.long bf), .inl (.int dl), .inl (.int ds), .inl (.int dr), .inl (.int md), .inl (.int bo)])), (80, .inr (.inr (.inl (32, g)))), (81, .inr (.inr (.inr (4, [82, 83, 84])))), (82, .inr (.inr (.inl (32, a0)))), (83, .inr (.inr (.inl (32, a1)))), (84, .inr (.inr (.inl (32, a2)))), (85, .inr (.inl (0, 3, tr))), (86, .inr (.inl (0, 3, b)))]) (fun v h2 => ∃ (bf2 : Int64) (g2 : Nat → Int64) (tr2 b2 : Nat → Int32), v = none ∧ h2 = [(77, .inl (6, [.inr (.inl 78), .inr (.inl 79), .inr (.inl 80), .inr (.inl 81), .inr (.inl 85), .inr (.inl 86), .inl (.long bf2), .inl (.int dl), .inl (.int ds), .inl (.int dr), .inl (.int md), .inl (.int bo)])), (80, .inr (.inr (.inl (32, g2)))), (81, .inr (.inr (.inr (4, [82, 83, 84])))), (82, .inr (.inr (.inl (32, a0)))), (83, .inr (.inr (.inl (32, a1)))), (84, .inr (.inr (.inl (32, a2)))), (85, .inr (.inl (0, 3, tr2))), (86, .inr (.inl (0, 3, b2)))] ∧ bf2 = (tP dl ds dr q 1 bN a2 fnd pre acc).1 ∧ okM 3 (tP dl ds dr q 1 bN a2 fnd pre acc) b2 ∧ (∀ j : Nat, j < 2 → ∀ w : Nat, pre[j]? = some w → (tr2 j).toInt = (w : Int))) := by
  have kc0 : (Int32.ofInt 0).toInt = 0 := by decide +kernel
  have kc1 : (Int32.ofInt 1).toInt = 1 := by decide +kernel
  have kc2 : (Int32.ofInt 2).toInt = 2 := by decide +kernel
  have kc3 : (Int32.ofInt 3).toInt = 3 := by decide +kernel
  have kc31 : (Int32.ofInt 31).toInt = 31 := by decide +kernel
  refine cx_Ct.of cg_78 (nL := 9) rfl rfl rfl ?_
  show cx_T 3 78 [77, 80, 81, 82, 83, 84, 85, 86] 0 ([some (.inr (.inl 77)), some (.inl (.int (Int32.ofInt 2))), some (.inl (.int (Int32.ofInt 3))), some (.inl (.int q)), some (.inl (.int from_)), some (.inl (.long fnd)), none, none, none], [], [(77, .inl (6, [.inr (.inl 78), .inr (.inl 79), .inr (.inl 80), .inr (.inl 81), .inr (.inl 85), .inr (.inl 86), .inl (.long bf), .inl (.int dl), .inl (.int ds), .inl (.int dr), .inl (.int md), .inl (.int bo)])), (80, .inr (.inr (.inl (32, g)))), (81, .inr (.inr (.inr (4, [82, 83, 84])))), (82, .inr (.inr (.inl (32, a0)))), (83, .inr (.inr (.inl (32, a1)))), (84, .inr (.inr (.inl (32, a2)))), (85, .inr (.inl (0, 3, tr))), (86, .inr (.inl (0, 3, b)))]) _
  refine ex_iload_n cg_78 (ix := 0) (pc' := 1) rfl rfl rfl ?_
  refine ex_iload_n cg_78 (ix := 1) (pc' := 2) rfl rfl rfl ?_
  refine ex_icmp cg_78 (ix := 2) (t := 10) (pc' := 5) rfl rfl rfl (fun hb2 => ?_) (fun hb2 => ?_)
  · have hb2 : (Int32.ofInt 3).toInt ≤ (Int32.ofInt 2).toInt := hb2
    exfalso; first | omega | exact absurd hb2 (by decide +kernel)
  · have hb2 : ¬ ((Int32.ofInt 3).toInt ≤ (Int32.ofInt 2).toInt) := hb2
    refine ex_iload_n cg_78 (ix := 3) (pc' := 6) rfl rfl rfl ?_
    refine ex_iconst cg_78 (ix := 4) (pc' := 7) rfl rfl ?_
    refine ex_icmp cg_78 (ix := 5) (t := 41) (pc' := 10) rfl rfl rfl (fun hb7 => ?_) (fun hb7 => ?_)
    · have hb7 : (Int32.ofInt 2).toInt < (Int32.ofInt 3).toInt := hb7
      refine ex_bipush cg_78 (ix := 23) (pc' := 43) rfl rfl rfl ?_
      refine ex_iload cg_78 (ix := 24) (pc' := 45) rfl rfl rfl ?_
      refine ex_iconst cg_78 (ix := 25) (pc' := 46) rfl rfl ?_
      refine ex_iadd cg_78 (ix := 26) (pc' := 47) rfl rfl ?_
      refine ex_min cg_78 (ix := 27) (pc' := 50) rfl rfl (by first | decide | omega) rfl rfl ?_
      refine ex_istore cg_78 (ix := 28) (pc' := 52) (L' := [some (.inr (.inl 77)), some (.inl (.int (Int32.ofInt 2))), some (.inl (.int (Int32.ofInt 3))), some (.inl (.int q)), some (.inl (.int from_)), some (.inl (.long fnd)), none, some (.inl (.int (if (from_ + (Int32.ofInt 3)) < (Int32.ofInt 31) then (from_ + (Int32.ofInt 3)) else (Int32.ofInt 31)))), none]) rfl rfl rfl rfl ?_
      refine ex_iconst cg_78 (ix := 29) (pc' := 53) rfl rfl ?_
      refine ex_iload cg_78 (ix := 30) (pc' := 55) rfl rfl rfl ?_
      refine ex_iconst cg_78 (ix := 31) (pc' := 56) rfl rfl ?_
      refine ex_isub cg_78 (ix := 32) (pc' := 57) rfl rfl ?_
      refine ex_max cg_78 (ix := 33) (pc' := 60) rfl rfl (by first | decide | omega) rfl rfl ?_
      refine ex_istore cg_78 (ix := 34) (pc' := 62) (L' := [some (.inr (.inl 77)), some (.inl (.int (Int32.ofInt 2))), some (.inl (.int (Int32.ofInt 3))), some (.inl (.int q)), some (.inl (.int from_)), some (.inl (.long fnd)), none, some (.inl (.int (if (from_ + (Int32.ofInt 3)) < (Int32.ofInt 31) then (from_ + (Int32.ofInt 3)) else (Int32.ofInt 31)))), some (.inl (.int (if (Int32.ofInt 0) < (from_ - (Int32.ofInt 3)) then (from_ - (Int32.ofInt 3)) else (Int32.ofInt 0))))]) rfl rfl rfl rfl ?_
      have e1 : (from_ + Int32.ofInt 3).toInt = (bN : Int) + 3 := by rw [cx_addc (by omega) (by omega)]; omega
      have e2 : (from_ - Int32.ofInt 3).toInt = (bN : Int) - 3 := by rw [cx_subc (by omega) (by omega)]; omega
      have e3 : (if (from_ + (Int32.ofInt 3)) < (Int32.ofInt 31) then (from_ + (Int32.ofInt 3)) else (Int32.ofInt 31) : Int32).toInt + 1 = ((min 31 (bN + 3) + 1 : Nat) : Int) := by
        by_cases q1 : (from_ + Int32.ofInt 3) < Int32.ofInt 31
        · rw [if_pos q1]; rw [Int32.lt_iff_toInt_lt] at q1; omega
        · rw [if_neg q1]; rw [Int32.lt_iff_toInt_lt] at q1; omega
      have e4 : (if (Int32.ofInt 0) < (from_ - (Int32.ofInt 3)) then (from_ - (Int32.ofInt 3)) else (Int32.ofInt 0) : Int32).toInt = ((bN - 3 : Nat) : Int) := by
        by_cases q1 : Int32.ofInt 0 < (from_ - Int32.ofInt 3)
        · rw [if_pos q1]; rw [Int32.lt_iff_toInt_lt] at q1; omega
        · rw [if_neg q1]; rw [Int32.lt_iff_toInt_lt] at q1; omega
      refine tp_3_2 (d := 3) (accF := tP dl ds dr q 1 bN a2 fnd pre acc) (by decide) (by omega) e3 hpl (fun bf2 g2 tr2 b2 h1 h2 h3 => ⟨bf2, g2, tr2, b2, rfl, rfl, h1, h2, h3⟩) (min 31 (bN + 3) + 1 - (bN - 3)) (bN - 3) (by omega) _ e4 bf g tr b acc hbf hok htr ?_
      rfl
    · have hb7 : ¬ ((Int32.ofInt 2).toInt < (Int32.ofInt 3).toInt) := hb7
      exfalso; first | omega | exact absurd hb7 (by decide +kernel)
theorem tp_3_1 {d : Nat} {dl ds dr md bo q from_ : Int32} {fnd : Int64} {pre : List Nat} {last : Int32} {N1 : Nat} {a0 a1 : Nat → Int64} {accF : Int64 × List Nat} {P : Option cx_V → cx_H → Prop} (hd : 4 ≤ d) (hN1 : N1 ≤ 32) (hlast : last.toInt + 1 = (N1 : Int)) (hpl : pre.length = 1) (hP : ∀ (bf : Int64) (g a2 : Nat → Int64) (tr b : Nat → Int32), bf = accF.1 → okM 3 accF b → (∀ j : Nat, j < 1 → ∀ w : Nat, pre[j]? = some w → (tr j).toInt = (w : Int)) → P none ([(77, .inl (6, [.inr (.inl 78), .inr (.inl 79), .inr (.inl 80), .inr (.inl 81), .inr (.inl 85), .inr (.inl 86), .inl (.long bf), .inl (.int dl), .inl (.int ds), .inl (.int dr), .inl (.int md), .inl (.int bo)])), (80, .inr (.inr (.inl (32, g)))), (81, .inr (.inr (.inr (4, [82, 83, 84])))), (82, .inr (.inr (.inl (32, a0)))), (83, .inr (.inr (.inl (32, a1)))), (84, .inr (.inr (.inl (32, a2)))), (85, .inr (.inl (0, 3, tr))), (86, .inr (.inl (0, 3, b)))])) :
    ∀ m_ k : Nat, k + m_ = N1 → ∀ i : Int32, i.toInt = (k : Int) → ∀ (bf : Int64) (g a2 : Nat → Int64) (tr b : Nat → Int32) (acc : Int64 × List Nat), bf = acc.1 → okM 3 acc b → (∀ j : Nat, j < 1 → ∀ w : Nat, pre[j]? = some w → (tr j).toInt = (w : Int)) → (List.range' k m_).foldl (fun acc pl => tP dl ds dr q 1 pl (nxP dl ds dr q a1 pl) (fnd * Int64.ofInt 32 + q.toInt64 * a1 pl) (pre ++ [pl]) acc) acc = accF → cx_T d 78 [77, 80, 81, 82, 83, 84, 85, 86] 62 ([some (.inr (.inl 77)), some (.inl (.int (Int32.ofInt 1))), some (.inl (.int (Int32.ofInt 3))), some (.inl (.int q)), some (.inl (.int from_)), some (.inl (.long fnd)), none, some (.inl (.int last)), some (.inl (.int i))], [], [(77, .inl (6, [.inr (.inl 78), .inr (.inl 79), .inr (.inl 80), .inr (.inl 81), .inr (.inl 85), .inr (.inl 86), .inl (.long bf), .inl (.int dl), .inl (.int ds), .inl (.int dr), .inl (.int md), .inl (.int bo)])), (80, .inr (.inr (.inl (32, g)))), (81, .inr (.inr (.inr (4, [82, 83, 84])))), (82, .inr (.inr (.inl (32, a0)))), (83, .inr (.inr (.inl (32, a1)))), (84, .inr (.inr (.inl (32, a2)))), (85, .inr (.inl (0, 3, tr))), (86, .inr (.inl (0, 3, b)))]) P := by
  have kc0 : (Int32.ofInt 0).toInt = 0 := by decide +kernel
  have kc1 : (Int32.ofInt 1).toInt = 1 := by decide +kernel
  have kc2 : (Int32.ofInt 2).toInt = 2 := by decide +kernel
  have kc3 : (Int32.ofInt 3).toInt = 3 := by decide +kernel
  have kc31 : (Int32.ofInt 31).toInt = 31 := by decide +kernel
  intro m_
  induction m_ with
  | zero =>
    intro k hk i hi bf g a2 tr b acc hbf hok htr hacc
    refine ex_iload cg_78 (ix := 35) (pc' := 64) rfl rfl rfl ?_
    refine ex_iload cg_78 (ix := 36) (pc' := 66) rfl rfl rfl ?_
    refine ex_icmp cg_78 (ix := 37) (t := 152) (pc' := 69) rfl rfl rfl (fun hb66 => ?_) (fun hb66 => ?_)
    · have hb66 : last.toInt < i.toInt := hb66
      refine ex_return_ cg_78 (ix := 92) rfl ?_
      have hacc : acc = accF := hacc
      subst hacc
      exact hP _ _ _ _ _ hbf hok htr
    · have hb66 : ¬ (last.toInt < i.toInt) := hb66
      exfalso; first | omega | exact absurd hb66 (by decide +kernel)
  | succ m_ ih =>
    intro k hk i hi bf g a2 tr b acc hbf hok htr hacc
    have hik : i.toNatClampNeg = k := cx_clamp hi
    have hk32 : k < 32 := by omega
    have hst : (Int32.ofInt 1).toNatClampNeg = 1 := by decide +kernel
    have htr3 : ∀ j : Nat, j < 2 → ∀ w : Nat, (pre ++ [k])[j]? = some w → (upd tr (Int32.ofInt 1).toNatClampNeg i j).toInt = (w : Int) := fun j hj w hw => by
      unfold upd
      rw [hst]
      by_cases q1 : j = 1
      · rw [if_pos q1]
        rw [q1, List.getElem?_append_right (by omega), hpl] at hw
        have hw : k = w := Option.some.inj hw
        omega
      · rw [if_neg q1]
        rw [List.getElem?_append_left (by omega)] at hw
        exact htr j (by omega) w hw
    refine ex_iload cg_78 (ix := 35) (pc' := 64) rfl rfl rfl ?_
    refine ex_iload cg_78 (ix := 36) (pc' := 66) rfl rfl rfl ?_
    refine ex_icmp cg_78 (ix := 37) (t := 152) (pc' := 69) rfl rfl rfl (fun hb66 => ?_) (fun hb66 => ?_)
    · have hb66 : last.toInt < i.toInt := hb66
      exfalso; first | omega | exact absurd hb66 (by decide +kernel)
    · have hb66 : ¬ (last.toInt < i.toInt) := hb66
      refine ex_aload_n cg_78 (ix := 38) (pc' := 70) rfl rfl rfl ?_
      refine ex_getfield cg_78 (ix := 39) (pc' := 73) rfl rfl rfl rfl rfl ?_
      refine ex_iload_n cg_78 (ix := 40) (pc' := 74) rfl rfl rfl ?_
      refine ex_iload cg_78 (ix := 41) (pc' := 76) rfl rfl rfl ?_
      refine ex_iastore cg_78 (ix := 42) (pc' := 77) (h' := [(77, .inl (6, [.inr (.inl 78), .inr (.inl 79), .inr (.inl 80), .inr (.inl 81), .inr (.inl 85), .inr (.inl 86), .inl (.long bf), .inl (.int dl), .inl (.int ds), .inl (.int dr), .inl (.int md), .inl (.int bo)])), (80, .inr (.inr (.inl (32, g)))), (81, .inr (.inr (.inr (4, [82, 83, 84])))), (82, .inr (.inr (.inl (32, a0)))), (83, .inr (.inr (.inl (32, a1)))), (84, .inr (.inr (.inl (32, a2)))), (85, .inr (.inl (0, 3, upd tr (Int32.ofInt 1).toNatClampNeg i))), (86, .inr (.inl (0, 3, b)))]) rfl rfl (by omega) (by omega) rfl rfl ?_
      refine ex_iload_n cg_78 (ix := 43) (pc' := 78) rfl rfl rfl ?_
      refine ex_iconst cg_78 (ix := 44) (pc' := 79) rfl rfl ?_
      refine ex_iadd cg_78 (ix := 45) (pc' := 80) rfl rfl ?_
      rw [show (Int32.ofInt 1) + (Int32.ofInt 1) = Int32.ofInt 2 by decide +kernel]
      refine ex_iload_n cg_78 (ix := 46) (pc' := 81) rfl rfl rfl ?_
      refine ex_icmp cg_78 (ix := 47) (t := 116) (pc' := 84) rfl rfl rfl (fun hb81 => ?_) (fun hb81 => ?_)
      · have hb81 : (Int32.ofInt 3).toInt ≤ (Int32.ofInt 2).toInt := hb81
        exfalso; first | omega | exact absurd hb81 (by decide +kernel)
      · have hb81 : ¬ ((Int32.ofInt 3).toInt ≤ (Int32.ofInt 2).toInt) := hb81
        refine ex_iload_n cg_78 (ix := 48) (pc' := 85) rfl rfl rfl ?_
        refine ex_iconst cg_78 (ix := 49) (pc' := 86) rfl rfl ?_
        refine ex_iadd cg_78 (ix := 50) (pc' := 87) rfl rfl ?_
        rw [show (Int32.ofInt 1) + (Int32.ofInt 1) = Int32.ofInt 2 by decide +kernel]
        refine ex_iconst cg_78 (ix := 51) (pc' := 88) rfl rfl ?_
        refine ex_icmp cg_78 (ix := 52) (t := 116) (pc' := 91) rfl rfl rfl (fun hb88 => ?_) (fun hb88 => ?_)
        · have hb88 : (Int32.ofInt 3).toInt ≤ (Int32.ofInt 2).toInt := hb88
          exfalso; first | omega | exact absurd hb88 (by decide +kernel)
        · have hb88 : ¬ ((Int32.ofInt 3).toInt ≤ (Int32.ofInt 2).toInt) := hb88
          refine ex_aload_n cg_78 (ix := 53) (pc' := 92) rfl rfl rfl ?_
          refine ex_aload_n cg_78 (ix := 54) (pc' := 93) rfl rfl rfl ?_
          refine ex_getfield cg_78 (ix := 55) (pc' := 96) rfl rfl rfl rfl rfl ?_
          refine ex_iload_n cg_78 (ix := 56) (pc' := 97) rfl rfl rfl ?_
          refine ex_aaload cg_78 (ix := 57) (pc' := 98) (k1 := 83) rfl rfl (by decide +kernel) (by decide +kernel) rfl ?_
          refine ex_iload cg_78 (ix := 58) (pc' := 100) rfl rfl rfl ?_
          refine ex_iload_n cg_78 (ix := 59) (pc' := 101) rfl rfl rfl ?_
          refine ex_callV cg_78 (ix := 60) (pc' := 104) (As := [.inr (.inl 83), .inl (.int i), .inl (.int q)]) (r := []) rfl rfl rfl (ct_lt83 (bf := bf) (dl := dl) (ds := ds) (dr := dr) (md := md) (bo := bo) (f := a1) (g := g) (p := i) (q := q)) (by first | decide | omega) rfl rfl rfl ⟨rfl, rfl, rfl, trivial⟩ rfl rfl (fun v h2 hq => ?_)
          obtain ⟨rfl, rfl⟩ := hq
          show cx_T _ 78 _ 104 ([some (.inr (.inl 77)), some (.inl (.int (Int32.ofInt 1))), some (.inl (.int (Int32.ofInt 3))), some (.inl (.int q)), some (.inl (.int from_)), some (.inl (.long fnd)), none, some (.inl (.int last)), some (.inl (.int i))], [], [(77, .inl (6, [.inr (.inl 78), .inr (.inl 79), .inr (.inl 80), .inr (.inl 81), .inr (.inl 85), .inr (.inl 86), .inl (.long bf), .inl (.int dl), .inl (.int ds), .inl (.int dr), .inl (.int md), .inl (.int bo)])), (80, .inr (.inr (.inl (32, rowU (lkF a1 i q) g 32)))), (81, .inr (.inr (.inr (4, [82, 83, 84])))), (82, .inr (.inr (.inl (32, a0)))), (83, .inr (.inr (.inl (32, a1)))), (84, .inr (.inr (.inl (32, a2)))), (85, .inr (.inl (0, 3, upd tr (Int32.ofInt 1).toNatClampNeg i))), (86, .inr (.inl (0, 3, b)))]) _
          refine ex_aload_n cg_78 (ix := 61) (pc' := 105) rfl rfl rfl ?_
          refine ex_aload_n cg_78 (ix := 62) (pc' := 106) rfl rfl rfl ?_
          refine ex_getfield cg_78 (ix := 63) (pc' := 109) rfl rfl rfl rfl rfl ?_
          refine ex_iload_n cg_78 (ix := 64) (pc' := 110) rfl rfl rfl ?_
          refine ex_iconst cg_78 (ix := 65) (pc' := 111) rfl rfl ?_
          refine ex_iadd cg_78 (ix := 66) (pc' := 112) rfl rfl ?_
          rw [show (Int32.ofInt 1) + (Int32.ofInt 1) = Int32.ofInt 2 by decide +kernel]
          refine ex_aaload cg_78 (ix := 67) (pc' := 113) (k1 := 84) rfl rfl (by decide +kernel) (by decide +kernel) rfl ?_
          refine ex_callV cg_78 (ix := 68) (pc' := 116) (As := [.inr (.inl 84)]) (r := []) rfl rfl rfl (ct_cy84 (bf := bf) (dl := dl) (ds := ds) (dr := dr) (md := md) (bo := bo) (g := rowU (lkF a1 i q) g 32) (t := a2)) (by first | decide | omega) rfl rfl rfl ⟨rfl, rfl, rfl, trivial⟩ rfl rfl (fun v h2 hq => ?_)
          obtain ⟨rfl, rfl⟩ := hq
          show cx_T _ 78 _ 116 ([some (.inr (.inl 77)), some (.inl (.int (Int32.ofInt 1))), some (.inl (.int (Int32.ofInt 3))), some (.inl (.int q)), some (.inl (.int from_)), some (.inl (.long fnd)), none, some (.inl (.int last)), some (.inl (.int i))], [], [(77, .inl (6, [.inr (.inl 78), .inr (.inl 79), .inr (.inl 80), .inr (.inl 81), .inr (.inl 85), .inr (.inl 86), .inl (.long bf), .inl (.int dl), .inl (.int ds), .inl (.int dr), .inl (.int md), .inl (.int bo)])), (80, .inr (.inr (.inl (32, rowU (lkF a1 i q) g 32)))), (81, .inr (.inr (.inr (4, [82, 83, 84])))), (82, .inr (.inr (.inl (32, a0)))), (83, .inr (.inr (.inl (32, a1)))), (84, .inr (.inr (.inl (32, rowU (drF (rowU (lkF a1 i q) g 32) dl ds dr) a2 32)))), (85, .inr (.inl (0, 3, upd tr (Int32.ofInt 1).toNatClampNeg i))), (86, .inr (.inl (0, 3, b)))]) _
          refine ex_aload_n cg_78 (ix := 69) (pc' := 117) rfl rfl rfl ?_
          refine ex_iload_n cg_78 (ix := 70) (pc' := 118) rfl rfl rfl ?_
          refine ex_iconst cg_78 (ix := 71) (pc' := 119) rfl rfl ?_
          refine ex_iadd cg_78 (ix := 72) (pc' := 120) rfl rfl ?_
          rw [show (Int32.ofInt 1) + (Int32.ofInt 1) = Int32.ofInt 2 by decide +kernel]
          refine ex_iload_n cg_78 (ix := 73) (pc' := 121) rfl rfl rfl ?_
          refine ex_iload_n cg_78 (ix := 74) (pc' := 122) rfl rfl rfl ?_
          refine ex_iload cg_78 (ix := 75) (pc' := 124) rfl rfl rfl ?_
          refine ex_lload cg_78 (ix := 76) (pc' := 126) rfl rfl rfl ?_
          refine ex_ldc2_w cg_78 (ix := 77) (pc' := 129) rfl rfl rfl ?_
          refine ex_lmul cg_78 (ix := 78) (pc' := 130) rfl rfl ?_
          refine ex_iload_n cg_78 (ix := 79) (pc' := 131) rfl rfl rfl ?_
          refine ex_i2l cg_78 (ix := 80) (pc' := 132) rfl rfl ?_
          refine ex_aload_n cg_78 (ix := 81) (pc' := 133) rfl rfl rfl ?_
          refine ex_getfield cg_78 (ix := 82) (pc' := 136) rfl rfl rfl rfl rfl ?_
          refine ex_iload_n cg_78 (ix := 83) (pc' := 137) rfl rfl rfl ?_
          refine ex_aaload cg_78 (ix := 84) (pc' := 138) (k1 := 83) rfl rfl (by decide +kernel) (by decide +kernel) rfl ?_
          refine ex_iload cg_78 (ix := 85) (pc' := 140) rfl rfl rfl ?_
          refine ex_laload cg_78 (ix := 86) (pc' := 141) rfl rfl (by omega) (by omega) rfl ?_
          refine ex_lmul cg_78 (ix := 87) (pc' := 142) rfl rfl ?_
          refine ex_ladd cg_78 (ix := 88) (pc' := 143) rfl rfl ?_
          refine ex_callV cg_78 (ix := 89) (pc' := 146) (As := [.inl (.int (Int32.ofInt 2)), .inl (.int (Int32.ofInt 3)), .inl (.int q), .inl (.int i), .inl (.long ((fnd * (Int64.ofInt 32)) + ((Int32.toInt64 q) * (a1 i.toNatClampNeg))))]) (r := []) rfl rfl rfl (tl_3_2 (dl := dl) (ds := ds) (dr := dr) (md := md) (bo := bo) (q := q) (from_ := i) (fnd := (fnd * (Int64.ofInt 32)) + ((Int32.toInt64 q) * (a1 i.toNatClampNeg))) (pre := pre ++ [k]) (acc := acc) (bf := bf) (g := rowU (lkF a1 i q) g 32) (a0 := a0) (a1 := a1) (a2 := rowU (drF (rowU (lkF a1 i q) g 32) dl ds dr) a2 32) (tr := upd tr (Int32.ofInt 1).toNatClampNeg i) (b := b) (bN := k) hi hk32 hbf hok htr3 (by rw [List.length_append, hpl]; rfl)) (by first | decide | omega) rfl rfl rfl ⟨rfl, rfl, rfl, rfl, rfl, rfl, rfl, rfl, trivial⟩ rfl rfl (fun v h2 hq => ?_)
          obtain ⟨bf2, g2, tr2, b2, rfl, rfl, hbf2, hok2, htr2⟩ := hq
          show cx_T _ 78 _ 146 ([some (.inr (.inl 77)), some (.inl (.int (Int32.ofInt 1))), some (.inl (.int (Int32.ofInt 3))), some (.inl (.int q)), some (.inl (.int from_)), some (.inl (.long fnd)), none, some (.inl (.int last)), some (.inl (.int i))], [], [(77, .inl (6, [.inr (.inl 78), .inr (.inl 79), .inr (.inl 80), .inr (.inl 81), .inr (.inl 85), .inr (.inl 86), .inl (.long bf2), .inl (.int dl), .inl (.int ds), .inl (.int dr), .inl (.int md), .inl (.int bo)])), (80, .inr (.inr (.inl (32, g2)))), (81, .inr (.inr (.inr (4, [82, 83, 84])))), (82, .inr (.inr (.inl (32, a0)))), (83, .inr (.inr (.inl (32, a1)))), (84, .inr (.inr (.inl (32, rowU (drF (rowU (lkF a1 i q) g 32) dl ds dr) a2 32)))), (85, .inr (.inl (0, 3, tr2))), (86, .inr (.inl (0, 3, b2)))]) _
          refine ex_iinc cg_78 (ix := 90) (pc' := 149) (L' := [some (.inr (.inl 77)), some (.inl (.int (Int32.ofInt 1))), some (.inl (.int (Int32.ofInt 3))), some (.inl (.int q)), some (.inl (.int from_)), some (.inl (.long fnd)), none, some (.inl (.int last)), some (.inl (.int (i + Int32.ofInt 1)))]) rfl rfl rfl rfl rfl ?_
          refine ex_goto cg_78 (ix := 91) (pc' := 62) rfl rfl ?_
          have e7 : a1 i.toNatClampNeg = a1 k := by rw [hik]
          rw [e7] at hbf2 hok2
          refine ih (k + 1) (by omega) _ (by rw [cx_addc (by omega) (by omega)]; omega) _ _ _ _ _ _ hbf2 hok2 (fun j hj w hw => htr2 j (by omega) w ?_) ?_
          · rw [List.getElem?_append_left (by omega)]; exact hw
          · rw [← hacc, List.range'_succ, List.foldl_cons]
            rw [tP_E 1 k (rowU (drF (rowU (lkF a1 i q) g 32) dl ds dr) a2 32) (nxP dl ds dr q a1 k) _ _ _ (fun x hx => ?_)]
            rw [rowU_in hx]
            refine drF_E (fun y hy => ?_) hx
            rw [rowU_in hy, lkF_N hi]
theorem tl_3_1 {dl ds dr md bo q from_ : Int32} {fnd : Int64} {pre : List Nat} {acc : Int64 × List Nat} {bf : Int64} {g a0 a1 a2 : Nat → Int64} {tr b : Nat → Int32} {bN : Nat} (hfr : from_.toInt = (bN : Int)) (hb32 : bN < 32) (hbf : bf = acc.1) (hok : okM 3 acc b) (htr : (∀ j : Nat, j < 1 → ∀ w : Nat, pre[j]? = some w → (tr j).toInt = (w : Int))) (hpl : pre.length = 1) : cx_Ct 4 78 [.inr (.inl 77), .inl (.int (Int32.ofInt 1)), .inl (.int (Int32.ofInt 3)), .inl (.int q), .inl (.int from_), .inl (.long fnd)] ([(77, .inl (6, [.inr (.inl 78), .inr (.inl 79), .inr (.inl 80), .inr (.inl 81), .inr (.inl 85), .inr (.inl 86), .inl (.long bf), .inl (.int dl), .inl (.int ds), .inl (.int dr), .inl (.int md), .inl (.int bo)])), (80, .inr (.inr (.inl (32, g)))), (81, .inr (.inr (.inr (4, [82, 83, 84])))), (82, .inr (.inr (.inl (32, a0)))), (83, .inr (.inr (.inl (32, a1)))), (84, .inr (.inr (.inl (32, a2)))), (85, .inr (.inl (0, 3, tr))), (86, .inr (.inl (0, 3, b)))]) (fun v h2 => ∃ (bf2 : Int64) (g2 a2x : Nat → Int64) (tr2 b2 : Nat → Int32), v = none ∧ h2 = [(77, .inl (6, [.inr (.inl 78), .inr (.inl 79), .inr (.inl 80), .inr (.inl 81), .inr (.inl 85), .inr (.inl 86), .inl (.long bf2), .inl (.int dl), .inl (.int ds), .inl (.int dr), .inl (.int md), .inl (.int bo)])), (80, .inr (.inr (.inl (32, g2)))), (81, .inr (.inr (.inr (4, [82, 83, 84])))), (82, .inr (.inr (.inl (32, a0)))), (83, .inr (.inr (.inl (32, a1)))), (84, .inr (.inr (.inl (32, a2x)))), (85, .inr (.inl (0, 3, tr2))), (86, .inr (.inl (0, 3, b2)))] ∧ bf2 = (tP dl ds dr q 2 bN a1 fnd pre acc).1 ∧ okM 3 (tP dl ds dr q 2 bN a1 fnd pre acc) b2 ∧ (∀ j : Nat, j < 1 → ∀ w : Nat, pre[j]? = some w → (tr2 j).toInt = (w : Int))) := by
  have kc0 : (Int32.ofInt 0).toInt = 0 := by decide +kernel
  have kc1 : (Int32.ofInt 1).toInt = 1 := by decide +kernel
  have kc2 : (Int32.ofInt 2).toInt = 2 := by decide +kernel
  have kc3 : (Int32.ofInt 3).toInt = 3 := by decide +kernel
  have kc31 : (Int32.ofInt 31).toInt = 31 := by decide +kernel
  refine cx_Ct.of cg_78 (nL := 9) rfl rfl rfl ?_
  show cx_T 4 78 [77, 80, 81, 82, 83, 84, 85, 86] 0 ([some (.inr (.inl 77)), some (.inl (.int (Int32.ofInt 1))), some (.inl (.int (Int32.ofInt 3))), some (.inl (.int q)), some (.inl (.int from_)), some (.inl (.long fnd)), none, none, none], [], [(77, .inl (6, [.inr (.inl 78), .inr (.inl 79), .inr (.inl 80), .inr (.inl 81), .inr (.inl 85), .inr (.inl 86), .inl (.long bf), .inl (.int dl), .inl (.int ds), .inl (.int dr), .inl (.int md), .inl (.int bo)])), (80, .inr (.inr (.inl (32, g)))), (81, .inr (.inr (.inr (4, [82, 83, 84])))), (82, .inr (.inr (.inl (32, a0)))), (83, .inr (.inr (.inl (32, a1)))), (84, .inr (.inr (.inl (32, a2)))), (85, .inr (.inl (0, 3, tr))), (86, .inr (.inl (0, 3, b)))]) _
  refine ex_iload_n cg_78 (ix := 0) (pc' := 1) rfl rfl rfl ?_
  refine ex_iload_n cg_78 (ix := 1) (pc' := 2) rfl rfl rfl ?_
  refine ex_icmp cg_78 (ix := 2) (t := 10) (pc' := 5) rfl rfl rfl (fun hb2 => ?_) (fun hb2 => ?_)
  · have hb2 : (Int32.ofInt 3).toInt ≤ (Int32.ofInt 1).toInt := hb2
    exfalso; first | omega | exact absurd hb2 (by decide +kernel)
  · have hb2 : ¬ ((Int32.ofInt 3).toInt ≤ (Int32.ofInt 1).toInt) := hb2
    refine ex_iload_n cg_78 (ix := 3) (pc' := 6) rfl rfl rfl ?_
    refine ex_iconst cg_78 (ix := 4) (pc' := 7) rfl rfl ?_
    refine ex_icmp cg_78 (ix := 5) (t := 41) (pc' := 10) rfl rfl rfl (fun hb7 => ?_) (fun hb7 => ?_)
    · have hb7 : (Int32.ofInt 1).toInt < (Int32.ofInt 3).toInt := hb7
      refine ex_bipush cg_78 (ix := 23) (pc' := 43) rfl rfl rfl ?_
      refine ex_iload cg_78 (ix := 24) (pc' := 45) rfl rfl rfl ?_
      refine ex_iconst cg_78 (ix := 25) (pc' := 46) rfl rfl ?_
      refine ex_iadd cg_78 (ix := 26) (pc' := 47) rfl rfl ?_
      refine ex_min cg_78 (ix := 27) (pc' := 50) rfl rfl (by first | decide | omega) rfl rfl ?_
      refine ex_istore cg_78 (ix := 28) (pc' := 52) (L' := [some (.inr (.inl 77)), some (.inl (.int (Int32.ofInt 1))), some (.inl (.int (Int32.ofInt 3))), some (.inl (.int q)), some (.inl (.int from_)), some (.inl (.long fnd)), none, some (.inl (.int (if (from_ + (Int32.ofInt 3)) < (Int32.ofInt 31) then (from_ + (Int32.ofInt 3)) else (Int32.ofInt 31)))), none]) rfl rfl rfl rfl ?_
      refine ex_iconst cg_78 (ix := 29) (pc' := 53) rfl rfl ?_
      refine ex_iload cg_78 (ix := 30) (pc' := 55) rfl rfl rfl ?_
      refine ex_iconst cg_78 (ix := 31) (pc' := 56) rfl rfl ?_
      refine ex_isub cg_78 (ix := 32) (pc' := 57) rfl rfl ?_
      refine ex_max cg_78 (ix := 33) (pc' := 60) rfl rfl (by first | decide | omega) rfl rfl ?_
      refine ex_istore cg_78 (ix := 34) (pc' := 62) (L' := [some (.inr (.inl 77)), some (.inl (.int (Int32.ofInt 1))), some (.inl (.int (Int32.ofInt 3))), some (.inl (.int q)), some (.inl (.int from_)), some (.inl (.long fnd)), none, some (.inl (.int (if (from_ + (Int32.ofInt 3)) < (Int32.ofInt 31) then (from_ + (Int32.ofInt 3)) else (Int32.ofInt 31)))), some (.inl (.int (if (Int32.ofInt 0) < (from_ - (Int32.ofInt 3)) then (from_ - (Int32.ofInt 3)) else (Int32.ofInt 0))))]) rfl rfl rfl rfl ?_
      have e1 : (from_ + Int32.ofInt 3).toInt = (bN : Int) + 3 := by rw [cx_addc (by omega) (by omega)]; omega
      have e2 : (from_ - Int32.ofInt 3).toInt = (bN : Int) - 3 := by rw [cx_subc (by omega) (by omega)]; omega
      have e3 : (if (from_ + (Int32.ofInt 3)) < (Int32.ofInt 31) then (from_ + (Int32.ofInt 3)) else (Int32.ofInt 31) : Int32).toInt + 1 = ((min 31 (bN + 3) + 1 : Nat) : Int) := by
        by_cases q1 : (from_ + Int32.ofInt 3) < Int32.ofInt 31
        · rw [if_pos q1]; rw [Int32.lt_iff_toInt_lt] at q1; omega
        · rw [if_neg q1]; rw [Int32.lt_iff_toInt_lt] at q1; omega
      have e4 : (if (Int32.ofInt 0) < (from_ - (Int32.ofInt 3)) then (from_ - (Int32.ofInt 3)) else (Int32.ofInt 0) : Int32).toInt = ((bN - 3 : Nat) : Int) := by
        by_cases q1 : Int32.ofInt 0 < (from_ - Int32.ofInt 3)
        · rw [if_pos q1]; rw [Int32.lt_iff_toInt_lt] at q1; omega
        · rw [if_neg q1]; rw [Int32.lt_iff_toInt_lt] at q1; omega
      refine tp_3_1 (d := 4) (accF := tP dl ds dr q 2 bN a1 fnd pre acc) (by decide) (by omega) e3 hpl (fun bf2 g2 a2x tr2 b2 h1 h2 h3 => ⟨bf2, g2, a2x, tr2, b2, rfl, rfl, h1, h2, h3⟩) (min 31 (bN + 3) + 1 - (bN - 3)) (bN - 3) (by omega) _ e4 bf g a2 tr b acc hbf hok htr ?_
      rfl
    · have hb7 : ¬ ((Int32.ofInt 1).toInt < (Int32.ofInt 3).toInt) := hb7
      exfalso; first | omega | exact absurd hb7 (by decide +kernel)
theorem tp_3_0 {d : Nat} {dl ds dr md bo q from_ : Int32} {fnd : Int64} {pre : List Nat} {last : Int32} {N1 : Nat} {a0 : Nat → Int64} {accF : Int64 × List Nat} {P : Option cx_V → cx_H → Prop} (hd : 5 ≤ d) (hN1 : N1 ≤ 32) (hlast : last.toInt + 1 = (N1 : Int)) (hpl : pre.length = 0) (hP : ∀ (bf : Int64) (g a1 a2 : Nat → Int64) (tr b : Nat → Int32), bf = accF.1 → okM 3 accF b → (∀ j : Nat, j < 0 → ∀ w : Nat, pre[j]? = some w → (tr j).toInt = (w : Int)) → P none ([(77, .inl (6, [.inr (.inl 78), .inr (.inl 79), .inr (.inl 80), .inr (.inl 81), .inr (.inl 85), .inr (.inl 86), .inl (.long bf), .inl (.int dl), .inl (.int ds), .inl (.int dr), .inl (.int md), .inl (.int bo)])), (80, .inr (.inr (.inl (32, g)))), (81, .inr (.inr (.inr (4, [82, 83, 84])))), (82, .inr (.inr (.inl (32, a0)))), (83, .inr (.inr (.inl (32, a1)))), (84, .inr (.inr (.inl (32, a2)))), (85, .inr (.inl (0, 3, tr))), (86, .inr (.inl (0, 3, b)))])) :
    ∀ m_ k : Nat, k + m_ = N1 → ∀ i : Int32, i.toInt = (k : Int) → ∀ (bf : Int64) (g a1 a2 : Nat → Int64) (tr b : Nat → Int32) (acc : Int64 × List Nat), bf = acc.1 → okM 3 acc b → (∀ j : Nat, j < 0 → ∀ w : Nat, pre[j]? = some w → (tr j).toInt = (w : Int)) → (List.range' k m_).foldl (fun acc pl => tP dl ds dr q 2 pl (nxP dl ds dr q a0 pl) (fnd * Int64.ofInt 32 + q.toInt64 * a0 pl) (pre ++ [pl]) acc) acc = accF → cx_T d 78 [77, 80, 81, 82, 83, 84, 85, 86] 62 ([some (.inr (.inl 77)), some (.inl (.int (Int32.ofInt 0))), some (.inl (.int (Int32.ofInt 3))), some (.inl (.int q)), some (.inl (.int from_)), some (.inl (.long fnd)), none, some (.inl (.int last)), some (.inl (.int i))], [], [(77, .inl (6, [.inr (.inl 78), .inr (.inl 79), .inr (.inl 80), .inr (.inl 81), .inr (.inl 85), .inr (.inl 86), .inl (.long bf), .inl (.int dl), .inl (.int ds), .inl (.int dr), .inl (.int md), .inl (.int bo)])), (80, .inr (.inr (.inl (32, g)))), (81, .inr (.inr (.inr (4, [82, 83, 84])))), (82, .inr (.inr (.inl (32, a0)))), (83, .inr (.inr (.inl (32, a1)))), (84, .inr (.inr (.inl (32, a2)))), (85, .inr (.inl (0, 3, tr))), (86, .inr (.inl (0, 3, b)))]) P := by
  have kc0 : (Int32.ofInt 0).toInt = 0 := by decide +kernel
  have kc1 : (Int32.ofInt 1).toInt = 1 := by decide +kernel
  have kc2 : (Int32.ofInt 2).toInt = 2 := by decide +kernel
  have kc3 : (Int32.ofInt 3).toInt = 3 := by decide +kernel
  have kc31 : (Int32.ofInt 31).toInt = 31 := by decide +kernel
  intro m_
  induction m_ with
  | zero =>
    intro k hk i hi bf g a1 a2 tr b acc hbf hok htr hacc
    refine ex_iload cg_78 (ix := 35) (pc' := 64) rfl rfl rfl ?_
    refine ex_iload cg_78 (ix := 36) (pc' := 66) rfl rfl rfl ?_
    refine ex_icmp cg_78 (ix := 37) (t := 152) (pc' := 69) rfl rfl rfl (fun hb66 => ?_) (fun hb66 => ?_)
    · have hb66 : last.toInt < i.toInt := hb66
      refine ex_return_ cg_78 (ix := 92) rfl ?_
      have hacc : acc = accF := hacc
      subst hacc
      exact hP _ _ _ _ _ _ hbf hok htr
    · have hb66 : ¬ (last.toInt < i.toInt) := hb66
      exfalso; first | omega | exact absurd hb66 (by decide +kernel)
  | succ m_ ih =>
    intro k hk i hi bf g a1 a2 tr b acc hbf hok htr hacc
    have hik : i.toNatClampNeg = k := cx_clamp hi
    have hk32 : k < 32 := by omega
    have hst : (Int32.ofInt 0).toNatClampNeg = 0 := by decide +kernel
    have htr3 : ∀ j : Nat, j < 1 → ∀ w : Nat, (pre ++ [k])[j]? = some w → (upd tr (Int32.ofInt 0).toNatClampNeg i j).toInt = (w : Int) := fun j hj w hw => by
      unfold upd
      rw [hst]
      by_cases q1 : j = 0
      · rw [if_pos q1]
        rw [q1, List.getElem?_append_right (by omega), hpl] at hw
        have hw : k = w := Option.some.inj hw
        omega
      · rw [if_neg q1]
        rw [List.getElem?_append_left (by omega)] at hw
        exact htr j (by omega) w hw
    refine ex_iload cg_78 (ix := 35) (pc' := 64) rfl rfl rfl ?_
    refine ex_iload cg_78 (ix := 36) (pc' := 66) rfl rfl rfl ?_
    refine ex_icmp cg_78 (ix := 37) (t := 152) (pc' := 69) rfl rfl rfl (fun hb66 => ?_) (fun hb66 => ?_)
    · have hb66 : last.toInt < i.toInt := hb66
      exfalso; first | omega | exact absurd hb66 (by decide +kernel)
    · have hb66 : ¬ (last.toInt < i.toInt) := hb66
      refine ex_aload_n cg_78 (ix := 38) (pc' := 70) rfl rfl rfl ?_
      refine ex_getfield cg_78 (ix := 39) (pc' := 73) rfl rfl rfl rfl rfl ?_
      refine ex_iload_n cg_78 (ix := 40) (pc' := 74) rfl rfl rfl ?_
      refine ex_iload cg_78 (ix := 41) (pc' := 76) rfl rfl rfl ?_
      refine ex_iastore cg_78 (ix := 42) (pc' := 77) (h' := [(77, .inl (6, [.inr (.inl 78), .inr (.inl 79), .inr (.inl 80), .inr (.inl 81), .inr (.inl 85), .inr (.inl 86), .inl (.long bf), .inl (.int dl), .inl (.int ds), .inl (.int dr), .inl (.int md), .inl (.int bo)])), (80, .inr (.inr (.inl (32, g)))), (81, .inr (.inr (.inr (4, [82, 83, 84])))), (82, .inr (.inr (.inl (32, a0)))), (83, .inr (.inr (.inl (32, a1)))), (84, .inr (.inr (.inl (32, a2)))), (85, .inr (.inl (0, 3, upd tr (Int32.ofInt 0).toNatClampNeg i))), (86, .inr (.inl (0, 3, b)))]) rfl rfl (by omega) (by omega) rfl rfl ?_
      refine ex_iload_n cg_78 (ix := 43) (pc' := 78) rfl rfl rfl ?_
      refine ex_iconst cg_78 (ix := 44) (pc' := 79) rfl rfl ?_
      refine ex_iadd cg_78 (ix := 45) (pc' := 80) rfl rfl ?_
      rw [show (Int32.ofInt 0) + (Int32.ofInt 1) = Int32.ofInt 1 by decide +kernel]
      refine ex_iload_n cg_78 (ix := 46) (pc' := 81) rfl rfl rfl ?_
      refine ex_icmp cg_78 (ix := 47) (t := 116) (pc' := 84) rfl rfl rfl (fun hb81 => ?_) (fun hb81 => ?_)
      · have hb81 : (Int32.ofInt 3).toInt ≤ (Int32.ofInt 1).toInt := hb81
        exfalso; first | omega | exact absurd hb81 (by decide +kernel)
      · have hb81 : ¬ ((Int32.ofInt 3).toInt ≤ (Int32.ofInt 1).toInt) := hb81
        refine ex_iload_n cg_78 (ix := 48) (pc' := 85) rfl rfl rfl ?_
        refine ex_iconst cg_78 (ix := 49) (pc' := 86) rfl rfl ?_
        refine ex_iadd cg_78 (ix := 50) (pc' := 87) rfl rfl ?_
        rw [show (Int32.ofInt 0) + (Int32.ofInt 1) = Int32.ofInt 1 by decide +kernel]
        refine ex_iconst cg_78 (ix := 51) (pc' := 88) rfl rfl ?_
        refine ex_icmp cg_78 (ix := 52) (t := 116) (pc' := 91) rfl rfl rfl (fun hb88 => ?_) (fun hb88 => ?_)
        · have hb88 : (Int32.ofInt 3).toInt ≤ (Int32.ofInt 1).toInt := hb88
          exfalso; first | omega | exact absurd hb88 (by decide +kernel)
        · have hb88 : ¬ ((Int32.ofInt 3).toInt ≤ (Int32.ofInt 1).toInt) := hb88
          refine ex_aload_n cg_78 (ix := 53) (pc' := 92) rfl rfl rfl ?_
          refine ex_aload_n cg_78 (ix := 54) (pc' := 93) rfl rfl rfl ?_
          refine ex_getfield cg_78 (ix := 55) (pc' := 96) rfl rfl rfl rfl rfl ?_
          refine ex_iload_n cg_78 (ix := 56) (pc' := 97) rfl rfl rfl ?_
          refine ex_aaload cg_78 (ix := 57) (pc' := 98) (k1 := 82) rfl rfl (by decide +kernel) (by decide +kernel) rfl ?_
          refine ex_iload cg_78 (ix := 58) (pc' := 100) rfl rfl rfl ?_
          refine ex_iload_n cg_78 (ix := 59) (pc' := 101) rfl rfl rfl ?_
          refine ex_callV cg_78 (ix := 60) (pc' := 104) (As := [.inr (.inl 82), .inl (.int i), .inl (.int q)]) (r := []) rfl rfl rfl (ct_lt82 (bf := bf) (dl := dl) (ds := ds) (dr := dr) (md := md) (bo := bo) (f := a0) (g := g) (p := i) (q := q)) (by first | decide | omega) rfl rfl rfl ⟨rfl, rfl, rfl, trivial⟩ rfl rfl (fun v h2 hq => ?_)
          obtain ⟨rfl, rfl⟩ := hq
          show cx_T _ 78 _ 104 ([some (.inr (.inl 77)), some (.inl (.int (Int32.ofInt 0))), some (.inl (.int (Int32.ofInt 3))), some (.inl (.int q)), some (.inl (.int from_)), some (.inl (.long fnd)), none, some (.inl (.int last)), some (.inl (.int i))], [], [(77, .inl (6, [.inr (.inl 78), .inr (.inl 79), .inr (.inl 80), .inr (.inl 81), .inr (.inl 85), .inr (.inl 86), .inl (.long bf), .inl (.int dl), .inl (.int ds), .inl (.int dr), .inl (.int md), .inl (.int bo)])), (80, .inr (.inr (.inl (32, rowU (lkF a0 i q) g 32)))), (81, .inr (.inr (.inr (4, [82, 83, 84])))), (82, .inr (.inr (.inl (32, a0)))), (83, .inr (.inr (.inl (32, a1)))), (84, .inr (.inr (.inl (32, a2)))), (85, .inr (.inl (0, 3, upd tr (Int32.ofInt 0).toNatClampNeg i))), (86, .inr (.inl (0, 3, b)))]) _
          refine ex_aload_n cg_78 (ix := 61) (pc' := 105) rfl rfl rfl ?_
          refine ex_aload_n cg_78 (ix := 62) (pc' := 106) rfl rfl rfl ?_
          refine ex_getfield cg_78 (ix := 63) (pc' := 109) rfl rfl rfl rfl rfl ?_
          refine ex_iload_n cg_78 (ix := 64) (pc' := 110) rfl rfl rfl ?_
          refine ex_iconst cg_78 (ix := 65) (pc' := 111) rfl rfl ?_
          refine ex_iadd cg_78 (ix := 66) (pc' := 112) rfl rfl ?_
          rw [show (Int32.ofInt 0) + (Int32.ofInt 1) = Int32.ofInt 1 by decide +kernel]
          refine ex_aaload cg_78 (ix := 67) (pc' := 113) (k1 := 83) rfl rfl (by decide +kernel) (by decide +kernel) rfl ?_
          refine ex_callV cg_78 (ix := 68) (pc' := 116) (As := [.inr (.inl 83)]) (r := []) rfl rfl rfl (ct_cy83 (bf := bf) (dl := dl) (ds := ds) (dr := dr) (md := md) (bo := bo) (g := rowU (lkF a0 i q) g 32) (t := a1)) (by first | decide | omega) rfl rfl rfl ⟨rfl, rfl, rfl, trivial⟩ rfl rfl (fun v h2 hq => ?_)
          obtain ⟨rfl, rfl⟩ := hq
          show cx_T _ 78 _ 116 ([some (.inr (.inl 77)), some (.inl (.int (Int32.ofInt 0))), some (.inl (.int (Int32.ofInt 3))), some (.inl (.int q)), some (.inl (.int from_)), some (.inl (.long fnd)), none, some (.inl (.int last)), some (.inl (.int i))], [], [(77, .inl (6, [.inr (.inl 78), .inr (.inl 79), .inr (.inl 80), .inr (.inl 81), .inr (.inl 85), .inr (.inl 86), .inl (.long bf), .inl (.int dl), .inl (.int ds), .inl (.int dr), .inl (.int md), .inl (.int bo)])), (80, .inr (.inr (.inl (32, rowU (lkF a0 i q) g 32)))), (81, .inr (.inr (.inr (4, [82, 83, 84])))), (82, .inr (.inr (.inl (32, a0)))), (83, .inr (.inr (.inl (32, rowU (drF (rowU (lkF a0 i q) g 32) dl ds dr) a1 32)))), (84, .inr (.inr (.inl (32, a2)))), (85, .inr (.inl (0, 3, upd tr (Int32.ofInt 0).toNatClampNeg i))), (86, .inr (.inl (0, 3, b)))]) _
          refine ex_aload_n cg_78 (ix := 69) (pc' := 117) rfl rfl rfl ?_
          refine ex_iload_n cg_78 (ix := 70) (pc' := 118) rfl rfl rfl ?_
          refine ex_iconst cg_78 (ix := 71) (pc' := 119) rfl rfl ?_
          refine ex_iadd cg_78 (ix := 72) (pc' := 120) rfl rfl ?_
          rw [show (Int32.ofInt 0) + (Int32.ofInt 1) = Int32.ofInt 1 by decide +kernel]
          refine ex_iload_n cg_78 (ix := 73) (pc' := 121) rfl rfl rfl ?_
          refine ex_iload_n cg_78 (ix := 74) (pc' := 122) rfl rfl rfl ?_
          refine ex_iload cg_78 (ix := 75) (pc' := 124) rfl rfl rfl ?_
          refine ex_lload cg_78 (ix := 76) (pc' := 126) rfl rfl rfl ?_
          refine ex_ldc2_w cg_78 (ix := 77) (pc' := 129) rfl rfl rfl ?_
          refine ex_lmul cg_78 (ix := 78) (pc' := 130) rfl rfl ?_
          refine ex_iload_n cg_78 (ix := 79) (pc' := 131) rfl rfl rfl ?_
          refine ex_i2l cg_78 (ix := 80) (pc' := 132) rfl rfl ?_
          refine ex_aload_n cg_78 (ix := 81) (pc' := 133) rfl rfl rfl ?_
          refine ex_getfield cg_78 (ix := 82) (pc' := 136) rfl rfl rfl rfl rfl ?_
          refine ex_iload_n cg_78 (ix := 83) (pc' := 137) rfl rfl rfl ?_
          refine ex_aaload cg_78 (ix := 84) (pc' := 138) (k1 := 82) rfl rfl (by decide +kernel) (by decide +kernel) rfl ?_
          refine ex_iload cg_78 (ix := 85) (pc' := 140) rfl rfl rfl ?_
          refine ex_laload cg_78 (ix := 86) (pc' := 141) rfl rfl (by omega) (by omega) rfl ?_
          refine ex_lmul cg_78 (ix := 87) (pc' := 142) rfl rfl ?_
          refine ex_ladd cg_78 (ix := 88) (pc' := 143) rfl rfl ?_
          refine ex_callV cg_78 (ix := 89) (pc' := 146) (As := [.inl (.int (Int32.ofInt 1)), .inl (.int (Int32.ofInt 3)), .inl (.int q), .inl (.int i), .inl (.long ((fnd * (Int64.ofInt 32)) + ((Int32.toInt64 q) * (a0 i.toNatClampNeg))))]) (r := []) rfl rfl rfl (tl_3_1 (dl := dl) (ds := ds) (dr := dr) (md := md) (bo := bo) (q := q) (from_ := i) (fnd := (fnd * (Int64.ofInt 32)) + ((Int32.toInt64 q) * (a0 i.toNatClampNeg))) (pre := pre ++ [k]) (acc := acc) (bf := bf) (g := rowU (lkF a0 i q) g 32) (a0 := a0) (a1 := rowU (drF (rowU (lkF a0 i q) g 32) dl ds dr) a1 32) (a2 := a2) (tr := upd tr (Int32.ofInt 0).toNatClampNeg i) (b := b) (bN := k) hi hk32 hbf hok htr3 (by rw [List.length_append, hpl]; rfl)) (by first | decide | omega) rfl rfl rfl ⟨rfl, rfl, rfl, rfl, rfl, rfl, rfl, rfl, trivial⟩ rfl rfl (fun v h2 hq => ?_)
          obtain ⟨bf2, g2, a2x, tr2, b2, rfl, rfl, hbf2, hok2, htr2⟩ := hq
          show cx_T _ 78 _ 146 ([some (.inr (.inl 77)), some (.inl (.int (Int32.ofInt 0))), some (.inl (.int (Int32.ofInt 3))), some (.inl (.int q)), some (.inl (.int from_)), some (.inl (.long fnd)), none, some (.inl (.int last)), some (.inl (.int i))], [], [(77, .inl (6, [.inr (.inl 78), .inr (.inl 79), .inr (.inl 80), .inr (.inl 81), .inr (.inl 85), .inr (.inl 86), .inl (.long bf2), .inl (.int dl), .inl (.int ds), .inl (.int dr), .inl (.int md), .inl (.int bo)])), (80, .inr (.inr (.inl (32, g2)))), (81, .inr (.inr (.inr (4, [82, 83, 84])))), (82, .inr (.inr (.inl (32, a0)))), (83, .inr (.inr (.inl (32, rowU (drF (rowU (lkF a0 i q) g 32) dl ds dr) a1 32)))), (84, .inr (.inr (.inl (32, a2x)))), (85, .inr (.inl (0, 3, tr2))), (86, .inr (.inl (0, 3, b2)))]) _
          refine ex_iinc cg_78 (ix := 90) (pc' := 149) (L' := [some (.inr (.inl 77)), some (.inl (.int (Int32.ofInt 0))), some (.inl (.int (Int32.ofInt 3))), some (.inl (.int q)), some (.inl (.int from_)), some (.inl (.long fnd)), none, some (.inl (.int last)), some (.inl (.int (i + Int32.ofInt 1)))]) rfl rfl rfl rfl rfl ?_
          refine ex_goto cg_78 (ix := 91) (pc' := 62) rfl rfl ?_
          have e7 : a0 i.toNatClampNeg = a0 k := by rw [hik]
          rw [e7] at hbf2 hok2
          refine ih (k + 1) (by omega) _ (by rw [cx_addc (by omega) (by omega)]; omega) _ _ _ _ _ _ _ hbf2 hok2 (fun j hj w hw => htr2 j (by omega) w ?_) ?_
          · rw [List.getElem?_append_left (by omega)]; exact hw
          · rw [← hacc, List.range'_succ, List.foldl_cons]
            rw [tP_E 2 k (rowU (drF (rowU (lkF a0 i q) g 32) dl ds dr) a1 32) (nxP dl ds dr q a0 k) _ _ _ (fun x hx => ?_)]
            rw [rowU_in hx]
            refine drF_E (fun y hy => ?_) hx
            rw [rowU_in hy, lkF_N hi]
theorem tl_3_0 {dl ds dr md bo q from_ : Int32} {fnd : Int64} {pre : List Nat} {acc : Int64 × List Nat} {bf : Int64} {g a0 a1 a2 : Nat → Int64} {tr b : Nat → Int32} {bN : Nat} (hfr : from_.toInt = (bN : Int)) (hb32 : bN < 32) (hbf : bf = acc.1) (hok : okM 3 acc b) (htr : (∀ j : Nat, j < 0 → ∀ w : Nat, pre[j]? = some w → (tr j).toInt = (w : Int))) (hpl : pre.length = 0) : cx_Ct 5 78 [.inr (.inl 77), .inl (.int (Int32.ofInt 0)), .inl (.int (Int32.ofInt 3)), .inl (.int q), .inl (.int from_), .inl (.long fnd)] ([(77, .inl (6, [.inr (.inl 78), .inr (.inl 79), .inr (.inl 80), .inr (.inl 81), .inr (.inl 85), .inr (.inl 86), .inl (.long bf), .inl (.int dl), .inl (.int ds), .inl (.int dr), .inl (.int md), .inl (.int bo)])), (80, .inr (.inr (.inl (32, g)))), (81, .inr (.inr (.inr (4, [82, 83, 84])))), (82, .inr (.inr (.inl (32, a0)))), (83, .inr (.inr (.inl (32, a1)))), (84, .inr (.inr (.inl (32, a2)))), (85, .inr (.inl (0, 3, tr))), (86, .inr (.inl (0, 3, b)))]) (fun v h2 => ∃ (bf2 : Int64) (g2 a1x a2x : Nat → Int64) (tr2 b2 : Nat → Int32), v = none ∧ h2 = [(77, .inl (6, [.inr (.inl 78), .inr (.inl 79), .inr (.inl 80), .inr (.inl 81), .inr (.inl 85), .inr (.inl 86), .inl (.long bf2), .inl (.int dl), .inl (.int ds), .inl (.int dr), .inl (.int md), .inl (.int bo)])), (80, .inr (.inr (.inl (32, g2)))), (81, .inr (.inr (.inr (4, [82, 83, 84])))), (82, .inr (.inr (.inl (32, a0)))), (83, .inr (.inr (.inl (32, a1x)))), (84, .inr (.inr (.inl (32, a2x)))), (85, .inr (.inl (0, 3, tr2))), (86, .inr (.inl (0, 3, b2)))] ∧ bf2 = (tP dl ds dr q 3 bN a0 fnd pre acc).1 ∧ okM 3 (tP dl ds dr q 3 bN a0 fnd pre acc) b2 ∧ (∀ j : Nat, j < 0 → ∀ w : Nat, pre[j]? = some w → (tr2 j).toInt = (w : Int))) := by
  have kc0 : (Int32.ofInt 0).toInt = 0 := by decide +kernel
  have kc1 : (Int32.ofInt 1).toInt = 1 := by decide +kernel
  have kc2 : (Int32.ofInt 2).toInt = 2 := by decide +kernel
  have kc3 : (Int32.ofInt 3).toInt = 3 := by decide +kernel
  have kc31 : (Int32.ofInt 31).toInt = 31 := by decide +kernel
  refine cx_Ct.of cg_78 (nL := 9) rfl rfl rfl ?_
  show cx_T 5 78 [77, 80, 81, 82, 83, 84, 85, 86] 0 ([some (.inr (.inl 77)), some (.inl (.int (Int32.ofInt 0))), some (.inl (.int (Int32.ofInt 3))), some (.inl (.int q)), some (.inl (.int from_)), some (.inl (.long fnd)), none, none, none], [], [(77, .inl (6, [.inr (.inl 78), .inr (.inl 79), .inr (.inl 80), .inr (.inl 81), .inr (.inl 85), .inr (.inl 86), .inl (.long bf), .inl (.int dl), .inl (.int ds), .inl (.int dr), .inl (.int md), .inl (.int bo)])), (80, .inr (.inr (.inl (32, g)))), (81, .inr (.inr (.inr (4, [82, 83, 84])))), (82, .inr (.inr (.inl (32, a0)))), (83, .inr (.inr (.inl (32, a1)))), (84, .inr (.inr (.inl (32, a2)))), (85, .inr (.inl (0, 3, tr))), (86, .inr (.inl (0, 3, b)))]) _
  refine ex_iload_n cg_78 (ix := 0) (pc' := 1) rfl rfl rfl ?_
  refine ex_iload_n cg_78 (ix := 1) (pc' := 2) rfl rfl rfl ?_
  refine ex_icmp cg_78 (ix := 2) (t := 10) (pc' := 5) rfl rfl rfl (fun hb2 => ?_) (fun hb2 => ?_)
  · have hb2 : (Int32.ofInt 3).toInt ≤ (Int32.ofInt 0).toInt := hb2
    exfalso; first | omega | exact absurd hb2 (by decide +kernel)
  · have hb2 : ¬ ((Int32.ofInt 3).toInt ≤ (Int32.ofInt 0).toInt) := hb2
    refine ex_iload_n cg_78 (ix := 3) (pc' := 6) rfl rfl rfl ?_
    refine ex_iconst cg_78 (ix := 4) (pc' := 7) rfl rfl ?_
    refine ex_icmp cg_78 (ix := 5) (t := 41) (pc' := 10) rfl rfl rfl (fun hb7 => ?_) (fun hb7 => ?_)
    · have hb7 : (Int32.ofInt 0).toInt < (Int32.ofInt 3).toInt := hb7
      refine ex_bipush cg_78 (ix := 23) (pc' := 43) rfl rfl rfl ?_
      refine ex_iload cg_78 (ix := 24) (pc' := 45) rfl rfl rfl ?_
      refine ex_iconst cg_78 (ix := 25) (pc' := 46) rfl rfl ?_
      refine ex_iadd cg_78 (ix := 26) (pc' := 47) rfl rfl ?_
      refine ex_min cg_78 (ix := 27) (pc' := 50) rfl rfl (by first | decide | omega) rfl rfl ?_
      refine ex_istore cg_78 (ix := 28) (pc' := 52) (L' := [some (.inr (.inl 77)), some (.inl (.int (Int32.ofInt 0))), some (.inl (.int (Int32.ofInt 3))), some (.inl (.int q)), some (.inl (.int from_)), some (.inl (.long fnd)), none, some (.inl (.int (if (from_ + (Int32.ofInt 3)) < (Int32.ofInt 31) then (from_ + (Int32.ofInt 3)) else (Int32.ofInt 31)))), none]) rfl rfl rfl rfl ?_
      refine ex_iconst cg_78 (ix := 29) (pc' := 53) rfl rfl ?_
      refine ex_iload cg_78 (ix := 30) (pc' := 55) rfl rfl rfl ?_
      refine ex_iconst cg_78 (ix := 31) (pc' := 56) rfl rfl ?_
      refine ex_isub cg_78 (ix := 32) (pc' := 57) rfl rfl ?_
      refine ex_max cg_78 (ix := 33) (pc' := 60) rfl rfl (by first | decide | omega) rfl rfl ?_
      refine ex_istore cg_78 (ix := 34) (pc' := 62) (L' := [some (.inr (.inl 77)), some (.inl (.int (Int32.ofInt 0))), some (.inl (.int (Int32.ofInt 3))), some (.inl (.int q)), some (.inl (.int from_)), some (.inl (.long fnd)), none, some (.inl (.int (if (from_ + (Int32.ofInt 3)) < (Int32.ofInt 31) then (from_ + (Int32.ofInt 3)) else (Int32.ofInt 31)))), some (.inl (.int (if (Int32.ofInt 0) < (from_ - (Int32.ofInt 3)) then (from_ - (Int32.ofInt 3)) else (Int32.ofInt 0))))]) rfl rfl rfl rfl ?_
      have e1 : (from_ + Int32.ofInt 3).toInt = (bN : Int) + 3 := by rw [cx_addc (by omega) (by omega)]; omega
      have e2 : (from_ - Int32.ofInt 3).toInt = (bN : Int) - 3 := by rw [cx_subc (by omega) (by omega)]; omega
      have e3 : (if (from_ + (Int32.ofInt 3)) < (Int32.ofInt 31) then (from_ + (Int32.ofInt 3)) else (Int32.ofInt 31) : Int32).toInt + 1 = ((min 31 (bN + 3) + 1 : Nat) : Int) := by
        by_cases q1 : (from_ + Int32.ofInt 3) < Int32.ofInt 31
        · rw [if_pos q1]; rw [Int32.lt_iff_toInt_lt] at q1; omega
        · rw [if_neg q1]; rw [Int32.lt_iff_toInt_lt] at q1; omega
      have e4 : (if (Int32.ofInt 0) < (from_ - (Int32.ofInt 3)) then (from_ - (Int32.ofInt 3)) else (Int32.ofInt 0) : Int32).toInt = ((bN - 3 : Nat) : Int) := by
        by_cases q1 : Int32.ofInt 0 < (from_ - Int32.ofInt 3)
        · rw [if_pos q1]; rw [Int32.lt_iff_toInt_lt] at q1; omega
        · rw [if_neg q1]; rw [Int32.lt_iff_toInt_lt] at q1; omega
      refine tp_3_0 (d := 5) (accF := tP dl ds dr q 3 bN a0 fnd pre acc) (by decide) (by omega) e3 hpl (fun bf2 g2 a1x a2x tr2 b2 h1 h2 h3 => ⟨bf2, g2, a1x, a2x, tr2, b2, rfl, rfl, h1, h2, h3⟩) (min 31 (bN + 3) + 1 - (bN - 3)) (bN - 3) (by omega) _ e4 bf g a1 a2 tr b acc hbf hok htr ?_
      rfl
    · have hb7 : ¬ ((Int32.ofInt 0).toInt < (Int32.ofInt 3).toInt) := hb7
      exfalso; first | omega | exact absurd hb7 (by decide +kernel)
theorem fb_1 {bf : Int64} {dl ds dr md bo q : Int32} {f g a0 a1 a2 : Nat → Int64} {tr b : Nat → Int32} {bN : Nat} (hb : bo.toInt = (bN : Int)) (hb32 : bN < 32) : cx_Ct 7 77 [.inr (.inl 77), .inl (.int (Int32.ofInt 1)), .inl (.int q)] ([(77, .inl (6, [.inr (.inl 78), .inr (.inl 79), .inr (.inl 80), .inr (.inl 81), .inr (.inl 85), .inr (.inl 86), .inl (.long bf), .inl (.int dl), .inl (.int ds), .inl (.int dr), .inl (.int md), .inl (.int bo)])), (79, .inr (.inr (.inl (32, f)))), (80, .inr (.inr (.inl (32, g)))), (81, .inr (.inr (.inr (4, [82, 83, 84])))), (82, .inr (.inr (.inl (32, a0)))), (83, .inr (.inr (.inl (32, a1)))), (84, .inr (.inr (.inl (32, a2)))), (85, .inr (.inl (0, 3, tr))), (86, .inr (.inl (0, 3, b)))]) (fun v h2 => ∃ (bf2 : Int64) (g2 a0x a1x a2x : Nat → Int64) (tr2 b2 : Nat → Int32), v = none ∧ h2 = [(77, .inl (6, [.inr (.inl 78), .inr (.inl 79), .inr (.inl 80), .inr (.inl 81), .inr (.inl 85), .inr (.inl 86), .inl (.long bf2), .inl (.int dl), .inl (.int ds), .inl (.int dr), .inl (.int md), .inl (.int bo)])), (79, .inr (.inr (.inl (32, f)))), (80, .inr (.inr (.inl (32, g2)))), (81, .inr (.inr (.inr (4, [82, 83, 84])))), (82, .inr (.inr (.inl (32, a0x)))), (83, .inr (.inr (.inl (32, a1x)))), (84, .inr (.inr (.inl (32, a2x)))), (85, .inr (.inl (0, 3, tr2))), (86, .inr (.inl (0, 3, b2)))] ∧ bf2 = (tP dl ds dr q 1 bN f (Int64.ofNat 0) [] (Int64.ofInt (-1), [])).1 ∧ okM 1 (tP dl ds dr q 1 bN f (Int64.ofNat 0) [] (Int64.ofInt (-1), [])) b2) := by
  refine cx_Ct.of cg_77 (nL := 3) rfl rfl rfl ?_
  show cx_T 7 77 [77, 79, 80, 81, 82, 83, 84, 85, 86] 0 ([some (.inr (.inl 77)), some (.inl (.int (Int32.ofInt 1))), some (.inl (.int q))], [], [(77, .inl (6, [.inr (.inl 78), .inr (.inl 79), .inr (.inl 80), .inr (.inl 81), .inr (.inl 85), .inr (.inl 86), .inl (.long bf), .inl (.int dl), .inl (.int ds), .inl (.int dr), .inl (.int md), .inl (.int bo)])), (79, .inr (.inr (.inl (32, f)))), (80, .inr (.inr (.inl (32, g)))), (81, .inr (.inr (.inr (4, [82, 83, 84])))), (82, .inr (.inr (.inl (32, a0)))), (83, .inr (.inr (.inl (32, a1)))), (84, .inr (.inr (.inl (32, a2)))), (85, .inr (.inl (0, 3, tr))), (86, .inr (.inl (0, 3, b)))]) _
  refine ex_aload_n cg_77 (ix := 0) (pc' := 1) rfl rfl rfl ?_
  refine ex_ldc2_w cg_77 (ix := 1) (pc' := 4) rfl rfl rfl ?_
  refine ex_putfield cg_77 (ix := 2) (pc' := 7) (h' := [(77, .inl (6, [.inr (.inl 78), .inr (.inl 79), .inr (.inl 80), .inr (.inl 81), .inr (.inl 85), .inr (.inl 86), .inl (.long (Int64.ofInt (-1))), .inl (.int dl), .inl (.int ds), .inl (.int dr), .inl (.int md), .inl (.int bo)])), (79, .inr (.inr (.inl (32, f)))), (80, .inr (.inr (.inl (32, g)))), (81, .inr (.inr (.inr (4, [82, 83, 84])))), (82, .inr (.inr (.inl (32, a0)))), (83, .inr (.inr (.inl (32, a1)))), (84, .inr (.inr (.inl (32, a2)))), (85, .inr (.inl (0, 3, tr))), (86, .inr (.inl (0, 3, b)))]) rfl rfl rfl rfl rfl rfl rfl rfl ?_
  refine ex_aload_n cg_77 (ix := 3) (pc' := 8) rfl rfl rfl ?_
  refine ex_getfield cg_77 (ix := 4) (pc' := 11) rfl rfl rfl rfl rfl ?_
  refine ex_iconst cg_77 (ix := 5) (pc' := 12) rfl rfl ?_
  refine ex_aload_n cg_77 (ix := 6) (pc' := 13) rfl rfl rfl ?_
  refine ex_getfield cg_77 (ix := 7) (pc' := 16) rfl rfl rfl rfl rfl ?_
  refine ex_iconst cg_77 (ix := 8) (pc' := 17) rfl rfl ?_
  refine ex_aaload cg_77 (ix := 9) (pc' := 18) (k1 := 82) rfl rfl (by decide +kernel) (by decide +kernel) rfl ?_
  refine ex_iconst cg_77 (ix := 10) (pc' := 19) rfl rfl ?_
  refine ex_bipush cg_77 (ix := 11) (pc' := 21) rfl rfl rfl ?_
  refine ex_copyL cg_77 (ix := 12) (pc' := 24) (h' := [(77, .inl (6, [.inr (.inl 78), .inr (.inl 79), .inr (.inl 80), .inr (.inl 81), .inr (.inl 85), .inr (.inl 86), .inl (.long (Int64.ofInt (-1))), .inl (.int dl), .inl (.int ds), .inl (.int dr), .inl (.int md), .inl (.int bo)])), (79, .inr (.inr (.inl (32, f)))), (80, .inr (.inr (.inl (32, g)))), (81, .inr (.inr (.inr (4, [82, 83, 84])))), (82, .inr (.inr (.inl (32, va_cpy f a0 0 0 (Int32.ofInt 32).toNatClampNeg)))), (83, .inr (.inr (.inl (32, a1)))), (84, .inr (.inr (.inl (32, a2)))), (85, .inr (.inl (0, 3, tr))), (86, .inr (.inl (0, 3, b)))]) rfl rfl (by first | decide | omega) rfl rfl rfl (by decide +kernel) (by decide +kernel) (by decide +kernel) rfl rfl ?_
  refine ex_aload_n cg_77 (ix := 13) (pc' := 25) rfl rfl rfl ?_
  refine ex_iconst cg_77 (ix := 14) (pc' := 26) rfl rfl ?_
  refine ex_iload_n cg_77 (ix := 15) (pc' := 27) rfl rfl rfl ?_
  refine ex_iload_n cg_77 (ix := 16) (pc' := 28) rfl rfl rfl ?_
  refine ex_aload_n cg_77 (ix := 17) (pc' := 29) rfl rfl rfl ?_
  refine ex_getfield cg_77 (ix := 18) (pc' := 32) rfl rfl rfl rfl rfl ?_
  refine ex_lconst cg_77 (ix := 19) (pc' := 33) rfl rfl ?_
  refine ex_callV cg_77 (ix := 20) (pc' := 36) (As := [.inl (.int (Int32.ofInt 0)), .inl (.int (Int32.ofInt 1)), .inl (.int q), .inl (.int bo), .inl (.long (Int64.ofNat 0))]) (r := []) rfl rfl rfl (tl_1_0 (dl := dl) (ds := ds) (dr := dr) (md := md) (bo := bo) (q := q) (from_ := bo) (fnd := Int64.ofNat 0) (pre := []) (acc := (Int64.ofInt (-1), [])) (bf := Int64.ofInt (-1)) (g := g) (a0 := va_cpy f a0 0 0 (Int32.ofInt 32).toNatClampNeg) (a1 := a1) (a2 := a2) (tr := tr) (b := b) (bN := bN) hb hb32 rfl (fun j hj w hw => by cases hw) (fun j hj w hw => by omega) rfl) (by first | decide | omega) rfl rfl rfl ⟨rfl, rfl, rfl, rfl, rfl, rfl, rfl, rfl, trivial⟩ rfl rfl (fun v h2 hq => ?_)
  obtain ⟨bf2, g2, a1x, a2x, tr2, b2, rfl, rfl, hbf2, hok2, htr2⟩ := hq
  show cx_T _ 77 _ 36 ([some (.inr (.inl 77)), some (.inl (.int (Int32.ofInt 1))), some (.inl (.int q))], [], [(77, .inl (6, [.inr (.inl 78), .inr (.inl 79), .inr (.inl 80), .inr (.inl 81), .inr (.inl 85), .inr (.inl 86), .inl (.long bf2), .inl (.int dl), .inl (.int ds), .inl (.int dr), .inl (.int md), .inl (.int bo)])), (79, .inr (.inr (.inl (32, f)))), (80, .inr (.inr (.inl (32, g2)))), (81, .inr (.inr (.inr (4, [82, 83, 84])))), (82, .inr (.inr (.inl (32, va_cpy f a0 0 0 (Int32.ofInt 32).toNatClampNeg)))), (83, .inr (.inr (.inl (32, a1x)))), (84, .inr (.inr (.inl (32, a2x)))), (85, .inr (.inl (0, 3, tr2))), (86, .inr (.inl (0, 3, b2)))]) _
  refine ex_return_ cg_77 (ix := 21) rfl ?_
  rw [tP_E 1 bN (va_cpy f a0 0 0 (Int32.ofInt 32).toNatClampNeg) f _ _ _ (fun x hx => cpy_in hx)] at hbf2 hok2
  exact ⟨bf2, g2, _, a1x, a2x, tr2, b2, rfl, rfl, hbf2, hok2⟩
theorem fb_2 {bf : Int64} {dl ds dr md bo q : Int32} {f g a0 a1 a2 : Nat → Int64} {tr b : Nat → Int32} {bN : Nat} (hb : bo.toInt = (bN : Int)) (hb32 : bN < 32) : cx_Ct 7 77 [.inr (.inl 77), .inl (.int (Int32.ofInt 2)), .inl (.int q)] ([(77, .inl (6, [.inr (.inl 78), .inr (.inl 79), .inr (.inl 80), .inr (.inl 81), .inr (.inl 85), .inr (.inl 86), .inl (.long bf), .inl (.int dl), .inl (.int ds), .inl (.int dr), .inl (.int md), .inl (.int bo)])), (79, .inr (.inr (.inl (32, f)))), (80, .inr (.inr (.inl (32, g)))), (81, .inr (.inr (.inr (4, [82, 83, 84])))), (82, .inr (.inr (.inl (32, a0)))), (83, .inr (.inr (.inl (32, a1)))), (84, .inr (.inr (.inl (32, a2)))), (85, .inr (.inl (0, 3, tr))), (86, .inr (.inl (0, 3, b)))]) (fun v h2 => ∃ (bf2 : Int64) (g2 a0x a1x a2x : Nat → Int64) (tr2 b2 : Nat → Int32), v = none ∧ h2 = [(77, .inl (6, [.inr (.inl 78), .inr (.inl 79), .inr (.inl 80), .inr (.inl 81), .inr (.inl 85), .inr (.inl 86), .inl (.long bf2), .inl (.int dl), .inl (.int ds), .inl (.int dr), .inl (.int md), .inl (.int bo)])), (79, .inr (.inr (.inl (32, f)))), (80, .inr (.inr (.inl (32, g2)))), (81, .inr (.inr (.inr (4, [82, 83, 84])))), (82, .inr (.inr (.inl (32, a0x)))), (83, .inr (.inr (.inl (32, a1x)))), (84, .inr (.inr (.inl (32, a2x)))), (85, .inr (.inl (0, 3, tr2))), (86, .inr (.inl (0, 3, b2)))] ∧ bf2 = (tP dl ds dr q 2 bN f (Int64.ofNat 0) [] (Int64.ofInt (-1), [])).1 ∧ okM 2 (tP dl ds dr q 2 bN f (Int64.ofNat 0) [] (Int64.ofInt (-1), [])) b2) := by
  refine cx_Ct.of cg_77 (nL := 3) rfl rfl rfl ?_
  show cx_T 7 77 [77, 79, 80, 81, 82, 83, 84, 85, 86] 0 ([some (.inr (.inl 77)), some (.inl (.int (Int32.ofInt 2))), some (.inl (.int q))], [], [(77, .inl (6, [.inr (.inl 78), .inr (.inl 79), .inr (.inl 80), .inr (.inl 81), .inr (.inl 85), .inr (.inl 86), .inl (.long bf), .inl (.int dl), .inl (.int ds), .inl (.int dr), .inl (.int md), .inl (.int bo)])), (79, .inr (.inr (.inl (32, f)))), (80, .inr (.inr (.inl (32, g)))), (81, .inr (.inr (.inr (4, [82, 83, 84])))), (82, .inr (.inr (.inl (32, a0)))), (83, .inr (.inr (.inl (32, a1)))), (84, .inr (.inr (.inl (32, a2)))), (85, .inr (.inl (0, 3, tr))), (86, .inr (.inl (0, 3, b)))]) _
  refine ex_aload_n cg_77 (ix := 0) (pc' := 1) rfl rfl rfl ?_
  refine ex_ldc2_w cg_77 (ix := 1) (pc' := 4) rfl rfl rfl ?_
  refine ex_putfield cg_77 (ix := 2) (pc' := 7) (h' := [(77, .inl (6, [.inr (.inl 78), .inr (.inl 79), .inr (.inl 80), .inr (.inl 81), .inr (.inl 85), .inr (.inl 86), .inl (.long (Int64.ofInt (-1))), .inl (.int dl), .inl (.int ds), .inl (.int dr), .inl (.int md), .inl (.int bo)])), (79, .inr (.inr (.inl (32, f)))), (80, .inr (.inr (.inl (32, g)))), (81, .inr (.inr (.inr (4, [82, 83, 84])))), (82, .inr (.inr (.inl (32, a0)))), (83, .inr (.inr (.inl (32, a1)))), (84, .inr (.inr (.inl (32, a2)))), (85, .inr (.inl (0, 3, tr))), (86, .inr (.inl (0, 3, b)))]) rfl rfl rfl rfl rfl rfl rfl rfl ?_
  refine ex_aload_n cg_77 (ix := 3) (pc' := 8) rfl rfl rfl ?_
  refine ex_getfield cg_77 (ix := 4) (pc' := 11) rfl rfl rfl rfl rfl ?_
  refine ex_iconst cg_77 (ix := 5) (pc' := 12) rfl rfl ?_
  refine ex_aload_n cg_77 (ix := 6) (pc' := 13) rfl rfl rfl ?_
  refine ex_getfield cg_77 (ix := 7) (pc' := 16) rfl rfl rfl rfl rfl ?_
  refine ex_iconst cg_77 (ix := 8) (pc' := 17) rfl rfl ?_
  refine ex_aaload cg_77 (ix := 9) (pc' := 18) (k1 := 82) rfl rfl (by decide +kernel) (by decide +kernel) rfl ?_
  refine ex_iconst cg_77 (ix := 10) (pc' := 19) rfl rfl ?_
  refine ex_bipush cg_77 (ix := 11) (pc' := 21) rfl rfl rfl ?_
  refine ex_copyL cg_77 (ix := 12) (pc' := 24) (h' := [(77, .inl (6, [.inr (.inl 78), .inr (.inl 79), .inr (.inl 80), .inr (.inl 81), .inr (.inl 85), .inr (.inl 86), .inl (.long (Int64.ofInt (-1))), .inl (.int dl), .inl (.int ds), .inl (.int dr), .inl (.int md), .inl (.int bo)])), (79, .inr (.inr (.inl (32, f)))), (80, .inr (.inr (.inl (32, g)))), (81, .inr (.inr (.inr (4, [82, 83, 84])))), (82, .inr (.inr (.inl (32, va_cpy f a0 0 0 (Int32.ofInt 32).toNatClampNeg)))), (83, .inr (.inr (.inl (32, a1)))), (84, .inr (.inr (.inl (32, a2)))), (85, .inr (.inl (0, 3, tr))), (86, .inr (.inl (0, 3, b)))]) rfl rfl (by first | decide | omega) rfl rfl rfl (by decide +kernel) (by decide +kernel) (by decide +kernel) rfl rfl ?_
  refine ex_aload_n cg_77 (ix := 13) (pc' := 25) rfl rfl rfl ?_
  refine ex_iconst cg_77 (ix := 14) (pc' := 26) rfl rfl ?_
  refine ex_iload_n cg_77 (ix := 15) (pc' := 27) rfl rfl rfl ?_
  refine ex_iload_n cg_77 (ix := 16) (pc' := 28) rfl rfl rfl ?_
  refine ex_aload_n cg_77 (ix := 17) (pc' := 29) rfl rfl rfl ?_
  refine ex_getfield cg_77 (ix := 18) (pc' := 32) rfl rfl rfl rfl rfl ?_
  refine ex_lconst cg_77 (ix := 19) (pc' := 33) rfl rfl ?_
  refine ex_callV cg_77 (ix := 20) (pc' := 36) (As := [.inl (.int (Int32.ofInt 0)), .inl (.int (Int32.ofInt 2)), .inl (.int q), .inl (.int bo), .inl (.long (Int64.ofNat 0))]) (r := []) rfl rfl rfl (tl_2_0 (dl := dl) (ds := ds) (dr := dr) (md := md) (bo := bo) (q := q) (from_ := bo) (fnd := Int64.ofNat 0) (pre := []) (acc := (Int64.ofInt (-1), [])) (bf := Int64.ofInt (-1)) (g := g) (a0 := va_cpy f a0 0 0 (Int32.ofInt 32).toNatClampNeg) (a1 := a1) (a2 := a2) (tr := tr) (b := b) (bN := bN) hb hb32 rfl (fun j hj w hw => by cases hw) (fun j hj w hw => by omega) rfl) (by first | decide | omega) rfl rfl rfl ⟨rfl, rfl, rfl, rfl, rfl, rfl, rfl, rfl, trivial⟩ rfl rfl (fun v h2 hq => ?_)
  obtain ⟨bf2, g2, a1x, a2x, tr2, b2, rfl, rfl, hbf2, hok2, htr2⟩ := hq
  show cx_T _ 77 _ 36 ([some (.inr (.inl 77)), some (.inl (.int (Int32.ofInt 2))), some (.inl (.int q))], [], [(77, .inl (6, [.inr (.inl 78), .inr (.inl 79), .inr (.inl 80), .inr (.inl 81), .inr (.inl 85), .inr (.inl 86), .inl (.long bf2), .inl (.int dl), .inl (.int ds), .inl (.int dr), .inl (.int md), .inl (.int bo)])), (79, .inr (.inr (.inl (32, f)))), (80, .inr (.inr (.inl (32, g2)))), (81, .inr (.inr (.inr (4, [82, 83, 84])))), (82, .inr (.inr (.inl (32, va_cpy f a0 0 0 (Int32.ofInt 32).toNatClampNeg)))), (83, .inr (.inr (.inl (32, a1x)))), (84, .inr (.inr (.inl (32, a2x)))), (85, .inr (.inl (0, 3, tr2))), (86, .inr (.inl (0, 3, b2)))]) _
  refine ex_return_ cg_77 (ix := 21) rfl ?_
  rw [tP_E 2 bN (va_cpy f a0 0 0 (Int32.ofInt 32).toNatClampNeg) f _ _ _ (fun x hx => cpy_in hx)] at hbf2 hok2
  exact ⟨bf2, g2, _, a1x, a2x, tr2, b2, rfl, rfl, hbf2, hok2⟩
theorem fb_3 {bf : Int64} {dl ds dr md bo q : Int32} {f g a0 a1 a2 : Nat → Int64} {tr b : Nat → Int32} {bN : Nat} (hb : bo.toInt = (bN : Int)) (hb32 : bN < 32) : cx_Ct 7 77 [.inr (.inl 77), .inl (.int (Int32.ofInt 3)), .inl (.int q)] ([(77, .inl (6, [.inr (.inl 78), .inr (.inl 79), .inr (.inl 80), .inr (.inl 81), .inr (.inl 85), .inr (.inl 86), .inl (.long bf), .inl (.int dl), .inl (.int ds), .inl (.int dr), .inl (.int md), .inl (.int bo)])), (79, .inr (.inr (.inl (32, f)))), (80, .inr (.inr (.inl (32, g)))), (81, .inr (.inr (.inr (4, [82, 83, 84])))), (82, .inr (.inr (.inl (32, a0)))), (83, .inr (.inr (.inl (32, a1)))), (84, .inr (.inr (.inl (32, a2)))), (85, .inr (.inl (0, 3, tr))), (86, .inr (.inl (0, 3, b)))]) (fun v h2 => ∃ (bf2 : Int64) (g2 a0x a1x a2x : Nat → Int64) (tr2 b2 : Nat → Int32), v = none ∧ h2 = [(77, .inl (6, [.inr (.inl 78), .inr (.inl 79), .inr (.inl 80), .inr (.inl 81), .inr (.inl 85), .inr (.inl 86), .inl (.long bf2), .inl (.int dl), .inl (.int ds), .inl (.int dr), .inl (.int md), .inl (.int bo)])), (79, .inr (.inr (.inl (32, f)))), (80, .inr (.inr (.inl (32, g2)))), (81, .inr (.inr (.inr (4, [82, 83, 84])))), (82, .inr (.inr (.inl (32, a0x)))), (83, .inr (.inr (.inl (32, a1x)))), (84, .inr (.inr (.inl (32, a2x)))), (85, .inr (.inl (0, 3, tr2))), (86, .inr (.inl (0, 3, b2)))] ∧ bf2 = (tP dl ds dr q 3 bN f (Int64.ofNat 0) [] (Int64.ofInt (-1), [])).1 ∧ okM 3 (tP dl ds dr q 3 bN f (Int64.ofNat 0) [] (Int64.ofInt (-1), [])) b2) := by
  refine cx_Ct.of cg_77 (nL := 3) rfl rfl rfl ?_
  show cx_T 7 77 [77, 79, 80, 81, 82, 83, 84, 85, 86] 0 ([some (.inr (.inl 77)), some (.inl (.int (Int32.ofInt 3))), some (.inl (.int q))], [], [(77, .inl (6, [.inr (.inl 78), .inr (.inl 79), .inr (.inl 80), .inr (.inl 81), .inr (.inl 85), .inr (.inl 86), .inl (.long bf), .inl (.int dl), .inl (.int ds), .inl (.int dr), .inl (.int md), .inl (.int bo)])), (79, .inr (.inr (.inl (32, f)))), (80, .inr (.inr (.inl (32, g)))), (81, .inr (.inr (.inr (4, [82, 83, 84])))), (82, .inr (.inr (.inl (32, a0)))), (83, .inr (.inr (.inl (32, a1)))), (84, .inr (.inr (.inl (32, a2)))), (85, .inr (.inl (0, 3, tr))), (86, .inr (.inl (0, 3, b)))]) _
  refine ex_aload_n cg_77 (ix := 0) (pc' := 1) rfl rfl rfl ?_
  refine ex_ldc2_w cg_77 (ix := 1) (pc' := 4) rfl rfl rfl ?_
  refine ex_putfield cg_77 (ix := 2) (pc' := 7) (h' := [(77, .inl (6, [.inr (.inl 78), .inr (.inl 79), .inr (.inl 80), .inr (.inl 81), .inr (.inl 85), .inr (.inl 86), .inl (.long (Int64.ofInt (-1))), .inl (.int dl), .inl (.int ds), .inl (.int dr), .inl (.int md), .inl (.int bo)])), (79, .inr (.inr (.inl (32, f)))), (80, .inr (.inr (.inl (32, g)))), (81, .inr (.inr (.inr (4, [82, 83, 84])))), (82, .inr (.inr (.inl (32, a0)))), (83, .inr (.inr (.inl (32, a1)))), (84, .inr (.inr (.inl (32, a2)))), (85, .inr (.inl (0, 3, tr))), (86, .inr (.inl (0, 3, b)))]) rfl rfl rfl rfl rfl rfl rfl rfl ?_
  refine ex_aload_n cg_77 (ix := 3) (pc' := 8) rfl rfl rfl ?_
  refine ex_getfield cg_77 (ix := 4) (pc' := 11) rfl rfl rfl rfl rfl ?_
  refine ex_iconst cg_77 (ix := 5) (pc' := 12) rfl rfl ?_
  refine ex_aload_n cg_77 (ix := 6) (pc' := 13) rfl rfl rfl ?_
  refine ex_getfield cg_77 (ix := 7) (pc' := 16) rfl rfl rfl rfl rfl ?_
  refine ex_iconst cg_77 (ix := 8) (pc' := 17) rfl rfl ?_
  refine ex_aaload cg_77 (ix := 9) (pc' := 18) (k1 := 82) rfl rfl (by decide +kernel) (by decide +kernel) rfl ?_
  refine ex_iconst cg_77 (ix := 10) (pc' := 19) rfl rfl ?_
  refine ex_bipush cg_77 (ix := 11) (pc' := 21) rfl rfl rfl ?_
  refine ex_copyL cg_77 (ix := 12) (pc' := 24) (h' := [(77, .inl (6, [.inr (.inl 78), .inr (.inl 79), .inr (.inl 80), .inr (.inl 81), .inr (.inl 85), .inr (.inl 86), .inl (.long (Int64.ofInt (-1))), .inl (.int dl), .inl (.int ds), .inl (.int dr), .inl (.int md), .inl (.int bo)])), (79, .inr (.inr (.inl (32, f)))), (80, .inr (.inr (.inl (32, g)))), (81, .inr (.inr (.inr (4, [82, 83, 84])))), (82, .inr (.inr (.inl (32, va_cpy f a0 0 0 (Int32.ofInt 32).toNatClampNeg)))), (83, .inr (.inr (.inl (32, a1)))), (84, .inr (.inr (.inl (32, a2)))), (85, .inr (.inl (0, 3, tr))), (86, .inr (.inl (0, 3, b)))]) rfl rfl (by first | decide | omega) rfl rfl rfl (by decide +kernel) (by decide +kernel) (by decide +kernel) rfl rfl ?_
  refine ex_aload_n cg_77 (ix := 13) (pc' := 25) rfl rfl rfl ?_
  refine ex_iconst cg_77 (ix := 14) (pc' := 26) rfl rfl ?_
  refine ex_iload_n cg_77 (ix := 15) (pc' := 27) rfl rfl rfl ?_
  refine ex_iload_n cg_77 (ix := 16) (pc' := 28) rfl rfl rfl ?_
  refine ex_aload_n cg_77 (ix := 17) (pc' := 29) rfl rfl rfl ?_
  refine ex_getfield cg_77 (ix := 18) (pc' := 32) rfl rfl rfl rfl rfl ?_
  refine ex_lconst cg_77 (ix := 19) (pc' := 33) rfl rfl ?_
  refine ex_callV cg_77 (ix := 20) (pc' := 36) (As := [.inl (.int (Int32.ofInt 0)), .inl (.int (Int32.ofInt 3)), .inl (.int q), .inl (.int bo), .inl (.long (Int64.ofNat 0))]) (r := []) rfl rfl rfl (tl_3_0 (dl := dl) (ds := ds) (dr := dr) (md := md) (bo := bo) (q := q) (from_ := bo) (fnd := Int64.ofNat 0) (pre := []) (acc := (Int64.ofInt (-1), [])) (bf := Int64.ofInt (-1)) (g := g) (a0 := va_cpy f a0 0 0 (Int32.ofInt 32).toNatClampNeg) (a1 := a1) (a2 := a2) (tr := tr) (b := b) (bN := bN) hb hb32 rfl (fun j hj w hw => by cases hw) (fun j hj w hw => by omega) rfl) (by first | decide | omega) rfl rfl rfl ⟨rfl, rfl, rfl, rfl, rfl, rfl, rfl, rfl, trivial⟩ rfl rfl (fun v h2 hq => ?_)
  obtain ⟨bf2, g2, a1x, a2x, tr2, b2, rfl, rfl, hbf2, hok2, htr2⟩ := hq
  show cx_T _ 77 _ 36 ([some (.inr (.inl 77)), some (.inl (.int (Int32.ofInt 3))), some (.inl (.int q))], [], [(77, .inl (6, [.inr (.inl 78), .inr (.inl 79), .inr (.inl 80), .inr (.inl 81), .inr (.inl 85), .inr (.inl 86), .inl (.long bf2), .inl (.int dl), .inl (.int ds), .inl (.int dr), .inl (.int md), .inl (.int bo)])), (79, .inr (.inr (.inl (32, f)))), (80, .inr (.inr (.inl (32, g2)))), (81, .inr (.inr (.inr (4, [82, 83, 84])))), (82, .inr (.inr (.inl (32, va_cpy f a0 0 0 (Int32.ofInt 32).toNatClampNeg)))), (83, .inr (.inr (.inl (32, a1x)))), (84, .inr (.inr (.inl (32, a2x)))), (85, .inr (.inl (0, 3, tr2))), (86, .inr (.inl (0, 3, b2)))]) _
  refine ex_return_ cg_77 (ix := 21) rfl ?_
  rw [tP_E 3 bN (va_cpy f a0 0 0 (Int32.ofInt 32).toNatClampNeg) f _ _ _ (fun x hx => cpy_in hx)] at hbf2 hok2
  exact ⟨bf2, g2, _, a1x, a2x, tr2, b2, rfl, rfl, hbf2, hok2⟩
theorem ct_fb {bf : Int64} {dl ds dr md bo q : Int32} {f g a0 a1 a2 : Nat → Int64} {tr b : Nat → Int32} {bN : Nat} {m : Int32} {mm : Nat} (hm : m.toInt = (mm : Int)) (hm1 : 1 ≤ mm) (hm3 : mm ≤ 3) (hb : bo.toInt = (bN : Int)) (hb32 : bN < 32) : cx_Ct 7 77 [.inr (.inl 77), .inl (.int m), .inl (.int q)] ([(77, .inl (6, [.inr (.inl 78), .inr (.inl 79), .inr (.inl 80), .inr (.inl 81), .inr (.inl 85), .inr (.inl 86), .inl (.long bf), .inl (.int dl), .inl (.int ds), .inl (.int dr), .inl (.int md), .inl (.int bo)])), (79, .inr (.inr (.inl (32, f)))), (80, .inr (.inr (.inl (32, g)))), (81, .inr (.inr (.inr (4, [82, 83, 84])))), (82, .inr (.inr (.inl (32, a0)))), (83, .inr (.inr (.inl (32, a1)))), (84, .inr (.inr (.inl (32, a2)))), (85, .inr (.inl (0, 3, tr))), (86, .inr (.inl (0, 3, b)))]) (fun v h2 => ∃ (bf2 : Int64) (g2 a0x a1x a2x : Nat → Int64) (tr2 b2 : Nat → Int32), v = none ∧ h2 = [(77, .inl (6, [.inr (.inl 78), .inr (.inl 79), .inr (.inl 80), .inr (.inl 81), .inr (.inl 85), .inr (.inl 86), .inl (.long bf2), .inl (.int dl), .inl (.int ds), .inl (.int dr), .inl (.int md), .inl (.int bo)])), (79, .inr (.inr (.inl (32, f)))), (80, .inr (.inr (.inl (32, g2)))), (81, .inr (.inr (.inr (4, [82, 83, 84])))), (82, .inr (.inr (.inl (32, a0x)))), (83, .inr (.inr (.inl (32, a1x)))), (84, .inr (.inr (.inl (32, a2x)))), (85, .inr (.inl (0, 3, tr2))), (86, .inr (.inl (0, 3, b2)))] ∧ bf2 = (tP dl ds dr q mm bN f (Int64.ofNat 0) [] (Int64.ofInt (-1), [])).1 ∧ okM mm (tP dl ds dr q mm bN f (Int64.ofNat 0) [] (Int64.ofInt (-1), [])) b2) := by
  rcases (show mm = 1 ∨ mm = 2 ∨ mm = 3 by omega) with rfl | rfl | rfl
  · rw [show m = Int32.ofInt 1 from cx_i32 (by rw [hm]; decide +kernel)]; exact fb_1 hb hb32
  · rw [show m = Int32.ofInt 2 from cx_i32 (by rw [hm]; decide +kernel)]; exact fb_2 hb hb32
  · rw [show m = Int32.ofInt 3 from cx_i32 (by rw [hm]; decide +kernel)]; exact fb_3 hb hb32
theorem ct_bp {bf : Int64} {dl ds dr md bo : Int32} {i : Int32} {b : Nat → Int32} (hi0 : 0 ≤ i.toInt) (hi1 : i.toInt < 3) : cx_Ct 2 79 [.inr (.inl 77), .inl (.int i)] ([(77, .inl (6, [.inr (.inl 78), .inr (.inl 79), .inr (.inl 80), .inr (.inl 81), .inr (.inl 85), .inr (.inl 86), .inl (.long bf), .inl (.int dl), .inl (.int ds), .inl (.int dr), .inl (.int md), .inl (.int bo)])), (86, .inr (.inl (0, 3, b)))]) (fun v h2 => v = some (.inl (.int (b i.toNatClampNeg))) ∧ h2 = [(77, .inl (6, [.inr (.inl 78), .inr (.inl 79), .inr (.inl 80), .inr (.inl 81), .inr (.inl 85), .inr (.inl 86), .inl (.long bf), .inl (.int dl), .inl (.int ds), .inl (.int dr), .inl (.int md), .inl (.int bo)])), (86, .inr (.inl (0, 3, b)))]) := by
  refine cx_Ct.of cg_79 (nL := 2) rfl rfl rfl ?_
  show cx_T 2 79 [77, 86] 0 ([some (.inr (.inl 77)), some (.inl (.int i))], [], [(77, .inl (6, [.inr (.inl 78), .inr (.inl 79), .inr (.inl 80), .inr (.inl 81), .inr (.inl 85), .inr (.inl 86), .inl (.long bf), .inl (.int dl), .inl (.int ds), .inl (.int dr), .inl (.int md), .inl (.int bo)])), (86, .inr (.inl (0, 3, b)))]) _
  refine ex_aload_n cg_79 (ix := 0) (pc' := 1) rfl rfl rfl ?_
  refine ex_getfield cg_79 (ix := 1) (pc' := 4) rfl rfl rfl rfl rfl ?_
  refine ex_iload_n cg_79 (ix := 2) (pc' := 5) rfl rfl rfl ?_
  refine ex_iaload cg_79 (ix := 3) (pc' := 6) rfl rfl (by omega) (by omega) rfl ?_
  refine ex_ireturn cg_79 (ix := 4) rfl ?_
  exact ⟨rfl, rfl⟩
theorem cx_pos0 {x : Int64} (h : 0 < (lg_cmp x (Int64.ofNat 0)).toInt) : ¬ x = 0 := by
  intro q
  subst q
  revert h
  decide
def wC (f : Nat → Int64) : Nat → Int64
  | 0 => Int64.ofInt 8 * sumL f 32
  | k + 1 => wC f k * Int64.ofInt 32
/-- digit by digit, in the class -/
def dgc (wt : Int64) (s : Int64 × Int64) : Int64 × Int64 := ((s.1 * Int64.ofInt 10) - (s.1 * Int64.ofInt 10) / wt * wt, (s.2 * Int64.ofInt 10) + (s.1 * Int64.ofInt 10) / wt)
def dgX (wt : Int64) (s : Int64 × Int64) : Nat → Int64 × Int64
  | 0 => s
  | k + 1 => dgc wt (dgX wt s k)
theorem bm_d {d : Nat} {bf : Int64} {dl ds dr md bo : Int32} {m : Int32} {wt : Int64} {s0 : Int64 × Int64} {f : Nat → Int64} {P : Option cx_V → cx_H → Prop} (hwt : ¬ wt = 0) (hP : P (some (.inl (.int (Int64.toInt32 (dgX wt s0 6).2)))) ([(77, .inl (6, [.inr (.inl 78), .inr (.inl 79), .inr (.inl 80), .inr (.inl 81), .inr (.inl 85), .inr (.inl 86), .inl (.long bf), .inl (.int dl), .inl (.int ds), .inl (.int dr), .inl (.int md), .inl (.int bo)])), (79, .inr (.inr (.inl (32, f))))])) :
    ∀ (m9 k : Nat), k + m9 = 6 → ∀ i : Int32, i.toInt = (k : Int) → cx_T d 80 [77, 79] 57 ([some (.inr (.inl 77)), some (.inl (.int m)), some (.inl (.long wt)), none, some (.inl (.long ((dgX wt s0 k).1))), none, some (.inl (.long ((dgX wt s0 k).2))), none, some (.inl (.int i))], [], [(77, .inl (6, [.inr (.inl 78), .inr (.inl 79), .inr (.inl 80), .inr (.inl 81), .inr (.inl 85), .inr (.inl 86), .inl (.long bf), .inl (.int dl), .inl (.int ds), .inl (.int dr), .inl (.int md), .inl (.int bo)])), (79, .inr (.inr (.inl (32, f))))]) P := by
  have kc0 : (Int32.ofInt 0).toInt = 0 := by decide +kernel
  have kc1 : (Int32.ofInt 1).toInt = 1 := by decide +kernel
  have kc6 : (Int32.ofInt 6).toInt = 6 := by decide +kernel
  intro m9
  induction m9 with
  | zero =>
    intro k hk i hi 
    have ek : k = 6 := by omega
    subst ek
    refine ex_iload cg_80 (ix := 34) (pc' := 59) rfl rfl rfl ?_
    refine ex_bipush cg_80 (ix := 35) (pc' := 61) rfl rfl rfl ?_
    refine ex_icmp cg_80 (ix := 36) (t := 97) (pc' := 64) rfl rfl rfl (fun hb61 => ?_) (fun hb61 => ?_)
    · have hb61 : (Int32.ofInt 6).toInt ≤ i.toInt := hb61
      refine ex_lload cg_80 (ix := 55) (pc' := 99) rfl rfl rfl ?_
      refine ex_l2i cg_80 (ix := 56) (pc' := 100) rfl rfl ?_
      refine ex_ireturn cg_80 (ix := 57) rfl ?_
      exact hP
    · have hb61 : ¬ ((Int32.ofInt 6).toInt ≤ i.toInt) := hb61
      exfalso; first | omega | exact absurd hb61 (by decide +kernel)
  | succ m9 ih =>
    intro k hk i hi 
    have hik : i.toNatClampNeg = k := cx_clamp hi
    refine ex_iload cg_80 (ix := 34) (pc' := 59) rfl rfl rfl ?_
    refine ex_bipush cg_80 (ix := 35) (pc' := 61) rfl rfl rfl ?_
    refine ex_icmp cg_80 (ix := 36) (t := 97) (pc' := 64) rfl rfl rfl (fun hb61 => ?_) (fun hb61 => ?_)
    · have hb61 : (Int32.ofInt 6).toInt ≤ i.toInt := hb61
      exfalso; first | omega | exact absurd hb61 (by decide +kernel)
    · have hb61 : ¬ ((Int32.ofInt 6).toInt ≤ i.toInt) := hb61
      refine ex_lload cg_80 (ix := 37) (pc' := 66) rfl rfl rfl ?_
      refine ex_ldc2_w cg_80 (ix := 38) (pc' := 69) rfl rfl rfl ?_
      refine ex_lmul cg_80 (ix := 39) (pc' := 70) rfl rfl ?_
      refine ex_lstore cg_80 (ix := 40) (pc' := 72) (L' := [some (.inr (.inl 77)), some (.inl (.int m)), some (.inl (.long wt)), none, some (.inl (.long (((dgX wt s0 k).1) * (Int64.ofInt 10)))), none, some (.inl (.long ((dgX wt s0 k).2))), none, some (.inl (.int i))]) rfl rfl rfl rfl ?_
      refine ex_lload cg_80 (ix := 41) (pc' := 74) rfl rfl rfl ?_
      refine ex_ldc2_w cg_80 (ix := 42) (pc' := 77) rfl rfl rfl ?_
      refine ex_lmul cg_80 (ix := 43) (pc' := 78) rfl rfl ?_
      refine ex_lload cg_80 (ix := 44) (pc' := 80) rfl rfl rfl ?_
      refine ex_lload_n cg_80 (ix := 45) (pc' := 81) rfl rfl rfl ?_
      refine ex_ldiv cg_80 (ix := 46) (pc' := 82) rfl (by exact hwt) rfl ?_
      refine ex_ladd cg_80 (ix := 47) (pc' := 83) rfl rfl ?_
      refine ex_lstore cg_80 (ix := 48) (pc' := 85) (L' := [some (.inr (.inl 77)), some (.inl (.int m)), some (.inl (.long wt)), none, some (.inl (.long (((dgX wt s0 k).1) * (Int64.ofInt 10)))), none, some (.inl (.long ((((dgX wt s0 k).2) * (Int64.ofInt 10)) + ((((dgX wt s0 k).1) * (Int64.ofInt 10)) / wt)))), none, some (.inl (.int i))]) rfl rfl rfl rfl ?_
      refine ex_lload cg_80 (ix := 49) (pc' := 87) rfl rfl rfl ?_
      refine ex_lload_n cg_80 (ix := 50) (pc' := 88) rfl rfl rfl ?_
      refine ex_lrem cg_80 (ix := 51) (pc' := 89) rfl (by exact hwt) rfl ?_
      refine ex_lstore cg_80 (ix := 52) (pc' := 91) (L' := [some (.inr (.inl 77)), some (.inl (.int m)), some (.inl (.long wt)), none, some (.inl (.long ((((dgX wt s0 k).1) * (Int64.ofInt 10)) - (((dgX wt s0 k).1) * (Int64.ofInt 10)) / wt * wt))), none, some (.inl (.long ((((dgX wt s0 k).2) * (Int64.ofInt 10)) + ((((dgX wt s0 k).1) * (Int64.ofInt 10)) / wt)))), none, some (.inl (.int i))]) rfl rfl rfl rfl ?_
      refine ex_iinc cg_80 (ix := 53) (pc' := 94) (L' := [some (.inr (.inl 77)), some (.inl (.int m)), some (.inl (.long wt)), none, some (.inl (.long ((((dgX wt s0 k).1) * (Int64.ofInt 10)) - (((dgX wt s0 k).1) * (Int64.ofInt 10)) / wt * wt))), none, some (.inl (.long ((((dgX wt s0 k).2) * (Int64.ofInt 10)) + ((((dgX wt s0 k).1) * (Int64.ofInt 10)) / wt)))), none, some (.inl (.int (i + Int32.ofInt 1)))]) rfl rfl rfl rfl rfl ?_
      refine ex_goto cg_80 (ix := 54) (pc' := 57) rfl rfl ?_
      exact ih (k + 1) (by omega) _ (by rw [cx_addc (by omega) (by omega)]; omega)
theorem bm_w {d : Nat} {bf : Int64} {dl ds dr md bo : Int32} {m : Int32} {mm : Nat} {f : Nat → Int64} {P : Option cx_V → cx_H → Prop} (hm : m.toInt = (mm : Int)) (hm1 : 1 ≤ mm) (hm3 : mm ≤ 3) (hP : ∀ i : Int32, cx_T d 80 [77, 79] 30 ([some (.inr (.inl 77)), some (.inl (.int m)), some (.inl (.long (wC f (mm - 1)))), none, some (.inl (.int i)), none, none, none, none], [], [(77, .inl (6, [.inr (.inl 78), .inr (.inl 79), .inr (.inl 80), .inr (.inl 81), .inr (.inl 85), .inr (.inl 86), .inl (.long bf), .inl (.int dl), .inl (.int ds), .inl (.int dr), .inl (.int md), .inl (.int bo)])), (79, .inr (.inr (.inl (32, f))))]) P) :
    ∀ m_ k : Nat, k + m_ = mm - 1 → ∀ i : Int32, i.toInt = (k : Int) + 1 → cx_T d 80 [77, 79] 12 ([some (.inr (.inl 77)), some (.inl (.int m)), some (.inl (.long (wC f k))), none, some (.inl (.int i)), none, none, none, none], [], [(77, .inl (6, [.inr (.inl 78), .inr (.inl 79), .inr (.inl 80), .inr (.inl 81), .inr (.inl 85), .inr (.inl 86), .inl (.long bf), .inl (.int dl), .inl (.int ds), .inl (.int dr), .inl (.int md), .inl (.int bo)])), (79, .inr (.inr (.inl (32, f))))]) P := by
  have kc0 : (Int32.ofInt 0).toInt = 0 := by decide +kernel
  have kc1 : (Int32.ofInt 1).toInt = 1 := by decide +kernel
  have kc6 : (Int32.ofInt 6).toInt = 6 := by decide +kernel
  intro m_
  induction m_ with
  | zero =>
    intro k hk i hi
    have ek : k = mm - 1 := by omega
    rw [ek]
    refine ex_iload cg_80 (ix := 7) (pc' := 14) rfl rfl rfl ?_
    refine ex_iload_n cg_80 (ix := 8) (pc' := 15) rfl rfl rfl ?_
    refine ex_icmp cg_80 (ix := 9) (t := 30) (pc' := 18) rfl rfl rfl (fun hb15 => ?_) (fun hb15 => ?_)
    · have hb15 : m.toInt ≤ i.toInt := hb15
      exact hP _
    · have hb15 : ¬ (m.toInt ≤ i.toInt) := hb15
      exfalso; first | omega | exact absurd hb15 (by decide +kernel)
  | succ m_ ih =>
    intro k hk i hi
    refine ex_iload cg_80 (ix := 7) (pc' := 14) rfl rfl rfl ?_
    refine ex_iload_n cg_80 (ix := 8) (pc' := 15) rfl rfl rfl ?_
    refine ex_icmp cg_80 (ix := 9) (t := 30) (pc' := 18) rfl rfl rfl (fun hb15 => ?_) (fun hb15 => ?_)
    · have hb15 : m.toInt ≤ i.toInt := hb15
      exfalso; first | omega | exact absurd hb15 (by decide +kernel)
    · have hb15 : ¬ (m.toInt ≤ i.toInt) := hb15
      refine ex_lload_n cg_80 (ix := 10) (pc' := 19) rfl rfl rfl ?_
      refine ex_ldc2_w cg_80 (ix := 11) (pc' := 22) rfl rfl rfl ?_
      refine ex_lmul cg_80 (ix := 12) (pc' := 23) rfl rfl ?_
      refine ex_lstore_n cg_80 (ix := 13) (pc' := 24) (L' := [some (.inr (.inl 77)), some (.inl (.int m)), some (.inl (.long ((wC f k) * (Int64.ofInt 32)))), none, some (.inl (.int i)), none, none, none, none]) rfl rfl rfl rfl ?_
      refine ex_iinc cg_80 (ix := 14) (pc' := 27) (L' := [some (.inr (.inl 77)), some (.inl (.int m)), some (.inl (.long ((wC f k) * (Int64.ofInt 32)))), none, some (.inl (.int (i + Int32.ofInt 1))), none, none, none, none]) rfl rfl rfl rfl rfl ?_
      refine ex_goto cg_80 (ix := 15) (pc' := 12) rfl rfl ?_
      exact ih (k + 1) (by omega) _ (by rw [cx_addc (by omega) (by omega)]; omega)
theorem ct_bm {bf : Int64} {dl ds dr md bo : Int32} {m : Int32} {mm : Nat} {f : Nat → Int64} (hm : m.toInt = (mm : Int)) (hm1 : 1 ≤ mm) (hm3 : mm ≤ 3) : cx_Ct 3 80 [.inr (.inl 77), .inl (.int m)] ([(77, .inl (6, [.inr (.inl 78), .inr (.inl 79), .inr (.inl 80), .inr (.inl 81), .inr (.inl 85), .inr (.inl 86), .inl (.long bf), .inl (.int dl), .inl (.int ds), .inl (.int dr), .inl (.int md), .inl (.int bo)])), (79, .inr (.inr (.inl (32, f))))]) (fun v h2 => ∃ z : Int32, v = some (.inl (.int z)) ∧ h2 = [(77, .inl (6, [.inr (.inl 78), .inr (.inl 79), .inr (.inl 80), .inr (.inl 81), .inr (.inl 85), .inr (.inl 86), .inl (.long bf), .inl (.int dl), .inl (.int ds), .inl (.int dr), .inl (.int md), .inl (.int bo)])), (79, .inr (.inr (.inl (32, f))))] ∧ ((¬ 0 < (wC f (mm - 1)).toInt ∧ z = Int32.ofInt 0) ∨ (0 < (wC f (mm - 1)).toInt ∧ z = Int64.toInt32 (dgX (wC f (mm - 1)) (bf - bf / (wC f (mm - 1)) * (wC f (mm - 1)), bf / (wC f (mm - 1))) 6).2))) := by
  refine cx_Ct.of cg_80 (nL := 9) rfl rfl rfl ?_
  show cx_T 3 80 [77, 79] 0 ([some (.inr (.inl 77)), some (.inl (.int m)), none, none, none, none, none, none, none], [], [(77, .inl (6, [.inr (.inl 78), .inr (.inl 79), .inr (.inl 80), .inr (.inl 81), .inr (.inl 85), .inr (.inl 86), .inl (.long bf), .inl (.int dl), .inl (.int ds), .inl (.int dr), .inl (.int md), .inl (.int bo)])), (79, .inr (.inr (.inl (32, f))))]) _
  refine ex_ldc2_w cg_80 (ix := 0) (pc' := 3) rfl rfl rfl ?_
  refine ex_aload_n cg_80 (ix := 1) (pc' := 4) rfl rfl rfl ?_
  refine ex_callV cg_80 (ix := 2) (pc' := 7) (As := []) (r := [.inl (.long (Int64.ofInt 8))]) rfl rfl rfl (ct_tot (bf := bf) (dl := dl) (ds := ds) (dr := dr) (md := md) (bo := bo) (f := f)) (by first | decide | omega) rfl rfl rfl ⟨rfl, rfl, trivial⟩ rfl rfl (fun v h2 hq => ?_)
  obtain ⟨rfl, rfl⟩ := hq
  show cx_T _ 80 _ 7 ([some (.inr (.inl 77)), some (.inl (.int m)), none, none, none, none, none, none, none], [.inl (.long (sumL f 32)), .inl (.long (Int64.ofInt 8))], [(77, .inl (6, [.inr (.inl 78), .inr (.inl 79), .inr (.inl 80), .inr (.inl 81), .inr (.inl 85), .inr (.inl 86), .inl (.long bf), .inl (.int dl), .inl (.int ds), .inl (.int dr), .inl (.int md), .inl (.int bo)])), (79, .inr (.inr (.inl (32, f))))]) _
  refine ex_lmul cg_80 (ix := 3) (pc' := 8) rfl rfl ?_
  refine ex_lstore_n cg_80 (ix := 4) (pc' := 9) (L' := [some (.inr (.inl 77)), some (.inl (.int m)), some (.inl (.long ((Int64.ofInt 8) * (sumL f 32)))), none, none, none, none, none, none]) rfl rfl rfl rfl ?_
  refine ex_iconst cg_80 (ix := 5) (pc' := 10) rfl rfl ?_
  refine ex_istore cg_80 (ix := 6) (pc' := 12) (L' := [some (.inr (.inl 77)), some (.inl (.int m)), some (.inl (.long ((Int64.ofInt 8) * (sumL f 32)))), none, some (.inl (.int (Int32.ofInt 1))), none, none, none, none]) rfl rfl rfl rfl ?_
  have k0L : (Int64.ofNat 0).toInt = 0 := by decide +kernel
  refine bm_w (d := 3) hm hm1 hm3 (fun i9 => ?_) (mm - 1) 0 (by omega) (Int32.ofInt 1) (by decide +kernel)
  refine ex_lload_n cg_80 (ix := 16) (pc' := 31) rfl rfl rfl ?_
  refine ex_lconst cg_80 (ix := 17) (pc' := 32) rfl rfl ?_
  refine ex_lcmp cg_80 (ix := 18) (pc' := 33) rfl rfl ?_
  have hlc32 := cx_cmp (wC f (mm - 1)) (Int64.ofNat 0)
  refine ex_if cg_80 (ix := 19) (t := 38) (pc' := 36) rfl rfl rfl (fun hb33 => ?_) (fun hb33 => ?_)
  · have hb33 : 0 < (lg_cmp (wC f (mm - 1)) (Int64.ofNat 0)).toInt := hb33
    refine ex_aload_n cg_80 (ix := 22) (pc' := 39) rfl rfl rfl ?_
    refine ex_getfield cg_80 (ix := 23) (pc' := 42) rfl rfl rfl rfl rfl ?_
    refine ex_lload_n cg_80 (ix := 24) (pc' := 43) rfl rfl rfl ?_
    refine ex_lrem cg_80 (ix := 25) (pc' := 44) rfl (by exact cx_pos0 hb33) rfl ?_
    refine ex_lstore cg_80 (ix := 26) (pc' := 46) (L' := [some (.inr (.inl 77)), some (.inl (.int m)), some (.inl (.long (wC f (mm - 1)))), none, some (.inl (.long (bf - bf / (wC f (mm - 1)) * (wC f (mm - 1))))), none, none, none, none]) rfl rfl rfl rfl ?_
    refine ex_aload_n cg_80 (ix := 27) (pc' := 47) rfl rfl rfl ?_
    refine ex_getfield cg_80 (ix := 28) (pc' := 50) rfl rfl rfl rfl rfl ?_
    refine ex_lload_n cg_80 (ix := 29) (pc' := 51) rfl rfl rfl ?_
    refine ex_ldiv cg_80 (ix := 30) (pc' := 52) rfl (by exact cx_pos0 hb33) rfl ?_
    refine ex_lstore cg_80 (ix := 31) (pc' := 54) (L' := [some (.inr (.inl 77)), some (.inl (.int m)), some (.inl (.long (wC f (mm - 1)))), none, some (.inl (.long (bf - bf / (wC f (mm - 1)) * (wC f (mm - 1))))), none, some (.inl (.long (bf / (wC f (mm - 1))))), none, none]) rfl rfl rfl rfl ?_
    refine ex_iconst cg_80 (ix := 32) (pc' := 55) rfl rfl ?_
    refine ex_istore cg_80 (ix := 33) (pc' := 57) (L' := [some (.inr (.inl 77)), some (.inl (.int m)), some (.inl (.long (wC f (mm - 1)))), none, some (.inl (.long (bf - bf / (wC f (mm - 1)) * (wC f (mm - 1))))), none, some (.inl (.long (bf / (wC f (mm - 1))))), none, some (.inl (.int (Int32.ofInt 0)))]) rfl rfl rfl rfl ?_
    refine bm_d (d := 3) (wt := wC f (mm - 1)) (s0 := (bf - bf / (wC f (mm - 1)) * (wC f (mm - 1)), bf / (wC f (mm - 1)))) (cx_pos0 hb33) ?_ 6 0 rfl (Int32.ofInt 0) (by decide +kernel)
    exact ⟨_, rfl, rfl, Or.inr ⟨by rcases hlc32 with q2 | q2 | q2 <;> omega, rfl⟩⟩
  · have hb33 : ¬ (0 < (lg_cmp (wC f (mm - 1)) (Int64.ofNat 0)).toInt) := hb33
    refine ex_iconst cg_80 (ix := 20) (pc' := 37) rfl rfl ?_
    refine ex_ireturn cg_80 (ix := 21) rfl ?_
    exact ⟨_, rfl, rfl, Or.inl ⟨by rcases hlc32 with q2 | q2 | q2 <;> omega, rfl⟩⟩
def h_xk (dy : Int32) (r : Nat → Int32) (bf : Int64) (dl ds dr md bo : Int32) (f g a0 a1 a2 : Nat → Int64) (tr b : Nat → Int32) : cx_H := [(0, .inl (10, [.inr (.inl 1), .inr (.inl 2), .inr (.inl 15), .inr (.inl 21), .inr (.inl 43), .inr (.inl 68), .inr (.inl 77), .inr (.inl 87), .inr (.inl 101), .inr (.inl 107), .inr (.inl 113), .inl (.int dy)])), (1, .inr (.inl (0, 7, r))), (77, .inl (6, [.inr (.inl 78), .inr (.inl 79), .inr (.inl 80), .inr (.inl 81), .inr (.inl 85), .inr (.inl 86), .inl (.long bf), .inl (.int dl), .inl (.int ds), .inl (.int dr), .inl (.int md), .inl (.int bo)])), (79, .inr (.inr (.inl (32, f)))), (80, .inr (.inr (.inl (32, g)))), (81, .inr (.inr (.inr (4, [82, 83, 84])))), (82, .inr (.inr (.inl (32, a0)))), (83, .inr (.inr (.inl (32, a1)))), (84, .inr (.inr (.inl (32, a2)))), (85, .inr (.inl (0, 3, tr))), (86, .inr (.inl (0, 3, b)))]
theorem sx_alt {x a b : Int32} : (x.toInt < a.toInt ∧ sxO x a b = Int32.ofInt (-4)) ∨ (¬ x.toInt < a.toInt ∧ b.toInt < x.toInt ∧ sxO x a b = Int32.ofInt (-6)) ∨ (¬ x.toInt < a.toInt ∧ ¬ b.toInt < x.toInt ∧ sxO x a b = Int32.ofInt 0) := by
  unfold sxO
  by_cases q1 : x.toInt < a.toInt
  · rw [if_pos q1]; exact Or.inl ⟨q1, rfl⟩
  · rw [if_neg q1]
    by_cases q2 : b.toInt < x.toInt
    · rw [if_pos q2]; exact Or.inr (Or.inl ⟨q1, q2, rfl⟩)
    · rw [if_neg q2]; exact Or.inr (Or.inr ⟨q1, q2, rfl⟩)
theorem ct_sf {dy : Int32} {bf : Int64} {dl ds dr md bo : Int32} {m q : Int32} {f : Nat → Int64} (hm0 : 0 ≤ md.toInt) (hm1 : md.toInt ≤ 10) : cx_Ct 4 174 [.inr (.inl 0), .inl (.int m), .inl (.int q)] ([(0, .inl (10, [.inr (.inl 1), .inr (.inl 2), .inr (.inl 15), .inr (.inl 21), .inr (.inl 43), .inr (.inl 68), .inr (.inl 77), .inr (.inl 87), .inr (.inl 101), .inr (.inl 107), .inr (.inl 113), .inl (.int dy)])), (77, .inl (6, [.inr (.inl 78), .inr (.inl 79), .inr (.inl 80), .inr (.inl 81), .inr (.inl 85), .inr (.inl 86), .inl (.long bf), .inl (.int dl), .inl (.int ds), .inl (.int dr), .inl (.int md), .inl (.int bo)])), (79, .inr (.inr (.inl (32, f))))]) (fun v h2 => ∃ z : Int32, v = some (.inl (.int z)) ∧ h2 = [(0, .inl (10, [.inr (.inl 1), .inr (.inl 2), .inr (.inl 15), .inr (.inl 21), .inr (.inl 43), .inr (.inl 68), .inr (.inl 77), .inr (.inl 87), .inr (.inl 101), .inr (.inl 107), .inr (.inl 113), .inl (.int dy)])), (77, .inl (6, [.inr (.inl 78), .inr (.inl 79), .inr (.inl 80), .inr (.inl 81), .inr (.inl 85), .inr (.inl 86), .inl (.long bf), .inl (.int dl), .inl (.int ds), .inl (.int dr), .inl (.int md), .inl (.int bo)])), (79, .inr (.inr (.inl (32, f))))] ∧ wlA m q (sumL f 32) md z) := by
  have kc0 : (Int32.ofInt 0).toInt = 0 := by decide +kernel
  have kc1 : (Int32.ofInt 1).toInt = 1 := by decide +kernel
  have kc2 : (Int32.ofInt 2).toInt = 2 := by decide +kernel
  have kc3 : (Int32.ofInt 3).toInt = 3 := by decide +kernel
  have kc8 : (Int32.ofInt 8).toInt = 8 := by decide +kernel
  refine cx_Ct.of cg_174 (nL := 4) rfl rfl rfl ?_
  show cx_T 4 174 [0, 77, 79] 0 ([some (.inr (.inl 0)), some (.inl (.int m)), some (.inl (.int q)), none], [], [(0, .inl (10, [.inr (.inl 1), .inr (.inl 2), .inr (.inl 15), .inr (.inl 21), .inr (.inl 43), .inr (.inl 68), .inr (.inl 77), .inr (.inl 87), .inr (.inl 101), .inr (.inl 107), .inr (.inl 113), .inl (.int dy)])), (77, .inl (6, [.inr (.inl 78), .inr (.inl 79), .inr (.inl 80), .inr (.inl 81), .inr (.inl 85), .inr (.inl 86), .inl (.long bf), .inl (.int dl), .inl (.int ds), .inl (.int dr), .inl (.int md), .inl (.int bo)])), (79, .inr (.inr (.inl (32, f))))]) _
  refine ex_iload_n cg_174 (ix := 0) (pc' := 1) rfl rfl rfl ?_
  refine ex_iconst cg_174 (ix := 1) (pc' := 2) rfl rfl ?_
  refine ex_iconst cg_174 (ix := 2) (pc' := 3) rfl rfl ?_
  refine ex_callS cg_174 (ix := 3) (pc' := 6) (As := [.inl (.int m), .inl (.int (Int32.ofInt 1)), .inl (.int (Int32.ofInt 3))]) (r := []) rfl rfl rfl (ct_out (x := m) (a := Int32.ofInt 1) (b := Int32.ofInt 3)) (by first | decide | omega) rfl rfl trivial rfl rfl (fun v h2 hq => ?_)
  obtain ⟨zo, rfl, rfl, hzo⟩ := hq
  rcases hzo with ⟨hmo1, rfl⟩ | ⟨hmo1, hmo2, rfl⟩ | ⟨hmo1, hmo2, rfl⟩
  · show cx_T _ 174 _ 6 ([some (.inr (.inl 0)), some (.inl (.int m)), some (.inl (.int q)), none], [.inl (.int (Int32.ofInt (-4)))], [(0, .inl (10, [.inr (.inl 1), .inr (.inl 2), .inr (.inl 15), .inr (.inl 21), .inr (.inl 43), .inr (.inl 68), .inr (.inl 77), .inr (.inl 87), .inr (.inl 101), .inr (.inl 107), .inr (.inl 113), .inl (.int dy)])), (77, .inl (6, [.inr (.inl 78), .inr (.inl 79), .inr (.inl 80), .inr (.inl 81), .inr (.inl 85), .inr (.inl 86), .inl (.long bf), .inl (.int dl), .inl (.int ds), .inl (.int dr), .inl (.int md), .inl (.int bo)])), (79, .inr (.inr (.inl (32, f))))]) _
    refine ex_iload_n cg_174 (ix := 4) (pc' := 7) rfl rfl rfl ?_
    refine ex_iconst cg_174 (ix := 5) (pc' := 8) rfl rfl ?_
    refine ex_bipush cg_174 (ix := 6) (pc' := 10) rfl rfl rfl ?_
    refine ex_callS cg_174 (ix := 7) (pc' := 13) (As := [.inl (.int q), .inl (.int (Int32.ofInt 1)), .inl (.int (Int32.ofInt 8))]) (r := [.inl (.int (Int32.ofInt (-4)))]) rfl rfl rfl (ct_out (x := q) (a := Int32.ofInt 1) (b := Int32.ofInt 8)) (by first | decide | omega) rfl rfl trivial rfl rfl (fun v h2 hq => ?_)
    obtain ⟨zo, rfl, rfl, hzo⟩ := hq
    rcases hzo with ⟨hqo1, rfl⟩ | ⟨hqo1, hqo2, rfl⟩ | ⟨hqo1, hqo2, rfl⟩
    · show cx_T _ 174 _ 13 ([some (.inr (.inl 0)), some (.inl (.int m)), some (.inl (.int q)), none], [.inl (.int (Int32.ofInt (-4))), .inl (.int (Int32.ofInt (-4)))], [(0, .inl (10, [.inr (.inl 1), .inr (.inl 2), .inr (.inl 15), .inr (.inl 21), .inr (.inl 43), .inr (.inl 68), .inr (.inl 77), .inr (.inl 87), .inr (.inl 101), .inr (.inl 107), .inr (.inl 113), .inl (.int dy)])), (77, .inl (6, [.inr (.inl 78), .inr (.inl 79), .inr (.inl 80), .inr (.inl 81), .inr (.inl 85), .inr (.inl 86), .inl (.long bf), .inl (.int dl), .inl (.int ds), .inl (.int dr), .inl (.int md), .inl (.int bo)])), (79, .inr (.inr (.inl (32, f))))]) _
      refine ex_callS cg_174 (ix := 8) (pc' := 16) (As := [.inl (.int (Int32.ofInt (-4))), .inl (.int (Int32.ofInt (-4)))]) (r := []) rfl rfl rfl (ct_sxf (f := Int32.ofInt (-4)) (g := Int32.ofInt (-4))) (by first | decide | omega) rfl rfl trivial rfl rfl (fun v h2 hq => ?_)
      obtain ⟨rfl, rfl⟩ := hq
      rw [show sxF (Int32.ofInt (-4)) (Int32.ofInt (-4)) = Int32.ofInt (-4) by decide +kernel]
      show cx_T _ 174 _ 16 ([some (.inr (.inl 0)), some (.inl (.int m)), some (.inl (.int q)), none], [.inl (.int (Int32.ofInt (-4)))], [(0, .inl (10, [.inr (.inl 1), .inr (.inl 2), .inr (.inl 15), .inr (.inl 21), .inr (.inl 43), .inr (.inl 68), .inr (.inl 77), .inr (.inl 87), .inr (.inl 101), .inr (.inl 107), .inr (.inl 113), .inl (.int dy)])), (77, .inl (6, [.inr (.inl 78), .inr (.inl 79), .inr (.inl 80), .inr (.inl 81), .inr (.inl 85), .inr (.inl 86), .inl (.long bf), .inl (.int dl), .inl (.int ds), .inl (.int dr), .inl (.int md), .inl (.int bo)])), (79, .inr (.inr (.inl (32, f))))]) _
      refine ex_istore_n cg_174 (ix := 9) (pc' := 17) (L' := [some (.inr (.inl 0)), some (.inl (.int m)), some (.inl (.int q)), some (.inl (.int (Int32.ofInt (-4))))]) rfl rfl rfl rfl ?_
      refine ex_iload_n cg_174 (ix := 10) (pc' := 18) rfl rfl rfl ?_
      refine ex_if cg_174 (ix := 11) (t := 25) (pc' := 21) rfl rfl rfl (fun hb18 => ?_) (fun hb18 => ?_)
      · have hb18 : (Int32.ofInt (-4)).toInt = 0 := hb18
        exfalso; first | omega | exact absurd hb18 (by decide +kernel)
      · have hb18 : ¬ ((Int32.ofInt (-4)).toInt = 0) := hb18
        refine ex_iload_n cg_174 (ix := 12) (pc' := 22) rfl rfl rfl ?_
        refine ex_goto cg_174 (ix := 13) (pc' := 35) rfl rfl ?_
        refine ex_ireturn cg_174 (ix := 20) rfl ?_
        exact ⟨_, rfl, rfl, Or.inl ⟨by omega, rfl⟩⟩
    · show cx_T _ 174 _ 13 ([some (.inr (.inl 0)), some (.inl (.int m)), some (.inl (.int q)), none], [.inl (.int (Int32.ofInt (-6))), .inl (.int (Int32.ofInt (-4)))], [(0, .inl (10, [.inr (.inl 1), .inr (.inl 2), .inr (.inl 15), .inr (.inl 21), .inr (.inl 43), .inr (.inl 68), .inr (.inl 77), .inr (.inl 87), .inr (.inl 101), .inr (.inl 107), .inr (.inl 113), .inl (.int dy)])), (77, .inl (6, [.inr (.inl 78), .inr (.inl 79), .inr (.inl 80), .inr (.inl 81), .inr (.inl 85), .inr (.inl 86), .inl (.long bf), .inl (.int dl), .inl (.int ds), .inl (.int dr), .inl (.int md), .inl (.int bo)])), (79, .inr (.inr (.inl (32, f))))]) _
      refine ex_callS cg_174 (ix := 8) (pc' := 16) (As := [.inl (.int (Int32.ofInt (-4))), .inl (.int (Int32.ofInt (-6)))]) (r := []) rfl rfl rfl (ct_sxf (f := Int32.ofInt (-4)) (g := Int32.ofInt (-6))) (by first | decide | omega) rfl rfl trivial rfl rfl (fun v h2 hq => ?_)
      obtain ⟨rfl, rfl⟩ := hq
      rw [show sxF (Int32.ofInt (-4)) (Int32.ofInt (-6)) = Int32.ofInt (-4) by decide +kernel]
      show cx_T _ 174 _ 16 ([some (.inr (.inl 0)), some (.inl (.int m)), some (.inl (.int q)), none], [.inl (.int (Int32.ofInt (-4)))], [(0, .inl (10, [.inr (.inl 1), .inr (.inl 2), .inr (.inl 15), .inr (.inl 21), .inr (.inl 43), .inr (.inl 68), .inr (.inl 77), .inr (.inl 87), .inr (.inl 101), .inr (.inl 107), .inr (.inl 113), .inl (.int dy)])), (77, .inl (6, [.inr (.inl 78), .inr (.inl 79), .inr (.inl 80), .inr (.inl 81), .inr (.inl 85), .inr (.inl 86), .inl (.long bf), .inl (.int dl), .inl (.int ds), .inl (.int dr), .inl (.int md), .inl (.int bo)])), (79, .inr (.inr (.inl (32, f))))]) _
      refine ex_istore_n cg_174 (ix := 9) (pc' := 17) (L' := [some (.inr (.inl 0)), some (.inl (.int m)), some (.inl (.int q)), some (.inl (.int (Int32.ofInt (-4))))]) rfl rfl rfl rfl ?_
      refine ex_iload_n cg_174 (ix := 10) (pc' := 18) rfl rfl rfl ?_
      refine ex_if cg_174 (ix := 11) (t := 25) (pc' := 21) rfl rfl rfl (fun hb18 => ?_) (fun hb18 => ?_)
      · have hb18 : (Int32.ofInt (-4)).toInt = 0 := hb18
        exfalso; first | omega | exact absurd hb18 (by decide +kernel)
      · have hb18 : ¬ ((Int32.ofInt (-4)).toInt = 0) := hb18
        refine ex_iload_n cg_174 (ix := 12) (pc' := 22) rfl rfl rfl ?_
        refine ex_goto cg_174 (ix := 13) (pc' := 35) rfl rfl ?_
        refine ex_ireturn cg_174 (ix := 20) rfl ?_
        exact ⟨_, rfl, rfl, Or.inl ⟨by omega, rfl⟩⟩
    · show cx_T _ 174 _ 13 ([some (.inr (.inl 0)), some (.inl (.int m)), some (.inl (.int q)), none], [.inl (.int (Int32.ofInt 0)), .inl (.int (Int32.ofInt (-4)))], [(0, .inl (10, [.inr (.inl 1), .inr (.inl 2), .inr (.inl 15), .inr (.inl 21), .inr (.inl 43), .inr (.inl 68), .inr (.inl 77), .inr (.inl 87), .inr (.inl 101), .inr (.inl 107), .inr (.inl 113), .inl (.int dy)])), (77, .inl (6, [.inr (.inl 78), .inr (.inl 79), .inr (.inl 80), .inr (.inl 81), .inr (.inl 85), .inr (.inl 86), .inl (.long bf), .inl (.int dl), .inl (.int ds), .inl (.int dr), .inl (.int md), .inl (.int bo)])), (79, .inr (.inr (.inl (32, f))))]) _
      refine ex_callS cg_174 (ix := 8) (pc' := 16) (As := [.inl (.int (Int32.ofInt (-4))), .inl (.int (Int32.ofInt 0))]) (r := []) rfl rfl rfl (ct_sxf (f := Int32.ofInt (-4)) (g := Int32.ofInt 0)) (by first | decide | omega) rfl rfl trivial rfl rfl (fun v h2 hq => ?_)
      obtain ⟨rfl, rfl⟩ := hq
      rw [show sxF (Int32.ofInt (-4)) (Int32.ofInt 0) = Int32.ofInt (-4) by decide +kernel]
      show cx_T _ 174 _ 16 ([some (.inr (.inl 0)), some (.inl (.int m)), some (.inl (.int q)), none], [.inl (.int (Int32.ofInt (-4)))], [(0, .inl (10, [.inr (.inl 1), .inr (.inl 2), .inr (.inl 15), .inr (.inl 21), .inr (.inl 43), .inr (.inl 68), .inr (.inl 77), .inr (.inl 87), .inr (.inl 101), .inr (.inl 107), .inr (.inl 113), .inl (.int dy)])), (77, .inl (6, [.inr (.inl 78), .inr (.inl 79), .inr (.inl 80), .inr (.inl 81), .inr (.inl 85), .inr (.inl 86), .inl (.long bf), .inl (.int dl), .inl (.int ds), .inl (.int dr), .inl (.int md), .inl (.int bo)])), (79, .inr (.inr (.inl (32, f))))]) _
      refine ex_istore_n cg_174 (ix := 9) (pc' := 17) (L' := [some (.inr (.inl 0)), some (.inl (.int m)), some (.inl (.int q)), some (.inl (.int (Int32.ofInt (-4))))]) rfl rfl rfl rfl ?_
      refine ex_iload_n cg_174 (ix := 10) (pc' := 18) rfl rfl rfl ?_
      refine ex_if cg_174 (ix := 11) (t := 25) (pc' := 21) rfl rfl rfl (fun hb18 => ?_) (fun hb18 => ?_)
      · have hb18 : (Int32.ofInt (-4)).toInt = 0 := hb18
        exfalso; first | omega | exact absurd hb18 (by decide +kernel)
      · have hb18 : ¬ ((Int32.ofInt (-4)).toInt = 0) := hb18
        refine ex_iload_n cg_174 (ix := 12) (pc' := 22) rfl rfl rfl ?_
        refine ex_goto cg_174 (ix := 13) (pc' := 35) rfl rfl ?_
        refine ex_ireturn cg_174 (ix := 20) rfl ?_
        exact ⟨_, rfl, rfl, Or.inl ⟨by omega, rfl⟩⟩
  · show cx_T _ 174 _ 6 ([some (.inr (.inl 0)), some (.inl (.int m)), some (.inl (.int q)), none], [.inl (.int (Int32.ofInt (-6)))], [(0, .inl (10, [.inr (.inl 1), .inr (.inl 2), .inr (.inl 15), .inr (.inl 21), .inr (.inl 43), .inr (.inl 68), .inr (.inl 77), .inr (.inl 87), .inr (.inl 101), .inr (.inl 107), .inr (.inl 113), .inl (.int dy)])), (77, .inl (6, [.inr (.inl 78), .inr (.inl 79), .inr (.inl 80), .inr (.inl 81), .inr (.inl 85), .inr (.inl 86), .inl (.long bf), .inl (.int dl), .inl (.int ds), .inl (.int dr), .inl (.int md), .inl (.int bo)])), (79, .inr (.inr (.inl (32, f))))]) _
    refine ex_iload_n cg_174 (ix := 4) (pc' := 7) rfl rfl rfl ?_
    refine ex_iconst cg_174 (ix := 5) (pc' := 8) rfl rfl ?_
    refine ex_bipush cg_174 (ix := 6) (pc' := 10) rfl rfl rfl ?_
    refine ex_callS cg_174 (ix := 7) (pc' := 13) (As := [.inl (.int q), .inl (.int (Int32.ofInt 1)), .inl (.int (Int32.ofInt 8))]) (r := [.inl (.int (Int32.ofInt (-6)))]) rfl rfl rfl (ct_out (x := q) (a := Int32.ofInt 1) (b := Int32.ofInt 8)) (by first | decide | omega) rfl rfl trivial rfl rfl (fun v h2 hq => ?_)
    obtain ⟨zo, rfl, rfl, hzo⟩ := hq
    rcases hzo with ⟨hqo1, rfl⟩ | ⟨hqo1, hqo2, rfl⟩ | ⟨hqo1, hqo2, rfl⟩
    · show cx_T _ 174 _ 13 ([some (.inr (.inl 0)), some (.inl (.int m)), some (.inl (.int q)), none], [.inl (.int (Int32.ofInt (-4))), .inl (.int (Int32.ofInt (-6)))], [(0, .inl (10, [.inr (.inl 1), .inr (.inl 2), .inr (.inl 15), .inr (.inl 21), .inr (.inl 43), .inr (.inl 68), .inr (.inl 77), .inr (.inl 87), .inr (.inl 101), .inr (.inl 107), .inr (.inl 113), .inl (.int dy)])), (77, .inl (6, [.inr (.inl 78), .inr (.inl 79), .inr (.inl 80), .inr (.inl 81), .inr (.inl 85), .inr (.inl 86), .inl (.long bf), .inl (.int dl), .inl (.int ds), .inl (.int dr), .inl (.int md), .inl (.int bo)])), (79, .inr (.inr (.inl (32, f))))]) _
      refine ex_callS cg_174 (ix := 8) (pc' := 16) (As := [.inl (.int (Int32.ofInt (-6))), .inl (.int (Int32.ofInt (-4)))]) (r := []) rfl rfl rfl (ct_sxf (f := Int32.ofInt (-6)) (g := Int32.ofInt (-4))) (by first | decide | omega) rfl rfl trivial rfl rfl (fun v h2 hq => ?_)
      obtain ⟨rfl, rfl⟩ := hq
      rw [show sxF (Int32.ofInt (-6)) (Int32.ofInt (-4)) = Int32.ofInt (-4) by decide +kernel]
      show cx_T _ 174 _ 16 ([some (.inr (.inl 0)), some (.inl (.int m)), some (.inl (.int q)), none], [.inl (.int (Int32.ofInt (-4)))], [(0, .inl (10, [.inr (.inl 1), .inr (.inl 2), .inr (.inl 15), .inr (.inl 21), .inr (.inl 43), .inr (.inl 68), .inr (.inl 77), .inr (.inl 87), .inr (.inl 101), .inr (.inl 107), .inr (.inl 113), .inl (.int dy)])), (77, .inl (6, [.inr (.inl 78), .inr (.inl 79), .inr (.inl 80), .inr (.inl 81), .inr (.inl 85), .inr (.inl 86), .inl (.long bf), .inl (.int dl), .inl (.int ds), .inl (.int dr), .inl (.int md), .inl (.int bo)])), (79, .inr (.inr (.inl (32, f))))]) _
      refine ex_istore_n cg_174 (ix := 9) (pc' := 17) (L' := [some (.inr (.inl 0)), some (.inl (.int m)), some (.inl (.int q)), some (.inl (.int (Int32.ofInt (-4))))]) rfl rfl rfl rfl ?_
      refine ex_iload_n cg_174 (ix := 10) (pc' := 18) rfl rfl rfl ?_
      refine ex_if cg_174 (ix := 11) (t := 25) (pc' := 21) rfl rfl rfl (fun hb18 => ?_) (fun hb18 => ?_)
      · have hb18 : (Int32.ofInt (-4)).toInt = 0 := hb18
        exfalso; first | omega | exact absurd hb18 (by decide +kernel)
      · have hb18 : ¬ ((Int32.ofInt (-4)).toInt = 0) := hb18
        refine ex_iload_n cg_174 (ix := 12) (pc' := 22) rfl rfl rfl ?_
        refine ex_goto cg_174 (ix := 13) (pc' := 35) rfl rfl ?_
        refine ex_ireturn cg_174 (ix := 20) rfl ?_
        exact ⟨_, rfl, rfl, Or.inl ⟨by omega, rfl⟩⟩
    · show cx_T _ 174 _ 13 ([some (.inr (.inl 0)), some (.inl (.int m)), some (.inl (.int q)), none], [.inl (.int (Int32.ofInt (-6))), .inl (.int (Int32.ofInt (-6)))], [(0, .inl (10, [.inr (.inl 1), .inr (.inl 2), .inr (.inl 15), .inr (.inl 21), .inr (.inl 43), .inr (.inl 68), .inr (.inl 77), .inr (.inl 87), .inr (.inl 101), .inr (.inl 107), .inr (.inl 113), .inl (.int dy)])), (77, .inl (6, [.inr (.inl 78), .inr (.inl 79), .inr (.inl 80), .inr (.inl 81), .inr (.inl 85), .inr (.inl 86), .inl (.long bf), .inl (.int dl), .inl (.int ds), .inl (.int dr), .inl (.int md), .inl (.int bo)])), (79, .inr (.inr (.inl (32, f))))]) _
      refine ex_callS cg_174 (ix := 8) (pc' := 16) (As := [.inl (.int (Int32.ofInt (-6))), .inl (.int (Int32.ofInt (-6)))]) (r := []) rfl rfl rfl (ct_sxf (f := Int32.ofInt (-6)) (g := Int32.ofInt (-6))) (by first | decide | omega) rfl rfl trivial rfl rfl (fun v h2 hq => ?_)
      obtain ⟨rfl, rfl⟩ := hq
      rw [show sxF (Int32.ofInt (-6)) (Int32.ofInt (-6)) = Int32.ofInt (-6) by decide +kernel]
      show cx_T _ 174 _ 16 ([some (.inr (.inl 0)), some (.inl (.int m)), some (.inl (.int q)), none], [.inl (.int (Int32.ofInt (-6)))], [(0, .inl (10, [.inr (.inl 1), .inr (.inl 2), .inr (.inl 15), .inr (.inl 21), .inr (.inl 43), .inr (.inl 68), .inr (.inl 77), .inr (.inl 87), .inr (.inl 101), .inr (.inl 107), .inr (.inl 113), .inl (.int dy)])), (77, .inl (6, [.inr (.inl 78), .inr (.inl 79), .inr (.inl 80), .inr (.inl 81), .inr (.inl 85), .inr (.inl 86), .inl (.long bf), .inl (.int dl), .inl (.int ds), .inl (.int dr), .inl (.int md), .inl (.int bo)])), (79, .inr (.inr (.inl (32, f))))]) _
      refine ex_istore_n cg_174 (ix := 9) (pc' := 17) (L' := [some (.inr (.inl 0)), some (.inl (.int m)), some (.inl (.int q)), some (.inl (.int (Int32.ofInt (-6))))]) rfl rfl rfl rfl ?_
      refine ex_iload_n cg_174 (ix := 10) (pc' := 18) rfl rfl rfl ?_
      refine ex_if cg_174 (ix := 11) (t := 25) (pc' := 21) rfl rfl rfl (fun hb18 => ?_) (fun hb18 => ?_)
      · have hb18 : (Int32.ofInt (-6)).toInt = 0 := hb18
        exfalso; first | omega | exact absurd hb18 (by decide +kernel)
      · have hb18 : ¬ ((Int32.ofInt (-6)).toInt = 0) := hb18
        refine ex_iload_n cg_174 (ix := 12) (pc' := 22) rfl rfl rfl ?_
        refine ex_goto cg_174 (ix := 13) (pc' := 35) rfl rfl ?_
        refine ex_ireturn cg_174 (ix := 20) rfl ?_
        first | exact ⟨_, rfl, rfl, Or.inr (Or.inl ⟨by omega, by omega, rfl⟩)⟩ | exact ⟨_, rfl, rfl, Or.inr (Or.inr (Or.inr (Or.inl ⟨by omega, hf1, by omega, rfl⟩)))⟩
    · show cx_T _ 174 _ 13 ([some (.inr (.inl 0)), some (.inl (.int m)), some (.inl (.int q)), none], [.inl (.int (Int32.ofInt 0)), .inl (.int (Int32.ofInt (-6)))], [(0, .inl (10, [.inr (.inl 1), .inr (.inl 2), .inr (.inl 15), .inr (.inl 21), .inr (.inl 43), .inr (.inl 68), .inr (.inl 77), .inr (.inl 87), .inr (.inl 101), .inr (.inl 107), .inr (.inl 113), .inl (.int dy)])), (77, .inl (6, [.inr (.inl 78), .inr (.inl 79), .inr (.inl 80), .inr (.inl 81), .inr (.inl 85), .inr (.inl 86), .inl (.long bf), .inl (.int dl), .inl (.int ds), .inl (.int dr), .inl (.int md), .inl (.int bo)])), (79, .inr (.inr (.inl (32, f))))]) _
      refine ex_callS cg_174 (ix := 8) (pc' := 16) (As := [.inl (.int (Int32.ofInt (-6))), .inl (.int (Int32.ofInt 0))]) (r := []) rfl rfl rfl (ct_sxf (f := Int32.ofInt (-6)) (g := Int32.ofInt 0)) (by first | decide | omega) rfl rfl trivial rfl rfl (fun v h2 hq => ?_)
      obtain ⟨rfl, rfl⟩ := hq
      rw [show sxF (Int32.ofInt (-6)) (Int32.ofInt 0) = Int32.ofInt (-6) by decide +kernel]
      show cx_T _ 174 _ 16 ([some (.inr (.inl 0)), some (.inl (.int m)), some (.inl (.int q)), none], [.inl (.int (Int32.ofInt (-6)))], [(0, .inl (10, [.inr (.inl 1), .inr (.inl 2), .inr (.inl 15), .inr (.inl 21), .inr (.inl 43), .inr (.inl 68), .inr (.inl 77), .inr (.inl 87), .inr (.inl 101), .inr (.inl 107), .inr (.inl 113), .inl (.int dy)])), (77, .inl (6, [.inr (.inl 78), .inr (.inl 79), .inr (.inl 80), .inr (.inl 81), .inr (.inl 85), .inr (.inl 86), .inl (.long bf), .inl (.int dl), .inl (.int ds), .inl (.int dr), .inl (.int md), .inl (.int bo)])), (79, .inr (.inr (.inl (32, f))))]) _
      refine ex_istore_n cg_174 (ix := 9) (pc' := 17) (L' := [some (.inr (.inl 0)), some (.inl (.int m)), some (.inl (.int q)), some (.inl (.int (Int32.ofInt (-6))))]) rfl rfl rfl rfl ?_
      refine ex_iload_n cg_174 (ix := 10) (pc' := 18) rfl rfl rfl ?_
      refine ex_if cg_174 (ix := 11) (t := 25) (pc' := 21) rfl rfl rfl (fun hb18 => ?_) (fun hb18 => ?_)
      · have hb18 : (Int32.ofInt (-6)).toInt = 0 := hb18
        exfalso; first | omega | exact absurd hb18 (by decide +kernel)
      · have hb18 : ¬ ((Int32.ofInt (-6)).toInt = 0) := hb18
        refine ex_iload_n cg_174 (ix := 12) (pc' := 22) rfl rfl rfl ?_
        refine ex_goto cg_174 (ix := 13) (pc' := 35) rfl rfl ?_
        refine ex_ireturn cg_174 (ix := 20) rfl ?_
        first | exact ⟨_, rfl, rfl, Or.inr (Or.inl ⟨by omega, by omega, rfl⟩)⟩ | exact ⟨_, rfl, rfl, Or.inr (Or.inr (Or.inr (Or.inl ⟨by omega, hf1, by omega, rfl⟩)))⟩
  · show cx_T _ 174 _ 6 ([some (.inr (.inl 0)), some (.inl (.int m)), some (.inl (.int q)), none], [.inl (.int (Int32.ofInt 0))], [(0, .inl (10, [.inr (.inl 1), .inr (.inl 2), .inr (.inl 15), .inr (.inl 21), .inr (.inl 43), .inr (.inl 68), .inr (.inl 77), .inr (.inl 87), .inr (.inl 101), .inr (.inl 107), .inr (.inl 113), .inl (.int dy)])), (77, .inl (6, [.inr (.inl 78), .inr (.inl 79), .inr (.inl 80), .inr (.inl 81), .inr (.inl 85), .inr (.inl 86), .inl (.long bf), .inl (.int dl), .inl (.int ds), .inl (.int dr), .inl (.int md), .inl (.int bo)])), (79, .inr (.inr (.inl (32, f))))]) _
    refine ex_iload_n cg_174 (ix := 4) (pc' := 7) rfl rfl rfl ?_
    refine ex_iconst cg_174 (ix := 5) (pc' := 8) rfl rfl ?_
    refine ex_bipush cg_174 (ix := 6) (pc' := 10) rfl rfl rfl ?_
    refine ex_callS cg_174 (ix := 7) (pc' := 13) (As := [.inl (.int q), .inl (.int (Int32.ofInt 1)), .inl (.int (Int32.ofInt 8))]) (r := [.inl (.int (Int32.ofInt 0))]) rfl rfl rfl (ct_out (x := q) (a := Int32.ofInt 1) (b := Int32.ofInt 8)) (by first | decide | omega) rfl rfl trivial rfl rfl (fun v h2 hq => ?_)
    obtain ⟨zo, rfl, rfl, hzo⟩ := hq
    rcases hzo with ⟨hqo1, rfl⟩ | ⟨hqo1, hqo2, rfl⟩ | ⟨hqo1, hqo2, rfl⟩
    · show cx_T _ 174 _ 13 ([some (.inr (.inl 0)), some (.inl (.int m)), some (.inl (.int q)), none], [.inl (.int (Int32.ofInt (-4))), .inl (.int (Int32.ofInt 0))], [(0, .inl (10, [.inr (.inl 1), .inr (.inl 2), .inr (.inl 15), .inr (.inl 21), .inr (.inl 43), .inr (.inl 68), .inr (.inl 77), .inr (.inl 87), .inr (.inl 101), .inr (.inl 107), .inr (.inl 113), .inl (.int dy)])), (77, .inl (6, [.inr (.inl 78), .inr (.inl 79), .inr (.inl 80), .inr (.inl 81), .inr (.inl 85), .inr (.inl 86), .inl (.long bf), .inl (.int dl), .inl (.int ds), .inl (.int dr), .inl (.int md), .inl (.int bo)])), (79, .inr (.inr (.inl (32, f))))]) _
      refine ex_callS cg_174 (ix := 8) (pc' := 16) (As := [.inl (.int (Int32.ofInt 0)), .inl (.int (Int32.ofInt (-4)))]) (r := []) rfl rfl rfl (ct_sxf (f := Int32.ofInt 0) (g := Int32.ofInt (-4))) (by first | decide | omega) rfl rfl trivial rfl rfl (fun v h2 hq => ?_)
      obtain ⟨rfl, rfl⟩ := hq
      rw [show sxF (Int32.ofInt 0) (Int32.ofInt (-4)) = Int32.ofInt (-4) by decide +kernel]
      show cx_T _ 174 _ 16 ([some (.inr (.inl 0)), some (.inl (.int m)), some (.inl (.int q)), none], [.inl (.int (Int32.ofInt (-4)))], [(0, .inl (10, [.inr (.inl 1), .inr (.inl 2), .inr (.inl 15), .inr (.inl 21), .inr (.inl 43), .inr (.inl 68), .inr (.inl 77), .inr (.inl 87), .inr (.inl 101), .inr (.inl 107), .inr (.inl 113), .inl (.int dy)])), (77, .inl (6, [.inr (.inl 78), .inr (.inl 79), .inr (.inl 80), .inr (.inl 81), .inr (.inl 85), .inr (.inl 86), .inl (.long bf), .inl (.int dl), .inl (.int ds), .inl (.int dr), .inl (.int md), .inl (.int bo)])), (79, .inr (.inr (.inl (32, f))))]) _
      refine ex_istore_n cg_174 (ix := 9) (pc' := 17) (L' := [some (.inr (.inl 0)), some (.inl (.int m)), some (.inl (.int q)), some (.inl (.int (Int32.ofInt (-4))))]) rfl rfl rfl rfl ?_
      refine ex_iload_n cg_174 (ix := 10) (pc' := 18) rfl rfl rfl ?_
      refine ex_if cg_174 (ix := 11) (t := 25) (pc' := 21) rfl rfl rfl (fun hb18 => ?_) (fun hb18 => ?_)
      · have hb18 : (Int32.ofInt (-4)).toInt = 0 := hb18
        exfalso; first | omega | exact absurd hb18 (by decide +kernel)
      · have hb18 : ¬ ((Int32.ofInt (-4)).toInt = 0) := hb18
        refine ex_iload_n cg_174 (ix := 12) (pc' := 22) rfl rfl rfl ?_
        refine ex_goto cg_174 (ix := 13) (pc' := 35) rfl rfl ?_
        refine ex_ireturn cg_174 (ix := 20) rfl ?_
        exact ⟨_, rfl, rfl, Or.inl ⟨by omega, rfl⟩⟩
    · show cx_T _ 174 _ 13 ([some (.inr (.inl 0)), some (.inl (.int m)), some (.inl (.int q)), none], [.inl (.int (Int32.ofInt (-6))), .inl (.int (Int32.ofInt 0))], [(0, .inl (10, [.inr (.inl 1), .inr (.inl 2), .inr (.inl 15), .inr (.inl 21), .inr (.inl 43), .inr (.inl 68), .inr (.inl 77), .inr (.inl 87), .inr (.inl 101), .inr (.inl 107), .inr (.inl 113), .inl (.int dy)])), (77, .inl (6, [.inr (.inl 78), .inr (.inl 79), .inr (.inl 80), .inr (.inl 81), .inr (.inl 85), .inr (.inl 86), .inl (.long bf), .inl (.int dl), .inl (.int ds), .inl (.int dr), .inl (.int md), .inl (.int bo)])), (79, .inr (.inr (.inl (32, f))))]) _
      refine ex_callS cg_174 (ix := 8) (pc' := 16) (As := [.inl (.int (Int32.ofInt 0)), .inl (.int (Int32.ofInt (-6)))]) (r := []) rfl rfl rfl (ct_sxf (f := Int32.ofInt 0) (g := Int32.ofInt (-6))) (by first | decide | omega) rfl rfl trivial rfl rfl (fun v h2 hq => ?_)
      obtain ⟨rfl, rfl⟩ := hq
      rw [show sxF (Int32.ofInt 0) (Int32.ofInt (-6)) = Int32.ofInt (-6) by decide +kernel]
      show cx_T _ 174 _ 16 ([some (.inr (.inl 0)), some (.inl (.int m)), some (.inl (.int q)), none], [.inl (.int (Int32.ofInt (-6)))], [(0, .inl (10, [.inr (.inl 1), .inr (.inl 2), .inr (.inl 15), .inr (.inl 21), .inr (.inl 43), .inr (.inl 68), .inr (.inl 77), .inr (.inl 87), .inr (.inl 101), .inr (.inl 107), .inr (.inl 113), .inl (.int dy)])), (77, .inl (6, [.inr (.inl 78), .inr (.inl 79), .inr (.inl 80), .inr (.inl 81), .inr (.inl 85), .inr (.inl 86), .inl (.long bf), .inl (.int dl), .inl (.int ds), .inl (.int dr), .inl (.int md), .inl (.int bo)])), (79, .inr (.inr (.inl (32, f))))]) _
      refine ex_istore_n cg_174 (ix := 9) (pc' := 17) (L' := [some (.inr (.inl 0)), some (.inl (.int m)), some (.inl (.int q)), some (.inl (.int (Int32.ofInt (-6))))]) rfl rfl rfl rfl ?_
      refine ex_iload_n cg_174 (ix := 10) (pc' := 18) rfl rfl rfl ?_
      refine ex_if cg_174 (ix := 11) (t := 25) (pc' := 21) rfl rfl rfl (fun hb18 => ?_) (fun hb18 => ?_)
      · have hb18 : (Int32.ofInt (-6)).toInt = 0 := hb18
        exfalso; first | omega | exact absurd hb18 (by decide +kernel)
      · have hb18 : ¬ ((Int32.ofInt (-6)).toInt = 0) := hb18
        refine ex_iload_n cg_174 (ix := 12) (pc' := 22) rfl rfl rfl ?_
        refine ex_goto cg_174 (ix := 13) (pc' := 35) rfl rfl ?_
        refine ex_ireturn cg_174 (ix := 20) rfl ?_
        first | exact ⟨_, rfl, rfl, Or.inr (Or.inl ⟨by omega, by omega, rfl⟩)⟩ | exact ⟨_, rfl, rfl, Or.inr (Or.inr (Or.inr (Or.inl ⟨by omega, hf1, by omega, rfl⟩)))⟩
    · show cx_T _ 174 _ 13 ([some (.inr (.inl 0)), some (.inl (.int m)), some (.inl (.int q)), none], [.inl (.int (Int32.ofInt 0)), .inl (.int (Int32.ofInt 0))], [(0, .inl (10, [.inr (.inl 1), .inr (.inl 2), .inr (.inl 15), .inr (.inl 21), .inr (.inl 43), .inr (.inl 68), .inr (.inl 77), .inr (.inl 87), .inr (.inl 101), .inr (.inl 107), .inr (.inl 113), .inl (.int dy)])), (77, .inl (6, [.inr (.inl 78), .inr (.inl 79), .inr (.inl 80), .inr (.inl 81), .inr (.inl 85), .inr (.inl 86), .inl (.long bf), .inl (.int dl), .inl (.int ds), .inl (.int dr), .inl (.int md), .inl (.int bo)])), (79, .inr (.inr (.inl (32, f))))]) _
      refine ex_callS cg_174 (ix := 8) (pc' := 16) (As := [.inl (.int (Int32.ofInt 0)), .inl (.int (Int32.ofInt 0))]) (r := []) rfl rfl rfl (ct_sxf (f := Int32.ofInt 0) (g := Int32.ofInt 0)) (by first | decide | omega) rfl rfl trivial rfl rfl (fun v h2 hq => ?_)
      obtain ⟨rfl, rfl⟩ := hq
      rw [show sxF (Int32.ofInt 0) (Int32.ofInt 0) = Int32.ofInt 0 by decide +kernel]
      show cx_T _ 174 _ 16 ([some (.inr (.inl 0)), some (.inl (.int m)), some (.inl (.int q)), none], [.inl (.int (Int32.ofInt 0))], [(0, .inl (10, [.inr (.inl 1), .inr (.inl 2), .inr (.inl 15), .inr (.inl 21), .inr (.inl 43), .inr (.inl 68), .inr (.inl 77), .inr (.inl 87), .inr (.inl 101), .inr (.inl 107), .inr (.inl 113), .inl (.int dy)])), (77, .inl (6, [.inr (.inl 78), .inr (.inl 79), .inr (.inl 80), .inr (.inl 81), .inr (.inl 85), .inr (.inl 86), .inl (.long bf), .inl (.int dl), .inl (.int ds), .inl (.int dr), .inl (.int md), .inl (.int bo)])), (79, .inr (.inr (.inl (32, f))))]) _
      refine ex_istore_n cg_174 (ix := 9) (pc' := 17) (L' := [some (.inr (.inl 0)), some (.inl (.int m)), some (.inl (.int q)), some (.inl (.int (Int32.ofInt 0)))]) rfl rfl rfl rfl ?_
      refine ex_iload_n cg_174 (ix := 10) (pc' := 18) rfl rfl rfl ?_
      refine ex_if cg_174 (ix := 11) (t := 25) (pc' := 21) rfl rfl rfl (fun hb18 => ?_) (fun hb18 => ?_)
      · have hb18 : (Int32.ofInt 0).toInt = 0 := hb18
        refine ex_aload_n cg_174 (ix := 14) (pc' := 26) rfl rfl rfl ?_
        refine ex_getfield cg_174 (ix := 15) (pc' := 29) rfl rfl rfl rfl rfl ?_
        refine ex_iconst cg_174 (ix := 16) (pc' := 30) rfl rfl ?_
        refine ex_iload_n cg_174 (ix := 17) (pc' := 31) rfl rfl rfl ?_
        refine ex_imul cg_174 (ix := 18) (pc' := 32) rfl rfl ?_
        have hmul : (Int32.ofInt 2 * m).toInt = 2 * m.toInt := cx_mulk (n := 2) (by decide +kernel) (by omega) (by omega)
        refine ex_callV cg_174 (ix := 19) (pc' := 35) (As := [.inl (.int ((Int32.ofInt 2) * m))]) (r := []) rfl rfl rfl (ct_flt (bf := bf) (dl := dl) (ds := ds) (dr := dr) (md := md) (bo := bo) (more := (Int32.ofInt 2) * m) (f := f) (by omega) (by omega) (by rw [hmul]; omega) (by rw [hmul]; omega)) (by first | decide | omega) rfl rfl rfl ⟨rfl, rfl, trivial⟩ rfl rfl (fun v h2 hq => ?_)
        obtain ⟨zf, rfl, rfl, hzf⟩ := hq
        unfold fltP at hzf
        rw [hmul] at hzf
        rcases hzf with ⟨hf1, rfl⟩ | ⟨hf1, hf2, rfl⟩ | ⟨hf1, hf2, rfl⟩
        · show cx_T _ 174 _ 35 ([some (.inr (.inl 0)), some (.inl (.int m)), some (.inl (.int q)), some (.inl (.int (Int32.ofInt 0)))], [.inl (.int (Int32.ofInt (-5)))], [(0, .inl (10, [.inr (.inl 1), .inr (.inl 2), .inr (.inl 15), .inr (.inl 21), .inr (.inl 43), .inr (.inl 68), .inr (.inl 77), .inr (.inl 87), .inr (.inl 101), .inr (.inl 107), .inr (.inl 113), .inl (.int dy)])), (77, .inl (6, [.inr (.inl 78), .inr (.inl 79), .inr (.inl 80), .inr (.inl 81), .inr (.inl 85), .inr (.inl 86), .inl (.long bf), .inl (.int dl), .inl (.int ds), .inl (.int dr), .inl (.int md), .inl (.int bo)])), (79, .inr (.inr (.inl (32, f))))]) _
          refine ex_ireturn cg_174 (ix := 20) rfl ?_
          exact ⟨_, rfl, rfl, Or.inr (Or.inr (Or.inl ⟨by omega, hf1, rfl⟩))⟩
        · show cx_T _ 174 _ 35 ([some (.inr (.inl 0)), some (.inl (.int m)), some (.inl (.int q)), some (.inl (.int (Int32.ofInt 0)))], [.inl (.int (Int32.ofInt (-6)))], [(0, .inl (10, [.inr (.inl 1), .inr (.inl 2), .inr (.inl 15), .inr (.inl 21), .inr (.inl 43), .inr (.inl 68), .inr (.inl 77), .inr (.inl 87), .inr (.inl 101), .inr (.inl 107), .inr (.inl 113), .inl (.int dy)])), (77, .inl (6, [.inr (.inl 78), .inr (.inl 79), .inr (.inl 80), .inr (.inl 81), .inr (.inl 85), .inr (.inl 86), .inl (.long bf), .inl (.int dl), .inl (.int ds), .inl (.int dr), .inl (.int md), .inl (.int bo)])), (79, .inr (.inr (.inl (32, f))))]) _
          refine ex_ireturn cg_174 (ix := 20) rfl ?_
          first | exact ⟨_, rfl, rfl, Or.inr (Or.inl ⟨by omega, by omega, rfl⟩)⟩ | exact ⟨_, rfl, rfl, Or.inr (Or.inr (Or.inr (Or.inl ⟨by omega, hf1, by omega, rfl⟩)))⟩
        · show cx_T _ 174 _ 35 ([some (.inr (.inl 0)), some (.inl (.int m)), some (.inl (.int q)), some (.inl (.int (Int32.ofInt 0)))], [.inl (.int (Int32.ofInt 0))], [(0, .inl (10, [.inr (.inl 1), .inr (.inl 2), .inr (.inl 15), .inr (.inl 21), .inr (.inl 43), .inr (.inl 68), .inr (.inl 77), .inr (.inl 87), .inr (.inl 101), .inr (.inl 107), .inr (.inl 113), .inl (.int dy)])), (77, .inl (6, [.inr (.inl 78), .inr (.inl 79), .inr (.inl 80), .inr (.inl 81), .inr (.inl 85), .inr (.inl 86), .inl (.long bf), .inl (.int dl), .inl (.int ds), .inl (.int dr), .inl (.int md), .inl (.int bo)])), (79, .inr (.inr (.inl (32, f))))]) _
          refine ex_ireturn cg_174 (ix := 20) rfl ?_
          exact ⟨_, rfl, rfl, Or.inr (Or.inr (Or.inr (Or.inr ⟨by omega, hf1, by omega, rfl⟩)))⟩
      · have hb18 : ¬ ((Int32.ofInt 0).toInt = 0) := hb18
        exfalso; first | omega | exact absurd hb18 (by decide +kernel)
theorem ct_seek {dy : Int32} {r : Nat → Int32} {bf : Int64} {dl ds dr md bo m q : Int32} {f g a0 a1 a2 : Nat → Int64} {tr b : Nat → Int32} {bN mm : Nat} {i : Int32} (hm0 : 0 ≤ md.toInt) (hm1 : md.toInt ≤ 10) (hm : 1 ≤ m.toInt → m.toInt ≤ 3 → m.toInt = (mm : Int)) (hb : bo.toInt = (bN : Int)) (hb32 : bN < 32) : cx_Ct 8 151 [.inr (.inl 0), .inl (.int m), .inl (.int q), .inl (.int i)] (h_xk dy r bf dl ds dr md bo f g a0 a1 a2 tr b) (fun v_ h2 => ∃ (z : Int32) (r2 : Nat → Int32) (bf2 : Int64) (g2 a0x a1x a2x : Nat → Int64) (tr2 b2 : Nat → Int32), v_ = some (.inl (.int z)) ∧ h2 = h_xk dy r2 bf2 dl ds dr md bo f g2 a0x a1x a2x tr2 b2 ∧ (skR m q (sumL f 32) md z ∨ (skO m q (sumL f 32) md ∧ ¬ (0 ≤ i.toInt ∧ i.toInt < m.toInt) ∧ z = Int32.ofInt (-1)) ∨ (skO m q (sumL f 32) md ∧ (0 ≤ i.toInt ∧ i.toInt < m.toInt) ∧ ∀ w : Nat, (tP dl ds dr q mm bN f (Int64.ofNat 0) [] (Int64.ofInt (-1), [])).2[i.toNatClampNeg]? = some w → z.toInt = (w : Int)))) := by
  have kcm6 : (Int32.ofInt (-6)).toInt = -6 := by decide +kernel
  have kcm5 : (Int32.ofInt (-5)).toInt = -5 := by decide +kernel
  have kcm4 : (Int32.ofInt (-4)).toInt = -4 := by decide +kernel
  have kcm1 : (Int32.ofInt (-1)).toInt = -1 := by decide +kernel
  have kc0 : (Int32.ofInt 0).toInt = 0 := by decide +kernel
  have kc1 : (Int32.ofInt 1).toInt = 1 := by decide +kernel
  refine cx_Ct.of cg_151 (nL := 5) rfl rfl rfl ?_
  show cx_T 8 151 [0, 1, 77, 79, 80, 81, 82, 83, 84, 85, 86] 0 ([some (.inr (.inl 0)), some (.inl (.int m)), some (.inl (.int q)), some (.inl (.int i)), none], [], (h_xk dy r bf dl ds dr md bo f g a0 a1 a2 tr b)) _
  refine ex_aload_n cg_151 (ix := 0) (pc' := 1) rfl rfl rfl ?_
  refine ex_iload_n cg_151 (ix := 1) (pc' := 2) rfl rfl rfl ?_
  refine ex_iload_n cg_151 (ix := 2) (pc' := 3) rfl rfl rfl ?_
  refine ex_callV cg_151 (ix := 3) (pc' := 6) (As := [.inl (.int m), .inl (.int q)]) (r := []) rfl rfl rfl (ct_sf (dy := dy) (bf := bf) (dl := dl) (ds := ds) (dr := dr) (md := md) (bo := bo) (m := m) (q := q) (f := f) hm0 hm1) (by first | decide | omega) rfl rfl rfl ⟨rfl, rfl, rfl, trivial⟩ rfl rfl (fun v h2 hq => ?_)
  obtain ⟨zw, rfl, rfl, hzw⟩ := hq
  rcases hzw with ⟨w1, rfl⟩ | ⟨w1, w2, rfl⟩ | ⟨w1, w2, rfl⟩ | ⟨w1, w2, w3, rfl⟩ | ⟨w1, w2, w3, rfl⟩
  · show cx_T _ 151 _ 6 ([some (.inr (.inl 0)), some (.inl (.int m)), some (.inl (.int q)), some (.inl (.int i)), none], [.inl (.int (Int32.ofInt (-4)))], [(0, .inl (10, [.inr (.inl 1), .inr (.inl 2), .inr (.inl 15), .inr (.inl 21), .inr (.inl 43), .inr (.inl 68), .inr (.inl 77), .inr (.inl 87), .inr (.inl 101), .inr (.inl 107), .inr (.inl 113), .inl (.int dy)])), (1, .inr (.inl (0, 7, r))), (77, .inl (6, [.inr (.inl 78), .inr (.inl 79), .inr (.inl 80), .inr (.inl 81), .inr (.inl 85), .inr (.inl 86), .inl (.long bf), .inl (.int dl), .inl (.int ds), .inl (.int dr), .inl (.int md), .inl (.int bo)])), (79, .inr (.inr (.inl (32, f)))), (80, .inr (.inr (.inl (32, g)))), (81, .inr (.inr (.inr (4, [82, 83, 84])))), (82, .inr (.inr (.inl (32, a0)))), (83, .inr (.inr (.inl (32, a1)))), (84, .inr (.inr (.inl (32, a2)))), (85, .inr (.inl (0, 3, tr))), (86, .inr (.inl (0, 3, b)))]) _
    refine ex_istore cg_151 (ix := 4) (pc' := 8) (L' := [some (.inr (.inl 0)), some (.inl (.int m)), some (.inl (.int q)), some (.inl (.int i)), some (.inl (.int (Int32.ofInt (-4))))]) rfl rfl rfl rfl ?_
    refine ex_iload cg_151 (ix := 5) (pc' := 10) rfl rfl rfl ?_
    refine ex_if cg_151 (ix := 6) (t := 25) (pc' := 13) rfl rfl rfl (fun hb10 => ?_) (fun hb10 => ?_)
    · have hb10 : ¬ (Int32.ofInt (-4)).toInt = 0 := hb10
      refine ex_iload cg_151 (ix := 14) (pc' := 27) rfl rfl rfl ?_
      refine ex_if cg_151 (ix := 15) (t := 37) (pc' := 30) rfl rfl rfl (fun hb27 => ?_) (fun hb27 => ?_)
      · have hb27 : (Int32.ofInt (-4)).toInt = 0 := hb27
        exfalso; first | omega | exact absurd hb27 (by decide +kernel)
      · have hb27 : ¬ ((Int32.ofInt (-4)).toInt = 0) := hb27
        refine ex_aload_n cg_151 (ix := 16) (pc' := 31) rfl rfl rfl ?_
        refine ex_iload cg_151 (ix := 17) (pc' := 33) rfl rfl rfl ?_
        refine ex_callV cg_151 (ix := 18) (pc' := 36) (As := [.inl (.int (Int32.ofInt (-4)))]) (r := []) rfl rfl rfl (ct_xref (dy := dy) (x := Int32.ofInt (-4)) (r := r) (by decide +kernel) (by decide +kernel)) (by first | decide | omega) rfl rfl rfl ⟨rfl, rfl, trivial⟩ rfl rfl (fun v h2 hq => ?_)
        obtain ⟨rfl, r2, rfl⟩ := hq
        show cx_T _ 151 _ 36 ([some (.inr (.inl 0)), some (.inl (.int m)), some (.inl (.int q)), some (.inl (.int i)), some (.inl (.int (Int32.ofInt (-4))))], [.inl (.int (Int32.ofInt (-4)))], [(0, .inl (10, [.inr (.inl 1), .inr (.inl 2), .inr (.inl 15), .inr (.inl 21), .inr (.inl 43), .inr (.inl 68), .inr (.inl 77), .inr (.inl 87), .inr (.inl 101), .inr (.inl 107), .inr (.inl 113), .inl (.int dy)])), (1, .inr (.inl (0, 7, r2))), (77, .inl (6, [.inr (.inl 78), .inr (.inl 79), .inr (.inl 80), .inr (.inl 81), .inr (.inl 85), .inr (.inl 86), .inl (.long bf), .inl (.int dl), .inl (.int ds), .inl (.int dr), .inl (.int md), .inl (.int bo)])), (79, .inr (.inr (.inl (32, f)))), (80, .inr (.inr (.inl (32, g)))), (81, .inr (.inr (.inr (4, [82, 83, 84])))), (82, .inr (.inr (.inl (32, a0)))), (83, .inr (.inr (.inl (32, a1)))), (84, .inr (.inr (.inl (32, a2)))), (85, .inr (.inl (0, 3, tr))), (86, .inr (.inl (0, 3, b)))]) _
        refine ex_ireturn cg_151 (ix := 19) rfl ?_
        first | exact ⟨_, r2, bf, g, a0, a1, a2, tr, b, rfl, rfl, Or.inl (Or.inl ⟨w1, rfl⟩)⟩ | exact ⟨_, r2, bf, g, a0, a1, a2, tr, b, rfl, rfl, Or.inl (Or.inr (Or.inl ⟨w1, w2, rfl⟩))⟩ | exact ⟨_, r2, bf, g, a0, a1, a2, tr, b, rfl, rfl, Or.inl (Or.inr (Or.inr (Or.inl ⟨w1, w2, rfl⟩)))⟩ | exact ⟨_, r2, bf, g, a0, a1, a2, tr, b, rfl, rfl, Or.inl (Or.inr (Or.inr (Or.inr ⟨w1, w2, w3, rfl⟩)))⟩
    · have hb10 : ¬ (¬ (Int32.ofInt (-4)).toInt = 0) := hb10
      exfalso; first | omega | exact absurd hb10 (by decide +kernel)
  · show cx_T _ 151 _ 6 ([some (.inr (.inl 0)), some (.inl (.int m)), some (.inl (.int q)), some (.inl (.int i)), none], [.inl (.int (Int32.ofInt (-6)))], [(0, .inl (10, [.inr (.inl 1), .inr (.inl 2), .inr (.inl 15), .inr (.inl 21), .inr (.inl 43), .inr (.inl 68), .inr (.inl 77), .inr (.inl 87), .inr (.inl 101), .inr (.inl 107), .inr (.inl 113), .inl (.int dy)])), (1, .inr (.inl (0, 7, r))), (77, .inl (6, [.inr (.inl 78), .inr (.inl 79), .inr (.inl 80), .inr (.inl 81), .inr (.inl 85), .inr (.inl 86), .inl (.long bf), .inl (.int dl), .inl (.int ds), .inl (.int dr), .inl (.int md), .inl (.int bo)])), (79, .inr (.inr (.inl (32, f)))), (80, .inr (.inr (.inl (32, g)))), (81, .inr (.inr (.inr (4, [82, 83, 84])))), (82, .inr (.inr (.inl (32, a0)))), (83, .inr (.inr (.inl (32, a1)))), (84, .inr (.inr (.inl (32, a2)))), (85, .inr (.inl (0, 3, tr))), (86, .inr (.inl (0, 3, b)))]) _
    refine ex_istore cg_151 (ix := 4) (pc' := 8) (L' := [some (.inr (.inl 0)), some (.inl (.int m)), some (.inl (.int q)), some (.inl (.int i)), some (.inl (.int (Int32.ofInt (-6))))]) rfl rfl rfl rfl ?_
    refine ex_iload cg_151 (ix := 5) (pc' := 10) rfl rfl rfl ?_
    refine ex_if cg_151 (ix := 6) (t := 25) (pc' := 13) rfl rfl rfl (fun hb10 => ?_) (fun hb10 => ?_)
    · have hb10 : ¬ (Int32.ofInt (-6)).toInt = 0 := hb10
      refine ex_iload cg_151 (ix := 14) (pc' := 27) rfl rfl rfl ?_
      refine ex_if cg_151 (ix := 15) (t := 37) (pc' := 30) rfl rfl rfl (fun hb27 => ?_) (fun hb27 => ?_)
      · have hb27 : (Int32.ofInt (-6)).toInt = 0 := hb27
        exfalso; first | omega | exact absurd hb27 (by decide +kernel)
      · have hb27 : ¬ ((Int32.ofInt (-6)).toInt = 0) := hb27
        refine ex_aload_n cg_151 (ix := 16) (pc' := 31) rfl rfl rfl ?_
        refine ex_iload cg_151 (ix := 17) (pc' := 33) rfl rfl rfl ?_
        refine ex_callV cg_151 (ix := 18) (pc' := 36) (As := [.inl (.int (Int32.ofInt (-6)))]) (r := []) rfl rfl rfl (ct_xref (dy := dy) (x := Int32.ofInt (-6)) (r := r) (by decide +kernel) (by decide +kernel)) (by first | decide | omega) rfl rfl rfl ⟨rfl, rfl, trivial⟩ rfl rfl (fun v h2 hq => ?_)
        obtain ⟨rfl, r2, rfl⟩ := hq
        show cx_T _ 151 _ 36 ([some (.inr (.inl 0)), some (.inl (.int m)), some (.inl (.int q)), some (.inl (.int i)), some (.inl (.int (Int32.ofInt (-6))))], [.inl (.int (Int32.ofInt (-6)))], [(0, .inl (10, [.inr (.inl 1), .inr (.inl 2), .inr (.inl 15), .inr (.inl 21), .inr (.inl 43), .inr (.inl 68), .inr (.inl 77), .inr (.inl 87), .inr (.inl 101), .inr (.inl 107), .inr (.inl 113), .inl (.int dy)])), (1, .inr (.inl (0, 7, r2))), (77, .inl (6, [.inr (.inl 78), .inr (.inl 79), .inr (.inl 80), .inr (.inl 81), .inr (.inl 85), .inr (.inl 86), .inl (.long bf), .inl (.int dl), .inl (.int ds), .inl (.int dr), .inl (.int md), .inl (.int bo)])), (79, .inr (.inr (.inl (32, f)))), (80, .inr (.inr (.inl (32, g)))), (81, .inr (.inr (.inr (4, [82, 83, 84])))), (82, .inr (.inr (.inl (32, a0)))), (83, .inr (.inr (.inl (32, a1)))), (84, .inr (.inr (.inl (32, a2)))), (85, .inr (.inl (0, 3, tr))), (86, .inr (.inl (0, 3, b)))]) _
        refine ex_ireturn cg_151 (ix := 19) rfl ?_
        first | exact ⟨_, r2, bf, g, a0, a1, a2, tr, b, rfl, rfl, Or.inl (Or.inl ⟨w1, rfl⟩)⟩ | exact ⟨_, r2, bf, g, a0, a1, a2, tr, b, rfl, rfl, Or.inl (Or.inr (Or.inl ⟨w1, w2, rfl⟩))⟩ | exact ⟨_, r2, bf, g, a0, a1, a2, tr, b, rfl, rfl, Or.inl (Or.inr (Or.inr (Or.inl ⟨w1, w2, rfl⟩)))⟩ | exact ⟨_, r2, bf, g, a0, a1, a2, tr, b, rfl, rfl, Or.inl (Or.inr (Or.inr (Or.inr ⟨w1, w2, w3, rfl⟩)))⟩
    · have hb10 : ¬ (¬ (Int32.ofInt (-6)).toInt = 0) := hb10
      exfalso; first | omega | exact absurd hb10 (by decide +kernel)
  · show cx_T _ 151 _ 6 ([some (.inr (.inl 0)), some (.inl (.int m)), some (.inl (.int q)), some (.inl (.int i)), none], [.inl (.int (Int32.ofInt (-5)))], [(0, .inl (10, [.inr (.inl 1), .inr (.inl 2), .inr (.inl 15), .inr (.inl 21), .inr (.inl 43), .inr (.inl 68), .inr (.inl 77), .inr (.inl 87), .inr (.inl 101), .inr (.inl 107), .inr (.inl 113), .inl (.int dy)])), (1, .inr (.inl (0, 7, r))), (77, .inl (6, [.inr (.inl 78), .inr (.inl 79), .inr (.inl 80), .inr (.inl 81), .inr (.inl 85), .inr (.inl 86), .inl (.long bf), .inl (.int dl), .inl (.int ds), .inl (.int dr), .inl (.int md), .inl (.int bo)])), (79, .inr (.inr (.inl (32, f)))), (80, .inr (.inr (.inl (32, g)))), (81, .inr (.inr (.inr (4, [82, 83, 84])))), (82, .inr (.inr (.inl (32, a0)))), (83, .inr (.inr (.inl (32, a1)))), (84, .inr (.inr (.inl (32, a2)))), (85, .inr (.inl (0, 3, tr))), (86, .inr (.inl (0, 3, b)))]) _
    refine ex_istore cg_151 (ix := 4) (pc' := 8) (L' := [some (.inr (.inl 0)), some (.inl (.int m)), some (.inl (.int q)), some (.inl (.int i)), some (.inl (.int (Int32.ofInt (-5))))]) rfl rfl rfl rfl ?_
    refine ex_iload cg_151 (ix := 5) (pc' := 10) rfl rfl rfl ?_
    refine ex_if cg_151 (ix := 6) (t := 25) (pc' := 13) rfl rfl rfl (fun hb10 => ?_) (fun hb10 => ?_)
    · have hb10 : ¬ (Int32.ofInt (-5)).toInt = 0 := hb10
      refine ex_iload cg_151 (ix := 14) (pc' := 27) rfl rfl rfl ?_
      refine ex_if cg_151 (ix := 15) (t := 37) (pc' := 30) rfl rfl rfl (fun hb27 => ?_) (fun hb27 => ?_)
      · have hb27 : (Int32.ofInt (-5)).toInt = 0 := hb27
        exfalso; first | omega | exact absurd hb27 (by decide +kernel)
      · have hb27 : ¬ ((Int32.ofInt (-5)).toInt = 0) := hb27
        refine ex_aload_n cg_151 (ix := 16) (pc' := 31) rfl rfl rfl ?_
        refine ex_iload cg_151 (ix := 17) (pc' := 33) rfl rfl rfl ?_
        refine ex_callV cg_151 (ix := 18) (pc' := 36) (As := [.inl (.int (Int32.ofInt (-5)))]) (r := []) rfl rfl rfl (ct_xref (dy := dy) (x := Int32.ofInt (-5)) (r := r) (by decide +kernel) (by decide +kernel)) (by first | decide | omega) rfl rfl rfl ⟨rfl, rfl, trivial⟩ rfl rfl (fun v h2 hq => ?_)
        obtain ⟨rfl, r2, rfl⟩ := hq
        show cx_T _ 151 _ 36 ([some (.inr (.inl 0)), some (.inl (.int m)), some (.inl (.int q)), some (.inl (.int i)), some (.inl (.int (Int32.ofInt (-5))))], [.inl (.int (Int32.ofInt (-5)))], [(0, .inl (10, [.inr (.inl 1), .inr (.inl 2), .inr (.inl 15), .inr (.inl 21), .inr (.inl 43), .inr (.inl 68), .inr (.inl 77), .inr (.inl 87), .inr (.inl 101), .inr (.inl 107), .inr (.inl 113), .inl (.int dy)])), (1, .inr (.inl (0, 7, r2))), (77, .inl (6, [.inr (.inl 78), .inr (.inl 79), .inr (.inl 80), .inr (.inl 81), .inr (.inl 85), .inr (.inl 86), .inl (.long bf), .inl (.int dl), .inl (.int ds), .inl (.int dr), .inl (.int md), .inl (.int bo)])), (79, .inr (.inr (.inl (32, f)))), (80, .inr (.inr (.inl (32, g)))), (81, .inr (.inr (.inr (4, [82, 83, 84])))), (82, .inr (.inr (.inl (32, a0)))), (83, .inr (.inr (.inl (32, a1)))), (84, .inr (.inr (.inl (32, a2)))), (85, .inr (.inl (0, 3, tr))), (86, .inr (.inl (0, 3, b)))]) _
        refine ex_ireturn cg_151 (ix := 19) rfl ?_
        first | exact ⟨_, r2, bf, g, a0, a1, a2, tr, b, rfl, rfl, Or.inl (Or.inl ⟨w1, rfl⟩)⟩ | exact ⟨_, r2, bf, g, a0, a1, a2, tr, b, rfl, rfl, Or.inl (Or.inr (Or.inl ⟨w1, w2, rfl⟩))⟩ | exact ⟨_, r2, bf, g, a0, a1, a2, tr, b, rfl, rfl, Or.inl (Or.inr (Or.inr (Or.inl ⟨w1, w2, rfl⟩)))⟩ | exact ⟨_, r2, bf, g, a0, a1, a2, tr, b, rfl, rfl, Or.inl (Or.inr (Or.inr (Or.inr ⟨w1, w2, w3, rfl⟩)))⟩
    · have hb10 : ¬ (¬ (Int32.ofInt (-5)).toInt = 0) := hb10
      exfalso; first | omega | exact absurd hb10 (by decide +kernel)
  · show cx_T _ 151 _ 6 ([some (.inr (.inl 0)), some (.inl (.int m)), some (.inl (.int q)), some (.inl (.int i)), none], [.inl (.int (Int32.ofInt (-6)))], [(0, .inl (10, [.inr (.inl 1), .inr (.inl 2), .inr (.inl 15), .inr (.inl 21), .inr (.inl 43), .inr (.inl 68), .inr (.inl 77), .inr (.inl 87), .inr (.inl 101), .inr (.inl 107), .inr (.inl 113), .inl (.int dy)])), (1, .inr (.inl (0, 7, r))), (77, .inl (6, [.inr (.inl 78), .inr (.inl 79), .inr (.inl 80), .inr (.inl 81), .inr (.inl 85), .inr (.inl 86), .inl (.long bf), .inl (.int dl), .inl (.int ds), .inl (.int dr), .inl (.int md), .inl (.int bo)])), (79, .inr (.inr (.inl (32, f)))), (80, .inr (.inr (.inl (32, g)))), (81, .inr (.inr (.inr (4, [82, 83, 84])))), (82, .inr (.inr (.inl (32, a0)))), (83, .inr (.inr (.inl (32, a1)))), (84, .inr (.inr (.inl (32, a2)))), (85, .inr (.inl (0, 3, tr))), (86, .inr (.inl (0, 3, b)))]) _
    refine ex_istore cg_151 (ix := 4) (pc' := 8) (L' := [some (.inr (.inl 0)), some (.inl (.int m)), some (.inl (.int q)), some (.inl (.int i)), some (.inl (.int (Int32.ofInt (-6))))]) rfl rfl rfl rfl ?_
    refine ex_iload cg_151 (ix := 5) (pc' := 10) rfl rfl rfl ?_
    refine ex_if cg_151 (ix := 6) (t := 25) (pc' := 13) rfl rfl rfl (fun hb10 => ?_) (fun hb10 => ?_)
    · have hb10 : ¬ (Int32.ofInt (-6)).toInt = 0 := hb10
      refine ex_iload cg_151 (ix := 14) (pc' := 27) rfl rfl rfl ?_
      refine ex_if cg_151 (ix := 15) (t := 37) (pc' := 30) rfl rfl rfl (fun hb27 => ?_) (fun hb27 => ?_)
      · have hb27 : (Int32.ofInt (-6)).toInt = 0 := hb27
        exfalso; first | omega | exact absurd hb27 (by decide +kernel)
      · have hb27 : ¬ ((Int32.ofInt (-6)).toInt = 0) := hb27
        refine ex_aload_n cg_151 (ix := 16) (pc' := 31) rfl rfl rfl ?_
        refine ex_iload cg_151 (ix := 17) (pc' := 33) rfl rfl rfl ?_
        refine ex_callV cg_151 (ix := 18) (pc' := 36) (As := [.inl (.int (Int32.ofInt (-6)))]) (r := []) rfl rfl rfl (ct_xref (dy := dy) (x := Int32.ofInt (-6)) (r := r) (by decide +kernel) (by decide +kernel)) (by first | decide | omega) rfl rfl rfl ⟨rfl, rfl, trivial⟩ rfl rfl (fun v h2 hq => ?_)
        obtain ⟨rfl, r2, rfl⟩ := hq
        show cx_T _ 151 _ 36 ([some (.inr (.inl 0)), some (.inl (.int m)), some (.inl (.int q)), some (.inl (.int i)), some (.inl (.int (Int32.ofInt (-6))))], [.inl (.int (Int32.ofInt (-6)))], [(0, .inl (10, [.inr (.inl 1), .inr (.inl 2), .inr (.inl 15), .inr (.inl 21), .inr (.inl 43), .inr (.inl 68), .inr (.inl 77), .inr (.inl 87), .inr (.inl 101), .inr (.inl 107), .inr (.inl 113), .inl (.int dy)])), (1, .inr (.inl (0, 7, r2))), (77, .inl (6, [.inr (.inl 78), .inr (.inl 79), .inr (.inl 80), .inr (.inl 81), .inr (.inl 85), .inr (.inl 86), .inl (.long bf), .inl (.int dl), .inl (.int ds), .inl (.int dr), .inl (.int md), .inl (.int bo)])), (79, .inr (.inr (.inl (32, f)))), (80, .inr (.inr (.inl (32, g)))), (81, .inr (.inr (.inr (4, [82, 83, 84])))), (82, .inr (.inr (.inl (32, a0)))), (83, .inr (.inr (.inl (32, a1)))), (84, .inr (.inr (.inl (32, a2)))), (85, .inr (.inl (0, 3, tr))), (86, .inr (.inl (0, 3, b)))]) _
        refine ex_ireturn cg_151 (ix := 19) rfl ?_
        first | exact ⟨_, r2, bf, g, a0, a1, a2, tr, b, rfl, rfl, Or.inl (Or.inl ⟨w1, rfl⟩)⟩ | exact ⟨_, r2, bf, g, a0, a1, a2, tr, b, rfl, rfl, Or.inl (Or.inr (Or.inl ⟨w1, w2, rfl⟩))⟩ | exact ⟨_, r2, bf, g, a0, a1, a2, tr, b, rfl, rfl, Or.inl (Or.inr (Or.inr (Or.inl ⟨w1, w2, rfl⟩)))⟩ | exact ⟨_, r2, bf, g, a0, a1, a2, tr, b, rfl, rfl, Or.inl (Or.inr (Or.inr (Or.inr ⟨w1, w2, w3, rfl⟩)))⟩
    · have hb10 : ¬ (¬ (Int32.ofInt (-6)).toInt = 0) := hb10
      exfalso; first | omega | exact absurd hb10 (by decide +kernel)
  · show cx_T _ 151 _ 6 ([some (.inr (.inl 0)), some (.inl (.int m)), some (.inl (.int q)), some (.inl (.int i)), none], [.inl (.int (Int32.ofInt 0))], [(0, .inl (10, [.inr (.inl 1), .inr (.inl 2), .inr (.inl 15), .inr (.inl 21), .inr (.inl 43), .inr (.inl 68), .inr (.inl 77), .inr (.inl 87), .inr (.inl 101), .inr (.inl 107), .inr (.inl 113), .inl (.int dy)])), (1, .inr (.inl (0, 7, r))), (77, .inl (6, [.inr (.inl 78), .inr (.inl 79), .inr (.inl 80), .inr (.inl 81), .inr (.inl 85), .inr (.inl 86), .inl (.long bf), .inl (.int dl), .inl (.int ds), .inl (.int dr), .inl (.int md), .inl (.int bo)])), (79, .inr (.inr (.inl (32, f)))), (80, .inr (.inr (.inl (32, g)))), (81, .inr (.inr (.inr (4, [82, 83, 84])))), (82, .inr (.inr (.inl (32, a0)))), (83, .inr (.inr (.inl (32, a1)))), (84, .inr (.inr (.inl (32, a2)))), (85, .inr (.inl (0, 3, tr))), (86, .inr (.inl (0, 3, b)))]) _
    refine ex_istore cg_151 (ix := 4) (pc' := 8) (L' := [some (.inr (.inl 0)), some (.inl (.int m)), some (.inl (.int q)), some (.inl (.int i)), some (.inl (.int (Int32.ofInt 0)))]) rfl rfl rfl rfl ?_
    refine ex_iload cg_151 (ix := 5) (pc' := 10) rfl rfl rfl ?_
    refine ex_if cg_151 (ix := 6) (t := 25) (pc' := 13) rfl rfl rfl (fun hb10 => ?_) (fun hb10 => ?_)
    · have hb10 : ¬ (Int32.ofInt 0).toInt = 0 := hb10
      exfalso; first | omega | exact absurd hb10 (by decide +kernel)
    · have hb10 : ¬ (¬ (Int32.ofInt 0).toInt = 0) := hb10
      refine ex_iload_n cg_151 (ix := 7) (pc' := 14) rfl rfl rfl ?_
      refine ex_if cg_151 (ix := 8) (t := 22) (pc' := 17) rfl rfl rfl (fun hb14 => ?_) (fun hb14 => ?_)
      · have hb14 : i.toInt < 0 := hb14
        refine ex_iconst cg_151 (ix := 12) (pc' := 23) rfl rfl ?_
        refine ex_istore cg_151 (ix := 13) (pc' := 25) (L' := [some (.inr (.inl 0)), some (.inl (.int m)), some (.inl (.int q)), some (.inl (.int i)), some (.inl (.int (Int32.ofInt (-1))))]) rfl rfl rfl rfl ?_
        refine ex_iload cg_151 (ix := 14) (pc' := 27) rfl rfl rfl ?_
        refine ex_if cg_151 (ix := 15) (t := 37) (pc' := 30) rfl rfl rfl (fun hb27 => ?_) (fun hb27 => ?_)
        · have hb27 : (Int32.ofInt (-1)).toInt = 0 := hb27
          exfalso; first | omega | exact absurd hb27 (by decide +kernel)
        · have hb27 : ¬ ((Int32.ofInt (-1)).toInt = 0) := hb27
          refine ex_aload_n cg_151 (ix := 16) (pc' := 31) rfl rfl rfl ?_
          refine ex_iload cg_151 (ix := 17) (pc' := 33) rfl rfl rfl ?_
          refine ex_callV cg_151 (ix := 18) (pc' := 36) (As := [.inl (.int (Int32.ofInt (-1)))]) (r := []) rfl rfl rfl (ct_xref (dy := dy) (x := Int32.ofInt (-1)) (r := r) (by decide +kernel) (by decide +kernel)) (by first | decide | omega) rfl rfl rfl ⟨rfl, rfl, trivial⟩ rfl rfl (fun v h2 hq => ?_)
          obtain ⟨rfl, r2, rfl⟩ := hq
          show cx_T _ 151 _ 36 ([some (.inr (.inl 0)), some (.inl (.int m)), some (.inl (.int q)), some (.inl (.int i)), some (.inl (.int (Int32.ofInt (-1))))], [.inl (.int (Int32.ofInt (-1)))], [(0, .inl (10, [.inr (.inl 1), .inr (.inl 2), .inr (.inl 15), .inr (.inl 21), .inr (.inl 43), .inr (.inl 68), .inr (.inl 77), .inr (.inl 87), .inr (.inl 101), .inr (.inl 107), .inr (.inl 113), .inl (.int dy)])), (1, .inr (.inl (0, 7, r2))), (77, .inl (6, [.inr (.inl 78), .inr (.inl 79), .inr (.inl 80), .inr (.inl 81), .inr (.inl 85), .inr (.inl 86), .inl (.long bf), .inl (.int dl), .inl (.int ds), .inl (.int dr), .inl (.int md), .inl (.int bo)])), (79, .inr (.inr (.inl (32, f)))), (80, .inr (.inr (.inl (32, g)))), (81, .inr (.inr (.inr (4, [82, 83, 84])))), (82, .inr (.inr (.inl (32, a0)))), (83, .inr (.inr (.inl (32, a1)))), (84, .inr (.inr (.inl (32, a2)))), (85, .inr (.inl (0, 3, tr))), (86, .inr (.inl (0, 3, b)))]) _
          refine ex_ireturn cg_151 (ix := 19) rfl ?_
          exact ⟨_, r2, bf, g, a0, a1, a2, tr, b, rfl, rfl, Or.inr (Or.inl ⟨⟨w1, w2, w3⟩, by omega, rfl⟩)⟩
      · have hb14 : ¬ (i.toInt < 0) := hb14
        refine ex_iload_n cg_151 (ix := 9) (pc' := 18) rfl rfl rfl ?_
        refine ex_iload_n cg_151 (ix := 10) (pc' := 19) rfl rfl rfl ?_
        refine ex_icmp cg_151 (ix := 11) (t := 25) (pc' := 22) rfl rfl rfl (fun hb19 => ?_) (fun hb19 => ?_)
        · have hb19 : i.toInt < m.toInt := hb19
          refine ex_iload cg_151 (ix := 14) (pc' := 27) rfl rfl rfl ?_
          refine ex_if cg_151 (ix := 15) (t := 37) (pc' := 30) rfl rfl rfl (fun hb27 => ?_) (fun hb27 => ?_)
          · have hb27 : (Int32.ofInt 0).toInt = 0 := hb27
            refine ex_aload_n cg_151 (ix := 20) (pc' := 38) rfl rfl rfl ?_
            refine ex_getfield cg_151 (ix := 21) (pc' := 41) rfl rfl rfl rfl rfl ?_
            refine ex_iload_n cg_151 (ix := 22) (pc' := 42) rfl rfl rfl ?_
            refine ex_iload_n cg_151 (ix := 23) (pc' := 43) rfl rfl rfl ?_
            refine ex_callV cg_151 (ix := 24) (pc' := 46) (As := [.inl (.int m), .inl (.int q)]) (r := []) rfl rfl rfl (ct_fb (bf := bf) (dl := dl) (ds := ds) (dr := dr) (md := md) (bo := bo) (q := q) (f := f) (g := g) (a0 := a0) (a1 := a1) (a2 := a2) (tr := tr) (b := b) (bN := bN) (m := m) (mm := mm) (by omega) (by omega) (by omega) hb hb32) (by first | decide | omega) rfl rfl rfl ⟨rfl, rfl, rfl, rfl, rfl, rfl, rfl, rfl, rfl, trivial⟩ rfl rfl (fun v h2 hq => ?_)
            obtain ⟨bf2, g2, a0x, a1x, a2x, tr2, b2, rfl, rfl, hbf2, hok2⟩ := hq
            show cx_T _ 151 _ 46 ([some (.inr (.inl 0)), some (.inl (.int m)), some (.inl (.int q)), some (.inl (.int i)), some (.inl (.int (Int32.ofInt 0)))], [], [(0, .inl (10, [.inr (.inl 1), .inr (.inl 2), .inr (.inl 15), .inr (.inl 21), .inr (.inl 43), .inr (.inl 68), .inr (.inl 77), .inr (.inl 87), .inr (.inl 101), .inr (.inl 107), .inr (.inl 113), .inl (.int dy)])), (1, .inr (.inl (0, 7, r))), (77, .inl (6, [.inr (.inl 78), .inr (.inl 79), .inr (.inl 80), .inr (.inl 81), .inr (.inl 85), .inr (.inl 86), .inl (.long bf2), .inl (.int dl), .inl (.int ds), .inl (.int dr), .inl (.int md), .inl (.int bo)])), (79, .inr (.inr (.inl (32, f)))), (80, .inr (.inr (.inl (32, g2)))), (81, .inr (.inr (.inr (4, [82, 83, 84])))), (82, .inr (.inr (.inl (32, a0x)))), (83, .inr (.inr (.inl (32, a1x)))), (84, .inr (.inr (.inl (32, a2x)))), (85, .inr (.inl (0, 3, tr2))), (86, .inr (.inl (0, 3, b2)))]) _
            refine ex_aload_n cg_151 (ix := 25) (pc' := 47) rfl rfl rfl ?_
            refine ex_getfield cg_151 (ix := 26) (pc' := 50) rfl rfl rfl rfl rfl ?_
            refine ex_iload_n cg_151 (ix := 27) (pc' := 51) rfl rfl rfl ?_
            refine ex_callV cg_151 (ix := 28) (pc' := 54) (As := [.inl (.int i)]) (r := []) rfl rfl rfl (ct_bp (bf := bf2) (dl := dl) (ds := ds) (dr := dr) (md := md) (bo := bo) (i := i) (b := b2) (by omega) (by omega)) (by first | decide | omega) rfl rfl rfl ⟨rfl, rfl, trivial⟩ rfl rfl (fun v h2 hq => ?_)
            obtain ⟨rfl, rfl⟩ := hq
            show cx_T _ 151 _ 54 ([some (.inr (.inl 0)), some (.inl (.int m)), some (.inl (.int q)), some (.inl (.int i)), some (.inl (.int (Int32.ofInt 0)))], [.inl (.int (b2 i.toNatClampNeg))], [(0, .inl (10, [.inr (.inl 1), .inr (.inl 2), .inr (.inl 15), .inr (.inl 21), .inr (.inl 43), .inr (.inl 68), .inr (.inl 77), .inr (.inl 87), .inr (.inl 101), .inr (.inl 107), .inr (.inl 113), .inl (.int dy)])), (1, .inr (.inl (0, 7, r))), (77, .inl (6, [.inr (.inl 78), .inr (.inl 79), .inr (.inl 80), .inr (.inl 81), .inr (.inl 85), .inr (.inl 86), .inl (.long bf2), .inl (.int dl), .inl (.int ds), .inl (.int dr), .inl (.int md), .inl (.int bo)])), (79, .inr (.inr (.inl (32, f)))), (80, .inr (.inr (.inl (32, g2)))), (81, .inr (.inr (.inr (4, [82, 83, 84])))), (82, .inr (.inr (.inl (32, a0x)))), (83, .inr (.inr (.inl (32, a1x)))), (84, .inr (.inr (.inl (32, a2x)))), (85, .inr (.inl (0, 3, tr2))), (86, .inr (.inl (0, 3, b2)))]) _
            refine ex_ireturn cg_151 (ix := 29) rfl ?_
            refine ⟨_, r, bf2, g2, a0x, a1x, a2x, tr2, b2, rfl, rfl, Or.inr (Or.inr ⟨⟨w1, w2, w3⟩, by omega, fun w hw => ?_⟩)⟩
            have hI := ab_clamp (x := i) (by omega)
            exact hok2 i.toNatClampNeg (by omega) w hw
          · have hb27 : ¬ ((Int32.ofInt 0).toInt = 0) := hb27
            exfalso; first | omega | exact absurd hb27 (by decide +kernel)
        · have hb19 : ¬ (i.toInt < m.toInt) := hb19
          refine ex_iconst cg_151 (ix := 12) (pc' := 23) rfl rfl ?_
          refine ex_istore cg_151 (ix := 13) (pc' := 25) (L' := [some (.inr (.inl 0)), some (.inl (.int m)), some (.inl (.int q)), some (.inl (.int i)), some (.inl (.int (Int32.ofInt (-1))))]) rfl rfl rfl rfl ?_
          refine ex_iload cg_151 (ix := 14) (pc' := 27) rfl rfl rfl ?_
          refine ex_if cg_151 (ix := 15) (t := 37) (pc' := 30) rfl rfl rfl (fun hb27 => ?_) (fun hb27 => ?_)
          · have hb27 : (Int32.ofInt (-1)).toInt = 0 := hb27
            exfalso; first | omega | exact absurd hb27 (by decide +kernel)
          · have hb27 : ¬ ((Int32.ofInt (-1)).toInt = 0) := hb27
            refine ex_aload_n cg_151 (ix := 16) (pc' := 31) rfl rfl rfl ?_
            refine ex_iload cg_151 (ix := 17) (pc' := 33) rfl rfl rfl ?_
            refine ex_callV cg_151 (ix := 18) (pc' := 36) (As := [.inl (.int (Int32.ofInt (-1)))]) (r := []) rfl rfl rfl (ct_xref (dy := dy) (x := Int32.ofInt (-1)) (r := r) (by decide +kernel) (by decide +kernel)) (by first | decide | omega) rfl rfl rfl ⟨rfl, rfl, trivial⟩ rfl rfl (fun v h2 hq => ?_)
            obtain ⟨rfl, r2, rfl⟩ := hq
            show cx_T _ 151 _ 36 ([some (.inr (.inl 0)), some (.inl (.int m)), some (.inl (.int q)), some (.inl (.int i)), some (.inl (.int (Int32.ofInt (-1))))], [.inl (.int (Int32.ofInt (-1)))], [(0, .inl (10, [.inr (.inl 1), .inr (.inl 2), .inr (.inl 15), .inr (.inl 21), .inr (.inl 43), .inr (.inl 68), .inr (.inl 77), .inr (.inl 87), .inr (.inl 101), .inr (.inl 107), .inr (.inl 113), .inl (.int dy)])), (1, .inr (.inl (0, 7, r2))), (77, .inl (6, [.inr (.inl 78), .inr (.inl 79), .inr (.inl 80), .inr (.inl 81), .inr (.inl 85), .inr (.inl 86), .inl (.long bf), .inl (.int dl), .inl (.int ds), .inl (.int dr), .inl (.int md), .inl (.int bo)])), (79, .inr (.inr (.inl (32, f)))), (80, .inr (.inr (.inl (32, g)))), (81, .inr (.inr (.inr (4, [82, 83, 84])))), (82, .inr (.inr (.inl (32, a0)))), (83, .inr (.inr (.inl (32, a1)))), (84, .inr (.inr (.inl (32, a2)))), (85, .inr (.inl (0, 3, tr))), (86, .inr (.inl (0, 3, b)))]) _
            refine ex_ireturn cg_151 (ix := 19) rfl ?_
            exact ⟨_, r2, bf, g, a0, a1, a2, tr, b, rfl, rfl, Or.inr (Or.inl ⟨⟨w1, w2, w3⟩, by omega, rfl⟩)⟩
theorem ct_chance {dy : Int32} {r : Nat → Int32} {bf : Int64} {dl ds dr md bo m q : Int32} {f g a0 a1 a2 : Nat → Int64} {tr b : Nat → Int32} {bN mm : Nat} (hm0 : 0 ≤ md.toInt) (hm1 : md.toInt ≤ 10) (hm : 1 ≤ m.toInt → m.toInt ≤ 3 → m.toInt = (mm : Int)) (hb : bo.toInt = (bN : Int)) (hb32 : bN < 32) : cx_Ct 8 152 [.inr (.inl 0), .inl (.int m), .inl (.int q)] (h_xk dy r bf dl ds dr md bo f g a0 a1 a2 tr b) (fun v_ h2 => ∃ (z : Int32) (r2 : Nat → Int32) (bf2 : Int64) (g2 a0x a1x a2x : Nat → Int64) (tr2 b2 : Nat → Int32), v_ = some (.inl (.int z)) ∧ h2 = h_xk dy r2 bf2 dl ds dr md bo f g2 a0x a1x a2x tr2 b2 ∧ (skR m q (sumL f 32) md z ∨ (skO m q (sumL f 32) md ∧ ((¬ 0 < (wC f (mm - 1)).toInt ∧ z = Int32.ofInt 0) ∨ (0 < (wC f (mm - 1)).toInt ∧ z = Int64.toInt32 (dgX (wC f (mm - 1)) ((tP dl ds dr q mm bN f (Int64.ofNat 0) [] (Int64.ofInt (-1), [])).1 - (tP dl ds dr q mm bN f (Int64.ofNat 0) [] (Int64.ofInt (-1), [])).1 / (wC f (mm - 1)) * (wC f (mm - 1)), (tP dl ds dr q mm bN f (Int64.ofNat 0) [] (Int64.ofInt (-1), [])).1 / (wC f (mm - 1))) 6).2))))) := by
  have kcm6 : (Int32.ofInt (-6)).toInt = -6 := by decide +kernel
  have kcm5 : (Int32.ofInt (-5)).toInt = -5 := by decide +kernel
  have kcm4 : (Int32.ofInt (-4)).toInt = -4 := by decide +kernel
  have kcm1 : (Int32.ofInt (-1)).toInt = -1 := by decide +kernel
  have kc0 : (Int32.ofInt 0).toInt = 0 := by decide +kernel
  have kc1 : (Int32.ofInt 1).toInt = 1 := by decide +kernel
  refine cx_Ct.of cg_152 (nL := 4) rfl rfl rfl ?_
  show cx_T 8 152 [0, 1, 77, 79, 80, 81, 82, 83, 84, 85, 86] 0 ([some (.inr (.inl 0)), some (.inl (.int m)), some (.inl (.int q)), none], [], (h_xk dy r bf dl ds dr md bo f g a0 a1 a2 tr b)) _
  refine ex_aload_n cg_152 (ix := 0) (pc' := 1) rfl rfl rfl ?_
  refine ex_iload_n cg_152 (ix := 1) (pc' := 2) rfl rfl rfl ?_
  refine ex_iload_n cg_152 (ix := 2) (pc' := 3) rfl rfl rfl ?_
  refine ex_callV cg_152 (ix := 3) (pc' := 6) (As := [.inl (.int m), .inl (.int q)]) (r := []) rfl rfl rfl (ct_sf (dy := dy) (bf := bf) (dl := dl) (ds := ds) (dr := dr) (md := md) (bo := bo) (m := m) (q := q) (f := f) hm0 hm1) (by first | decide | omega) rfl rfl rfl ⟨rfl, rfl, rfl, trivial⟩ rfl rfl (fun v h2 hq => ?_)
  obtain ⟨zw, rfl, rfl, hzw⟩ := hq
  rcases hzw with ⟨w1, rfl⟩ | ⟨w1, w2, rfl⟩ | ⟨w1, w2, rfl⟩ | ⟨w1, w2, w3, rfl⟩ | ⟨w1, w2, w3, rfl⟩
  · show cx_T _ 152 _ 6 ([some (.inr (.inl 0)), some (.inl (.int m)), some (.inl (.int q)), none], [.inl (.int (Int32.ofInt (-4)))], [(0, .inl (10, [.inr (.inl 1), .inr (.inl 2), .inr (.inl 15), .inr (.inl 21), .inr (.inl 43), .inr (.inl 68), .inr (.inl 77), .inr (.inl 87), .inr (.inl 101), .inr (.inl 107), .inr (.inl 113), .inl (.int dy)])), (1, .inr (.inl (0, 7, r))), (77, .inl (6, [.inr (.inl 78), .inr (.inl 79), .inr (.inl 80), .inr (.inl 81), .inr (.inl 85), .inr (.inl 86), .inl (.long bf), .inl (.int dl), .inl (.int ds), .inl (.int dr), .inl (.int md), .inl (.int bo)])), (79, .inr (.inr (.inl (32, f)))), (80, .inr (.inr (.inl (32, g)))), (81, .inr (.inr (.inr (4, [82, 83, 84])))), (82, .inr (.inr (.inl (32, a0)))), (83, .inr (.inr (.inl (32, a1)))), (84, .inr (.inr (.inl (32, a2)))), (85, .inr (.inl (0, 3, tr))), (86, .inr (.inl (0, 3, b)))]) _
    refine ex_istore_n cg_152 (ix := 4) (pc' := 7) (L' := [some (.inr (.inl 0)), some (.inl (.int m)), some (.inl (.int q)), some (.inl (.int (Int32.ofInt (-4))))]) rfl rfl rfl rfl ?_
    refine ex_iload_n cg_152 (ix := 5) (pc' := 8) rfl rfl rfl ?_
    refine ex_if cg_152 (ix := 6) (t := 17) (pc' := 11) rfl rfl rfl (fun hb8 => ?_) (fun hb8 => ?_)
    · have hb8 : (Int32.ofInt (-4)).toInt = 0 := hb8
      exfalso; first | omega | exact absurd hb8 (by decide +kernel)
    · have hb8 : ¬ ((Int32.ofInt (-4)).toInt = 0) := hb8
      refine ex_aload_n cg_152 (ix := 7) (pc' := 12) rfl rfl rfl ?_
      refine ex_iload_n cg_152 (ix := 8) (pc' := 13) rfl rfl rfl ?_
      refine ex_callV cg_152 (ix := 9) (pc' := 16) (As := [.inl (.int (Int32.ofInt (-4)))]) (r := []) rfl rfl rfl (ct_xref (dy := dy) (x := Int32.ofInt (-4)) (r := r) (by decide +kernel) (by decide +kernel)) (by first | decide | omega) rfl rfl rfl ⟨rfl, rfl, trivial⟩ rfl rfl (fun v h2 hq => ?_)
      obtain ⟨rfl, r2, rfl⟩ := hq
      show cx_T _ 152 _ 16 ([some (.inr (.inl 0)), some (.inl (.int m)), some (.inl (.int q)), some (.inl (.int (Int32.ofInt (-4))))], [.inl (.int (Int32.ofInt (-4)))], [(0, .inl (10, [.inr (.inl 1), .inr (.inl 2), .inr (.inl 15), .inr (.inl 21), .inr (.inl 43), .inr (.inl 68), .inr (.inl 77), .inr (.inl 87), .inr (.inl 101), .inr (.inl 107), .inr (.inl 113), .inl (.int dy)])), (1, .inr (.inl (0, 7, r2))), (77, .inl (6, [.inr (.inl 78), .inr (.inl 79), .inr (.inl 80), .inr (.inl 81), .inr (.inl 85), .inr (.inl 86), .inl (.long bf), .inl (.int dl), .inl (.int ds), .inl (.int dr), .inl (.int md), .inl (.int bo)])), (79, .inr (.inr (.inl (32, f)))), (80, .inr (.inr (.inl (32, g)))), (81, .inr (.inr (.inr (4, [82, 83, 84])))), (82, .inr (.inr (.inl (32, a0)))), (83, .inr (.inr (.inl (32, a1)))), (84, .inr (.inr (.inl (32, a2)))), (85, .inr (.inl (0, 3, tr))), (86, .inr (.inl (0, 3, b)))]) _
      refine ex_ireturn cg_152 (ix := 10) rfl ?_
      first | exact ⟨_, r2, bf, g, a0, a1, a2, tr, b, rfl, rfl, Or.inl (Or.inl ⟨w1, rfl⟩)⟩ | exact ⟨_, r2, bf, g, a0, a1, a2, tr, b, rfl, rfl, Or.inl (Or.inr (Or.inl ⟨w1, w2, rfl⟩))⟩ | exact ⟨_, r2, bf, g, a0, a1, a2, tr, b, rfl, rfl, Or.inl (Or.inr (Or.inr (Or.inl ⟨w1, w2, rfl⟩)))⟩ | exact ⟨_, r2, bf, g, a0, a1, a2, tr, b, rfl, rfl, Or.inl (Or.inr (Or.inr (Or.inr ⟨w1, w2, w3, rfl⟩)))⟩
  · show cx_T _ 152 _ 6 ([some (.inr (.inl 0)), some (.inl (.int m)), some (.inl (.int q)), none], [.inl (.int (Int32.ofInt (-6)))], [(0, .inl (10, [.inr (.inl 1), .inr (.inl 2), .inr (.inl 15), .inr (.inl 21), .inr (.inl 43), .inr (.inl 68), .inr (.inl 77), .inr (.inl 87), .inr (.inl 101), .inr (.inl 107), .inr (.inl 113), .inl (.int dy)])), (1, .inr (.inl (0, 7, r))), (77, .inl (6, [.inr (.inl 78), .inr (.inl 79), .inr (.inl 80), .inr (.inl 81), .inr (.inl 85), .inr (.inl 86), .inl (.long bf), .inl (.int dl), .inl (.int ds), .inl (.int dr), .inl (.int md), .inl (.int bo)])), (79, .inr (.inr (.inl (32, f)))), (80, .inr (.inr (.inl (32, g)))), (81, .inr (.inr (.inr (4, [82, 83, 84])))), (82, .inr (.inr (.inl (32, a0)))), (83, .inr (.inr (.inl (32, a1)))), (84, .inr (.inr (.inl (32, a2)))), (85, .inr (.inl (0, 3, tr))), (86, .inr (.inl (0, 3, b)))]) _
    refine ex_istore_n cg_152 (ix := 4) (pc' := 7) (L' := [some (.inr (.inl 0)), some (.inl (.int m)), some (.inl (.int q)), some (.inl (.int (Int32.ofInt (-6))))]) rfl rfl rfl rfl ?_
    refine ex_iload_n cg_152 (ix := 5) (pc' := 8) rfl rfl rfl ?_
    refine ex_if cg_152 (ix := 6) (t := 17) (pc' := 11) rfl rfl rfl (fun hb8 => ?_) (fun hb8 => ?_)
    · have hb8 : (Int32.ofInt (-6)).toInt = 0 := hb8
      exfalso; first | omega | exact absurd hb8 (by decide +kernel)
    · have hb8 : ¬ ((Int32.ofInt (-6)).toInt = 0) := hb8
      refine ex_aload_n cg_152 (ix := 7) (pc' := 12) rfl rfl rfl ?_
      refine ex_iload_n cg_152 (ix := 8) (pc' := 13) rfl rfl rfl ?_
      refine ex_callV cg_152 (ix := 9) (pc' := 16) (As := [.inl (.int (Int32.ofInt (-6)))]) (r := []) rfl rfl rfl (ct_xref (dy := dy) (x := Int32.ofInt (-6)) (r := r) (by decide +kernel) (by decide +kernel)) (by first | decide | omega) rfl rfl rfl ⟨rfl, rfl, trivial⟩ rfl rfl (fun v h2 hq => ?_)
      obtain ⟨rfl, r2, rfl⟩ := hq
      show cx_T _ 152 _ 16 ([some (.inr (.inl 0)), some (.inl (.int m)), some (.inl (.int q)), some (.inl (.int (Int32.ofInt (-6))))], [.inl (.int (Int32.ofInt (-6)))], [(0, .inl (10, [.inr (.inl 1), .inr (.inl 2), .inr (.inl 15), .inr (.inl 21), .inr (.inl 43), .inr (.inl 68), .inr (.inl 77), .inr (.inl 87), .inr (.inl 101), .inr (.inl 107), .inr (.inl 113), .inl (.int dy)])), (1, .inr (.inl (0, 7, r2))), (77, .inl (6, [.inr (.inl 78), .inr (.inl 79), .inr (.inl 80), .inr (.inl 81), .inr (.inl 85), .inr (.inl 86), .inl (.long bf), .inl (.int dl), .inl (.int ds), .inl (.int dr), .inl (.int md), .inl (.int bo)])), (79, .inr (.inr (.inl (32, f)))), (80, .inr (.inr (.inl (32, g)))), (81, .inr (.inr (.inr (4, [82, 83, 84])))), (82, .inr (.inr (.inl (32, a0)))), (83, .inr (.inr (.inl (32, a1)))), (84, .inr (.inr (.inl (32, a2)))), (85, .inr (.inl (0, 3, tr))), (86, .inr (.inl (0, 3, b)))]) _
      refine ex_ireturn cg_152 (ix := 10) rfl ?_
      first | exact ⟨_, r2, bf, g, a0, a1, a2, tr, b, rfl, rfl, Or.inl (Or.inl ⟨w1, rfl⟩)⟩ | exact ⟨_, r2, bf, g, a0, a1, a2, tr, b, rfl, rfl, Or.inl (Or.inr (Or.inl ⟨w1, w2, rfl⟩))⟩ | exact ⟨_, r2, bf, g, a0, a1, a2, tr, b, rfl, rfl, Or.inl (Or.inr (Or.inr (Or.inl ⟨w1, w2, rfl⟩)))⟩ | exact ⟨_, r2, bf, g, a0, a1, a2, tr, b, rfl, rfl, Or.inl (Or.inr (Or.inr (Or.inr ⟨w1, w2, w3, rfl⟩)))⟩
  · show cx_T _ 152 _ 6 ([some (.inr (.inl 0)), some (.inl (.int m)), some (.inl (.int q)), none], [.inl (.int (Int32.ofInt (-5)))], [(0, .inl (10, [.inr (.inl 1), .inr (.inl 2), .inr (.inl 15), .inr (.inl 21), .inr (.inl 43), .inr (.inl 68), .inr (.inl 77), .inr (.inl 87), .inr (.inl 101), .inr (.inl 107), .inr (.inl 113), .inl (.int dy)])), (1, .inr (.inl (0, 7, r))), (77, .inl (6, [.inr (.inl 78), .inr (.inl 79), .inr (.inl 80), .inr (.inl 81), .inr (.inl 85), .inr (.inl 86), .inl (.long bf), .inl (.int dl), .inl (.int ds), .inl (.int dr), .inl (.int md), .inl (.int bo)])), (79, .inr (.inr (.inl (32, f)))), (80, .inr (.inr (.inl (32, g)))), (81, .inr (.inr (.inr (4, [82, 83, 84])))), (82, .inr (.inr (.inl (32, a0)))), (83, .inr (.inr (.inl (32, a1)))), (84, .inr (.inr (.inl (32, a2)))), (85, .inr (.inl (0, 3, tr))), (86, .inr (.inl (0, 3, b)))]) _
    refine ex_istore_n cg_152 (ix := 4) (pc' := 7) (L' := [some (.inr (.inl 0)), some (.inl (.int m)), some (.inl (.int q)), some (.inl (.int (Int32.ofInt (-5))))]) rfl rfl rfl rfl ?_
    refine ex_iload_n cg_152 (ix := 5) (pc' := 8) rfl rfl rfl ?_
    refine ex_if cg_152 (ix := 6) (t := 17) (pc' := 11) rfl rfl rfl (fun hb8 => ?_) (fun hb8 => ?_)
    · have hb8 : (Int32.ofInt (-5)).toInt = 0 := hb8
      exfalso; first | omega | exact absurd hb8 (by decide +kernel)
    · have hb8 : ¬ ((Int32.ofInt (-5)).toInt = 0) := hb8
      refine ex_aload_n cg_152 (ix := 7) (pc' := 12) rfl rfl rfl ?_
      refine ex_iload_n cg_152 (ix := 8) (pc' := 13) rfl rfl rfl ?_
      refine ex_callV cg_152 (ix := 9) (pc' := 16) (As := [.inl (.int (Int32.ofInt (-5)))]) (r := []) rfl rfl rfl (ct_xref (dy := dy) (x := Int32.ofInt (-5)) (r := r) (by decide +kernel) (by decide +kernel)) (by first | decide | omega) rfl rfl rfl ⟨rfl, rfl, trivial⟩ rfl rfl (fun v h2 hq => ?_)
      obtain ⟨rfl, r2, rfl⟩ := hq
      show cx_T _ 152 _ 16 ([some (.inr (.inl 0)), some (.inl (.int m)), some (.inl (.int q)), some (.inl (.int (Int32.ofInt (-5))))], [.inl (.int (Int32.ofInt (-5)))], [(0, .inl (10, [.inr (.inl 1), .inr (.inl 2), .inr (.inl 15), .inr (.inl 21), .inr (.inl 43), .inr (.inl 68), .inr (.inl 77), .inr (.inl 87), .inr (.inl 101), .inr (.inl 107), .inr (.inl 113), .inl (.int dy)])), (1, .inr (.inl (0, 7, r2))), (77, .inl (6, [.inr (.inl 78), .inr (.inl 79), .inr (.inl 80), .inr (.inl 81), .inr (.inl 85), .inr (.inl 86), .inl (.long bf), .inl (.int dl), .inl (.int ds), .inl (.int dr), .inl (.int md), .inl (.int bo)])), (79, .inr (.inr (.inl (32, f)))), (80, .inr (.inr (.inl (32, g)))), (81, .inr (.inr (.inr (4, [82, 83, 84])))), (82, .inr (.inr (.inl (32, a0)))), (83, .inr (.inr (.inl (32, a1)))), (84, .inr (.inr (.inl (32, a2)))), (85, .inr (.inl (0, 3, tr))), (86, .inr (.inl (0, 3, b)))]) _
      refine ex_ireturn cg_152 (ix := 10) rfl ?_
      first | exact ⟨_, r2, bf, g, a0, a1, a2, tr, b, rfl, rfl, Or.inl (Or.inl ⟨w1, rfl⟩)⟩ | exact ⟨_, r2, bf, g, a0, a1, a2, tr, b, rfl, rfl, Or.inl (Or.inr (Or.inl ⟨w1, w2, rfl⟩))⟩ | exact ⟨_, r2, bf, g, a0, a1, a2, tr, b, rfl, rfl, Or.inl (Or.inr (Or.inr (Or.inl ⟨w1, w2, rfl⟩)))⟩ | exact ⟨_, r2, bf, g, a0, a1, a2, tr, b, rfl, rfl, Or.inl (Or.inr (Or.inr (Or.inr ⟨w1, w2, w3, rfl⟩)))⟩
  · show cx_T _ 152 _ 6 ([some (.inr (.inl 0)), some (.inl (.int m)), some (.inl (.int q)), none], [.inl (.int (Int32.ofInt (-6)))], [(0, .inl (10, [.inr (.inl 1), .inr (.inl 2), .inr (.inl 15), .inr (.inl 21), .inr (.inl 43), .inr (.inl 68), .inr (.inl 77), .inr (.inl 87), .inr (.inl 101), .inr (.inl 107), .inr (.inl 113), .inl (.int dy)])), (1, .inr (.inl (0, 7, r))), (77, .inl (6, [.inr (.inl 78), .inr (.inl 79), .inr (.inl 80), .inr (.inl 81), .inr (.inl 85), .inr (.inl 86), .inl (.long bf), .inl (.int dl), .inl (.int ds), .inl (.int dr), .inl (.int md), .inl (.int bo)])), (79, .inr (.inr (.inl (32, f)))), (80, .inr (.inr (.inl (32, g)))), (81, .inr (.inr (.inr (4, [82, 83, 84])))), (82, .inr (.inr (.inl (32, a0)))), (83, .inr (.inr (.inl (32, a1)))), (84, .inr (.inr (.inl (32, a2)))), (85, .inr (.inl (0, 3, tr))), (86, .inr (.inl (0, 3, b)))]) _
    refine ex_istore_n cg_152 (ix := 4) (pc' := 7) (L' := [some (.inr (.inl 0)), some (.inl (.int m)), some (.inl (.int q)), some (.inl (.int (Int32.ofInt (-6))))]) rfl rfl rfl rfl ?_
    refine ex_iload_n cg_152 (ix := 5) (pc' := 8) rfl rfl rfl ?_
    refine ex_if cg_152 (ix := 6) (t := 17) (pc' := 11) rfl rfl rfl (fun hb8 => ?_) (fun hb8 => ?_)
    · have hb8 : (Int32.ofInt (-6)).toInt = 0 := hb8
      exfalso; first | omega | exact absurd hb8 (by decide +kernel)
    · have hb8 : ¬ ((Int32.ofInt (-6)).toInt = 0) := hb8
      refine ex_aload_n cg_152 (ix := 7) (pc' := 12) rfl rfl rfl ?_
      refine ex_iload_n cg_152 (ix := 8) (pc' := 13) rfl rfl rfl ?_
      refine ex_callV cg_152 (ix := 9) (pc' := 16) (As := [.inl (.int (Int32.ofInt (-6)))]) (r := []) rfl rfl rfl (ct_xref (dy := dy) (x := Int32.ofInt (-6)) (r := r) (by decide +kernel) (by decide +kernel)) (by first | decide | omega) rfl rfl rfl ⟨rfl, rfl, trivial⟩ rfl rfl (fun v h2 hq => ?_)
      obtain ⟨rfl, r2, rfl⟩ := hq
      show cx_T _ 152 _ 16 ([some (.inr (.inl 0)), some (.inl (.int m)), some (.inl (.int q)), some (.inl (.int (Int32.ofInt (-6))))], [.inl (.int (Int32.ofInt (-6)))], [(0, .inl (10, [.inr (.inl 1), .inr (.inl 2), .inr (.inl 15), .inr (.inl 21), .inr (.inl 43), .inr (.inl 68), .inr (.inl 77), .inr (.inl 87), .inr (.inl 101), .inr (.inl 107), .inr (.inl 113), .inl (.int dy)])), (1, .inr (.inl (0, 7, r2))), (77, .inl (6, [.inr (.inl 78), .inr (.inl 79), .inr (.inl 80), .inr (.inl 81), .inr (.inl 85), .inr (.inl 86), .inl (.long bf), .inl (.int dl), .inl (.int ds), .inl (.int dr), .inl (.int md), .inl (.int bo)])), (79, .inr (.inr (.inl (32, f)))), (80, .inr (.inr (.inl (32, g)))), (81, .inr (.inr (.inr (4, [82, 83, 84])))), (82, .inr (.inr (.inl (32, a0)))), (83, .inr (.inr (.inl (32, a1)))), (84, .inr (.inr (.inl (32, a2)))), (85, .inr (.inl (0, 3, tr))), (86, .inr (.inl (0, 3, b)))]) _
      refine ex_ireturn cg_152 (ix := 10) rfl ?_
      first | exact ⟨_, r2, bf, g, a0, a1, a2, tr, b, rfl, rfl, Or.inl (Or.inl ⟨w1, rfl⟩)⟩ | exact ⟨_, r2, bf, g, a0, a1, a2, tr, b, rfl, rfl, Or.inl (Or.inr (Or.inl ⟨w1, w2, rfl⟩))⟩ | exact ⟨_, r2, bf, g, a0, a1, a2, tr, b, rfl, rfl, Or.inl (Or.inr (Or.inr (Or.inl ⟨w1, w2, rfl⟩)))⟩ | exact ⟨_, r2, bf, g, a0, a1, a2, tr, b, rfl, rfl, Or.inl (Or.inr (Or.inr (Or.inr ⟨w1, w2, w3, rfl⟩)))⟩
  · show cx_T _ 152 _ 6 ([some (.inr (.inl 0)), some (.inl (.int m)), some (.inl (.int q)), none], [.inl (.int (Int32.ofInt 0))], [(0, .inl (10, [.inr (.inl 1), .inr (.inl 2), .inr (.inl 15), .inr (.inl 21), .inr (.inl 43), .inr (.inl 68), .inr (.inl 77), .inr (.inl 87), .inr (.inl 101), .inr (.inl 107), .inr (.inl 113), .inl (.int dy)])), (1, .inr (.inl (0, 7, r))), (77, .inl (6, [.inr (.inl 78), .inr (.inl 79), .inr (.inl 80), .inr (.inl 81), .inr (.inl 85), .inr (.inl 86), .inl (.long bf), .inl (.int dl), .inl (.int ds), .inl (.int dr), .inl (.int md), .inl (.int bo)])), (79, .inr (.inr (.inl (32, f)))), (80, .inr (.inr (.inl (32, g)))), (81, .inr (.inr (.inr (4, [82, 83, 84])))), (82, .inr (.inr (.inl (32, a0)))), (83, .inr (.inr (.inl (32, a1)))), (84, .inr (.inr (.inl (32, a2)))), (85, .inr (.inl (0, 3, tr))), (86, .inr (.inl (0, 3, b)))]) _
    refine ex_istore_n cg_152 (ix := 4) (pc' := 7) (L' := [some (.inr (.inl 0)), some (.inl (.int m)), some (.inl (.int q)), some (.inl (.int (Int32.ofInt 0)))]) rfl rfl rfl rfl ?_
    refine ex_iload_n cg_152 (ix := 5) (pc' := 8) rfl rfl rfl ?_
    refine ex_if cg_152 (ix := 6) (t := 17) (pc' := 11) rfl rfl rfl (fun hb8 => ?_) (fun hb8 => ?_)
    · have hb8 : (Int32.ofInt 0).toInt = 0 := hb8
      refine ex_aload_n cg_152 (ix := 11) (pc' := 18) rfl rfl rfl ?_
      refine ex_getfield cg_152 (ix := 12) (pc' := 21) rfl rfl rfl rfl rfl ?_
      refine ex_iload_n cg_152 (ix := 13) (pc' := 22) rfl rfl rfl ?_
      refine ex_iload_n cg_152 (ix := 14) (pc' := 23) rfl rfl rfl ?_
      refine ex_callV cg_152 (ix := 15) (pc' := 26) (As := [.inl (.int m), .inl (.int q)]) (r := []) rfl rfl rfl (ct_fb (bf := bf) (dl := dl) (ds := ds) (dr := dr) (md := md) (bo := bo) (q := q) (f := f) (g := g) (a0 := a0) (a1 := a1) (a2 := a2) (tr := tr) (b := b) (bN := bN) (m := m) (mm := mm) (by omega) (by omega) (by omega) hb hb32) (by first | decide | omega) rfl rfl rfl ⟨rfl, rfl, rfl, rfl, rfl, rfl, rfl, rfl, rfl, trivial⟩ rfl rfl (fun v h2 hq => ?_)
      obtain ⟨bf2, g2, a0x, a1x, a2x, tr2, b2, rfl, rfl, hbf2, hok2⟩ := hq
      show cx_T _ 152 _ 26 ([some (.inr (.inl 0)), some (.inl (.int m)), some (.inl (.int q)), some (.inl (.int (Int32.ofInt 0)))], [], [(0, .inl (10, [.inr (.inl 1), .inr (.inl 2), .inr (.inl 15), .inr (.inl 21), .inr (.inl 43), .inr (.inl 68), .inr (.inl 77), .inr (.inl 87), .inr (.inl 101), .inr (.inl 107), .inr (.inl 113), .inl (.int dy)])), (1, .inr (.inl (0, 7, r))), (77, .inl (6, [.inr (.inl 78), .inr (.inl 79), .inr (.inl 80), .inr (.inl 81), .inr (.inl 85), .inr (.inl 86), .inl (.long bf2), .inl (.int dl), .inl (.int ds), .inl (.int dr), .inl (.int md), .inl (.int bo)])), (79, .inr (.inr (.inl (32, f)))), (80, .inr (.inr (.inl (32, g2)))), (81, .inr (.inr (.inr (4, [82, 83, 84])))), (82, .inr (.inr (.inl (32, a0x)))), (83, .inr (.inr (.inl (32, a1x)))), (84, .inr (.inr (.inl (32, a2x)))), (85, .inr (.inl (0, 3, tr2))), (86, .inr (.inl (0, 3, b2)))]) _
      refine ex_aload_n cg_152 (ix := 16) (pc' := 27) rfl rfl rfl ?_
      refine ex_getfield cg_152 (ix := 17) (pc' := 30) rfl rfl rfl rfl rfl ?_
      refine ex_iload_n cg_152 (ix := 18) (pc' := 31) rfl rfl rfl ?_
      refine ex_callV cg_152 (ix := 19) (pc' := 34) (As := [.inl (.int m)]) (r := []) rfl rfl rfl (ct_bm (bf := bf2) (dl := dl) (ds := ds) (dr := dr) (md := md) (bo := bo) (m := m) (mm := mm) (f := f) (by omega) (by omega) (by omega)) (by first | decide | omega) rfl rfl rfl ⟨rfl, rfl, trivial⟩ rfl rfl (fun v h2 hq => ?_)
      obtain ⟨zb, rfl, rfl, hzb⟩ := hq
      show cx_T _ 152 _ 34 ([some (.inr (.inl 0)), some (.inl (.int m)), some (.inl (.int q)), some (.inl (.int (Int32.ofInt 0)))], [.inl (.int zb)], [(0, .inl (10, [.inr (.inl 1), .inr (.inl 2), .inr (.inl 15), .inr (.inl 21), .inr (.inl 43), .inr (.inl 68), .inr (.inl 77), .inr (.inl 87), .inr (.inl 101), .inr (.inl 107), .inr (.inl 113), .inl (.int dy)])), (1, .inr (.inl (0, 7, r))), (77, .inl (6, [.inr (.inl 78), .inr (.inl 79), .inr (.inl 80), .inr (.inl 81), .inr (.inl 85), .inr (.inl 86), .inl (.long bf2), .inl (.int dl), .inl (.int ds), .inl (.int dr), .inl (.int md), .inl (.int bo)])), (79, .inr (.inr (.inl (32, f)))), (80, .inr (.inr (.inl (32, g2)))), (81, .inr (.inr (.inr (4, [82, 83, 84])))), (82, .inr (.inr (.inl (32, a0x)))), (83, .inr (.inr (.inl (32, a1x)))), (84, .inr (.inr (.inl (32, a2x)))), (85, .inr (.inl (0, 3, tr2))), (86, .inr (.inl (0, 3, b2)))]) _
      refine ex_ireturn cg_152 (ix := 20) rfl ?_
      rw [hbf2] at hzb
      exact ⟨_, r, bf2, g2, a0x, a1x, a2x, tr2, b2, rfl, rfl, Or.inr ⟨⟨w1, w2, w3⟩, hzb⟩⟩
    · have hb8 : ¬ ((Int32.ofInt 0).toInt = 0) := hb8
      exfalso; first | omega | exact absurd hb8 (by decide +kernel)
end
