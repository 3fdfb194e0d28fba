noncomputable section
theorem cg_1 : cx_G 1 tb_1 TbX0 (some .int) := cx_G.of gok_1
theorem cg_2 : cx_G 2 tb_2 TbX0 (some .boolean) := cx_G.of gok_2
theorem cg_3 : cx_G 3 tb_3 TbX0 (some .int) := cx_G.of gok_3
theorem cg_4 : cx_G 4 tb_4 TbX0 (some .boolean) := cx_G.of gok_4
theorem cg_5 : cx_G 5 tb_5 TbX0 (some .int) := cx_G.of gok_5
theorem cg_6 : cx_G 6 tb_6 TbX0 (some .int) := cx_G.of gok_6
theorem cg_7 : cx_G 7 tb_7 TbX0 (some .int) := cx_G.of gok_7
theorem cg_8 : cx_G 8 tb_8 TbX0 (some .boolean) := cx_G.of gok_8
theorem cg_9 : cx_G 9 tb_9 TbX0 (some .int) := cx_G.of gok_9
theorem cg_10 : cx_G 10 tb_10 TbX0 none := cx_G.of gok_10
theorem cg_11 : cx_G 11 tb_11 TbX0 none := cx_G.of gok_11
theorem cg_12 : cx_G 12 tb_12 TbX0 none := cx_G.of gok_12
theorem cg_13 : cx_G 13 tb_13 TbX0 (some .int) := cx_G.of gok_13
theorem cg_153 : cx_G 153 tb_153 TbX10 (some .int) := cx_G.of gok_153
theorem cg_154 : cx_G 154 tb_154 TbX10 (some .int) := cx_G.of gok_154
theorem cg_155 : cx_G 155 tb_155 TbX10 (some .int) := cx_G.of gok_155
theorem cg_156 : cx_G 156 tb_156 TbX10 (some .int) := cx_G.of gok_156
def up2 (F : Nat → Nat → Int32) (b : Nat) (f : Nat → Int32) : Nat → Nat → Int32 := fun i => bif Nat.beq i b then f else F i
theorem up2_me {F : Nat → Nat → Int32} {b : Nat} {f : Nat → Int32} : up2 F b f b = f := by
  unfold up2
  rw [Nat.beq_refl]
  rfl
theorem up2_ne {F : Nat → Nat → Int32} {b i : Nat} {f : Nat → Int32} (h : ¬ i = b) : up2 F b f i = F i := by
  unfold up2
  have : Nat.beq i b = false := by
    cases hq : Nat.beq i b with
    | false => rfl
    | true => exact absurd (Nat.eq_of_beq_eq_true hq) h
  rw [this]
  rfl
def h_cw (lo fo jc us kn : Int32) (lm fm : Nat → Int32) (V : Nat → Nat → Int32) : cx_H := [(87, .inl (0, [.inr (.inl 88), .inr (.inl 89), .inr (.inl 90), .inr (.inl 100), .inl (.int lo), .inl (.int fo), .inl (.int jc), .inl (.int us), .inl (.int kn)])), (88, .inr (.inl (0, 8, lm))), (89, .inr (.inl (0, 8, fm))), (90, .inr (.inr (.inr (3, [91, 92, 93, 94, 95, 96, 97, 98, 99])))), (91, .inr (.inl (0, 256, V 0))), (92, .inr (.inl (0, 256, V 1))), (93, .inr (.inl (0, 256, V 2))), (94, .inr (.inl (0, 256, V 3))), (95, .inr (.inl (0, 256, V 4))), (96, .inr (.inl (0, 256, V 5))), (97, .inr (.inl (0, 256, V 6))), (98, .inr (.inl (0, 256, V 7))), (99, .inr (.inl (0, 256, V 8)))]
def h_ch (lo fo jc us kn : Int32) (lm fm fb : Nat → Int32) (V : Nat → Nat → Int32) : cx_H := [(87, .inl (0, [.inr (.inl 88), .inr (.inl 89), .inr (.inl 90), .inr (.inl 100), .inl (.int lo), .inl (.int fo), .inl (.int jc), .inl (.int us), .inl (.int kn)])), (88, .inr (.inl (0, 8, lm))), (89, .inr (.inl (0, 8, fm))), (90, .inr (.inr (.inr (3, [91, 92, 93, 94, 95, 96, 97, 98, 99])))), (91, .inr (.inl (0, 256, V 0))), (92, .inr (.inl (0, 256, V 1))), (93, .inr (.inl (0, 256, V 2))), (94, .inr (.inl (0, 256, V 3))), (95, .inr (.inl (0, 256, V 4))), (96, .inr (.inl (0, 256, V 5))), (97, .inr (.inl (0, 256, V 6))), (98, .inr (.inl (0, 256, V 7))), (99, .inr (.inl (0, 256, V 8))), (100, .inr (.inl (0, 8, fb)))]
theorem wf_get {lo fo jc us kn : Int32} {lm fm : Nat → Int32} {V : Nat → Nat → Int32} {i : Nat} (hi : i < 9) : cx_hg (h_cw lo fo jc us kn lm fm V) (91 + i) = some (.inr (.inl (0, 256, V i))) := by
  rcases (show i = 0 ∨ i = 1 ∨ i = 2 ∨ i = 3 ∨ i = 4 ∨ i = 5 ∨ i = 6 ∨ i = 7 ∨ i = 8 by omega) with rfl | rfl | rfl | rfl | rfl | rfl | rfl | rfl | rfl <;> rfl
theorem wf_set {lo fo jc us kn : Int32} {lm fm : Nat → Int32} {V : Nat → Nat → Int32} {i : Nat} {g : Nat → Int32} (hi : i < 9) : cx_hs (h_cw lo fo jc us kn lm fm V) (91 + i) (.inr (.inl (0, 256, g))) = h_cw lo fo jc us kn lm fm (up2 V i g) := by
  rcases (show i = 0 ∨ i = 1 ∨ i = 2 ∨ i = 3 ∨ i = 4 ∨ i = 5 ∨ i = 6 ∨ i = 7 ∨ i = 8 by omega) with rfl | rfl | rfl | rfl | rfl | rfl | rfl | rfl | rfl <;> rfl
theorem cf_get {lo fo jc us kn : Int32} {lm fm fb : Nat → Int32} {V : Nat → Nat → Int32} {i : Nat} (hi : i < 9) : cx_hg (h_ch lo fo jc us kn lm fm fb V) (91 + i) = some (.inr (.inl (0, 256, V i))) := by
  rcases (show i = 0 ∨ i = 1 ∨ i = 2 ∨ i = 3 ∨ i = 4 ∨ i = 5 ∨ i = 6 ∨ i = 7 ∨ i = 8 by omega) with rfl | rfl | rfl | rfl | rfl | rfl | rfl | rfl | rfl <;> rfl
theorem cf_set {lo fo jc us kn : Int32} {lm fm fb : Nat → Int32} {V : Nat → Nat → Int32} {i : Nat} {g : Nat → Int32} (hi : i < 9) : cx_hs (h_ch lo fo jc us kn lm fm fb V) (91 + i) (.inr (.inl (0, 256, g))) = h_ch lo fo jc us kn lm fm fb (up2 V i g) := by
  rcases (show i = 0 ∨ i = 1 ∨ i = 2 ∨ i = 3 ∨ i = 4 ∨ i = 5 ∨ i = 6 ∨ i = 7 ∨ i = 8 by omega) with rfl | rfl | rfl | rfl | rfl | rfl | rfl | rfl | rfl <;> rfl
theorem wf_ix {x : Int32} {i : Nat} (hi : i < 9) (hx : x.toInt = (i : Int)) : [91, 92, 93, 94, 95, 96, 97, 98, 99][x.toNatClampNeg]? = some (91 + i) := by
  rw [cx_clamp hx]
  rcases (show i = 0 ∨ i = 1 ∨ i = 2 ∨ i = 3 ∨ i = 4 ∨ i = 5 ∨ i = 6 ∨ i = 7 ∨ i = 8 by omega) with rfl | rfl | rfl | rfl | rfl | rfl | rfl | rfl | rfl <;> rfl
theorem ul_loop {lo fo jc us kn : Int32} {lm fm : Nat → Int32} {x y : Int32} {T : Int} {P : Option cx_V → cx_H → Prop}  (hP : ∀ n : Int32, n.toInt = T → P (some (.inl (.int n))) ([(87, .inl (0, [.inr (.inl 88), .inr (.inl 89), .inr (.inl 90), .inr (.inl 100), .inl (.int lo), .inl (.int fo), .inl (.int jc), .inl (.int us), .inl (.int kn)])), (88, .inr (.inl (0, 8, lm))), (89, .inr (.inl (0, 8, fm)))])) :
    ∀ (m k : Nat), k + m = 5 → ∀ i : Int32, i.toInt = (k : Int) → ∀ (a b n : Int32), n.toInt + ulR m a b = T → (0 ≤ n.toInt ∧ n.toInt ≤ (k : Int)) → cx_T 2 9 [87, 88, 89] 21 ([some (.inr (.inl 87)), some (.inl (.int x)), some (.inl (.int y)), some (.inl (.int a)), some (.inl (.int b)), some (.inl (.int n)), some (.inl (.int i))], [], [(87, .inl (0, [.inr (.inl 88), .inr (.inl 89), .inr (.inl 90), .inr (.inl 100), .inl (.int lo), .inl (.int fo), .inl (.int jc), .inl (.int us), .inl (.int kn)])), (88, .inr (.inl (0, 8, lm))), (89, .inr (.inl (0, 8, fm)))]) P := by
  have kc0 : (Int32.ofInt 0).toInt = 0 := by decide +kernel
  have kc1 : (Int32.ofInt 1).toInt = 1 := by decide +kernel
  have kc5 : (Int32.ofInt 5).toInt = 5 := by decide +kernel
  have kc10 : (Int32.ofInt 10).toInt = 10 := by decide +kernel
  intro m
  induction m with
  | zero =>
    intro k hk i hi a b n hn hn2
    have ek : k = 5 := by omega
    refine ex_iload cg_9 (ix := 14) (pc' := 23) rfl rfl rfl ?_
    refine ex_iconst cg_9 (ix := 15) (pc' := 24) rfl rfl ?_
    refine ex_icmp cg_9 (ix := 16) (t := 67) (pc' := 27) rfl rfl rfl (fun hb24 => ?_) (fun hb24 => ?_)
    · have hb24 : (Int32.ofInt 5).toInt ≤ i.toInt := hb24
      refine ex_iload cg_9 (ix := 40) (pc' := 69) rfl rfl rfl ?_
      refine ex_ireturn cg_9 (ix := 41) rfl ?_
      rw [ulR] at hn
      exact hP n (by omega)
    · have hb24 : ¬ ((Int32.ofInt 5).toInt ≤ i.toInt) := hb24
      exfalso; first | omega | exact absurd hb24 (by decide +kernel)
  | succ m ih =>
    intro k hk i hi a b n hn hn2
    have hik : i.toNatClampNeg = k := cx_clamp hi
    refine ex_iload cg_9 (ix := 14) (pc' := 23) rfl rfl rfl ?_
    refine ex_iconst cg_9 (ix := 15) (pc' := 24) rfl rfl ?_
    refine ex_icmp cg_9 (ix := 16) (t := 67) (pc' := 27) rfl rfl rfl (fun hb24 => ?_) (fun hb24 => ?_)
    · have hb24 : (Int32.ofInt 5).toInt ≤ i.toInt := hb24
      exfalso; first | omega | exact absurd hb24 (by decide +kernel)
    · have hb24 : ¬ ((Int32.ofInt 5).toInt ≤ i.toInt) := hb24
      refine ex_iload cg_9 (ix := 17) (pc' := 29) rfl rfl rfl ?_
      refine ex_iload_n cg_9 (ix := 18) (pc' := 30) rfl rfl rfl ?_
      refine ex_bipush cg_9 (ix := 19) (pc' := 32) rfl rfl rfl ?_
      refine ex_irem cg_9 (ix := 20) (pc' := 33) rfl (by decide +kernel) rfl ?_
      refine ex_iload cg_9 (ix := 21) (pc' := 35) rfl rfl rfl ?_
      refine ex_bipush cg_9 (ix := 22) (pc' := 37) rfl rfl rfl ?_
      refine ex_irem cg_9 (ix := 23) (pc' := 38) rfl (by decide +kernel) rfl ?_
      refine ex_icmp cg_9 (ix := 24) (t := 45) (pc' := 41) rfl rfl rfl (fun hb38 => ?_) (fun hb38 => ?_)
      · have hb38 : (a - a / (Int32.ofInt 10) * (Int32.ofInt 10)).toInt = (b - b / (Int32.ofInt 10) * (Int32.ofInt 10)).toInt := hb38
        refine ex_iconst cg_9 (ix := 27) (pc' := 46) rfl rfl ?_
        refine ex_iadd cg_9 (ix := 28) (pc' := 47) rfl rfl ?_
        refine ex_istore cg_9 (ix := 29) (pc' := 49) (L' := [some (.inr (.inl 87)), some (.inl (.int x)), some (.inl (.int y)), some (.inl (.int a)), some (.inl (.int b)), some (.inl (.int (n + (Int32.ofInt 0)))), some (.inl (.int i))]) rfl rfl rfl rfl ?_
        refine ex_iload_n cg_9 (ix := 30) (pc' := 50) rfl rfl rfl ?_
        refine ex_bipush cg_9 (ix := 31) (pc' := 52) rfl rfl rfl ?_
        refine ex_idiv cg_9 (ix := 32) (pc' := 53) rfl (by decide +kernel) rfl ?_
        refine ex_istore_n cg_9 (ix := 33) (pc' := 54) (L' := [some (.inr (.inl 87)), some (.inl (.int x)), some (.inl (.int y)), some (.inl (.int (a / (Int32.ofInt 10)))), some (.inl (.int b)), some (.inl (.int (n + (Int32.ofInt 0)))), some (.inl (.int i))]) rfl rfl rfl rfl ?_
        refine ex_iload cg_9 (ix := 34) (pc' := 56) rfl rfl rfl ?_
        refine ex_bipush cg_9 (ix := 35) (pc' := 58) rfl rfl rfl ?_
        refine ex_idiv cg_9 (ix := 36) (pc' := 59) rfl (by decide +kernel) rfl ?_
        refine ex_istore cg_9 (ix := 37) (pc' := 61) (L' := [some (.inr (.inl 87)), some (.inl (.int x)), some (.inl (.int y)), some (.inl (.int (a / (Int32.ofInt 10)))), some (.inl (.int (b / (Int32.ofInt 10)))), some (.inl (.int (n + (Int32.ofInt 0)))), some (.inl (.int i))]) rfl rfl rfl rfl ?_
        refine ex_iinc cg_9 (ix := 38) (pc' := 64) (L' := [some (.inr (.inl 87)), some (.inl (.int x)), some (.inl (.int y)), some (.inl (.int (a / (Int32.ofInt 10)))), some (.inl (.int (b / (Int32.ofInt 10)))), some (.inl (.int (n + (Int32.ofInt 0)))), some (.inl (.int (i + Int32.ofInt 1)))]) rfl rfl rfl rfl rfl ?_
        refine ex_goto cg_9 (ix := 39) (pc' := 21) rfl rfl ?_
        have e1 : (n + (Int32.ofInt 0)).toInt + ulR m (a / (Int32.ofInt 10)) (b / (Int32.ofInt 10)) = T := by
          rw [ulR] at hn
          rw [cx_addc (by omega) (by omega)]
          split at hn <;> omega
        exact ih (k + 1) (by omega) _ (by rw [cx_addc (by omega) (by omega)]; omega) _ _ _ e1 (by rw [cx_addc (by omega) (by omega)]; omega)
      · have hb38 : ¬ ((a - a / (Int32.ofInt 10) * (Int32.ofInt 10)).toInt = (b - b / (Int32.ofInt 10) * (Int32.ofInt 10)).toInt) := hb38
        refine ex_iconst cg_9 (ix := 25) (pc' := 42) rfl rfl ?_
        refine ex_goto cg_9 (ix := 26) (pc' := 46) rfl rfl ?_
        refine ex_iadd cg_9 (ix := 28) (pc' := 47) rfl rfl ?_
        refine ex_istore cg_9 (ix := 29) (pc' := 49) (L' := [some (.inr (.inl 87)), some (.inl (.int x)), some (.inl (.int y)), some (.inl (.int a)), some (.inl (.int b)), some (.inl (.int (n + (Int32.ofInt 1)))), some (.inl (.int i))]) rfl rfl rfl rfl ?_
        refine ex_iload_n cg_9 (ix := 30) (pc' := 50) rfl rfl rfl ?_
        refine ex_bipush cg_9 (ix := 31) (pc' := 52) rfl rfl rfl ?_
        refine ex_idiv cg_9 (ix := 32) (pc' := 53) rfl (by decide +kernel) rfl ?_
        refine ex_istore_n cg_9 (ix := 33) (pc' := 54) (L' := [some (.inr (.inl 87)), some (.inl (.int x)), some (.inl (.int y)), some (.inl (.int (a / (Int32.ofInt 10)))), some (.inl (.int b)), some (.inl (.int (n + (Int32.ofInt 1)))), some (.inl (.int i))]) rfl rfl rfl rfl ?_
        refine ex_iload cg_9 (ix := 34) (pc' := 56) rfl rfl rfl ?_
        refine ex_bipush cg_9 (ix := 35) (pc' := 58) rfl rfl rfl ?_
        refine ex_idiv cg_9 (ix := 36) (pc' := 59) rfl (by decide +kernel) rfl ?_
        refine ex_istore cg_9 (ix := 37) (pc' := 61) (L' := [some (.inr (.inl 87)), some (.inl (.int x)), some (.inl (.int y)), some (.inl (.int (a / (Int32.ofInt 10)))), some (.inl (.int (b / (Int32.ofInt 10)))), some (.inl (.int (n + (Int32.ofInt 1)))), some (.inl (.int i))]) rfl rfl rfl rfl ?_
        refine ex_iinc cg_9 (ix := 38) (pc' := 64) (L' := [some (.inr (.inl 87)), some (.inl (.int x)), some (.inl (.int y)), some (.inl (.int (a / (Int32.ofInt 10)))), some (.inl (.int (b / (Int32.ofInt 10)))), some (.inl (.int (n + (Int32.ofInt 1)))), some (.inl (.int (i + Int32.ofInt 1)))]) rfl rfl rfl rfl rfl ?_
        refine ex_goto cg_9 (ix := 39) (pc' := 21) rfl rfl ?_
        have e1 : (n + (Int32.ofInt 1)).toInt + ulR m (a / (Int32.ofInt 10)) (b / (Int32.ofInt 10)) = T := by
          rw [ulR] at hn
          rw [cx_addc (by omega) (by omega)]
          split at hn <;> omega
        exact ih (k + 1) (by omega) _ (by rw [cx_addc (by omega) (by omega)]; omega) _ _ _ e1 (by rw [cx_addc (by omega) (by omega)]; omega)
theorem ct_ul0 {lo fo jc us kn : Int32} {lm fm : Nat → Int32} {x y : Int32} (hx0 : 0 ≤ x.toInt) (hx1 : x.toInt < 8) (hy0 : 0 ≤ y.toInt) (hy1 : y.toInt < 8) : cx_Ct 2 9 [.inr (.inl 87), .inl (.int x), .inl (.int y)] ([(87, .inl (0, [.inr (.inl 88), .inr (.inl 89), .inr (.inl 90), .inr (.inl 100), .inl (.int lo), .inl (.int fo), .inl (.int jc), .inl (.int us), .inl (.int kn)])), (88, .inr (.inl (0, 8, lm))), (89, .inr (.inl (0, 8, fm)))]) (fun v h2 => ∃ n : Int32, v = some (.inl (.int n)) ∧ h2 = [(87, .inl (0, [.inr (.inl 88), .inr (.inl 89), .inr (.inl 90), .inr (.inl 100), .inl (.int lo), .inl (.int fo), .inl (.int jc), .inl (.int us), .inl (.int kn)])), (88, .inr (.inl (0, 8, lm))), (89, .inr (.inl (0, 8, fm)))] ∧ n.toInt = ulR 5 (lm x.toNatClampNeg) (fm y.toNatClampNeg)) := by
  have kc0 : (Int32.ofInt 0).toInt = 0 := by decide +kernel
  have kc5 : (Int32.ofInt 5).toInt = 5 := by decide +kernel
  have kc10 : (Int32.ofInt 10).toInt = 10 := by decide +kernel
  have kc1 : (Int32.ofInt 1).toInt = 1 := by decide +kernel
  refine cx_Ct.of cg_9 (nL := 7) rfl rfl rfl ?_
  show cx_T 2 9 [87, 88, 89] 0 ([some (.inr (.inl 87)), some (.inl (.int x)), some (.inl (.int y)), none, none, none, none], [], [(87, .inl (0, [.inr (.inl 88), .inr (.inl 89), .inr (.inl 90), .inr (.inl 100), .inl (.int lo), .inl (.int fo), .inl (.int jc), .inl (.int us), .inl (.int kn)])), (88, .inr (.inl (0, 8, lm))), (89, .inr (.inl (0, 8, fm)))]) _
  refine ex_aload_n cg_9 (ix := 0) (pc' := 1) rfl rfl rfl ?_
  refine ex_getfield cg_9 (ix := 1) (pc' := 4) rfl rfl rfl rfl rfl ?_
  refine ex_iload_n cg_9 (ix := 2) (pc' := 5) rfl rfl rfl ?_
  refine ex_iaload cg_9 (ix := 3) (pc' := 6) rfl rfl (by omega) (by omega) rfl ?_
  refine ex_istore_n cg_9 (ix := 4) (pc' := 7) (L' := [some (.inr (.inl 87)), some (.inl (.int x)), some (.inl (.int y)), some (.inl (.int (lm x.toNatClampNeg))), none, none, none]) rfl rfl rfl rfl ?_
  refine ex_aload_n cg_9 (ix := 5) (pc' := 8) rfl rfl rfl ?_
  refine ex_getfield cg_9 (ix := 6) (pc' := 11) rfl rfl rfl rfl rfl ?_
  refine ex_iload_n cg_9 (ix := 7) (pc' := 12) rfl rfl rfl ?_
  refine ex_iaload cg_9 (ix := 8) (pc' := 13) rfl rfl (by omega) (by omega) rfl ?_
  refine ex_istore cg_9 (ix := 9) (pc' := 15) (L' := [some (.inr (.inl 87)), some (.inl (.int x)), some (.inl (.int y)), some (.inl (.int (lm x.toNatClampNeg))), some (.inl (.int (fm y.toNatClampNeg))), none, none]) rfl rfl rfl rfl ?_
  refine ex_iconst cg_9 (ix := 10) (pc' := 16) rfl rfl ?_
  refine ex_istore cg_9 (ix := 11) (pc' := 18) (L' := [some (.inr (.inl 87)), some (.inl (.int x)), some (.inl (.int y)), some (.inl (.int (lm x.toNatClampNeg))), some (.inl (.int (fm y.toNatClampNeg))), some (.inl (.int (Int32.ofInt 0))), none]) rfl rfl rfl rfl ?_
  refine ex_iconst cg_9 (ix := 12) (pc' := 19) rfl rfl ?_
  refine ex_istore cg_9 (ix := 13) (pc' := 21) (L' := [some (.inr (.inl 87)), some (.inl (.int x)), some (.inl (.int y)), some (.inl (.int (lm x.toNatClampNeg))), some (.inl (.int (fm y.toNatClampNeg))), some (.inl (.int (Int32.ofInt 0))), some (.inl (.int (Int32.ofInt 0)))]) rfl rfl rfl rfl ?_
  exact ul_loop (lo := lo) (fo := fo) (jc := jc) (us := us) (kn := kn) (lm := lm) (fm := fm) (x := x) (y := y) (T := ulR 5 (lm x.toNatClampNeg) (fm y.toNatClampNeg)) (P := fun v h2 => ∃ n : Int32, v = some (.inl (.int n)) ∧ h2 = [(87, .inl (0, [.inr (.inl 88), .inr (.inl 89), .inr (.inl 90), .inr (.inl 100), .inl (.int lo), .inl (.int fo), .inl (.int jc), .inl (.int us), .inl (.int kn)])), (88, .inr (.inl (0, 8, lm))), (89, .inr (.inl (0, 8, fm)))] ∧ n.toInt = ulR 5 (lm x.toNatClampNeg) (fm y.toNatClampNeg)) (fun n hn => ⟨n, rfl, rfl, hn⟩) 5 0 (by omega) (Int32.ofInt 0) (by decide +kernel) _ _ (Int32.ofInt 0) (by omega) (by omega)
theorem ct_ul {lo fo jc us kn : Int32} {lm fm : Nat → Int32} {x y : Int32} {kx ky : Nat} (hx : x.toInt = (kx : Int)) (hx1 : kx < 8) (hy : y.toInt = (ky : Int)) (hy1 : ky < 8) : cx_Ct 2 9 [.inr (.inl 87), .inl (.int x), .inl (.int y)] ([(87, .inl (0, [.inr (.inl 88), .inr (.inl 89), .inr (.inl 90), .inr (.inl 100), .inl (.int lo), .inl (.int fo), .inl (.int jc), .inl (.int us), .inl (.int kn)])), (88, .inr (.inl (0, 8, lm))), (89, .inr (.inl (0, 8, fm)))]) (fun v h2 => ∃ n : Int32, v = some (.inl (.int n)) ∧ h2 = [(87, .inl (0, [.inr (.inl 88), .inr (.inl 89), .inr (.inl 90), .inr (.inl 100), .inl (.int lo), .inl (.int fo), .inl (.int jc), .inl (.int us), .inl (.int kn)])), (88, .inr (.inl (0, 8, lm))), (89, .inr (.inl (0, 8, fm)))] ∧ n.toInt = uN lm fm kx ky) := by
  have h := ct_ul0 (lo := lo) (fo := fo) (jc := jc) (us := us) (kn := kn) (lm := lm) (fm := fm) (x := x) (y := y) (by omega) (by omega) (by omega) (by omega)
  rw [cx_clamp hx, cx_clamp hy] at h
  unfold uN
  rw [nz8_in hx1, nz8_in hy1]
  exact h
/-- one found one weighed against all sets, the first k of them done -/
def wjP (lm fm : Nat → Int32) (kN fN n : Nat) (W V : Nat → Nat → Int32) (k : Nat) : Prop := (∀ j : Nat, ¬ j = kN → V j = W j) ∧ ∀ s : Nat, s < n → (V kN s).toInt = if s < k then (if stI s fN = false ∧ uN lm fm kN fN ≤ 2 ∧ (W kN s).toInt < 64 - uN lm fm kN fN + (W (kN + 1) (stO s fN)).toInt then 64 - uN lm fm kN fN + (W (kN + 1) (stO s fN)).toInt else (W kN s).toInt) else (W kN s).toInt
theorem wj_loop {lo fo jc us kn : Int32} {lm fm : Nat → Int32} {W : Nat → Nat → Int32} {x y z un : Int32} {kN fN FN : Nat} {P : Option cx_V → cx_H → Prop} (hx : x.toInt = (kN : Int)) (hk8 : kN < 8) (hy : y.toInt = (fN : Int)) (hfF : fN < FN) (hF : FN ≤ 8) (hz : z.toInt = ((2 ^ FN : Nat) : Int)) (hWb : ∀ j s : Nat, (j = kN ∨ j = kN + 1) → s < 2 ^ FN → 0 ≤ (W j s).toInt ∧ (W j s).toInt ≤ 900) (hun : un.toInt = uN lm fm kN fN) (hu2 : un.toInt ≤ 2) (hP : ∀ V2 : Nat → Nat → Int32, wjP lm fm kN fN (2 ^ FN) W V2 (2 ^ FN) → P none (h_cw lo fo jc us kn lm fm V2)) :
    ∀ (m k : Nat), k + m = 2 ^ FN → ∀ i : Int32, i.toInt = (k : Int) → ∀ (V : Nat → Nat → Int32) (A : Option cx_V), wjP lm fm kN fN (2 ^ FN) W V k → cx_T 3 11 [87, 88, 89, 90, 91, 92, 93, 94, 95, 96, 97, 98, 99] 23 ([some (.inr (.inl 87)), some (.inl (.int x)), some (.inl (.int y)), some (.inl (.int z)), some (.inl (.int un)), some (.inl (.int ((Int32.ofInt 1) <<< (y &&& 31)))), some (.inl (.int i)), A], [], [(87, .inl (0, [.inr (.inl 88), .inr (.inl 89), .inr (.inl 90), .inr (.inl 100), .inl (.int lo), .inl (.int fo), .inl (.int jc), .inl (.int us), .inl (.int kn)])), (88, .inr (.inl (0, 8, lm))), (89, .inr (.inl (0, 8, fm))), (90, .inr (.inr (.inr (3, [91, 92, 93, 94, 95, 96, 97, 98, 99])))), (91, .inr (.inl (0, 256, V 0))), (92, .inr (.inl (0, 256, V 1))), (93, .inr (.inl (0, 256, V 2))), (94, .inr (.inl (0, 256, V 3))), (95, .inr (.inl (0, 256, V 4))), (96, .inr (.inl (0, 256, V 5))), (97, .inr (.inl (0, 256, V 6))), (98, .inr (.inl (0, 256, V 7))), (99, .inr (.inl (0, 256, V 8)))]) P := by
  have kc0 : (Int32.ofInt 0).toInt = 0 := by decide +kernel
  have kc1 : (Int32.ofInt 1).toInt = 1 := by decide +kernel
  have kc2 : (Int32.ofInt 2).toInt = 2 := by decide +kernel
  have kc64 : (Int32.ofInt 64).toInt = 64 := by decide +kernel
  intro m
  induction m with
  | zero =>
    intro k hk i hi V A hV
    have ek : k = 2 ^ FN := by omega
    have hp2 := p2_le hF
    refine ex_iload cg_11 (ix := 15) (pc' := 25) rfl rfl rfl ?_
    refine ex_iload_n cg_11 (ix := 16) (pc' := 26) rfl rfl rfl ?_
    refine ex_icmp cg_11 (ix := 17) (t := 88) (pc' := 29) rfl rfl rfl (fun hb26 => ?_) (fun hb26 => ?_)
    · have hb26 : z.toInt ≤ i.toInt := hb26
      refine ex_return_ cg_11 (ix := 53) rfl ?_
      rw [ek] at hV
      exact hP V hV
    · have hb26 : ¬ (z.toInt ≤ i.toInt) := hb26
      exfalso; first | omega | exact absurd hb26 (by decide +kernel)
  | succ m ih =>
    intro k hk i hi V A hV
    have hik : i.toNatClampNeg = k := cx_clamp hi
    have hp2 := p2_le hF
    have hx1 : (x + Int32.ofInt 1).toInt = ((kN + 1 : Nat) : Int) := by rw [cx_addc (by omega) (by omega)]; omega
    have hub := uN_b (lm := lm) (fm := fm) kN fN
    have hk256 : k < 256 := by omega
    have hkn : k < 2 ^ FN := by omega
    have hor := bt_or hi hk256 hy (by omega)
    have hsl := stO_lt hF hkn hfF
    have hand := bt_and hi hk256 hy (by omega)
    have hix : (i ||| (Int32.ofInt 1 <<< (y &&& 31))).toNatClampNeg = stO k fN := cx_clamp hor
    have b0 := hWb kN k (Or.inl rfl) hkn
    have b1 := hWb (kN + 1) (stO k fN) (Or.inr rfl) hsl
    have v0 : (V kN k).toInt = (W kN k).toInt := by
      rw [hV.2 k hkn, if_neg (Nat.lt_irrefl k)]
    have v1 : V (kN + 1) = W (kN + 1) := hV.1 _ (by omega)
    refine ex_iload cg_11 (ix := 15) (pc' := 25) rfl rfl rfl ?_
    refine ex_iload_n cg_11 (ix := 16) (pc' := 26) rfl rfl rfl ?_
    refine ex_icmp cg_11 (ix := 17) (t := 88) (pc' := 29) rfl rfl rfl (fun hb26 => ?_) (fun hb26 => ?_)
    · have hb26 : z.toInt ≤ i.toInt := hb26
      exfalso; first | omega | exact absurd hb26 (by decide +kernel)
    · have hb26 : ¬ (z.toInt ≤ i.toInt) := hb26
      refine ex_iload cg_11 (ix := 18) (pc' := 31) rfl rfl rfl ?_
      refine ex_iload cg_11 (ix := 19) (pc' := 33) rfl rfl rfl ?_
      refine ex_iand cg_11 (ix := 20) (pc' := 34) rfl rfl ?_
      refine ex_if cg_11 (ix := 21) (t := 82) (pc' := 37) rfl rfl rfl (fun hb34 => ?_) (fun hb34 => ?_)
      · have hb34 : ¬ (i &&& ((Int32.ofInt 1) <<< (y &&& 31))).toInt = 0 := hb34
        refine ex_iinc cg_11 (ix := 51) (pc' := 85) (L' := [some (.inr (.inl 87)), some (.inl (.int x)), some (.inl (.int y)), some (.inl (.int z)), some (.inl (.int un)), some (.inl (.int ((Int32.ofInt 1) <<< (y &&& 31)))), some (.inl (.int (i + Int32.ofInt 1))), A]) rfl rfl rfl rfl rfl ?_
        refine ex_goto cg_11 (ix := 52) (pc' := 23) rfl rfl ?_
        refine ih (k + 1) (by omega) _ (by rw [cx_addc (by omega) (by omega)]; omega) V _ ⟨hV.1, fun s hs => ?_⟩
        rw [hV.2 s hs]
        by_cases q : s < k
        · rw [if_pos q, if_pos (show s < k + 1 by omega)]
        · rw [if_neg q]
          by_cases q2 : s = k
          · rw [if_pos (show s < k + 1 by omega), q2, if_neg (fun z => hb34 (hand.mpr z.1))]
          · rw [if_neg (show ¬ s < k + 1 by omega)]
      · have hb34 : ¬ (¬ (i &&& ((Int32.ofInt 1) <<< (y &&& 31))).toInt = 0) := hb34
        refine ex_bipush cg_11 (ix := 22) (pc' := 39) rfl rfl rfl ?_
        refine ex_iload cg_11 (ix := 23) (pc' := 41) rfl rfl rfl ?_
        refine ex_isub cg_11 (ix := 24) (pc' := 42) rfl rfl ?_
        refine ex_aload_n cg_11 (ix := 25) (pc' := 43) rfl rfl rfl ?_
        refine ex_getfield cg_11 (ix := 26) (pc' := 46) rfl rfl rfl rfl rfl ?_
        refine ex_iload_n cg_11 (ix := 27) (pc' := 47) rfl rfl rfl ?_
        refine ex_iconst cg_11 (ix := 28) (pc' := 48) rfl rfl ?_
        refine ex_iadd cg_11 (ix := 29) (pc' := 49) rfl rfl ?_
        refine ex_aaload cg_11 (ix := 30) (pc' := 50) (k1 := (91 + (kN + 1))) rfl rfl (by omega) (wf_ix (by omega) hx1) rfl ?_
        refine ex_iload cg_11 (ix := 31) (pc' := 52) rfl rfl rfl ?_
        refine ex_iload cg_11 (ix := 32) (pc' := 54) rfl rfl rfl ?_
        refine ex_ior cg_11 (ix := 33) (pc' := 55) rfl rfl ?_
        refine ex_iaload cg_11 (ix := 34) (pc' := 56) rfl (wf_get (V := V) (by omega)) (by rw [hor]; omega) (by rw [hor]; omega) rfl ?_
        refine ex_iadd cg_11 (ix := 35) (pc' := 57) rfl rfl ?_
        refine ex_istore cg_11 (ix := 36) (pc' := 59) (L' := [some (.inr (.inl 87)), some (.inl (.int x)), some (.inl (.int y)), some (.inl (.int z)), some (.inl (.int un)), some (.inl (.int ((Int32.ofInt 1) <<< (y &&& 31)))), some (.inl (.int i)), some (.inl (.int (((Int32.ofInt 64) - un) + ((V (kN + 1)) (i ||| ((Int32.ofInt 1) <<< (y &&& 31))).toNatClampNeg))))]) rfl rfl rfl rfl ?_
        refine ex_aload_n cg_11 (ix := 37) (pc' := 60) rfl rfl rfl ?_
        refine ex_getfield cg_11 (ix := 38) (pc' := 63) rfl rfl rfl rfl rfl ?_
        refine ex_iload_n cg_11 (ix := 39) (pc' := 64) rfl rfl rfl ?_
        refine ex_aaload cg_11 (ix := 40) (pc' := 65) (k1 := (91 + kN)) rfl rfl (by omega) (wf_ix (by omega) hx) rfl ?_
        refine ex_iload cg_11 (ix := 41) (pc' := 67) rfl rfl rfl ?_
        refine ex_aload_n cg_11 (ix := 42) (pc' := 68) rfl rfl rfl ?_
        refine ex_getfield cg_11 (ix := 43) (pc' := 71) rfl rfl rfl rfl rfl ?_
        refine ex_iload_n cg_11 (ix := 44) (pc' := 72) rfl rfl rfl ?_
        refine ex_aaload cg_11 (ix := 45) (pc' := 73) (k1 := (91 + kN)) rfl rfl (by omega) (wf_ix (by omega) hx) rfl ?_
        refine ex_iload cg_11 (ix := 46) (pc' := 75) rfl rfl rfl ?_
        refine ex_iaload cg_11 (ix := 47) (pc' := 76) rfl (wf_get (V := V) (by omega)) (by omega) (by omega) rfl ?_
        refine ex_iload cg_11 (ix := 48) (pc' := 78) rfl rfl rfl ?_
        refine ex_max cg_11 (ix := 49) (pc' := 81) rfl rfl (by first | decide | omega) rfl rfl ?_
        refine ex_iastore cg_11 (ix := 50) (pc' := 82) (h' := [(87, .inl (0, [.inr (.inl 88), .inr (.inl 89), .inr (.inl 90), .inr (.inl 100), .inl (.int lo), .inl (.int fo), .inl (.int jc), .inl (.int us), .inl (.int kn)])), (88, .inr (.inl (0, 8, lm))), (89, .inr (.inl (0, 8, fm))), (90, .inr (.inr (.inr (3, [91, 92, 93, 94, 95, 96, 97, 98, 99])))), (91, .inr (.inl (0, 256, (up2 V kN (upd (V kN) i.toNatClampNeg (if ((V kN) i.toNatClampNeg) < (((Int32.ofInt 64) - un) + ((V (kN + 1)) (i ||| ((Int32.ofInt 1) <<< (y &&& 31))).toNatClampNeg)) then (((Int32.ofInt 64) - un) + ((V (kN + 1)) (i ||| ((Int32.ofInt 1) <<< (y &&& 31))).toNatClampNeg)) else ((V kN) i.toNatClampNeg)))) 0))), (92, .inr (.inl (0, 256, (up2 V kN (upd (V kN) i.toNatClampNeg (if ((V kN) i.toNatClampNeg) < (((Int32.ofInt 64) - un) + ((V (kN + 1)) (i ||| ((Int32.ofInt 1) <<< (y &&& 31))).toNatClampNeg)) then (((Int32.ofInt 64) - un) + ((V (kN + 1)) (i ||| ((Int32.ofInt 1) <<< (y &&& 31))).toNatClampNeg)) else ((V kN) i.toNatClampNeg)))) 1))), (93, .inr (.inl (0, 256, (up2 V kN (upd (V kN) i.toNatClampNeg (if ((V kN) i.toNatClampNeg) < (((Int32.ofInt 64) - un) + ((V (kN + 1)) (i ||| ((Int32.ofInt 1) <<< (y &&& 31))).toNatClampNeg)) then (((Int32.ofInt 64) - un) + ((V (kN + 1)) (i ||| ((Int32.ofInt 1) <<< (y &&& 31))).toNatClampNeg)) else ((V kN) i.toNatClampNeg)))) 2))), (94, .inr (.inl (0, 256, (up2 V kN (upd (V kN) i.toNatClampNeg (if ((V kN) i.toNatClampNeg) < (((Int32.ofInt 64) - un) + ((V (kN + 1)) (i ||| ((Int32.ofInt 1) <<< (y &&& 31))).toNatClampNeg)) then (((Int32.ofInt 64) - un) + ((V (kN + 1)) (i ||| ((Int32.ofInt 1) <<< (y &&& 31))).toNatClampNeg)) else ((V kN) i.toNatClampNeg)))) 3))), (95, .inr (.inl (0, 256, (up2 V kN (upd (V kN) i.toNatClampNeg (if ((V kN) i.toNatClampNeg) < (((Int32.ofInt 64) - un) + ((V (kN + 1)) (i ||| ((Int32.ofInt 1) <<< (y &&& 31))).toNatClampNeg)) then (((Int32.ofInt 64) - un) + ((V (kN + 1)) (i ||| ((Int32.ofInt 1) <<< (y &&& 31))).toNatClampNeg)) else ((V kN) i.toNatClampNeg)))) 4))), (96, .inr (.inl (0, 256, (up2 V kN (upd (V kN) i.toNatClampNeg (if ((V kN) i.toNatClampNeg) < (((Int32.ofInt 64) - un) + ((V (kN + 1)) (i ||| ((Int32.ofInt 1) <<< (y &&& 31))).toNatClampNeg)) then (((Int32.ofInt 64) - un) + ((V (kN + 1)) (i ||| ((Int32.ofInt 1) <<< (y &&& 31))).toNatClampNeg)) else ((V kN) i.toNatClampNeg)))) 5))), (97, .inr (.inl (0, 256, (up2 V kN (upd (V kN) i.toNatClampNeg (if ((V kN) i.toNatClampNeg) < (((Int32.ofInt 64) - un) + ((V (kN + 1)) (i ||| ((Int32.ofInt 1) <<< (y &&& 31))).toNatClampNeg)) then (((Int32.ofInt 64) - un) + ((V (kN + 1)) (i ||| ((Int32.ofInt 1) <<< (y &&& 31))).toNatClampNeg)) else ((V kN) i.toNatClampNeg)))) 6))), (98, .inr (.inl (0, 256, (up2 V kN (upd (V kN) i.toNatClampNeg (if ((V kN) i.toNatClampNeg) < (((Int32.ofInt 64) - un) + ((V (kN + 1)) (i ||| ((Int32.ofInt 1) <<< (y &&& 31))).toNatClampNeg)) then (((Int32.ofInt 64) - un) + ((V (kN + 1)) (i ||| ((Int32.ofInt 1) <<< (y &&& 31))).toNatClampNeg)) else ((V kN) i.toNatClampNeg)))) 7))), (99, .inr (.inl (0, 256, (up2 V kN (upd (V kN) i.toNatClampNeg (if ((V kN) i.toNatClampNeg) < (((Int32.ofInt 64) - un) + ((V (kN + 1)) (i ||| ((Int32.ofInt 1) <<< (y &&& 31))).toNatClampNeg)) then (((Int32.ofInt 64) - un) + ((V (kN + 1)) (i ||| ((Int32.ofInt 1) <<< (y &&& 31))).toNatClampNeg)) else ((V kN) i.toNatClampNeg)))) 8)))]) rfl (wf_get (V := V) (by omega)) (by omega) (by omega) (wf_set (V := V) (by omega)) rfl ?_
        refine ex_iinc cg_11 (ix := 51) (pc' := 85) (L' := [some (.inr (.inl 87)), some (.inl (.int x)), some (.inl (.int y)), some (.inl (.int z)), some (.inl (.int un)), some (.inl (.int ((Int32.ofInt 1) <<< (y &&& 31)))), some (.inl (.int (i + Int32.ofInt 1))), some (.inl (.int (((Int32.ofInt 64) - un) + ((V (kN + 1)) (i ||| ((Int32.ofInt 1) <<< (y &&& 31))).toNatClampNeg))))]) rfl rfl rfl rfl rfl ?_
        refine ex_goto cg_11 (ix := 52) (pc' := 23) rfl rfl ?_
        refine ih (k + 1) (by omega) _ (by rw [cx_addc (by omega) (by omega)]; omega) _ _ ⟨fun j hj => ?_, fun s hs => ?_⟩
        · rw [up2_ne hj]; exact hV.1 j hj
        · rw [up2_me, hik, hix, v1]
          unfold upd
          by_cases q : s = k
          · rw [if_pos q, if_pos (show s < k + 1 by omega), q]
            have e3 : (Int32.ofInt 64 - un + W (kN + 1) (stO k fN)).toInt = 64 - uN lm fm kN fN + (W (kN + 1) (stO k fN)).toInt := by
              rw [cx_addc (by rw [cx_subc (by omega) (by omega)]; omega) (by rw [cx_subc (by omega) (by omega)]; omega), cx_subc (by omega) (by omega)]
              omega
            have c1 : stI k fN = false := hand.mp (Classical.byContradiction hb34)
            by_cases q3 : V kN k < Int32.ofInt 64 - un + W (kN + 1) (stO k fN)
            · rw [if_pos q3, e3]
              rw [Int32.lt_iff_toInt_lt, e3, v0] at q3
              rw [if_pos ⟨c1, by omega, q3⟩]
            · rw [if_neg q3, v0]
              rw [Int32.lt_iff_toInt_lt, e3, v0] at q3
              rw [if_neg (fun z => q3 z.2.2)]
          · rw [if_neg q, hV.2 s hs]
            by_cases q2 : s < k
            · rw [if_pos q2, if_pos (show s < k + 1 by omega)]
            · rw [if_neg q2, if_neg (show ¬ s < k + 1 by omega)]
theorem ct_wj {lo fo jc us kn : Int32} {lm fm : Nat → Int32} {W : Nat → Nat → Int32} {x y z : Int32} {kN fN FN : Nat} (hx : x.toInt = (kN : Int)) (hk8 : kN < 8) (hy : y.toInt = (fN : Int)) (hfF : fN < FN) (hF : FN ≤ 8) (hz : z.toInt = ((2 ^ FN : Nat) : Int)) (hWb : ∀ j s : Nat, (j = kN ∨ j = kN + 1) → s < 2 ^ FN → 0 ≤ (W j s).toInt ∧ (W j s).toInt ≤ 900) : cx_Ct 3 11 [.inr (.inl 87), .inl (.int x), .inl (.int y), .inl (.int z)] ([(87, .inl (0, [.inr (.inl 88), .inr (.inl 89), .inr (.inl 90), .inr (.inl 100), .inl (.int lo), .inl (.int fo), .inl (.int jc), .inl (.int us), .inl (.int kn)])), (88, .inr (.inl (0, 8, lm))), (89, .inr (.inl (0, 8, fm))), (90, .inr (.inr (.inr (3, [91, 92, 93, 94, 95, 96, 97, 98, 99])))), (91, .inr (.inl (0, 256, W 0))), (92, .inr (.inl (0, 256, W 1))), (93, .inr (.inl (0, 256, W 2))), (94, .inr (.inl (0, 256, W 3))), (95, .inr (.inl (0, 256, W 4))), (96, .inr (.inl (0, 256, W 5))), (97, .inr (.inl (0, 256, W 6))), (98, .inr (.inl (0, 256, W 7))), (99, .inr (.inl (0, 256, W 8)))]) (fun v h2 => v = none ∧ ∃ V2 : Nat → Nat → Int32, h2 = h_cw lo fo jc us kn lm fm V2 ∧ wjP lm fm kN fN (2 ^ FN) W V2 (2 ^ FN)) := by
  have kc2 : (Int32.ofInt 2).toInt = 2 := by decide +kernel
  have kc1 : (Int32.ofInt 1).toInt = 1 := by decide +kernel
  have kc0 : (Int32.ofInt 0).toInt = 0 := by decide +kernel
  have kc64 : (Int32.ofInt 64).toInt = 64 := by decide +kernel
  refine cx_Ct.of cg_11 (nL := 8) rfl rfl rfl ?_
  show cx_T 3 11 [87, 88, 89, 90, 91, 92, 93, 94, 95, 96, 97, 98, 99] 0 ([some (.inr (.inl 87)), some (.inl (.int x)), some (.inl (.int y)), some (.inl (.int z)), none, none, none, none], [], [(87, .inl (0, [.inr (.inl 88), .inr (.inl 89), .inr (.inl 90), .inr (.inl 100), .inl (.int lo), .inl (.int fo), .inl (.int jc), .inl (.int us), .inl (.int kn)])), (88, .inr (.inl (0, 8, lm))), (89, .inr (.inl (0, 8, fm))), (90, .inr (.inr (.inr (3, [91, 92, 93, 94, 95, 96, 97, 98, 99])))), (91, .inr (.inl (0, 256, W 0))), (92, .inr (.inl (0, 256, W 1))), (93, .inr (.inl (0, 256, W 2))), (94, .inr (.inl (0, 256, W 3))), (95, .inr (.inl (0, 256, W 4))), (96, .inr (.inl (0, 256, W 5))), (97, .inr (.inl (0, 256, W 6))), (98, .inr (.inl (0, 256, W 7))), (99, .inr (.inl (0, 256, W 8)))]) _
  refine ex_aload_n cg_11 (ix := 0) (pc' := 1) rfl rfl rfl ?_
  refine ex_iload_n cg_11 (ix := 1) (pc' := 2) rfl rfl rfl ?_
  refine ex_iload_n cg_11 (ix := 2) (pc' := 3) rfl rfl rfl ?_
  refine ex_callV cg_11 (ix := 3) (pc' := 6) (As := [.inl (.int x), .inl (.int y)]) (r := []) rfl rfl rfl (ct_ul (lo := lo) (fo := fo) (jc := jc) (us := us) (kn := kn) (lm := lm) (fm := fm) (x := x) (y := y) (kx := kN) (ky := fN) hx (by omega) hy (by omega)) (by first | decide | omega) rfl rfl rfl ⟨rfl, rfl, rfl, trivial⟩ rfl rfl (fun v h2 hq => ?_)
  obtain ⟨un, rfl, rfl, hun⟩ := hq
  have hub := uN_b (lm := lm) (fm := fm) kN fN
  show cx_T _ 11 _ 6 ([some (.inr (.inl 87)), some (.inl (.int x)), some (.inl (.int y)), some (.inl (.int z)), none, none, none, none], [.inl (.int un)], [(87, .inl (0, [.inr (.inl 88), .inr (.inl 89), .inr (.inl 90), .inr (.inl 100), .inl (.int lo), .inl (.int fo), .inl (.int jc), .inl (.int us), .inl (.int kn)])), (88, .inr (.inl (0, 8, lm))), (89, .inr (.inl (0, 8, fm))), (90, .inr (.inr (.inr (3, [91, 92, 93, 94, 95, 96, 97, 98, 99])))), (91, .inr (.inl (0, 256, W 0))), (92, .inr (.inl (0, 256, W 1))), (93, .inr (.inl (0, 256, W 2))), (94, .inr (.inl (0, 256, W 3))), (95, .inr (.inl (0, 256, W 4))), (96, .inr (.inl (0, 256, W 5))), (97, .inr (.inl (0, 256, W 6))), (98, .inr (.inl (0, 256, W 7))), (99, .inr (.inl (0, 256, W 8)))]) _
  refine ex_istore cg_11 (ix := 4) (pc' := 8) (L' := [some (.inr (.inl 87)), some (.inl (.int x)), some (.inl (.int y)), some (.inl (.int z)), some (.inl (.int un)), none, none, none]) rfl rfl rfl rfl ?_
  refine ex_iload cg_11 (ix := 5) (pc' := 10) rfl rfl rfl ?_
  refine ex_iconst cg_11 (ix := 6) (pc' := 11) rfl rfl ?_
  refine ex_icmp cg_11 (ix := 7) (t := 15) (pc' := 14) rfl rfl rfl (fun hb11 => ?_) (fun hb11 => ?_)
  · have hb11 : un.toInt ≤ (Int32.ofInt 2).toInt := hb11
    refine ex_iconst cg_11 (ix := 9) (pc' := 16) rfl rfl ?_
    refine ex_iload_n cg_11 (ix := 10) (pc' := 17) rfl rfl rfl ?_
    refine ex_ishl cg_11 (ix := 11) (pc' := 18) rfl rfl ?_
    refine ex_istore cg_11 (ix := 12) (pc' := 20) (L' := [some (.inr (.inl 87)), some (.inl (.int x)), some (.inl (.int y)), some (.inl (.int z)), some (.inl (.int un)), some (.inl (.int ((Int32.ofInt 1) <<< (y &&& 31)))), none, none]) rfl rfl rfl rfl ?_
    refine ex_iconst cg_11 (ix := 13) (pc' := 21) rfl rfl ?_
    refine ex_istore cg_11 (ix := 14) (pc' := 23) (L' := [some (.inr (.inl 87)), some (.inl (.int x)), some (.inl (.int y)), some (.inl (.int z)), some (.inl (.int un)), some (.inl (.int ((Int32.ofInt 1) <<< (y &&& 31)))), some (.inl (.int (Int32.ofInt 0))), none]) rfl rfl rfl rfl ?_
    exact wj_loop (lo := lo) (fo := fo) (jc := jc) (us := us) (kn := kn) (lm := lm) (fm := fm) (W := W) (x := x) (y := y) (z := z) (un := un) (kN := kN) (fN := fN) (FN := FN) hx hk8 hy hfF hF hz hWb hun (by omega) (P := fun v h2 => v = none ∧ ∃ V2 : Nat → Nat → Int32, h2 = h_cw lo fo jc us kn lm fm V2 ∧ wjP lm fm kN fN (2 ^ FN) W V2 (2 ^ FN)) (fun V2 h => ⟨rfl, V2, rfl, h⟩) (2 ^ FN) 0 (by omega) (Int32.ofInt 0) (by decide +kernel) W none ⟨fun _ _ => rfl, fun s _ => by rw [if_neg (by omega)]⟩
  · have hb11 : ¬ (un.toInt ≤ (Int32.ofInt 2).toInt) := hb11
    refine ex_return_ cg_11 (ix := 8) rfl ?_
    refine ⟨rfl, W, rfl, fun _ _ => rfl, fun s hs => ?_⟩
    rw [if_pos hs, if_neg (fun z => by have := z.2.1; omega)]
theorem lf_loop {lo fo jc us kn : Int32} {lm fm : Nat → Int32} {V : Nat → Nat → Int32} {x sv : Int32} {kN SN FN : Nat} {P : Option cx_V → cx_H → Prop} (hx : x.toInt = (kN : Int)) (hk8 : kN < 8) (hs : sv.toInt = (SN : Int)) (hS : SN < 2 ^ FN) (hF : FN ≤ 8) (hfo : fo.toInt = (FN : Int)) (hVb : ∀ j s : Nat, (j = kN ∨ j = kN + 1) → s < 2 ^ FN → 0 ≤ (V j s).toInt ∧ (V j s).toInt ≤ 900) (hP : ∀ z : Int32, (z).toInt = (if jl (jok 64 (uN lm fm kN) (fun s => (V (kN + 1) s).toInt) (V kN SN).toInt SN) 0 FN < FN then ((jl (jok 64 (uN lm fm kN) (fun s => (V (kN + 1) s).toInt) (V kN SN).toInt SN) 0 FN : Nat) : Int) else -9) → P (some (.inl (.int z))) ([(87, .inl (0, [.inr (.inl 88), .inr (.inl 89), .inr (.inl 90), .inr (.inl 100), .inl (.int lo), .inl (.int fo), .inl (.int jc), .inl (.int us), .inl (.int kn)])), (88, .inr (.inl (0, 8, lm))), (89, .inr (.inl (0, 8, fm))), (90, .inr (.inr (.inr (3, [91, 92, 93, 94, 95, 96, 97, 98, 99])))), (91, .inr (.inl (0, 256, V 0))), (92, .inr (.inl (0, 256, V 1))), (93, .inr (.inl (0, 256, V 2))), (94, .inr (.inl (0, 256, V 3))), (95, .inr (.inl (0, 256, V 4))), (96, .inr (.inl (0, 256, V 5))), (97, .inr (.inl (0, 256, V 6))), (98, .inr (.inl (0, 256, V 7))), (99, .inr (.inl (0, 256, V 8)))])) :
    ∀ (m k : Nat), k + m = FN → ∀ i : Int32, i.toInt = (k : Int) → ∀ (A B : Option cx_V), jl (jok 64 (uN lm fm kN) (fun s => (V (kN + 1) s).toInt) (V kN SN).toInt SN) 0 FN = jl (jok 64 (uN lm fm kN) (fun s => (V (kN + 1) s).toInt) (V kN SN).toInt SN) k m → cx_T 3 13 [87, 88, 89, 90, 91, 92, 93, 94, 95, 96, 97, 98, 99] 2 ([some (.inr (.inl 87)), some (.inl (.int x)), some (.inl (.int sv)), some (.inl (.int i)), A, B], [], [(87, .inl (0, [.inr (.inl 88), .inr (.inl 89), .inr (.inl 90), .inr (.inl 100), .inl (.int lo), .inl (.int fo), .inl (.int jc), .inl (.int us), .inl (.int kn)])), (88, .inr (.inl (0, 8, lm))), (89, .inr (.inl (0, 8, fm))), (90, .inr (.inr (.inr (3, [91, 92, 93, 94, 95, 96, 97, 98, 99])))), (91, .inr (.inl (0, 256, V 0))), (92, .inr (.inl (0, 256, V 1))), (93, .inr (.inl (0, 256, V 2))), (94, .inr (.inl (0, 256, V 3))), (95, .inr (.inl (0, 256, V 4))), (96, .inr (.inl (0, 256, V 5))), (97, .inr (.inl (0, 256, V 6))), (98, .inr (.inl (0, 256, V 7))), (99, .inr (.inl (0, 256, V 8)))]) P := by
  have kcm9 : (Int32.ofInt (-9)).toInt = -9 := by decide +kernel
  have kc0 : (Int32.ofInt 0).toInt = 0 := by decide +kernel
  have kc1 : (Int32.ofInt 1).toInt = 1 := by decide +kernel
  have kc2 : (Int32.ofInt 2).toInt = 2 := by decide +kernel
  have kc64 : (Int32.ofInt 64).toInt = 64 := by decide +kernel
  intro m
  induction m with
  | zero =>
    intro k hk i hi A B hJ
    have ek : k = FN := by omega
    refine ex_iload_n cg_13 (ix := 2) (pc' := 3) rfl rfl rfl ?_
    refine ex_aload_n cg_13 (ix := 3) (pc' := 4) rfl rfl rfl ?_
    refine ex_getfield cg_13 (ix := 4) (pc' := 7) rfl rfl rfl rfl rfl ?_
    refine ex_icmp cg_13 (ix := 5) (t := 74) (pc' := 10) rfl rfl rfl (fun hb7 => ?_) (fun hb7 => ?_)
    · have hb7 : fo.toInt ≤ i.toInt := hb7
      refine ex_bipush cg_13 (ix := 47) (pc' := 76) rfl rfl rfl ?_
      refine ex_ireturn cg_13 (ix := 48) rfl ?_
      rw [jl] at hJ
      refine hP _ ?_
      rw [hJ, if_neg (by omega)]
      decide +kernel
    · have hb7 : ¬ (fo.toInt ≤ i.toInt) := hb7
      exfalso; first | omega | exact absurd hb7 (by decide +kernel)
  | succ m ih =>
    intro k hk i hi A B hJ
    have hik : i.toNatClampNeg = k := cx_clamp hi
    have hp2 := p2_le hF
    have hx1 : (x + Int32.ofInt 1).toInt = ((kN + 1 : Nat) : Int) := by rw [cx_addc (by omega) (by omega)]; omega
    have hkF : k < FN := by omega
    have hor := bt_or hs (by omega) hi (by omega)
    have hsl := stO_lt hF hS hkF
    have hand := bt_and hs (by omega) hi (by omega)
    have hix : (sv ||| (Int32.ofInt 1 <<< (i &&& 31))).toNatClampNeg = stO SN k := cx_clamp hor
    have hsx : sv.toNatClampNeg = SN := cx_clamp hs
    have b0 := hVb kN SN (Or.inl rfl) hS
    have b1 := hVb (kN + 1) (stO SN k) (Or.inr rfl) hsl
    have hub := uN_b (lm := lm) (fm := fm) kN k
    rw [jl] at hJ
    refine ex_iload_n cg_13 (ix := 2) (pc' := 3) rfl rfl rfl ?_
    refine ex_aload_n cg_13 (ix := 3) (pc' := 4) rfl rfl rfl ?_
    refine ex_getfield cg_13 (ix := 4) (pc' := 7) rfl rfl rfl rfl rfl ?_
    refine ex_icmp cg_13 (ix := 5) (t := 74) (pc' := 10) rfl rfl rfl (fun hb7 => ?_) (fun hb7 => ?_)
    · have hb7 : fo.toInt ≤ i.toInt := hb7
      exfalso; first | omega | exact absurd hb7 (by decide +kernel)
    · have hb7 : ¬ (fo.toInt ≤ i.toInt) := hb7
      refine ex_iconst cg_13 (ix := 6) (pc' := 11) rfl rfl ?_
      refine ex_iload_n cg_13 (ix := 7) (pc' := 12) rfl rfl rfl ?_
      refine ex_ishl cg_13 (ix := 8) (pc' := 13) rfl rfl ?_
      refine ex_istore cg_13 (ix := 9) (pc' := 15) (L' := [some (.inr (.inl 87)), some (.inl (.int x)), some (.inl (.int sv)), some (.inl (.int i)), some (.inl (.int ((Int32.ofInt 1) <<< (i &&& 31)))), B]) rfl rfl rfl rfl ?_
      refine ex_aload_n cg_13 (ix := 10) (pc' := 16) rfl rfl rfl ?_
      refine ex_iload_n cg_13 (ix := 11) (pc' := 17) rfl rfl rfl ?_
      refine ex_iload_n cg_13 (ix := 12) (pc' := 18) rfl rfl rfl ?_
      refine ex_callV cg_13 (ix := 13) (pc' := 21) (As := [.inl (.int x), .inl (.int i)]) (r := []) rfl rfl rfl (ct_ul (lo := lo) (fo := fo) (jc := jc) (us := us) (kn := kn) (lm := lm) (fm := fm) (x := x) (y := i) (kx := kN) (ky := k) hx (by omega) hi (by omega)) (by first | decide | omega) rfl rfl rfl ⟨rfl, rfl, rfl, trivial⟩ rfl rfl (fun v h2 hq => ?_)
      obtain ⟨un, rfl, rfl, hun⟩ := hq
      have hub := uN_b (lm := lm) (fm := fm) kN k
      show cx_T _ 13 _ 21 ([some (.inr (.inl 87)), some (.inl (.int x)), some (.inl (.int sv)), some (.inl (.int i)), some (.inl (.int ((Int32.ofInt 1) <<< (i &&& 31)))), B], [.inl (.int un)], [(87, .inl (0, [.inr (.inl 88), .inr (.inl 89), .inr (.inl 90), .inr (.inl 100), .inl (.int lo), .inl (.int fo), .inl (.int jc), .inl (.int us), .inl (.int kn)])), (88, .inr (.inl (0, 8, lm))), (89, .inr (.inl (0, 8, fm))), (90, .inr (.inr (.inr (3, [91, 92, 93, 94, 95, 96, 97, 98, 99])))), (91, .inr (.inl (0, 256, V 0))), (92, .inr (.inl (0, 256, V 1))), (93, .inr (.inl (0, 256, V 2))), (94, .inr (.inl (0, 256, V 3))), (95, .inr (.inl (0, 256, V 4))), (96, .inr (.inl (0, 256, V 5))), (97, .inr (.inl (0, 256, V 6))), (98, .inr (.inl (0, 256, V 7))), (99, .inr (.inl (0, 256, V 8)))]) _
      refine ex_istore cg_13 (ix := 14) (pc' := 23) (L' := [some (.inr (.inl 87)), some (.inl (.int x)), some (.inl (.int sv)), some (.inl (.int i)), some (.inl (.int ((Int32.ofInt 1) <<< (i &&& 31)))), some (.inl (.int un))]) rfl rfl rfl rfl ?_
      refine ex_iload_n cg_13 (ix := 15) (pc' := 24) rfl rfl rfl ?_
      refine ex_iload cg_13 (ix := 16) (pc' := 26) rfl rfl rfl ?_
      refine ex_iand cg_13 (ix := 17) (pc' := 27) rfl rfl ?_
      refine ex_if cg_13 (ix := 18) (t := 68) (pc' := 30) rfl rfl rfl (fun hb27 => ?_) (fun hb27 => ?_)
      · have hb27 : ¬ (sv &&& ((Int32.ofInt 1) <<< (i &&& 31))).toInt = 0 := hb27
        refine ex_iinc cg_13 (ix := 45) (pc' := 71) (L' := [some (.inr (.inl 87)), some (.inl (.int x)), some (.inl (.int sv)), some (.inl (.int (i + Int32.ofInt 1))), some (.inl (.int ((Int32.ofInt 1) <<< (i &&& 31)))), some (.inl (.int un))]) rfl rfl rfl rfl rfl ?_
        refine ex_goto cg_13 (ix := 46) (pc' := 2) rfl rfl ?_
        have e4 : jok 64 (uN lm fm kN) (fun s => (V (kN + 1) s).toInt) (V kN SN).toInt SN k = false := jok_f.mpr (fun zz => hb27 (hand.mpr zz.1))
        rw [e4] at hJ
        exact ih (k + 1) (by omega) _ (by rw [cx_addc (by omega) (by omega)]; omega) _ _ hJ
      · have hb27 : ¬ (¬ (sv &&& ((Int32.ofInt 1) <<< (i &&& 31))).toInt = 0) := hb27
        refine ex_iload cg_13 (ix := 19) (pc' := 32) rfl rfl rfl ?_
        refine ex_iconst cg_13 (ix := 20) (pc' := 33) rfl rfl ?_
        refine ex_icmp cg_13 (ix := 21) (t := 68) (pc' := 36) rfl rfl rfl (fun hb33 => ?_) (fun hb33 => ?_)
        · have hb33 : (Int32.ofInt 2).toInt < un.toInt := hb33
          refine ex_iinc cg_13 (ix := 45) (pc' := 71) (L' := [some (.inr (.inl 87)), some (.inl (.int x)), some (.inl (.int sv)), some (.inl (.int (i + Int32.ofInt 1))), some (.inl (.int ((Int32.ofInt 1) <<< (i &&& 31)))), some (.inl (.int un))]) rfl rfl rfl rfl rfl ?_
          refine ex_goto cg_13 (ix := 46) (pc' := 2) rfl rfl ?_
          have e4 : jok 64 (uN lm fm kN) (fun s => (V (kN + 1) s).toInt) (V kN SN).toInt SN k = false := jok_f.mpr (fun zz => by have := zz.2.1; omega)
          rw [e4] at hJ
          exact ih (k + 1) (by omega) _ (by rw [cx_addc (by omega) (by omega)]; omega) _ _ hJ
        · have hb33 : ¬ ((Int32.ofInt 2).toInt < un.toInt) := hb33
          refine ex_bipush cg_13 (ix := 22) (pc' := 38) rfl rfl rfl ?_
          refine ex_iload cg_13 (ix := 23) (pc' := 40) rfl rfl rfl ?_
          refine ex_isub cg_13 (ix := 24) (pc' := 41) rfl rfl ?_
          refine ex_aload_n cg_13 (ix := 25) (pc' := 42) rfl rfl rfl ?_
          refine ex_getfield cg_13 (ix := 26) (pc' := 45) rfl rfl rfl rfl rfl ?_
          refine ex_iload_n cg_13 (ix := 27) (pc' := 46) rfl rfl rfl ?_
          refine ex_iconst cg_13 (ix := 28) (pc' := 47) rfl rfl ?_
          refine ex_iadd cg_13 (ix := 29) (pc' := 48) rfl rfl ?_
          refine ex_aaload cg_13 (ix := 30) (pc' := 49) (k1 := (91 + (kN + 1))) rfl rfl (by omega) (wf_ix (by omega) hx1) rfl ?_
          refine ex_iload_n cg_13 (ix := 31) (pc' := 50) rfl rfl rfl ?_
          refine ex_iload cg_13 (ix := 32) (pc' := 52) rfl rfl rfl ?_
          refine ex_ior cg_13 (ix := 33) (pc' := 53) rfl rfl ?_
          refine ex_iaload cg_13 (ix := 34) (pc' := 54) rfl (wf_get (V := V) (by omega)) (by rw [hor]; omega) (by rw [hor]; omega) rfl ?_
          refine ex_iadd cg_13 (ix := 35) (pc' := 55) rfl rfl ?_
          refine ex_aload_n cg_13 (ix := 36) (pc' := 56) rfl rfl rfl ?_
          refine ex_getfield cg_13 (ix := 37) (pc' := 59) rfl rfl rfl rfl rfl ?_
          refine ex_iload_n cg_13 (ix := 38) (pc' := 60) rfl rfl rfl ?_
          refine ex_aaload cg_13 (ix := 39) (pc' := 61) (k1 := (91 + kN)) rfl rfl (by omega) (wf_ix (by omega) hx) rfl ?_
          refine ex_iload_n cg_13 (ix := 40) (pc' := 62) rfl rfl rfl ?_
          refine ex_iaload cg_13 (ix := 41) (pc' := 63) rfl (wf_get (V := V) (by omega)) (by omega) (by omega) rfl ?_
          refine ex_icmp cg_13 (ix := 42) (t := 68) (pc' := 66) rfl rfl rfl (fun hb63 => ?_) (fun hb63 => ?_)
          · have hb63 : ¬ (((Int32.ofInt 64) - un) + ((V (kN + 1)) (sv ||| ((Int32.ofInt 1) <<< (i &&& 31))).toNatClampNeg)).toInt = ((V kN) sv.toNatClampNeg).toInt := hb63
            refine ex_iinc cg_13 (ix := 45) (pc' := 71) (L' := [some (.inr (.inl 87)), some (.inl (.int x)), some (.inl (.int sv)), some (.inl (.int (i + Int32.ofInt 1))), some (.inl (.int ((Int32.ofInt 1) <<< (i &&& 31)))), some (.inl (.int un))]) rfl rfl rfl rfl rfl ?_
            refine ex_goto cg_13 (ix := 46) (pc' := 2) rfl rfl ?_
            have e3 : (Int32.ofInt 64 - un + V (kN + 1) (sv ||| (Int32.ofInt 1 <<< (i &&& 31))).toNatClampNeg).toInt = 64 - uN lm fm kN k + (V (kN + 1) (stO SN k)).toInt := by
              rw [hix, cx_addc (by rw [cx_subc (by omega) (by omega)]; omega) (by rw [cx_subc (by omega) (by omega)]; omega), cx_subc (by omega) (by omega)]
              omega
            have e4 : jok 64 (uN lm fm kN) (fun s => (V (kN + 1) s).toInt) (V kN SN).toInt SN k = false := jok_f.mpr (fun zz => by rw [e3, hsx] at hb63; exact hb63 zz.2.2)
            rw [e4] at hJ
            exact ih (k + 1) (by omega) _ (by rw [cx_addc (by omega) (by omega)]; omega) _ _ hJ
          · have hb63 : ¬ (¬ (((Int32.ofInt 64) - un) + ((V (kN + 1)) (sv ||| ((Int32.ofInt 1) <<< (i &&& 31))).toNatClampNeg)).toInt = ((V kN) sv.toNatClampNeg).toInt) := hb63
            refine ex_iload_n cg_13 (ix := 43) (pc' := 67) rfl rfl rfl ?_
            refine ex_ireturn cg_13 (ix := 44) rfl ?_
            have e3 : (Int32.ofInt 64 - un + V (kN + 1) (sv ||| (Int32.ofInt 1 <<< (i &&& 31))).toNatClampNeg).toInt = 64 - uN lm fm kN k + (V (kN + 1) (stO SN k)).toInt := by
              rw [hix, cx_addc (by rw [cx_subc (by omega) (by omega)]; omega) (by rw [cx_subc (by omega) (by omega)]; omega), cx_subc (by omega) (by omega)]
              omega
            have e4 : jok 64 (uN lm fm kN) (fun s => (V (kN + 1) s).toInt) (V kN SN).toInt SN k = true := jok_t.mpr ⟨hand.mp (Classical.byContradiction hb27), by omega, by
              rw [e3, hsx] at hb63
              exact Classical.byContradiction hb63⟩
            rw [e4] at hJ
            refine hP _ ?_
            rw [hJ]
            show i.toInt = if k < FN then ((k : Nat) : Int) else -9
            rw [if_pos hkF]
            exact hi
theorem ct_lf {lo fo jc us kn : Int32} {lm fm : Nat → Int32} {V : Nat → Nat → Int32} {x sv : Int32} {kN SN FN : Nat} (hx : x.toInt = (kN : Int)) (hk8 : kN < 8) (hs : sv.toInt = (SN : Int)) (hS : SN < 2 ^ FN) (hF : FN ≤ 8) (hfo : fo.toInt = (FN : Int)) (hVb : ∀ j s : Nat, (j = kN ∨ j = kN + 1) → s < 2 ^ FN → 0 ≤ (V j s).toInt ∧ (V j s).toInt ≤ 900) : cx_Ct 3 13 [.inr (.inl 87), .inl (.int x), .inl (.int sv)] ([(87, .inl (0, [.inr (.inl 88), .inr (.inl 89), .inr (.inl 90), .inr (.inl 100), .inl (.int lo), .inl (.int fo), .inl (.int jc), .inl (.int us), .inl (.int kn)])), (88, .inr (.inl (0, 8, lm))), (89, .inr (.inl (0, 8, fm))), (90, .inr (.inr (.inr (3, [91, 92, 93, 94, 95, 96, 97, 98, 99])))), (91, .inr (.inl (0, 256, V 0))), (92, .inr (.inl (0, 256, V 1))), (93, .inr (.inl (0, 256, V 2))), (94, .inr (.inl (0, 256, V 3))), (95, .inr (.inl (0, 256, V 4))), (96, .inr (.inl (0, 256, V 5))), (97, .inr (.inl (0, 256, V 6))), (98, .inr (.inl (0, 256, V 7))), (99, .inr (.inl (0, 256, V 8)))]) (fun v h2 => ∃ z : Int32, v = some (.inl (.int z)) ∧ h2 = [(87, .inl (0, [.inr (.inl 88), .inr (.inl 89), .inr (.inl 90), .inr (.inl 100), .inl (.int lo), .inl (.int fo), .inl (.int jc), .inl (.int us), .inl (.int kn)])), (88, .inr (.inl (0, 8, lm))), (89, .inr (.inl (0, 8, fm))), (90, .inr (.inr (.inr (3, [91, 92, 93, 94, 95, 96, 97, 98, 99])))), (91, .inr (.inl (0, 256, V 0))), (92, .inr (.inl (0, 256, V 1))), (93, .inr (.inl (0, 256, V 2))), (94, .inr (.inl (0, 256, V 3))), (95, .inr (.inl (0, 256, V 4))), (96, .inr (.inl (0, 256, V 5))), (97, .inr (.inl (0, 256, V 6))), (98, .inr (.inl (0, 256, V 7))), (99, .inr (.inl (0, 256, V 8)))] ∧ (z).toInt = (if jl (jok 64 (uN lm fm kN) (fun s => (V (kN + 1) s).toInt) (V kN SN).toInt SN) 0 FN < FN then ((jl (jok 64 (uN lm fm kN) (fun s => (V (kN + 1) s).toInt) (V kN SN).toInt SN) 0 FN : Nat) : Int) else -9)) := by
  have kc0 : (Int32.ofInt 0).toInt = 0 := by decide +kernel
  have kc1 : (Int32.ofInt 1).toInt = 1 := by decide +kernel
  have kc2 : (Int32.ofInt 2).toInt = 2 := by decide +kernel
  have kc64 : (Int32.ofInt 64).toInt = 64 := by decide +kernel
  have kcm9 : (Int32.ofInt (-9)).toInt = -9 := by decide +kernel
  refine cx_Ct.of cg_13 (nL := 6) rfl rfl rfl ?_
  show cx_T 3 13 [87, 88, 89, 90, 91, 92, 93, 94, 95, 96, 97, 98, 99] 0 ([some (.inr (.inl 87)), some (.inl (.int x)), some (.inl (.int sv)), none, none, none], [], [(87, .inl (0, [.inr (.inl 88), .inr (.inl 89), .inr (.inl 90), .inr (.inl 100), .inl (.int lo), .inl (.int fo), .inl (.int jc), .inl (.int us), .inl (.int kn)])), (88, .inr (.inl (0, 8, lm))), (89, .inr (.inl (0, 8, fm))), (90, .inr (.inr (.inr (3, [91, 92, 93, 94, 95, 96, 97, 98, 99])))), (91, .inr (.inl (0, 256, V 0))), (92, .inr (.inl (0, 256, V 1))), (93, .inr (.inl (0, 256, V 2))), (94, .inr (.inl (0, 256, V 3))), (95, .inr (.inl (0, 256, V 4))), (96, .inr (.inl (0, 256, V 5))), (97, .inr (.inl (0, 256, V 6))), (98, .inr (.inl (0, 256, V 7))), (99, .inr (.inl (0, 256, V 8)))]) _
  refine ex_iconst cg_13 (ix := 0) (pc' := 1) rfl rfl ?_
  refine ex_istore_n cg_13 (ix := 1) (pc' := 2) (L' := [some (.inr (.inl 87)), some (.inl (.int x)), some (.inl (.int sv)), some (.inl (.int (Int32.ofInt 0))), none, none]) rfl rfl rfl rfl ?_
  exact lf_loop (lo := lo) (fo := fo) (jc := jc) (us := us) (kn := kn) (lm := lm) (fm := fm) (V := V) (x := x) (sv := sv) (kN := kN) (SN := SN) (FN := FN) hx hk8 hs hS hF hfo hVb (P := fun v h2 => ∃ z : Int32, v = some (.inl (.int z)) ∧ h2 = [(87, .inl (0, [.inr (.inl 88), .inr (.inl 89), .inr (.inl 90), .inr (.inl 100), .inl (.int lo), .inl (.int fo), .inl (.int jc), .inl (.int us), .inl (.int kn)])), (88, .inr (.inl (0, 8, lm))), (89, .inr (.inl (0, 8, fm))), (90, .inr (.inr (.inr (3, [91, 92, 93, 94, 95, 96, 97, 98, 99])))), (91, .inr (.inl (0, 256, V 0))), (92, .inr (.inl (0, 256, V 1))), (93, .inr (.inl (0, 256, V 2))), (94, .inr (.inl (0, 256, V 3))), (95, .inr (.inl (0, 256, V 4))), (96, .inr (.inl (0, 256, V 5))), (97, .inr (.inl (0, 256, V 6))), (98, .inr (.inl (0, 256, V 7))), (99, .inr (.inl (0, 256, V 8)))] ∧ (z).toInt = (if jl (jok 64 (uN lm fm kN) (fun s => (V (kN + 1) s).toInt) (V kN SN).toInt SN) 0 FN < FN then ((jl (jok 64 (uN lm fm kN) (fun s => (V (kN + 1) s).toInt) (V kN SN).toInt SN) 0 FN : Nat) : Int) else -9)) (fun z hz => ⟨z, rfl, rfl, hz⟩) FN 0 (by omega) (Int32.ofInt 0) (by decide +kernel) none none rfl
end
