noncomputable section
theorem cg_240 : cx_G 240 tb_240 TbX11 (some .int) := cx_G.of gok_240
theorem cg_241 : cx_G 241 tb_241 TbX11 (some .int) := cx_G.of gok_241
theorem cg_242 : cx_G 242 tb_242 TbX11 none := cx_G.of gok_242
theorem cg_243 : cx_G 243 tb_243 TbX11 (some .int) := cx_G.of gok_243
theorem cg_244 : cx_G 244 tb_244 TbX11 (some .int) := cx_G.of gok_244
theorem cg_245 : cx_G 245 tb_245 TbX11 (some .int) := cx_G.of gok_245
theorem cg_239 : cx_G 239 tb_239 TbX11 (some .int) := cx_G.of gok_239
def fmO (mk : Nat → Int32) : Nat → Int32 := fun f => mk (8 + f)
theorem mu_loop {mi : Nat → Int32} {ml : Nat → Int64} {mk : Nat → Int32} {x y : Int32} {T : Int} {P : Option cx_V → cx_H → Prop}  (hP : ∀ n : Int32, n.toInt = T → P (some (.inl (.int n))) ([(119, .inl (11, vs_119 mi ml)), (150, .inr (.inl (0, 16, mk)))])) :
    ∀ (m k : Nat), k + m = 5 → ∀ i : Int32, i.toInt = (k : Int) → ∀ (a b n : Int32), n.toInt + ulR m a b = T → (0 ≤ n.toInt ∧ n.toInt ≤ (k : Int)) → cx_T 2 240 [119, 150] 24 ([some (.inr (.inl 119)), some (.inl (.int x)), some (.inl (.int y)), some (.inl (.int a)), some (.inl (.int b)), some (.inl (.int n)), some (.inl (.int i))], [], [(119, .inl (11, vs_119 mi ml)), (150, .inr (.inl (0, 16, mk)))]) P := by
  have kc0 : (Int32.ofInt 0).toInt = 0 := by decide +kernel
  have kc1 : (Int32.ofInt 1).toInt = 1 := by decide +kernel
  have kc5 : (Int32.ofInt 5).toInt = 5 := by decide +kernel
  have kc8 : (Int32.ofInt 8).toInt = 8 := by decide +kernel
  have kc10 : (Int32.ofInt 10).toInt = 10 := by decide +kernel
  intro m
  induction m with
  | zero =>
    intro k hk i hi a b n hn hn2
    have ek : k = 5 := by omega
    refine ex_iload cg_240 (ix := 16) (pc' := 26) rfl rfl rfl ?_
    refine ex_iconst cg_240 (ix := 17) (pc' := 27) rfl rfl ?_
    refine ex_icmp cg_240 (ix := 18) (t := 70) (pc' := 30) rfl rfl rfl (fun hb27 => ?_) (fun hb27 => ?_)
    · have hb27 : (Int32.ofInt 5).toInt ≤ i.toInt := hb27
      refine ex_iload cg_240 (ix := 42) (pc' := 72) rfl rfl rfl ?_
      refine ex_ireturn cg_240 (ix := 43) rfl ?_
      rw [ulR] at hn
      exact hP n (by omega)
    · have hb27 : ¬ ((Int32.ofInt 5).toInt ≤ i.toInt) := hb27
      exfalso; first | omega | exact absurd hb27 (by decide +kernel)
  | succ m ih =>
    intro k hk i hi a b n hn hn2
    have hik : i.toNatClampNeg = k := cx_clamp hi
    refine ex_iload cg_240 (ix := 16) (pc' := 26) rfl rfl rfl ?_
    refine ex_iconst cg_240 (ix := 17) (pc' := 27) rfl rfl ?_
    refine ex_icmp cg_240 (ix := 18) (t := 70) (pc' := 30) rfl rfl rfl (fun hb27 => ?_) (fun hb27 => ?_)
    · have hb27 : (Int32.ofInt 5).toInt ≤ i.toInt := hb27
      exfalso; first | omega | exact absurd hb27 (by decide +kernel)
    · have hb27 : ¬ ((Int32.ofInt 5).toInt ≤ i.toInt) := hb27
      refine ex_iload cg_240 (ix := 19) (pc' := 32) rfl rfl rfl ?_
      refine ex_iload_n cg_240 (ix := 20) (pc' := 33) rfl rfl rfl ?_
      refine ex_bipush cg_240 (ix := 21) (pc' := 35) rfl rfl rfl ?_
      refine ex_irem cg_240 (ix := 22) (pc' := 36) rfl (by decide +kernel) rfl ?_
      refine ex_iload cg_240 (ix := 23) (pc' := 38) rfl rfl rfl ?_
      refine ex_bipush cg_240 (ix := 24) (pc' := 40) rfl rfl rfl ?_
      refine ex_irem cg_240 (ix := 25) (pc' := 41) rfl (by decide +kernel) rfl ?_
      refine ex_icmp cg_240 (ix := 26) (t := 48) (pc' := 44) rfl rfl rfl (fun hb41 => ?_) (fun hb41 => ?_)
      · have hb41 : ¬ (a - a / (Int32.ofInt 10) * (Int32.ofInt 10)).toInt = (b - b / (Int32.ofInt 10) * (Int32.ofInt 10)).toInt := hb41
        refine ex_iconst cg_240 (ix := 29) (pc' := 49) rfl rfl ?_
        refine ex_iadd cg_240 (ix := 30) (pc' := 50) rfl rfl ?_
        refine ex_istore cg_240 (ix := 31) (pc' := 52) (L' := [some (.inr (.inl 119)), some (.inl (.int x)), some (.inl (.int y)), some (.inl (.int a)), some (.inl (.int b)), some (.inl (.int (n + (Int32.ofInt 1)))), some (.inl (.int i))]) rfl rfl rfl rfl ?_
        refine ex_iload_n cg_240 (ix := 32) (pc' := 53) rfl rfl rfl ?_
        refine ex_bipush cg_240 (ix := 33) (pc' := 55) rfl rfl rfl ?_
        refine ex_idiv cg_240 (ix := 34) (pc' := 56) rfl (by decide +kernel) rfl ?_
        refine ex_istore_n cg_240 (ix := 35) (pc' := 57) (L' := [some (.inr (.inl 119)), some (.inl (.int x)), some (.inl (.int y)), some (.inl (.int (a / (Int32.ofInt 10)))), some (.inl (.int b)), some (.inl (.int (n + (Int32.ofInt 1)))), some (.inl (.int i))]) rfl rfl rfl rfl ?_
        refine ex_iload cg_240 (ix := 36) (pc' := 59) rfl rfl rfl ?_
        refine ex_bipush cg_240 (ix := 37) (pc' := 61) rfl rfl rfl ?_
        refine ex_idiv cg_240 (ix := 38) (pc' := 62) rfl (by decide +kernel) rfl ?_
        refine ex_istore cg_240 (ix := 39) (pc' := 64) (L' := [some (.inr (.inl 119)), some (.inl (.int x)), some (.inl (.int y)), some (.inl (.int (a / (Int32.ofInt 10)))), some (.inl (.int (b / (Int32.ofInt 10)))), some (.inl (.int (n + (Int32.ofInt 1)))), some (.inl (.int i))]) rfl rfl rfl rfl ?_
        refine ex_iinc cg_240 (ix := 40) (pc' := 67) (L' := [some (.inr (.inl 119)), some (.inl (.int x)), some (.inl (.int y)), some (.inl (.int (a / (Int32.ofInt 10)))), some (.inl (.int (b / (Int32.ofInt 10)))), some (.inl (.int (n + (Int32.ofInt 1)))), some (.inl (.int (i + Int32.ofInt 1)))]) rfl rfl rfl rfl rfl ?_
        refine ex_goto cg_240 (ix := 41) (pc' := 24) rfl rfl ?_
        have e1 : (n + (Int32.ofInt 1)).toInt + ulR m (a / (Int32.ofInt 10)) (b / (Int32.ofInt 10)) = T := by
          rw [ulR] at hn
          rw [cx_addc (by omega) (by omega)]
          split at hn <;> omega
        exact ih (k + 1) (by omega) _ (by rw [cx_addc (by omega) (by omega)]; omega) _ _ _ e1 (by rw [cx_addc (by omega) (by omega)]; omega)
      · have hb41 : ¬ (¬ (a - a / (Int32.ofInt 10) * (Int32.ofInt 10)).toInt = (b - b / (Int32.ofInt 10) * (Int32.ofInt 10)).toInt) := hb41
        refine ex_iconst cg_240 (ix := 27) (pc' := 45) rfl rfl ?_
        refine ex_goto cg_240 (ix := 28) (pc' := 49) rfl rfl ?_
        refine ex_iadd cg_240 (ix := 30) (pc' := 50) rfl rfl ?_
        refine ex_istore cg_240 (ix := 31) (pc' := 52) (L' := [some (.inr (.inl 119)), some (.inl (.int x)), some (.inl (.int y)), some (.inl (.int a)), some (.inl (.int b)), some (.inl (.int (n + (Int32.ofInt 0)))), some (.inl (.int i))]) rfl rfl rfl rfl ?_
        refine ex_iload_n cg_240 (ix := 32) (pc' := 53) rfl rfl rfl ?_
        refine ex_bipush cg_240 (ix := 33) (pc' := 55) rfl rfl rfl ?_
        refine ex_idiv cg_240 (ix := 34) (pc' := 56) rfl (by decide +kernel) rfl ?_
        refine ex_istore_n cg_240 (ix := 35) (pc' := 57) (L' := [some (.inr (.inl 119)), some (.inl (.int x)), some (.inl (.int y)), some (.inl (.int (a / (Int32.ofInt 10)))), some (.inl (.int b)), some (.inl (.int (n + (Int32.ofInt 0)))), some (.inl (.int i))]) rfl rfl rfl rfl ?_
        refine ex_iload cg_240 (ix := 36) (pc' := 59) rfl rfl rfl ?_
        refine ex_bipush cg_240 (ix := 37) (pc' := 61) rfl rfl rfl ?_
        refine ex_idiv cg_240 (ix := 38) (pc' := 62) rfl (by decide +kernel) rfl ?_
        refine ex_istore cg_240 (ix := 39) (pc' := 64) (L' := [some (.inr (.inl 119)), some (.inl (.int x)), some (.inl (.int y)), some (.inl (.int (a / (Int32.ofInt 10)))), some (.inl (.int (b / (Int32.ofInt 10)))), some (.inl (.int (n + (Int32.ofInt 0)))), some (.inl (.int i))]) rfl rfl rfl rfl ?_
        refine ex_iinc cg_240 (ix := 40) (pc' := 67) (L' := [some (.inr (.inl 119)), some (.inl (.int x)), some (.inl (.int y)), some (.inl (.int (a / (Int32.ofInt 10)))), some (.inl (.int (b / (Int32.ofInt 10)))), some (.inl (.int (n + (Int32.ofInt 0)))), some (.inl (.int (i + Int32.ofInt 1)))]) rfl rfl rfl rfl rfl ?_
        refine ex_goto cg_240 (ix := 41) (pc' := 24) rfl rfl ?_
        have e1 : (n + (Int32.ofInt 0)).toInt + ulR m (a / (Int32.ofInt 10)) (b / (Int32.ofInt 10)) = T := by
          rw [ulR] at hn
          rw [cx_addc (by omega) (by omega)]
          split at hn <;> omega
        exact ih (k + 1) (by omega) _ (by rw [cx_addc (by omega) (by omega)]; omega) _ _ _ e1 (by rw [cx_addc (by omega) (by omega)]; omega)
theorem ct_mul0 {mi : Nat → Int32} {ml : Nat → Int64} {mk : Nat → Int32} {x y : Int32} {kx ky : Nat} (hx : x.toInt = (kx : Int)) (hx1 : kx < 8) (hy : y.toInt = (ky : Int)) (hy1 : ky < 8) : cx_Ct 2 240 [.inr (.inl 119), .inl (.int x), .inl (.int y)] ([(119, .inl (11, vs_119 mi ml)), (150, .inr (.inl (0, 16, mk)))]) (fun v h2 => ∃ n : Int32, v = some (.inl (.int n)) ∧ h2 = [(119, .inl (11, vs_119 mi ml)), (150, .inr (.inl (0, 16, mk)))] ∧ n.toInt = ulR 5 (mk kx) (mk (8 + ky))) := by
  have kc8 : (Int32.ofInt 8).toInt = 8 := by decide +kernel
  have kc0 : (Int32.ofInt 0).toInt = 0 := by decide +kernel
  have kc5 : (Int32.ofInt 5).toInt = 5 := by decide +kernel
  have kc10 : (Int32.ofInt 10).toInt = 10 := by decide +kernel
  have kc1 : (Int32.ofInt 1).toInt = 1 := by decide +kernel
  have hxk : x.toNatClampNeg = kx := cx_clamp hx
  have h8 : (Int32.ofInt 8 + y).toInt = ((8 + ky : Nat) : Int) := by rw [cx_addc (by omega) (by omega)]; omega
  have h8y : (Int32.ofInt 8 + y).toNatClampNeg = 8 + ky := cx_clamp h8
  refine cx_Ct.of cg_240 (nL := 7) rfl rfl rfl ?_
  show cx_T 2 240 [119, 150] 0 ([some (.inr (.inl 119)), some (.inl (.int x)), some (.inl (.int y)), none, none, none, none], [], [(119, .inl (11, vs_119 mi ml)), (150, .inr (.inl (0, 16, mk)))]) _
  refine ex_aload_n cg_240 (ix := 0) (pc' := 1) rfl rfl rfl ?_
  refine ex_getfield cg_240 (ix := 1) (pc' := 4) (v := .inr (.inl 150)) rfl rfl rfl rfl rfl ?_
  refine ex_iload_n cg_240 (ix := 2) (pc' := 5) rfl rfl rfl ?_
  refine ex_iaload cg_240 (ix := 3) (pc' := 6) rfl rfl (by omega) (by omega) rfl ?_
  refine ex_istore_n cg_240 (ix := 4) (pc' := 7) (L' := [some (.inr (.inl 119)), some (.inl (.int x)), some (.inl (.int y)), some (.inl (.int (mk x.toNatClampNeg))), none, none, none]) rfl rfl rfl rfl ?_
  refine ex_aload_n cg_240 (ix := 5) (pc' := 8) rfl rfl rfl ?_
  refine ex_getfield cg_240 (ix := 6) (pc' := 11) (v := .inr (.inl 150)) rfl rfl rfl rfl rfl ?_
  refine ex_bipush cg_240 (ix := 7) (pc' := 13) rfl rfl rfl ?_
  refine ex_iload_n cg_240 (ix := 8) (pc' := 14) rfl rfl rfl ?_
  refine ex_iadd cg_240 (ix := 9) (pc' := 15) rfl rfl ?_
  refine ex_iaload cg_240 (ix := 10) (pc' := 16) rfl rfl (by omega) (by omega) rfl ?_
  refine ex_istore cg_240 (ix := 11) (pc' := 18) (L' := [some (.inr (.inl 119)), some (.inl (.int x)), some (.inl (.int y)), some (.inl (.int (mk x.toNatClampNeg))), some (.inl (.int (mk ((Int32.ofInt 8) + y).toNatClampNeg))), none, none]) rfl rfl rfl rfl ?_
  refine ex_iconst cg_240 (ix := 12) (pc' := 19) rfl rfl ?_
  refine ex_istore cg_240 (ix := 13) (pc' := 21) (L' := [some (.inr (.inl 119)), some (.inl (.int x)), some (.inl (.int y)), some (.inl (.int (mk x.toNatClampNeg))), some (.inl (.int (mk ((Int32.ofInt 8) + y).toNatClampNeg))), some (.inl (.int (Int32.ofInt 0))), none]) rfl rfl rfl rfl ?_
  refine ex_iconst cg_240 (ix := 14) (pc' := 22) rfl rfl ?_
  refine ex_istore cg_240 (ix := 15) (pc' := 24) (L' := [some (.inr (.inl 119)), some (.inl (.int x)), some (.inl (.int y)), some (.inl (.int (mk x.toNatClampNeg))), some (.inl (.int (mk ((Int32.ofInt 8) + y).toNatClampNeg))), some (.inl (.int (Int32.ofInt 0))), some (.inl (.int (Int32.ofInt 0)))]) rfl rfl rfl rfl ?_
  rw [h8y, hxk]
  exact mu_loop (mi := mi) (ml := ml) (mk := mk) (x := x) (y := y) (T := ulR 5 (mk kx) (mk (8 + ky))) (P := fun v h2 => ∃ n : Int32, v = some (.inl (.int n)) ∧ h2 = [(119, .inl (11, vs_119 mi ml)), (150, .inr (.inl (0, 16, mk)))] ∧ n.toInt = ulR 5 (mk kx) (mk (8 + ky))) (fun n hn => ⟨n, rfl, rfl, hn⟩) 5 0 (by omega) (Int32.ofInt 0) (by decide +kernel) _ _ (Int32.ofInt 0) (by omega) (by omega)
theorem ct_mul {mi : Nat → Int32} {ml : Nat → Int64} {mk : Nat → Int32} {x y : Int32} {kx ky : Nat} (hx : x.toInt = (kx : Int)) (hx1 : kx < 8) (hy : y.toInt = (ky : Int)) (hy1 : ky < 8) : cx_Ct 2 240 [.inr (.inl 119), .inl (.int x), .inl (.int y)] ([(119, .inl (11, vs_119 mi ml)), (150, .inr (.inl (0, 16, mk)))]) (fun v h2 => ∃ n : Int32, v = some (.inl (.int n)) ∧ h2 = [(119, .inl (11, vs_119 mi ml)), (150, .inr (.inl (0, 16, mk)))] ∧ n.toInt = uN mk (fmO mk) kx ky) := by
  have h := ct_mul0 (mi := mi) (ml := ml) (mk := mk) hx hx1 hy hy1
  unfold uN
  rw [nz8_in hx1, nz8_in hy1]
  exact h
theorem ct_mwt {mi : Nat → Int32} {ml : Nat → Int64} {mk : Nat → Int32} {T : Nat → Int32} {x y sv : Int32} {kN fN SN FN : Nat} (hx : x.toInt = (kN : Int)) (hk8 : kN < 8) (hy : y.toInt = (fN : Int)) (hfF : fN < FN) (hF : FN ≤ 8) (hs : sv.toInt = (SN : Int)) (hS : SN < 2 ^ FN) (hTb : ∀ s : Nat, s < 2 ^ FN → 0 ≤ (T (256 * (kN + 1) + s)).toInt ∧ (T (256 * (kN + 1) + s)).toInt ≤ 900) : cx_Ct 3 241 [.inr (.inl 119), .inl (.int x), .inl (.int y), .inl (.int sv)] ([(119, .inl (11, vs_119 mi ml)), (150, .inr (.inl (0, 16, mk))), (151, .inr (.inl (0, 2304, T)))]) (fun v h2 => ∃ z : Int32, v = some (.inl (.int z)) ∧ h2 = [(119, .inl (11, vs_119 mi ml)), (150, .inr (.inl (0, 16, mk))), (151, .inr (.inl (0, 2304, T)))] ∧ z.toInt = (if stI SN fN = true ∨ 2 < uN mk (fmO mk) kN fN then -1 else 100 - uN mk (fmO mk) kN fN + (T (256 * (kN + 1) + stO SN fN)).toInt)) := by
  have kc1 : (Int32.ofInt 1).toInt = 1 := by decide +kernel
  have kc2 : (Int32.ofInt 2).toInt = 2 := by decide +kernel
  have kcm1 : (Int32.ofInt (-1)).toInt = -1 := by decide +kernel
  have kc100 : (Int32.ofInt 100).toInt = 100 := by decide +kernel
  have kc256 : (Int32.ofInt 256).toInt = 256 := by decide +kernel
  have hp2 := p2_le hF
  have hshr := bt_shr hs (by omega) hy (by omega)
  have hor := bt_or hs (by omega) hy (by omega)
  have hsl := stO_lt hF hS hfF
  have hb1 := hTb _ hsl
  have hub := uN_b (lm := mk) (fm := fmO mk) kN fN
  have hx1 : (x + Int32.ofInt 1).toInt = (kN : Int) + 1 := by rw [cx_addc (by omega) (by omega)]; omega
  have hml : (Int32.ofInt 256 * (x + Int32.ofInt 1)).toInt = 256 * (x + Int32.ofInt 1).toInt := cx_mulk (n := 256) (by decide +kernel) (by omega) (by omega)
  have hidx : ((Int32.ofInt 256 * (x + Int32.ofInt 1)) + (sv ||| (Int32.ofInt 1 <<< (y &&& 31)))).toInt = ((256 * (kN + 1) + stO SN fN : Nat) : Int) := by rw [cx_addc (by rw [hor]; omega) (by rw [hor]; omega), hor]; omega
  have hixn : ((Int32.ofInt 256 * (x + Int32.ofInt 1)) + (sv ||| (Int32.ofInt 1 <<< (y &&& 31)))).toNatClampNeg = 256 * (kN + 1) + stO SN fN := cx_clamp hidx
  refine cx_Ct.of cg_241 (nL := 4) rfl rfl rfl ?_
  show cx_T 3 241 [119, 150, 151] 0 ([some (.inr (.inl 119)), some (.inl (.int x)), some (.inl (.int y)), some (.inl (.int sv))], [], [(119, .inl (11, vs_119 mi ml)), (150, .inr (.inl (0, 16, mk))), (151, .inr (.inl (0, 2304, T)))]) _
  refine ex_iload_n cg_241 (ix := 0) (pc' := 1) rfl rfl rfl ?_
  refine ex_iload_n cg_241 (ix := 1) (pc' := 2) rfl rfl rfl ?_
  refine ex_ishr cg_241 (ix := 2) (pc' := 3) rfl rfl ?_
  refine ex_iconst cg_241 (ix := 3) (pc' := 4) rfl rfl ?_
  refine ex_iand cg_241 (ix := 4) (pc' := 5) rfl rfl ?_
  refine ex_iconst cg_241 (ix := 5) (pc' := 6) rfl rfl ?_
  refine ex_icmp cg_241 (ix := 6) (t := 19) (pc' := 9) rfl rfl rfl (fun hb6 => ?_) (fun hb6 => ?_)
  · have hb6 : ((sv >>> (y &&& 31)) &&& (Int32.ofInt 1)).toInt = (Int32.ofInt 1).toInt := hb6
    refine ex_iconst cg_241 (ix := 13) (pc' := 20) rfl rfl ?_
    refine ex_goto cg_241 (ix := 14) (pc' := 51) rfl rfl ?_
    refine ex_ireturn cg_241 (ix := 36) rfl ?_
    refine ⟨_, rfl, rfl, ?_⟩
    rw [if_pos (by first | exact Or.inl (hshr.mp hb6) | exact Or.inr (by omega))]
    decide +kernel
  · have hb6 : ¬ (((sv >>> (y &&& 31)) &&& (Int32.ofInt 1)).toInt = (Int32.ofInt 1).toInt) := hb6
    refine ex_aload_n cg_241 (ix := 7) (pc' := 10) rfl rfl rfl ?_
    refine ex_iload_n cg_241 (ix := 8) (pc' := 11) rfl rfl rfl ?_
    refine ex_iload_n cg_241 (ix := 9) (pc' := 12) rfl rfl rfl ?_
    refine ex_callV cg_241 (ix := 10) (pc' := 15) (As := [.inl (.int x), .inl (.int y)]) (r := []) rfl rfl rfl (ct_mul (mi := mi) (ml := ml) (mk := mk) (x := x) (y := y) (kx := kN) (ky := fN) hx (by omega) hy (by omega)) (by first | decide | omega) rfl rfl rfl ⟨rfl, rfl, trivial⟩ rfl rfl (fun v h2 hq => ?_)
    obtain ⟨un1, rfl, rfl, hun1⟩ := hq
    have hun1b := uN_b (lm := mk) (fm := fmO mk) kN fN
    show cx_T _ 241 _ 15 ([some (.inr (.inl 119)), some (.inl (.int x)), some (.inl (.int y)), some (.inl (.int sv))], [.inl (.int un1)], [(119, .inl (11, vs_119 mi ml)), (150, .inr (.inl (0, 16, mk))), (151, .inr (.inl (0, 2304, T)))]) _
    refine ex_iconst cg_241 (ix := 11) (pc' := 16) rfl rfl ?_
    refine ex_icmp cg_241 (ix := 12) (t := 23) (pc' := 19) rfl rfl rfl (fun hb16 => ?_) (fun hb16 => ?_)
    · have hb16 : un1.toInt ≤ (Int32.ofInt 2).toInt := hb16
      refine ex_bipush cg_241 (ix := 15) (pc' := 25) rfl rfl rfl ?_
      refine ex_aload_n cg_241 (ix := 16) (pc' := 26) rfl rfl rfl ?_
      refine ex_iload_n cg_241 (ix := 17) (pc' := 27) rfl rfl rfl ?_
      refine ex_iload_n cg_241 (ix := 18) (pc' := 28) rfl rfl rfl ?_
      refine ex_callV cg_241 (ix := 19) (pc' := 31) (As := [.inl (.int x), .inl (.int y)]) (r := [.inl (.int (Int32.ofInt 100))]) rfl rfl rfl (ct_mul (mi := mi) (ml := ml) (mk := mk) (x := x) (y := y) (kx := kN) (ky := fN) hx (by omega) hy (by omega)) (by first | decide | omega) rfl rfl rfl ⟨rfl, rfl, trivial⟩ rfl rfl (fun v h2 hq => ?_)
      obtain ⟨un2, rfl, rfl, hun2⟩ := hq
      have hun2b := uN_b (lm := mk) (fm := fmO mk) kN fN
      show cx_T _ 241 _ 31 ([some (.inr (.inl 119)), some (.inl (.int x)), some (.inl (.int y)), some (.inl (.int sv))], [.inl (.int un2), .inl (.int (Int32.ofInt 100))], [(119, .inl (11, vs_119 mi ml)), (150, .inr (.inl (0, 16, mk))), (151, .inr (.inl (0, 2304, T)))]) _
      refine ex_isub cg_241 (ix := 20) (pc' := 32) rfl rfl ?_
      refine ex_aload_n cg_241 (ix := 21) (pc' := 33) rfl rfl rfl ?_
      refine ex_getfield cg_241 (ix := 22) (pc' := 36) (v := .inr (.inl 151)) rfl rfl rfl rfl rfl ?_
      refine ex_sipush cg_241 (ix := 23) (pc' := 39) rfl rfl rfl ?_
      refine ex_iload_n cg_241 (ix := 24) (pc' := 40) rfl rfl rfl ?_
      refine ex_iconst cg_241 (ix := 25) (pc' := 41) rfl rfl ?_
      refine ex_iadd cg_241 (ix := 26) (pc' := 42) rfl rfl ?_
      refine ex_imul cg_241 (ix := 27) (pc' := 43) rfl rfl ?_
      refine ex_iload_n cg_241 (ix := 28) (pc' := 44) rfl rfl rfl ?_
      refine ex_iconst cg_241 (ix := 29) (pc' := 45) rfl rfl ?_
      refine ex_iload_n cg_241 (ix := 30) (pc' := 46) rfl rfl rfl ?_
      refine ex_ishl cg_241 (ix := 31) (pc' := 47) rfl rfl ?_
      refine ex_ior cg_241 (ix := 32) (pc' := 48) rfl rfl ?_
      refine ex_iadd cg_241 (ix := 33) (pc' := 49) rfl rfl ?_
      refine ex_iaload cg_241 (ix := 34) (pc' := 50) rfl rfl (by rw [hidx]; omega) (by rw [hidx]; omega) rfl ?_
      refine ex_iadd cg_241 (ix := 35) (pc' := 51) rfl rfl ?_
      refine ex_ireturn cg_241 (ix := 36) rfl ?_
      refine ⟨_, rfl, rfl, ?_⟩
      rw [if_neg (fun q => by rcases q with q | q; exact hb6 (hshr.mpr q); omega), hixn, cx_addc (by rw [cx_subc (by omega) (by omega)]; omega) (by rw [cx_subc (by omega) (by omega)]; omega), cx_subc (by omega) (by omega)]
      omega
    · have hb16 : ¬ (un1.toInt ≤ (Int32.ofInt 2).toInt) := hb16
      refine ex_iconst cg_241 (ix := 13) (pc' := 20) rfl rfl ?_
      refine ex_goto cg_241 (ix := 14) (pc' := 51) rfl rfl ?_
      refine ex_ireturn cg_241 (ix := 36) rfl ?_
      refine ⟨_, rfl, rfl, ?_⟩
      rw [if_pos (by first | exact Or.inl (hshr.mp hb6) | exact Or.inr (by omega))]
      decide +kernel
def tMd (mk : Nat → Int32) (LN FN : Nat) (T : Nat → Int32) (m : Nat) : Prop := ∀ j s : Nat, m ≤ j → j ≤ LN → s < 2 ^ FN → (T (256 * j + s)).toInt = jW 100 (uN mk (fmO mk)) FN LN (LN - j) s
theorem tMd_b {mk : Nat → Int32} {LN FN m : Nat} {T : Nat → Int32} (hL : LN ≤ 8) (h : tMd mk LN FN T m) {j s : Nat} (h1 : m ≤ j) (h2 : j ≤ LN) (h3 : s < 2 ^ FN) : 0 ≤ (T (256 * j + s)).toInt ∧ (T (256 * j + s)).toInt ≤ 800 := by
  rw [h j s h1 h2 h3]
  have := jW_b (c := 100) (u := uN mk (fmO mk)) (F := FN) (L := LN) (by omega) (fun k f => (uN_b k f).1) (LN - j) s
  omega
def JB (jt : Nat → Int32) : Prop := ∀ x : Nat, x < 8 → -9 ≤ (jt x).toInt ∧ (jt x).toInt ≤ 7
theorem fj_a {mi : Nat → Int32} {ml : Nat → Int64} {mk ch : Nat → Int32} {LN FN : Nat} {jt : Nat → Int32} {P : Option cx_V → cx_H → Prop} (hc0 : (ch 0).toInt = (LN : Int)) (hL : LN ≤ 8) (hc1 : (ch 1).toInt = (FN : Int)) (hF : FN ≤ 8) (hP : ∀ (T : Nat → Int32) (i : Int32) (A B C D : Option cx_V), (∀ s : Nat, s < 256 → (T (256 * LN + s)).toInt = 0) → cx_T 4 242 [119, 149, 150, 151, 152] 35 ([some (.inr (.inl 119)), some (.inl (.int (ch (Int32.ofInt 0).toNatClampNeg))), some (.inl (.int i)), A, B, C, D], [], [(119, .inl (11, vs_119 (upi mi 0 (Int32.ofInt 0)) ml)), (149, .inr (.inl (0, 2, ch))), (150, .inr (.inl (0, 16, mk))), (151, .inr (.inl (0, 2304, T))), (152, .inr (.inl (0, 8, jt)))]) P) :
    ∀ (m k : Nat), k + m = 256 → ∀ i : Int32, i.toInt = (k : Int) → ∀ (T : Nat → Int32) (A B C D : Option cx_V), (∀ s : Nat, s < k → (T (256 * LN + s)).toInt = 0) → cx_T 4 242 [119, 149, 150, 151, 152] 9 ([some (.inr (.inl 119)), some (.inl (.int (ch (Int32.ofInt 0).toNatClampNeg))), some (.inl (.int i)), A, B, C, D], [], [(119, .inl (11, vs_119 (upi mi 0 (Int32.ofInt 0)) ml)), (149, .inr (.inl (0, 2, ch))), (150, .inr (.inl (0, 16, mk))), (151, .inr (.inl (0, 2304, T))), (152, .inr (.inl (0, 8, jt)))]) P := by
  have kcm9 : (Int32.ofInt (-9)).toInt = -9 := by decide +kernel
  have kcm1 : (Int32.ofInt (-1)).toInt = -1 := by decide +kernel
  have kc0 : (Int32.ofInt 0).toInt = 0 := by decide +kernel
  have kc1 : (Int32.ofInt 1).toInt = 1 := by decide +kernel
  have kc256 : (Int32.ofInt 256).toInt = 256 := by decide +kernel
  intro m
  induction m with
  | zero =>
    intro k hk i hi T A B C D hT
    have ek : k = 256 := by omega
    refine ex_iload_n cg_242 (ix := 7) (pc' := 10) rfl rfl rfl ?_
    refine ex_sipush cg_242 (ix := 8) (pc' := 13) rfl rfl rfl ?_
    refine ex_icmp cg_242 (ix := 9) (t := 35) (pc' := 16) rfl rfl rfl (fun hb13 => ?_) (fun hb13 => ?_)
    · have hb13 : (Int32.ofInt 256).toInt ≤ i.toInt := hb13
      rw [ek] at hT
      exact hP T i A B C D hT
    · have hb13 : ¬ ((Int32.ofInt 256).toInt ≤ i.toInt) := hb13
      exfalso; first | omega | exact absurd hb13 (by decide +kernel)
  | succ m ih =>
    intro k hk i hi T A B C D hT
    have hik : i.toNatClampNeg = k := cx_clamp hi
    have i0 : (Int32.ofInt 0).toNatClampNeg = 0 := by decide +kernel
    have i1 : (Int32.ofInt 1).toNatClampNeg = 1 := by decide +kernel
    have e00 : (ch (Int32.ofInt 0).toNatClampNeg).toInt = (LN : Int) := by rw [i0]; exact hc0
    have e11 : (ch (Int32.ofInt 1).toNatClampNeg).toInt = (FN : Int) := by rw [i1]; exact hc1
    have hp2 := p2_le hF
    have hm : (Int32.ofInt 256 * (ch (Int32.ofInt 0).toNatClampNeg)).toInt = 256 * (LN : Int) := by rw [cx_mulk (n := 256) (by decide +kernel) (by omega) (by omega), e00]
    have hin0 : (Int32.ofInt 256 * (ch (Int32.ofInt 0).toNatClampNeg) + i).toInt = ((256 * LN + k : Nat) : Int) := by rw [cx_addc (by omega) (by omega)]; omega
    have hin : (Int32.ofInt 256 * (ch (Int32.ofInt 0).toNatClampNeg) + i).toNatClampNeg = 256 * LN + k := cx_clamp hin0
    refine ex_iload_n cg_242 (ix := 7) (pc' := 10) rfl rfl rfl ?_
    refine ex_sipush cg_242 (ix := 8) (pc' := 13) rfl rfl rfl ?_
    refine ex_icmp cg_242 (ix := 9) (t := 35) (pc' := 16) rfl rfl rfl (fun hb13 => ?_) (fun hb13 => ?_)
    · have hb13 : (Int32.ofInt 256).toInt ≤ i.toInt := hb13
      exfalso; first | omega | exact absurd hb13 (by decide +kernel)
    · have hb13 : ¬ ((Int32.ofInt 256).toInt ≤ i.toInt) := hb13
      refine ex_aload_n cg_242 (ix := 10) (pc' := 17) rfl rfl rfl ?_
      refine ex_getfield cg_242 (ix := 11) (pc' := 20) (v := .inr (.inl 151)) rfl rfl rfl rfl rfl ?_
      refine ex_sipush cg_242 (ix := 12) (pc' := 23) rfl rfl rfl ?_
      refine ex_iload_n cg_242 (ix := 13) (pc' := 24) rfl rfl rfl ?_
      refine ex_imul cg_242 (ix := 14) (pc' := 25) rfl rfl ?_
      refine ex_iload_n cg_242 (ix := 15) (pc' := 26) rfl rfl rfl ?_
      refine ex_iadd cg_242 (ix := 16) (pc' := 27) rfl rfl ?_
      refine ex_iconst cg_242 (ix := 17) (pc' := 28) rfl rfl ?_
      refine ex_iastore cg_242 (ix := 18) (pc' := 29) (h' := [(119, .inl (11, vs_119 (upi mi 0 (Int32.ofInt 0)) ml)), (149, .inr (.inl (0, 2, ch))), (150, .inr (.inl (0, 16, mk))), (151, .inr (.inl (0, 2304, upd T (((Int32.ofInt 256) * (ch (Int32.ofInt 0).toNatClampNeg)) + i).toNatClampNeg (Int32.ofInt 0)))), (152, .inr (.inl (0, 8, jt)))]) rfl rfl (by omega) (by omega) rfl rfl ?_
      refine ex_iinc cg_242 (ix := 19) (pc' := 32) (L' := [some (.inr (.inl 119)), some (.inl (.int (ch (Int32.ofInt 0).toNatClampNeg))), some (.inl (.int (i + Int32.ofInt 1))), A, B, C, D]) rfl rfl rfl rfl rfl ?_
      refine ex_goto cg_242 (ix := 20) (pc' := 9) rfl rfl ?_
      exact ih (k + 1) (by omega) _ (by rw [cx_addc (by omega) (by omega)]; omega) _ _ _ _ _ (fun s hs => by
        rw [hin]
        unfold upd
        by_cases q : s = k
        · rw [if_pos (by omega)]; decide +kernel
        · rw [if_neg (by omega)]; exact hT s (by omega))
theorem fj_d {mi : Nat → Int32} {ml : Nat → Int64} {mk ch : Nat → Int32} {LN FN : Nat} {T jt : Nat → Int32} {l sv : Int32} {lN SN : Nat} {P : Option cx_V → cx_H → Prop} (hc0 : (ch 0).toInt = (LN : Int)) (hL : LN ≤ 8) (hc1 : (ch 1).toInt = (FN : Int)) (hF : FN ≤ 8) (hl : l.toInt = (lN : Int)) (hlL : lN < LN) (hs : sv.toInt = (SN : Int)) (hS : SN < 2 ^ FN) (hT : tMd mk LN FN T (lN + 1)) (hP : ∀ (b i : Int32) (A : Option cx_V), b.toInt = jF 100 (uN mk (fmO mk) lN) (jW 100 (uN mk (fmO mk)) FN LN (LN - (lN + 1))) SN FN → cx_T 4 242 [119, 149, 150, 151, 152] 119 ([some (.inr (.inl 119)), some (.inl (.int (ch (Int32.ofInt 0).toNatClampNeg))), some (.inl (.int l)), some (.inl (.int sv)), some (.inl (.int b)), some (.inl (.int i)), A], [], [(119, .inl (11, vs_119 (upi mi 0 (Int32.ofInt 0)) ml)), (149, .inr (.inl (0, 2, ch))), (150, .inr (.inl (0, 16, mk))), (151, .inr (.inl (0, 2304, T))), (152, .inr (.inl (0, 8, jt)))]) P) :
    ∀ (m k : Nat), k + m = FN → ∀ i : Int32, i.toInt = (k : Int) → ∀ (b : Int32) (A : Option cx_V), b.toInt = jF 100 (uN mk (fmO mk) lN) (jW 100 (uN mk (fmO mk)) FN LN (LN - (lN + 1))) SN k → cx_T 4 242 [119, 149, 150, 151, 152] 76 ([some (.inr (.inl 119)), some (.inl (.int (ch (Int32.ofInt 0).toNatClampNeg))), some (.inl (.int l)), some (.inl (.int sv)), some (.inl (.int b)), some (.inl (.int i)), A], [], [(119, .inl (11, vs_119 (upi mi 0 (Int32.ofInt 0)) ml)), (149, .inr (.inl (0, 2, ch))), (150, .inr (.inl (0, 16, mk))), (151, .inr (.inl (0, 2304, T))), (152, .inr (.inl (0, 8, jt)))]) P := by
  have kcm9 : (Int32.ofInt (-9)).toInt = -9 := by decide +kernel
  have kcm1 : (Int32.ofInt (-1)).toInt = -1 := by decide +kernel
  have kc0 : (Int32.ofInt 0).toInt = 0 := by decide +kernel
  have kc1 : (Int32.ofInt 1).toInt = 1 := by decide +kernel
  have kc256 : (Int32.ofInt 256).toInt = 256 := by decide +kernel
  intro m
  induction m with
  | zero =>
    intro k hk i hi b A hb
    have ek : k = FN := by omega
    have i0 : (Int32.ofInt 0).toNatClampNeg = 0 := by decide +kernel
    have i1 : (Int32.ofInt 1).toNatClampNeg = 1 := by decide +kernel
    have e00 : (ch (Int32.ofInt 0).toNatClampNeg).toInt = (LN : Int) := by rw [i0]; exact hc0
    have e11 : (ch (Int32.ofInt 1).toNatClampNeg).toInt = (FN : Int) := by rw [i1]; exact hc1
    have hp2 := p2_le hF
    refine ex_iload cg_242 (ix := 50) (pc' := 78) rfl rfl rfl ?_
    refine ex_aload_n cg_242 (ix := 51) (pc' := 79) rfl rfl rfl ?_
    refine ex_getfield cg_242 (ix := 52) (pc' := 82) (v := .inr (.inl 149)) rfl rfl rfl rfl rfl ?_
    refine ex_iconst cg_242 (ix := 53) (pc' := 83) rfl rfl ?_
    refine ex_iaload cg_242 (ix := 54) (pc' := 84) rfl rfl (by omega) (by omega) rfl ?_
    refine ex_icmp cg_242 (ix := 55) (t := 119) (pc' := 87) rfl rfl rfl (fun hb84 => ?_) (fun hb84 => ?_)
    · have hb84 : (ch (Int32.ofInt 1).toNatClampNeg).toInt ≤ i.toInt := hb84
      rw [ek] at hb
      exact hP b i A hb
    · have hb84 : ¬ ((ch (Int32.ofInt 1).toNatClampNeg).toInt ≤ i.toInt) := hb84
      exfalso; first | omega | exact absurd hb84 (by decide +kernel)
  | succ m ih =>
    intro k hk i hi b A hb
    have hik : i.toNatClampNeg = k := cx_clamp hi
    have i0 : (Int32.ofInt 0).toNatClampNeg = 0 := by decide +kernel
    have i1 : (Int32.ofInt 1).toNatClampNeg = 1 := by decide +kernel
    have e00 : (ch (Int32.ofInt 0).toNatClampNeg).toInt = (LN : Int) := by rw [i0]; exact hc0
    have e11 : (ch (Int32.ofInt 1).toNatClampNeg).toInt = (FN : Int) := by rw [i1]; exact hc1
    have hp2 := p2_le hF
    have hTb : ∀ s : Nat, s < 2 ^ FN → 0 ≤ (T (256 * (lN + 1) + s)).toInt ∧ (T (256 * (lN + 1) + s)).toInt ≤ 900 := fun s hs => by
      have := tMd_b hL hT (Nat.le_refl _) (by omega) hs
      omega
    have hjb := jF_b (c := 100) (B := 800) (u := uN mk (fmO mk) lN) (nx := jW 100 (uN mk (fmO mk)) FN LN (LN - (lN + 1))) (by omega) (fun f => (uN_b lN f).1) (fun S => by have := jW_b (c := 100) (u := uN mk (fmO mk)) (F := FN) (L := LN) (by omega) (fun k f => (uN_b k f).1) (LN - (lN + 1)) S; omega) SN k
    refine ex_iload cg_242 (ix := 50) (pc' := 78) rfl rfl rfl ?_
    refine ex_aload_n cg_242 (ix := 51) (pc' := 79) rfl rfl rfl ?_
    refine ex_getfield cg_242 (ix := 52) (pc' := 82) (v := .inr (.inl 149)) rfl rfl rfl rfl rfl ?_
    refine ex_iconst cg_242 (ix := 53) (pc' := 83) rfl rfl ?_
    refine ex_iaload cg_242 (ix := 54) (pc' := 84) rfl rfl (by omega) (by omega) rfl ?_
    refine ex_icmp cg_242 (ix := 55) (t := 119) (pc' := 87) rfl rfl rfl (fun hb84 => ?_) (fun hb84 => ?_)
    · have hb84 : (ch (Int32.ofInt 1).toNatClampNeg).toInt ≤ i.toInt := hb84
      exfalso; first | omega | exact absurd hb84 (by decide +kernel)
    · have hb84 : ¬ ((ch (Int32.ofInt 1).toNatClampNeg).toInt ≤ i.toInt) := hb84
      refine ex_aload_n cg_242 (ix := 56) (pc' := 88) rfl rfl rfl ?_
      refine ex_iload_n cg_242 (ix := 57) (pc' := 89) rfl rfl rfl ?_
      refine ex_iload cg_242 (ix := 58) (pc' := 91) rfl rfl rfl ?_
      refine ex_iload_n cg_242 (ix := 59) (pc' := 92) rfl rfl rfl ?_
      refine ex_callV cg_242 (ix := 60) (pc' := 95) (As := [.inl (.int l), .inl (.int i), .inl (.int sv)]) (r := []) rfl rfl rfl (ct_mwt (mi := (upi mi 0 (Int32.ofInt 0))) (ml := ml) (mk := mk) (T := T) (x := l) (y := i) (sv := sv) (kN := lN) (fN := k) (SN := SN) (FN := FN) hl (by omega) hi (by omega) hF hs hS hTb) (by first | decide | omega) rfl rfl rfl ⟨rfl, rfl, rfl, trivial⟩ rfl rfl (fun v h2 hq => ?_)
      obtain ⟨z, rfl, rfl, hz⟩ := hq
      show cx_T _ 242 _ 95 ([some (.inr (.inl 119)), some (.inl (.int (ch (Int32.ofInt 0).toNatClampNeg))), some (.inl (.int l)), some (.inl (.int sv)), some (.inl (.int b)), some (.inl (.int i)), A], [.inl (.int z)], [(119, .inl (11, vs_119 (upi mi 0 (Int32.ofInt 0)) ml)), (149, .inr (.inl (0, 2, ch))), (150, .inr (.inl (0, 16, mk))), (151, .inr (.inl (0, 2304, T))), (152, .inr (.inl (0, 8, jt)))]) _
      refine ex_istore cg_242 (ix := 61) (pc' := 97) (L' := [some (.inr (.inl 119)), some (.inl (.int (ch (Int32.ofInt 0).toNatClampNeg))), some (.inl (.int l)), some (.inl (.int sv)), some (.inl (.int b)), some (.inl (.int i)), some (.inl (.int z))]) rfl rfl rfl rfl ?_
      refine ex_iload cg_242 (ix := 62) (pc' := 99) rfl rfl rfl ?_
      refine ex_iload cg_242 (ix := 63) (pc' := 101) rfl rfl rfl ?_
      refine ex_icmp cg_242 (ix := 64) (t := 109) (pc' := 104) rfl rfl rfl (fun hb101 => ?_) (fun hb101 => ?_)
      · have hb101 : z.toInt ≤ b.toInt := hb101
        refine ex_iload cg_242 (ix := 67) (pc' := 111) rfl rfl rfl ?_
        refine ex_istore cg_242 (ix := 68) (pc' := 113) (L' := [some (.inr (.inl 119)), some (.inl (.int (ch (Int32.ofInt 0).toNatClampNeg))), some (.inl (.int l)), some (.inl (.int sv)), some (.inl (.int b)), some (.inl (.int i)), some (.inl (.int z))]) rfl rfl rfl rfl ?_
        refine ex_iinc cg_242 (ix := 69) (pc' := 116) (L' := [some (.inr (.inl 119)), some (.inl (.int (ch (Int32.ofInt 0).toNatClampNeg))), some (.inl (.int l)), some (.inl (.int sv)), some (.inl (.int b)), some (.inl (.int (i + Int32.ofInt 1))), some (.inl (.int z))]) rfl rfl rfl rfl rfl ?_
        refine ex_goto cg_242 (ix := 70) (pc' := 76) rfl rfl ?_
        have h9 : (b).toInt = jF 100 (uN mk (fmO mk) lN) (jW 100 (uN mk (fmO mk)) FN LN (LN - (lN + 1))) SN (k + 1) := by
          rw [jF]
          split at hz
          · rename_i q
            rw [if_neg (fun c => by
              have c2 := c.2.1
              rcases q with q | q <;> first | (rw [c.1] at q; cases q) | omega)]
            omega
          · rename_i q
            rw [hT (lN + 1) (stO SN k) (Nat.le_refl _) (by omega) (stO_lt hF hS (by omega))] at hz
            have q1 : stI SN k = false := by
              cases hq : stI SN k with
              | false => rfl
              | true => exact absurd (Or.inl hq) q
            have q2 : uN mk (fmO mk) lN k ≤ 2 := by
              by_cases c : uN mk (fmO mk) lN k ≤ 2
              · exact c
              · exact absurd (Or.inr (by omega)) q
            rw [if_neg (fun c => by have c3 := c.2.2; omega)]; omega
        exact ih (k + 1) (by omega) _ (by rw [cx_addc (by omega) (by omega)]; omega) _ _ h9
      · have hb101 : ¬ (z.toInt ≤ b.toInt) := hb101
        refine ex_iload cg_242 (ix := 65) (pc' := 106) rfl rfl rfl ?_
        refine ex_goto cg_242 (ix := 66) (pc' := 111) rfl rfl ?_
        refine ex_istore cg_242 (ix := 68) (pc' := 113) (L' := [some (.inr (.inl 119)), some (.inl (.int (ch (Int32.ofInt 0).toNatClampNeg))), some (.inl (.int l)), some (.inl (.int sv)), some (.inl (.int z)), some (.inl (.int i)), some (.inl (.int z))]) rfl rfl rfl rfl ?_
        refine ex_iinc cg_242 (ix := 69) (pc' := 116) (L' := [some (.inr (.inl 119)), some (.inl (.int (ch (Int32.ofInt 0).toNatClampNeg))), some (.inl (.int l)), some (.inl (.int sv)), some (.inl (.int z)), some (.inl (.int (i + Int32.ofInt 1))), some (.inl (.int z))]) rfl rfl rfl rfl rfl ?_
        refine ex_goto cg_242 (ix := 70) (pc' := 76) rfl rfl ?_
        have h9 : (z).toInt = jF 100 (uN mk (fmO mk) lN) (jW 100 (uN mk (fmO mk)) FN LN (LN - (lN + 1))) SN (k + 1) := by
          rw [jF]
          split at hz
          · rename_i q
            rw [if_neg (fun c => by
              have c2 := c.2.1
              rcases q with q | q <;> first | (rw [c.1] at q; cases q) | omega)]
            omega
          · rename_i q
            rw [hT (lN + 1) (stO SN k) (Nat.le_refl _) (by omega) (stO_lt hF hS (by omega))] at hz
            have q1 : stI SN k = false := by
              cases hq : stI SN k with
              | false => rfl
              | true => exact absurd (Or.inl hq) q
            have q2 : uN mk (fmO mk) lN k ≤ 2 := by
              by_cases c : uN mk (fmO mk) lN k ≤ 2
              · exact c
              · exact absurd (Or.inr (by omega)) q
            rw [if_pos ⟨q1, q2, by omega⟩]; omega
        exact ih (k + 1) (by omega) _ (by rw [cx_addc (by omega) (by omega)]; omega) _ _ h9
theorem fj_c {mi : Nat → Int32} {ml : Nat → Int64} {mk ch : Nat → Int32} {LN FN : Nat} {jt : Nat → Int32} {l : Int32} {lN : Nat} {P : Option cx_V → cx_H → Prop} (hc0 : (ch 0).toInt = (LN : Int)) (hL : LN ≤ 8) (hc1 : (ch 1).toInt = (FN : Int)) (hF : FN ≤ 8) (hl : l.toInt = (lN : Int)) (hlL : lN < LN) (hP : ∀ (T : Nat → Int32) (i : Int32) (A B C : Option cx_V), tMd mk LN FN T lN → cx_T 4 242 [119, 149, 150, 151, 152] 139 ([some (.inr (.inl 119)), some (.inl (.int (ch (Int32.ofInt 0).toNatClampNeg))), some (.inl (.int l)), some (.inl (.int i)), A, B, C], [], [(119, .inl (11, vs_119 (upi mi 0 (Int32.ofInt 0)) ml)), (149, .inr (.inl (0, 2, ch))), (150, .inr (.inl (0, 16, mk))), (151, .inr (.inl (0, 2304, T))), (152, .inr (.inl (0, 8, jt)))]) P) :
    ∀ (m k : Nat), k + m = 2 ^ FN → ∀ i : Int32, i.toInt = (k : Int) → ∀ (T : Nat → Int32) (A B C : Option cx_V), tMd mk LN FN T (lN + 1) → (∀ s : Nat, s < k → (T (256 * lN + s)).toInt = jW 100 (uN mk (fmO mk)) FN LN (LN - lN) s) → cx_T 4 242 [119, 149, 150, 151, 152] 45 ([some (.inr (.inl 119)), some (.inl (.int (ch (Int32.ofInt 0).toNatClampNeg))), some (.inl (.int l)), some (.inl (.int i)), A, B, C], [], [(119, .inl (11, vs_119 (upi mi 0 (Int32.ofInt 0)) ml)), (149, .inr (.inl (0, 2, ch))), (150, .inr (.inl (0, 16, mk))), (151, .inr (.inl (0, 2304, T))), (152, .inr (.inl (0, 8, jt)))]) P := by
  have kcm9 : (Int32.ofInt (-9)).toInt = -9 := by decide +kernel
  have kcm1 : (Int32.ofInt (-1)).toInt = -1 := by decide +kernel
  have kc0 : (Int32.ofInt 0).toInt = 0 := by decide +kernel
  have kc1 : (Int32.ofInt 1).toInt = 1 := by decide +kernel
  have kc256 : (Int32.ofInt 256).toInt = 256 := by decide +kernel
  intro m
  induction m with
  | zero =>
    intro k hk i hi T A B C hT hU
    have ek : k = 2 ^ FN := by omega
    have i0 : (Int32.ofInt 0).toNatClampNeg = 0 := by decide +kernel
    have i1 : (Int32.ofInt 1).toNatClampNeg = 1 := by decide +kernel
    have e00 : (ch (Int32.ofInt 0).toNatClampNeg).toInt = (LN : Int) := by rw [i0]; exact hc0
    have e11 : (ch (Int32.ofInt 1).toNatClampNeg).toInt = (FN : Int) := by rw [i1]; exact hc1
    have hp2 := p2_le hF
    have hone : (Int32.ofInt 1 <<< ((ch (Int32.ofInt 1).toNatClampNeg) &&& 31)).toInt = ((2 ^ FN : Nat) : Int) := bt_one e11 (by omega)
    refine ex_iload_n cg_242 (ix := 29) (pc' := 46) rfl rfl rfl ?_
    refine ex_iconst cg_242 (ix := 30) (pc' := 47) rfl rfl ?_
    refine ex_aload_n cg_242 (ix := 31) (pc' := 48) rfl rfl rfl ?_
    refine ex_getfield cg_242 (ix := 32) (pc' := 51) (v := .inr (.inl 149)) rfl rfl rfl rfl rfl ?_
    refine ex_iconst cg_242 (ix := 33) (pc' := 52) rfl rfl ?_
    refine ex_iaload cg_242 (ix := 34) (pc' := 53) rfl rfl (by omega) (by omega) rfl ?_
    refine ex_ishl cg_242 (ix := 35) (pc' := 54) rfl rfl ?_
    refine ex_icmp cg_242 (ix := 36) (t := 139) (pc' := 57) rfl rfl rfl (fun hb54 => ?_) (fun hb54 => ?_)
    · have hb54 : ((Int32.ofInt 1) <<< ((ch (Int32.ofInt 1).toNatClampNeg) &&& 31)).toInt ≤ i.toInt := hb54
      rw [ek] at hU
      exact hP T i A B C (fun j s h1 h2 h3 => by
        by_cases q : j = lN
        · rw [q]; exact hU s h3
        · exact hT j s (by omega) h2 h3)
    · have hb54 : ¬ (((Int32.ofInt 1) <<< ((ch (Int32.ofInt 1).toNatClampNeg) &&& 31)).toInt ≤ i.toInt) := hb54
      exfalso; first | omega | exact absurd hb54 (by decide +kernel)
  | succ m ih =>
    intro k hk i hi T A B C hT hU
    have hik : i.toNatClampNeg = k := cx_clamp hi
    have i0 : (Int32.ofInt 0).toNatClampNeg = 0 := by decide +kernel
    have i1 : (Int32.ofInt 1).toNatClampNeg = 1 := by decide +kernel
    have e00 : (ch (Int32.ofInt 0).toNatClampNeg).toInt = (LN : Int) := by rw [i0]; exact hc0
    have e11 : (ch (Int32.ofInt 1).toNatClampNeg).toInt = (FN : Int) := by rw [i1]; exact hc1
    have hp2 := p2_le hF
    have hm : (Int32.ofInt 256 * l).toInt = 256 * (lN : Int) := by rw [cx_mulk (n := 256) (by decide +kernel) (by omega) (by omega), hl]
    have hin0 : (Int32.ofInt 256 * l + i).toInt = ((256 * lN + k : Nat) : Int) := by rw [cx_addc (by omega) (by omega)]; omega
    have hin : (Int32.ofInt 256 * l + i).toNatClampNeg = 256 * lN + k := cx_clamp hin0
    have hl1 : (l + Int32.ofInt 1).toInt = (lN : Int) + 1 := by rw [cx_addc (by omega) (by omega)]; omega
    have hm2 : (Int32.ofInt 256 * (l + Int32.ofInt 1)).toInt = 256 * ((lN : Int) + 1) := by rw [cx_mulk (n := 256) (by decide +kernel) (by omega) (by omega), hl1]
    have hin20 : (Int32.ofInt 256 * (l + Int32.ofInt 1) + i).toInt = ((256 * (lN + 1) + k : Nat) : Int) := by rw [cx_addc (by omega) (by omega)]; omega
    have hin2 : (Int32.ofInt 256 * (l + Int32.ofInt 1) + i).toNatClampNeg = 256 * (lN + 1) + k := cx_clamp hin20
    have hone : (Int32.ofInt 1 <<< ((ch (Int32.ofInt 1).toNatClampNeg) &&& 31)).toInt = ((2 ^ FN : Nat) : Int) := bt_one e11 (by omega)
    refine ex_iload_n cg_242 (ix := 29) (pc' := 46) rfl rfl rfl ?_
    refine ex_iconst cg_242 (ix := 30) (pc' := 47) rfl rfl ?_
    refine ex_aload_n cg_242 (ix := 31) (pc' := 48) rfl rfl rfl ?_
    refine ex_getfield cg_242 (ix := 32) (pc' := 51) (v := .inr (.inl 149)) rfl rfl rfl rfl rfl ?_
    refine ex_iconst cg_242 (ix := 33) (pc' := 52) rfl rfl ?_
    refine ex_iaload cg_242 (ix := 34) (pc' := 53) rfl rfl (by omega) (by omega) rfl ?_
    refine ex_ishl cg_242 (ix := 35) (pc' := 54) rfl rfl ?_
    refine ex_icmp cg_242 (ix := 36) (t := 139) (pc' := 57) rfl rfl rfl (fun hb54 => ?_) (fun hb54 => ?_)
    · have hb54 : ((Int32.ofInt 1) <<< ((ch (Int32.ofInt 1).toNatClampNeg) &&& 31)).toInt ≤ i.toInt := hb54
      exfalso; first | omega | exact absurd hb54 (by decide +kernel)
    · have hb54 : ¬ (((Int32.ofInt 1) <<< ((ch (Int32.ofInt 1).toNatClampNeg) &&& 31)).toInt ≤ i.toInt) := hb54
      refine ex_aload_n cg_242 (ix := 37) (pc' := 58) rfl rfl rfl ?_
      refine ex_getfield cg_242 (ix := 38) (pc' := 61) (v := .inr (.inl 151)) rfl rfl rfl rfl rfl ?_
      refine ex_sipush cg_242 (ix := 39) (pc' := 64) rfl rfl rfl ?_
      refine ex_iload_n cg_242 (ix := 40) (pc' := 65) rfl rfl rfl ?_
      refine ex_iconst cg_242 (ix := 41) (pc' := 66) rfl rfl ?_
      refine ex_iadd cg_242 (ix := 42) (pc' := 67) rfl rfl ?_
      refine ex_imul cg_242 (ix := 43) (pc' := 68) rfl rfl ?_
      refine ex_iload_n cg_242 (ix := 44) (pc' := 69) rfl rfl rfl ?_
      refine ex_iadd cg_242 (ix := 45) (pc' := 70) rfl rfl ?_
      refine ex_iaload cg_242 (ix := 46) (pc' := 71) rfl rfl (by rw [hin20]; omega) (by rw [hin20]; omega) rfl ?_
      refine ex_istore cg_242 (ix := 47) (pc' := 73) (L' := [some (.inr (.inl 119)), some (.inl (.int (ch (Int32.ofInt 0).toNatClampNeg))), some (.inl (.int l)), some (.inl (.int i)), some (.inl (.int (T (((Int32.ofInt 256) * (l + (Int32.ofInt 1))) + i).toNatClampNeg))), B, C]) rfl rfl rfl rfl ?_
      refine ex_iconst cg_242 (ix := 48) (pc' := 74) rfl rfl ?_
      refine ex_istore cg_242 (ix := 49) (pc' := 76) (L' := [some (.inr (.inl 119)), some (.inl (.int (ch (Int32.ofInt 0).toNatClampNeg))), some (.inl (.int l)), some (.inl (.int i)), some (.inl (.int (T (((Int32.ofInt 256) * (l + (Int32.ofInt 1))) + i).toNatClampNeg))), some (.inl (.int (Int32.ofInt 0))), C]) rfl rfl rfl rfl ?_
      refine fj_d (mi := mi) (ml := ml) (mk := mk) (ch := ch) (LN := LN) (FN := FN) (T := T) (jt := jt) (l := l) (sv := i) (lN := lN) (SN := k) hc0 hL hc1 hF hl hlL hi (by omega) hT (P := P) (fun b i2 A hb => ?_) FN 0 (by omega) (Int32.ofInt 0) (by decide +kernel) _ _ (by rw [hin2, jF]; exact hT (lN + 1) k (Nat.le_refl _) (by omega) (by omega))
      refine ex_aload_n cg_242 (ix := 71) (pc' := 120) rfl rfl rfl ?_
      refine ex_getfield cg_242 (ix := 72) (pc' := 123) (v := .inr (.inl 151)) rfl rfl rfl rfl rfl ?_
      refine ex_sipush cg_242 (ix := 73) (pc' := 126) rfl rfl rfl ?_
      refine ex_iload_n cg_242 (ix := 74) (pc' := 127) rfl rfl rfl ?_
      refine ex_imul cg_242 (ix := 75) (pc' := 128) rfl rfl ?_
      refine ex_iload_n cg_242 (ix := 76) (pc' := 129) rfl rfl rfl ?_
      refine ex_iadd cg_242 (ix := 77) (pc' := 130) rfl rfl ?_
      refine ex_iload cg_242 (ix := 78) (pc' := 132) rfl rfl rfl ?_
      refine ex_iastore cg_242 (ix := 79) (pc' := 133) (h' := [(119, .inl (11, vs_119 (upi mi 0 (Int32.ofInt 0)) ml)), (149, .inr (.inl (0, 2, ch))), (150, .inr (.inl (0, 16, mk))), (151, .inr (.inl (0, 2304, upd T (((Int32.ofInt 256) * l) + i).toNatClampNeg b))), (152, .inr (.inl (0, 8, jt)))]) rfl rfl (by rw [hin0]; omega) (by rw [hin0]; omega) rfl rfl ?_
      refine ex_iinc cg_242 (ix := 80) (pc' := 136) (L' := [some (.inr (.inl 119)), some (.inl (.int (ch (Int32.ofInt 0).toNatClampNeg))), some (.inl (.int l)), some (.inl (.int (i + Int32.ofInt 1))), some (.inl (.int b)), some (.inl (.int i2)), A]) rfl rfl rfl rfl rfl ?_
      refine ex_goto cg_242 (ix := 81) (pc' := 45) rfl rfl ?_
      exact ih (k + 1) (by omega) _ (by rw [cx_addc (by omega) (by omega)]; omega) _ _ _ _ (fun j s h1 h2 h3 => by
        rw [hin]
        unfold upd
        rw [if_neg (by omega)]
        exact hT j s h1 h2 h3) (fun s hs => by
        rw [hin]
        unfold upd
        by_cases q : s = k
        · rw [if_pos (by omega), hb, q, show LN - lN = LN - (lN + 1) + 1 by omega, jW, show LN - (LN - (lN + 1) + 1) = lN by omega]
        · rw [if_neg (by omega)]; exact hU s (by omega))
theorem fj_b {mi : Nat → Int32} {ml : Nat → Int64} {mk ch : Nat → Int32} {LN FN : Nat} {jt : Nat → Int32} {P : Option cx_V → cx_H → Prop} (hc0 : (ch 0).toInt = (LN : Int)) (hL : LN ≤ 8) (hc1 : (ch 1).toInt = (FN : Int)) (hF : FN ≤ 8) (hP : ∀ (T : Nat → Int32) (l : Int32) (A B C D : Option cx_V), tMd mk LN FN T 0 → cx_T 4 242 [119, 149, 150, 151, 152] 145 ([some (.inr (.inl 119)), some (.inl (.int (ch (Int32.ofInt 0).toNatClampNeg))), some (.inl (.int l)), A, B, C, D], [], [(119, .inl (11, vs_119 (upi mi 0 (Int32.ofInt 0)) ml)), (149, .inr (.inl (0, 2, ch))), (150, .inr (.inl (0, 16, mk))), (151, .inr (.inl (0, 2304, T))), (152, .inr (.inl (0, 8, jt)))]) P) :
    ∀ (lN : Nat) (l : Int32), l.toInt = (lN : Int) - 1 → lN ≤ LN → ∀ (T : Nat → Int32) (A B C D : Option cx_V), tMd mk LN FN T lN → cx_T 4 242 [119, 149, 150, 151, 152] 39 ([some (.inr (.inl 119)), some (.inl (.int (ch (Int32.ofInt 0).toNatClampNeg))), some (.inl (.int l)), A, B, C, D], [], [(119, .inl (11, vs_119 (upi mi 0 (Int32.ofInt 0)) ml)), (149, .inr (.inl (0, 2, ch))), (150, .inr (.inl (0, 16, mk))), (151, .inr (.inl (0, 2304, T))), (152, .inr (.inl (0, 8, jt)))]) P := by
  have kcm9 : (Int32.ofInt (-9)).toInt = -9 := by decide +kernel
  have kcm1 : (Int32.ofInt (-1)).toInt = -1 := by decide +kernel
  have kc0 : (Int32.ofInt 0).toInt = 0 := by decide +kernel
  have kc1 : (Int32.ofInt 1).toInt = 1 := by decide +kernel
  have kc256 : (Int32.ofInt 256).toInt = 256 := by decide +kernel
  have i0 : (Int32.ofInt 0).toNatClampNeg = 0 := by decide +kernel
  have i1 : (Int32.ofInt 1).toNatClampNeg = 1 := by decide +kernel
  have e00 : (ch (Int32.ofInt 0).toNatClampNeg).toInt = (LN : Int) := by rw [i0]; exact hc0
  have e11 : (ch (Int32.ofInt 1).toNatClampNeg).toInt = (FN : Int) := by rw [i1]; exact hc1
  have hp2 := p2_le hF
  intro lN
  induction lN with
  | zero =>
    intro l hl hlL T A B C D hT
    refine ex_iload_n cg_242 (ix := 25) (pc' := 40) rfl rfl rfl ?_
    refine ex_if cg_242 (ix := 26) (t := 145) (pc' := 43) rfl rfl rfl (fun hb40 => ?_) (fun hb40 => ?_)
    · have hb40 : l.toInt < 0 := hb40
      exact hP T l A B C D hT
    · have hb40 : ¬ (l.toInt < 0) := hb40
      exfalso; first | omega | exact absurd hb40 (by decide +kernel)
  | succ lN ih =>
    intro l hl hlL T A B C D hT
    have hl : l.toInt = (lN : Int) := by omega
    refine ex_iload_n cg_242 (ix := 25) (pc' := 40) rfl rfl rfl ?_
    refine ex_if cg_242 (ix := 26) (t := 145) (pc' := 43) rfl rfl rfl (fun hb40 => ?_) (fun hb40 => ?_)
    · have hb40 : l.toInt < 0 := hb40
      exfalso; first | omega | exact absurd hb40 (by decide +kernel)
    · have hb40 : ¬ (l.toInt < 0) := hb40
      refine ex_iconst cg_242 (ix := 27) (pc' := 44) rfl rfl ?_
      refine ex_istore_n cg_242 (ix := 28) (pc' := 45) (L' := [some (.inr (.inl 119)), some (.inl (.int (ch (Int32.ofInt 0).toNatClampNeg))), some (.inl (.int l)), some (.inl (.int (Int32.ofInt 0))), B, C, D]) rfl rfl rfl rfl ?_
      refine fj_c (mi := mi) (ml := ml) (mk := mk) (ch := ch) (LN := LN) (FN := FN) (jt := jt) (l := l) (lN := lN) hc0 hL hc1 hF hl (by omega) (P := P) (fun T2 i2 A2 B2 C2 hT2 => ?_) (2 ^ FN) 0 (by omega) (Int32.ofInt 0) (by decide +kernel) T _ _ _ hT (fun s hs => absurd hs (Nat.not_lt_zero s))
      refine ex_iinc cg_242 (ix := 82) (pc' := 142) (L' := [some (.inr (.inl 119)), some (.inl (.int (ch (Int32.ofInt 0).toNatClampNeg))), some (.inl (.int (l + Int32.ofInt (-1)))), some (.inl (.int i2)), A2, B2, C2]) rfl rfl rfl rfl rfl ?_
      refine ex_goto cg_242 (ix := 83) (pc' := 39) rfl rfl ?_
      exact ih _ (by rw [cx_addc (by omega) (by omega)]; omega) (by omega) _ _ _ _ _ hT2
theorem fj_f {mi : Nat → Int32} {ml : Nat → Int64} {mk ch : Nat → Int32} {LN FN : Nat} {T : Nat → Int32} {tk kk : Int32} {kN SN : Nat} {jt0 : Nat → Int32} {P : Option cx_V → cx_H → Prop} (hc0 : (ch 0).toInt = (LN : Int)) (hL : LN ≤ 8) (hc1 : (ch 1).toInt = (FN : Int)) (hF : FN ≤ 8) (hkk : kk.toInt = (kN : Int)) (hkL : kN < LN) (hs : tk.toInt = (SN : Int)) (hS : SN < 2 ^ FN) (hT : tMd mk LN FN T 0) (hP : ∀ (jt : Nat → Int32) (f : Int32) (A B : Option cx_V), (∀ x : Nat, ¬ x = kN → jt x = jt0 x) → (jt kN).toInt = (if jl (jok 100 (uN mk (fmO mk) kN) (jW 100 (uN mk (fmO mk)) FN LN (LN - (kN + 1))) (jW 100 (uN mk (fmO mk)) FN LN (LN - kN) SN) SN) 0 (FN - 0) < FN then ((jl (jok 100 (uN mk (fmO mk) kN) (jW 100 (uN mk (fmO mk)) FN LN (LN - (kN + 1))) (jW 100 (uN mk (fmO mk)) FN LN (LN - kN) SN) SN) 0 (FN - 0) : Nat) : Int) else -9) → cx_T 4 242 [119, 149, 150, 151, 152] 223 ([some (.inr (.inl 119)), some (.inl (.int (ch (Int32.ofInt 0).toNatClampNeg))), some (.inl (.int tk)), some (.inl (.int kk)), some (.inl (.int f)), A, B], [], [(119, .inl (11, vs_119 (upi mi 0 (Int32.ofInt 0)) ml)), (149, .inr (.inl (0, 2, ch))), (150, .inr (.inl (0, 16, mk))), (151, .inr (.inl (0, 2304, T))), (152, .inr (.inl (0, 8, jt)))]) P) :
    ∀ (fN : Nat) (f : Int32), f.toInt = (fN : Int) - 1 → fN ≤ FN → ∀ (jt : Nat → Int32) (A B : Option cx_V), (∀ x : Nat, ¬ x = kN → jt x = jt0 x) → (jt kN).toInt = (if jl (jok 100 (uN mk (fmO mk) kN) (jW 100 (uN mk (fmO mk)) FN LN (LN - (kN + 1))) (jW 100 (uN mk (fmO mk)) FN LN (LN - kN) SN) SN) fN (FN - fN) < FN then ((jl (jok 100 (uN mk (fmO mk) kN) (jW 100 (uN mk (fmO mk)) FN LN (LN - (kN + 1))) (jW 100 (uN mk (fmO mk)) FN LN (LN - kN) SN) SN) fN (FN - fN) : Nat) : Int) else -9) → cx_T 4 242 [119, 149, 150, 151, 152] 172 ([some (.inr (.inl 119)), some (.inl (.int (ch (Int32.ofInt 0).toNatClampNeg))), some (.inl (.int tk)), some (.inl (.int kk)), some (.inl (.int f)), A, B], [], [(119, .inl (11, vs_119 (upi mi 0 (Int32.ofInt 0)) ml)), (149, .inr (.inl (0, 2, ch))), (150, .inr (.inl (0, 16, mk))), (151, .inr (.inl (0, 2304, T))), (152, .inr (.inl (0, 8, jt)))]) P := by
  have kcm9 : (Int32.ofInt (-9)).toInt = -9 := by decide +kernel
  have kcm1 : (Int32.ofInt (-1)).toInt = -1 := by decide +kernel
  have kc0 : (Int32.ofInt 0).toInt = 0 := by decide +kernel
  have kc1 : (Int32.ofInt 1).toInt = 1 := by decide +kernel
  have kc256 : (Int32.ofInt 256).toInt = 256 := by decide +kernel
  have i0 : (Int32.ofInt 0).toNatClampNeg = 0 := by decide +kernel
  have i1 : (Int32.ofInt 1).toNatClampNeg = 1 := by decide +kernel
  have e00 : (ch (Int32.ofInt 0).toNatClampNeg).toInt = (LN : Int) := by rw [i0]; exact hc0
  have e11 : (ch (Int32.ofInt 1).toNatClampNeg).toInt = (FN : Int) := by rw [i1]; exact hc1
  have hp2 := p2_le hF
  have hkx : kk.toNatClampNeg = kN := cx_clamp hkk
  have hm : (Int32.ofInt 256 * kk).toInt = 256 * (kN : Int) := by rw [cx_mulk (n := 256) (by decide +kernel) (by omega) (by omega), hkk]
  have hin0 : (Int32.ofInt 256 * kk + tk).toInt = ((256 * kN + SN : Nat) : Int) := by rw [cx_addc (by omega) (by omega)]; omega
  have hin : (Int32.ofInt 256 * kk + tk).toNatClampNeg = 256 * kN + SN := cx_clamp hin0
  have hTb : ∀ s : Nat, s < 2 ^ FN → 0 ≤ (T (256 * (kN + 1) + s)).toInt ∧ (T (256 * (kN + 1) + s)).toInt ≤ 900 := fun s hs => by
    have := tMd_b hL hT (Nat.zero_le _) (show kN + 1 ≤ LN by omega) hs
    omega
  have hTk := tMd_b hL hT (Nat.zero_le _) (show kN ≤ LN by omega) hS
  have hTE := hT kN SN (Nat.zero_le _) (by omega) hS
  intro fN
  induction fN with
  | zero =>
    intro f hl hlF jt A B hfr hj
    refine ex_iload cg_242 (ix := 103) (pc' := 174) rfl rfl rfl ?_
    refine ex_if cg_242 (ix := 104) (t := 223) (pc' := 177) rfl rfl rfl (fun hb174 => ?_) (fun hb174 => ?_)
    · have hb174 : f.toInt < 0 := hb174
      exact hP jt f A B hfr hj
    · have hb174 : ¬ (f.toInt < 0) := hb174
      exfalso; first | omega | exact absurd hb174 (by decide +kernel)
  | succ fN ih =>
    intro f hl hlF jt A B hfr hj
    have hl : f.toInt = (fN : Int) := by omega
    refine ex_iload cg_242 (ix := 103) (pc' := 174) rfl rfl rfl ?_
    refine ex_if cg_242 (ix := 104) (t := 223) (pc' := 177) rfl rfl rfl (fun hb174 => ?_) (fun hb174 => ?_)
    · have hb174 : f.toInt < 0 := hb174
      exfalso; first | omega | exact absurd hb174 (by decide +kernel)
    · have hb174 : ¬ (f.toInt < 0) := hb174
      refine ex_aload_n cg_242 (ix := 105) (pc' := 178) rfl rfl rfl ?_
      refine ex_getfield cg_242 (ix := 106) (pc' := 181) (v := .inr (.inl 152)) rfl rfl rfl rfl rfl ?_
      refine ex_iload_n cg_242 (ix := 107) (pc' := 182) rfl rfl rfl ?_
      refine ex_aload_n cg_242 (ix := 108) (pc' := 183) rfl rfl rfl ?_
      refine ex_iload_n cg_242 (ix := 109) (pc' := 184) rfl rfl rfl ?_
      refine ex_iload cg_242 (ix := 110) (pc' := 186) rfl rfl rfl ?_
      refine ex_iload_n cg_242 (ix := 111) (pc' := 187) rfl rfl rfl ?_
      refine ex_callV cg_242 (ix := 112) (pc' := 190) (As := [.inl (.int kk), .inl (.int f), .inl (.int tk)]) (r := [.inl (.int kk), .inr (.inl 152)]) rfl rfl rfl (ct_mwt (mi := (upi mi 0 (Int32.ofInt 0))) (ml := ml) (mk := mk) (T := T) (x := kk) (y := f) (sv := tk) (kN := kN) (fN := fN) (SN := SN) (FN := FN) hkk (by omega) hl (by omega) hF hs hS hTb) (by first | decide | omega) rfl rfl rfl ⟨rfl, rfl, rfl, trivial⟩ rfl rfl (fun v h2 hq => ?_)
      obtain ⟨z, rfl, rfl, hz⟩ := hq
      show cx_T _ 242 _ 190 ([some (.inr (.inl 119)), some (.inl (.int (ch (Int32.ofInt 0).toNatClampNeg))), some (.inl (.int tk)), some (.inl (.int kk)), some (.inl (.int f)), A, B], [.inl (.int z), .inl (.int kk), .inr (.inl 152)], [(119, .inl (11, vs_119 (upi mi 0 (Int32.ofInt 0)) ml)), (149, .inr (.inl (0, 2, ch))), (150, .inr (.inl (0, 16, mk))), (151, .inr (.inl (0, 2304, T))), (152, .inr (.inl (0, 8, jt)))]) _
      refine ex_aload_n cg_242 (ix := 113) (pc' := 191) rfl rfl rfl ?_
      refine ex_getfield cg_242 (ix := 114) (pc' := 194) (v := .inr (.inl 151)) rfl rfl rfl rfl rfl ?_
      refine ex_sipush cg_242 (ix := 115) (pc' := 197) rfl rfl rfl ?_
      refine ex_iload_n cg_242 (ix := 116) (pc' := 198) rfl rfl rfl ?_
      refine ex_imul cg_242 (ix := 117) (pc' := 199) rfl rfl ?_
      refine ex_iload_n cg_242 (ix := 118) (pc' := 200) rfl rfl rfl ?_
      refine ex_iadd cg_242 (ix := 119) (pc' := 201) rfl rfl ?_
      refine ex_iaload cg_242 (ix := 120) (pc' := 202) rfl rfl (by rw [hin0]; omega) (by rw [hin0]; omega) rfl ?_
      refine ex_icmp cg_242 (ix := 121) (t := 210) (pc' := 205) rfl rfl rfl (fun hb202 => ?_) (fun hb202 => ?_)
      · have hb202 : ¬ z.toInt = (T (((Int32.ofInt 256) * kk) + tk).toNatClampNeg).toInt := hb202
        refine ex_aload_n cg_242 (ix := 124) (pc' := 211) rfl rfl rfl ?_
        refine ex_getfield cg_242 (ix := 125) (pc' := 214) (v := .inr (.inl 152)) rfl rfl rfl rfl rfl ?_
        refine ex_iload_n cg_242 (ix := 126) (pc' := 215) rfl rfl rfl ?_
        refine ex_iaload cg_242 (ix := 127) (pc' := 216) rfl rfl (by omega) (by omega) rfl ?_
        refine ex_iastore cg_242 (ix := 128) (pc' := 217) (h' := [(119, .inl (11, vs_119 (upi mi 0 (Int32.ofInt 0)) ml)), (149, .inr (.inl (0, 2, ch))), (150, .inr (.inl (0, 16, mk))), (151, .inr (.inl (0, 2304, T))), (152, .inr (.inl (0, 8, upd jt kk.toNatClampNeg (jt kk.toNatClampNeg))))]) rfl rfl (by omega) (by omega) rfl rfl ?_
        refine ex_iinc cg_242 (ix := 129) (pc' := 220) (L' := [some (.inr (.inl 119)), some (.inl (.int (ch (Int32.ofInt 0).toNatClampNeg))), some (.inl (.int tk)), some (.inl (.int kk)), some (.inl (.int (f + Int32.ofInt (-1)))), A, B]) rfl rfl rfl rfl rfl ?_
        refine ex_goto cg_242 (ix := 130) (pc' := 172) rfl rfl ?_
        have hok : (jok 100 (uN mk (fmO mk) kN) (jW 100 (uN mk (fmO mk)) FN LN (LN - (kN + 1))) (jW 100 (uN mk (fmO mk)) FN LN (LN - kN) SN) SN) fN = false := jok_f.mpr (fun c => by
          rw [hin, hTE] at hb202
          rw [if_neg (fun q => by
            have c2 := c.2.1
            rcases q with q | q <;> first | (rw [c.1] at q; cases q) | omega), hT (kN + 1) (stO SN fN) (Nat.zero_le _) (by omega) (stO_lt hF hS (by omega))] at hz
          have c3 := c.2.2
          omega)
        refine ih _ (by rw [cx_addc (by omega) (by omega)]; omega) (by omega) _ _ _ (fun x hx => ?_) ?_
        · rw [hkx]; unfold upd; rw [if_neg hx]; exact hfr x hx
        · rw [hkx]
          unfold upd
          rw [if_pos rfl, show FN - fN = FN - (fN + 1) + 1 by omega, jl, hok]
          show (jt kN).toInt = _
          exact hj
      · have hb202 : ¬ (¬ z.toInt = (T (((Int32.ofInt 256) * kk) + tk).toNatClampNeg).toInt) := hb202
        refine ex_iload cg_242 (ix := 122) (pc' := 207) rfl rfl rfl ?_
        refine ex_goto cg_242 (ix := 123) (pc' := 216) rfl rfl ?_
        refine ex_iastore cg_242 (ix := 128) (pc' := 217) (h' := [(119, .inl (11, vs_119 (upi mi 0 (Int32.ofInt 0)) ml)), (149, .inr (.inl (0, 2, ch))), (150, .inr (.inl (0, 16, mk))), (151, .inr (.inl (0, 2304, T))), (152, .inr (.inl (0, 8, upd jt kk.toNatClampNeg f)))]) rfl rfl (by omega) (by omega) rfl rfl ?_
        refine ex_iinc cg_242 (ix := 129) (pc' := 220) (L' := [some (.inr (.inl 119)), some (.inl (.int (ch (Int32.ofInt 0).toNatClampNeg))), some (.inl (.int tk)), some (.inl (.int kk)), some (.inl (.int (f + Int32.ofInt (-1)))), A, B]) rfl rfl rfl rfl rfl ?_
        refine ex_goto cg_242 (ix := 130) (pc' := 172) rfl rfl ?_
        have hok : (jok 100 (uN mk (fmO mk) kN) (jW 100 (uN mk (fmO mk)) FN LN (LN - (kN + 1))) (jW 100 (uN mk (fmO mk)) FN LN (LN - kN) SN) SN) fN = true := (by
          rw [hin, hTE] at hb202
          split at hz
          · exfalso; omega
          · rename_i q
            rw [hT (kN + 1) (stO SN fN) (Nat.zero_le _) (by omega) (stO_lt hF hS (by omega))] at hz
            refine jok_t.mpr ⟨?_, ?_, by omega⟩
            · cases hq : stI SN fN with
              | false => rfl
              | true => exact absurd (Or.inl hq) q
            · by_cases c : uN mk (fmO mk) kN fN ≤ 2
              · exact c
              · exact absurd (Or.inr (by omega)) q)
        refine ih _ (by rw [cx_addc (by omega) (by omega)]; omega) (by omega) _ _ _ (fun x hx => ?_) ?_
        · rw [hkx]; unfold upd; rw [if_neg hx]; exact hfr x hx
        · rw [hkx]
          unfold upd
          rw [if_pos rfl, show FN - fN = FN - (fN + 1) + 1 by omega, jl, hok]
          show f.toInt = if fN < FN then ((fN : Nat) : Int) else -9
          rw [if_pos (by omega)]
          exact hl
theorem fj_e {mi : Nat → Int32} {ml : Nat → Int64} {mk ch : Nat → Int32} {LN FN : Nat} {T jt0 : Nat → Int32} {P : Option cx_V → cx_H → Prop} (hc0 : (ch 0).toInt = (LN : Int)) (hL : LN ≤ 8) (hc1 : (ch 1).toInt = (FN : Int)) (hF : FN ≤ 8) (hT : tMd mk LN FN T 0) (hP : ∀ jt : Nat → Int32, (∀ x : Nat, x < LN → (jt x).toInt = jA 100 (uN mk (fmO mk)) FN LN x) → (∀ x : Nat, ¬ x < LN → jt x = jt0 x) → P none ([(119, .inl (11, vs_119 (upi mi 0 (Int32.ofInt 0)) ml)), (149, .inr (.inl (0, 2, ch))), (150, .inr (.inl (0, 16, mk))), (151, .inr (.inl (0, 2304, T))), (152, .inr (.inl (0, 8, jt)))])) :
    ∀ (m k : Nat), k + m = LN → ∀ i : Int32, i.toInt = (k : Int) → ∀ (tk : Int32) (jt : Nat → Int32) (A B C : Option cx_V), tk.toInt = ((jT 100 (uN mk (fmO mk)) FN LN k : Nat) : Int) → (∀ x : Nat, x < k → (jt x).toInt = jA 100 (uN mk (fmO mk)) FN LN x) → (∀ x : Nat, ¬ x < k → jt x = jt0 x) → cx_T 4 242 [119, 149, 150, 151, 152] 149 ([some (.inr (.inl 119)), some (.inl (.int (ch (Int32.ofInt 0).toNatClampNeg))), some (.inl (.int tk)), some (.inl (.int i)), A, B, C], [], [(119, .inl (11, vs_119 (upi mi 0 (Int32.ofInt 0)) ml)), (149, .inr (.inl (0, 2, ch))), (150, .inr (.inl (0, 16, mk))), (151, .inr (.inl (0, 2304, T))), (152, .inr (.inl (0, 8, jt)))]) P := by
  have kcm9 : (Int32.ofInt (-9)).toInt = -9 := by decide +kernel
  have kcm1 : (Int32.ofInt (-1)).toInt = -1 := by decide +kernel
  have kc0 : (Int32.ofInt 0).toInt = 0 := by decide +kernel
  have kc1 : (Int32.ofInt 1).toInt = 1 := by decide +kernel
  have kc256 : (Int32.ofInt 256).toInt = 256 := by decide +kernel
  intro m
  induction m with
  | zero =>
    intro k hk i hi tk jt A B C htk hA hB
    have ek : k = LN := by omega
    have i0 : (Int32.ofInt 0).toNatClampNeg = 0 := by decide +kernel
    have i1 : (Int32.ofInt 1).toNatClampNeg = 1 := by decide +kernel
    have e00 : (ch (Int32.ofInt 0).toNatClampNeg).toInt = (LN : Int) := by rw [i0]; exact hc0
    have e11 : (ch (Int32.ofInt 1).toNatClampNeg).toInt = (FN : Int) := by rw [i1]; exact hc1
    have hp2 := p2_le hF
    refine ex_iload_n cg_242 (ix := 88) (pc' := 150) rfl rfl rfl ?_
    refine ex_iload_n cg_242 (ix := 89) (pc' := 151) rfl rfl rfl ?_
    refine ex_icmp cg_242 (ix := 90) (t := 253) (pc' := 154) rfl rfl rfl (fun hb151 => ?_) (fun hb151 => ?_)
    · have hb151 : (ch (Int32.ofInt 0).toNatClampNeg).toInt ≤ i.toInt := hb151
      refine ex_return_ cg_242 (ix := 149) rfl ?_
      rw [ek] at hA hB
      exact hP jt hA hB
    · have hb151 : ¬ ((ch (Int32.ofInt 0).toNatClampNeg).toInt ≤ i.toInt) := hb151
      exfalso; first | omega | exact absurd hb151 (by decide +kernel)
  | succ m ih =>
    intro k hk i hi tk jt A B C htk hA hB
    have hik : i.toNatClampNeg = k := cx_clamp hi
    have i0 : (Int32.ofInt 0).toNatClampNeg = 0 := by decide +kernel
    have i1 : (Int32.ofInt 1).toNatClampNeg = 1 := by decide +kernel
    have e00 : (ch (Int32.ofInt 0).toNatClampNeg).toInt = (LN : Int) := by rw [i0]; exact hc0
    have e11 : (ch (Int32.ofInt 1).toNatClampNeg).toInt = (FN : Int) := by rw [i1]; exact hc1
    have hp2 := p2_le hF
    have hS := jT_lt (c := 100) (u := uN mk (fmO mk)) (L := LN) hF k
    refine ex_iload_n cg_242 (ix := 88) (pc' := 150) rfl rfl rfl ?_
    refine ex_iload_n cg_242 (ix := 89) (pc' := 151) rfl rfl rfl ?_
    refine ex_icmp cg_242 (ix := 90) (t := 253) (pc' := 154) rfl rfl rfl (fun hb151 => ?_) (fun hb151 => ?_)
    · have hb151 : (ch (Int32.ofInt 0).toNatClampNeg).toInt ≤ i.toInt := hb151
      exfalso; first | omega | exact absurd hb151 (by decide +kernel)
    · have hb151 : ¬ ((ch (Int32.ofInt 0).toNatClampNeg).toInt ≤ i.toInt) := hb151
      refine ex_aload_n cg_242 (ix := 91) (pc' := 155) rfl rfl rfl ?_
      refine ex_getfield cg_242 (ix := 92) (pc' := 158) (v := .inr (.inl 152)) rfl rfl rfl rfl rfl ?_
      refine ex_iload_n cg_242 (ix := 93) (pc' := 159) rfl rfl rfl ?_
      refine ex_bipush cg_242 (ix := 94) (pc' := 161) rfl rfl rfl ?_
      refine ex_iastore cg_242 (ix := 95) (pc' := 162) (h' := [(119, .inl (11, vs_119 (upi mi 0 (Int32.ofInt 0)) ml)), (149, .inr (.inl (0, 2, ch))), (150, .inr (.inl (0, 16, mk))), (151, .inr (.inl (0, 2304, T))), (152, .inr (.inl (0, 8, upd jt i.toNatClampNeg (Int32.ofInt (-9)))))]) rfl rfl (by omega) (by omega) rfl rfl ?_
      refine ex_aload_n cg_242 (ix := 96) (pc' := 163) rfl rfl rfl ?_
      refine ex_getfield cg_242 (ix := 97) (pc' := 166) (v := .inr (.inl 149)) rfl rfl rfl rfl rfl ?_
      refine ex_iconst cg_242 (ix := 98) (pc' := 167) rfl rfl ?_
      refine ex_iaload cg_242 (ix := 99) (pc' := 168) rfl rfl (by omega) (by omega) rfl ?_
      refine ex_iconst cg_242 (ix := 100) (pc' := 169) rfl rfl ?_
      refine ex_isub cg_242 (ix := 101) (pc' := 170) rfl rfl ?_
      refine ex_istore cg_242 (ix := 102) (pc' := 172) (L' := [some (.inr (.inl 119)), some (.inl (.int (ch (Int32.ofInt 0).toNatClampNeg))), some (.inl (.int tk)), some (.inl (.int i)), some (.inl (.int ((ch (Int32.ofInt 1).toNatClampNeg) - (Int32.ofInt 1)))), B, C]) rfl rfl rfl rfl ?_
      refine fj_f (mi := mi) (ml := ml) (mk := mk) (ch := ch) (LN := LN) (FN := FN) (T := T) (tk := tk) (kk := i) (kN := k) (SN := jT 100 (uN mk (fmO mk)) FN LN k) (jt0 := jt) hc0 hL hc1 hF hi (by omega) htk hS hT (P := P) (fun j2 f A B hfr hj => ?_) FN _ (by rw [cx_subc (by omega) (by omega)]; omega) (Nat.le_refl _) _ _ _ (fun x hx => by rw [hik]; unfold upd; rw [if_neg hx]) (by rw [hik, Nat.sub_self]; unfold upd; rw [if_pos rfl, jl, if_neg (Nat.lt_irrefl _)]; decide +kernel)
      have hj : (j2 i.toNatClampNeg).toInt = if jJ 100 (uN mk (fmO mk)) FN LN k (jT 100 (uN mk (fmO mk)) FN LN k) < FN then ((jJ 100 (uN mk (fmO mk)) FN LN k (jT 100 (uN mk (fmO mk)) FN LN k) : Nat) : Int) else -9 := by rw [hik]; exact hj
      have hA' : (j2 i.toNatClampNeg).toInt = jA 100 (uN mk (fmO mk)) FN LN k → ∀ x : Nat, x < k + 1 → (j2 x).toInt = jA 100 (uN mk (fmO mk)) FN LN x := fun h1 x hx => by
        by_cases q : x = k
        · rw [q, ← hik, hik]; rw [hik] at h1; exact h1
        · rw [hfr x q]; exact hA x (by omega)
      have hB' : ∀ x : Nat, ¬ x < k + 1 → j2 x = jt0 x := fun x hx => (hfr x (by omega)).trans (hB x (by omega))
      refine ex_iload_n cg_242 (ix := 131) (pc' := 224) rfl rfl rfl ?_
      refine ex_aload_n cg_242 (ix := 132) (pc' := 225) rfl rfl rfl ?_
      refine ex_getfield cg_242 (ix := 133) (pc' := 228) (v := .inr (.inl 152)) rfl rfl rfl rfl rfl ?_
      refine ex_iload_n cg_242 (ix := 134) (pc' := 229) rfl rfl rfl ?_
      refine ex_iaload cg_242 (ix := 135) (pc' := 230) rfl rfl (by omega) (by omega) rfl ?_
      refine ex_if cg_242 (ix := 136) (t := 237) (pc' := 233) rfl rfl rfl (fun hb230 => ?_) (fun hb230 => ?_)
      · have hb230 : 0 ≤ (j2 i.toNatClampNeg).toInt := hb230
        refine ex_iconst cg_242 (ix := 139) (pc' := 238) rfl rfl ?_
        refine ex_aload_n cg_242 (ix := 140) (pc' := 239) rfl rfl rfl ?_
        refine ex_getfield cg_242 (ix := 141) (pc' := 242) (v := .inr (.inl 152)) rfl rfl rfl rfl rfl ?_
        refine ex_iload_n cg_242 (ix := 142) (pc' := 243) rfl rfl rfl ?_
        refine ex_iaload cg_242 (ix := 143) (pc' := 244) rfl rfl (by omega) (by omega) rfl ?_
        refine ex_ishl cg_242 (ix := 144) (pc' := 245) rfl rfl ?_
        refine ex_ior cg_242 (ix := 145) (pc' := 246) rfl rfl ?_
        refine ex_istore_n cg_242 (ix := 146) (pc' := 247) (L' := [some (.inr (.inl 119)), some (.inl (.int (ch (Int32.ofInt 0).toNatClampNeg))), some (.inl (.int (tk ||| ((Int32.ofInt 1) <<< ((j2 i.toNatClampNeg) &&& 31))))), some (.inl (.int i)), some (.inl (.int f)), A, B]) rfl rfl rfl rfl ?_
        refine ex_iinc cg_242 (ix := 147) (pc' := 250) (L' := [some (.inr (.inl 119)), some (.inl (.int (ch (Int32.ofInt 0).toNatClampNeg))), some (.inl (.int (tk ||| ((Int32.ofInt 1) <<< ((j2 i.toNatClampNeg) &&& 31))))), some (.inl (.int (i + Int32.ofInt 1))), some (.inl (.int f)), A, B]) rfl rfl rfl rfl rfl ?_
        refine ex_goto cg_242 (ix := 148) (pc' := 149) rfl rfl ?_
        have q9 : jJ 100 (uN mk (fmO mk)) FN LN k (jT 100 (uN mk (fmO mk)) FN LN k) < FN := Classical.byContradiction (fun q => by rw [if_neg q] at hj; omega)
        rw [if_pos q9] at hj
        have hor := bt_or htk (by omega) hj (by omega)
        exact ih (k + 1) (by omega) _ (by rw [cx_addc (by omega) (by omega)]; omega) _ _ _ _ _ (by rw [jT, if_pos q9]; exact hor) (hA' (by unfold jA; rw [if_pos q9]; exact hj)) hB' 
      · have hb230 : ¬ (0 ≤ (j2 i.toNatClampNeg).toInt) := hb230
        refine ex_iconst cg_242 (ix := 137) (pc' := 234) rfl rfl ?_
        refine ex_goto cg_242 (ix := 138) (pc' := 245) rfl rfl ?_
        refine ex_ior cg_242 (ix := 145) (pc' := 246) rfl rfl ?_
        refine ex_istore_n cg_242 (ix := 146) (pc' := 247) (L' := [some (.inr (.inl 119)), some (.inl (.int (ch (Int32.ofInt 0).toNatClampNeg))), some (.inl (.int (tk ||| (Int32.ofInt 0)))), some (.inl (.int i)), some (.inl (.int f)), A, B]) rfl rfl rfl rfl ?_
        refine ex_iinc cg_242 (ix := 147) (pc' := 250) (L' := [some (.inr (.inl 119)), some (.inl (.int (ch (Int32.ofInt 0).toNatClampNeg))), some (.inl (.int (tk ||| (Int32.ofInt 0)))), some (.inl (.int (i + Int32.ofInt 1))), some (.inl (.int f)), A, B]) rfl rfl rfl rfl rfl ?_
        refine ex_goto cg_242 (ix := 148) (pc' := 149) rfl rfl ?_
        have q9 : ¬ jJ 100 (uN mk (fmO mk)) FN LN k (jT 100 (uN mk (fmO mk)) FN LN k) < FN := fun q => by rw [if_pos q] at hj; omega
        rw [if_neg q9] at hj
        exact ih (k + 1) (by omega) _ (by rw [cx_addc (by omega) (by omega)]; omega) _ _ _ _ _ (by rw [jT, if_neg q9]; exact bt_or0 htk (by omega)) (hA' (by unfold jA; rw [if_neg q9]; exact hj)) hB' 
theorem ct_fj {mi : Nat → Int32} {ml : Nat → Int64} {mk ch : Nat → Int32} {LN FN : Nat} {T jt : Nat → Int32} (hc0 : (ch 0).toInt = (LN : Int)) (hL : LN ≤ 8) (hc1 : (ch 1).toInt = (FN : Int)) (hF : FN ≤ 8) (hJB : JB jt) : cx_Ct 4 242 [.inr (.inl 119)] ([(119, .inl (11, vs_119 (upi mi 0 (Int32.ofInt 0)) ml)), (149, .inr (.inl (0, 2, ch))), (150, .inr (.inl (0, 16, mk))), (151, .inr (.inl (0, 2304, T))), (152, .inr (.inl (0, 8, jt)))]) (fun v h2 => v = none ∧ ∃ (T2 jt2 : Nat → Int32), h2 = [(119, .inl (11, vs_119 (upi mi 0 (Int32.ofInt 0)) ml)), (149, .inr (.inl (0, 2, ch))), (150, .inr (.inl (0, 16, mk))), (151, .inr (.inl (0, 2304, T2))), (152, .inr (.inl (0, 8, jt2)))] ∧ (∀ x : Nat, x < LN → (jt2 x).toInt = jA 100 (uN mk (fmO mk)) FN LN x) ∧ JB jt2) := by
  have kc0 : (Int32.ofInt 0).toInt = 0 := by decide +kernel
  have kc256 : (Int32.ofInt 256).toInt = 256 := by decide +kernel
  have kc1 : (Int32.ofInt 1).toInt = 1 := by decide +kernel
  have kcm1 : (Int32.ofInt (-1)).toInt = -1 := by decide +kernel
  have kcm9 : (Int32.ofInt (-9)).toInt = -9 := by decide +kernel
  have i0 : (Int32.ofInt 0).toNatClampNeg = 0 := by decide +kernel
  have i1 : (Int32.ofInt 1).toNatClampNeg = 1 := by decide +kernel
  have e00 : (ch (Int32.ofInt 0).toNatClampNeg).toInt = (LN : Int) := by rw [i0]; exact hc0
  have e11 : (ch (Int32.ofInt 1).toNatClampNeg).toInt = (FN : Int) := by rw [i1]; exact hc1
  have hp2 := p2_le hF
  refine cx_Ct.of cg_242 (nL := 7) rfl rfl rfl ?_
  show cx_T 4 242 [119, 149, 150, 151, 152] 0 ([some (.inr (.inl 119)), none, none, none, none, none, none], [], [(119, .inl (11, vs_119 (upi mi 0 (Int32.ofInt 0)) ml)), (149, .inr (.inl (0, 2, ch))), (150, .inr (.inl (0, 16, mk))), (151, .inr (.inl (0, 2304, T))), (152, .inr (.inl (0, 8, jt)))]) _
  refine ex_aload_n cg_242 (ix := 0) (pc' := 1) rfl rfl rfl ?_
  refine ex_getfield cg_242 (ix := 1) (pc' := 4) (v := .inr (.inl 149)) rfl rfl rfl rfl rfl ?_
  refine ex_iconst cg_242 (ix := 2) (pc' := 5) rfl rfl ?_
  refine ex_iaload cg_242 (ix := 3) (pc' := 6) rfl rfl (by omega) (by omega) rfl ?_
  refine ex_istore_n cg_242 (ix := 4) (pc' := 7) (L' := [some (.inr (.inl 119)), some (.inl (.int (ch (Int32.ofInt 0).toNatClampNeg))), none, none, none, none, none]) rfl rfl rfl rfl ?_
  refine ex_iconst cg_242 (ix := 5) (pc' := 8) rfl rfl ?_
  refine ex_istore_n cg_242 (ix := 6) (pc' := 9) (L' := [some (.inr (.inl 119)), some (.inl (.int (ch (Int32.ofInt 0).toNatClampNeg))), some (.inl (.int (Int32.ofInt 0))), none, none, none, none]) rfl rfl rfl rfl ?_
  refine fj_a (mi := mi) (ml := ml) (mk := mk) (ch := ch) (LN := LN) (FN := FN) (jt := jt) hc0 hL hc1 hF (P := fun v h2 => v = none ∧ ∃ (T2 jt2 : Nat → Int32), h2 = [(119, .inl (11, vs_119 (upi mi 0 (Int32.ofInt 0)) ml)), (149, .inr (.inl (0, 2, ch))), (150, .inr (.inl (0, 16, mk))), (151, .inr (.inl (0, 2304, T2))), (152, .inr (.inl (0, 8, jt2)))] ∧ (∀ x : Nat, x < LN → (jt2 x).toInt = jA 100 (uN mk (fmO mk)) FN LN x) ∧ JB jt2) (fun T1 i1x A1 B1 C1 D1 hT1 => ?_) 256 0 (by omega) (Int32.ofInt 0) (by decide +kernel) T _ _ _ _ (fun s hs => absurd hs (Nat.not_lt_zero s))
  refine ex_iload_n cg_242 (ix := 21) (pc' := 36) rfl rfl rfl ?_
  refine ex_iconst cg_242 (ix := 22) (pc' := 37) rfl rfl ?_
  refine ex_isub cg_242 (ix := 23) (pc' := 38) rfl rfl ?_
  refine ex_istore_n cg_242 (ix := 24) (pc' := 39) (L' := [some (.inr (.inl 119)), some (.inl (.int (ch (Int32.ofInt 0).toNatClampNeg))), some (.inl (.int ((ch (Int32.ofInt 0).toNatClampNeg) - (Int32.ofInt 1)))), A1, B1, C1, D1]) rfl rfl rfl rfl ?_
  refine fj_b (mi := mi) (ml := ml) (mk := mk) (ch := ch) (LN := LN) (FN := FN) (jt := jt) hc0 hL hc1 hF (P := fun v h2 => v = none ∧ ∃ (T2 jt2 : Nat → Int32), h2 = [(119, .inl (11, vs_119 (upi mi 0 (Int32.ofInt 0)) ml)), (149, .inr (.inl (0, 2, ch))), (150, .inr (.inl (0, 16, mk))), (151, .inr (.inl (0, 2304, T2))), (152, .inr (.inl (0, 8, jt2)))] ∧ (∀ x : Nat, x < LN → (jt2 x).toInt = jA 100 (uN mk (fmO mk)) FN LN x) ∧ JB jt2) (fun T2 l2 A2 B2 C2 D2 hT2 => ?_) LN _ (by rw [cx_subc (by omega) (by omega)]; omega) (Nat.le_refl _) T1 _ _ _ _ (fun j s h1 h2 h3 => ?_)
  · refine ex_iconst cg_242 (ix := 84) (pc' := 146) rfl rfl ?_
    refine ex_istore_n cg_242 (ix := 85) (pc' := 147) (L' := [some (.inr (.inl 119)), some (.inl (.int (ch (Int32.ofInt 0).toNatClampNeg))), some (.inl (.int (Int32.ofInt 0))), A2, B2, C2, D2]) rfl rfl rfl rfl ?_
    refine ex_iconst cg_242 (ix := 86) (pc' := 148) rfl rfl ?_
    refine ex_istore_n cg_242 (ix := 87) (pc' := 149) (L' := [some (.inr (.inl 119)), some (.inl (.int (ch (Int32.ofInt 0).toNatClampNeg))), some (.inl (.int (Int32.ofInt 0))), some (.inl (.int (Int32.ofInt 0))), B2, C2, D2]) rfl rfl rfl rfl ?_
    refine fj_e (mi := mi) (ml := ml) (mk := mk) (ch := ch) (LN := LN) (FN := FN) (T := T2) (jt0 := jt) hc0 hL hc1 hF hT2 (P := fun v h2 => v = none ∧ ∃ (T2 jt2 : Nat → Int32), h2 = [(119, .inl (11, vs_119 (upi mi 0 (Int32.ofInt 0)) ml)), (149, .inr (.inl (0, 2, ch))), (150, .inr (.inl (0, 16, mk))), (151, .inr (.inl (0, 2304, T2))), (152, .inr (.inl (0, 8, jt2)))] ∧ (∀ x : Nat, x < LN → (jt2 x).toInt = jA 100 (uN mk (fmO mk)) FN LN x) ∧ JB jt2) (fun jt2 h1 h3 => ⟨rfl, T2, jt2, rfl, h1, fun x hx => ?_⟩) LN 0 (by omega) (Int32.ofInt 0) (by decide +kernel) (Int32.ofInt 0) jt _ _ _ (by rw [jT]; decide +kernel) (fun x hx => absurd hx (Nat.not_lt_zero x)) (fun x _ => rfl)
    by_cases q : x < LN
    · rw [h1 x q]; have := jA_b (c := 100) (u := uN mk (fmO mk)) (L := LN) (k := x) hF; omega
    · rw [h3 x q]; exact hJB x hx
  · have e1 : j = LN := by omega
    rw [e1, Nat.sub_self, jW]
    exact hT1 s (by omega)
end
