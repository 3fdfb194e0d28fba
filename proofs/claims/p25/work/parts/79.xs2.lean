noncomputable section
theorem cg_224 : cx_G 224 tb_224 TbX11 (some .boolean) := cx_G.of gok_224
theorem cg_225 : cx_G 225 tb_225 TbX11 (some .int) := cx_G.of gok_225
theorem cg_227 : cx_G 227 tb_227 TbX11 (some .long) := cx_G.of gok_227
theorem cg_228 : cx_G 228 tb_228 TbX11 none := cx_G.of gok_228
theorem cg_229 : cx_G 229 tb_229 TbX11 none := cx_G.of gok_229
theorem cg_230 : cx_G 230 tb_230 TbX11 (some .int) := cx_G.of gok_230
theorem cg_231 : cx_G 231 tb_231 TbX11 (some .int) := cx_G.of gok_231
theorem rowU_out {α : Type} {F g : Nat → α} {k x : Nat} (h : ¬ x < k) : rowU F g k x = g x := by
  unfold rowU
  rw [if_neg h]
/-- one step of the reference's drift -/
def adL (pv : Nat → Int64) (i : Nat) (v : Int64) : Nat → Int64 := vp_updL pv i (pv i + v)
def nxS (pv f : Nat → Int64) (tl ts tr : Int32) (k : Nat) : Nat → Int64 := adL (adL (adL pv (if k = 0 then 0 else k - 1) (f k * tl.toInt64)) k (f k * ts.toInt64)) (if k = 31 then 31 else k + 1) (f k * tr.toInt64)
def nxF (n0 f : Nat → Int64) (tl ts tr : Int32) : Nat → Nat → Int64
  | 0 => n0
  | k + 1 => nxS (nxF n0 f tl ts tr k) f tl ts tr k
theorem adL_ne {pv : Nat → Int64} {i x : Nat} {v : Int64} (h : ¬ x = i) : adL pv i v x = pv x := by
  unfold adL vp_updL
  rw [if_neg h]
theorem adL_eq {pv : Nat → Int64} {i : Nat} {v : Int64} : adL pv i v i = pv i + v := by
  unfold adL vp_updL
  rw [if_pos rfl]
theorem nxS_far {pv f : Nat → Int64} {tl ts tr : Int32} {k x : Nat} (h1 : ¬ x = (if k = 0 then 0 else k - 1)) (h2 : ¬ x = k) (h3 : ¬ x = (if k = 31 then 31 else k + 1)) : nxS pv f tl ts tr k x = pv x := by
  unfold nxS
  rw [adL_ne h3, adL_ne h2, adL_ne h1]
theorem nxF_lo {n0 f : Nat → Int64} {tl ts tr : Int32} {x : Nat} : ∀ k : Nat, k + 1 ≤ x → x < 32 → nxF n0 f tl ts tr k x = n0 x
  | 0, _, _ => rfl
  | k + 1, h, hx => by
    rw [nxF, nxS_far (by split <;> omega) (by omega) (by split <;> omega)]
    exact nxF_lo k (by omega) hx
theorem nxF_hi {n0 f : Nat → Int64} {tl ts tr : Int32} {x : Nat} : ∀ m k : Nat, x + 2 ≤ k → k + m ≤ 32 → nxF n0 f tl ts tr (k + m) x = nxF n0 f tl ts tr k x
  | 0, _, _, _ => rfl
  | m + 1, k, h, hm => by
    rw [show k + (m + 1) = k + m + 1 by omega, nxF, nxS_far (by split <;> omega) (by omega) (by split <;> omega)]
    exact nxF_hi m k h (by omega)
/-- the reference's drift is the class's -/
theorem nxF_dr {n0 f : Nat → Int64} {tl ts tr : Int32} (h0 : ∀ x : Nat, x < 32 → n0 x = Int64.ofNat 0) {x : Nat} (hx : x < 32) : nxF n0 f tl ts tr 32 x = drF f tl ts tr x := by
  have z0 : ∀ v : Int64, Int64.ofNat 0 + v = v := fun v => Int64.zero_add v
  rcases (show x = 0 ∨ (1 ≤ x ∧ x ≤ 30) ∨ x = 31 by omega) with q | q | q
  · subst q
    have e1 := nxF_hi (n0 := n0) (f := f) (tl := tl) (ts := ts) (tr := tr) (x := 0) 30 2 (by omega) (by omega)
    rw [show (2 : Nat) + 30 = 32 by omega] at e1
    rw [e1, nxF, nxF, nxF]
    unfold nxS
    rw [adL_ne (by decide), adL_ne (by decide), if_neg (by decide : ¬ (1 : Nat) = 0), show (1 : Nat) - 1 = 0 by omega, adL_eq, adL_ne (by decide), adL_eq, if_pos rfl, adL_eq, h0 0 (by omega), z0]
    unfold drF
    rw [if_neg (by omega), if_pos (by omega), Int64.mul_comm (f 0) tl.toInt64, Int64.mul_comm (f 0) ts.toInt64, Int64.mul_comm (f 1) tl.toInt64]
  · obtain ⟨y, rfl⟩ : ∃ y, x = y + 1 := ⟨x - 1, by omega⟩
    have e1 := nxF_hi (n0 := n0) (f := f) (tl := tl) (ts := ts) (tr := tr) (x := y + 1) (29 - y) (y + 3) (by omega) (by omega)
    rw [show y + 3 + (29 - y) = 32 by omega] at e1
    rw [e1, nxF, nxF, nxF]
    have e2 : nxS (nxF n0 f tl ts tr y) f tl ts tr y (y + 1) = f y * tr.toInt64 := by
      unfold nxS
      rw [if_neg (show ¬ y = 31 by omega), adL_eq, adL_ne (by omega), adL_ne (by split <;> omega), nxF_lo y (by omega) (by omega), h0 _ (by omega), z0]
    have e3 : nxS (nxS (nxF n0 f tl ts tr y) f tl ts tr y) f tl ts tr (y + 1) (y + 1) = f y * tr.toInt64 + f (y + 1) * ts.toInt64 := by
      unfold nxS at e2 ⊢
      rw [adL_ne (by split <;> omega), adL_eq, adL_ne (by split <;> omega), e2]
    have e4 : nxS (nxS (nxS (nxF n0 f tl ts tr y) f tl ts tr y) f tl ts tr (y + 1)) f tl ts tr (y + 2) (y + 1) = f y * tr.toInt64 + f (y + 1) * ts.toInt64 + f (y + 2) * tl.toInt64 := by
      have hq : ∀ pv : Nat → Int64, nxS pv f tl ts tr (y + 2) (y + 1) = pv (y + 1) + f (y + 2) * tl.toInt64 := fun pv => by
        unfold nxS
        rw [adL_ne (by split <;> omega), adL_ne (by omega), if_neg (show ¬ y + 2 = 0 by omega), show y + 2 - 1 = y + 1 by omega, adL_eq]
      rw [hq, e3]
    rw [e4]
    unfold drF
    rw [if_pos (by omega), if_pos (by omega), show y + 1 - 1 = y by omega, Int64.mul_comm (f y), Int64.mul_comm (f (y + 1)), Int64.mul_comm (f (y + 2))]
  · subst q
    rw [nxF, nxF]
    have e2 : nxS (nxF n0 f tl ts tr 30) f tl ts tr 30 31 = f 30 * tr.toInt64 := by
      unfold nxS
      rw [if_neg (show ¬ (30 : Nat) = 31 by omega), show (30 : Nat) + 1 = 31 by omega, adL_eq, adL_ne (by omega), adL_ne (by split <;> omega), nxF_lo 30 (by omega) (by omega), h0 _ (by omega), z0]
    have hq : ∀ pv : Nat → Int64, nxS pv f tl ts tr 31 31 = pv 31 + f 31 * ts.toInt64 + f 31 * tr.toInt64 := fun pv => by
      unfold nxS
      rw [if_pos (rfl : (31 : Nat) = 31), adL_eq, adL_eq, adL_ne (by split <;> omega)]
    rw [hq, e2]
    unfold drF
    rw [if_pos (by omega), if_neg (by omega), show (31 : Nat) - 1 = 30 by omega, Int64.mul_comm (f 30), Int64.mul_comm (f 31) ts.toInt64, Int64.mul_comm (f 31) tr.toInt64]
theorem ct_mplace {x : Int32} : cx_Ct 3 224 [.inl (.int x)] [] (fun v h2 => ∃ z : Int32, v = some (.inl (.int z)) ∧ h2 = [] ∧ ((0 ≤ x.toInt ∧ x.toInt < 32) ∧ z = Int32.ofInt 1 ∨ ¬ (0 ≤ x.toInt ∧ x.toInt < 32) ∧ z = Int32.ofInt 0)) := by
  have kc0 : (Int32.ofInt 0).toInt = 0 := by decide +kernel
  have kc31 : (Int32.ofInt 31).toInt = 31 := by decide +kernel
  refine cx_Ct.of cg_224 (nL := 1) rfl rfl rfl ?_
  show cx_T 3 224 [] 0 ([some (.inl (.int x))], [], []) _
  refine ex_iload_n cg_224 (ix := 0) (pc' := 1) rfl rfl rfl ?_
  refine ex_iconst cg_224 (ix := 1) (pc' := 2) rfl rfl ?_
  refine ex_bipush cg_224 (ix := 2) (pc' := 4) rfl rfl rfl ?_
  refine ex_callS cg_224 (ix := 3) (pc' := 7) (As := [.inl (.int x), .inl (.int (Int32.ofInt 0)), .inl (.int (Int32.ofInt 31))]) (r := []) rfl rfl rfl (ct_min (x := x) (a := Int32.ofInt 0) (b := Int32.ofInt 31)) (by first | decide | omega) rfl rfl trivial rfl rfl (fun v h2 hq => ?_)
  obtain ⟨z, rfl, rfl, hz⟩ := hq
  rcases hz with ⟨hz, rfl⟩ | ⟨hz, rfl⟩
  · show cx_T _ 224 _ 7 ([some (.inl (.int x))], [.inl (.int (Int32.ofInt 1))], []) _
    refine ex_zreturn cg_224 (ix := 4) rfl (by first | exact Or.inl rfl | exact Or.inr rfl | (first | exact Or.inr rfl | exact Or.inl rfl)) ?_
    exact ⟨_, rfl, rfl, Or.inl ⟨by omega, rfl⟩⟩
  · show cx_T _ 224 _ 7 ([some (.inl (.int x))], [.inl (.int (Int32.ofInt 0))], []) _
    refine ex_zreturn cg_224 (ix := 4) rfl (by first | exact Or.inl rfl | exact Or.inr rfl | (first | exact Or.inr rfl | exact Or.inl rfl)) ?_
    exact ⟨_, rfl, rfl, Or.inr ⟨by omega, rfl⟩⟩
theorem tm_loop {d : Nat} {mi : Nat → Int32} {ml : Nat → Int64} {f : Nat → Int64} {P : Option cx_V → cx_H → Prop}  (hP : P (some (.inl (.long (sumL f 32)))) ([(119, .inl (11, vs_119 mi ml)), (144, .inr (.inr (.inl (32, f))))])) :
    ∀ (m k : Nat), k + m = 32 → ∀ i : Int32, i.toInt = (k : Int) → cx_T d 227 [119, 144] 4 ([some (.inr (.inl 119)), some (.inl (.long (sumL f k))), none, some (.inl (.int i))], [], [(119, .inl (11, vs_119 mi ml)), (144, .inr (.inr (.inl (32, f))))]) P := by
  have kc0 : (Int32.ofInt 0).toInt = 0 := by decide +kernel
  have kc1 : (Int32.ofInt 1).toInt = 1 := by decide +kernel
  have kc32 : (Int32.ofInt 32).toInt = 32 := by decide +kernel
  intro m
  induction m with
  | zero =>
    intro k hk i hi 
    have ek : k = 32 := by omega
    subst ek
    refine ex_iload_n cg_227 (ix := 4) (pc' := 5) rfl rfl rfl ?_
    refine ex_bipush cg_227 (ix := 5) (pc' := 7) rfl rfl rfl ?_
    refine ex_icmp cg_227 (ix := 6) (t := 25) (pc' := 10) rfl rfl rfl (fun hb7 => ?_) (fun hb7 => ?_)
    · have hb7 : (Int32.ofInt 32).toInt ≤ i.toInt := hb7
      refine ex_lload_n cg_227 (ix := 16) (pc' := 26) rfl rfl rfl ?_
      refine ex_lreturn cg_227 (ix := 17) rfl ?_
      exact hP
    · have hb7 : ¬ ((Int32.ofInt 32).toInt ≤ i.toInt) := hb7
      exfalso; first | omega | exact absurd hb7 (by decide +kernel)
  | succ m ih =>
    intro k hk i hi 
    have hik : i.toNatClampNeg = k := cx_clamp hi
    refine ex_iload_n cg_227 (ix := 4) (pc' := 5) rfl rfl rfl ?_
    refine ex_bipush cg_227 (ix := 5) (pc' := 7) rfl rfl rfl ?_
    refine ex_icmp cg_227 (ix := 6) (t := 25) (pc' := 10) rfl rfl rfl (fun hb7 => ?_) (fun hb7 => ?_)
    · have hb7 : (Int32.ofInt 32).toInt ≤ i.toInt := hb7
      exfalso; first | omega | exact absurd hb7 (by decide +kernel)
    · have hb7 : ¬ ((Int32.ofInt 32).toInt ≤ i.toInt) := hb7
      refine ex_lload_n cg_227 (ix := 7) (pc' := 11) rfl rfl rfl ?_
      refine ex_aload_n cg_227 (ix := 8) (pc' := 12) rfl rfl rfl ?_
      refine ex_getfield cg_227 (ix := 9) (pc' := 15) (v := .inr (.inl 144)) rfl rfl rfl rfl rfl ?_
      refine ex_iload_n cg_227 (ix := 10) (pc' := 16) rfl rfl rfl ?_
      refine ex_laload cg_227 (ix := 11) (pc' := 17) rfl rfl (by omega) (by omega) rfl ?_
      refine ex_ladd cg_227 (ix := 12) (pc' := 18) rfl rfl ?_
      refine ex_lstore_n cg_227 (ix := 13) (pc' := 19) (L' := [some (.inr (.inl 119)), some (.inl (.long ((sumL f k) + (f i.toNatClampNeg)))), none, some (.inl (.int i))]) rfl rfl rfl rfl ?_
      refine ex_iinc cg_227 (ix := 14) (pc' := 22) (L' := [some (.inr (.inl 119)), some (.inl (.long ((sumL f k) + (f i.toNatClampNeg)))), none, some (.inl (.int (i + Int32.ofInt 1)))]) rfl rfl rfl rfl rfl ?_
      refine ex_goto cg_227 (ix := 15) (pc' := 4) rfl rfl ?_
      rw [hik]
      exact ih (k + 1) (by omega) _ (by rw [cx_addc (by omega) (by omega)]; omega)
theorem ct_mall {mi : Nat → Int32} {ml : Nat → Int64} {f : Nat → Int64} : cx_Ct 2 227 [.inr (.inl 119)] ([(119, .inl (11, vs_119 mi ml)), (144, .inr (.inr (.inl (32, f))))]) (fun v h2 => v = some (.inl (.long (sumL f 32))) ∧ h2 = [(119, .inl (11, vs_119 mi ml)), (144, .inr (.inr (.inl (32, f))))]) := by
  refine cx_Ct.of cg_227 (nL := 4) rfl rfl rfl ?_
  show cx_T 2 227 [119, 144] 0 ([some (.inr (.inl 119)), none, none, none], [], [(119, .inl (11, vs_119 mi ml)), (144, .inr (.inr (.inl (32, f))))]) _
  refine ex_lconst cg_227 (ix := 0) (pc' := 1) rfl rfl ?_
  refine ex_lstore_n cg_227 (ix := 1) (pc' := 2) (L' := [some (.inr (.inl 119)), some (.inl (.long (Int64.ofNat 0))), none, none]) rfl rfl rfl rfl ?_
  refine ex_iconst cg_227 (ix := 2) (pc' := 3) rfl rfl ?_
  refine ex_istore_n cg_227 (ix := 3) (pc' := 4) (L' := [some (.inr (.inl 119)), some (.inl (.long (Int64.ofNat 0))), none, some (.inl (.int (Int32.ofInt 0)))]) rfl rfl rfl rfl ?_
  exact tm_loop ⟨rfl, rfl⟩ 32 0 rfl _ (by decide +kernel)
theorem lm_loop {d : Nat} {mi : Nat → Int32} {ml : Nat → Int64} {p q : Int32} {f : Nat → Int64} {P : Option cx_V → cx_H → Prop}  (hP : P none ([(119, .inl (11, vs_119 mi ml)), (144, .inr (.inr (.inl (32, rowU (lkF f p q) f 32))))])) :
    ∀ (m k : Nat), k + m = 32 → ∀ i : Int32, i.toInt = (k : Int) → cx_T d 229 [119, 144] 2 ([some (.inr (.inl 119)), some (.inl (.int p)), some (.inl (.int q)), some (.inl (.int i))], [], [(119, .inl (11, vs_119 mi ml)), (144, .inr (.inr (.inl (32, rowU (lkF f p q) f k))))]) P := by
  have kc0 : (Int32.ofInt 0).toInt = 0 := by decide +kernel
  have kc1 : (Int32.ofInt 1).toInt = 1 := by decide +kernel
  have kc8 : (Int32.ofInt 8).toInt = 8 := by decide +kernel
  have kc32 : (Int32.ofInt 32).toInt = 32 := by decide +kernel
  intro m
  induction m with
  | zero =>
    intro k hk i hi 
    have ek : k = 32 := by omega
    subst ek
    refine ex_iload_n cg_229 (ix := 2) (pc' := 3) rfl rfl rfl ?_
    refine ex_bipush cg_229 (ix := 3) (pc' := 5) rfl rfl rfl ?_
    refine ex_icmp cg_229 (ix := 4) (t := 39) (pc' := 8) rfl rfl rfl (fun hb5 => ?_) (fun hb5 => ?_)
    · have hb5 : (Int32.ofInt 32).toInt ≤ i.toInt := hb5
      refine ex_return_ cg_229 (ix := 23) rfl ?_
      exact hP
    · have hb5 : ¬ ((Int32.ofInt 32).toInt ≤ i.toInt) := hb5
      exfalso; first | omega | exact absurd hb5 (by decide +kernel)
  | succ m ih =>
    intro k hk i hi 
    have hik : i.toNatClampNeg = k := cx_clamp hi
    refine ex_iload_n cg_229 (ix := 2) (pc' := 3) rfl rfl rfl ?_
    refine ex_bipush cg_229 (ix := 3) (pc' := 5) rfl rfl rfl ?_
    refine ex_icmp cg_229 (ix := 4) (t := 39) (pc' := 8) rfl rfl rfl (fun hb5 => ?_) (fun hb5 => ?_)
    · have hb5 : (Int32.ofInt 32).toInt ≤ i.toInt := hb5
      exfalso; first | omega | exact absurd hb5 (by decide +kernel)
    · have hb5 : ¬ ((Int32.ofInt 32).toInt ≤ i.toInt) := hb5
      refine ex_aload_n cg_229 (ix := 5) (pc' := 9) rfl rfl rfl ?_
      refine ex_getfield cg_229 (ix := 6) (pc' := 12) (v := .inr (.inl 144)) rfl rfl rfl rfl rfl ?_
      refine ex_iload_n cg_229 (ix := 7) (pc' := 13) rfl rfl rfl ?_
      refine ex_dup2 cg_229 (ix := 8) (pc' := 14) rfl rfl rfl rfl ?_
      refine ex_laload cg_229 (ix := 9) (pc' := 15) rfl rfl (by omega) (by omega) rfl ?_
      refine ex_iload_n cg_229 (ix := 10) (pc' := 16) rfl rfl rfl ?_
      refine ex_iload_n cg_229 (ix := 11) (pc' := 17) rfl rfl rfl ?_
      refine ex_icmp cg_229 (ix := 12) (t := 28) (pc' := 20) rfl rfl rfl (fun hb17 => ?_) (fun hb17 => ?_)
      · have hb17 : ¬ i.toInt = p.toInt := hb17
        refine ex_ldc2_w cg_229 (ix := 18) (pc' := 31) rfl rfl rfl ?_
        refine ex_lmul cg_229 (ix := 19) (pc' := 32) rfl rfl ?_
        refine ex_lastore cg_229 (ix := 20) (pc' := 33) (h' := [(119, .inl (11, vs_119 mi ml)), (144, .inr (.inr (.inl (32, vp_updL (rowU (lkF f p q) f k) i.toNatClampNeg (((rowU (lkF f p q) f k) i.toNatClampNeg) * (Int64.ofInt 8))))))]) rfl rfl (by omega) (by omega) rfl rfl ?_
        refine ex_iinc cg_229 (ix := 21) (pc' := 36) (L' := [some (.inr (.inl 119)), some (.inl (.int p)), some (.inl (.int q)), some (.inl (.int (i + Int32.ofInt 1)))]) rfl rfl rfl rfl rfl ?_
        refine ex_goto cg_229 (ix := 22) (pc' := 2) rfl rfl ?_
        have e1 : vp_updL (rowU (lkF f p q) f k) i.toNatClampNeg (((rowU (lkF f p q) f k) i.toNatClampNeg) * (Int64.ofInt 8)) = rowU (lkF f p q) f (k + 1) := by
          rw [hik]
          refine rowU_L ?_
          rw [rowU_out (by omega)]
          unfold lkF
          rw [if_neg (by omega)]
          rw [show (Int32.ofInt 8).toInt64 = Int64.ofInt 8 by decide +kernel]
        rw [e1]
        exact ih (k + 1) (by omega) _ (by rw [cx_addc (by omega) (by omega)]; omega)
      · have hb17 : ¬ (¬ i.toInt = p.toInt) := hb17
        refine ex_bipush cg_229 (ix := 13) (pc' := 22) rfl rfl rfl ?_
        refine ex_iload_n cg_229 (ix := 14) (pc' := 23) rfl rfl rfl ?_
        refine ex_isub cg_229 (ix := 15) (pc' := 24) rfl rfl ?_
        refine ex_i2l cg_229 (ix := 16) (pc' := 25) rfl rfl ?_
        refine ex_goto cg_229 (ix := 17) (pc' := 31) rfl rfl ?_
        refine ex_lmul cg_229 (ix := 19) (pc' := 32) rfl rfl ?_
        refine ex_lastore cg_229 (ix := 20) (pc' := 33) (h' := [(119, .inl (11, vs_119 mi ml)), (144, .inr (.inr (.inl (32, vp_updL (rowU (lkF f p q) f k) i.toNatClampNeg (((rowU (lkF f p q) f k) i.toNatClampNeg) * (Int32.toInt64 ((Int32.ofInt 8) - q)))))))]) rfl rfl (by omega) (by omega) rfl rfl ?_
        refine ex_iinc cg_229 (ix := 21) (pc' := 36) (L' := [some (.inr (.inl 119)), some (.inl (.int p)), some (.inl (.int q)), some (.inl (.int (i + Int32.ofInt 1)))]) rfl rfl rfl rfl rfl ?_
        refine ex_goto cg_229 (ix := 22) (pc' := 2) rfl rfl ?_
        have e1 : vp_updL (rowU (lkF f p q) f k) i.toNatClampNeg (((rowU (lkF f p q) f k) i.toNatClampNeg) * (Int32.toInt64 ((Int32.ofInt 8) - q))) = rowU (lkF f p q) f (k + 1) := by
          rw [hik]
          refine rowU_L ?_
          rw [rowU_out (by omega)]
          unfold lkF
          rw [if_pos (by omega)]
        rw [e1]
        exact ih (k + 1) (by omega) _ (by rw [cx_addc (by omega) (by omega)]; omega)
theorem ct_mlk {mi : Nat → Int32} {ml : Nat → Int64} {p q : Int32} {f : Nat → Int64} : cx_Ct 2 229 [.inr (.inl 119), .inl (.int p), .inl (.int q)] ([(119, .inl (11, vs_119 mi ml)), (144, .inr (.inr (.inl (32, f))))]) (fun v h2 => v = none ∧ h2 = [(119, .inl (11, vs_119 mi ml)), (144, .inr (.inr (.inl (32, rowU (lkF f p q) f 32))))]) := by
  refine cx_Ct.of cg_229 (nL := 4) rfl rfl rfl ?_
  show cx_T 2 229 [119, 144] 0 ([some (.inr (.inl 119)), some (.inl (.int p)), some (.inl (.int q)), none], [], [(119, .inl (11, vs_119 mi ml)), (144, .inr (.inr (.inl (32, f))))]) _
  refine ex_iconst cg_229 (ix := 0) (pc' := 1) rfl rfl ?_
  refine ex_istore_n cg_229 (ix := 1) (pc' := 2) (L' := [some (.inr (.inl 119)), some (.inl (.int p)), some (.inl (.int q)), some (.inl (.int (Int32.ofInt 0)))]) rfl rfl rfl rfl ?_
  have e0 := lm_loop (d := 2) (mi := mi) (ml := ml) (f := f) (p := p) (q := q) (P := fun v h2 => v = none ∧ h2 = [(119, .inl (11, vs_119 mi ml)), (144, .inr (.inr (.inl (32, rowU (lkF f p q) f 32))))]) ⟨rfl, rfl⟩ 32 0 rfl (Int32.ofInt 0) (by decide +kernel)
  rw [rowU_0] at e0
  exact e0
theorem dm_l3 {d : Nat} {mi : Nat → Int32} {ml : Nat → Int64} {f nx : Nat → Int64} {P : Option cx_V → cx_H → Prop}  (hP : P none ([(119, .inl (11, vs_119 mi ml)), (144, .inr (.inr (.inl (32, rowU nx f 32)))), (145, .inr (.inr (.inl (32, nx))))])) :
    ∀ (m k : Nat), k + m = 32 → ∀ i : Int32, i.toInt = (k : Int) → cx_T d 228 [119, 144, 145] 123 ([some (.inr (.inl 119)), some (.inl (.int i))], [], [(119, .inl (11, vs_119 mi ml)), (144, .inr (.inr (.inl (32, rowU nx f k)))), (145, .inr (.inr (.inl (32, nx))))]) P := by
  have kc0 : (Int32.ofInt 0).toInt = 0 := by decide +kernel
  have kc1 : (Int32.ofInt 1).toInt = 1 := by decide +kernel
  have kc31 : (Int32.ofInt 31).toInt = 31 := by decide +kernel
  have kc32 : (Int32.ofInt 32).toInt = 32 := by decide +kernel
  intro m
  induction m with
  | zero =>
    intro k hk i hi 
    have ek : k = 32 := by omega
    subst ek
    refine ex_iload_n cg_228 (ix := 79) (pc' := 124) rfl rfl rfl ?_
    refine ex_bipush cg_228 (ix := 80) (pc' := 126) rfl rfl rfl ?_
    refine ex_icmp cg_228 (ix := 81) (t := 147) (pc' := 129) rfl rfl rfl (fun hb126 => ?_) (fun hb126 => ?_)
    · have hb126 : (Int32.ofInt 32).toInt ≤ i.toInt := hb126
      refine ex_return_ cg_228 (ix := 92) rfl ?_
      exact hP
    · have hb126 : ¬ ((Int32.ofInt 32).toInt ≤ i.toInt) := hb126
      exfalso; first | omega | exact absurd hb126 (by decide +kernel)
  | succ m ih =>
    intro k hk i hi 
    have hik : i.toNatClampNeg = k := cx_clamp hi
    refine ex_iload_n cg_228 (ix := 79) (pc' := 124) rfl rfl rfl ?_
    refine ex_bipush cg_228 (ix := 80) (pc' := 126) rfl rfl rfl ?_
    refine ex_icmp cg_228 (ix := 81) (t := 147) (pc' := 129) rfl rfl rfl (fun hb126 => ?_) (fun hb126 => ?_)
    · have hb126 : (Int32.ofInt 32).toInt ≤ i.toInt := hb126
      exfalso; first | omega | exact absurd hb126 (by decide +kernel)
    · have hb126 : ¬ ((Int32.ofInt 32).toInt ≤ i.toInt) := hb126
      refine ex_aload_n cg_228 (ix := 82) (pc' := 130) rfl rfl rfl ?_
      refine ex_getfield cg_228 (ix := 83) (pc' := 133) (v := .inr (.inl 144)) rfl rfl rfl rfl rfl ?_
      refine ex_iload_n cg_228 (ix := 84) (pc' := 134) rfl rfl rfl ?_
      refine ex_aload_n cg_228 (ix := 85) (pc' := 135) rfl rfl rfl ?_
      refine ex_getfield cg_228 (ix := 86) (pc' := 138) (v := .inr (.inl 145)) rfl rfl rfl rfl rfl ?_
      refine ex_iload_n cg_228 (ix := 87) (pc' := 139) rfl rfl rfl ?_
      refine ex_laload cg_228 (ix := 88) (pc' := 140) rfl rfl (by omega) (by omega) rfl ?_
      refine ex_lastore cg_228 (ix := 89) (pc' := 141) (h' := [(119, .inl (11, vs_119 mi ml)), (144, .inr (.inr (.inl (32, vp_updL (rowU nx f k) i.toNatClampNeg (nx i.toNatClampNeg))))), (145, .inr (.inr (.inl (32, nx))))]) rfl rfl (by omega) (by omega) rfl rfl ?_
      refine ex_iinc cg_228 (ix := 90) (pc' := 144) (L' := [some (.inr (.inl 119)), some (.inl (.int (i + Int32.ofInt 1)))]) rfl rfl rfl rfl rfl ?_
      refine ex_goto cg_228 (ix := 91) (pc' := 123) rfl rfl ?_
      have e1 : vp_updL (rowU nx f k) i.toNatClampNeg (nx i.toNatClampNeg) = rowU nx f (k + 1) := by
        rw [hik]
        exact rowU_L rfl
      rw [e1]
      exact ih (k + 1) (by omega) _ (by rw [cx_addc (by omega) (by omega)]; omega)
theorem dm_l2 {d : Nat} {mi : Nat → Int32} {ml : Nat → Int64} {f n0 : Nat → Int64} {P : Option cx_V → cx_H → Prop}  (hP : P none ([(119, .inl (11, vs_119 mi ml)), (144, .inr (.inr (.inl (32, rowU (nxF n0 f (mi 42) (mi 43) (mi 44) 32) f 32)))), (145, .inr (.inr (.inl (32, nxF n0 f (mi 42) (mi 43) (mi 44) 32))))])) :
    ∀ (m k : Nat), k + m = 32 → ∀ i : Int32, i.toInt = (k : Int) → cx_T d 228 [119, 144, 145] 23 ([some (.inr (.inl 119)), some (.inl (.int i))], [], [(119, .inl (11, vs_119 mi ml)), (144, .inr (.inr (.inl (32, f)))), (145, .inr (.inr (.inl (32, nxF n0 f (mi 42) (mi 43) (mi 44) k))))]) P := by
  have kc0 : (Int32.ofInt 0).toInt = 0 := by decide +kernel
  have kc1 : (Int32.ofInt 1).toInt = 1 := by decide +kernel
  have kc31 : (Int32.ofInt 31).toInt = 31 := by decide +kernel
  have kc32 : (Int32.ofInt 32).toInt = 32 := by decide +kernel
  intro m
  induction m with
  | zero =>
    intro k hk i hi 
    have ek : k = 32 := by omega
    subst ek
    refine ex_iload_n cg_228 (ix := 14) (pc' := 24) rfl rfl rfl ?_
    refine ex_bipush cg_228 (ix := 15) (pc' := 26) rfl rfl rfl ?_
    refine ex_icmp cg_228 (ix := 16) (t := 121) (pc' := 29) rfl rfl rfl (fun hb26 => ?_) (fun hb26 => ?_)
    · have hb26 : (Int32.ofInt 32).toInt ≤ i.toInt := hb26
      refine ex_iconst cg_228 (ix := 77) (pc' := 122) rfl rfl ?_
      refine ex_istore_n cg_228 (ix := 78) (pc' := 123) (L' := [some (.inr (.inl 119)), some (.inl (.int (Int32.ofInt 0)))]) rfl rfl rfl rfl ?_
      have e0 := dm_l3 (d := d) (mi := mi) (ml := ml) (f := f) (nx := nxF n0 f (mi 42) (mi 43) (mi 44) 32) (P := P) hP 32 0 rfl (Int32.ofInt 0) (by decide +kernel)
      rw [rowU_0] at e0
      exact e0
    · have hb26 : ¬ ((Int32.ofInt 32).toInt ≤ i.toInt) := hb26
      exfalso; first | omega | exact absurd hb26 (by decide +kernel)
  | succ m ih =>
    intro k hk i hi 
    have hik : i.toNatClampNeg = k := cx_clamp hi
    refine ex_iload_n cg_228 (ix := 14) (pc' := 24) rfl rfl rfl ?_
    refine ex_bipush cg_228 (ix := 15) (pc' := 26) rfl rfl rfl ?_
    refine ex_icmp cg_228 (ix := 16) (t := 121) (pc' := 29) rfl rfl rfl (fun hb26 => ?_) (fun hb26 => ?_)
    · have hb26 : (Int32.ofInt 32).toInt ≤ i.toInt := hb26
      exfalso; first | omega | exact absurd hb26 (by decide +kernel)
    · have hb26 : ¬ ((Int32.ofInt 32).toInt ≤ i.toInt) := hb26
      refine ex_aload_n cg_228 (ix := 17) (pc' := 30) rfl rfl rfl ?_
      refine ex_getfield cg_228 (ix := 18) (pc' := 33) (v := .inr (.inl 145)) rfl rfl rfl rfl rfl ?_
      refine ex_iload_n cg_228 (ix := 19) (pc' := 34) rfl rfl rfl ?_
      refine ex_if cg_228 (ix := 20) (t := 41) (pc' := 37) rfl rfl rfl (fun hb34 => ?_) (fun hb34 => ?_)
      · have hb34 : ¬ i.toInt = 0 := hb34
        refine ex_iload_n cg_228 (ix := 23) (pc' := 42) rfl rfl rfl ?_
        refine ex_iconst cg_228 (ix := 24) (pc' := 43) rfl rfl ?_
        refine ex_isub cg_228 (ix := 25) (pc' := 44) rfl rfl ?_
        refine ex_dup2 cg_228 (ix := 26) (pc' := 45) rfl rfl rfl rfl ?_
        refine ex_laload cg_228 (ix := 27) (pc' := 46) rfl rfl (by first | omega | (rw [cx_subc (by omega) (by omega)]; omega)) (by first | omega | (rw [cx_subc (by omega) (by omega)]; omega)) rfl ?_
        refine ex_aload_n cg_228 (ix := 28) (pc' := 47) rfl rfl rfl ?_
        refine ex_getfield cg_228 (ix := 29) (pc' := 50) (v := .inr (.inl 144)) rfl rfl rfl rfl rfl ?_
        refine ex_iload_n cg_228 (ix := 30) (pc' := 51) rfl rfl rfl ?_
        refine ex_laload cg_228 (ix := 31) (pc' := 52) rfl rfl (by omega) (by omega) rfl ?_
        refine ex_aload_n cg_228 (ix := 32) (pc' := 53) rfl rfl rfl ?_
        refine ex_getfield cg_228 (ix := 33) (pc' := 56) (v := .inl (.int (mi 42))) rfl rfl rfl rfl rfl ?_
        refine ex_i2l cg_228 (ix := 34) (pc' := 57) rfl rfl ?_
        refine ex_lmul cg_228 (ix := 35) (pc' := 58) rfl rfl ?_
        refine ex_ladd cg_228 (ix := 36) (pc' := 59) rfl rfl ?_
        refine ex_lastore cg_228 (ix := 37) (pc' := 60) (h' := [(119, .inl (11, vs_119 mi ml)), (144, .inr (.inr (.inl (32, f)))), (145, .inr (.inr (.inl (32, vp_updL (nxF n0 f (mi 42) (mi 43) (mi 44) k) (i - (Int32.ofInt 1)).toNatClampNeg (((nxF n0 f (mi 42) (mi 43) (mi 44) k) (i - (Int32.ofInt 1)).toNatClampNeg) + ((f i.toNatClampNeg) * (Int32.toInt64 (mi 42))))))))]) rfl rfl (by first | omega | (rw [cx_subc (by omega) (by omega)]; omega)) (by first | omega | (rw [cx_subc (by omega) (by omega)]; omega)) rfl rfl ?_
        refine ex_aload_n cg_228 (ix := 38) (pc' := 61) rfl rfl rfl ?_
        refine ex_getfield cg_228 (ix := 39) (pc' := 64) (v := .inr (.inl 145)) rfl rfl rfl rfl rfl ?_
        refine ex_iload_n cg_228 (ix := 40) (pc' := 65) rfl rfl rfl ?_
        refine ex_dup2 cg_228 (ix := 41) (pc' := 66) rfl rfl rfl rfl ?_
        refine ex_laload cg_228 (ix := 42) (pc' := 67) rfl rfl (by omega) (by omega) rfl ?_
        refine ex_aload_n cg_228 (ix := 43) (pc' := 68) rfl rfl rfl ?_
        refine ex_getfield cg_228 (ix := 44) (pc' := 71) (v := .inr (.inl 144)) rfl rfl rfl rfl rfl ?_
        refine ex_iload_n cg_228 (ix := 45) (pc' := 72) rfl rfl rfl ?_
        refine ex_laload cg_228 (ix := 46) (pc' := 73) rfl rfl (by omega) (by omega) rfl ?_
        refine ex_aload_n cg_228 (ix := 47) (pc' := 74) rfl rfl rfl ?_
        refine ex_getfield cg_228 (ix := 48) (pc' := 77) (v := .inl (.int (mi 43))) rfl rfl rfl rfl rfl ?_
        refine ex_i2l cg_228 (ix := 49) (pc' := 78) rfl rfl ?_
        refine ex_lmul cg_228 (ix := 50) (pc' := 79) rfl rfl ?_
        refine ex_ladd cg_228 (ix := 51) (pc' := 80) rfl rfl ?_
        refine ex_lastore cg_228 (ix := 52) (pc' := 81) (h' := [(119, .inl (11, vs_119 mi ml)), (144, .inr (.inr (.inl (32, f)))), (145, .inr (.inr (.inl (32, vp_updL (vp_updL (nxF n0 f (mi 42) (mi 43) (mi 44) k) (i - (Int32.ofInt 1)).toNatClampNeg (((nxF n0 f (mi 42) (mi 43) (mi 44) k) (i - (Int32.ofInt 1)).toNatClampNeg) + ((f i.toNatClampNeg) * (Int32.toInt64 (mi 42))))) i.toNatClampNeg (((vp_updL (nxF n0 f (mi 42) (mi 43) (mi 44) k) (i - (Int32.ofInt 1)).toNatClampNeg (((nxF n0 f (mi 42) (mi 43) (mi 44) k) (i - (Int32.ofInt 1)).toNatClampNeg) + ((f i.toNatClampNeg) * (Int32.toInt64 (mi 42))))) i.toNatClampNeg) + ((f i.toNatClampNeg) * (Int32.toInt64 (mi 43))))))))]) rfl rfl (by omega) (by omega) rfl rfl ?_
        refine ex_aload_n cg_228 (ix := 53) (pc' := 82) rfl rfl rfl ?_
        refine ex_getfield cg_228 (ix := 54) (pc' := 85) (v := .inr (.inl 145)) rfl rfl rfl rfl rfl ?_
        refine ex_iload_n cg_228 (ix := 55) (pc' := 86) rfl rfl rfl ?_
        refine ex_bipush cg_228 (ix := 56) (pc' := 88) rfl rfl rfl ?_
        refine ex_icmp cg_228 (ix := 57) (t := 96) (pc' := 91) rfl rfl rfl (fun hb88 => ?_) (fun hb88 => ?_)
        · have hb88 : ¬ i.toInt = (Int32.ofInt 31).toInt := hb88
          refine ex_iload_n cg_228 (ix := 60) (pc' := 97) rfl rfl rfl ?_
          refine ex_iconst cg_228 (ix := 61) (pc' := 98) rfl rfl ?_
          refine ex_iadd cg_228 (ix := 62) (pc' := 99) rfl rfl ?_
          refine ex_dup2 cg_228 (ix := 63) (pc' := 100) rfl rfl rfl rfl ?_
          refine ex_laload cg_228 (ix := 64) (pc' := 101) rfl rfl (by first | omega | (rw [cx_addc (by omega) (by omega)]; omega)) (by first | omega | (rw [cx_addc (by omega) (by omega)]; omega)) rfl ?_
          refine ex_aload_n cg_228 (ix := 65) (pc' := 102) rfl rfl rfl ?_
          refine ex_getfield cg_228 (ix := 66) (pc' := 105) (v := .inr (.inl 144)) rfl rfl rfl rfl rfl ?_
          refine ex_iload_n cg_228 (ix := 67) (pc' := 106) rfl rfl rfl ?_
          refine ex_laload cg_228 (ix := 68) (pc' := 107) rfl rfl (by omega) (by omega) rfl ?_
          refine ex_aload_n cg_228 (ix := 69) (pc' := 108) rfl rfl rfl ?_
          refine ex_getfield cg_228 (ix := 70) (pc' := 111) (v := .inl (.int (mi 44))) rfl rfl rfl rfl rfl ?_
          refine ex_i2l cg_228 (ix := 71) (pc' := 112) rfl rfl ?_
          refine ex_lmul cg_228 (ix := 72) (pc' := 113) rfl rfl ?_
          refine ex_ladd cg_228 (ix := 73) (pc' := 114) rfl rfl ?_
          refine ex_lastore cg_228 (ix := 74) (pc' := 115) (h' := [(119, .inl (11, vs_119 mi ml)), (144, .inr (.inr (.inl (32, f)))), (145, .inr (.inr (.inl (32, vp_updL (vp_updL (vp_updL (nxF n0 f (mi 42) (mi 43) (mi 44) k) (i - (Int32.ofInt 1)).toNatClampNeg (((nxF n0 f (mi 42) (mi 43) (mi 44) k) (i - (Int32.ofInt 1)).toNatClampNeg) + ((f i.toNatClampNeg) * (Int32.toInt64 (mi 42))))) i.toNatClampNeg (((vp_updL (nxF n0 f (mi 42) (mi 43) (mi 44) k) (i - (Int32.ofInt 1)).toNatClampNeg (((nxF n0 f (mi 42) (mi 43) (mi 44) k) (i - (Int32.ofInt 1)).toNatClampNeg) + ((f i.toNatClampNeg) * (Int32.toInt64 (mi 42))))) i.toNatClampNeg) + ((f i.toNatClampNeg) * (Int32.toInt64 (mi 43))))) (i + (Int32.ofInt 1)).toNatClampNeg (((vp_updL (vp_updL (nxF n0 f (mi 42) (mi 43) (mi 44) k) (i - (Int32.ofInt 1)).toNatClampNeg (((nxF n0 f (mi 42) (mi 43) (mi 44) k) (i - (Int32.ofInt 1)).toNatClampNeg) + ((f i.toNatClampNeg) * (Int32.toInt64 (mi 42))))) i.toNatClampNeg (((vp_updL (nxF n0 f (mi 42) (mi 43) (mi 44) k) (i - (Int32.ofInt 1)).toNatClampNeg (((nxF n0 f (mi 42) (mi 43) (mi 44) k) (i - (Int32.ofInt 1)).toNatClampNeg) + ((f i.toNatClampNeg) * (Int32.toInt64 (mi 42))))) i.toNatClampNeg) + ((f i.toNatClampNeg) * (Int32.toInt64 (mi 43))))) (i + (Int32.ofInt 1)).toNatClampNeg) + ((f i.toNatClampNeg) * (Int32.toInt64 (mi 44))))))))]) rfl rfl (by first | omega | (rw [cx_addc (by omega) (by omega)]; omega)) (by first | omega | (rw [cx_addc (by omega) (by omega)]; omega)) rfl rfl ?_
          refine ex_iinc cg_228 (ix := 75) (pc' := 118) (L' := [some (.inr (.inl 119)), some (.inl (.int (i + Int32.ofInt 1)))]) rfl rfl rfl rfl rfl ?_
          refine ex_goto cg_228 (ix := 76) (pc' := 23) rfl rfl ?_
          have e1 : vp_updL (vp_updL (vp_updL (nxF n0 f (mi 42) (mi 43) (mi 44) k) (i - (Int32.ofInt 1)).toNatClampNeg (((nxF n0 f (mi 42) (mi 43) (mi 44) k) (i - (Int32.ofInt 1)).toNatClampNeg) + ((f i.toNatClampNeg) * (Int32.toInt64 (mi 42))))) i.toNatClampNeg (((vp_updL (nxF n0 f (mi 42) (mi 43) (mi 44) k) (i - (Int32.ofInt 1)).toNatClampNeg (((nxF n0 f (mi 42) (mi 43) (mi 44) k) (i - (Int32.ofInt 1)).toNatClampNeg) + ((f i.toNatClampNeg) * (Int32.toInt64 (mi 42))))) i.toNatClampNeg) + ((f i.toNatClampNeg) * (Int32.toInt64 (mi 43))))) (i + (Int32.ofInt 1)).toNatClampNeg (((vp_updL (vp_updL (nxF n0 f (mi 42) (mi 43) (mi 44) k) (i - (Int32.ofInt 1)).toNatClampNeg (((nxF n0 f (mi 42) (mi 43) (mi 44) k) (i - (Int32.ofInt 1)).toNatClampNeg) + ((f i.toNatClampNeg) * (Int32.toInt64 (mi 42))))) i.toNatClampNeg (((vp_updL (nxF n0 f (mi 42) (mi 43) (mi 44) k) (i - (Int32.ofInt 1)).toNatClampNeg (((nxF n0 f (mi 42) (mi 43) (mi 44) k) (i - (Int32.ofInt 1)).toNatClampNeg) + ((f i.toNatClampNeg) * (Int32.toInt64 (mi 42))))) i.toNatClampNeg) + ((f i.toNatClampNeg) * (Int32.toInt64 (mi 43))))) (i + (Int32.ofInt 1)).toNatClampNeg) + ((f i.toNatClampNeg) * (Int32.toInt64 (mi 44)))) = nxF n0 f (mi 42) (mi 43) (mi 44) (k + 1) := by
            have a1 : (i - Int32.ofInt 1).toNatClampNeg = k - 1 := cx_clamp (by rw [cx_subc (by omega) (by omega)]; omega)
            have a2 : (i + Int32.ofInt 1).toNatClampNeg = k + 1 := cx_clamp (by rw [cx_addc (by omega) (by omega)]; omega)
            rw [hik, a1, a2, nxF]
            unfold nxS adL
            rw [if_neg (by omega), if_neg (by omega)]
          rw [e1]
          exact ih (k + 1) (by omega) _ (by rw [cx_addc (by omega) (by omega)]; omega)
        · have hb88 : ¬ (¬ i.toInt = (Int32.ofInt 31).toInt) := hb88
          refine ex_bipush cg_228 (ix := 58) (pc' := 93) rfl rfl rfl ?_
          refine ex_goto cg_228 (ix := 59) (pc' := 99) rfl rfl ?_
          refine ex_dup2 cg_228 (ix := 63) (pc' := 100) rfl rfl rfl rfl ?_
          refine ex_laload cg_228 (ix := 64) (pc' := 101) rfl rfl (by first | omega | (rw [cx_addc (by omega) (by omega)]; omega)) (by first | omega | (rw [cx_addc (by omega) (by omega)]; omega)) rfl ?_
          refine ex_aload_n cg_228 (ix := 65) (pc' := 102) rfl rfl rfl ?_
          refine ex_getfield cg_228 (ix := 66) (pc' := 105) (v := .inr (.inl 144)) rfl rfl rfl rfl rfl ?_
          refine ex_iload_n cg_228 (ix := 67) (pc' := 106) rfl rfl rfl ?_
          refine ex_laload cg_228 (ix := 68) (pc' := 107) rfl rfl (by omega) (by omega) rfl ?_
          refine ex_aload_n cg_228 (ix := 69) (pc' := 108) rfl rfl rfl ?_
          refine ex_getfield cg_228 (ix := 70) (pc' := 111) (v := .inl (.int (mi 44))) rfl rfl rfl rfl rfl ?_
          refine ex_i2l cg_228 (ix := 71) (pc' := 112) rfl rfl ?_
          refine ex_lmul cg_228 (ix := 72) (pc' := 113) rfl rfl ?_
          refine ex_ladd cg_228 (ix := 73) (pc' := 114) rfl rfl ?_
          refine ex_lastore cg_228 (ix := 74) (pc' := 115) (h' := [(119, .inl (11, vs_119 mi ml)), (144, .inr (.inr (.inl (32, f)))), (145, .inr (.inr (.inl (32, vp_updL (vp_updL (vp_updL (nxF n0 f (mi 42) (mi 43) (mi 44) k) (i - (Int32.ofInt 1)).toNatClampNeg (((nxF n0 f (mi 42) (mi 43) (mi 44) k) (i - (Int32.ofInt 1)).toNatClampNeg) + ((f i.toNatClampNeg) * (Int32.toInt64 (mi 42))))) i.toNatClampNeg (((vp_updL (nxF n0 f (mi 42) (mi 43) (mi 44) k) (i - (Int32.ofInt 1)).toNatClampNeg (((nxF n0 f (mi 42) (mi 43) (mi 44) k) (i - (Int32.ofInt 1)).toNatClampNeg) + ((f i.toNatClampNeg) * (Int32.toInt64 (mi 42))))) i.toNatClampNeg) + ((f i.toNatClampNeg) * (Int32.toInt64 (mi 43))))) (Int32.ofInt 31).toNatClampNeg (((vp_updL (vp_updL (nxF n0 f (mi 42) (mi 43) (mi 44) k) (i - (Int32.ofInt 1)).toNatClampNeg (((nxF n0 f (mi 42) (mi 43) (mi 44) k) (i - (Int32.ofInt 1)).toNatClampNeg) + ((f i.toNatClampNeg) * (Int32.toInt64 (mi 42))))) i.toNatClampNeg (((vp_updL (nxF n0 f (mi 42) (mi 43) (mi 44) k) (i - (Int32.ofInt 1)).toNatClampNeg (((nxF n0 f (mi 42) (mi 43) (mi 44) k) (i - (Int32.ofInt 1)).toNatClampNeg) + ((f i.toNatClampNeg) * (Int32.toInt64 (mi 42))))) i.toNatClampNeg) + ((f i.toNatClampNeg) * (Int32.toInt64 (mi 43))))) (Int32.ofInt 31).toNatClampNeg) + ((f i.toNatClampNeg) * (Int32.toInt64 (mi 44))))))))]) rfl rfl (by first | omega | (rw [cx_addc (by omega) (by omega)]; omega)) (by first | omega | (rw [cx_addc (by omega) (by omega)]; omega)) rfl rfl ?_
          refine ex_iinc cg_228 (ix := 75) (pc' := 118) (L' := [some (.inr (.inl 119)), some (.inl (.int (i + Int32.ofInt 1)))]) rfl rfl rfl rfl rfl ?_
          refine ex_goto cg_228 (ix := 76) (pc' := 23) rfl rfl ?_
          have e1 : vp_updL (vp_updL (vp_updL (nxF n0 f (mi 42) (mi 43) (mi 44) k) (i - (Int32.ofInt 1)).toNatClampNeg (((nxF n0 f (mi 42) (mi 43) (mi 44) k) (i - (Int32.ofInt 1)).toNatClampNeg) + ((f i.toNatClampNeg) * (Int32.toInt64 (mi 42))))) i.toNatClampNeg (((vp_updL (nxF n0 f (mi 42) (mi 43) (mi 44) k) (i - (Int32.ofInt 1)).toNatClampNeg (((nxF n0 f (mi 42) (mi 43) (mi 44) k) (i - (Int32.ofInt 1)).toNatClampNeg) + ((f i.toNatClampNeg) * (Int32.toInt64 (mi 42))))) i.toNatClampNeg) + ((f i.toNatClampNeg) * (Int32.toInt64 (mi 43))))) (Int32.ofInt 31).toNatClampNeg (((vp_updL (vp_updL (nxF n0 f (mi 42) (mi 43) (mi 44) k) (i - (Int32.ofInt 1)).toNatClampNeg (((nxF n0 f (mi 42) (mi 43) (mi 44) k) (i - (Int32.ofInt 1)).toNatClampNeg) + ((f i.toNatClampNeg) * (Int32.toInt64 (mi 42))))) i.toNatClampNeg (((vp_updL (nxF n0 f (mi 42) (mi 43) (mi 44) k) (i - (Int32.ofInt 1)).toNatClampNeg (((nxF n0 f (mi 42) (mi 43) (mi 44) k) (i - (Int32.ofInt 1)).toNatClampNeg) + ((f i.toNatClampNeg) * (Int32.toInt64 (mi 42))))) i.toNatClampNeg) + ((f i.toNatClampNeg) * (Int32.toInt64 (mi 43))))) (Int32.ofInt 31).toNatClampNeg) + ((f i.toNatClampNeg) * (Int32.toInt64 (mi 44)))) = nxF n0 f (mi 42) (mi 43) (mi 44) (k + 1) := by
            have a1 : (i - Int32.ofInt 1).toNatClampNeg = k - 1 := cx_clamp (by rw [cx_subc (by omega) (by omega)]; omega)
            have a2 : (Int32.ofInt 31).toNatClampNeg = 31 := by decide +kernel
            rw [hik, a1, a2, nxF]
            unfold nxS adL
            rw [if_neg (by omega), if_pos (by omega)]
          rw [e1]
          exact ih (k + 1) (by omega) _ (by rw [cx_addc (by omega) (by omega)]; omega)
      · have hb34 : ¬ (¬ i.toInt = 0) := hb34
        refine ex_iconst cg_228 (ix := 21) (pc' := 38) rfl rfl ?_
        refine ex_goto cg_228 (ix := 22) (pc' := 44) rfl rfl ?_
        refine ex_dup2 cg_228 (ix := 26) (pc' := 45) rfl rfl rfl rfl ?_
        refine ex_laload cg_228 (ix := 27) (pc' := 46) rfl rfl (by first | omega | (rw [cx_subc (by omega) (by omega)]; omega)) (by first | omega | (rw [cx_subc (by omega) (by omega)]; omega)) rfl ?_
        refine ex_aload_n cg_228 (ix := 28) (pc' := 47) rfl rfl rfl ?_
        refine ex_getfield cg_228 (ix := 29) (pc' := 50) (v := .inr (.inl 144)) rfl rfl rfl rfl rfl ?_
        refine ex_iload_n cg_228 (ix := 30) (pc' := 51) rfl rfl rfl ?_
        refine ex_laload cg_228 (ix := 31) (pc' := 52) rfl rfl (by omega) (by omega) rfl ?_
        refine ex_aload_n cg_228 (ix := 32) (pc' := 53) rfl rfl rfl ?_
        refine ex_getfield cg_228 (ix := 33) (pc' := 56) (v := .inl (.int (mi 42))) rfl rfl rfl rfl rfl ?_
        refine ex_i2l cg_228 (ix := 34) (pc' := 57) rfl rfl ?_
        refine ex_lmul cg_228 (ix := 35) (pc' := 58) rfl rfl ?_
        refine ex_ladd cg_228 (ix := 36) (pc' := 59) rfl rfl ?_
        refine ex_lastore cg_228 (ix := 37) (pc' := 60) (h' := [(119, .inl (11, vs_119 mi ml)), (144, .inr (.inr (.inl (32, f)))), (145, .inr (.inr (.inl (32, vp_updL (nxF n0 f (mi 42) (mi 43) (mi 44) k) (Int32.ofInt 0).toNatClampNeg (((nxF n0 f (mi 42) (mi 43) (mi 44) k) (Int32.ofInt 0).toNatClampNeg) + ((f i.toNatClampNeg) * (Int32.toInt64 (mi 42))))))))]) rfl rfl (by first | omega | (rw [cx_subc (by omega) (by omega)]; omega)) (by first | omega | (rw [cx_subc (by omega) (by omega)]; omega)) rfl rfl ?_
        refine ex_aload_n cg_228 (ix := 38) (pc' := 61) rfl rfl rfl ?_
        refine ex_getfield cg_228 (ix := 39) (pc' := 64) (v := .inr (.inl 145)) rfl rfl rfl rfl rfl ?_
        refine ex_iload_n cg_228 (ix := 40) (pc' := 65) rfl rfl rfl ?_
        refine ex_dup2 cg_228 (ix := 41) (pc' := 66) rfl rfl rfl rfl ?_
        refine ex_laload cg_228 (ix := 42) (pc' := 67) rfl rfl (by omega) (by omega) rfl ?_
        refine ex_aload_n cg_228 (ix := 43) (pc' := 68) rfl rfl rfl ?_
        refine ex_getfield cg_228 (ix := 44) (pc' := 71) (v := .inr (.inl 144)) rfl rfl rfl rfl rfl ?_
        refine ex_iload_n cg_228 (ix := 45) (pc' := 72) rfl rfl rfl ?_
        refine ex_laload cg_228 (ix := 46) (pc' := 73) rfl rfl (by omega) (by omega) rfl ?_
        refine ex_aload_n cg_228 (ix := 47) (pc' := 74) rfl rfl rfl ?_
        refine ex_getfield cg_228 (ix := 48) (pc' := 77) (v := .inl (.int (mi 43))) rfl rfl rfl rfl rfl ?_
        refine ex_i2l cg_228 (ix := 49) (pc' := 78) rfl rfl ?_
        refine ex_lmul cg_228 (ix := 50) (pc' := 79) rfl rfl ?_
        refine ex_ladd cg_228 (ix := 51) (pc' := 80) rfl rfl ?_
        refine ex_lastore cg_228 (ix := 52) (pc' := 81) (h' := [(119, .inl (11, vs_119 mi ml)), (144, .inr (.inr (.inl (32, f)))), (145, .inr (.inr (.inl (32, vp_updL (vp_updL (nxF n0 f (mi 42) (mi 43) (mi 44) k) (Int32.ofInt 0).toNatClampNeg (((nxF n0 f (mi 42) (mi 43) (mi 44) k) (Int32.ofInt 0).toNatClampNeg) + ((f i.toNatClampNeg) * (Int32.toInt64 (mi 42))))) i.toNatClampNeg (((vp_updL (nxF n0 f (mi 42) (mi 43) (mi 44) k) (Int32.ofInt 0).toNatClampNeg (((nxF n0 f (mi 42) (mi 43) (mi 44) k) (Int32.ofInt 0).toNatClampNeg) + ((f i.toNatClampNeg) * (Int32.toInt64 (mi 42))))) i.toNatClampNeg) + ((f i.toNatClampNeg) * (Int32.toInt64 (mi 43))))))))]) rfl rfl (by omega) (by omega) rfl rfl ?_
        refine ex_aload_n cg_228 (ix := 53) (pc' := 82) rfl rfl rfl ?_
        refine ex_getfield cg_228 (ix := 54) (pc' := 85) (v := .inr (.inl 145)) rfl rfl rfl rfl rfl ?_
        refine ex_iload_n cg_228 (ix := 55) (pc' := 86) rfl rfl rfl ?_
        refine ex_bipush cg_228 (ix := 56) (pc' := 88) rfl rfl rfl ?_
        refine ex_icmp cg_228 (ix := 57) (t := 96) (pc' := 91) rfl rfl rfl (fun hb88 => ?_) (fun hb88 => ?_)
        · have hb88 : ¬ i.toInt = (Int32.ofInt 31).toInt := hb88
          refine ex_iload_n cg_228 (ix := 60) (pc' := 97) rfl rfl rfl ?_
          refine ex_iconst cg_228 (ix := 61) (pc' := 98) rfl rfl ?_
          refine ex_iadd cg_228 (ix := 62) (pc' := 99) rfl rfl ?_
          refine ex_dup2 cg_228 (ix := 63) (pc' := 100) rfl rfl rfl rfl ?_
          refine ex_laload cg_228 (ix := 64) (pc' := 101) rfl rfl (by first | omega | (rw [cx_addc (by omega) (by omega)]; omega)) (by first | omega | (rw [cx_addc (by omega) (by omega)]; omega)) rfl ?_
          refine ex_aload_n cg_228 (ix := 65) (pc' := 102) rfl rfl rfl ?_
          refine ex_getfield cg_228 (ix := 66) (pc' := 105) (v := .inr (.inl 144)) rfl rfl rfl rfl rfl ?_
          refine ex_iload_n cg_228 (ix := 67) (pc' := 106) rfl rfl rfl ?_
          refine ex_laload cg_228 (ix := 68) (pc' := 107) rfl rfl (by omega) (by omega) rfl ?_
          refine ex_aload_n cg_228 (ix := 69) (pc' := 108) rfl rfl rfl ?_
          refine ex_getfield cg_228 (ix := 70) (pc' := 111) (v := .inl (.int (mi 44))) rfl rfl rfl rfl rfl ?_
          refine ex_i2l cg_228 (ix := 71) (pc' := 112) rfl rfl ?_
          refine ex_lmul cg_228 (ix := 72) (pc' := 113) rfl rfl ?_
          refine ex_ladd cg_228 (ix := 73) (pc' := 114) rfl rfl ?_
          refine ex_lastore cg_228 (ix := 74) (pc' := 115) (h' := [(119, .inl (11, vs_119 mi ml)), (144, .inr (.inr (.inl (32, f)))), (145, .inr (.inr (.inl (32, vp_updL (vp_updL (vp_updL (nxF n0 f (mi 42) (mi 43) (mi 44) k) (Int32.ofInt 0).toNatClampNeg (((nxF n0 f (mi 42) (mi 43) (mi 44) k) (Int32.ofInt 0).toNatClampNeg) + ((f i.toNatClampNeg) * (Int32.toInt64 (mi 42))))) i.toNatClampNeg (((vp_updL (nxF n0 f (mi 42) (mi 43) (mi 44) k) (Int32.ofInt 0).toNatClampNeg (((nxF n0 f (mi 42) (mi 43) (mi 44) k) (Int32.ofInt 0).toNatClampNeg) + ((f i.toNatClampNeg) * (Int32.toInt64 (mi 42))))) i.toNatClampNeg) + ((f i.toNatClampNeg) * (Int32.toInt64 (mi 43))))) (i + (Int32.ofInt 1)).toNatClampNeg (((vp_updL (vp_updL (nxF n0 f (mi 42) (mi 43) (mi 44) k) (Int32.ofInt 0).toNatClampNeg (((nxF n0 f (mi 42) (mi 43) (mi 44) k) (Int32.ofInt 0).toNatClampNeg) + ((f i.toNatClampNeg) * (Int32.toInt64 (mi 42))))) i.toNatClampNeg (((vp_updL (nxF n0 f (mi 42) (mi 43) (mi 44) k) (Int32.ofInt 0).toNatClampNeg (((nxF n0 f (mi 42) (mi 43) (mi 44) k) (Int32.ofInt 0).toNatClampNeg) + ((f i.toNatClampNeg) * (Int32.toInt64 (mi 42))))) i.toNatClampNeg) + ((f i.toNatClampNeg) * (Int32.toInt64 (mi 43))))) (i + (Int32.ofInt 1)).toNatClampNeg) + ((f i.toNatClampNeg) * (Int32.toInt64 (mi 44))))))))]) rfl rfl (by first | omega | (rw [cx_addc (by omega) (by omega)]; omega)) (by first | omega | (rw [cx_addc (by omega) (by omega)]; omega)) rfl rfl ?_
          refine ex_iinc cg_228 (ix := 75) (pc' := 118) (L' := [some (.inr (.inl 119)), some (.inl (.int (i + Int32.ofInt 1)))]) rfl rfl rfl rfl rfl ?_
          refine ex_goto cg_228 (ix := 76) (pc' := 23) rfl rfl ?_
          have e1 : vp_updL (vp_updL (vp_updL (nxF n0 f (mi 42) (mi 43) (mi 44) k) (Int32.ofInt 0).toNatClampNeg (((nxF n0 f (mi 42) (mi 43) (mi 44) k) (Int32.ofInt 0).toNatClampNeg) + ((f i.toNatClampNeg) * (Int32.toInt64 (mi 42))))) i.toNatClampNeg (((vp_updL (nxF n0 f (mi 42) (mi 43) (mi 44) k) (Int32.ofInt 0).toNatClampNeg (((nxF n0 f (mi 42) (mi 43) (mi 44) k) (Int32.ofInt 0).toNatClampNeg) + ((f i.toNatClampNeg) * (Int32.toInt64 (mi 42))))) i.toNatClampNeg) + ((f i.toNatClampNeg) * (Int32.toInt64 (mi 43))))) (i + (Int32.ofInt 1)).toNatClampNeg (((vp_updL (vp_updL (nxF n0 f (mi 42) (mi 43) (mi 44) k) (Int32.ofInt 0).toNatClampNeg (((nxF n0 f (mi 42) (mi 43) (mi 44) k) (Int32.ofInt 0).toNatClampNeg) + ((f i.toNatClampNeg) * (Int32.toInt64 (mi 42))))) i.toNatClampNeg (((vp_updL (nxF n0 f (mi 42) (mi 43) (mi 44) k) (Int32.ofInt 0).toNatClampNeg (((nxF n0 f (mi 42) (mi 43) (mi 44) k) (Int32.ofInt 0).toNatClampNeg) + ((f i.toNatClampNeg) * (Int32.toInt64 (mi 42))))) i.toNatClampNeg) + ((f i.toNatClampNeg) * (Int32.toInt64 (mi 43))))) (i + (Int32.ofInt 1)).toNatClampNeg) + ((f i.toNatClampNeg) * (Int32.toInt64 (mi 44)))) = nxF n0 f (mi 42) (mi 43) (mi 44) (k + 1) := by
            have a1 : (Int32.ofInt 0).toNatClampNeg = 0 := by decide +kernel
            have a2 : (i + Int32.ofInt 1).toNatClampNeg = k + 1 := cx_clamp (by rw [cx_addc (by omega) (by omega)]; omega)
            rw [hik, a1, a2, nxF]
            unfold nxS adL
            rw [if_pos (by omega), if_neg (by omega)]
          rw [e1]
          exact ih (k + 1) (by omega) _ (by rw [cx_addc (by omega) (by omega)]; omega)
        · have hb88 : ¬ (¬ i.toInt = (Int32.ofInt 31).toInt) := hb88
          refine ex_bipush cg_228 (ix := 58) (pc' := 93) rfl rfl rfl ?_
          refine ex_goto cg_228 (ix := 59) (pc' := 99) rfl rfl ?_
          refine ex_dup2 cg_228 (ix := 63) (pc' := 100) rfl rfl rfl rfl ?_
          refine ex_laload cg_228 (ix := 64) (pc' := 101) rfl rfl (by first | omega | (rw [cx_addc (by omega) (by omega)]; omega)) (by first | omega | (rw [cx_addc (by omega) (by omega)]; omega)) rfl ?_
          refine ex_aload_n cg_228 (ix := 65) (pc' := 102) rfl rfl rfl ?_
          refine ex_getfield cg_228 (ix := 66) (pc' := 105) (v := .inr (.inl 144)) rfl rfl rfl rfl rfl ?_
          refine ex_iload_n cg_228 (ix := 67) (pc' := 106) rfl rfl rfl ?_
          refine ex_laload cg_228 (ix := 68) (pc' := 107) rfl rfl (by omega) (by omega) rfl ?_
          refine ex_aload_n cg_228 (ix := 69) (pc' := 108) rfl rfl rfl ?_
          refine ex_getfield cg_228 (ix := 70) (pc' := 111) (v := .inl (.int (mi 44))) rfl rfl rfl rfl rfl ?_
          refine ex_i2l cg_228 (ix := 71) (pc' := 112) rfl rfl ?_
          refine ex_lmul cg_228 (ix := 72) (pc' := 113) rfl rfl ?_
          refine ex_ladd cg_228 (ix := 73) (pc' := 114) rfl rfl ?_
          refine ex_lastore cg_228 (ix := 74) (pc' := 115) (h' := [(119, .inl (11, vs_119 mi ml)), (144, .inr (.inr (.inl (32, f)))), (145, .inr (.inr (.inl (32, vp_updL (vp_updL (vp_updL (nxF n0 f (mi 42) (mi 43) (mi 44) k) (Int32.ofInt 0).toNatClampNeg (((nxF n0 f (mi 42) (mi 43) (mi 44) k) (Int32.ofInt 0).toNatClampNeg) + ((f i.toNatClampNeg) * (Int32.toInt64 (mi 42))))) i.toNatClampNeg (((vp_updL (nxF n0 f (mi 42) (mi 43) (mi 44) k) (Int32.ofInt 0).toNatClampNeg (((nxF n0 f (mi 42) (mi 43) (mi 44) k) (Int32.ofInt 0).toNatClampNeg) + ((f i.toNatClampNeg) * (Int32.toInt64 (mi 42))))) i.toNatClampNeg) + ((f i.toNatClampNeg) * (Int32.toInt64 (mi 43))))) (Int32.ofInt 31).toNatClampNeg (((vp_updL (vp_updL (nxF n0 f (mi 42) (mi 43) (mi 44) k) (Int32.ofInt 0).toNatClampNeg (((nxF n0 f (mi 42) (mi 43) (mi 44) k) (Int32.ofInt 0).toNatClampNeg) + ((f i.toNatClampNeg) * (Int32.toInt64 (mi 42))))) i.toNatClampNeg (((vp_updL (nxF n0 f (mi 42) (mi 43) (mi 44) k) (Int32.ofInt 0).toNatClampNeg (((nxF n0 f (mi 42) (mi 43) (mi 44) k) (Int32.ofInt 0).toNatClampNeg) + ((f i.toNatClampNeg) * (Int32.toInt64 (mi 42))))) i.toNatClampNeg) + ((f i.toNatClampNeg) * (Int32.toInt64 (mi 43))))) (Int32.ofInt 31).toNatClampNeg) + ((f i.toNatClampNeg) * (Int32.toInt64 (mi 44))))))))]) rfl rfl (by first | omega | (rw [cx_addc (by omega) (by omega)]; omega)) (by first | omega | (rw [cx_addc (by omega) (by omega)]; omega)) rfl rfl ?_
          refine ex_iinc cg_228 (ix := 75) (pc' := 118) (L' := [some (.inr (.inl 119)), some (.inl (.int (i + Int32.ofInt 1)))]) rfl rfl rfl rfl rfl ?_
          refine ex_goto cg_228 (ix := 76) (pc' := 23) rfl rfl ?_
          have e1 : vp_updL (vp_updL (vp_updL (nxF n0 f (mi 42) (mi 43) (mi 44) k) (Int32.ofInt 0).toNatClampNeg (((nxF n0 f (mi 42) (mi 43) (mi 44) k) (Int32.ofInt 0).toNatClampNeg) + ((f i.toNatClampNeg) * (Int32.toInt64 (mi 42))))) i.toNatClampNeg (((vp_updL (nxF n0 f (mi 42) (mi 43) (mi 44) k) (Int32.ofInt 0).toNatClampNeg (((nxF n0 f (mi 42) (mi 43) (mi 44) k) (Int32.ofInt 0).toNatClampNeg) + ((f i.toNatClampNeg) * (Int32.toInt64 (mi 42))))) i.toNatClampNeg) + ((f i.toNatClampNeg) * (Int32.toInt64 (mi 43))))) (Int32.ofInt 31).toNatClampNeg (((vp_updL (vp_updL (nxF n0 f (mi 42) (mi 43) (mi 44) k) (Int32.ofInt 0).toNatClampNeg (((nxF n0 f (mi 42) (mi 43) (mi 44) k) (Int32.ofInt 0).toNatClampNeg) + ((f i.toNatClampNeg) * (Int32.toInt64 (mi 42))))) i.toNatClampNeg (((vp_updL (nxF n0 f (mi 42) (mi 43) (mi 44) k) (Int32.ofInt 0).toNatClampNeg (((nxF n0 f (mi 42) (mi 43) (mi 44) k) (Int32.ofInt 0).toNatClampNeg) + ((f i.toNatClampNeg) * (Int32.toInt64 (mi 42))))) i.toNatClampNeg) + ((f i.toNatClampNeg) * (Int32.toInt64 (mi 43))))) (Int32.ofInt 31).toNatClampNeg) + ((f i.toNatClampNeg) * (Int32.toInt64 (mi 44)))) = nxF n0 f (mi 42) (mi 43) (mi 44) (k + 1) := by
            have a1 : (Int32.ofInt 0).toNatClampNeg = 0 := by decide +kernel
            have a2 : (Int32.ofInt 31).toNatClampNeg = 31 := by decide +kernel
            rw [hik, a1, a2, nxF]
            unfold nxS adL
            rw [if_pos (by omega), if_pos (by omega)]
          rw [e1]
          exact ih (k + 1) (by omega) _ (by rw [cx_addc (by omega) (by omega)]; omega)
theorem dm_l1 {d : Nat} {mi : Nat → Int32} {ml : Nat → Int64} {f n : Nat → Int64} {P : Option cx_V → cx_H → Prop}  (hP : P none ([(119, .inl (11, vs_119 mi ml)), (144, .inr (.inr (.inl (32, rowU (nxF (rowU (fun _ => Int64.ofNat 0) n 32) f (mi 42) (mi 43) (mi 44) 32) f 32)))), (145, .inr (.inr (.inl (32, nxF (rowU (fun _ => Int64.ofNat 0) n 32) f (mi 42) (mi 43) (mi 44) 32))))])) :
    ∀ (m k : Nat), k + m = 32 → ∀ i : Int32, i.toInt = (k : Int) → cx_T d 228 [119, 144, 145] 2 ([some (.inr (.inl 119)), some (.inl (.int i))], [], [(119, .inl (11, vs_119 mi ml)), (144, .inr (.inr (.inl (32, f)))), (145, .inr (.inr (.inl (32, rowU (fun _ => Int64.ofNat 0) n k))))]) P := by
  have kc0 : (Int32.ofInt 0).toInt = 0 := by decide +kernel
  have kc1 : (Int32.ofInt 1).toInt = 1 := by decide +kernel
  have kc31 : (Int32.ofInt 31).toInt = 31 := by decide +kernel
  have kc32 : (Int32.ofInt 32).toInt = 32 := by decide +kernel
  intro m
  induction m with
  | zero =>
    intro k hk i hi 
    have ek : k = 32 := by omega
    subst ek
    refine ex_iload_n cg_228 (ix := 2) (pc' := 3) rfl rfl rfl ?_
    refine ex_bipush cg_228 (ix := 3) (pc' := 5) rfl rfl rfl ?_
    refine ex_icmp cg_228 (ix := 4) (t := 21) (pc' := 8) rfl rfl rfl (fun hb5 => ?_) (fun hb5 => ?_)
    · have hb5 : (Int32.ofInt 32).toInt ≤ i.toInt := hb5
      refine ex_iconst cg_228 (ix := 12) (pc' := 22) rfl rfl ?_
      refine ex_istore_n cg_228 (ix := 13) (pc' := 23) (L' := [some (.inr (.inl 119)), some (.inl (.int (Int32.ofInt 0)))]) rfl rfl rfl rfl ?_
      exact dm_l2 (d := d) (mi := mi) (ml := ml) (f := f) (n0 := rowU (fun _ => Int64.ofNat 0) n 32) (P := P) hP 32 0 rfl (Int32.ofInt 0) (by decide +kernel)
    · have hb5 : ¬ ((Int32.ofInt 32).toInt ≤ i.toInt) := hb5
      exfalso; first | omega | exact absurd hb5 (by decide +kernel)
  | succ m ih =>
    intro k hk i hi 
    have hik : i.toNatClampNeg = k := cx_clamp hi
    refine ex_iload_n cg_228 (ix := 2) (pc' := 3) rfl rfl rfl ?_
    refine ex_bipush cg_228 (ix := 3) (pc' := 5) rfl rfl rfl ?_
    refine ex_icmp cg_228 (ix := 4) (t := 21) (pc' := 8) rfl rfl rfl (fun hb5 => ?_) (fun hb5 => ?_)
    · have hb5 : (Int32.ofInt 32).toInt ≤ i.toInt := hb5
      exfalso; first | omega | exact absurd hb5 (by decide +kernel)
    · have hb5 : ¬ ((Int32.ofInt 32).toInt ≤ i.toInt) := hb5
      refine ex_aload_n cg_228 (ix := 5) (pc' := 9) rfl rfl rfl ?_
      refine ex_getfield cg_228 (ix := 6) (pc' := 12) (v := .inr (.inl 145)) rfl rfl rfl rfl rfl ?_
      refine ex_iload_n cg_228 (ix := 7) (pc' := 13) rfl rfl rfl ?_
      refine ex_lconst cg_228 (ix := 8) (pc' := 14) rfl rfl ?_
      refine ex_lastore cg_228 (ix := 9) (pc' := 15) (h' := [(119, .inl (11, vs_119 mi ml)), (144, .inr (.inr (.inl (32, f)))), (145, .inr (.inr (.inl (32, vp_updL (rowU (fun _ => Int64.ofNat 0) n k) i.toNatClampNeg (Int64.ofNat 0)))))]) rfl rfl (by omega) (by omega) rfl rfl ?_
      refine ex_iinc cg_228 (ix := 10) (pc' := 18) (L' := [some (.inr (.inl 119)), some (.inl (.int (i + Int32.ofInt 1)))]) rfl rfl rfl rfl rfl ?_
      refine ex_goto cg_228 (ix := 11) (pc' := 2) rfl rfl ?_
      have e1 : vp_updL (rowU (fun _ => Int64.ofNat 0) n k) i.toNatClampNeg (Int64.ofNat 0) = rowU (fun _ => Int64.ofNat 0) n (k + 1) := by
        rw [hik]
        exact rowU_L rfl
      rw [e1]
      exact ih (k + 1) (by omega) _ (by rw [cx_addc (by omega) (by omega)]; omega)
theorem ct_mdr {mi : Nat → Int32} {ml : Nat → Int64} {f n : Nat → Int64} : cx_Ct 2 228 [.inr (.inl 119)] ([(119, .inl (11, vs_119 mi ml)), (144, .inr (.inr (.inl (32, f)))), (145, .inr (.inr (.inl (32, n))))]) (fun v h2 => ∃ f2 n2 : Nat → Int64, v = none ∧ h2 = [(119, .inl (11, vs_119 mi ml)), (144, .inr (.inr (.inl (32, f2)))), (145, .inr (.inr (.inl (32, n2))))] ∧ ∀ x : Nat, x < 32 → f2 x = drF f (mi 42) (mi 43) (mi 44) x) := by
  refine cx_Ct.of cg_228 (nL := 2) rfl rfl rfl ?_
  show cx_T 2 228 [119, 144, 145] 0 ([some (.inr (.inl 119)), none], [], [(119, .inl (11, vs_119 mi ml)), (144, .inr (.inr (.inl (32, f)))), (145, .inr (.inr (.inl (32, n))))]) _
  refine ex_iconst cg_228 (ix := 0) (pc' := 1) rfl rfl ?_
  refine ex_istore_n cg_228 (ix := 1) (pc' := 2) (L' := [some (.inr (.inl 119)), some (.inl (.int (Int32.ofInt 0)))]) rfl rfl rfl rfl ?_
  have hfin : ∀ x : Nat, x < 32 → (rowU (nxF (rowU (fun _ => Int64.ofNat 0) n 32) f (mi 42) (mi 43) (mi 44) 32) f 32) x = drF f (mi 42) (mi 43) (mi 44) x := fun x hx => (rowU_in hx).trans (nxF_dr (n0 := rowU (fun _ => Int64.ofNat 0) n 32) (fun y hy => rowU_in hy) hx)
  have e0 := dm_l1 (d := 2) (mi := mi) (ml := ml) (f := f) (n := n) (P := fun v h2 => ∃ f2 n2 : Nat → Int64, v = none ∧ h2 = [(119, .inl (11, vs_119 mi ml)), (144, .inr (.inr (.inl (32, f2)))), (145, .inr (.inr (.inl (32, n2))))] ∧ ∀ x : Nat, x < 32 → f2 x = drF f (mi 42) (mi 43) (mi 44) x) ⟨rowU (nxF (rowU (fun _ => Int64.ofNat 0) n 32) f (mi 42) (mi 43) (mi 44) 32) f 32, nxF (rowU (fun _ => Int64.ofNat 0) n 32) f (mi 42) (mi 43) (mi 44) 32, rfl, rfl, hfin⟩ 32 0 rfl (Int32.ofInt 0) (by decide +kernel)
  rw [rowU_0] at e0
  exact e0
def h_ms (mi : Nat → Int32) (ml : Nat → Int64) (r t : Nat → Int32) (f n : Nat → Int64) : cx_H := [(119, .inl (11, vs_119 mi ml)), (126, .inr (.inl (0, 7, r))), (143, .inr (.inl (0, 32, t))), (144, .inr (.inr (.inl (32, f)))), (145, .inr (.inr (.inl (32, n))))]
theorem pz_loop {d : Nat} {mi : Nat → Int32} {ml : Nat → Int64} {r t : Nat → Int32} {f n : Nat → Int64} {p v w : Int32} {P : Option cx_V → cx_H → Prop} (hac : 0 < (mi 41).toInt) (hp0 : 0 ≤ p.toInt) (hp1 : p.toInt < 32) (hP : ∀ (t2 : Nat → Int32) (f2 : Nat → Int64), True = True → (∀ x : Nat, x < 32 → t2 x = ppT (mi 41) p v t x) → (∀ x : Nat, x < 32 → f2 x = ppF (mi 41) p v f x) → P (some (.inl (.int w))) (h_ms (upi (upi mi 0 (Int32.ofInt 0)) 41 (Int32.ofInt 0)) ml r t2 f2 n)) :
    ∀ (m k : Nat), k + m = 32 → ∀ i : Int32, i.toInt = (k : Int) → cx_T d 225 [119, 126, 143, 144, 145] 60 ([some (.inr (.inl 119)), some (.inl (.int p)), some (.inl (.int v)), some (.inl (.int w)), some (.inl (.int i))], [], [(119, .inl (11, vs_119 (upi mi 0 (Int32.ofInt 0)) ml)), (126, .inr (.inl (0, 7, r))), (143, .inr (.inl (0, 32, rowU (fun _ => Int32.ofInt 0) t k))), (144, .inr (.inr (.inl (32, rowU (fun _ => Int64.ofNat 0) f k)))), (145, .inr (.inr (.inl (32, n))))]) P := by
  have kcm6 : (Int32.ofInt (-6)).toInt = -6 := by decide +kernel
  have kcm4 : (Int32.ofInt (-4)).toInt = -4 := by decide +kernel
  have kcm1 : (Int32.ofInt (-1)).toInt = -1 := by decide +kernel
  have kc0 : (Int32.ofInt 0).toInt = 0 := by decide +kernel
  have kc1 : (Int32.ofInt 1).toInt = 1 := by decide +kernel
  have kc32 : (Int32.ofInt 32).toInt = 32 := by decide +kernel
  have kc1000000 : (Int32.ofInt 1000000).toInt = 1000000 := by decide +kernel
  intro m
  induction m with
  | zero =>
    intro k hk i hi 
    have ek : k = 32 := by omega
    subst ek
    refine ex_iload cg_225 (ix := 33) (pc' := 62) rfl rfl rfl ?_
    refine ex_bipush cg_225 (ix := 34) (pc' := 64) rfl rfl rfl ?_
    refine ex_icmp cg_225 (ix := 35) (t := 89) (pc' := 67) rfl rfl rfl (fun hb64 => ?_) (fun hb64 => ?_)
    · have hb64 : (Int32.ofInt 32).toInt ≤ i.toInt := hb64
      refine ex_aload_n cg_225 (ix := 48) (pc' := 90) rfl rfl rfl ?_
      refine ex_iconst cg_225 (ix := 49) (pc' := 91) rfl rfl ?_
      refine ex_putfield cg_225 (ix := 50) (pc' := 94) (h' := [(119, .inl (11, vs_119 (upi (upi mi 0 (Int32.ofInt 0)) 41 (Int32.ofInt 0)) ml)), (126, .inr (.inl (0, 7, r))), (143, .inr (.inl (0, 32, rowU (fun _ => Int32.ofInt 0) t 32))), (144, .inr (.inr (.inl (32, rowU (fun _ => Int64.ofNat 0) f 32)))), (145, .inr (.inr (.inl (32, n))))]) rfl rfl rfl rfl rfl rfl rfl rfl ?_
      refine ex_aload_n cg_225 (ix := 51) (pc' := 95) rfl rfl rfl ?_
      refine ex_getfield cg_225 (ix := 52) (pc' := 98) (v := .inr (.inl 143)) rfl rfl rfl rfl rfl ?_
      refine ex_iload_n cg_225 (ix := 53) (pc' := 99) rfl rfl rfl ?_
      refine ex_iload_n cg_225 (ix := 54) (pc' := 100) rfl rfl rfl ?_
      refine ex_iastore cg_225 (ix := 55) (pc' := 101) (h' := [(119, .inl (11, vs_119 (upi (upi mi 0 (Int32.ofInt 0)) 41 (Int32.ofInt 0)) ml)), (126, .inr (.inl (0, 7, r))), (143, .inr (.inl (0, 32, upd (rowU (fun _ => Int32.ofInt 0) t 32) p.toNatClampNeg v))), (144, .inr (.inr (.inl (32, rowU (fun _ => Int64.ofNat 0) f 32)))), (145, .inr (.inr (.inl (32, n))))]) rfl rfl (by omega) (by omega) rfl rfl ?_
      refine ex_aload_n cg_225 (ix := 56) (pc' := 102) rfl rfl rfl ?_
      refine ex_getfield cg_225 (ix := 57) (pc' := 105) (v := .inr (.inl 144)) rfl rfl rfl rfl rfl ?_
      refine ex_iload_n cg_225 (ix := 58) (pc' := 106) rfl rfl rfl ?_
      refine ex_iload_n cg_225 (ix := 59) (pc' := 107) rfl rfl rfl ?_
      refine ex_i2l cg_225 (ix := 60) (pc' := 108) rfl rfl ?_
      refine ex_lastore cg_225 (ix := 61) (pc' := 109) (h' := [(119, .inl (11, vs_119 (upi (upi mi 0 (Int32.ofInt 0)) 41 (Int32.ofInt 0)) ml)), (126, .inr (.inl (0, 7, r))), (143, .inr (.inl (0, 32, upd (rowU (fun _ => Int32.ofInt 0) t 32) p.toNatClampNeg v))), (144, .inr (.inr (.inl (32, vp_updL (rowU (fun _ => Int64.ofNat 0) f 32) p.toNatClampNeg (Int32.toInt64 v))))), (145, .inr (.inr (.inl (32, n))))]) rfl rfl (by omega) (by omega) rfl rfl ?_
      refine ex_iload_n cg_225 (ix := 62) (pc' := 110) rfl rfl rfl ?_
      refine ex_ireturn cg_225 (ix := 63) rfl ?_
      refine hP _ _ rfl (fun x hx => ?_) (fun x hx => ?_)
      · unfold ppT upd; rw [rowU_in hx, if_pos hac]
      · unfold ppF vp_updL; rw [rowU_in hx, if_pos hac]
    · have hb64 : ¬ ((Int32.ofInt 32).toInt ≤ i.toInt) := hb64
      exfalso; first | omega | exact absurd hb64 (by decide +kernel)
  | succ m ih =>
    intro k hk i hi 
    have hik : i.toNatClampNeg = k := cx_clamp hi
    refine ex_iload cg_225 (ix := 33) (pc' := 62) rfl rfl rfl ?_
    refine ex_bipush cg_225 (ix := 34) (pc' := 64) rfl rfl rfl ?_
    refine ex_icmp cg_225 (ix := 35) (t := 89) (pc' := 67) rfl rfl rfl (fun hb64 => ?_) (fun hb64 => ?_)
    · have hb64 : (Int32.ofInt 32).toInt ≤ i.toInt := hb64
      exfalso; first | omega | exact absurd hb64 (by decide +kernel)
    · have hb64 : ¬ ((Int32.ofInt 32).toInt ≤ i.toInt) := hb64
      refine ex_aload_n cg_225 (ix := 36) (pc' := 68) rfl rfl rfl ?_
      refine ex_getfield cg_225 (ix := 37) (pc' := 71) (v := .inr (.inl 143)) rfl rfl rfl rfl rfl ?_
      refine ex_iload cg_225 (ix := 38) (pc' := 73) rfl rfl rfl ?_
      refine ex_iconst cg_225 (ix := 39) (pc' := 74) rfl rfl ?_
      refine ex_iastore cg_225 (ix := 40) (pc' := 75) (h' := [(119, .inl (11, vs_119 (upi mi 0 (Int32.ofInt 0)) ml)), (126, .inr (.inl (0, 7, r))), (143, .inr (.inl (0, 32, upd (rowU (fun _ => Int32.ofInt 0) t k) i.toNatClampNeg (Int32.ofInt 0)))), (144, .inr (.inr (.inl (32, rowU (fun _ => Int64.ofNat 0) f k)))), (145, .inr (.inr (.inl (32, n))))]) rfl rfl (by omega) (by omega) rfl rfl ?_
      refine ex_aload_n cg_225 (ix := 41) (pc' := 76) rfl rfl rfl ?_
      refine ex_getfield cg_225 (ix := 42) (pc' := 79) (v := .inr (.inl 144)) rfl rfl rfl rfl rfl ?_
      refine ex_iload cg_225 (ix := 43) (pc' := 81) rfl rfl rfl ?_
      refine ex_lconst cg_225 (ix := 44) (pc' := 82) rfl rfl ?_
      refine ex_lastore cg_225 (ix := 45) (pc' := 83) (h' := [(119, .inl (11, vs_119 (upi mi 0 (Int32.ofInt 0)) ml)), (126, .inr (.inl (0, 7, r))), (143, .inr (.inl (0, 32, upd (rowU (fun _ => Int32.ofInt 0) t k) i.toNatClampNeg (Int32.ofInt 0)))), (144, .inr (.inr (.inl (32, vp_updL (rowU (fun _ => Int64.ofNat 0) f k) i.toNatClampNeg (Int64.ofNat 0))))), (145, .inr (.inr (.inl (32, n))))]) rfl rfl (by omega) (by omega) rfl rfl ?_
      refine ex_iinc cg_225 (ix := 46) (pc' := 86) (L' := [some (.inr (.inl 119)), some (.inl (.int p)), some (.inl (.int v)), some (.inl (.int w)), some (.inl (.int (i + Int32.ofInt 1)))]) rfl rfl rfl rfl rfl ?_
      refine ex_goto cg_225 (ix := 47) (pc' := 60) rfl rfl ?_
      have e1 : upd (rowU (fun _ => Int32.ofInt 0) t k) i.toNatClampNeg (Int32.ofInt 0) = rowU (fun _ => Int32.ofInt 0) t (k + 1) := by
        rw [hik]
        exact rowU_I rfl
      have e2 : vp_updL (rowU (fun _ => Int64.ofNat 0) f k) i.toNatClampNeg (Int64.ofNat 0) = rowU (fun _ => Int64.ofNat 0) f (k + 1) := by
        rw [hik]
        exact rowU_L rfl
      rw [e1, e2]
      exact ih (k + 1) (by omega) _ (by rw [cx_addc (by omega) (by omega)]; omega)
theorem ct_mparts {mi : Nat → Int32} {ml : Nat → Int64} {r t : Nat → Int32} {f n : Nat → Int64} {p v : Int32} : cx_Ct 4 225 [.inr (.inl 119), .inl (.int p), .inl (.int v)] (h_ms mi ml r t f n) (fun v_ h2 => ∃ (z : Int32) (r2 t2 : Nat → Int32) (f2 n2 : Nat → Int64) (ac2 : Int32), v_ = some (.inl (.int z)) ∧ h2 = h_ms (upi (upi mi 0 (Int32.ofInt 0)) 41 ac2) ml r2 t2 f2 n2 ∧ ptA p v t f (mi 41) z t2 f2 ac2) := by
  have kcm6 : (Int32.ofInt (-6)).toInt = -6 := by decide +kernel
  have kcm4 : (Int32.ofInt (-4)).toInt = -4 := by decide +kernel
  have kcm1 : (Int32.ofInt (-1)).toInt = -1 := by decide +kernel
  have kc0 : (Int32.ofInt 0).toInt = 0 := by decide +kernel
  have kc1 : (Int32.ofInt 1).toInt = 1 := by decide +kernel
  have kc32 : (Int32.ofInt 32).toInt = 32 := by decide +kernel
  have kc1000000 : (Int32.ofInt 1000000).toInt = 1000000 := by decide +kernel
  refine cx_Ct.of cg_225 (nL := 5) rfl rfl rfl ?_
  show cx_T 4 225 [119, 126, 143, 144, 145] 0 ([some (.inr (.inl 119)), some (.inl (.int p)), some (.inl (.int v)), none, none], [], (h_ms mi ml r t f n)) _
  refine ex_aload_n cg_225 (ix := 0) (pc' := 1) rfl rfl rfl ?_
  refine ex_iconst cg_225 (ix := 1) (pc' := 2) rfl rfl ?_
  refine ex_putfield cg_225 (ix := 2) (pc' := 5) (h' := [(119, .inl (11, vs_119 (upi mi 0 (Int32.ofInt 0)) ml)), (126, .inr (.inl (0, 7, r))), (143, .inr (.inl (0, 32, t))), (144, .inr (.inr (.inl (32, f)))), (145, .inr (.inr (.inl (32, n))))]) rfl rfl rfl rfl rfl rfl rfl rfl ?_
  refine ex_iload_n cg_225 (ix := 3) (pc' := 6) rfl rfl rfl ?_
  refine ex_callS cg_225 (ix := 4) (pc' := 9) (As := [.inl (.int p)]) (r := []) rfl rfl rfl (ct_mplace (x := p)) (by first | decide | omega) rfl rfl trivial rfl rfl (fun v h2 hq => ?_)
  obtain ⟨z, rfl, rfl, hz1⟩ := hq
  rcases hz1 with ⟨hz1, rfl⟩ | ⟨hz1, rfl⟩
  · show cx_T _ 225 _ 9 ([some (.inr (.inl 119)), some (.inl (.int p)), some (.inl (.int v)), none, none], [.inl (.int (Int32.ofInt 1))], [(119, .inl (11, vs_119 (upi mi 0 (Int32.ofInt 0)) ml)), (126, .inr (.inl (0, 7, r))), (143, .inr (.inl (0, 32, t))), (144, .inr (.inr (.inl (32, f)))), (145, .inr (.inr (.inl (32, n))))]) _
    refine ex_if cg_225 (ix := 5) (t := 18) (pc' := 12) rfl rfl rfl (fun hb9 => ?_) (fun hb9 => ?_)
    · have hb9 : ¬ (Int32.ofInt 1).toInt = 0 := hb9
      refine ex_iload_n cg_225 (ix := 10) (pc' := 19) rfl rfl rfl ?_
      refine ex_if cg_225 (ix := 11) (t := 29) (pc' := 22) rfl rfl rfl (fun hb19 => ?_) (fun hb19 => ?_)
      · have hb19 : 0 ≤ v.toInt := hb19
        refine ex_iload_n cg_225 (ix := 16) (pc' := 30) rfl rfl rfl ?_
        refine ex_ldc_w cg_225 (ix := 17) (pc' := 33) rfl rfl rfl ?_
        refine ex_icmp cg_225 (ix := 18) (t := 43) (pc' := 36) rfl rfl rfl (fun hb33 => ?_) (fun hb33 => ?_)
        · have hb33 : v.toInt ≤ (Int32.ofInt 1000000).toInt := hb33
          refine ex_aload_n cg_225 (ix := 23) (pc' := 44) rfl rfl rfl ?_
          refine ex_getfield cg_225 (ix := 24) (pc' := 47) (v := .inr (.inl 143)) rfl rfl rfl rfl rfl ?_
          refine ex_iload_n cg_225 (ix := 25) (pc' := 48) rfl rfl rfl ?_
          refine ex_iaload cg_225 (ix := 26) (pc' := 49) rfl rfl (by omega) (by omega) rfl ?_
          refine ex_istore_n cg_225 (ix := 27) (pc' := 50) (L' := [some (.inr (.inl 119)), some (.inl (.int p)), some (.inl (.int v)), some (.inl (.int (t p.toNatClampNeg))), none]) rfl rfl rfl rfl ?_
          refine ex_aload_n cg_225 (ix := 28) (pc' := 51) rfl rfl rfl ?_
          refine ex_getfield cg_225 (ix := 29) (pc' := 54) (v := .inl (.int (mi 41))) rfl rfl rfl rfl rfl ?_
          refine ex_if cg_225 (ix := 30) (t := 94) (pc' := 57) rfl rfl rfl (fun hb54 => ?_) (fun hb54 => ?_)
          · have hb54 : (mi 41).toInt ≤ 0 := hb54
            refine ex_aload_n cg_225 (ix := 51) (pc' := 95) rfl rfl rfl ?_
            refine ex_getfield cg_225 (ix := 52) (pc' := 98) (v := .inr (.inl 143)) rfl rfl rfl rfl rfl ?_
            refine ex_iload_n cg_225 (ix := 53) (pc' := 99) rfl rfl rfl ?_
            refine ex_iload_n cg_225 (ix := 54) (pc' := 100) rfl rfl rfl ?_
            refine ex_iastore cg_225 (ix := 55) (pc' := 101) (h' := [(119, .inl (11, vs_119 (upi mi 0 (Int32.ofInt 0)) ml)), (126, .inr (.inl (0, 7, r))), (143, .inr (.inl (0, 32, upd t p.toNatClampNeg v))), (144, .inr (.inr (.inl (32, f)))), (145, .inr (.inr (.inl (32, n))))]) rfl rfl (by omega) (by omega) rfl rfl ?_
            refine ex_aload_n cg_225 (ix := 56) (pc' := 102) rfl rfl rfl ?_
            refine ex_getfield cg_225 (ix := 57) (pc' := 105) (v := .inr (.inl 144)) rfl rfl rfl rfl rfl ?_
            refine ex_iload_n cg_225 (ix := 58) (pc' := 106) rfl rfl rfl ?_
            refine ex_iload_n cg_225 (ix := 59) (pc' := 107) rfl rfl rfl ?_
            refine ex_i2l cg_225 (ix := 60) (pc' := 108) rfl rfl ?_
            refine ex_lastore cg_225 (ix := 61) (pc' := 109) (h' := [(119, .inl (11, vs_119 (upi mi 0 (Int32.ofInt 0)) ml)), (126, .inr (.inl (0, 7, r))), (143, .inr (.inl (0, 32, upd t p.toNatClampNeg v))), (144, .inr (.inr (.inl (32, vp_updL f p.toNatClampNeg (Int32.toInt64 v))))), (145, .inr (.inr (.inl (32, n))))]) rfl rfl (by omega) (by omega) rfl rfl ?_
            refine ex_iload_n cg_225 (ix := 62) (pc' := 110) rfl rfl rfl ?_
            refine ex_ireturn cg_225 (ix := 63) rfl ?_
            refine ⟨_, r, _, _, n, mi 41, rfl, rfl, Or.inr (Or.inr (Or.inr ⟨hz1, by omega, rfl, fun x hx => ?_, fun x hx => ?_, ?_⟩))⟩
            · unfold ppT upd; rw [if_neg (show ¬ 0 < (mi 41).toInt by omega)]
            · unfold ppF vp_updL; rw [if_neg (show ¬ 0 < (mi 41).toInt by omega)]
            · unfold ppM; rw [if_neg (by omega)]
          · have hb54 : ¬ ((mi 41).toInt ≤ 0) := hb54
            refine ex_iconst cg_225 (ix := 31) (pc' := 58) rfl rfl ?_
            refine ex_istore cg_225 (ix := 32) (pc' := 60) (L' := [some (.inr (.inl 119)), some (.inl (.int p)), some (.inl (.int v)), some (.inl (.int (t p.toNatClampNeg))), some (.inl (.int (Int32.ofInt 0)))]) rfl rfl rfl rfl ?_
            have e0 := pz_loop (d := 4) (mi := mi) (ml := ml) (r := r) (t := t) (f := f) (n := n) (p := p) (v := v) (w := t p.toNatClampNeg) (by omega) (by omega) (by omega) (P := fun v_ h2 => ∃ (z : Int32) (r2 t2 : Nat → Int32) (f2 n2 : Nat → Int64) (ac2 : Int32), v_ = some (.inl (.int z)) ∧ h2 = h_ms (upi (upi mi 0 (Int32.ofInt 0)) 41 ac2) ml r2 t2 f2 n2 ∧ ptA p v t f (mi 41) z t2 f2 ac2) (fun t2 f2 _ ht2 hf2 => ⟨_, r, t2, f2, n, Int32.ofInt 0, rfl, rfl, Or.inr (Or.inr (Or.inr ⟨hz1, by omega, rfl, ht2, hf2, by unfold ppM; rw [if_pos (by omega)]⟩))⟩) 32 0 rfl (Int32.ofInt 0) (by decide +kernel)
            rw [rowU_0, rowU_0] at e0
            exact e0
        · have hb33 : ¬ (v.toInt ≤ (Int32.ofInt 1000000).toInt) := hb33
          refine ex_aload_n cg_225 (ix := 19) (pc' := 37) rfl rfl rfl ?_
          refine ex_bipush cg_225 (ix := 20) (pc' := 39) rfl rfl rfl ?_
          refine ex_callV cg_225 (ix := 21) (pc' := 42) (As := [.inl (.int (Int32.ofInt (-6)))]) (r := []) rfl rfl rfl (ct_mref (mi := (upi mi 0 (Int32.ofInt 0))) (ml := ml) (x := Int32.ofInt (-6)) (r := r) (by decide +kernel) (by decide +kernel)) (by first | decide | omega) rfl rfl rfl ⟨rfl, rfl, trivial⟩ rfl rfl (fun v h2 hq => ?_)
          obtain ⟨rfl, r2, rfl⟩ := hq
          show cx_T _ 225 _ 42 ([some (.inr (.inl 119)), some (.inl (.int p)), some (.inl (.int v)), none, none], [.inl (.int (Int32.ofInt (-6)))], [(119, .inl (11, vs_119 (upi mi 0 (Int32.ofInt 0)) ml)), (126, .inr (.inl (0, 7, r2))), (143, .inr (.inl (0, 32, t))), (144, .inr (.inr (.inl (32, f)))), (145, .inr (.inr (.inl (32, n))))]) _
          refine ex_ireturn cg_225 (ix := 22) rfl ?_
          exact ⟨_, _, t, f, n, mi 41, rfl, rfl, Or.inr (Or.inr (Or.inl ⟨hz1, by omega, rfl, rfl, rfl, rfl⟩))⟩
      · have hb19 : ¬ (0 ≤ v.toInt) := hb19
        refine ex_aload_n cg_225 (ix := 12) (pc' := 23) rfl rfl rfl ?_
        refine ex_bipush cg_225 (ix := 13) (pc' := 25) rfl rfl rfl ?_
        refine ex_callV cg_225 (ix := 14) (pc' := 28) (As := [.inl (.int (Int32.ofInt (-4)))]) (r := []) rfl rfl rfl (ct_mref (mi := (upi mi 0 (Int32.ofInt 0))) (ml := ml) (x := Int32.ofInt (-4)) (r := r) (by decide +kernel) (by decide +kernel)) (by first | decide | omega) rfl rfl rfl ⟨rfl, rfl, trivial⟩ rfl rfl (fun v h2 hq => ?_)
        obtain ⟨rfl, r2, rfl⟩ := hq
        show cx_T _ 225 _ 28 ([some (.inr (.inl 119)), some (.inl (.int p)), some (.inl (.int v)), none, none], [.inl (.int (Int32.ofInt (-4)))], [(119, .inl (11, vs_119 (upi mi 0 (Int32.ofInt 0)) ml)), (126, .inr (.inl (0, 7, r2))), (143, .inr (.inl (0, 32, t))), (144, .inr (.inr (.inl (32, f)))), (145, .inr (.inr (.inl (32, n))))]) _
        refine ex_ireturn cg_225 (ix := 15) rfl ?_
        exact ⟨_, _, t, f, n, mi 41, rfl, rfl, Or.inr (Or.inl ⟨hz1, by omega, rfl, rfl, rfl, rfl⟩)⟩
    · have hb9 : ¬ (¬ (Int32.ofInt 1).toInt = 0) := hb9
      exfalso; first | omega | exact absurd hb9 (by decide +kernel)
  · show cx_T _ 225 _ 9 ([some (.inr (.inl 119)), some (.inl (.int p)), some (.inl (.int v)), none, none], [.inl (.int (Int32.ofInt 0))], [(119, .inl (11, vs_119 (upi mi 0 (Int32.ofInt 0)) ml)), (126, .inr (.inl (0, 7, r))), (143, .inr (.inl (0, 32, t))), (144, .inr (.inr (.inl (32, f)))), (145, .inr (.inr (.inl (32, n))))]) _
    refine ex_if cg_225 (ix := 5) (t := 18) (pc' := 12) rfl rfl rfl (fun hb9 => ?_) (fun hb9 => ?_)
    · have hb9 : ¬ (Int32.ofInt 0).toInt = 0 := hb9
      exfalso; first | omega | exact absurd hb9 (by decide +kernel)
    · have hb9 : ¬ (¬ (Int32.ofInt 0).toInt = 0) := hb9
      refine ex_aload_n cg_225 (ix := 6) (pc' := 13) rfl rfl rfl ?_
      refine ex_iconst cg_225 (ix := 7) (pc' := 14) rfl rfl ?_
      refine ex_callV cg_225 (ix := 8) (pc' := 17) (As := [.inl (.int (Int32.ofInt (-1)))]) (r := []) rfl rfl rfl (ct_mref (mi := (upi mi 0 (Int32.ofInt 0))) (ml := ml) (x := Int32.ofInt (-1)) (r := r) (by decide +kernel) (by decide +kernel)) (by first | decide | omega) rfl rfl rfl ⟨rfl, rfl, trivial⟩ rfl rfl (fun v h2 hq => ?_)
      obtain ⟨rfl, r2, rfl⟩ := hq
      show cx_T _ 225 _ 17 ([some (.inr (.inl 119)), some (.inl (.int p)), some (.inl (.int v)), none, none], [.inl (.int (Int32.ofInt (-1)))], [(119, .inl (11, vs_119 (upi mi 0 (Int32.ofInt 0)) ml)), (126, .inr (.inl (0, 7, r2))), (143, .inr (.inl (0, 32, t))), (144, .inr (.inr (.inl (32, f)))), (145, .inr (.inr (.inl (32, n))))]) _
      refine ex_ireturn cg_225 (ix := 9) rfl ?_
      exact ⟨_, _, t, f, n, mi 41, rfl, rfl, Or.inl ⟨hz1, rfl, rfl, rfl, rfl⟩⟩
theorem ct_mdrifts {mi : Nat → Int32} {ml : Nat → Int64} {r t : Nat → Int32} {f n : Nat → Int64} (hm0 : 0 ≤ (mi 41).toInt) (hm1 : (mi 41).toInt ≤ 10) : cx_Ct 4 230 [.inr (.inl 119)] (h_ms mi ml r t f n) (fun v_ h2 => ∃ (z : Int32) (r2 t2 : Nat → Int32) (f2 n2 : Nat → Int64) (ac2 : Int32), v_ = some (.inl (.int z)) ∧ h2 = h_ms (upi (upi mi 0 (Int32.ofInt 0)) 41 ac2) ml r2 t2 f2 n2 ∧ t2 = t ∧ dfA (mi 42) (mi 43) (mi 44) f (mi 41) z f2 ac2) := by
  have kcm6 : (Int32.ofInt (-6)).toInt = -6 := by decide +kernel
  have kcm5 : (Int32.ofInt (-5)).toInt = -5 := by decide +kernel
  have kc0 : (Int32.ofInt 0).toInt = 0 := by decide +kernel
  have kc1 : (Int32.ofInt 1).toInt = 1 := by decide +kernel
  have kc10 : (Int32.ofInt 10).toInt = 10 := by decide +kernel
  refine cx_Ct.of cg_230 (nL := 1) rfl rfl rfl ?_
  show cx_T 4 230 [119, 126, 143, 144, 145] 0 ([some (.inr (.inl 119))], [], (h_ms mi ml r t f n)) _
  refine ex_aload_n cg_230 (ix := 0) (pc' := 1) rfl rfl rfl ?_
  refine ex_iconst cg_230 (ix := 1) (pc' := 2) rfl rfl ?_
  refine ex_putfield cg_230 (ix := 2) (pc' := 5) (h' := [(119, .inl (11, vs_119 (upi mi 0 (Int32.ofInt 0)) ml)), (126, .inr (.inl (0, 7, r))), (143, .inr (.inl (0, 32, t))), (144, .inr (.inr (.inl (32, f)))), (145, .inr (.inr (.inl (32, n))))]) rfl rfl rfl rfl rfl rfl rfl rfl ?_
  refine ex_aload_n cg_230 (ix := 3) (pc' := 6) rfl rfl rfl ?_
  refine ex_callV cg_230 (ix := 4) (pc' := 9) (As := []) (r := []) rfl rfl rfl (ct_mall (mi := (upi mi 0 (Int32.ofInt 0))) (ml := ml) (f := f)) (by first | decide | omega) rfl rfl rfl ⟨rfl, rfl, trivial⟩ rfl rfl (fun v h2 hq => ?_)
  obtain ⟨rfl, rfl⟩ := hq
  show cx_T _ 230 _ 9 ([some (.inr (.inl 119))], [.inl (.long (sumL f 32))], [(119, .inl (11, vs_119 (upi mi 0 (Int32.ofInt 0)) ml)), (126, .inr (.inl (0, 7, r))), (143, .inr (.inl (0, 32, t))), (144, .inr (.inr (.inl (32, f)))), (145, .inr (.inr (.inl (32, n))))]) _
  refine ex_lconst cg_230 (ix := 5) (pc' := 10) rfl rfl ?_
  refine ex_lcmp cg_230 (ix := 6) (pc' := 11) rfl rfl ?_
  have hlc10 := cx_cmp (sumL f 32) (Int64.ofNat 0)
  refine ex_if cg_230 (ix := 7) (t := 21) (pc' := 14) rfl rfl rfl (fun hb11 => ?_) (fun hb11 => ?_)
  · have hb11 : ¬ (lg_cmp (sumL f 32) (Int64.ofNat 0)).toInt = 0 := hb11
    refine ex_aload_n cg_230 (ix := 12) (pc' := 22) rfl rfl rfl ?_
    refine ex_getfield cg_230 (ix := 13) (pc' := 25) (v := .inl (.int (mi 41))) rfl rfl rfl rfl rfl ?_
    refine ex_bipush cg_230 (ix := 14) (pc' := 27) rfl rfl rfl ?_
    refine ex_icmp cg_230 (ix := 15) (t := 37) (pc' := 30) rfl rfl rfl (fun hb27 => ?_) (fun hb27 => ?_)
    · have hb27 : ¬ (mi 41).toInt = (Int32.ofInt 10).toInt := hb27
      refine ex_aload_n cg_230 (ix := 20) (pc' := 38) rfl rfl rfl ?_
      refine ex_callV cg_230 (ix := 21) (pc' := 41) (As := []) (r := []) rfl rfl rfl (ct_mdr (mi := (upi mi 0 (Int32.ofInt 0))) (ml := ml) (f := f) (n := n)) (by first | decide | omega) rfl rfl rfl ⟨rfl, rfl, rfl, trivial⟩ rfl rfl (fun v h2 hq => ?_)
      obtain ⟨f2, n2, rfl, rfl, hfx⟩ := hq
      show cx_T _ 230 _ 41 ([some (.inr (.inl 119))], [], [(119, .inl (11, vs_119 (upi mi 0 (Int32.ofInt 0)) ml)), (126, .inr (.inl (0, 7, r))), (143, .inr (.inl (0, 32, t))), (144, .inr (.inr (.inl (32, f2)))), (145, .inr (.inr (.inl (32, n2))))]) _
      refine ex_aload_n cg_230 (ix := 22) (pc' := 42) rfl rfl rfl ?_
      refine ex_dup cg_230 (ix := 23) (pc' := 43) rfl rfl rfl ?_
      refine ex_getfield cg_230 (ix := 24) (pc' := 46) (v := .inl (.int (mi 41))) rfl rfl rfl rfl rfl ?_
      refine ex_iconst cg_230 (ix := 25) (pc' := 47) rfl rfl ?_
      refine ex_iadd cg_230 (ix := 26) (pc' := 48) rfl rfl ?_
      refine ex_putfield cg_230 (ix := 27) (pc' := 51) (h' := [(119, .inl (11, vs_119 (upi (upi mi 0 (Int32.ofInt 0)) 41 ((mi 41) + (Int32.ofInt 1))) ml)), (126, .inr (.inl (0, 7, r))), (143, .inr (.inl (0, 32, t))), (144, .inr (.inr (.inl (32, f2)))), (145, .inr (.inr (.inl (32, n2))))]) rfl rfl rfl rfl rfl rfl rfl rfl ?_
      refine ex_aload_n cg_230 (ix := 28) (pc' := 52) rfl rfl rfl ?_
      refine ex_getfield cg_230 (ix := 29) (pc' := 55) (v := .inl (.int ((mi 41) + (Int32.ofInt 1)))) rfl rfl rfl rfl rfl ?_
      refine ex_ireturn cg_230 (ix := 30) rfl ?_
      exact ⟨_, r, t, f2, n2, _, rfl, rfl, rfl, Or.inr (Or.inr ⟨(fun q => by rcases hlc10 with q2 | q2 | q2 <;> first | omega | (rw [q] at q2; omega)), by omega, rfl, hfx, rfl⟩)⟩
    · have hb27 : ¬ (¬ (mi 41).toInt = (Int32.ofInt 10).toInt) := hb27
      refine ex_aload_n cg_230 (ix := 16) (pc' := 31) rfl rfl rfl ?_
      refine ex_bipush cg_230 (ix := 17) (pc' := 33) rfl rfl rfl ?_
      refine ex_callV cg_230 (ix := 18) (pc' := 36) (As := [.inl (.int (Int32.ofInt (-6)))]) (r := []) rfl rfl rfl (ct_mref (mi := (upi mi 0 (Int32.ofInt 0))) (ml := ml) (x := Int32.ofInt (-6)) (r := r) (by decide +kernel) (by decide +kernel)) (by first | decide | omega) rfl rfl rfl ⟨rfl, rfl, trivial⟩ rfl rfl (fun v h2 hq => ?_)
      obtain ⟨rfl, r2, rfl⟩ := hq
      show cx_T _ 230 _ 36 ([some (.inr (.inl 119))], [.inl (.int (Int32.ofInt (-6)))], [(119, .inl (11, vs_119 (upi mi 0 (Int32.ofInt 0)) ml)), (126, .inr (.inl (0, 7, r2))), (143, .inr (.inl (0, 32, t))), (144, .inr (.inr (.inl (32, f)))), (145, .inr (.inr (.inl (32, n))))]) _
      refine ex_ireturn cg_230 (ix := 19) rfl ?_
      exact ⟨_, _, t, f, n, mi 41, rfl, rfl, rfl, Or.inr (Or.inl ⟨(fun q => by rcases hlc10 with q2 | q2 | q2 <;> first | omega | (rw [q] at q2; omega)), by omega, rfl, rfl, rfl⟩)⟩
  · have hb11 : ¬ (¬ (lg_cmp (sumL f 32) (Int64.ofNat 0)).toInt = 0) := hb11
    refine ex_aload_n cg_230 (ix := 8) (pc' := 15) rfl rfl rfl ?_
    refine ex_bipush cg_230 (ix := 9) (pc' := 17) rfl rfl rfl ?_
    refine ex_callV cg_230 (ix := 10) (pc' := 20) (As := [.inl (.int (Int32.ofInt (-5)))]) (r := []) rfl rfl rfl (ct_mref (mi := (upi mi 0 (Int32.ofInt 0))) (ml := ml) (x := Int32.ofInt (-5)) (r := r) (by decide +kernel) (by decide +kernel)) (by first | decide | omega) rfl rfl rfl ⟨rfl, rfl, trivial⟩ rfl rfl (fun v h2 hq => ?_)
    obtain ⟨rfl, r2, rfl⟩ := hq
    show cx_T _ 230 _ 20 ([some (.inr (.inl 119))], [.inl (.int (Int32.ofInt (-5)))], [(119, .inl (11, vs_119 (upi mi 0 (Int32.ofInt 0)) ml)), (126, .inr (.inl (0, 7, r2))), (143, .inr (.inl (0, 32, t))), (144, .inr (.inr (.inl (32, f)))), (145, .inr (.inr (.inl (32, n))))]) _
    refine ex_ireturn cg_230 (ix := 11) rfl ?_
    refine ⟨_, _, t, f, n, mi 41, rfl, rfl, rfl, Or.inl ⟨?_, rfl, rfl, rfl⟩⟩
    rcases hlc10 with q | q | q
    · omega
    · exact q.2.1
    · omega
theorem ct_mlook {mi : Nat → Int32} {ml : Nat → Int64} {r t : Nat → Int32} {f n : Nat → Int64} {p q : Int32} (hm0 : 0 ≤ (mi 41).toInt) (hm1 : (mi 41).toInt ≤ 10) : cx_Ct 4 231 [.inr (.inl 119), .inl (.int p), .inl (.int q)] (h_ms mi ml r t f n) (fun v_ h2 => ∃ (z : Int32) (r2 t2 : Nat → Int32) (f2 n2 : Nat → Int64) (ac2 : Int32), v_ = some (.inl (.int z)) ∧ h2 = h_ms (upi (upi mi 0 (Int32.ofInt 0)) 41 ac2) ml r2 t2 f2 n2 ∧ t2 = t ∧ lkA p q f (mi 41) z f2 ac2) := by
  have kcm6 : (Int32.ofInt (-6)).toInt = -6 := by decide +kernel
  have kcm5 : (Int32.ofInt (-5)).toInt = -5 := by decide +kernel
  have kcm4 : (Int32.ofInt (-4)).toInt = -4 := by decide +kernel
  have kcm1 : (Int32.ofInt (-1)).toInt = -1 := by decide +kernel
  have kc0 : (Int32.ofInt 0).toInt = 0 := by decide +kernel
  have kc1 : (Int32.ofInt 1).toInt = 1 := by decide +kernel
  have kc8 : (Int32.ofInt 8).toInt = 8 := by decide +kernel
  have kc10 : (Int32.ofInt 10).toInt = 10 := by decide +kernel
  refine cx_Ct.of cg_231 (nL := 3) rfl rfl rfl ?_
  show cx_T 4 231 [119, 126, 143, 144, 145] 0 ([some (.inr (.inl 119)), some (.inl (.int p)), some (.inl (.int q))], [], (h_ms mi ml r t f n)) _
  refine ex_aload_n cg_231 (ix := 0) (pc' := 1) rfl rfl rfl ?_
  refine ex_iconst cg_231 (ix := 1) (pc' := 2) rfl rfl ?_
  refine ex_putfield cg_231 (ix := 2) (pc' := 5) (h' := [(119, .inl (11, vs_119 (upi mi 0 (Int32.ofInt 0)) ml)), (126, .inr (.inl (0, 7, r))), (143, .inr (.inl (0, 32, t))), (144, .inr (.inr (.inl (32, f)))), (145, .inr (.inr (.inl (32, n))))]) rfl rfl rfl rfl rfl rfl rfl rfl ?_
  refine ex_iload_n cg_231 (ix := 3) (pc' := 6) rfl rfl rfl ?_
  refine ex_callS cg_231 (ix := 4) (pc' := 9) (As := [.inl (.int p)]) (r := []) rfl rfl rfl (ct_mplace (x := p)) (by first | decide | omega) rfl rfl trivial rfl rfl (fun v h2 hq => ?_)
  obtain ⟨z, rfl, rfl, hz1⟩ := hq
  rcases hz1 with ⟨hz1, rfl⟩ | ⟨hz1, rfl⟩
  · show cx_T _ 231 _ 9 ([some (.inr (.inl 119)), some (.inl (.int p)), some (.inl (.int q))], [.inl (.int (Int32.ofInt 1))], [(119, .inl (11, vs_119 (upi mi 0 (Int32.ofInt 0)) ml)), (126, .inr (.inl (0, 7, r))), (143, .inr (.inl (0, 32, t))), (144, .inr (.inr (.inl (32, f)))), (145, .inr (.inr (.inl (32, n))))]) _
    refine ex_if cg_231 (ix := 5) (t := 18) (pc' := 12) rfl rfl rfl (fun hb9 => ?_) (fun hb9 => ?_)
    · have hb9 : ¬ (Int32.ofInt 1).toInt = 0 := hb9
      refine ex_aload_n cg_231 (ix := 10) (pc' := 19) rfl rfl rfl ?_
      refine ex_callV cg_231 (ix := 11) (pc' := 22) (As := []) (r := []) rfl rfl rfl (ct_mall (mi := (upi mi 0 (Int32.ofInt 0))) (ml := ml) (f := f)) (by first | decide | omega) rfl rfl rfl ⟨rfl, rfl, trivial⟩ rfl rfl (fun v h2 hq => ?_)
      obtain ⟨rfl, rfl⟩ := hq
      show cx_T _ 231 _ 22 ([some (.inr (.inl 119)), some (.inl (.int p)), some (.inl (.int q))], [.inl (.long (sumL f 32))], [(119, .inl (11, vs_119 (upi mi 0 (Int32.ofInt 0)) ml)), (126, .inr (.inl (0, 7, r))), (143, .inr (.inl (0, 32, t))), (144, .inr (.inr (.inl (32, f)))), (145, .inr (.inr (.inl (32, n))))]) _
      refine ex_lconst cg_231 (ix := 12) (pc' := 23) rfl rfl ?_
      refine ex_lcmp cg_231 (ix := 13) (pc' := 24) rfl rfl ?_
      have hlc23 := cx_cmp (sumL f 32) (Int64.ofNat 0)
      refine ex_if cg_231 (ix := 14) (t := 34) (pc' := 27) rfl rfl rfl (fun hb24 => ?_) (fun hb24 => ?_)
      · have hb24 : ¬ (lg_cmp (sumL f 32) (Int64.ofNat 0)).toInt = 0 := hb24
        refine ex_iload_n cg_231 (ix := 19) (pc' := 35) rfl rfl rfl ?_
        refine ex_iconst cg_231 (ix := 20) (pc' := 36) rfl rfl ?_
        refine ex_icmp cg_231 (ix := 21) (t := 46) (pc' := 39) rfl rfl rfl (fun hb36 => ?_) (fun hb36 => ?_)
        · have hb36 : (Int32.ofInt 1).toInt ≤ q.toInt := hb36
          refine ex_iload_n cg_231 (ix := 26) (pc' := 47) rfl rfl rfl ?_
          refine ex_bipush cg_231 (ix := 27) (pc' := 49) rfl rfl rfl ?_
          refine ex_icmp cg_231 (ix := 28) (t := 61) (pc' := 52) rfl rfl rfl (fun hb49 => ?_) (fun hb49 => ?_)
          · have hb49 : (Int32.ofInt 8).toInt < q.toInt := hb49
            refine ex_aload_n cg_231 (ix := 33) (pc' := 62) rfl rfl rfl ?_
            refine ex_bipush cg_231 (ix := 34) (pc' := 64) rfl rfl rfl ?_
            refine ex_callV cg_231 (ix := 35) (pc' := 67) (As := [.inl (.int (Int32.ofInt (-6)))]) (r := []) rfl rfl rfl (ct_mref (mi := (upi mi 0 (Int32.ofInt 0))) (ml := ml) (x := Int32.ofInt (-6)) (r := r) (by decide +kernel) (by decide +kernel)) (by first | decide | omega) rfl rfl rfl ⟨rfl, rfl, trivial⟩ rfl rfl (fun v h2 hq => ?_)
            obtain ⟨rfl, r2, rfl⟩ := hq
            show cx_T _ 231 _ 67 ([some (.inr (.inl 119)), some (.inl (.int p)), some (.inl (.int q))], [.inl (.int (Int32.ofInt (-6)))], [(119, .inl (11, vs_119 (upi mi 0 (Int32.ofInt 0)) ml)), (126, .inr (.inl (0, 7, r2))), (143, .inr (.inl (0, 32, t))), (144, .inr (.inr (.inl (32, f)))), (145, .inr (.inr (.inl (32, n))))]) _
            refine ex_ireturn cg_231 (ix := 36) rfl ?_
            exact ⟨_, _, t, f, n, mi 41, rfl, rfl, rfl, Or.inr (Or.inr (Or.inr (Or.inl ⟨hz1, (fun q => by rcases hlc23 with q2 | q2 | q2 <;> first | omega | (rw [q] at q2; omega)), by omega, by omega, rfl, rfl, rfl⟩)))⟩
          · have hb49 : ¬ ((Int32.ofInt 8).toInt < q.toInt) := hb49
            refine ex_aload_n cg_231 (ix := 29) (pc' := 53) rfl rfl rfl ?_
            refine ex_getfield cg_231 (ix := 30) (pc' := 56) (v := .inl (.int (mi 41))) rfl rfl rfl rfl rfl ?_
            refine ex_bipush cg_231 (ix := 31) (pc' := 58) rfl rfl rfl ?_
            refine ex_icmp cg_231 (ix := 32) (t := 68) (pc' := 61) rfl rfl rfl (fun hb58 => ?_) (fun hb58 => ?_)
            · have hb58 : ¬ (mi 41).toInt = (Int32.ofInt 10).toInt := hb58
              refine ex_aload_n cg_231 (ix := 37) (pc' := 69) rfl rfl rfl ?_
              refine ex_iload_n cg_231 (ix := 38) (pc' := 70) rfl rfl rfl ?_
              refine ex_iload_n cg_231 (ix := 39) (pc' := 71) rfl rfl rfl ?_
              refine ex_callV cg_231 (ix := 40) (pc' := 74) (As := [.inl (.int p), .inl (.int q)]) (r := []) rfl rfl rfl (ct_mlk (mi := (upi mi 0 (Int32.ofInt 0))) (ml := ml) (f := f) (p := p) (q := q)) (by first | decide | omega) rfl rfl rfl ⟨rfl, rfl, trivial⟩ rfl rfl (fun v h2 hq => ?_)
              obtain ⟨rfl, rfl⟩ := hq
              show cx_T _ 231 _ 74 ([some (.inr (.inl 119)), some (.inl (.int p)), some (.inl (.int q))], [], [(119, .inl (11, vs_119 (upi mi 0 (Int32.ofInt 0)) ml)), (126, .inr (.inl (0, 7, r))), (143, .inr (.inl (0, 32, t))), (144, .inr (.inr (.inl (32, rowU (lkF f p q) f 32)))), (145, .inr (.inr (.inl (32, n))))]) _
              refine ex_aload_n cg_231 (ix := 41) (pc' := 75) rfl rfl rfl ?_
              refine ex_dup cg_231 (ix := 42) (pc' := 76) rfl rfl rfl ?_
              refine ex_getfield cg_231 (ix := 43) (pc' := 79) (v := .inl (.int (mi 41))) rfl rfl rfl rfl rfl ?_
              refine ex_iconst cg_231 (ix := 44) (pc' := 80) rfl rfl ?_
              refine ex_iadd cg_231 (ix := 45) (pc' := 81) rfl rfl ?_
              refine ex_putfield cg_231 (ix := 46) (pc' := 84) (h' := [(119, .inl (11, vs_119 (upi (upi mi 0 (Int32.ofInt 0)) 41 ((mi 41) + (Int32.ofInt 1))) ml)), (126, .inr (.inl (0, 7, r))), (143, .inr (.inl (0, 32, t))), (144, .inr (.inr (.inl (32, rowU (lkF f p q) f 32)))), (145, .inr (.inr (.inl (32, n))))]) rfl rfl rfl rfl rfl rfl rfl rfl ?_
              refine ex_aload_n cg_231 (ix := 47) (pc' := 85) rfl rfl rfl ?_
              refine ex_getfield cg_231 (ix := 48) (pc' := 88) (v := .inl (.int ((mi 41) + (Int32.ofInt 1)))) rfl rfl rfl rfl rfl ?_
              refine ex_ireturn cg_231 (ix := 49) rfl ?_
              exact ⟨_, r, t, _, n, _, rfl, rfl, rfl, Or.inr (Or.inr (Or.inr (Or.inr ⟨hz1, (fun q => by rcases hlc23 with q2 | q2 | q2 <;> first | omega | (rw [q] at q2; omega)), by omega, by omega, rfl, fun x hx => rowU_in hx, rfl⟩)))⟩
            · have hb58 : ¬ (¬ (mi 41).toInt = (Int32.ofInt 10).toInt) := hb58
              refine ex_aload_n cg_231 (ix := 33) (pc' := 62) rfl rfl rfl ?_
              refine ex_bipush cg_231 (ix := 34) (pc' := 64) rfl rfl rfl ?_
              refine ex_callV cg_231 (ix := 35) (pc' := 67) (As := [.inl (.int (Int32.ofInt (-6)))]) (r := []) rfl rfl rfl (ct_mref (mi := (upi mi 0 (Int32.ofInt 0))) (ml := ml) (x := Int32.ofInt (-6)) (r := r) (by decide +kernel) (by decide +kernel)) (by first | decide | omega) rfl rfl rfl ⟨rfl, rfl, trivial⟩ rfl rfl (fun v h2 hq => ?_)
              obtain ⟨rfl, r2, rfl⟩ := hq
              show cx_T _ 231 _ 67 ([some (.inr (.inl 119)), some (.inl (.int p)), some (.inl (.int q))], [.inl (.int (Int32.ofInt (-6)))], [(119, .inl (11, vs_119 (upi mi 0 (Int32.ofInt 0)) ml)), (126, .inr (.inl (0, 7, r2))), (143, .inr (.inl (0, 32, t))), (144, .inr (.inr (.inl (32, f)))), (145, .inr (.inr (.inl (32, n))))]) _
              refine ex_ireturn cg_231 (ix := 36) rfl ?_
              exact ⟨_, _, t, f, n, mi 41, rfl, rfl, rfl, Or.inr (Or.inr (Or.inr (Or.inl ⟨hz1, (fun q => by rcases hlc23 with q2 | q2 | q2 <;> first | omega | (rw [q] at q2; omega)), by omega, by omega, rfl, rfl, rfl⟩)))⟩
        · have hb36 : ¬ ((Int32.ofInt 1).toInt ≤ q.toInt) := hb36
          refine ex_aload_n cg_231 (ix := 22) (pc' := 40) rfl rfl rfl ?_
          refine ex_bipush cg_231 (ix := 23) (pc' := 42) rfl rfl rfl ?_
          refine ex_callV cg_231 (ix := 24) (pc' := 45) (As := [.inl (.int (Int32.ofInt (-4)))]) (r := []) rfl rfl rfl (ct_mref (mi := (upi mi 0 (Int32.ofInt 0))) (ml := ml) (x := Int32.ofInt (-4)) (r := r) (by decide +kernel) (by decide +kernel)) (by first | decide | omega) rfl rfl rfl ⟨rfl, rfl, trivial⟩ rfl rfl (fun v h2 hq => ?_)
          obtain ⟨rfl, r2, rfl⟩ := hq
          show cx_T _ 231 _ 45 ([some (.inr (.inl 119)), some (.inl (.int p)), some (.inl (.int q))], [.inl (.int (Int32.ofInt (-4)))], [(119, .inl (11, vs_119 (upi mi 0 (Int32.ofInt 0)) ml)), (126, .inr (.inl (0, 7, r2))), (143, .inr (.inl (0, 32, t))), (144, .inr (.inr (.inl (32, f)))), (145, .inr (.inr (.inl (32, n))))]) _
          refine ex_ireturn cg_231 (ix := 25) rfl ?_
          exact ⟨_, _, t, f, n, mi 41, rfl, rfl, rfl, Or.inr (Or.inr (Or.inl ⟨hz1, (fun q => by rcases hlc23 with q2 | q2 | q2 <;> first | omega | (rw [q] at q2; omega)), by omega, rfl, rfl, rfl⟩))⟩
      · have hb24 : ¬ (¬ (lg_cmp (sumL f 32) (Int64.ofNat 0)).toInt = 0) := hb24
        refine ex_aload_n cg_231 (ix := 15) (pc' := 28) rfl rfl rfl ?_
        refine ex_bipush cg_231 (ix := 16) (pc' := 30) rfl rfl rfl ?_
        refine ex_callV cg_231 (ix := 17) (pc' := 33) (As := [.inl (.int (Int32.ofInt (-5)))]) (r := []) rfl rfl rfl (ct_mref (mi := (upi mi 0 (Int32.ofInt 0))) (ml := ml) (x := Int32.ofInt (-5)) (r := r) (by decide +kernel) (by decide +kernel)) (by first | decide | omega) rfl rfl rfl ⟨rfl, rfl, trivial⟩ rfl rfl (fun v h2 hq => ?_)
        obtain ⟨rfl, r2, rfl⟩ := hq
        show cx_T _ 231 _ 33 ([some (.inr (.inl 119)), some (.inl (.int p)), some (.inl (.int q))], [.inl (.int (Int32.ofInt (-5)))], [(119, .inl (11, vs_119 (upi mi 0 (Int32.ofInt 0)) ml)), (126, .inr (.inl (0, 7, r2))), (143, .inr (.inl (0, 32, t))), (144, .inr (.inr (.inl (32, f)))), (145, .inr (.inr (.inl (32, n))))]) _
        refine ex_ireturn cg_231 (ix := 18) rfl ?_
        refine ⟨_, _, t, f, n, mi 41, rfl, rfl, rfl, Or.inr (Or.inl ⟨hz1, ?_, rfl, rfl, rfl⟩)⟩
        rcases hlc23 with q | q | q
        · omega
        · exact q.2.1
        · omega
    · have hb9 : ¬ (¬ (Int32.ofInt 1).toInt = 0) := hb9
      exfalso; first | omega | exact absurd hb9 (by decide +kernel)
  · show cx_T _ 231 _ 9 ([some (.inr (.inl 119)), some (.inl (.int p)), some (.inl (.int q))], [.inl (.int (Int32.ofInt 0))], [(119, .inl (11, vs_119 (upi mi 0 (Int32.ofInt 0)) ml)), (126, .inr (.inl (0, 7, r))), (143, .inr (.inl (0, 32, t))), (144, .inr (.inr (.inl (32, f)))), (145, .inr (.inr (.inl (32, n))))]) _
    refine ex_if cg_231 (ix := 5) (t := 18) (pc' := 12) rfl rfl rfl (fun hb9 => ?_) (fun hb9 => ?_)
    · have hb9 : ¬ (Int32.ofInt 0).toInt = 0 := hb9
      exfalso; first | omega | exact absurd hb9 (by decide +kernel)
    · have hb9 : ¬ (¬ (Int32.ofInt 0).toInt = 0) := hb9
      refine ex_aload_n cg_231 (ix := 6) (pc' := 13) rfl rfl rfl ?_
      refine ex_iconst cg_231 (ix := 7) (pc' := 14) rfl rfl ?_
      refine ex_callV cg_231 (ix := 8) (pc' := 17) (As := [.inl (.int (Int32.ofInt (-1)))]) (r := []) rfl rfl rfl (ct_mref (mi := (upi mi 0 (Int32.ofInt 0))) (ml := ml) (x := Int32.ofInt (-1)) (r := r) (by decide +kernel) (by decide +kernel)) (by first | decide | omega) rfl rfl rfl ⟨rfl, rfl, trivial⟩ rfl rfl (fun v h2 hq => ?_)
      obtain ⟨rfl, r2, rfl⟩ := hq
      show cx_T _ 231 _ 17 ([some (.inr (.inl 119)), some (.inl (.int p)), some (.inl (.int q))], [.inl (.int (Int32.ofInt (-1)))], [(119, .inl (11, vs_119 (upi mi 0 (Int32.ofInt 0)) ml)), (126, .inr (.inl (0, 7, r2))), (143, .inr (.inl (0, 32, t))), (144, .inr (.inr (.inl (32, f)))), (145, .inr (.inr (.inl (32, n))))]) _
      refine ex_ireturn cg_231 (ix := 9) rfl ?_
      exact ⟨_, _, t, f, n, mi 41, rfl, rfl, rfl, Or.inl ⟨hz1, rfl, rfl, rfl⟩⟩
end
