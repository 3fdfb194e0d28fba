noncomputable section
theorem cg_234 : cx_G 234 tb_234 TbX11 (some .long) := cx_G.of gok_234
theorem cg_235 : cx_G 235 tb_235 TbX11 none := cx_G.of gok_235
theorem cg_236 : cx_G 236 tb_236 TbX11 (some .int) := cx_G.of gok_236
theorem cg_237 : cx_G 237 tb_237 TbX11 (some .int) := cx_G.of gok_237
theorem cg_238 : cx_G 238 tb_238 TbX11 (some .int) := cx_G.of gok_238
def upl (m : Nat → Int64) (k : Nat) (x : Int64) : Nat → Int64 := fun i => bif Nat.beq i k then x else m i
theorem cx_div7 {x : Int32} (h : 0 ≤ x.toInt) : (x / Int32.ofInt 7).toInt = x.toInt / 7 ∧ (x - x / Int32.ofInt 7 * Int32.ofInt 7).toInt = x.toInt % 7 := by
  have k7 : (Int32.ofInt 7).toInt = 7 := by decide +kernel
  have hi := ab_hi32 x
  have e1 : (x / Int32.ofInt 7).toInt = x.toInt / 7 := by rw [ab_div_toInt (by rw [k7]; omega), k7, Int.tdiv_eq_ediv_of_nonneg h]
  have e2 : (x / Int32.ofInt 7 * Int32.ofInt 7).toInt = 7 * (x.toInt / 7) := by rw [cx_mulk2 (n := 7) (by decide +kernel) (by rw [e1]; omega) (by rw [e1]; omega), e1]
  refine ⟨e1, ?_⟩
  rw [cx_subc (by rw [e2]; omega) (by rw [e2]; omega), e2]
  omega
theorem dgt_lt {m k j : Nat} : dgt m k j < 7 := Nat.mod_lt _ (by omega)
/-- the parts by the first looks of a row -/
def fS (dl ds dr q : Int32) (kp : Nat → Int64) (pl : Nat → Nat) : Nat → Nat → Int64
  | 0 => kp
  | k + 1 => nxP dl ds dr q (fS dl ds dr q kp pl k) (pl k)
theorem fS_fold {dl ds dr q : Int32} {kp : Nat → Int64} {pl : Nat → Nat} : ∀ m : Nat, fS dl ds dr q kp pl m = ((List.range m).map pl).foldl (nxP dl ds dr q) kp
  | 0 => rfl
  | m + 1 => by rw [fS, fS_fold m, List.range_succ, List.map_append, List.foldl_append]; rfl
theorem lb_A {d : Nat} {mi : Nat → Int32} {ml : Nat → Int64} {kk m q : Int32} {mm kN bN : Nat} {at_ : Int32} {f n_ kp : Nat → Int64} {P : Option cx_V → cx_H → Prop} (hm : m.toInt = (mm : Int)) (hmm : mm ≤ 3) (hP : ∀ ro : Nat → Int32, (∀ j : Nat, j < mm → (ro j).toInt = (dgt mm kN j : Int) - 3) → ∀ lfv : Int32, cx_T d 234 [119, 144, 145, 146, 147] 49 ([some (.inr (.inl 119)), some (.inl (.int kk)), some (.inl (.int m)), some (.inl (.int q)), some (.inl (.int at_)), some (.inl (.int lfv)), some (.inl (.int (Int32.ofInt 0)))], [], [(119, .inl (11, vs_119 mi ml)), (144, .inr (.inr (.inl (32, f)))), (145, .inr (.inr (.inl (32, n_)))), (146, .inr (.inr (.inl (32, kp)))), (147, .inr (.inl (0, 3, ro)))]) P) :
    ∀ n : Nat, n ≤ mm → ∀ (i lfv : Int32) (ro : Nat → Int32), i.toInt = (n : Int) - 1 → lfv.toInt = ((kN / 7 ^ (mm - n) : Nat) : Int) → (∀ j : Nat, n ≤ j → j < mm → (ro j).toInt = (dgt mm kN j : Int) - 3) → cx_T d 234 [119, 144, 145, 146, 147] 14 ([some (.inr (.inl 119)), some (.inl (.int kk)), some (.inl (.int m)), some (.inl (.int q)), some (.inl (.int at_)), some (.inl (.int lfv)), some (.inl (.int i))], [], [(119, .inl (11, vs_119 mi ml)), (144, .inr (.inr (.inl (32, f)))), (145, .inr (.inr (.inl (32, n_)))), (146, .inr (.inr (.inl (32, kp)))), (147, .inr (.inl (0, 3, ro)))]) P := by
  have kcm1 : (Int32.ofInt (-1)).toInt = -1 := by decide +kernel
  have kc0 : (Int32.ofInt 0).toInt = 0 := by decide +kernel
  have kc1 : (Int32.ofInt 1).toInt = 1 := by decide +kernel
  have kc3 : (Int32.ofInt 3).toInt = 3 := by decide +kernel
  have kc7 : (Int32.ofInt 7).toInt = 7 := by decide +kernel
  have kc32 : (Int32.ofInt 32).toInt = 32 := by decide +kernel
  have sv_ne : ¬ Int32.ofInt 7 = 0 := by decide +kernel
  intro n
  induction n with
  | zero =>
    intro _ i lfv ro hi hle hrw
    refine ex_iload cg_234 (ix := 9) (pc' := 16) rfl rfl rfl ?_
    refine ex_if cg_234 (ix := 10) (t := 46) (pc' := 19) rfl rfl rfl (fun hb16 => ?_) (fun hb16 => ?_)
    · have hb16 : i.toInt < 0 := hb16
      refine ex_iconst cg_234 (ix := 26) (pc' := 47) rfl rfl ?_
      refine ex_istore cg_234 (ix := 27) (pc' := 49) (L' := [some (.inr (.inl 119)), some (.inl (.int kk)), some (.inl (.int m)), some (.inl (.int q)), some (.inl (.int at_)), some (.inl (.int lfv)), some (.inl (.int (Int32.ofInt 0)))]) rfl rfl rfl rfl ?_
      exact hP ro (fun j hj => hrw j (Nat.zero_le _) hj) lfv
    · have hb16 : ¬ (i.toInt < 0) := hb16
      exfalso; first | omega | exact absurd hb16 (by decide +kernel)
  | succ n ih =>
    intro hn i lfv ro hi hle hrw
    have hik : i.toNatClampNeg = n := cx_clamp (by omega)
    refine ex_iload cg_234 (ix := 9) (pc' := 16) rfl rfl rfl ?_
    refine ex_if cg_234 (ix := 10) (t := 46) (pc' := 19) rfl rfl rfl (fun hb16 => ?_) (fun hb16 => ?_)
    · have hb16 : i.toInt < 0 := hb16
      exfalso; first | omega | exact absurd hb16 (by decide +kernel)
    · have hb16 : ¬ (i.toInt < 0) := hb16
      refine ex_aload_n cg_234 (ix := 11) (pc' := 20) rfl rfl rfl ?_
      refine ex_getfield cg_234 (ix := 12) (pc' := 23) (v := .inr (.inl 147)) rfl rfl rfl rfl rfl ?_
      refine ex_iload cg_234 (ix := 13) (pc' := 25) rfl rfl rfl ?_
      refine ex_iload cg_234 (ix := 14) (pc' := 27) rfl rfl rfl ?_
      refine ex_bipush cg_234 (ix := 15) (pc' := 29) rfl rfl rfl ?_
      refine ex_irem cg_234 (ix := 16) (pc' := 30) rfl (by exact sv_ne) rfl ?_
      refine ex_iconst cg_234 (ix := 17) (pc' := 31) rfl rfl ?_
      refine ex_isub cg_234 (ix := 18) (pc' := 32) rfl rfl ?_
      refine ex_iastore cg_234 (ix := 19) (pc' := 33) (h' := [(119, .inl (11, vs_119 mi ml)), (144, .inr (.inr (.inl (32, f)))), (145, .inr (.inr (.inl (32, n_)))), (146, .inr (.inr (.inl (32, kp)))), (147, .inr (.inl (0, 3, upd ro i.toNatClampNeg ((lfv - lfv / (Int32.ofInt 7) * (Int32.ofInt 7)) - (Int32.ofInt 3)))))]) rfl rfl (by omega) (by omega) rfl rfl ?_
      refine ex_iload cg_234 (ix := 20) (pc' := 35) rfl rfl rfl ?_
      refine ex_bipush cg_234 (ix := 21) (pc' := 37) rfl rfl rfl ?_
      refine ex_idiv cg_234 (ix := 22) (pc' := 38) rfl (by exact sv_ne) rfl ?_
      refine ex_istore cg_234 (ix := 23) (pc' := 40) (L' := [some (.inr (.inl 119)), some (.inl (.int kk)), some (.inl (.int m)), some (.inl (.int q)), some (.inl (.int at_)), some (.inl (.int (lfv / (Int32.ofInt 7)))), some (.inl (.int i))]) rfl rfl rfl rfl ?_
      refine ex_iinc cg_234 (ix := 24) (pc' := 43) (L' := [some (.inr (.inl 119)), some (.inl (.int kk)), some (.inl (.int m)), some (.inl (.int q)), some (.inl (.int at_)), some (.inl (.int (lfv / (Int32.ofInt 7)))), some (.inl (.int (i + Int32.ofInt (-1))))]) rfl rfl rfl rfl rfl ?_
      refine ex_goto cg_234 (ix := 25) (pc' := 14) rfl rfl ?_
      obtain ⟨D, hD⟩ : ∃ D, kN / 7 ^ (mm - (n + 1)) = D := ⟨_, rfl⟩
      rw [hD] at hle
      have e2 := cx_div7 (x := lfv) (by omega)
      have e3 : (lfv - lfv / Int32.ofInt 7 * Int32.ofInt 7 - Int32.ofInt 3).toInt = lfv.toInt % 7 - 3 := by rw [cx_subc (by rw [e2.2]; omega) (by rw [e2.2]; omega), e2.2]; omega
      have e5 : kN / 7 ^ (mm - n) = D / 7 := by rw [← hD, Nat.div_div_eq_div_mul, ← Nat.pow_succ, show (mm - (n + 1)).succ = mm - n by omega]
      refine ih (by omega) _ _ _ (by rw [cx_addc (by omega) (by omega)]; omega) (by rw [e2.1, hle, e5]; omega) (fun j h1 h2 => ?_)
      unfold upd
      by_cases q1 : j = i.toNatClampNeg
      · rw [if_pos q1, e3, hle]
        unfold dgt
        rw [show mm - 1 - j = mm - (n + 1) by omega, hD]
        omega
      · rw [if_neg q1]
        exact hrw j (by omega) h2
theorem lb_B {d : Nat} {mi : Nat → Int32} {ml : Nat → Int64} {kk m q : Int32} {mm kN bN : Nat} {lfv : Int32} {f n kp : Nat → Int64} {P : Option cx_V → cx_H → Prop} (hm : m.toInt = (mm : Int)) (hmm : mm ≤ 3) (hd3 : 4 ≤ d) (hb32 : bN < 32) (hP1 : ∀ ro : Nat → Int32, (∀ j : Nat, j < mm → (ro j).toInt = atA mm bN kN (j + 1) ∧ (0 ≤ atA mm bN kN (j + 1) ∧ atA mm bN kN (j + 1) < 32)) → ∀ at_ : Int32, cx_T d 234 [119, 144, 145, 146, 147] 97 ([some (.inr (.inl 119)), some (.inl (.int kk)), some (.inl (.int m)), some (.inl (.int q)), some (.inl (.int at_)), some (.inl (.int lfv)), some (.inl (.int (Int32.ofInt 0)))], [], [(119, .inl (11, vs_119 mi ml)), (144, .inr (.inr (.inl (32, f)))), (145, .inr (.inr (.inl (32, n)))), (146, .inr (.inr (.inl (32, kp)))), (147, .inr (.inl (0, 3, ro)))]) P) (hP2 : ∀ ro : Nat → Int32, (∃ j : Nat, j < mm ∧ ¬ (0 ≤ atA mm bN kN (j + 1) ∧ atA mm bN kN (j + 1) < 32)) → P (some (.inl (.long (Int64.ofInt (-1))))) ([(119, .inl (11, vs_119 mi ml)), (144, .inr (.inr (.inl (32, f)))), (145, .inr (.inr (.inl (32, n)))), (146, .inr (.inr (.inl (32, kp)))), (147, .inr (.inl (0, 3, ro)))])) :
    ∀ m_ k : Nat, k + m_ = mm → ∀ (i at_ : Int32) (ro : Nat → Int32), i.toInt = (k : Int) → at_.toInt = atA mm bN kN k → (∀ j : Nat, j < k → (ro j).toInt = atA mm bN kN (j + 1) ∧ (0 ≤ atA mm bN kN (j + 1) ∧ atA mm bN kN (j + 1) < 32)) → (∀ j : Nat, k ≤ j → j < mm → (ro j).toInt = (dgt mm kN j : Int) - 3) → cx_T d 234 [119, 144, 145, 146, 147] 49 ([some (.inr (.inl 119)), some (.inl (.int kk)), some (.inl (.int m)), some (.inl (.int q)), some (.inl (.int at_)), some (.inl (.int lfv)), some (.inl (.int i))], [], [(119, .inl (11, vs_119 mi ml)), (144, .inr (.inr (.inl (32, f)))), (145, .inr (.inr (.inl (32, n)))), (146, .inr (.inr (.inl (32, kp)))), (147, .inr (.inl (0, 3, ro)))]) P := by
  have kcm1 : (Int32.ofInt (-1)).toInt = -1 := by decide +kernel
  have kc0 : (Int32.ofInt 0).toInt = 0 := by decide +kernel
  have kc1 : (Int32.ofInt 1).toInt = 1 := by decide +kernel
  have kc3 : (Int32.ofInt 3).toInt = 3 := by decide +kernel
  have kc7 : (Int32.ofInt 7).toInt = 7 := by decide +kernel
  have kc32 : (Int32.ofInt 32).toInt = 32 := by decide +kernel
  intro m_
  induction m_ with
  | zero =>
    intro k hk i at_ ro hi hat hlo hhi
    refine ex_iload cg_234 (ix := 28) (pc' := 51) rfl rfl rfl ?_
    refine ex_iload_n cg_234 (ix := 29) (pc' := 52) rfl rfl rfl ?_
    refine ex_icmp cg_234 (ix := 30) (t := 94) (pc' := 55) rfl rfl rfl (fun hb52 => ?_) (fun hb52 => ?_)
    · have hb52 : m.toInt ≤ i.toInt := hb52
      refine ex_iconst cg_234 (ix := 50) (pc' := 95) rfl rfl ?_
      refine ex_istore cg_234 (ix := 51) (pc' := 97) (L' := [some (.inr (.inl 119)), some (.inl (.int kk)), some (.inl (.int m)), some (.inl (.int q)), some (.inl (.int at_)), some (.inl (.int lfv)), some (.inl (.int (Int32.ofInt 0)))]) rfl rfl rfl rfl ?_
      exact hP1 ro (fun j hj => hlo j (by omega)) at_
    · have hb52 : ¬ (m.toInt ≤ i.toInt) := hb52
      exfalso; first | omega | exact absurd hb52 (by decide +kernel)
  | succ m_ ih =>
    intro k hk i at_ ro hi hat hlo hhi
    have hik : i.toNatClampNeg = k := cx_clamp hi
    have hdg := dgt_lt (m := mm) (k := kN) (j := k)
    have hr1 : (ro i.toNatClampNeg).toInt = (dgt mm kN k : Int) - 3 := by rw [hik]; exact hhi k (Nat.le_refl _) (by omega)
    have hatb : 0 ≤ at_.toInt ∧ at_.toInt < 32 := by
      rw [hat]
      cases k with
      | zero => show 0 ≤ (bN : Int) ∧ (bN : Int) < 32; omega
      | succ j => exact (hlo j (by omega)).2
    have hat2 : (at_ + ro i.toNatClampNeg).toInt = atA mm bN kN (k + 1) := by
      rw [cx_addc (by omega) (by omega), hr1, hat, atA]
      omega
    refine ex_iload cg_234 (ix := 28) (pc' := 51) rfl rfl rfl ?_
    refine ex_iload_n cg_234 (ix := 29) (pc' := 52) rfl rfl rfl ?_
    refine ex_icmp cg_234 (ix := 30) (t := 94) (pc' := 55) rfl rfl rfl (fun hb52 => ?_) (fun hb52 => ?_)
    · have hb52 : m.toInt ≤ i.toInt := hb52
      exfalso; first | omega | exact absurd hb52 (by decide +kernel)
    · have hb52 : ¬ (m.toInt ≤ i.toInt) := hb52
      refine ex_iload cg_234 (ix := 31) (pc' := 57) rfl rfl rfl ?_
      refine ex_aload_n cg_234 (ix := 32) (pc' := 58) rfl rfl rfl ?_
      refine ex_getfield cg_234 (ix := 33) (pc' := 61) (v := .inr (.inl 147)) rfl rfl rfl rfl rfl ?_
      refine ex_iload cg_234 (ix := 34) (pc' := 63) rfl rfl rfl ?_
      refine ex_iaload cg_234 (ix := 35) (pc' := 64) rfl rfl (by omega) (by omega) rfl ?_
      refine ex_iadd cg_234 (ix := 36) (pc' := 65) rfl rfl ?_
      refine ex_istore cg_234 (ix := 37) (pc' := 67) (L' := [some (.inr (.inl 119)), some (.inl (.int kk)), some (.inl (.int m)), some (.inl (.int q)), some (.inl (.int (at_ + (ro i.toNatClampNeg)))), some (.inl (.int lfv)), some (.inl (.int i))]) rfl rfl rfl rfl ?_
      refine ex_aload_n cg_234 (ix := 38) (pc' := 68) rfl rfl rfl ?_
      refine ex_getfield cg_234 (ix := 39) (pc' := 71) (v := .inr (.inl 147)) rfl rfl rfl rfl rfl ?_
      refine ex_iload cg_234 (ix := 40) (pc' := 73) rfl rfl rfl ?_
      refine ex_iload cg_234 (ix := 41) (pc' := 75) rfl rfl rfl ?_
      refine ex_iastore cg_234 (ix := 42) (pc' := 76) (h' := [(119, .inl (11, vs_119 mi ml)), (144, .inr (.inr (.inl (32, f)))), (145, .inr (.inr (.inl (32, n)))), (146, .inr (.inr (.inl (32, kp)))), (147, .inr (.inl (0, 3, upd ro i.toNatClampNeg (at_ + (ro i.toNatClampNeg)))))]) rfl rfl (by omega) (by omega) rfl rfl ?_
      refine ex_iload cg_234 (ix := 43) (pc' := 78) rfl rfl rfl ?_
      refine ex_callS cg_234 (ix := 44) (pc' := 81) (As := [.inl (.int (at_ + (ro i.toNatClampNeg)))]) (r := []) rfl rfl rfl (ct_mplace (x := at_ + (ro i.toNatClampNeg))) (by first | decide | omega) rfl rfl trivial rfl rfl (fun v h2 hq => ?_)
      obtain ⟨z, rfl, rfl, hz1⟩ := hq
      rw [hat2] at hz1
      rcases hz1 with ⟨hz1, rfl⟩ | ⟨hz1, rfl⟩
      · show cx_T _ 234 _ 81 ([some (.inr (.inl 119)), some (.inl (.int kk)), some (.inl (.int m)), some (.inl (.int q)), some (.inl (.int (at_ + (ro i.toNatClampNeg)))), some (.inl (.int lfv)), some (.inl (.int i))], [.inl (.int (Int32.ofInt 1))], [(119, .inl (11, vs_119 mi ml)), (144, .inr (.inr (.inl (32, f)))), (145, .inr (.inr (.inl (32, n)))), (146, .inr (.inr (.inl (32, kp)))), (147, .inr (.inl (0, 3, upd ro i.toNatClampNeg (at_ + (ro i.toNatClampNeg)))))]) _
        refine ex_if cg_234 (ix := 45) (t := 88) (pc' := 84) rfl rfl rfl (fun hb81 => ?_) (fun hb81 => ?_)
        · have hb81 : ¬ (Int32.ofInt 1).toInt = 0 := hb81
          refine ex_iinc cg_234 (ix := 48) (pc' := 91) (L' := [some (.inr (.inl 119)), some (.inl (.int kk)), some (.inl (.int m)), some (.inl (.int q)), some (.inl (.int (at_ + (ro i.toNatClampNeg)))), some (.inl (.int lfv)), some (.inl (.int (i + Int32.ofInt 1)))]) rfl rfl rfl rfl rfl ?_
          refine ex_goto cg_234 (ix := 49) (pc' := 49) rfl rfl ?_
          refine ih (k + 1) (by omega) _ _ _ (by rw [cx_addc (by omega) (by omega)]; omega) hat2 (fun j hj => ?_) (fun j h1 h2 => ?_)
          · unfold upd
            by_cases q1 : j = i.toNatClampNeg
            · rw [if_pos q1, hat2, show j = k by omega]; exact ⟨rfl, by omega⟩
            · rw [if_neg q1]; exact hlo j (by omega)
          · unfold upd
            rw [if_neg (by omega)]
            exact hhi j (by omega) h2
        · have hb81 : ¬ (¬ (Int32.ofInt 1).toInt = 0) := hb81
          exfalso; first | omega | exact absurd hb81 (by decide +kernel)
      · show cx_T _ 234 _ 81 ([some (.inr (.inl 119)), some (.inl (.int kk)), some (.inl (.int m)), some (.inl (.int q)), some (.inl (.int (at_ + (ro i.toNatClampNeg)))), some (.inl (.int lfv)), some (.inl (.int i))], [.inl (.int (Int32.ofInt 0))], [(119, .inl (11, vs_119 mi ml)), (144, .inr (.inr (.inl (32, f)))), (145, .inr (.inr (.inl (32, n)))), (146, .inr (.inr (.inl (32, kp)))), (147, .inr (.inl (0, 3, upd ro i.toNatClampNeg (at_ + (ro i.toNatClampNeg)))))]) _
        refine ex_if cg_234 (ix := 45) (t := 88) (pc' := 84) rfl rfl rfl (fun hb81 => ?_) (fun hb81 => ?_)
        · have hb81 : ¬ (Int32.ofInt 0).toInt = 0 := hb81
          exfalso; first | omega | exact absurd hb81 (by decide +kernel)
        · have hb81 : ¬ (¬ (Int32.ofInt 0).toInt = 0) := hb81
          refine ex_ldc2_w cg_234 (ix := 46) (pc' := 87) rfl rfl rfl ?_
          refine ex_lreturn cg_234 (ix := 47) rfl ?_
          exact hP2 _ ⟨k, by omega, by omega⟩
theorem lb_C {d : Nat} {mi : Nat → Int32} {ml : Nat → Int64} {kk m q : Int32} {mm kN bN : Nat} {at_ lfv : Int32} {ro : Nat → Int32} {f n kp : Nat → Int64} {P : Option cx_V → cx_H → Prop}  (hP : cx_T d 234 [119, 144, 145, 146, 147] 127 ([some (.inr (.inl 119)), some (.inl (.int kk)), some (.inl (.int m)), some (.inl (.int q)), some (.inl (.int at_)), some (.inl (.int lfv)), some (.inl (.int (Int32.ofInt 0)))], [], [(119, .inl (11, vs_119 mi ml)), (144, .inr (.inr (.inl (32, rowU kp f 32)))), (145, .inr (.inr (.inl (32, n)))), (146, .inr (.inr (.inl (32, kp)))), (147, .inr (.inl (0, 3, ro)))]) P) :
    ∀ (m9 k : Nat), k + m9 = 32 → ∀ i : Int32, i.toInt = (k : Int) → cx_T d 234 [119, 144, 145, 146, 147] 97 ([some (.inr (.inl 119)), some (.inl (.int kk)), some (.inl (.int m)), some (.inl (.int q)), some (.inl (.int at_)), some (.inl (.int lfv)), some (.inl (.int i))], [], [(119, .inl (11, vs_119 mi ml)), (144, .inr (.inr (.inl (32, rowU kp f k)))), (145, .inr (.inr (.inl (32, n)))), (146, .inr (.inr (.inl (32, kp)))), (147, .inr (.inl (0, 3, ro)))]) P := by
  have kcm1 : (Int32.ofInt (-1)).toInt = -1 := by decide +kernel
  have kc0 : (Int32.ofInt 0).toInt = 0 := by decide +kernel
  have kc1 : (Int32.ofInt 1).toInt = 1 := by decide +kernel
  have kc3 : (Int32.ofInt 3).toInt = 3 := by decide +kernel
  have kc7 : (Int32.ofInt 7).toInt = 7 := by decide +kernel
  have kc32 : (Int32.ofInt 32).toInt = 32 := by decide +kernel
  intro m9
  induction m9 with
  | zero =>
    intro k hk i hi 
    have ek : k = 32 := by omega
    subst ek
    refine ex_iload cg_234 (ix := 52) (pc' := 99) rfl rfl rfl ?_
    refine ex_bipush cg_234 (ix := 53) (pc' := 101) rfl rfl rfl ?_
    refine ex_icmp cg_234 (ix := 54) (t := 124) (pc' := 104) rfl rfl rfl (fun hb101 => ?_) (fun hb101 => ?_)
    · have hb101 : (Int32.ofInt 32).toInt ≤ i.toInt := hb101
      refine ex_iconst cg_234 (ix := 65) (pc' := 125) rfl rfl ?_
      refine ex_istore cg_234 (ix := 66) (pc' := 127) (L' := [some (.inr (.inl 119)), some (.inl (.int kk)), some (.inl (.int m)), some (.inl (.int q)), some (.inl (.int at_)), some (.inl (.int lfv)), some (.inl (.int (Int32.ofInt 0)))]) rfl rfl rfl rfl ?_
      exact hP
    · have hb101 : ¬ ((Int32.ofInt 32).toInt ≤ i.toInt) := hb101
      exfalso; first | omega | exact absurd hb101 (by decide +kernel)
  | succ m9 ih =>
    intro k hk i hi 
    have hik : i.toNatClampNeg = k := cx_clamp hi
    refine ex_iload cg_234 (ix := 52) (pc' := 99) rfl rfl rfl ?_
    refine ex_bipush cg_234 (ix := 53) (pc' := 101) rfl rfl rfl ?_
    refine ex_icmp cg_234 (ix := 54) (t := 124) (pc' := 104) rfl rfl rfl (fun hb101 => ?_) (fun hb101 => ?_)
    · have hb101 : (Int32.ofInt 32).toInt ≤ i.toInt := hb101
      exfalso; first | omega | exact absurd hb101 (by decide +kernel)
    · have hb101 : ¬ ((Int32.ofInt 32).toInt ≤ i.toInt) := hb101
      refine ex_aload_n cg_234 (ix := 55) (pc' := 105) rfl rfl rfl ?_
      refine ex_getfield cg_234 (ix := 56) (pc' := 108) (v := .inr (.inl 144)) rfl rfl rfl rfl rfl ?_
      refine ex_iload cg_234 (ix := 57) (pc' := 110) rfl rfl rfl ?_
      refine ex_aload_n cg_234 (ix := 58) (pc' := 111) rfl rfl rfl ?_
      refine ex_getfield cg_234 (ix := 59) (pc' := 114) (v := .inr (.inl 146)) rfl rfl rfl rfl rfl ?_
      refine ex_iload cg_234 (ix := 60) (pc' := 116) rfl rfl rfl ?_
      refine ex_laload cg_234 (ix := 61) (pc' := 117) rfl rfl (by omega) (by omega) rfl ?_
      refine ex_lastore cg_234 (ix := 62) (pc' := 118) (h' := [(119, .inl (11, vs_119 mi ml)), (144, .inr (.inr (.inl (32, vp_updL (rowU kp f k) i.toNatClampNeg (kp i.toNatClampNeg))))), (145, .inr (.inr (.inl (32, n)))), (146, .inr (.inr (.inl (32, kp)))), (147, .inr (.inl (0, 3, ro)))]) rfl rfl (by omega) (by omega) rfl rfl ?_
      refine ex_iinc cg_234 (ix := 63) (pc' := 121) (L' := [some (.inr (.inl 119)), some (.inl (.int kk)), some (.inl (.int m)), some (.inl (.int q)), some (.inl (.int at_)), some (.inl (.int lfv)), some (.inl (.int (i + Int32.ofInt 1)))]) rfl rfl rfl rfl rfl ?_
      refine ex_goto cg_234 (ix := 64) (pc' := 97) rfl rfl ?_
      have e1 : vp_updL (rowU kp f k) i.toNatClampNeg (kp i.toNatClampNeg) = rowU kp f (k + 1) := by
        rw [hik]
        exact rowU_L rfl
      rw [e1]
      exact ih (k + 1) (by omega) _ (by rw [cx_addc (by omega) (by omega)]; omega)
theorem lb_D {d : Nat} {mi : Nat → Int32} {ml : Nat → Int64} {kk m q : Int32} {mm kN bN : Nat} {at_ lfv : Int32} {kp : Nat → Int64} {ro : Nat → Int32} {pl : Nat → Nat} {P : Option cx_V → cx_H → Prop} (hm : m.toInt = (mm : Int)) (hmm : mm ≤ 3) (hd3 : 4 ≤ d) (hrw : ∀ j : Nat, j < mm → (ro j).toInt = (pl j : Int)) (hP : ∀ f n : Nat → Int64, (∀ x : Nat, x < 32 → f x = fS (mi 42) (mi 43) (mi 44) q kp pl mm x) → P (some (.inl (.long (sumL f 32)))) ([(119, .inl (11, vs_119 mi ml)), (144, .inr (.inr (.inl (32, f)))), (145, .inr (.inr (.inl (32, n)))), (146, .inr (.inr (.inl (32, kp)))), (147, .inr (.inl (0, 3, ro)))])) :
    ∀ m_ k : Nat, k + m_ = mm → ∀ (i : Int32) (f n : Nat → Int64), i.toInt = (k : Int) → (∀ x : Nat, x < 32 → f x = fS (mi 42) (mi 43) (mi 44) q kp pl k x) → cx_T d 234 [119, 144, 145, 146, 147] 127 ([some (.inr (.inl 119)), some (.inl (.int kk)), some (.inl (.int m)), some (.inl (.int q)), some (.inl (.int at_)), some (.inl (.int lfv)), some (.inl (.int i))], [], [(119, .inl (11, vs_119 mi ml)), (144, .inr (.inr (.inl (32, f)))), (145, .inr (.inr (.inl (32, n)))), (146, .inr (.inr (.inl (32, kp)))), (147, .inr (.inl (0, 3, ro)))]) P := by
  have kcm1 : (Int32.ofInt (-1)).toInt = -1 := by decide +kernel
  have kc0 : (Int32.ofInt 0).toInt = 0 := by decide +kernel
  have kc1 : (Int32.ofInt 1).toInt = 1 := by decide +kernel
  have kc3 : (Int32.ofInt 3).toInt = 3 := by decide +kernel
  have kc7 : (Int32.ofInt 7).toInt = 7 := by decide +kernel
  have kc32 : (Int32.ofInt 32).toInt = 32 := by decide +kernel
  intro m_
  induction m_ with
  | zero =>
    intro k hk i f n hi hf
    have ek : k = mm := by omega
    subst ek
    refine ex_iload cg_234 (ix := 67) (pc' := 129) rfl rfl rfl ?_
    refine ex_iload_n cg_234 (ix := 68) (pc' := 130) rfl rfl rfl ?_
    refine ex_icmp cg_234 (ix := 69) (t := 155) (pc' := 133) rfl rfl rfl (fun hb130 => ?_) (fun hb130 => ?_)
    · have hb130 : m.toInt ≤ i.toInt := hb130
      refine ex_aload_n cg_234 (ix := 81) (pc' := 156) rfl rfl rfl ?_
      refine ex_callV cg_234 (ix := 82) (pc' := 159) (As := []) (r := []) rfl rfl rfl (ct_mall (mi := mi) (ml := ml) (f := f)) (by first | decide | omega) rfl rfl rfl ⟨rfl, rfl, trivial⟩ rfl rfl (fun v h2 hq => ?_)
      obtain ⟨rfl, rfl⟩ := hq
      show cx_T _ 234 _ 159 ([some (.inr (.inl 119)), some (.inl (.int kk)), some (.inl (.int m)), some (.inl (.int q)), some (.inl (.int at_)), some (.inl (.int lfv)), some (.inl (.int i))], [.inl (.long (sumL f 32))], [(119, .inl (11, vs_119 mi ml)), (144, .inr (.inr (.inl (32, f)))), (145, .inr (.inr (.inl (32, n)))), (146, .inr (.inr (.inl (32, kp)))), (147, .inr (.inl (0, 3, ro)))]) _
      refine ex_lreturn cg_234 (ix := 83) rfl ?_
      exact hP f n (fun x hx => hf x hx)
    · have hb130 : ¬ (m.toInt ≤ i.toInt) := hb130
      exfalso; first | omega | exact absurd hb130 (by decide +kernel)
  | succ m_ ih =>
    intro k hk i f n hi hf
    have hik : i.toNatClampNeg = k := cx_clamp hi
    have hrk : (ro i.toNatClampNeg).toInt = (pl k : Int) := by rw [hik]; exact hrw k (by omega)
    refine ex_iload cg_234 (ix := 67) (pc' := 129) rfl rfl rfl ?_
    refine ex_iload_n cg_234 (ix := 68) (pc' := 130) rfl rfl rfl ?_
    refine ex_icmp cg_234 (ix := 69) (t := 155) (pc' := 133) rfl rfl rfl (fun hb130 => ?_) (fun hb130 => ?_)
    · have hb130 : m.toInt ≤ i.toInt := hb130
      exfalso; first | omega | exact absurd hb130 (by decide +kernel)
    · have hb130 : ¬ (m.toInt ≤ i.toInt) := hb130
      refine ex_aload_n cg_234 (ix := 70) (pc' := 134) rfl rfl rfl ?_
      refine ex_aload_n cg_234 (ix := 71) (pc' := 135) rfl rfl rfl ?_
      refine ex_getfield cg_234 (ix := 72) (pc' := 138) (v := .inr (.inl 147)) rfl rfl rfl rfl rfl ?_
      refine ex_iload cg_234 (ix := 73) (pc' := 140) rfl rfl rfl ?_
      refine ex_iaload cg_234 (ix := 74) (pc' := 141) rfl rfl (by omega) (by omega) rfl ?_
      refine ex_iload_n cg_234 (ix := 75) (pc' := 142) rfl rfl rfl ?_
      refine ex_callV cg_234 (ix := 76) (pc' := 145) (As := [.inl (.int (ro i.toNatClampNeg)), .inl (.int q)]) (r := []) rfl rfl rfl (ct_mlk (mi := mi) (ml := ml) (f := f) (p := ro i.toNatClampNeg) (q := q)) (by first | decide | omega) rfl rfl rfl ⟨rfl, rfl, trivial⟩ rfl rfl (fun v h2 hq => ?_)
      obtain ⟨rfl, rfl⟩ := hq
      show cx_T _ 234 _ 145 ([some (.inr (.inl 119)), some (.inl (.int kk)), some (.inl (.int m)), some (.inl (.int q)), some (.inl (.int at_)), some (.inl (.int lfv)), some (.inl (.int i))], [], [(119, .inl (11, vs_119 mi ml)), (144, .inr (.inr (.inl (32, rowU (lkF f (ro i.toNatClampNeg) q) f 32)))), (145, .inr (.inr (.inl (32, n)))), (146, .inr (.inr (.inl (32, kp)))), (147, .inr (.inl (0, 3, ro)))]) _
      refine ex_aload_n cg_234 (ix := 77) (pc' := 146) rfl rfl rfl ?_
      refine ex_callV cg_234 (ix := 78) (pc' := 149) (As := []) (r := []) rfl rfl rfl (ct_mdr (mi := mi) (ml := ml) (f := rowU (lkF f (ro i.toNatClampNeg) q) f 32) (n := n)) (by first | decide | omega) rfl rfl rfl ⟨rfl, rfl, rfl, trivial⟩ rfl rfl (fun v h2 hq => ?_)
      obtain ⟨f2, n2, rfl, rfl, hfx⟩ := hq
      show cx_T _ 234 _ 149 ([some (.inr (.inl 119)), some (.inl (.int kk)), some (.inl (.int m)), some (.inl (.int q)), some (.inl (.int at_)), some (.inl (.int lfv)), some (.inl (.int i))], [], [(119, .inl (11, vs_119 mi ml)), (144, .inr (.inr (.inl (32, f2)))), (145, .inr (.inr (.inl (32, n2)))), (146, .inr (.inr (.inl (32, kp)))), (147, .inr (.inl (0, 3, ro)))]) _
      refine ex_iinc cg_234 (ix := 79) (pc' := 152) (L' := [some (.inr (.inl 119)), some (.inl (.int kk)), some (.inl (.int m)), some (.inl (.int q)), some (.inl (.int at_)), some (.inl (.int lfv)), some (.inl (.int (i + Int32.ofInt 1)))]) rfl rfl rfl rfl rfl ?_
      refine ex_goto cg_234 (ix := 80) (pc' := 127) rfl rfl ?_
      refine ih (k + 1) (by omega) _ _ _ (by rw [cx_addc (by omega) (by omega)]; omega) (fun x hx => ?_)
      rw [hfx x hx, fS]
      refine drF_E (fun y hy => ?_) hx
      rw [rowU_in hy, lkF_N hrk, lkN, lkN, hf y hy]
theorem ct_lb {mi : Nat → Int32} {ml : Nat → Int64} {kk m q : Int32} {mm kN bN : Nat} {f n kp : Nat → Int64} {ro : Nat → Int32} (hm : m.toInt = (mm : Int)) (hmm : mm ≤ 3) (hk : kk.toInt = (kN : Int)) (hb : (mi 45).toInt = (bN : Int)) (hb32 : bN < 32) (hm1 : 1 ≤ mm) : cx_Ct 4 234 [.inr (.inl 119), .inl (.int kk), .inl (.int m), .inl (.int q)] ([(119, .inl (11, vs_119 mi ml)), (144, .inr (.inr (.inl (32, f)))), (145, .inr (.inr (.inl (32, n)))), (146, .inr (.inr (.inl (32, kp)))), (147, .inr (.inl (0, 3, ro)))]) (fun v h2 => ∃ (z : Int64) (f2 n2 : Nat → Int64) (rw2 : Nat → Int32), v = some (.inl (.long z)) ∧ h2 = [(119, .inl (11, vs_119 mi ml)), (144, .inr (.inr (.inl (32, f2)))), (145, .inr (.inr (.inl (32, n2)))), (146, .inr (.inr (.inl (32, kp)))), (147, .inr (.inl (0, 3, rw2)))] ∧ ((decR mm bN kN = none ∧ z = Int64.ofInt (-1)) ∨ ∃ R, decR mm bN kN = some R ∧ z = sumL (R.foldl (nxP (mi 42) (mi 43) (mi 44) q) kp) 32 ∧ ∀ j : Nat, j < mm → ∀ w : Nat, R[j]? = some w → (rw2 j).toInt = (w : Int))) := by
  have kc0 : (Int32.ofInt 0).toInt = 0 := by decide +kernel
  have kc1 : (Int32.ofInt 1).toInt = 1 := by decide +kernel
  refine cx_Ct.of cg_234 (nL := 7) rfl rfl rfl ?_
  show cx_T 4 234 [119, 144, 145, 146, 147] 0 ([some (.inr (.inl 119)), some (.inl (.int kk)), some (.inl (.int m)), some (.inl (.int q)), none, none, none], [], [(119, .inl (11, vs_119 mi ml)), (144, .inr (.inr (.inl (32, f)))), (145, .inr (.inr (.inl (32, n)))), (146, .inr (.inr (.inl (32, kp)))), (147, .inr (.inl (0, 3, ro)))]) _
  refine ex_aload_n cg_234 (ix := 0) (pc' := 1) rfl rfl rfl ?_
  refine ex_getfield cg_234 (ix := 1) (pc' := 4) (v := .inl (.int (mi 45))) rfl rfl rfl rfl rfl ?_
  refine ex_istore cg_234 (ix := 2) (pc' := 6) (L' := [some (.inr (.inl 119)), some (.inl (.int kk)), some (.inl (.int m)), some (.inl (.int q)), some (.inl (.int (mi 45))), none, none]) rfl rfl rfl rfl ?_
  refine ex_iload_n cg_234 (ix := 3) (pc' := 7) rfl rfl rfl ?_
  refine ex_istore cg_234 (ix := 4) (pc' := 9) (L' := [some (.inr (.inl 119)), some (.inl (.int kk)), some (.inl (.int m)), some (.inl (.int q)), some (.inl (.int (mi 45))), some (.inl (.int kk)), none]) rfl rfl rfl rfl ?_
  refine ex_iload_n cg_234 (ix := 5) (pc' := 10) rfl rfl rfl ?_
  refine ex_iconst cg_234 (ix := 6) (pc' := 11) rfl rfl ?_
  refine ex_isub cg_234 (ix := 7) (pc' := 12) rfl rfl ?_
  refine ex_istore cg_234 (ix := 8) (pc' := 14) (L' := [some (.inr (.inl 119)), some (.inl (.int kk)), some (.inl (.int m)), some (.inl (.int q)), some (.inl (.int (mi 45))), some (.inl (.int kk)), some (.inl (.int (m - (Int32.ofInt 1))))]) rfl rfl rfl rfl ?_
  refine lb_A (kN := kN) (bN := bN) hm hmm (fun rw1 hrw1 left1 => ?_) mm (Nat.le_refl _) _ _ _ (by rw [cx_subc (by omega) (by omega)]; omega) (by rw [hk, Nat.sub_self, Nat.pow_zero, Nat.div_one]) (fun j h1 h2 => by omega)
  refine lb_B (kN := kN) (bN := bN) hm hmm (by decide) hb32 (fun rw2 hrw2 at2 => ?_) (fun rw2 hno => ?_) mm 0 (by omega) _ _ _ (by decide +kernel) (by rw [hb]; rfl) (fun j hj => by omega) (fun j _ h2 => hrw1 j h2)
  · have e0 := lb_C (d := 4) (mi := mi) (ml := ml) (mm := mm) (kN := kN) (bN := bN) (kk := kk) (m := m) (q := q) (at_ := at2) (lfv := left1) (ro := rw2) (f := f) (n := n) (kp := kp) (P := fun v h2 => ∃ (z : Int64) (f2 n2 : Nat → Int64) (rw2 : Nat → Int32), v = some (.inl (.long z)) ∧ h2 = [(119, .inl (11, vs_119 mi ml)), (144, .inr (.inr (.inl (32, f2)))), (145, .inr (.inr (.inl (32, n2)))), (146, .inr (.inr (.inl (32, kp)))), (147, .inr (.inl (0, 3, rw2)))] ∧ ((decR mm bN kN = none ∧ z = Int64.ofInt (-1)) ∨ ∃ R, decR mm bN kN = some R ∧ z = sumL (R.foldl (nxP (mi 42) (mi 43) (mi 44) q) kp) 32 ∧ ∀ j : Nat, j < mm → ∀ w : Nat, R[j]? = some w → (rw2 j).toInt = (w : Int))) ?_ 32 0 rfl (Int32.ofInt 0) (by decide +kernel)
    · rw [rowU_0] at e0
      exact e0
    · refine lb_D (kN := kN) (bN := bN) (pl := fun j => (atA mm bN kN (j + 1)).toNat) hm hmm (by decide) (fun j hj => ?_) (fun f3 n3 hf3 => ?_) mm 0 (by omega) _ _ _ (by decide +kernel) (fun x hx => by rw [rowU_in hx]; rfl)
      · obtain ⟨g1, g2, g3⟩ := hrw2 j hj
        rw [g1]
        exact (Int.toNat_of_nonneg g2).symm
      · have hok : okA mm bN kN = true := by
          unfold okA
          refine List.all_eq_true.mpr (fun j hj => ?_)
          obtain ⟨g1, g2, g3⟩ := hrw2 j (List.mem_range.mp hj)
          rw [Bool.and_eq_true]
          exact ⟨decide_eq_true g2, decide_eq_true (by omega)⟩
        refine ⟨_, f3, n3, rw2, rfl, rfl, Or.inr ⟨(List.range mm).map (fun j => (atA mm bN kN (j + 1)).toNat), ?_, ?_, fun j hj w hw => ?_⟩⟩
        · unfold decR
          rw [hok]
          rfl
        · rw [sumL_E 32 hf3, fS_fold]
        · rw [List.getElem?_map, List.getElem?_range hj] at hw
          have hw : (atA mm bN kN (j + 1)).toNat = w := Option.some.inj hw
          obtain ⟨g1, g2, g3⟩ := hrw2 j hj
          rw [g1, ← hw]
          exact (Int.toNat_of_nonneg g2).symm
  · refine ⟨_, f, n, rw2, rfl, rfl, Or.inl ⟨?_, rfl⟩⟩
    unfold decR
    cases hok : okA mm bN kN with
    | false => rfl
    | true =>
      obtain ⟨j, hj, hno⟩ := hno
      unfold okA at hok
      have g := List.all_eq_true.mp hok j (List.mem_range.mpr hj)
      rw [Bool.and_eq_true] at g
      have g1 := of_decide_eq_true g.1
      have g2 := of_decide_eq_true g.2
      exact absurd (show 0 ≤ atA mm bN kN (j + 1) ∧ atA mm bN kN (j + 1) < 32 by omega) hno
theorem flk_4 {d : Nat} {mi : Nat → Int32} {ml : Nat → Int64} {m q : Int32} {mm bN : Nat} {bl wt : Int64} {ways : Int32} {A B C : Option cx_V} {ro br : Nat → Int32} {f n kp : Nat → Int64} {P : Option cx_V → cx_H → Prop}  (hP : P none ([(119, .inl (11, vs_119 mi (upl (upl ml 49 bl) 50 wt))), (144, .inr (.inr (.inl (32, rowU kp f 32)))), (145, .inr (.inr (.inl (32, n)))), (146, .inr (.inr (.inl (32, kp)))), (147, .inr (.inl (0, 3, ro))), (148, .inr (.inl (0, 3, br)))])) :
    ∀ (m9 k : Nat), k + m9 = 32 → ∀ i : Int32, i.toInt = (k : Int) → cx_T d 235 [119, 144, 145, 146, 147, 148] 164 ([some (.inr (.inl 119)), some (.inl (.int m)), some (.inl (.int q)), some (.inl (.int ways)), some (.inl (.int i)), A, B, C], [], [(119, .inl (11, vs_119 mi (upl (upl ml 49 bl) 50 wt))), (144, .inr (.inr (.inl (32, rowU kp f k)))), (145, .inr (.inr (.inl (32, n)))), (146, .inr (.inr (.inl (32, kp)))), (147, .inr (.inl (0, 3, ro))), (148, .inr (.inl (0, 3, br)))]) P := by
  have kc0 : (Int32.ofInt 0).toInt = 0 := by decide +kernel
  have kc1 : (Int32.ofInt 1).toInt = 1 := by decide +kernel
  have kc7 : (Int32.ofInt 7).toInt = 7 := by decide +kernel
  have kc32 : (Int32.ofInt 32).toInt = 32 := by decide +kernel
  intro m9
  induction m9 with
  | zero =>
    intro k hk i hi 
    have ek : k = 32 := by omega
    subst ek
    refine ex_iload cg_235 (ix := 88) (pc' := 166) rfl rfl rfl ?_
    refine ex_bipush cg_235 (ix := 89) (pc' := 168) rfl rfl rfl ?_
    refine ex_icmp cg_235 (ix := 90) (t := 191) (pc' := 171) rfl rfl rfl (fun hb168 => ?_) (fun hb168 => ?_)
    · have hb168 : (Int32.ofInt 32).toInt ≤ i.toInt := hb168
      refine ex_return_ cg_235 (ix := 101) rfl ?_
      exact hP
    · have hb168 : ¬ ((Int32.ofInt 32).toInt ≤ i.toInt) := hb168
      exfalso; first | omega | exact absurd hb168 (by decide +kernel)
  | succ m9 ih =>
    intro k hk i hi 
    have hik : i.toNatClampNeg = k := cx_clamp hi
    refine ex_iload cg_235 (ix := 88) (pc' := 166) rfl rfl rfl ?_
    refine ex_bipush cg_235 (ix := 89) (pc' := 168) rfl rfl rfl ?_
    refine ex_icmp cg_235 (ix := 90) (t := 191) (pc' := 171) rfl rfl rfl (fun hb168 => ?_) (fun hb168 => ?_)
    · have hb168 : (Int32.ofInt 32).toInt ≤ i.toInt := hb168
      exfalso; first | omega | exact absurd hb168 (by decide +kernel)
    · have hb168 : ¬ ((Int32.ofInt 32).toInt ≤ i.toInt) := hb168
      refine ex_aload_n cg_235 (ix := 91) (pc' := 172) rfl rfl rfl ?_
      refine ex_getfield cg_235 (ix := 92) (pc' := 175) (v := .inr (.inl 144)) rfl rfl rfl rfl rfl ?_
      refine ex_iload cg_235 (ix := 93) (pc' := 177) rfl rfl rfl ?_
      refine ex_aload_n cg_235 (ix := 94) (pc' := 178) rfl rfl rfl ?_
      refine ex_getfield cg_235 (ix := 95) (pc' := 181) (v := .inr (.inl 146)) rfl rfl rfl rfl rfl ?_
      refine ex_iload cg_235 (ix := 96) (pc' := 183) rfl rfl rfl ?_
      refine ex_laload cg_235 (ix := 97) (pc' := 184) rfl rfl (by omega) (by omega) rfl ?_
      refine ex_lastore cg_235 (ix := 98) (pc' := 185) (h' := [(119, .inl (11, vs_119 mi (upl (upl ml 49 bl) 50 wt))), (144, .inr (.inr (.inl (32, vp_updL (rowU kp f k) i.toNatClampNeg (kp i.toNatClampNeg))))), (145, .inr (.inr (.inl (32, n)))), (146, .inr (.inr (.inl (32, kp)))), (147, .inr (.inl (0, 3, ro))), (148, .inr (.inl (0, 3, br)))]) rfl rfl (by omega) (by omega) rfl rfl ?_
      refine ex_iinc cg_235 (ix := 99) (pc' := 188) (L' := [some (.inr (.inl 119)), some (.inl (.int m)), some (.inl (.int q)), some (.inl (.int ways)), some (.inl (.int (i + Int32.ofInt 1))), A, B, C]) rfl rfl rfl rfl rfl ?_
      refine ex_goto cg_235 (ix := 100) (pc' := 164) rfl rfl ?_
      have e1 : vp_updL (rowU kp f k) i.toNatClampNeg (kp i.toNatClampNeg) = rowU kp f (k + 1) := by
        rw [hik]
        exact rowU_L rfl
      rw [e1]
      exact ih (k + 1) (by omega) _ (by rw [cx_addc (by omega) (by omega)]; omega)
theorem fl_i {d : Nat} {mi : Nat → Int32} {ml : Nat → Int64} {m q : Int32} {mm bN : Nat} {bl wt : Int64} {ways i4 : Int32} {lf : Int64} {ro br : Nat → Int32} {f n kp : Nat → Int64} {P : Option cx_V → cx_H → Prop} (hm : m.toInt = (mm : Int)) (hmm : mm ≤ 3) (hP : ∀ C : Option cx_V, cx_T d 235 [119, 144, 145, 146, 147, 148] 155 ([some (.inr (.inl 119)), some (.inl (.int m)), some (.inl (.int q)), some (.inl (.int ways)), some (.inl (.int i4)), some (.inl (.long lf)), none, C], [], [(119, .inl (11, vs_119 mi (upl (upl ml 49 bl) 50 wt))), (144, .inr (.inr (.inl (32, f)))), (145, .inr (.inr (.inl (32, n)))), (146, .inr (.inr (.inl (32, kp)))), (147, .inr (.inl (0, 3, ro))), (148, .inr (.inl (0, 3, rowU ro br mm)))]) P) :
    ∀ (m9 k : Nat), k + m9 = mm → ∀ i : Int32, i.toInt = (k : Int) → cx_T d 235 [119, 144, 145, 146, 147, 148] 129 ([some (.inr (.inl 119)), some (.inl (.int m)), some (.inl (.int q)), some (.inl (.int ways)), some (.inl (.int i4)), some (.inl (.long lf)), none, some (.inl (.int i))], [], [(119, .inl (11, vs_119 mi (upl (upl ml 49 bl) 50 wt))), (144, .inr (.inr (.inl (32, f)))), (145, .inr (.inr (.inl (32, n)))), (146, .inr (.inr (.inl (32, kp)))), (147, .inr (.inl (0, 3, ro))), (148, .inr (.inl (0, 3, rowU ro br k)))]) P := by
  have kc0 : (Int32.ofInt 0).toInt = 0 := by decide +kernel
  have kc1 : (Int32.ofInt 1).toInt = 1 := by decide +kernel
  have kc7 : (Int32.ofInt 7).toInt = 7 := by decide +kernel
  have kc32 : (Int32.ofInt 32).toInt = 32 := by decide +kernel
  intro m9
  induction m9 with
  | zero =>
    intro k hk i hi 
    have ek : k = mm := by omega
    subst ek
    refine ex_iload cg_235 (ix := 71) (pc' := 131) rfl rfl rfl ?_
    refine ex_iload_n cg_235 (ix := 72) (pc' := 132) rfl rfl rfl ?_
    refine ex_icmp cg_235 (ix := 73) (t := 155) (pc' := 135) rfl rfl rfl (fun hb132 => ?_) (fun hb132 => ?_)
    · have hb132 : m.toInt ≤ i.toInt := hb132
      exact hP _
    · have hb132 : ¬ (m.toInt ≤ i.toInt) := hb132
      exfalso; first | omega | exact absurd hb132 (by decide +kernel)
  | succ m9 ih =>
    intro k hk i hi 
    have hik : i.toNatClampNeg = k := cx_clamp hi
    refine ex_iload cg_235 (ix := 71) (pc' := 131) rfl rfl rfl ?_
    refine ex_iload_n cg_235 (ix := 72) (pc' := 132) rfl rfl rfl ?_
    refine ex_icmp cg_235 (ix := 73) (t := 155) (pc' := 135) rfl rfl rfl (fun hb132 => ?_) (fun hb132 => ?_)
    · have hb132 : m.toInt ≤ i.toInt := hb132
      exfalso; first | omega | exact absurd hb132 (by decide +kernel)
    · have hb132 : ¬ (m.toInt ≤ i.toInt) := hb132
      refine ex_aload_n cg_235 (ix := 74) (pc' := 136) rfl rfl rfl ?_
      refine ex_getfield cg_235 (ix := 75) (pc' := 139) (v := .inr (.inl 148)) rfl rfl rfl rfl rfl ?_
      refine ex_iload cg_235 (ix := 76) (pc' := 141) rfl rfl rfl ?_
      refine ex_aload_n cg_235 (ix := 77) (pc' := 142) rfl rfl rfl ?_
      refine ex_getfield cg_235 (ix := 78) (pc' := 145) (v := .inr (.inl 147)) rfl rfl rfl rfl rfl ?_
      refine ex_iload cg_235 (ix := 79) (pc' := 147) rfl rfl rfl ?_
      refine ex_iaload cg_235 (ix := 80) (pc' := 148) rfl rfl (by omega) (by omega) rfl ?_
      refine ex_iastore cg_235 (ix := 81) (pc' := 149) (h' := [(119, .inl (11, vs_119 mi (upl (upl ml 49 bl) 50 wt))), (144, .inr (.inr (.inl (32, f)))), (145, .inr (.inr (.inl (32, n)))), (146, .inr (.inr (.inl (32, kp)))), (147, .inr (.inl (0, 3, ro))), (148, .inr (.inl (0, 3, upd (rowU ro br k) i.toNatClampNeg (ro i.toNatClampNeg))))]) rfl rfl (by omega) (by omega) rfl rfl ?_
      refine ex_iinc cg_235 (ix := 82) (pc' := 152) (L' := [some (.inr (.inl 119)), some (.inl (.int m)), some (.inl (.int q)), some (.inl (.int ways)), some (.inl (.int i4)), some (.inl (.long lf)), none, some (.inl (.int (i + Int32.ofInt 1)))]) rfl rfl rfl rfl rfl ?_
      refine ex_goto cg_235 (ix := 83) (pc' := 129) rfl rfl ?_
      have e1 : upd (rowU ro br k) i.toNatClampNeg (ro i.toNatClampNeg) = rowU ro br (k + 1) := by
        rw [hik]
        exact rowU_I rfl
      rw [e1]
      exact ih (k + 1) (by omega) _ (by rw [cx_addc (by omega) (by omega)]; omega)
def okM (mm : Nat) (acc : Int64 × List Nat) (br : Nat → Int32) : Prop := ∀ j : Nat, j < mm → ∀ w : Nat, acc.2[j]? = some w → (br j).toInt = (w : Int)
def wS (f : Nat → Int64) : Nat → Int64
  | 0 => sumL f 32
  | k + 1 => wS f k * Int64.ofInt 32
theorem nxf_E {dl ds dr q : Int32} : ∀ (R : List Nat) (f g : Nat → Int64), (∀ x : Nat, x < 32 → f x = g x) → ∀ x : Nat, x < 32 → R.foldl (nxP dl ds dr q) f x = R.foldl (nxP dl ds dr q) g x
  | [], _, _, h => h
  | pl :: R, f, g, h => nxf_E R _ _ (fun x hx => nxP_E h hx)
theorem flk_3 {d : Nat} {mi : Nat → Int32} {ml : Nat → Int64} {m q : Int32} {mm bN : Nat} {wt : Int64} {ways : Int32} {N7 : Nat} {kp : Nat → Int64} {accF : Int64 × List Nat} {P : Option cx_V → cx_H → Prop} (hd5 : 5 ≤ d) (hm : m.toInt = (mm : Int)) (hmm : mm ≤ 3) (hm1 : 1 ≤ mm) (hb : (mi 45).toInt = (bN : Int)) (hb32 : bN < 32) (hN7 : N7 ≤ 343) (hw : ways.toInt = (N7 : Int)) (hP : ∀ (A B C : Option cx_V) (bl : Int64) (br ro : Nat → Int32) (f n : Nat → Int64), bl = accF.1 → okM mm accF br → cx_T d 235 [119, 144, 145, 146, 147, 148] 164 ([some (.inr (.inl 119)), some (.inl (.int m)), some (.inl (.int q)), some (.inl (.int ways)), some (.inl (.int (Int32.ofInt 0))), A, B, C], [], [(119, .inl (11, vs_119 mi (upl (upl ml 49 bl) 50 wt))), (144, .inr (.inr (.inl (32, f)))), (145, .inr (.inr (.inl (32, n)))), (146, .inr (.inr (.inl (32, kp)))), (147, .inr (.inl (0, 3, ro))), (148, .inr (.inl (0, 3, br)))]) P) :
    ∀ m_ k : Nat, k + m_ = N7 → ∀ i : Int32, i.toInt = (k : Int) → ∀ (A B C : Option cx_V) (bl : Int64) (br ro : Nat → Int32) (f n : Nat → Int64) (acc : Int64 × List Nat), bl = acc.1 → okM mm acc br → (List.range' k m_).foldl (stM mm bN (fun R => sumL (R.foldl (nxP (mi 42) (mi 43) (mi 44) q) kp) 32)) acc = accF → cx_T d 235 [119, 144, 145, 146, 147, 148] 78 ([some (.inr (.inl 119)), some (.inl (.int m)), some (.inl (.int q)), some (.inl (.int ways)), some (.inl (.int i)), A, B, C], [], [(119, .inl (11, vs_119 mi (upl (upl ml 49 bl) 50 wt))), (144, .inr (.inr (.inl (32, f)))), (145, .inr (.inr (.inl (32, n)))), (146, .inr (.inr (.inl (32, kp)))), (147, .inr (.inl (0, 3, ro))), (148, .inr (.inl (0, 3, br)))]) P := by
  have kc0 : (Int32.ofInt 0).toInt = 0 := by decide +kernel
  have kc1 : (Int32.ofInt 1).toInt = 1 := by decide +kernel
  have kc7 : (Int32.ofInt 7).toInt = 7 := by decide +kernel
  have kc32 : (Int32.ofInt 32).toInt = 32 := by decide +kernel
  have k0L : (Int64.ofNat 0).toInt = 0 := by decide +kernel
  intro m_
  induction m_ with
  | zero =>
    intro k hk i hi A B C bl br ro f n acc hbl hbr hacc
    have ek : k = N7 := by omega
    subst ek
    refine ex_iload cg_235 (ix := 43) (pc' := 80) rfl rfl rfl ?_
    refine ex_iload_n cg_235 (ix := 44) (pc' := 81) rfl rfl rfl ?_
    refine ex_icmp cg_235 (ix := 45) (t := 161) (pc' := 84) rfl rfl rfl (fun hb81 => ?_) (fun hb81 => ?_)
    · have hb81 : ways.toInt ≤ i.toInt := hb81
      refine ex_iconst cg_235 (ix := 86) (pc' := 162) rfl rfl ?_
      refine ex_istore cg_235 (ix := 87) (pc' := 164) (L' := [some (.inr (.inl 119)), some (.inl (.int m)), some (.inl (.int q)), some (.inl (.int ways)), some (.inl (.int (Int32.ofInt 0))), A, B, C]) rfl rfl rfl rfl ?_
      have hacc : acc = accF := hacc
      subst hacc
      exact hP _ _ _ _ _ _ _ _ hbl hbr
    · have hb81 : ¬ (ways.toInt ≤ i.toInt) := hb81
      exfalso; first | omega | exact absurd hb81 (by decide +kernel)
  | succ m_ ih =>
    intro k hk i hi A B C bl br ro f n acc hbl hbr hacc
    have hik : i.toNatClampNeg = k := cx_clamp hi
    refine ex_iload cg_235 (ix := 43) (pc' := 80) rfl rfl rfl ?_
    refine ex_iload_n cg_235 (ix := 44) (pc' := 81) rfl rfl rfl ?_
    refine ex_icmp cg_235 (ix := 45) (t := 161) (pc' := 84) rfl rfl rfl (fun hb81 => ?_) (fun hb81 => ?_)
    · have hb81 : ways.toInt ≤ i.toInt := hb81
      exfalso; first | omega | exact absurd hb81 (by decide +kernel)
    · have hb81 : ¬ (ways.toInt ≤ i.toInt) := hb81
      refine ex_aload_n cg_235 (ix := 46) (pc' := 85) rfl rfl rfl ?_
      refine ex_iload cg_235 (ix := 47) (pc' := 87) rfl rfl rfl ?_
      refine ex_iload_n cg_235 (ix := 48) (pc' := 88) rfl rfl rfl ?_
      refine ex_iload_n cg_235 (ix := 49) (pc' := 89) rfl rfl rfl ?_
      refine ex_callV cg_235 (ix := 50) (pc' := 92) (As := [.inl (.int i), .inl (.int m), .inl (.int q)]) (r := []) rfl rfl rfl (ct_lb (mi := mi) (ml := (upl (upl ml 49 bl) 50 wt)) (kk := i) (m := m) (q := q) (mm := mm) (kN := k) (bN := bN) (f := f) (n := n) (kp := kp) (ro := ro) hm hmm hi hb hb32 hm1) (by first | decide | omega) rfl rfl rfl ⟨rfl, rfl, rfl, rfl, rfl, trivial⟩ rfl rfl (fun v h2 hq => ?_)
      obtain ⟨zl, f2, n2, rw2, rfl, rfl, hzl⟩ := hq
      show cx_T _ 235 _ 92 ([some (.inr (.inl 119)), some (.inl (.int m)), some (.inl (.int q)), some (.inl (.int ways)), some (.inl (.int i)), A, B, C], [.inl (.long zl)], [(119, .inl (11, vs_119 mi (upl (upl ml 49 bl) 50 wt))), (144, .inr (.inr (.inl (32, f2)))), (145, .inr (.inr (.inl (32, n2)))), (146, .inr (.inr (.inl (32, kp)))), (147, .inr (.inl (0, 3, rw2))), (148, .inr (.inl (0, 3, br)))]) _
      refine ex_lstore cg_235 (ix := 51) (pc' := 94) (L' := [some (.inr (.inl 119)), some (.inl (.int m)), some (.inl (.int q)), some (.inl (.int ways)), some (.inl (.int i)), some (.inl (.long zl)), none, C]) rfl rfl rfl rfl ?_
      refine ex_lload cg_235 (ix := 52) (pc' := 96) rfl rfl rfl ?_
      refine ex_lconst cg_235 (ix := 53) (pc' := 97) rfl rfl ?_
      refine ex_lcmp cg_235 (ix := 54) (pc' := 98) rfl rfl ?_
      have hlc97 := cx_cmp zl (Int64.ofNat 0)
      refine ex_if cg_235 (ix := 55) (t := 155) (pc' := 101) rfl rfl rfl (fun hb98 => ?_) (fun hb98 => ?_)
      · have hb98 : (lg_cmp zl (Int64.ofNat 0)).toInt < 0 := hb98
        refine ex_iinc cg_235 (ix := 84) (pc' := 158) (L' := [some (.inr (.inl 119)), some (.inl (.int m)), some (.inl (.int q)), some (.inl (.int ways)), some (.inl (.int (i + Int32.ofInt 1))), some (.inl (.long zl)), none, C]) rfl rfl rfl rfl rfl ?_
        refine ex_goto cg_235 (ix := 85) (pc' := 78) rfl rfl ?_
        refine ih (k + 1) (by omega) _ (by rw [cx_addc (by omega) (by omega)]; omega) _ _ _ bl br rw2 f2 n2 acc hbl hbr ?_
        rw [← hacc, List.range'_succ, List.foldl_cons]
        have e9 : stM mm bN (fun R => sumL (R.foldl (nxP (mi 42) (mi 43) (mi 44) q) kp) 32) acc k = acc := by
          unfold stM
          rcases hzl with ⟨u1, u2⟩ | ⟨R, u1, u2, u3⟩
          · rw [u1]
          · rw [u1]
            show stR (fun R => sumL (R.foldl (nxP (mi 42) (mi 43) (mi 44) q) kp) 32) acc R = acc
            unfold stR
            refine if_neg ?_
            show ¬ (0 ≤ (sumL (R.foldl (nxP (mi 42) (mi 43) (mi 44) q) kp) 32).toInt ∧ (acc.1.toInt < 0 ∨ (sumL (R.foldl (nxP (mi 42) (mi 43) (mi 44) q) kp) 32).toInt < acc.1.toInt))
            rw [← u2, ← hbl]
            omega
        rw [e9]
      · have hb98 : ¬ ((lg_cmp zl (Int64.ofNat 0)).toInt < 0) := hb98
        refine ex_aload_n cg_235 (ix := 56) (pc' := 102) rfl rfl rfl ?_
        refine ex_getfield cg_235 (ix := 57) (pc' := 105) (v := .inl (.long bl)) rfl rfl rfl rfl rfl ?_
        refine ex_lconst cg_235 (ix := 58) (pc' := 106) rfl rfl ?_
        refine ex_lcmp cg_235 (ix := 59) (pc' := 107) rfl rfl ?_
        have hlc106 := cx_cmp bl (Int64.ofNat 0)
        refine ex_if cg_235 (ix := 60) (t := 120) (pc' := 110) rfl rfl rfl (fun hb107 => ?_) (fun hb107 => ?_)
        · have hb107 : (lg_cmp bl (Int64.ofNat 0)).toInt < 0 := hb107
          refine ex_aload_n cg_235 (ix := 66) (pc' := 121) rfl rfl rfl ?_
          refine ex_lload cg_235 (ix := 67) (pc' := 123) rfl rfl rfl ?_
          refine ex_putfield cg_235 (ix := 68) (pc' := 126) (h' := [(119, .inl (11, vs_119 mi (upl (upl ml 49 zl) 50 wt))), (144, .inr (.inr (.inl (32, f2)))), (145, .inr (.inr (.inl (32, n2)))), (146, .inr (.inr (.inl (32, kp)))), (147, .inr (.inl (0, 3, rw2))), (148, .inr (.inl (0, 3, br)))]) rfl rfl rfl rfl rfl rfl rfl rfl ?_
          refine ex_iconst cg_235 (ix := 69) (pc' := 127) rfl rfl ?_
          refine ex_istore cg_235 (ix := 70) (pc' := 129) (L' := [some (.inr (.inl 119)), some (.inl (.int m)), some (.inl (.int q)), some (.inl (.int ways)), some (.inl (.int i)), some (.inl (.long zl)), none, some (.inl (.int (Int32.ofInt 0)))]) rfl rfl rfl rfl ?_
          have e0 := fl_i (d := d) (mi := mi) (ml := ml) (m := m) (q := q) (mm := mm) (bN := bN) (bl := zl) (wt := wt) (ways := ways) (i4 := i) (lf := zl) (ro := rw2) (br := br) (f := f2) (n := n2) (kp := kp) hm hmm (P := P) (fun C9 => ?_) mm 0 (by omega) (Int32.ofInt 0) (by decide +kernel)
          · rw [rowU_0] at e0
            exact e0
          · rcases hzl with ⟨u1, u2⟩ | ⟨R, u1, u2, u3⟩
            · exfalso
              rw [u2] at hlc97 hb98
              have km1 : (Int64.ofInt (-1)).toInt = -1 := by decide +kernel
              omega
            · skip
              refine ex_iinc cg_235 (ix := 84) (pc' := 158) (L' := [some (.inr (.inl 119)), some (.inl (.int m)), some (.inl (.int q)), some (.inl (.int ways)), some (.inl (.int (i + Int32.ofInt 1))), some (.inl (.long zl)), none, C9]) rfl rfl rfl rfl rfl ?_
              refine ex_goto cg_235 (ix := 85) (pc' := 78) rfl rfl ?_
              refine ih (k + 1) (by omega) _ (by rw [cx_addc (by omega) (by omega)]; omega) _ _ _ zl (rowU rw2 br mm) rw2 f2 n2 (zl, R) rfl (fun j hj w hw => by rw [rowU_in hj]; exact u3 j hj w hw) ?_
              rw [← hacc, List.range'_succ, List.foldl_cons]
              have e9 : stM mm bN (fun R => sumL (R.foldl (nxP (mi 42) (mi 43) (mi 44) q) kp) 32) acc k = (zl, R) := by
                unfold stM
                rw [u1]
                show (if 0 ≤ (sumL (R.foldl (nxP (mi 42) (mi 43) (mi 44) q) kp) 32).toInt ∧ (acc.1.toInt < 0 ∨ (sumL (R.foldl (nxP (mi 42) (mi 43) (mi 44) q) kp) 32).toInt < acc.1.toInt) then (sumL (R.foldl (nxP (mi 42) (mi 43) (mi 44) q) kp) 32, R) else acc) = (zl, R)
                rw [← u2]
                refine if_pos ?_
                rw [← hbl]
                omega
              rw [e9]
        · have hb107 : ¬ ((lg_cmp bl (Int64.ofNat 0)).toInt < 0) := hb107
          refine ex_lload cg_235 (ix := 61) (pc' := 112) rfl rfl rfl ?_
          refine ex_aload_n cg_235 (ix := 62) (pc' := 113) rfl rfl rfl ?_
          refine ex_getfield cg_235 (ix := 63) (pc' := 116) (v := .inl (.long bl)) rfl rfl rfl rfl rfl ?_
          refine ex_lcmp cg_235 (ix := 64) (pc' := 117) rfl rfl ?_
          have hlc116 := cx_cmp zl bl
          refine ex_if cg_235 (ix := 65) (t := 155) (pc' := 120) rfl rfl rfl (fun hb117 => ?_) (fun hb117 => ?_)
          · have hb117 : 0 ≤ (lg_cmp zl bl).toInt := hb117
            refine ex_iinc cg_235 (ix := 84) (pc' := 158) (L' := [some (.inr (.inl 119)), some (.inl (.int m)), some (.inl (.int q)), some (.inl (.int ways)), some (.inl (.int (i + Int32.ofInt 1))), some (.inl (.long zl)), none, C]) rfl rfl rfl rfl rfl ?_
            refine ex_goto cg_235 (ix := 85) (pc' := 78) rfl rfl ?_
            refine ih (k + 1) (by omega) _ (by rw [cx_addc (by omega) (by omega)]; omega) _ _ _ bl br rw2 f2 n2 acc hbl hbr ?_
            rw [← hacc, List.range'_succ, List.foldl_cons]
            have e9 : stM mm bN (fun R => sumL (R.foldl (nxP (mi 42) (mi 43) (mi 44) q) kp) 32) acc k = acc := by
              unfold stM
              rcases hzl with ⟨u1, u2⟩ | ⟨R, u1, u2, u3⟩
              · rw [u1]
              · rw [u1]
                show stR (fun R => sumL (R.foldl (nxP (mi 42) (mi 43) (mi 44) q) kp) 32) acc R = acc
                unfold stR
                refine if_neg ?_
                show ¬ (0 ≤ (sumL (R.foldl (nxP (mi 42) (mi 43) (mi 44) q) kp) 32).toInt ∧ (acc.1.toInt < 0 ∨ (sumL (R.foldl (nxP (mi 42) (mi 43) (mi 44) q) kp) 32).toInt < acc.1.toInt))
                rw [← u2, ← hbl]
                omega
            rw [e9]
          · have hb117 : ¬ (0 ≤ (lg_cmp zl bl).toInt) := hb117
            refine ex_aload_n cg_235 (ix := 66) (pc' := 121) rfl rfl rfl ?_
            refine ex_lload cg_235 (ix := 67) (pc' := 123) rfl rfl rfl ?_
            refine ex_putfield cg_235 (ix := 68) (pc' := 126) (h' := [(119, .inl (11, vs_119 mi (upl (upl ml 49 zl) 50 wt))), (144, .inr (.inr (.inl (32, f2)))), (145, .inr (.inr (.inl (32, n2)))), (146, .inr (.inr (.inl (32, kp)))), (147, .inr (.inl (0, 3, rw2))), (148, .inr (.inl (0, 3, br)))]) rfl rfl rfl rfl rfl rfl rfl rfl ?_
            refine ex_iconst cg_235 (ix := 69) (pc' := 127) rfl rfl ?_
            refine ex_istore cg_235 (ix := 70) (pc' := 129) (L' := [some (.inr (.inl 119)), some (.inl (.int m)), some (.inl (.int q)), some (.inl (.int ways)), some (.inl (.int i)), some (.inl (.long zl)), none, some (.inl (.int (Int32.ofInt 0)))]) rfl rfl rfl rfl ?_
            have e0 := fl_i (d := d) (mi := mi) (ml := ml) (m := m) (q := q) (mm := mm) (bN := bN) (bl := zl) (wt := wt) (ways := ways) (i4 := i) (lf := zl) (ro := rw2) (br := br) (f := f2) (n := n2) (kp := kp) hm hmm (P := P) (fun C9 => ?_) mm 0 (by omega) (Int32.ofInt 0) (by decide +kernel)
            · rw [rowU_0] at e0
              exact e0
            · rcases hzl with ⟨u1, u2⟩ | ⟨R, u1, u2, u3⟩
              · exfalso
                rw [u2] at hlc97 hb98
                have km1 : (Int64.ofInt (-1)).toInt = -1 := by decide +kernel
                omega
              · skip
                refine ex_iinc cg_235 (ix := 84) (pc' := 158) (L' := [some (.inr (.inl 119)), some (.inl (.int m)), some (.inl (.int q)), some (.inl (.int ways)), some (.inl (.int (i + Int32.ofInt 1))), some (.inl (.long zl)), none, C9]) rfl rfl rfl rfl rfl ?_
                refine ex_goto cg_235 (ix := 85) (pc' := 78) rfl rfl ?_
                refine ih (k + 1) (by omega) _ (by rw [cx_addc (by omega) (by omega)]; omega) _ _ _ zl (rowU rw2 br mm) rw2 f2 n2 (zl, R) rfl (fun j hj w hw => by rw [rowU_in hj]; exact u3 j hj w hw) ?_
                rw [← hacc, List.range'_succ, List.foldl_cons]
                have e9 : stM mm bN (fun R => sumL (R.foldl (nxP (mi 42) (mi 43) (mi 44) q) kp) 32) acc k = (zl, R) := by
                  unfold stM
                  rw [u1]
                  show (if 0 ≤ (sumL (R.foldl (nxP (mi 42) (mi 43) (mi 44) q) kp) 32).toInt ∧ (acc.1.toInt < 0 ∨ (sumL (R.foldl (nxP (mi 42) (mi 43) (mi 44) q) kp) 32).toInt < acc.1.toInt) then (sumL (R.foldl (nxP (mi 42) (mi 43) (mi 44) q) kp) 32, R) else acc) = (zl, R)
                  rw [← u2]
                  refine if_pos ?_
                  rw [← hbl]
                  omega
                rw [e9]
theorem flk_2 {d : Nat} {mi : Nat → Int32} {ml : Nat → Int64} {m q : Int32} {mm bN : Nat} {bl : Int64} {ro br : Nat → Int32} {f n kp : Nat → Int64} {P : Option cx_V → cx_H → Prop} (hm : m.toInt = (mm : Int)) (hmm : mm ≤ 3) (hP : ∀ ways : Int32, ways.toInt = ((7 ^ mm : Nat) : Int) → cx_T d 235 [119, 144, 145, 146, 147, 148] 78 ([some (.inr (.inl 119)), some (.inl (.int m)), some (.inl (.int q)), some (.inl (.int ways)), some (.inl (.int (Int32.ofInt 0))), none, none, none], [], [(119, .inl (11, vs_119 mi (upl (upl ml 49 (Int64.ofInt (-1))) 50 (wS f mm)))), (144, .inr (.inr (.inl (32, f)))), (145, .inr (.inr (.inl (32, n)))), (146, .inr (.inr (.inl (32, kp)))), (147, .inr (.inl (0, 3, ro))), (148, .inr (.inl (0, 3, br)))]) P) :
    ∀ m_ k : Nat, k + m_ = mm → ∀ i ways : Int32, i.toInt = (k : Int) → ways.toInt = ((7 ^ k : Nat) : Int) → cx_T d 235 [119, 144, 145, 146, 147, 148] 39 ([some (.inr (.inl 119)), some (.inl (.int m)), some (.inl (.int q)), some (.inl (.int ways)), some (.inl (.int i)), none, none, none], [], [(119, .inl (11, vs_119 mi (upl (upl ml 49 bl) 50 (wS f k)))), (144, .inr (.inr (.inl (32, f)))), (145, .inr (.inr (.inl (32, n)))), (146, .inr (.inr (.inl (32, kp)))), (147, .inr (.inl (0, 3, ro))), (148, .inr (.inl (0, 3, br)))]) P := by
  have kc0 : (Int32.ofInt 0).toInt = 0 := by decide +kernel
  have kc1 : (Int32.ofInt 1).toInt = 1 := by decide +kernel
  have kc7 : (Int32.ofInt 7).toInt = 7 := by decide +kernel
  have kc32 : (Int32.ofInt 32).toInt = 32 := by decide +kernel
  intro m_
  induction m_ with
  | zero =>
    intro k hk i ways hi hw
    have ek : k = mm := by omega
    subst ek
    refine ex_iload cg_235 (ix := 23) (pc' := 41) rfl rfl rfl ?_
    refine ex_iload_n cg_235 (ix := 24) (pc' := 42) rfl rfl rfl ?_
    refine ex_icmp cg_235 (ix := 25) (t := 68) (pc' := 45) rfl rfl rfl (fun hb42 => ?_) (fun hb42 => ?_)
    · have hb42 : m.toInt ≤ i.toInt := hb42
      refine ex_aload_n cg_235 (ix := 38) (pc' := 69) rfl rfl rfl ?_
      refine ex_ldc2_w cg_235 (ix := 39) (pc' := 72) rfl rfl rfl ?_
      refine ex_putfield cg_235 (ix := 40) (pc' := 75) (h' := [(119, .inl (11, vs_119 mi (upl (upl ml 49 (Int64.ofInt (-1))) 50 (wS f k)))), (144, .inr (.inr (.inl (32, f)))), (145, .inr (.inr (.inl (32, n)))), (146, .inr (.inr (.inl (32, kp)))), (147, .inr (.inl (0, 3, ro))), (148, .inr (.inl (0, 3, br)))]) rfl rfl rfl rfl rfl rfl rfl rfl ?_
      refine ex_iconst cg_235 (ix := 41) (pc' := 76) rfl rfl ?_
      refine ex_istore cg_235 (ix := 42) (pc' := 78) (L' := [some (.inr (.inl 119)), some (.inl (.int m)), some (.inl (.int q)), some (.inl (.int ways)), some (.inl (.int (Int32.ofInt 0))), none, none, none]) rfl rfl rfl rfl ?_
      exact hP ways hw
    · have hb42 : ¬ (m.toInt ≤ i.toInt) := hb42
      exfalso; first | omega | exact absurd hb42 (by decide +kernel)
  | succ m_ ih =>
    intro k hk i ways hi hw
    refine ex_iload cg_235 (ix := 23) (pc' := 41) rfl rfl rfl ?_
    refine ex_iload_n cg_235 (ix := 24) (pc' := 42) rfl rfl rfl ?_
    refine ex_icmp cg_235 (ix := 25) (t := 68) (pc' := 45) rfl rfl rfl (fun hb42 => ?_) (fun hb42 => ?_)
    · have hb42 : m.toInt ≤ i.toInt := hb42
      exfalso; first | omega | exact absurd hb42 (by decide +kernel)
    · have hb42 : ¬ (m.toInt ≤ i.toInt) := hb42
      refine ex_iload_n cg_235 (ix := 26) (pc' := 46) rfl rfl rfl ?_
      refine ex_bipush cg_235 (ix := 27) (pc' := 48) rfl rfl rfl ?_
      refine ex_imul cg_235 (ix := 28) (pc' := 49) rfl rfl ?_
      refine ex_istore_n cg_235 (ix := 29) (pc' := 50) (L' := [some (.inr (.inl 119)), some (.inl (.int m)), some (.inl (.int q)), some (.inl (.int (ways * (Int32.ofInt 7)))), some (.inl (.int i)), none, none, none]) rfl rfl rfl rfl ?_
      refine ex_aload_n cg_235 (ix := 30) (pc' := 51) rfl rfl rfl ?_
      refine ex_dup cg_235 (ix := 31) (pc' := 52) rfl rfl rfl ?_
      refine ex_getfield cg_235 (ix := 32) (pc' := 55) (v := .inl (.long (wS f k))) rfl rfl rfl rfl rfl ?_
      refine ex_ldc2_w cg_235 (ix := 33) (pc' := 58) rfl rfl rfl ?_
      refine ex_lmul cg_235 (ix := 34) (pc' := 59) rfl rfl ?_
      refine ex_putfield cg_235 (ix := 35) (pc' := 62) (h' := [(119, .inl (11, vs_119 mi (upl (upl ml 49 bl) 50 ((wS f k) * (Int64.ofInt 32))))), (144, .inr (.inr (.inl (32, f)))), (145, .inr (.inr (.inl (32, n)))), (146, .inr (.inr (.inl (32, kp)))), (147, .inr (.inl (0, 3, ro))), (148, .inr (.inl (0, 3, br)))]) rfl rfl rfl rfl rfl rfl rfl rfl ?_
      refine ex_iinc cg_235 (ix := 36) (pc' := 65) (L' := [some (.inr (.inl 119)), some (.inl (.int m)), some (.inl (.int q)), some (.inl (.int (ways * (Int32.ofInt 7)))), some (.inl (.int (i + Int32.ofInt 1))), none, none, none]) rfl rfl rfl rfl rfl ?_
      refine ex_goto cg_235 (ix := 37) (pc' := 39) rfl rfl ?_
      refine ih (k + 1) (by omega) _ _ (by rw [cx_addc (by omega) (by omega)]; omega) ?_
      have h70 : 0 < 7 ^ k := Nat.pow_pos (by decide)
      have h7 : 7 ^ k ≤ 49 := by
        rcases (show k = 0 ∨ k = 1 ∨ k = 2 by omega) with q | q | q <;> rw [q] <;> decide
      rw [cx_mulk2 (n := 7) (by decide +kernel) (by omega) (by omega), hw, Nat.pow_succ]
      omega
theorem flk_1 {d : Nat} {mi : Nat → Int32} {ml : Nat → Int64} {m q : Int32} {ro br : Nat → Int32} {f n kp : Nat → Int64} {P : Option cx_V → cx_H → Prop} (hd5 : 5 ≤ d) (hP : cx_T d 235 [119, 144, 145, 146, 147, 148] 39 ([some (.inr (.inl 119)), some (.inl (.int m)), some (.inl (.int q)), some (.inl (.int (Int32.ofInt 1))), some (.inl (.int (Int32.ofInt 0))), none, none, none], [], [(119, .inl (11, vs_119 mi (upl ml 50 (wS f 0)))), (144, .inr (.inr (.inl (32, f)))), (145, .inr (.inr (.inl (32, n)))), (146, .inr (.inr (.inl (32, rowU f kp 32)))), (147, .inr (.inl (0, 3, ro))), (148, .inr (.inl (0, 3, br)))]) P) :
    ∀ (m9 k : Nat), k + m9 = 32 → ∀ i : Int32, i.toInt = (k : Int) → cx_T d 235 [119, 144, 145, 146, 147, 148] 2 ([some (.inr (.inl 119)), some (.inl (.int m)), some (.inl (.int q)), some (.inl (.int i)), none, none, none, none], [], [(119, .inl (11, vs_119 mi ml)), (144, .inr (.inr (.inl (32, f)))), (145, .inr (.inr (.inl (32, n)))), (146, .inr (.inr (.inl (32, rowU f kp k)))), (147, .inr (.inl (0, 3, ro))), (148, .inr (.inl (0, 3, br)))]) P := by
  have kc0 : (Int32.ofInt 0).toInt = 0 := by decide +kernel
  have kc1 : (Int32.ofInt 1).toInt = 1 := by decide +kernel
  have kc7 : (Int32.ofInt 7).toInt = 7 := by decide +kernel
  have kc32 : (Int32.ofInt 32).toInt = 32 := by decide +kernel
  intro m9
  induction m9 with
  | zero =>
    intro k hk i hi 
    have ek : k = 32 := by omega
    subst ek
    refine ex_iload_n cg_235 (ix := 2) (pc' := 3) rfl rfl rfl ?_
    refine ex_bipush cg_235 (ix := 3) (pc' := 5) rfl rfl rfl ?_
    refine ex_icmp cg_235 (ix := 4) (t := 26) (pc' := 8) rfl rfl rfl (fun hb5 => ?_) (fun hb5 => ?_)
    · have hb5 : (Int32.ofInt 32).toInt ≤ i.toInt := hb5
      refine ex_aload_n cg_235 (ix := 15) (pc' := 27) rfl rfl rfl ?_
      refine ex_aload_n cg_235 (ix := 16) (pc' := 28) rfl rfl rfl ?_
      refine ex_callV cg_235 (ix := 17) (pc' := 31) (As := []) (r := [.inr (.inl 119)]) rfl rfl rfl (ct_mall (mi := mi) (ml := ml) (f := f)) (by first | decide | omega) rfl rfl rfl ⟨rfl, rfl, trivial⟩ rfl rfl (fun v h2 hq => ?_)
      obtain ⟨rfl, rfl⟩ := hq
      show cx_T _ 235 _ 31 ([some (.inr (.inl 119)), some (.inl (.int m)), some (.inl (.int q)), some (.inl (.int i)), none, none, none, none], [.inl (.long (sumL f 32)), .inr (.inl 119)], [(119, .inl (11, vs_119 mi ml)), (144, .inr (.inr (.inl (32, f)))), (145, .inr (.inr (.inl (32, n)))), (146, .inr (.inr (.inl (32, rowU f kp 32)))), (147, .inr (.inl (0, 3, ro))), (148, .inr (.inl (0, 3, br)))]) _
      refine ex_putfield cg_235 (ix := 18) (pc' := 34) (h' := [(119, .inl (11, vs_119 mi (upl ml 50 (sumL f 32)))), (144, .inr (.inr (.inl (32, f)))), (145, .inr (.inr (.inl (32, n)))), (146, .inr (.inr (.inl (32, rowU f kp 32)))), (147, .inr (.inl (0, 3, ro))), (148, .inr (.inl (0, 3, br)))]) rfl rfl rfl rfl rfl rfl rfl rfl ?_
      refine ex_iconst cg_235 (ix := 19) (pc' := 35) rfl rfl ?_
      refine ex_istore_n cg_235 (ix := 20) (pc' := 36) (L' := [some (.inr (.inl 119)), some (.inl (.int m)), some (.inl (.int q)), some (.inl (.int (Int32.ofInt 1))), none, none, none, none]) rfl rfl rfl rfl ?_
      refine ex_iconst cg_235 (ix := 21) (pc' := 37) rfl rfl ?_
      refine ex_istore cg_235 (ix := 22) (pc' := 39) (L' := [some (.inr (.inl 119)), some (.inl (.int m)), some (.inl (.int q)), some (.inl (.int (Int32.ofInt 1))), some (.inl (.int (Int32.ofInt 0))), none, none, none]) rfl rfl rfl rfl ?_
      exact hP
    · have hb5 : ¬ ((Int32.ofInt 32).toInt ≤ i.toInt) := hb5
      exfalso; first | omega | exact absurd hb5 (by decide +kernel)
  | succ m9 ih =>
    intro k hk i hi 
    have hik : i.toNatClampNeg = k := cx_clamp hi
    refine ex_iload_n cg_235 (ix := 2) (pc' := 3) rfl rfl rfl ?_
    refine ex_bipush cg_235 (ix := 3) (pc' := 5) rfl rfl rfl ?_
    refine ex_icmp cg_235 (ix := 4) (t := 26) (pc' := 8) rfl rfl rfl (fun hb5 => ?_) (fun hb5 => ?_)
    · have hb5 : (Int32.ofInt 32).toInt ≤ i.toInt := hb5
      exfalso; first | omega | exact absurd hb5 (by decide +kernel)
    · have hb5 : ¬ ((Int32.ofInt 32).toInt ≤ i.toInt) := hb5
      refine ex_aload_n cg_235 (ix := 5) (pc' := 9) rfl rfl rfl ?_
      refine ex_getfield cg_235 (ix := 6) (pc' := 12) (v := .inr (.inl 146)) rfl rfl rfl rfl rfl ?_
      refine ex_iload_n cg_235 (ix := 7) (pc' := 13) rfl rfl rfl ?_
      refine ex_aload_n cg_235 (ix := 8) (pc' := 14) rfl rfl rfl ?_
      refine ex_getfield cg_235 (ix := 9) (pc' := 17) (v := .inr (.inl 144)) rfl rfl rfl rfl rfl ?_
      refine ex_iload_n cg_235 (ix := 10) (pc' := 18) rfl rfl rfl ?_
      refine ex_laload cg_235 (ix := 11) (pc' := 19) rfl rfl (by omega) (by omega) rfl ?_
      refine ex_lastore cg_235 (ix := 12) (pc' := 20) (h' := [(119, .inl (11, vs_119 mi ml)), (144, .inr (.inr (.inl (32, f)))), (145, .inr (.inr (.inl (32, n)))), (146, .inr (.inr (.inl (32, vp_updL (rowU f kp k) i.toNatClampNeg (f i.toNatClampNeg))))), (147, .inr (.inl (0, 3, ro))), (148, .inr (.inl (0, 3, br)))]) rfl rfl (by omega) (by omega) rfl rfl ?_
      refine ex_iinc cg_235 (ix := 13) (pc' := 23) (L' := [some (.inr (.inl 119)), some (.inl (.int m)), some (.inl (.int q)), some (.inl (.int (i + Int32.ofInt 1))), none, none, none, none]) rfl rfl rfl rfl rfl ?_
      refine ex_goto cg_235 (ix := 14) (pc' := 2) rfl rfl ?_
      have e1 : vp_updL (rowU f kp k) i.toNatClampNeg (f i.toNatClampNeg) = rowU f kp (k + 1) := by
        rw [hik]
        exact rowU_L rfl
      rw [e1]
      exact ih (k + 1) (by omega) _ (by rw [cx_addc (by omega) (by omega)]; omega)
def acF (mi : Nat → Int32) (q : Int32) (mm bN : Nat) (f : Nat → Int64) : Int64 × List Nat := (List.range (7 ^ mm)).foldl (stM mm bN (fun R => sumL (R.foldl (nxP (mi 42) (mi 43) (mi 44) q) f) 32)) (Int64.ofInt (-1), [])
theorem ct_fl {mi : Nat → Int32} {ml : Nat → Int64} {m q : Int32} {mm bN : Nat} {ro br : Nat → Int32} {f n kp : Nat → Int64} (hm : m.toInt = (mm : Int)) (hmm : mm ≤ 3) (hm1 : 1 ≤ mm) (hb : (mi 45).toInt = (bN : Int)) (hb32 : bN < 32) : cx_Ct 5 235 [.inr (.inl 119), .inl (.int m), .inl (.int q)] ([(119, .inl (11, vs_119 mi ml)), (144, .inr (.inr (.inl (32, f)))), (145, .inr (.inr (.inl (32, n)))), (146, .inr (.inr (.inl (32, kp)))), (147, .inr (.inl (0, 3, ro))), (148, .inr (.inl (0, 3, br)))]) (fun v h2 => ∃ (f2 n2 kp2 : Nat → Int64) (rw2 br2 : Nat → Int32), v = none ∧ h2 = [(119, .inl (11, vs_119 mi (upl (upl ml 49 ((acF mi q mm bN f).1)) 50 (wS f mm)))), (144, .inr (.inr (.inl (32, f2)))), (145, .inr (.inr (.inl (32, n2)))), (146, .inr (.inr (.inl (32, kp2)))), (147, .inr (.inl (0, 3, rw2))), (148, .inr (.inl (0, 3, br2)))] ∧ (∀ x : Nat, x < 32 → f2 x = f x) ∧ okM mm (acF mi q mm bN f) br2) := by
  refine cx_Ct.of cg_235 (nL := 8) rfl rfl rfl ?_
  show cx_T 5 235 [119, 144, 145, 146, 147, 148] 0 ([some (.inr (.inl 119)), some (.inl (.int m)), some (.inl (.int q)), none, none, none, none, none], [], [(119, .inl (11, vs_119 mi ml)), (144, .inr (.inr (.inl (32, f)))), (145, .inr (.inr (.inl (32, n)))), (146, .inr (.inr (.inl (32, kp)))), (147, .inr (.inl (0, 3, ro))), (148, .inr (.inl (0, 3, br)))]) _
  refine ex_iconst cg_235 (ix := 0) (pc' := 1) rfl rfl ?_
  refine ex_istore_n cg_235 (ix := 1) (pc' := 2) (L' := [some (.inr (.inl 119)), some (.inl (.int m)), some (.inl (.int q)), some (.inl (.int (Int32.ofInt 0))), none, none, none, none]) rfl rfl rfl rfl ?_
  have e0 := flk_1 (d := 5) (mi := mi) (ml := ml) (m := m) (q := q) (ro := ro) (br := br) (f := f) (n := n) (kp := kp) (P := fun v h2 => ∃ (f2 n2 kp2 : Nat → Int64) (rw2 br2 : Nat → Int32), v = none ∧ h2 = [(119, .inl (11, vs_119 mi (upl (upl ml 49 ((acF mi q mm bN f).1)) 50 (wS f mm)))), (144, .inr (.inr (.inl (32, f2)))), (145, .inr (.inr (.inl (32, n2)))), (146, .inr (.inr (.inl (32, kp2)))), (147, .inr (.inl (0, 3, rw2))), (148, .inr (.inl (0, 3, br2)))] ∧ (∀ x : Nat, x < 32 → f2 x = f x) ∧ okM mm (acF mi q mm bN f) br2) (by decide) ?_ 32 0 rfl (Int32.ofInt 0) (by decide +kernel)
  · rw [rowU_0] at e0
    exact e0
  · refine flk_2 (d := 5) (mi := mi) (ml := ml) (bN := bN) (bl := ml 49) (ro := ro) (br := br) (f := f) (n := n) (kp := rowU f kp 32) hm hmm (fun ways hw => ?_) mm 0 (by omega) (Int32.ofInt 0) (Int32.ofInt 1) (by decide +kernel) (by decide +kernel)
    have h343 : 7 ^ mm ≤ 343 := by
      rcases (show mm = 1 ∨ mm = 2 ∨ mm = 3 by omega) with q9 | q9 | q9 <;> rw [q9] <;> decide
    have eV : (fun R : List Nat => sumL (R.foldl (nxP (mi 42) (mi 43) (mi 44) q) (rowU f kp 32)) 32) = (fun R : List Nat => sumL (R.foldl (nxP (mi 42) (mi 43) (mi 44) q) f) 32) := funext (fun R => sumL_E 32 (nxf_E R _ _ (fun x hx => rowU_in hx)))
    refine flk_3 (d := 5) (mi := mi) (ml := ml) (wt := wS f mm) (kp := rowU f kp 32) (accF := acF mi q mm bN f) (bN := bN) (by decide) hm hmm hm1 hb hb32 h343 hw (fun A B C bl2 br2 rw2 f2 n2 h1 h2 => ?_) (7 ^ mm) 0 (by omega) (Int32.ofInt 0) (by decide +kernel) none none none (Int64.ofInt (-1)) br ro f n (Int64.ofInt (-1), []) rfl (fun j hj w hw => by cases hw) (by rw [eV]; unfold acF; rw [List.range_eq_range'])
    have e4 := flk_4 (d := 5) (mi := mi) (ml := ml) (mm := mm) (bN := bN) (m := m) (q := q) (bl := bl2) (wt := wS f mm) (ways := ways) (A := A) (B := B) (C := C) (ro := rw2) (br := br2) (f := f2) (n := n2) (kp := rowU f kp 32) (P := fun v h2 => ∃ (f2 n2 kp2 : Nat → Int64) (rw2 br2 : Nat → Int32), v = none ∧ h2 = [(119, .inl (11, vs_119 mi (upl (upl ml 49 ((acF mi q mm bN f).1)) 50 (wS f mm)))), (144, .inr (.inr (.inl (32, f2)))), (145, .inr (.inr (.inl (32, n2)))), (146, .inr (.inr (.inl (32, kp2)))), (147, .inr (.inl (0, 3, rw2))), (148, .inr (.inl (0, 3, br2)))] ∧ (∀ x : Nat, x < 32 → f2 x = f x) ∧ okM mm (acF mi q mm bN f) br2) ?_ 32 0 rfl (Int32.ofInt 0) (by decide +kernel)
    · rw [rowU_0] at e4
      exact e4
    · rw [h1]
      exact ⟨_, n2, _, rw2, br2, rfl, rfl, fun x hx => by rw [rowU_in hx, rowU_in hx], h2⟩
def wlA (m q : Int32) (sm : Int64) (md z : Int32) : Prop :=
  ((m.toInt < 1 ∨ q.toInt < 1) ∧ z = Int32.ofInt (-4)) ∨
  (¬ (m.toInt < 1 ∨ q.toInt < 1) ∧ (3 < m.toInt ∨ 8 < q.toInt) ∧ z = Int32.ofInt (-6)) ∨
  ((1 ≤ m.toInt ∧ m.toInt ≤ 3 ∧ 1 ≤ q.toInt ∧ q.toInt ≤ 8) ∧ sm = Int64.ofNat 0 ∧ z = Int32.ofInt (-5)) ∨
  ((1 ≤ m.toInt ∧ m.toInt ≤ 3 ∧ 1 ≤ q.toInt ∧ q.toInt ≤ 8) ∧ ¬ sm = Int64.ofNat 0 ∧ 10 < md.toInt + 2 * m.toInt ∧ z = Int32.ofInt (-6)) ∨
  ((1 ≤ m.toInt ∧ m.toInt ≤ 3 ∧ 1 ≤ q.toInt ∧ q.toInt ≤ 8) ∧ ¬ sm = Int64.ofNat 0 ∧ md.toInt + 2 * m.toInt ≤ 10 ∧ z = Int32.ofInt 0)
theorem ct_wl {mi : Nat → Int32} {ml : Nat → Int64} {m q : Int32} {f : Nat → Int64} (hm0 : 0 ≤ (mi 41).toInt) (hm1 : (mi 41).toInt ≤ 10) : cx_Ct 3 236 [.inr (.inl 119), .inl (.int m), .inl (.int q)] ([(119, .inl (11, vs_119 mi ml)), (144, .inr (.inr (.inl (32, f))))]) (fun v h2 => ∃ z : Int32, v = some (.inl (.int z)) ∧ h2 = [(119, .inl (11, vs_119 mi ml)), (144, .inr (.inr (.inl (32, f))))] ∧ wlA m q (sumL f 32) (mi 41) z) := by
  have kcm6 : (Int32.ofInt (-6)).toInt = -6 := by decide +kernel
  have kcm5 : (Int32.ofInt (-5)).toInt = -5 := by decide +kernel
  have kcm4 : (Int32.ofInt (-4)).toInt = -4 := by decide +kernel
  have kc0 : (Int32.ofInt 0).toInt = 0 := by decide +kernel
  have kc1 : (Int32.ofInt 1).toInt = 1 := by decide +kernel
  have kc2 : (Int32.ofInt 2).toInt = 2 := by decide +kernel
  have kc3 : (Int32.ofInt 3).toInt = 3 := by decide +kernel
  have kc8 : (Int32.ofInt 8).toInt = 8 := by decide +kernel
  have kc10 : (Int32.ofInt 10).toInt = 10 := by decide +kernel
  have hadd : 1 ≤ m.toInt → m.toInt ≤ 3 → ((mi 41) + (Int32.ofInt 2) * m).toInt = (mi 41).toInt + 2 * m.toInt := fun h1 h3 => by
    have e1 : ((Int32.ofInt 2) * m).toInt = 2 * m.toInt := cx_mulk (n := 2) (by decide +kernel) (by omega) (by omega)
    rw [cx_addc (by omega) (by omega), e1]
  refine cx_Ct.of cg_236 (nL := 3) rfl rfl rfl ?_
  show cx_T 3 236 [119, 144] 0 ([some (.inr (.inl 119)), some (.inl (.int m)), some (.inl (.int q))], [], [(119, .inl (11, vs_119 mi ml)), (144, .inr (.inr (.inl (32, f))))]) _
  refine ex_iload_n cg_236 (ix := 0) (pc' := 1) rfl rfl rfl ?_
  refine ex_iconst cg_236 (ix := 1) (pc' := 2) rfl rfl ?_
  refine ex_icmp cg_236 (ix := 2) (t := 10) (pc' := 5) rfl rfl rfl (fun hb2 => ?_) (fun hb2 => ?_)
  · have hb2 : m.toInt < (Int32.ofInt 1).toInt := hb2
    refine ex_bipush cg_236 (ix := 6) (pc' := 12) rfl rfl rfl ?_
    refine ex_goto cg_236 (ix := 7) (pc' := 64) rfl rfl ?_
    refine ex_ireturn cg_236 (ix := 34) rfl ?_
    exact ⟨_, rfl, rfl, Or.inl ⟨by omega, rfl⟩⟩
  · have hb2 : ¬ (m.toInt < (Int32.ofInt 1).toInt) := hb2
    refine ex_iload_n cg_236 (ix := 3) (pc' := 6) rfl rfl rfl ?_
    refine ex_iconst cg_236 (ix := 4) (pc' := 7) rfl rfl ?_
    refine ex_icmp cg_236 (ix := 5) (t := 15) (pc' := 10) rfl rfl rfl (fun hb7 => ?_) (fun hb7 => ?_)
    · have hb7 : (Int32.ofInt 1).toInt ≤ q.toInt := hb7
      refine ex_iload_n cg_236 (ix := 8) (pc' := 16) rfl rfl rfl ?_
      refine ex_iconst cg_236 (ix := 9) (pc' := 17) rfl rfl ?_
      refine ex_icmp cg_236 (ix := 10) (t := 26) (pc' := 20) rfl rfl rfl (fun hb17 => ?_) (fun hb17 => ?_)
      · have hb17 : (Int32.ofInt 3).toInt < m.toInt := hb17
        refine ex_bipush cg_236 (ix := 14) (pc' := 28) rfl rfl rfl ?_
        refine ex_goto cg_236 (ix := 15) (pc' := 64) rfl rfl ?_
        refine ex_ireturn cg_236 (ix := 34) rfl ?_
        first | exact ⟨_, rfl, rfl, Or.inr (Or.inl ⟨by omega, by omega, rfl⟩)⟩ | exact ⟨_, rfl, rfl, Or.inr (Or.inr (Or.inr (Or.inl ⟨by omega, (fun q2 => by rcases hlc36 with q3 | q3 | q3 <;> first | omega | (rw [q2] at q3; omega)), by rw [hadd (by omega) (by omega)] at hb55; omega, rfl⟩)))⟩
      · have hb17 : ¬ ((Int32.ofInt 3).toInt < m.toInt) := hb17
        refine ex_iload_n cg_236 (ix := 11) (pc' := 21) rfl rfl rfl ?_
        refine ex_bipush cg_236 (ix := 12) (pc' := 23) rfl rfl rfl ?_
        refine ex_icmp cg_236 (ix := 13) (t := 31) (pc' := 26) rfl rfl rfl (fun hb23 => ?_) (fun hb23 => ?_)
        · have hb23 : q.toInt ≤ (Int32.ofInt 8).toInt := hb23
          refine ex_aload_n cg_236 (ix := 16) (pc' := 32) rfl rfl rfl ?_
          refine ex_callV cg_236 (ix := 17) (pc' := 35) (As := []) (r := []) rfl rfl rfl (ct_mall (mi := mi) (ml := ml) (f := f)) (by first | decide | omega) rfl rfl rfl ⟨rfl, rfl, trivial⟩ rfl rfl (fun v h2 hq => ?_)
          obtain ⟨rfl, rfl⟩ := hq
          show cx_T _ 236 _ 35 ([some (.inr (.inl 119)), some (.inl (.int m)), some (.inl (.int q))], [.inl (.long (sumL f 32))], [(119, .inl (11, vs_119 mi ml)), (144, .inr (.inr (.inl (32, f))))]) _
          refine ex_lconst cg_236 (ix := 18) (pc' := 36) rfl rfl ?_
          refine ex_lcmp cg_236 (ix := 19) (pc' := 37) rfl rfl ?_
          have hlc36 := cx_cmp (sumL f 32) (Int64.ofNat 0)
          refine ex_if cg_236 (ix := 20) (t := 45) (pc' := 40) rfl rfl rfl (fun hb37 => ?_) (fun hb37 => ?_)
          · have hb37 : ¬ (lg_cmp (sumL f 32) (Int64.ofNat 0)).toInt = 0 := hb37
            refine ex_aload_n cg_236 (ix := 23) (pc' := 46) rfl rfl rfl ?_
            refine ex_getfield cg_236 (ix := 24) (pc' := 49) (v := .inl (.int (mi 41))) rfl rfl rfl rfl rfl ?_
            refine ex_iconst cg_236 (ix := 25) (pc' := 50) rfl rfl ?_
            refine ex_iload_n cg_236 (ix := 26) (pc' := 51) rfl rfl rfl ?_
            refine ex_imul cg_236 (ix := 27) (pc' := 52) rfl rfl ?_
            refine ex_iadd cg_236 (ix := 28) (pc' := 53) rfl rfl ?_
            refine ex_bipush cg_236 (ix := 29) (pc' := 55) rfl rfl rfl ?_
            refine ex_icmp cg_236 (ix := 30) (t := 63) (pc' := 58) rfl rfl rfl (fun hb55 => ?_) (fun hb55 => ?_)
            · have hb55 : ((mi 41) + ((Int32.ofInt 2) * m)).toInt ≤ (Int32.ofInt 10).toInt := hb55
              refine ex_iconst cg_236 (ix := 33) (pc' := 64) rfl rfl ?_
              refine ex_ireturn cg_236 (ix := 34) rfl ?_
              exact ⟨_, rfl, rfl, Or.inr (Or.inr (Or.inr (Or.inr ⟨by omega, (fun q2 => by rcases hlc36 with q3 | q3 | q3 <;> first | omega | (rw [q2] at q3; omega)), by rw [hadd (by omega) (by omega)] at hb55; omega, rfl⟩)))⟩
            · have hb55 : ¬ (((mi 41) + ((Int32.ofInt 2) * m)).toInt ≤ (Int32.ofInt 10).toInt) := hb55
              refine ex_bipush cg_236 (ix := 31) (pc' := 60) rfl rfl rfl ?_
              refine ex_goto cg_236 (ix := 32) (pc' := 64) rfl rfl ?_
              refine ex_ireturn cg_236 (ix := 34) rfl ?_
              first | exact ⟨_, rfl, rfl, Or.inr (Or.inl ⟨by omega, by omega, rfl⟩)⟩ | exact ⟨_, rfl, rfl, Or.inr (Or.inr (Or.inr (Or.inl ⟨by omega, (fun q2 => by rcases hlc36 with q3 | q3 | q3 <;> first | omega | (rw [q2] at q3; omega)), by rw [hadd (by omega) (by omega)] at hb55; omega, rfl⟩)))⟩
          · have hb37 : ¬ (¬ (lg_cmp (sumL f 32) (Int64.ofNat 0)).toInt = 0) := hb37
            refine ex_bipush cg_236 (ix := 21) (pc' := 42) rfl rfl rfl ?_
            refine ex_goto cg_236 (ix := 22) (pc' := 64) rfl rfl ?_
            refine ex_ireturn cg_236 (ix := 34) rfl ?_
            refine ⟨_, rfl, rfl, Or.inr (Or.inr (Or.inl ⟨by omega, ?_, rfl⟩))⟩
            rcases hlc36 with q2 | q2 | q2
            · omega
            · exact q2.2.1
            · omega
        · have hb23 : ¬ (q.toInt ≤ (Int32.ofInt 8).toInt) := hb23
          refine ex_bipush cg_236 (ix := 14) (pc' := 28) rfl rfl rfl ?_
          refine ex_goto cg_236 (ix := 15) (pc' := 64) rfl rfl ?_
          refine ex_ireturn cg_236 (ix := 34) rfl ?_
          first | exact ⟨_, rfl, rfl, Or.inr (Or.inl ⟨by omega, by omega, rfl⟩)⟩ | exact ⟨_, rfl, rfl, Or.inr (Or.inr (Or.inr (Or.inl ⟨by omega, (fun q2 => by rcases hlc36 with q3 | q3 | q3 <;> first | omega | (rw [q2] at q3; omega)), by rw [hadd (by omega) (by omega)] at hb55; omega, rfl⟩)))⟩
    · have hb7 : ¬ ((Int32.ofInt 1).toInt ≤ q.toInt) := hb7
      refine ex_bipush cg_236 (ix := 6) (pc' := 12) rfl rfl rfl ?_
      refine ex_goto cg_236 (ix := 7) (pc' := 64) rfl rfl ?_
      refine ex_ireturn cg_236 (ix := 34) rfl ?_
      exact ⟨_, rfl, rfl, Or.inl ⟨by omega, rfl⟩⟩
def h_mk (mi : Nat → Int32) (ml : Nat → Int64) (r ro br : Nat → Int32) (f n kp : Nat → Int64) : cx_H := [(119, .inl (11, vs_119 mi ml)), (126, .inr (.inl (0, 7, r))), (144, .inr (.inr (.inl (32, f)))), (145, .inr (.inr (.inl (32, n)))), (146, .inr (.inr (.inl (32, kp)))), (147, .inr (.inl (0, 3, ro))), (148, .inr (.inl (0, 3, br)))]
/-- what is refused of seek and chance -/
def skR (m q : Int32) (sm : Int64) (md z : Int32) : Prop :=
  ((m.toInt < 1 ∨ q.toInt < 1) ∧ z = Int32.ofInt (-4)) ∨
  (¬ (m.toInt < 1 ∨ q.toInt < 1) ∧ (3 < m.toInt ∨ 8 < q.toInt) ∧ z = Int32.ofInt (-6)) ∨
  ((1 ≤ m.toInt ∧ m.toInt ≤ 3 ∧ 1 ≤ q.toInt ∧ q.toInt ≤ 8) ∧ sm = Int64.ofNat 0 ∧ z = Int32.ofInt (-5)) ∨
  ((1 ≤ m.toInt ∧ m.toInt ≤ 3 ∧ 1 ≤ q.toInt ∧ q.toInt ≤ 8) ∧ ¬ sm = Int64.ofNat 0 ∧ 10 < md.toInt + 2 * m.toInt ∧ z = Int32.ofInt (-6))
def skO (m q : Int32) (sm : Int64) (md : Int32) : Prop := (1 ≤ m.toInt ∧ m.toInt ≤ 3 ∧ 1 ≤ q.toInt ∧ q.toInt ≤ 8) ∧ ¬ sm = Int64.ofNat 0 ∧ md.toInt + 2 * m.toInt ≤ 10
theorem ct_mseek {mi : Nat → Int32} {ml : Nat → Int64} {m q : Int32} {r ro br : Nat → Int32} {f n kp : Nat → Int64} {i : Int32} {mm bN : Nat} (hm0 : 0 ≤ (mi 41).toInt) (hm1 : (mi 41).toInt ≤ 10) (hm : 1 ≤ m.toInt → m.toInt ≤ 3 → m.toInt = (mm : Int)) (hb : (mi 45).toInt = (bN : Int)) (hb32 : bN < 32) : cx_Ct 6 237 [.inr (.inl 119), .inl (.int m), .inl (.int q), .inl (.int i)] (h_mk mi ml r ro br f n kp) (fun v_ h2 => ∃ (z : Int32) (r2 rw2 br2 : Nat → Int32) (f2 n2 kp2 : Nat → Int64) (bl2 wt2 : Int64), v_ = some (.inl (.int z)) ∧ h2 = h_mk (upi mi 0 (Int32.ofInt 0)) (upl (upl ml 49 bl2) 50 wt2) r2 rw2 br2 f2 n2 kp2 ∧ (∀ x : Nat, x < 32 → f2 x = f x) ∧ (skR m q (sumL f 32) (mi 41) z ∨ (skO m q (sumL f 32) (mi 41) ∧ ¬ (0 ≤ i.toInt ∧ i.toInt < m.toInt) ∧ z = Int32.ofInt (-1)) ∨ (skO m q (sumL f 32) (mi 41) ∧ (0 ≤ i.toInt ∧ i.toInt < m.toInt) ∧ ∀ w : Nat, (acF mi q mm bN f).2[i.toNatClampNeg]? = some w → z.toInt = (w : Int)))) := by
  have kcm6 : (Int32.ofInt (-6)).toInt = -6 := by decide +kernel
  have kcm5 : (Int32.ofInt (-5)).toInt = -5 := by decide +kernel
  have kcm4 : (Int32.ofInt (-4)).toInt = -4 := by decide +kernel
  have kcm1 : (Int32.ofInt (-1)).toInt = -1 := by decide +kernel
  have kc0 : (Int32.ofInt 0).toInt = 0 := by decide +kernel
  have kc1 : (Int32.ofInt 1).toInt = 1 := by decide +kernel
  have hms : 1 ≤ m.toInt → (m - Int32.ofInt 1).toInt = m.toInt - 1 := fun h => by have := ab_hi32 m; rw [cx_subc (by omega) (by omega)]; omega
  refine cx_Ct.of cg_237 (nL := 5) rfl rfl rfl ?_
  show cx_T 6 237 [119, 126, 144, 145, 146, 147, 148] 0 ([some (.inr (.inl 119)), some (.inl (.int m)), some (.inl (.int q)), some (.inl (.int i)), none], [], (h_mk mi ml r ro br f n kp)) _
  refine ex_aload_n cg_237 (ix := 0) (pc' := 1) rfl rfl rfl ?_
  refine ex_iconst cg_237 (ix := 1) (pc' := 2) rfl rfl ?_
  refine ex_putfield cg_237 (ix := 2) (pc' := 5) (h' := [(119, .inl (11, vs_119 (upi mi 0 (Int32.ofInt 0)) ml)), (126, .inr (.inl (0, 7, r))), (144, .inr (.inr (.inl (32, f)))), (145, .inr (.inr (.inl (32, n)))), (146, .inr (.inr (.inl (32, kp)))), (147, .inr (.inl (0, 3, ro))), (148, .inr (.inl (0, 3, br)))]) rfl rfl rfl rfl rfl rfl rfl rfl ?_
  refine ex_aload_n cg_237 (ix := 3) (pc' := 6) rfl rfl rfl ?_
  refine ex_iload_n cg_237 (ix := 4) (pc' := 7) rfl rfl rfl ?_
  refine ex_iload_n cg_237 (ix := 5) (pc' := 8) rfl rfl rfl ?_
  refine ex_callV cg_237 (ix := 6) (pc' := 11) (As := [.inl (.int m), .inl (.int q)]) (r := []) rfl rfl rfl (ct_wl (mi := (upi mi 0 (Int32.ofInt 0))) (ml := ml) (m := m) (q := q) (f := f) hm0 hm1) (by first | decide | omega) rfl rfl rfl ⟨rfl, rfl, trivial⟩ rfl rfl (fun v h2 hq => ?_)
  obtain ⟨zw, rfl, rfl, hzw⟩ := hq
  rcases hzw with ⟨w1, rfl⟩ | ⟨w1, w2, rfl⟩ | ⟨w1, w2, rfl⟩ | ⟨w1, w2, w3, rfl⟩ | ⟨w1, w2, w3, rfl⟩
  · show cx_T _ 237 _ 11 ([some (.inr (.inl 119)), some (.inl (.int m)), some (.inl (.int q)), some (.inl (.int i)), none], [.inl (.int (Int32.ofInt (-4)))], [(119, .inl (11, vs_119 (upi mi 0 (Int32.ofInt 0)) ml)), (126, .inr (.inl (0, 7, r))), (144, .inr (.inr (.inl (32, f)))), (145, .inr (.inr (.inl (32, n)))), (146, .inr (.inr (.inl (32, kp)))), (147, .inr (.inl (0, 3, ro))), (148, .inr (.inl (0, 3, br)))]) _
    refine ex_istore cg_237 (ix := 7) (pc' := 13) (L' := [some (.inr (.inl 119)), some (.inl (.int m)), some (.inl (.int q)), some (.inl (.int i)), some (.inl (.int (Int32.ofInt (-4))))]) rfl rfl rfl rfl ?_
    refine ex_iload cg_237 (ix := 8) (pc' := 15) rfl rfl rfl ?_
    refine ex_if cg_237 (ix := 9) (t := 25) (pc' := 18) rfl rfl rfl (fun hb15 => ?_) (fun hb15 => ?_)
    · have hb15 : 0 ≤ (Int32.ofInt (-4)).toInt := hb15
      exfalso; first | omega | exact absurd hb15 (by decide +kernel)
    · have hb15 : ¬ (0 ≤ (Int32.ofInt (-4)).toInt) := hb15
      refine ex_aload_n cg_237 (ix := 10) (pc' := 19) rfl rfl rfl ?_
      refine ex_iload cg_237 (ix := 11) (pc' := 21) rfl rfl rfl ?_
      refine ex_callV cg_237 (ix := 12) (pc' := 24) (As := [.inl (.int (Int32.ofInt (-4)))]) (r := []) rfl rfl rfl (ct_mref (mi := (upi mi 0 (Int32.ofInt 0))) (ml := ml) (x := Int32.ofInt (-4)) (r := r) (by decide +kernel) (by decide +kernel)) (by first | decide | omega) rfl rfl rfl ⟨rfl, rfl, trivial⟩ rfl rfl (fun v h2 hq => ?_)
      obtain ⟨rfl, r2, rfl⟩ := hq
      show cx_T _ 237 _ 24 ([some (.inr (.inl 119)), some (.inl (.int m)), some (.inl (.int q)), some (.inl (.int i)), some (.inl (.int (Int32.ofInt (-4))))], [.inl (.int (Int32.ofInt (-4)))], [(119, .inl (11, vs_119 (upi mi 0 (Int32.ofInt 0)) ml)), (126, .inr (.inl (0, 7, r2))), (144, .inr (.inr (.inl (32, f)))), (145, .inr (.inr (.inl (32, n)))), (146, .inr (.inr (.inl (32, kp)))), (147, .inr (.inl (0, 3, ro))), (148, .inr (.inl (0, 3, br)))]) _
      refine ex_ireturn cg_237 (ix := 13) rfl ?_
      first | exact ⟨_, r2, ro, br, f, n, kp, ml 49, ml 50, rfl, rfl, fun x hx => rfl, Or.inl (Or.inl ⟨w1, rfl⟩)⟩ | exact ⟨_, r2, ro, br, f, n, kp, ml 49, ml 50, rfl, rfl, fun x hx => rfl, Or.inl (Or.inr (Or.inl ⟨w1, w2, rfl⟩))⟩ | exact ⟨_, r2, ro, br, f, n, kp, ml 49, ml 50, rfl, rfl, fun x hx => rfl, Or.inl (Or.inr (Or.inr (Or.inl ⟨w1, w2, rfl⟩)))⟩ | exact ⟨_, r2, ro, br, f, n, kp, ml 49, ml 50, rfl, rfl, fun x hx => rfl, Or.inl (Or.inr (Or.inr (Or.inr ⟨w1, w2, w3, rfl⟩)))⟩
  · show cx_T _ 237 _ 11 ([some (.inr (.inl 119)), some (.inl (.int m)), some (.inl (.int q)), some (.inl (.int i)), none], [.inl (.int (Int32.ofInt (-6)))], [(119, .inl (11, vs_119 (upi mi 0 (Int32.ofInt 0)) ml)), (126, .inr (.inl (0, 7, r))), (144, .inr (.inr (.inl (32, f)))), (145, .inr (.inr (.inl (32, n)))), (146, .inr (.inr (.inl (32, kp)))), (147, .inr (.inl (0, 3, ro))), (148, .inr (.inl (0, 3, br)))]) _
    refine ex_istore cg_237 (ix := 7) (pc' := 13) (L' := [some (.inr (.inl 119)), some (.inl (.int m)), some (.inl (.int q)), some (.inl (.int i)), some (.inl (.int (Int32.ofInt (-6))))]) rfl rfl rfl rfl ?_
    refine ex_iload cg_237 (ix := 8) (pc' := 15) rfl rfl rfl ?_
    refine ex_if cg_237 (ix := 9) (t := 25) (pc' := 18) rfl rfl rfl (fun hb15 => ?_) (fun hb15 => ?_)
    · have hb15 : 0 ≤ (Int32.ofInt (-6)).toInt := hb15
      exfalso; first | omega | exact absurd hb15 (by decide +kernel)
    · have hb15 : ¬ (0 ≤ (Int32.ofInt (-6)).toInt) := hb15
      refine ex_aload_n cg_237 (ix := 10) (pc' := 19) rfl rfl rfl ?_
      refine ex_iload cg_237 (ix := 11) (pc' := 21) rfl rfl rfl ?_
      refine ex_callV cg_237 (ix := 12) (pc' := 24) (As := [.inl (.int (Int32.ofInt (-6)))]) (r := []) rfl rfl rfl (ct_mref (mi := (upi mi 0 (Int32.ofInt 0))) (ml := ml) (x := Int32.ofInt (-6)) (r := r) (by decide +kernel) (by decide +kernel)) (by first | decide | omega) rfl rfl rfl ⟨rfl, rfl, trivial⟩ rfl rfl (fun v h2 hq => ?_)
      obtain ⟨rfl, r2, rfl⟩ := hq
      show cx_T _ 237 _ 24 ([some (.inr (.inl 119)), some (.inl (.int m)), some (.inl (.int q)), some (.inl (.int i)), some (.inl (.int (Int32.ofInt (-6))))], [.inl (.int (Int32.ofInt (-6)))], [(119, .inl (11, vs_119 (upi mi 0 (Int32.ofInt 0)) ml)), (126, .inr (.inl (0, 7, r2))), (144, .inr (.inr (.inl (32, f)))), (145, .inr (.inr (.inl (32, n)))), (146, .inr (.inr (.inl (32, kp)))), (147, .inr (.inl (0, 3, ro))), (148, .inr (.inl (0, 3, br)))]) _
      refine ex_ireturn cg_237 (ix := 13) rfl ?_
      first | exact ⟨_, r2, ro, br, f, n, kp, ml 49, ml 50, rfl, rfl, fun x hx => rfl, Or.inl (Or.inl ⟨w1, rfl⟩)⟩ | exact ⟨_, r2, ro, br, f, n, kp, ml 49, ml 50, rfl, rfl, fun x hx => rfl, Or.inl (Or.inr (Or.inl ⟨w1, w2, rfl⟩))⟩ | exact ⟨_, r2, ro, br, f, n, kp, ml 49, ml 50, rfl, rfl, fun x hx => rfl, Or.inl (Or.inr (Or.inr (Or.inl ⟨w1, w2, rfl⟩)))⟩ | exact ⟨_, r2, ro, br, f, n, kp, ml 49, ml 50, rfl, rfl, fun x hx => rfl, Or.inl (Or.inr (Or.inr (Or.inr ⟨w1, w2, w3, rfl⟩)))⟩
  · show cx_T _ 237 _ 11 ([some (.inr (.inl 119)), some (.inl (.int m)), some (.inl (.int q)), some (.inl (.int i)), none], [.inl (.int (Int32.ofInt (-5)))], [(119, .inl (11, vs_119 (upi mi 0 (Int32.ofInt 0)) ml)), (126, .inr (.inl (0, 7, r))), (144, .inr (.inr (.inl (32, f)))), (145, .inr (.inr (.inl (32, n)))), (146, .inr (.inr (.inl (32, kp)))), (147, .inr (.inl (0, 3, ro))), (148, .inr (.inl (0, 3, br)))]) _
    refine ex_istore cg_237 (ix := 7) (pc' := 13) (L' := [some (.inr (.inl 119)), some (.inl (.int m)), some (.inl (.int q)), some (.inl (.int i)), some (.inl (.int (Int32.ofInt (-5))))]) rfl rfl rfl rfl ?_
    refine ex_iload cg_237 (ix := 8) (pc' := 15) rfl rfl rfl ?_
    refine ex_if cg_237 (ix := 9) (t := 25) (pc' := 18) rfl rfl rfl (fun hb15 => ?_) (fun hb15 => ?_)
    · have hb15 : 0 ≤ (Int32.ofInt (-5)).toInt := hb15
      exfalso; first | omega | exact absurd hb15 (by decide +kernel)
    · have hb15 : ¬ (0 ≤ (Int32.ofInt (-5)).toInt) := hb15
      refine ex_aload_n cg_237 (ix := 10) (pc' := 19) rfl rfl rfl ?_
      refine ex_iload cg_237 (ix := 11) (pc' := 21) rfl rfl rfl ?_
      refine ex_callV cg_237 (ix := 12) (pc' := 24) (As := [.inl (.int (Int32.ofInt (-5)))]) (r := []) rfl rfl rfl (ct_mref (mi := (upi mi 0 (Int32.ofInt 0))) (ml := ml) (x := Int32.ofInt (-5)) (r := r) (by decide +kernel) (by decide +kernel)) (by first | decide | omega) rfl rfl rfl ⟨rfl, rfl, trivial⟩ rfl rfl (fun v h2 hq => ?_)
      obtain ⟨rfl, r2, rfl⟩ := hq
      show cx_T _ 237 _ 24 ([some (.inr (.inl 119)), some (.inl (.int m)), some (.inl (.int q)), some (.inl (.int i)), some (.inl (.int (Int32.ofInt (-5))))], [.inl (.int (Int32.ofInt (-5)))], [(119, .inl (11, vs_119 (upi mi 0 (Int32.ofInt 0)) ml)), (126, .inr (.inl (0, 7, r2))), (144, .inr (.inr (.inl (32, f)))), (145, .inr (.inr (.inl (32, n)))), (146, .inr (.inr (.inl (32, kp)))), (147, .inr (.inl (0, 3, ro))), (148, .inr (.inl (0, 3, br)))]) _
      refine ex_ireturn cg_237 (ix := 13) rfl ?_
      first | exact ⟨_, r2, ro, br, f, n, kp, ml 49, ml 50, rfl, rfl, fun x hx => rfl, Or.inl (Or.inl ⟨w1, rfl⟩)⟩ | exact ⟨_, r2, ro, br, f, n, kp, ml 49, ml 50, rfl, rfl, fun x hx => rfl, Or.inl (Or.inr (Or.inl ⟨w1, w2, rfl⟩))⟩ | exact ⟨_, r2, ro, br, f, n, kp, ml 49, ml 50, rfl, rfl, fun x hx => rfl, Or.inl (Or.inr (Or.inr (Or.inl ⟨w1, w2, rfl⟩)))⟩ | exact ⟨_, r2, ro, br, f, n, kp, ml 49, ml 50, rfl, rfl, fun x hx => rfl, Or.inl (Or.inr (Or.inr (Or.inr ⟨w1, w2, w3, rfl⟩)))⟩
  · show cx_T _ 237 _ 11 ([some (.inr (.inl 119)), some (.inl (.int m)), some (.inl (.int q)), some (.inl (.int i)), none], [.inl (.int (Int32.ofInt (-6)))], [(119, .inl (11, vs_119 (upi mi 0 (Int32.ofInt 0)) ml)), (126, .inr (.inl (0, 7, r))), (144, .inr (.inr (.inl (32, f)))), (145, .inr (.inr (.inl (32, n)))), (146, .inr (.inr (.inl (32, kp)))), (147, .inr (.inl (0, 3, ro))), (148, .inr (.inl (0, 3, br)))]) _
    refine ex_istore cg_237 (ix := 7) (pc' := 13) (L' := [some (.inr (.inl 119)), some (.inl (.int m)), some (.inl (.int q)), some (.inl (.int i)), some (.inl (.int (Int32.ofInt (-6))))]) rfl rfl rfl rfl ?_
    refine ex_iload cg_237 (ix := 8) (pc' := 15) rfl rfl rfl ?_
    refine ex_if cg_237 (ix := 9) (t := 25) (pc' := 18) rfl rfl rfl (fun hb15 => ?_) (fun hb15 => ?_)
    · have hb15 : 0 ≤ (Int32.ofInt (-6)).toInt := hb15
      exfalso; first | omega | exact absurd hb15 (by decide +kernel)
    · have hb15 : ¬ (0 ≤ (Int32.ofInt (-6)).toInt) := hb15
      refine ex_aload_n cg_237 (ix := 10) (pc' := 19) rfl rfl rfl ?_
      refine ex_iload cg_237 (ix := 11) (pc' := 21) rfl rfl rfl ?_
      refine ex_callV cg_237 (ix := 12) (pc' := 24) (As := [.inl (.int (Int32.ofInt (-6)))]) (r := []) rfl rfl rfl (ct_mref (mi := (upi mi 0 (Int32.ofInt 0))) (ml := ml) (x := Int32.ofInt (-6)) (r := r) (by decide +kernel) (by decide +kernel)) (by first | decide | omega) rfl rfl rfl ⟨rfl, rfl, trivial⟩ rfl rfl (fun v h2 hq => ?_)
      obtain ⟨rfl, r2, rfl⟩ := hq
      show cx_T _ 237 _ 24 ([some (.inr (.inl 119)), some (.inl (.int m)), some (.inl (.int q)), some (.inl (.int i)), some (.inl (.int (Int32.ofInt (-6))))], [.inl (.int (Int32.ofInt (-6)))], [(119, .inl (11, vs_119 (upi mi 0 (Int32.ofInt 0)) ml)), (126, .inr (.inl (0, 7, r2))), (144, .inr (.inr (.inl (32, f)))), (145, .inr (.inr (.inl (32, n)))), (146, .inr (.inr (.inl (32, kp)))), (147, .inr (.inl (0, 3, ro))), (148, .inr (.inl (0, 3, br)))]) _
      refine ex_ireturn cg_237 (ix := 13) rfl ?_
      first | exact ⟨_, r2, ro, br, f, n, kp, ml 49, ml 50, rfl, rfl, fun x hx => rfl, Or.inl (Or.inl ⟨w1, rfl⟩)⟩ | exact ⟨_, r2, ro, br, f, n, kp, ml 49, ml 50, rfl, rfl, fun x hx => rfl, Or.inl (Or.inr (Or.inl ⟨w1, w2, rfl⟩))⟩ | exact ⟨_, r2, ro, br, f, n, kp, ml 49, ml 50, rfl, rfl, fun x hx => rfl, Or.inl (Or.inr (Or.inr (Or.inl ⟨w1, w2, rfl⟩)))⟩ | exact ⟨_, r2, ro, br, f, n, kp, ml 49, ml 50, rfl, rfl, fun x hx => rfl, Or.inl (Or.inr (Or.inr (Or.inr ⟨w1, w2, w3, rfl⟩)))⟩
  · show cx_T _ 237 _ 11 ([some (.inr (.inl 119)), some (.inl (.int m)), some (.inl (.int q)), some (.inl (.int i)), none], [.inl (.int (Int32.ofInt 0))], [(119, .inl (11, vs_119 (upi mi 0 (Int32.ofInt 0)) ml)), (126, .inr (.inl (0, 7, r))), (144, .inr (.inr (.inl (32, f)))), (145, .inr (.inr (.inl (32, n)))), (146, .inr (.inr (.inl (32, kp)))), (147, .inr (.inl (0, 3, ro))), (148, .inr (.inl (0, 3, br)))]) _
    refine ex_istore cg_237 (ix := 7) (pc' := 13) (L' := [some (.inr (.inl 119)), some (.inl (.int m)), some (.inl (.int q)), some (.inl (.int i)), some (.inl (.int (Int32.ofInt 0)))]) rfl rfl rfl rfl ?_
    refine ex_iload cg_237 (ix := 8) (pc' := 15) rfl rfl rfl ?_
    refine ex_if cg_237 (ix := 9) (t := 25) (pc' := 18) rfl rfl rfl (fun hb15 => ?_) (fun hb15 => ?_)
    · have hb15 : 0 ≤ (Int32.ofInt 0).toInt := hb15
      refine ex_iload_n cg_237 (ix := 14) (pc' := 26) rfl rfl rfl ?_
      refine ex_iconst cg_237 (ix := 15) (pc' := 27) rfl rfl ?_
      refine ex_iload_n cg_237 (ix := 16) (pc' := 28) rfl rfl rfl ?_
      refine ex_iconst cg_237 (ix := 17) (pc' := 29) rfl rfl ?_
      refine ex_isub cg_237 (ix := 18) (pc' := 30) rfl rfl ?_
      refine ex_callS cg_237 (ix := 19) (pc' := 33) (As := [.inl (.int i), .inl (.int (Int32.ofInt 0)), .inl (.int (m - (Int32.ofInt 1)))]) (r := []) rfl rfl rfl (ct_min (x := i) (a := Int32.ofInt 0) (b := m - (Int32.ofInt 1))) (by first | decide | omega) rfl rfl trivial rfl rfl (fun v h2 hq => ?_)
      obtain ⟨z9, rfl, rfl, hz9⟩ := hq
      rw [hms (by omega)] at hz9
      rcases hz9 with ⟨hz9, rfl⟩ | ⟨hz9, rfl⟩
      · show cx_T _ 237 _ 33 ([some (.inr (.inl 119)), some (.inl (.int m)), some (.inl (.int q)), some (.inl (.int i)), some (.inl (.int (Int32.ofInt 0)))], [.inl (.int (Int32.ofInt 1))], [(119, .inl (11, vs_119 (upi mi 0 (Int32.ofInt 0)) ml)), (126, .inr (.inl (0, 7, r))), (144, .inr (.inr (.inl (32, f)))), (145, .inr (.inr (.inl (32, n)))), (146, .inr (.inr (.inl (32, kp)))), (147, .inr (.inl (0, 3, ro))), (148, .inr (.inl (0, 3, br)))]) _
        refine ex_if cg_237 (ix := 20) (t := 42) (pc' := 36) rfl rfl rfl (fun hb33 => ?_) (fun hb33 => ?_)
        · have hb33 : ¬ (Int32.ofInt 1).toInt = 0 := hb33
          refine ex_aload_n cg_237 (ix := 25) (pc' := 43) rfl rfl rfl ?_
          refine ex_iload_n cg_237 (ix := 26) (pc' := 44) rfl rfl rfl ?_
          refine ex_iload_n cg_237 (ix := 27) (pc' := 45) rfl rfl rfl ?_
          refine ex_callV cg_237 (ix := 28) (pc' := 48) (As := [.inl (.int m), .inl (.int q)]) (r := []) rfl rfl rfl (ct_fl (mi := (upi mi 0 (Int32.ofInt 0))) (ml := ml) (m := m) (q := q) (mm := mm) (bN := bN) (ro := ro) (br := br) (f := f) (n := n) (kp := kp) (by omega) (by omega) (by omega) hb hb32) (by first | decide | omega) rfl rfl rfl ⟨rfl, rfl, rfl, rfl, rfl, rfl, trivial⟩ rfl rfl (fun v h2 hq => ?_)
          obtain ⟨f2, n2, kp2, rw2, br2, rfl, rfl, hf2, hok⟩ := hq
          show cx_T _ 237 _ 48 ([some (.inr (.inl 119)), some (.inl (.int m)), some (.inl (.int q)), some (.inl (.int i)), some (.inl (.int (Int32.ofInt 0)))], [], [(119, .inl (11, vs_119 (upi mi 0 (Int32.ofInt 0)) (upl (upl ml 49 ((acF (upi mi 0 (Int32.ofInt 0)) q mm bN f).1)) 50 (wS f mm)))), (126, .inr (.inl (0, 7, r))), (144, .inr (.inr (.inl (32, f2)))), (145, .inr (.inr (.inl (32, n2)))), (146, .inr (.inr (.inl (32, kp2)))), (147, .inr (.inl (0, 3, rw2))), (148, .inr (.inl (0, 3, br2)))]) _
          refine ex_aload_n cg_237 (ix := 29) (pc' := 49) rfl rfl rfl ?_
          refine ex_getfield cg_237 (ix := 30) (pc' := 52) (v := .inr (.inl 148)) rfl rfl rfl rfl rfl ?_
          refine ex_iload_n cg_237 (ix := 31) (pc' := 53) rfl rfl rfl ?_
          refine ex_iaload cg_237 (ix := 32) (pc' := 54) rfl rfl (by omega) (by omega) rfl ?_
          refine ex_ireturn cg_237 (ix := 33) rfl ?_
          refine ⟨_, r, rw2, br2, f2, n2, kp2, _, _, rfl, rfl, hf2, Or.inr (Or.inr ⟨⟨w1, w2, w3⟩, by omega, fun w hw => ?_⟩)⟩
          have hI := ab_clamp (x := i) (by omega)
          exact hok i.toNatClampNeg (by omega) w hw
        · have hb33 : ¬ (¬ (Int32.ofInt 1).toInt = 0) := hb33
          exfalso; first | omega | exact absurd hb33 (by decide +kernel)
      · show cx_T _ 237 _ 33 ([some (.inr (.inl 119)), some (.inl (.int m)), some (.inl (.int q)), some (.inl (.int i)), some (.inl (.int (Int32.ofInt 0)))], [.inl (.int (Int32.ofInt 0))], [(119, .inl (11, vs_119 (upi mi 0 (Int32.ofInt 0)) ml)), (126, .inr (.inl (0, 7, r))), (144, .inr (.inr (.inl (32, f)))), (145, .inr (.inr (.inl (32, n)))), (146, .inr (.inr (.inl (32, kp)))), (147, .inr (.inl (0, 3, ro))), (148, .inr (.inl (0, 3, br)))]) _
        refine ex_if cg_237 (ix := 20) (t := 42) (pc' := 36) rfl rfl rfl (fun hb33 => ?_) (fun hb33 => ?_)
        · have hb33 : ¬ (Int32.ofInt 0).toInt = 0 := hb33
          exfalso; first | omega | exact absurd hb33 (by decide +kernel)
        · have hb33 : ¬ (¬ (Int32.ofInt 0).toInt = 0) := hb33
          refine ex_aload_n cg_237 (ix := 21) (pc' := 37) rfl rfl rfl ?_
          refine ex_iconst cg_237 (ix := 22) (pc' := 38) rfl rfl ?_
          refine ex_callV cg_237 (ix := 23) (pc' := 41) (As := [.inl (.int (Int32.ofInt (-1)))]) (r := []) rfl rfl rfl (ct_mref (mi := (upi mi 0 (Int32.ofInt 0))) (ml := ml) (x := Int32.ofInt (-1)) (r := r) (by decide +kernel) (by decide +kernel)) (by first | decide | omega) rfl rfl rfl ⟨rfl, rfl, trivial⟩ rfl rfl (fun v h2 hq => ?_)
          obtain ⟨rfl, r2, rfl⟩ := hq
          show cx_T _ 237 _ 41 ([some (.inr (.inl 119)), some (.inl (.int m)), some (.inl (.int q)), some (.inl (.int i)), some (.inl (.int (Int32.ofInt 0)))], [.inl (.int (Int32.ofInt (-1)))], [(119, .inl (11, vs_119 (upi mi 0 (Int32.ofInt 0)) ml)), (126, .inr (.inl (0, 7, r2))), (144, .inr (.inr (.inl (32, f)))), (145, .inr (.inr (.inl (32, n)))), (146, .inr (.inr (.inl (32, kp)))), (147, .inr (.inl (0, 3, ro))), (148, .inr (.inl (0, 3, br)))]) _
          refine ex_ireturn cg_237 (ix := 24) rfl ?_
          exact ⟨_, r2, ro, br, f, n, kp, ml 49, ml 50, rfl, rfl, fun x hx => rfl, Or.inr (Or.inl ⟨⟨w1, w2, w3⟩, by omega, rfl⟩)⟩
    · have hb15 : ¬ (0 ≤ (Int32.ofInt 0).toInt) := hb15
      exfalso; first | omega | exact absurd hb15 (by decide +kernel)
/-- digit by digit, in the reference -/
def dgm (wt : Int64) (s : Int64 × Int32) : Int64 × Int32 := ((s.1 * Int64.ofInt 10) - (s.1 * Int64.ofInt 10) / wt * wt, (Int32.ofInt 10 * s.2) + Int64.toInt32 ((s.1 * Int64.ofInt 10) / wt))
def dgS (wt : Int64) (s : Int64 × Int32) : Nat → Int64 × Int32
  | 0 => s
  | k + 1 => dgm wt (dgS wt s k)
theorem ch_l {d : Nat} {mi : Nat → Int32} {ml : Nat → Int64} {m q w3 : Int32} {bl wt : Int64} {s0 : Int64 × Int32} {r ro br : Nat → Int32} {f n kp : Nat → Int64} {P : Option cx_V → cx_H → Prop} (hwt : ¬ wt = 0) (hP : P (some (.inl (.int (dgS wt s0 6).2))) ([(119, .inl (11, vs_119 mi (upl (upl ml 49 bl) 50 wt))), (126, .inr (.inl (0, 7, r))), (144, .inr (.inr (.inl (32, f)))), (145, .inr (.inr (.inl (32, n)))), (146, .inr (.inr (.inl (32, kp)))), (147, .inr (.inl (0, 3, ro))), (148, .inr (.inl (0, 3, br)))])) :
    ∀ (m9 k : Nat), k + m9 = 6 → ∀ i : Int32, i.toInt = (k : Int) → cx_T d 238 [119, 126, 144, 145, 146, 147, 148] 77 ([some (.inr (.inl 119)), some (.inl (.int m)), some (.inl (.int q)), some (.inl (.int w3)), some (.inl (.long ((dgS wt s0 k).1))), none, some (.inl (.int ((dgS wt s0 k).2))), some (.inl (.int i))], [], [(119, .inl (11, vs_119 mi (upl (upl ml 49 bl) 50 wt))), (126, .inr (.inl (0, 7, r))), (144, .inr (.inr (.inl (32, f)))), (145, .inr (.inr (.inl (32, n)))), (146, .inr (.inr (.inl (32, kp)))), (147, .inr (.inl (0, 3, ro))), (148, .inr (.inl (0, 3, br)))]) P := by
  have kc0 : (Int32.ofInt 0).toInt = 0 := by decide +kernel
  have kc1 : (Int32.ofInt 1).toInt = 1 := by decide +kernel
  have kc6 : (Int32.ofInt 6).toInt = 6 := by decide +kernel
  have kc10 : (Int32.ofInt 10).toInt = 10 := by decide +kernel
  intro m9
  induction m9 with
  | zero =>
    intro k hk i hi 
    have ek : k = 6 := by omega
    subst ek
    refine ex_iload cg_238 (ix := 44) (pc' := 79) rfl rfl rfl ?_
    refine ex_bipush cg_238 (ix := 45) (pc' := 81) rfl rfl rfl ?_
    refine ex_icmp cg_238 (ix := 46) (t := 123) (pc' := 84) rfl rfl rfl (fun hb81 => ?_) (fun hb81 => ?_)
    · have hb81 : (Int32.ofInt 6).toInt ≤ i.toInt := hb81
      refine ex_iload cg_238 (ix := 68) (pc' := 125) rfl rfl rfl ?_
      refine ex_ireturn cg_238 (ix := 69) rfl ?_
      exact hP
    · have hb81 : ¬ ((Int32.ofInt 6).toInt ≤ i.toInt) := hb81
      exfalso; first | omega | exact absurd hb81 (by decide +kernel)
  | succ m9 ih =>
    intro k hk i hi 
    have hik : i.toNatClampNeg = k := cx_clamp hi
    refine ex_iload cg_238 (ix := 44) (pc' := 79) rfl rfl rfl ?_
    refine ex_bipush cg_238 (ix := 45) (pc' := 81) rfl rfl rfl ?_
    refine ex_icmp cg_238 (ix := 46) (t := 123) (pc' := 84) rfl rfl rfl (fun hb81 => ?_) (fun hb81 => ?_)
    · have hb81 : (Int32.ofInt 6).toInt ≤ i.toInt := hb81
      exfalso; first | omega | exact absurd hb81 (by decide +kernel)
    · have hb81 : ¬ ((Int32.ofInt 6).toInt ≤ i.toInt) := hb81
      refine ex_lload cg_238 (ix := 47) (pc' := 86) rfl rfl rfl ?_
      refine ex_ldc2_w cg_238 (ix := 48) (pc' := 89) rfl rfl rfl ?_
      refine ex_lmul cg_238 (ix := 49) (pc' := 90) rfl rfl ?_
      refine ex_lstore cg_238 (ix := 50) (pc' := 92) (L' := [some (.inr (.inl 119)), some (.inl (.int m)), some (.inl (.int q)), some (.inl (.int w3)), some (.inl (.long (((dgS wt s0 k).1) * (Int64.ofInt 10)))), none, some (.inl (.int ((dgS wt s0 k).2))), some (.inl (.int i))]) rfl rfl rfl rfl ?_
      refine ex_bipush cg_238 (ix := 51) (pc' := 94) rfl rfl rfl ?_
      refine ex_iload cg_238 (ix := 52) (pc' := 96) rfl rfl rfl ?_
      refine ex_imul cg_238 (ix := 53) (pc' := 97) rfl rfl ?_
      refine ex_lload cg_238 (ix := 54) (pc' := 99) rfl rfl rfl ?_
      refine ex_aload_n cg_238 (ix := 55) (pc' := 100) rfl rfl rfl ?_
      refine ex_getfield cg_238 (ix := 56) (pc' := 103) (v := .inl (.long wt)) rfl rfl rfl rfl rfl ?_
      refine ex_ldiv cg_238 (ix := 57) (pc' := 104) rfl (by exact hwt) rfl ?_
      refine ex_l2i cg_238 (ix := 58) (pc' := 105) rfl rfl ?_
      refine ex_iadd cg_238 (ix := 59) (pc' := 106) rfl rfl ?_
      refine ex_istore cg_238 (ix := 60) (pc' := 108) (L' := [some (.inr (.inl 119)), some (.inl (.int m)), some (.inl (.int q)), some (.inl (.int w3)), some (.inl (.long (((dgS wt s0 k).1) * (Int64.ofInt 10)))), none, some (.inl (.int (((Int32.ofInt 10) * ((dgS wt s0 k).2)) + (Int64.toInt32 ((((dgS wt s0 k).1) * (Int64.ofInt 10)) / wt))))), some (.inl (.int i))]) rfl rfl rfl rfl ?_
      refine ex_lload cg_238 (ix := 61) (pc' := 110) rfl rfl rfl ?_
      refine ex_aload_n cg_238 (ix := 62) (pc' := 111) rfl rfl rfl ?_
      refine ex_getfield cg_238 (ix := 63) (pc' := 114) (v := .inl (.long wt)) rfl rfl rfl rfl rfl ?_
      refine ex_lrem cg_238 (ix := 64) (pc' := 115) rfl (by exact hwt) rfl ?_
      refine ex_lstore cg_238 (ix := 65) (pc' := 117) (L' := [some (.inr (.inl 119)), some (.inl (.int m)), some (.inl (.int q)), some (.inl (.int w3)), some (.inl (.long ((((dgS wt s0 k).1) * (Int64.ofInt 10)) - (((dgS wt s0 k).1) * (Int64.ofInt 10)) / wt * wt))), none, some (.inl (.int (((Int32.ofInt 10) * ((dgS wt s0 k).2)) + (Int64.toInt32 ((((dgS wt s0 k).1) * (Int64.ofInt 10)) / wt))))), some (.inl (.int i))]) rfl rfl rfl rfl ?_
      refine ex_iinc cg_238 (ix := 66) (pc' := 120) (L' := [some (.inr (.inl 119)), some (.inl (.int m)), some (.inl (.int q)), some (.inl (.int w3)), some (.inl (.long ((((dgS wt s0 k).1) * (Int64.ofInt 10)) - (((dgS wt s0 k).1) * (Int64.ofInt 10)) / wt * wt))), none, some (.inl (.int (((Int32.ofInt 10) * ((dgS wt s0 k).2)) + (Int64.toInt32 ((((dgS wt s0 k).1) * (Int64.ofInt 10)) / wt))))), some (.inl (.int (i + Int32.ofInt 1)))]) rfl rfl rfl rfl rfl ?_
      refine ex_goto cg_238 (ix := 67) (pc' := 77) rfl rfl ?_
      exact ih (k + 1) (by omega) _ (by rw [cx_addc (by omega) (by omega)]; omega)
theorem ct_mchance {mi : Nat → Int32} {ml : Nat → Int64} {m q : Int32} {r ro br : Nat → Int32} {f n kp : Nat → Int64} {mm bN : Nat} (hm0 : 0 ≤ (mi 41).toInt) (hm1 : (mi 41).toInt ≤ 10) (hm : 1 ≤ m.toInt → m.toInt ≤ 3 → m.toInt = (mm : Int)) (hb : (mi 45).toInt = (bN : Int)) (hb32 : bN < 32) (hw0 : skO m q (sumL f 32) (mi 41) → ¬ wS f mm = 0) : cx_Ct 6 238 [.inr (.inl 119), .inl (.int m), .inl (.int q)] (h_mk mi ml r ro br f n kp) (fun v_ h2 => ∃ (z : Int32) (r2 rw2 br2 : Nat → Int32) (f2 n2 kp2 : Nat → Int64) (bl2 wt2 : Int64), v_ = some (.inl (.int z)) ∧ h2 = h_mk (upi mi 0 (Int32.ofInt 0)) (upl (upl ml 49 bl2) 50 wt2) r2 rw2 br2 f2 n2 kp2 ∧ (∀ x : Nat, x < 32 → f2 x = f x) ∧ (skR m q (sumL f 32) (mi 41) z ∨ (skO m q (sumL f 32) (mi 41) ∧ ((wS f mm - (acF mi q mm bN f).1 = wS f mm ∧ z = (dgS (wS f mm) (Int64.ofNat 0, Int32.ofInt 1) 6).2) ∨ (¬ wS f mm - (acF mi q mm bN f).1 = wS f mm ∧ z = (dgS (wS f mm) (wS f mm - (acF mi q mm bN f).1, Int32.ofInt 0) 6).2))))) := by
  have kcm6 : (Int32.ofInt (-6)).toInt = -6 := by decide +kernel
  have kcm5 : (Int32.ofInt (-5)).toInt = -5 := by decide +kernel
  have kcm4 : (Int32.ofInt (-4)).toInt = -4 := by decide +kernel
  have kcm1 : (Int32.ofInt (-1)).toInt = -1 := by decide +kernel
  have kc0 : (Int32.ofInt 0).toInt = 0 := by decide +kernel
  have kc1 : (Int32.ofInt 1).toInt = 1 := by decide +kernel
  have kc6 : (Int32.ofInt 6).toInt = 6 := by decide +kernel
  have kc10 : (Int32.ofInt 10).toInt = 10 := by decide +kernel
  refine cx_Ct.of cg_238 (nL := 8) rfl rfl rfl ?_
  show cx_T 6 238 [119, 126, 144, 145, 146, 147, 148] 0 ([some (.inr (.inl 119)), some (.inl (.int m)), some (.inl (.int q)), none, none, none, none, none], [], (h_mk mi ml r ro br f n kp)) _
  refine ex_aload_n cg_238 (ix := 0) (pc' := 1) rfl rfl rfl ?_
  refine ex_iconst cg_238 (ix := 1) (pc' := 2) rfl rfl ?_
  refine ex_putfield cg_238 (ix := 2) (pc' := 5) (h' := [(119, .inl (11, vs_119 (upi mi 0 (Int32.ofInt 0)) ml)), (126, .inr (.inl (0, 7, r))), (144, .inr (.inr (.inl (32, f)))), (145, .inr (.inr (.inl (32, n)))), (146, .inr (.inr (.inl (32, kp)))), (147, .inr (.inl (0, 3, ro))), (148, .inr (.inl (0, 3, br)))]) rfl rfl rfl rfl rfl rfl rfl rfl ?_
  refine ex_aload_n cg_238 (ix := 3) (pc' := 6) rfl rfl rfl ?_
  refine ex_iload_n cg_238 (ix := 4) (pc' := 7) rfl rfl rfl ?_
  refine ex_iload_n cg_238 (ix := 5) (pc' := 8) rfl rfl rfl ?_
  refine ex_callV cg_238 (ix := 6) (pc' := 11) (As := [.inl (.int m), .inl (.int q)]) (r := []) rfl rfl rfl (ct_wl (mi := (upi mi 0 (Int32.ofInt 0))) (ml := ml) (m := m) (q := q) (f := f) hm0 hm1) (by first | decide | omega) rfl rfl rfl ⟨rfl, rfl, trivial⟩ rfl rfl (fun v h2 hq => ?_)
  obtain ⟨zw, rfl, rfl, hzw⟩ := hq
  rcases hzw with ⟨w1, rfl⟩ | ⟨w1, w2, rfl⟩ | ⟨w1, w2, rfl⟩ | ⟨w1, w2, w3, rfl⟩ | ⟨w1, w2, w3, rfl⟩
  · show cx_T _ 238 _ 11 ([some (.inr (.inl 119)), some (.inl (.int m)), some (.inl (.int q)), none, none, none, none, none], [.inl (.int (Int32.ofInt (-4)))], [(119, .inl (11, vs_119 (upi mi 0 (Int32.ofInt 0)) ml)), (126, .inr (.inl (0, 7, r))), (144, .inr (.inr (.inl (32, f)))), (145, .inr (.inr (.inl (32, n)))), (146, .inr (.inr (.inl (32, kp)))), (147, .inr (.inl (0, 3, ro))), (148, .inr (.inl (0, 3, br)))]) _
    refine ex_istore_n cg_238 (ix := 7) (pc' := 12) (L' := [some (.inr (.inl 119)), some (.inl (.int m)), some (.inl (.int q)), some (.inl (.int (Int32.ofInt (-4)))), none, none, none, none]) rfl rfl rfl rfl ?_
    refine ex_iload_n cg_238 (ix := 8) (pc' := 13) rfl rfl rfl ?_
    refine ex_if cg_238 (ix := 9) (t := 22) (pc' := 16) rfl rfl rfl (fun hb13 => ?_) (fun hb13 => ?_)
    · have hb13 : 0 ≤ (Int32.ofInt (-4)).toInt := hb13
      exfalso; first | omega | exact absurd hb13 (by decide +kernel)
    · have hb13 : ¬ (0 ≤ (Int32.ofInt (-4)).toInt) := hb13
      refine ex_aload_n cg_238 (ix := 10) (pc' := 17) rfl rfl rfl ?_
      refine ex_iload_n cg_238 (ix := 11) (pc' := 18) rfl rfl rfl ?_
      refine ex_callV cg_238 (ix := 12) (pc' := 21) (As := [.inl (.int (Int32.ofInt (-4)))]) (r := []) rfl rfl rfl (ct_mref (mi := (upi mi 0 (Int32.ofInt 0))) (ml := ml) (x := Int32.ofInt (-4)) (r := r) (by decide +kernel) (by decide +kernel)) (by first | decide | omega) rfl rfl rfl ⟨rfl, rfl, trivial⟩ rfl rfl (fun v h2 hq => ?_)
      obtain ⟨rfl, r2, rfl⟩ := hq
      show cx_T _ 238 _ 21 ([some (.inr (.inl 119)), some (.inl (.int m)), some (.inl (.int q)), some (.inl (.int (Int32.ofInt (-4)))), none, none, none, none], [.inl (.int (Int32.ofInt (-4)))], [(119, .inl (11, vs_119 (upi mi 0 (Int32.ofInt 0)) ml)), (126, .inr (.inl (0, 7, r2))), (144, .inr (.inr (.inl (32, f)))), (145, .inr (.inr (.inl (32, n)))), (146, .inr (.inr (.inl (32, kp)))), (147, .inr (.inl (0, 3, ro))), (148, .inr (.inl (0, 3, br)))]) _
      refine ex_ireturn cg_238 (ix := 13) rfl ?_
      first | exact ⟨_, r2, ro, br, f, n, kp, ml 49, ml 50, rfl, rfl, fun x hx => rfl, Or.inl (Or.inl ⟨w1, rfl⟩)⟩ | exact ⟨_, r2, ro, br, f, n, kp, ml 49, ml 50, rfl, rfl, fun x hx => rfl, Or.inl (Or.inr (Or.inl ⟨w1, w2, rfl⟩))⟩ | exact ⟨_, r2, ro, br, f, n, kp, ml 49, ml 50, rfl, rfl, fun x hx => rfl, Or.inl (Or.inr (Or.inr (Or.inl ⟨w1, w2, rfl⟩)))⟩ | exact ⟨_, r2, ro, br, f, n, kp, ml 49, ml 50, rfl, rfl, fun x hx => rfl, Or.inl (Or.inr (Or.inr (Or.inr ⟨w1, w2, w3, rfl⟩)))⟩
  · show cx_T _ 238 _ 11 ([some (.inr (.inl 119)), some (.inl (.int m)), some (.inl (.int q)), none, none, none, none, none], [.inl (.int (Int32.ofInt (-6)))], [(119, .inl (11, vs_119 (upi mi 0 (Int32.ofInt 0)) ml)), (126, .inr (.inl (0, 7, r))), (144, .inr (.inr (.inl (32, f)))), (145, .inr (.inr (.inl (32, n)))), (146, .inr (.inr (.inl (32, kp)))), (147, .inr (.inl (0, 3, ro))), (148, .inr (.inl (0, 3, br)))]) _
    refine ex_istore_n cg_238 (ix := 7) (pc' := 12) (L' := [some (.inr (.inl 119)), some (.inl (.int m)), some (.inl (.int q)), some (.inl (.int (Int32.ofInt (-6)))), none, none, none, none]) rfl rfl rfl rfl ?_
    refine ex_iload_n cg_238 (ix := 8) (pc' := 13) rfl rfl rfl ?_
    refine ex_if cg_238 (ix := 9) (t := 22) (pc' := 16) rfl rfl rfl (fun hb13 => ?_) (fun hb13 => ?_)
    · have hb13 : 0 ≤ (Int32.ofInt (-6)).toInt := hb13
      exfalso; first | omega | exact absurd hb13 (by decide +kernel)
    · have hb13 : ¬ (0 ≤ (Int32.ofInt (-6)).toInt) := hb13
      refine ex_aload_n cg_238 (ix := 10) (pc' := 17) rfl rfl rfl ?_
      refine ex_iload_n cg_238 (ix := 11) (pc' := 18) rfl rfl rfl ?_
      refine ex_callV cg_238 (ix := 12) (pc' := 21) (As := [.inl (.int (Int32.ofInt (-6)))]) (r := []) rfl rfl rfl (ct_mref (mi := (upi mi 0 (Int32.ofInt 0))) (ml := ml) (x := Int32.ofInt (-6)) (r := r) (by decide +kernel) (by decide +kernel)) (by first | decide | omega) rfl rfl rfl ⟨rfl, rfl, trivial⟩ rfl rfl (fun v h2 hq => ?_)
      obtain ⟨rfl, r2, rfl⟩ := hq
      show cx_T _ 238 _ 21 ([some (.inr (.inl 119)), some (.inl (.int m)), some (.inl (.int q)), some (.inl (.int (Int32.ofInt (-6)))), none, none, none, none], [.inl (.int (Int32.ofInt (-6)))], [(119, .inl (11, vs_119 (upi mi 0 (Int32.ofInt 0)) ml)), (126, .inr (.inl (0, 7, r2))), (144, .inr (.inr (.inl (32, f)))), (145, .inr (.inr (.inl (32, n)))), (146, .inr (.inr (.inl (32, kp)))), (147, .inr (.inl (0, 3, ro))), (148, .inr (.inl (0, 3, br)))]) _
      refine ex_ireturn cg_238 (ix := 13) rfl ?_
      first | exact ⟨_, r2, ro, br, f, n, kp, ml 49, ml 50, rfl, rfl, fun x hx => rfl, Or.inl (Or.inl ⟨w1, rfl⟩)⟩ | exact ⟨_, r2, ro, br, f, n, kp, ml 49, ml 50, rfl, rfl, fun x hx => rfl, Or.inl (Or.inr (Or.inl ⟨w1, w2, rfl⟩))⟩ | exact ⟨_, r2, ro, br, f, n, kp, ml 49, ml 50, rfl, rfl, fun x hx => rfl, Or.inl (Or.inr (Or.inr (Or.inl ⟨w1, w2, rfl⟩)))⟩ | exact ⟨_, r2, ro, br, f, n, kp, ml 49, ml 50, rfl, rfl, fun x hx => rfl, Or.inl (Or.inr (Or.inr (Or.inr ⟨w1, w2, w3, rfl⟩)))⟩
  · show cx_T _ 238 _ 11 ([some (.inr (.inl 119)), some (.inl (.int m)), some (.inl (.int q)), none, none, none, none, none], [.inl (.int (Int32.ofInt (-5)))], [(119, .inl (11, vs_119 (upi mi 0 (Int32.ofInt 0)) ml)), (126, .inr (.inl (0, 7, r))), (144, .inr (.inr (.inl (32, f)))), (145, .inr (.inr (.inl (32, n)))), (146, .inr (.inr (.inl (32, kp)))), (147, .inr (.inl (0, 3, ro))), (148, .inr (.inl (0, 3, br)))]) _
    refine ex_istore_n cg_238 (ix := 7) (pc' := 12) (L' := [some (.inr (.inl 119)), some (.inl (.int m)), some (.inl (.int q)), some (.inl (.int (Int32.ofInt (-5)))), none, none, none, none]) rfl rfl rfl rfl ?_
    refine ex_iload_n cg_238 (ix := 8) (pc' := 13) rfl rfl rfl ?_
    refine ex_if cg_238 (ix := 9) (t := 22) (pc' := 16) rfl rfl rfl (fun hb13 => ?_) (fun hb13 => ?_)
    · have hb13 : 0 ≤ (Int32.ofInt (-5)).toInt := hb13
      exfalso; first | omega | exact absurd hb13 (by decide +kernel)
    · have hb13 : ¬ (0 ≤ (Int32.ofInt (-5)).toInt) := hb13
      refine ex_aload_n cg_238 (ix := 10) (pc' := 17) rfl rfl rfl ?_
      refine ex_iload_n cg_238 (ix := 11) (pc' := 18) rfl rfl rfl ?_
      refine ex_callV cg_238 (ix := 12) (pc' := 21) (As := [.inl (.int (Int32.ofInt (-5)))]) (r := []) rfl rfl rfl (ct_mref (mi := (upi mi 0 (Int32.ofInt 0))) (ml := ml) (x := Int32.ofInt (-5)) (r := r) (by decide +kernel) (by decide +kernel)) (by first | decide | omega) rfl rfl rfl ⟨rfl, rfl, trivial⟩ rfl rfl (fun v h2 hq => ?_)
      obtain ⟨rfl, r2, rfl⟩ := hq
      show cx_T _ 238 _ 21 ([some (.inr (.inl 119)), some (.inl (.int m)), some (.inl (.int q)), some (.inl (.int (Int32.ofInt (-5)))), none, none, none, none], [.inl (.int (Int32.ofInt (-5)))], [(119, .inl (11, vs_119 (upi mi 0 (Int32.ofInt 0)) ml)), (126, .inr (.inl (0, 7, r2))), (144, .inr (.inr (.inl (32, f)))), (145, .inr (.inr (.inl (32, n)))), (146, .inr (.inr (.inl (32, kp)))), (147, .inr (.inl (0, 3, ro))), (148, .inr (.inl (0, 3, br)))]) _
      refine ex_ireturn cg_238 (ix := 13) rfl ?_
      first | exact ⟨_, r2, ro, br, f, n, kp, ml 49, ml 50, rfl, rfl, fun x hx => rfl, Or.inl (Or.inl ⟨w1, rfl⟩)⟩ | exact ⟨_, r2, ro, br, f, n, kp, ml 49, ml 50, rfl, rfl, fun x hx => rfl, Or.inl (Or.inr (Or.inl ⟨w1, w2, rfl⟩))⟩ | exact ⟨_, r2, ro, br, f, n, kp, ml 49, ml 50, rfl, rfl, fun x hx => rfl, Or.inl (Or.inr (Or.inr (Or.inl ⟨w1, w2, rfl⟩)))⟩ | exact ⟨_, r2, ro, br, f, n, kp, ml 49, ml 50, rfl, rfl, fun x hx => rfl, Or.inl (Or.inr (Or.inr (Or.inr ⟨w1, w2, w3, rfl⟩)))⟩
  · show cx_T _ 238 _ 11 ([some (.inr (.inl 119)), some (.inl (.int m)), some (.inl (.int q)), none, none, none, none, none], [.inl (.int (Int32.ofInt (-6)))], [(119, .inl (11, vs_119 (upi mi 0 (Int32.ofInt 0)) ml)), (126, .inr (.inl (0, 7, r))), (144, .inr (.inr (.inl (32, f)))), (145, .inr (.inr (.inl (32, n)))), (146, .inr (.inr (.inl (32, kp)))), (147, .inr (.inl (0, 3, ro))), (148, .inr (.inl (0, 3, br)))]) _
    refine ex_istore_n cg_238 (ix := 7) (pc' := 12) (L' := [some (.inr (.inl 119)), some (.inl (.int m)), some (.inl (.int q)), some (.inl (.int (Int32.ofInt (-6)))), none, none, none, none]) rfl rfl rfl rfl ?_
    refine ex_iload_n cg_238 (ix := 8) (pc' := 13) rfl rfl rfl ?_
    refine ex_if cg_238 (ix := 9) (t := 22) (pc' := 16) rfl rfl rfl (fun hb13 => ?_) (fun hb13 => ?_)
    · have hb13 : 0 ≤ (Int32.ofInt (-6)).toInt := hb13
      exfalso; first | omega | exact absurd hb13 (by decide +kernel)
    · have hb13 : ¬ (0 ≤ (Int32.ofInt (-6)).toInt) := hb13
      refine ex_aload_n cg_238 (ix := 10) (pc' := 17) rfl rfl rfl ?_
      refine ex_iload_n cg_238 (ix := 11) (pc' := 18) rfl rfl rfl ?_
      refine ex_callV cg_238 (ix := 12) (pc' := 21) (As := [.inl (.int (Int32.ofInt (-6)))]) (r := []) rfl rfl rfl (ct_mref (mi := (upi mi 0 (Int32.ofInt 0))) (ml := ml) (x := Int32.ofInt (-6)) (r := r) (by decide +kernel) (by decide +kernel)) (by first | decide | omega) rfl rfl rfl ⟨rfl, rfl, trivial⟩ rfl rfl (fun v h2 hq => ?_)
      obtain ⟨rfl, r2, rfl⟩ := hq
      show cx_T _ 238 _ 21 ([some (.inr (.inl 119)), some (.inl (.int m)), some (.inl (.int q)), some (.inl (.int (Int32.ofInt (-6)))), none, none, none, none], [.inl (.int (Int32.ofInt (-6)))], [(119, .inl (11, vs_119 (upi mi 0 (Int32.ofInt 0)) ml)), (126, .inr (.inl (0, 7, r2))), (144, .inr (.inr (.inl (32, f)))), (145, .inr (.inr (.inl (32, n)))), (146, .inr (.inr (.inl (32, kp)))), (147, .inr (.inl (0, 3, ro))), (148, .inr (.inl (0, 3, br)))]) _
      refine ex_ireturn cg_238 (ix := 13) rfl ?_
      first | exact ⟨_, r2, ro, br, f, n, kp, ml 49, ml 50, rfl, rfl, fun x hx => rfl, Or.inl (Or.inl ⟨w1, rfl⟩)⟩ | exact ⟨_, r2, ro, br, f, n, kp, ml 49, ml 50, rfl, rfl, fun x hx => rfl, Or.inl (Or.inr (Or.inl ⟨w1, w2, rfl⟩))⟩ | exact ⟨_, r2, ro, br, f, n, kp, ml 49, ml 50, rfl, rfl, fun x hx => rfl, Or.inl (Or.inr (Or.inr (Or.inl ⟨w1, w2, rfl⟩)))⟩ | exact ⟨_, r2, ro, br, f, n, kp, ml 49, ml 50, rfl, rfl, fun x hx => rfl, Or.inl (Or.inr (Or.inr (Or.inr ⟨w1, w2, w3, rfl⟩)))⟩
  · show cx_T _ 238 _ 11 ([some (.inr (.inl 119)), some (.inl (.int m)), some (.inl (.int q)), none, none, none, none, none], [.inl (.int (Int32.ofInt 0))], [(119, .inl (11, vs_119 (upi mi 0 (Int32.ofInt 0)) ml)), (126, .inr (.inl (0, 7, r))), (144, .inr (.inr (.inl (32, f)))), (145, .inr (.inr (.inl (32, n)))), (146, .inr (.inr (.inl (32, kp)))), (147, .inr (.inl (0, 3, ro))), (148, .inr (.inl (0, 3, br)))]) _
    refine ex_istore_n cg_238 (ix := 7) (pc' := 12) (L' := [some (.inr (.inl 119)), some (.inl (.int m)), some (.inl (.int q)), some (.inl (.int (Int32.ofInt 0))), none, none, none, none]) rfl rfl rfl rfl ?_
    refine ex_iload_n cg_238 (ix := 8) (pc' := 13) rfl rfl rfl ?_
    refine ex_if cg_238 (ix := 9) (t := 22) (pc' := 16) rfl rfl rfl (fun hb13 => ?_) (fun hb13 => ?_)
    · have hb13 : 0 ≤ (Int32.ofInt 0).toInt := hb13
      refine ex_aload_n cg_238 (ix := 14) (pc' := 23) rfl rfl rfl ?_
      refine ex_iload_n cg_238 (ix := 15) (pc' := 24) rfl rfl rfl ?_
      refine ex_iload_n cg_238 (ix := 16) (pc' := 25) rfl rfl rfl ?_
      refine ex_callV cg_238 (ix := 17) (pc' := 28) (As := [.inl (.int m), .inl (.int q)]) (r := []) rfl rfl rfl (ct_fl (mi := (upi mi 0 (Int32.ofInt 0))) (ml := ml) (m := m) (q := q) (mm := mm) (bN := bN) (ro := ro) (br := br) (f := f) (n := n) (kp := kp) (by omega) (by omega) (by omega) hb hb32) (by first | decide | omega) rfl rfl rfl ⟨rfl, rfl, rfl, rfl, rfl, rfl, trivial⟩ rfl rfl (fun v h2 hq => ?_)
      obtain ⟨f2, n2, kp2, rw2, br2, rfl, rfl, hf2, hok⟩ := hq
      show cx_T _ 238 _ 28 ([some (.inr (.inl 119)), some (.inl (.int m)), some (.inl (.int q)), some (.inl (.int (Int32.ofInt 0))), none, none, none, none], [], [(119, .inl (11, vs_119 (upi mi 0 (Int32.ofInt 0)) (upl (upl ml 49 ((acF (upi mi 0 (Int32.ofInt 0)) q mm bN f).1)) 50 (wS f mm)))), (126, .inr (.inl (0, 7, r))), (144, .inr (.inr (.inl (32, f2)))), (145, .inr (.inr (.inl (32, n2)))), (146, .inr (.inr (.inl (32, kp2)))), (147, .inr (.inl (0, 3, rw2))), (148, .inr (.inl (0, 3, br2)))]) _
      refine ex_aload_n cg_238 (ix := 18) (pc' := 29) rfl rfl rfl ?_
      refine ex_getfield cg_238 (ix := 19) (pc' := 32) (v := .inl (.long (wS f mm))) rfl rfl rfl rfl rfl ?_
      refine ex_aload_n cg_238 (ix := 20) (pc' := 33) rfl rfl rfl ?_
      refine ex_getfield cg_238 (ix := 21) (pc' := 36) (v := .inl (.long ((acF (upi mi 0 (Int32.ofInt 0)) q mm bN f).1))) rfl rfl rfl rfl rfl ?_
      refine ex_lsub cg_238 (ix := 22) (pc' := 37) rfl rfl ?_
      refine ex_lstore cg_238 (ix := 23) (pc' := 39) (L' := [some (.inr (.inl 119)), some (.inl (.int m)), some (.inl (.int q)), some (.inl (.int (Int32.ofInt 0))), some (.inl (.long ((wS f mm) - ((acF (upi mi 0 (Int32.ofInt 0)) q mm bN f).1)))), none, none, none]) rfl rfl rfl rfl ?_
      refine ex_lload cg_238 (ix := 24) (pc' := 41) rfl rfl rfl ?_
      refine ex_aload_n cg_238 (ix := 25) (pc' := 42) rfl rfl rfl ?_
      refine ex_getfield cg_238 (ix := 26) (pc' := 45) (v := .inl (.long (wS f mm))) rfl rfl rfl rfl rfl ?_
      refine ex_lcmp cg_238 (ix := 27) (pc' := 46) rfl rfl ?_
      have hlc45 := cx_cmp ((wS f mm) - ((acF (upi mi 0 (Int32.ofInt 0)) q mm bN f).1)) (wS f mm)
      refine ex_if cg_238 (ix := 28) (t := 53) (pc' := 49) rfl rfl rfl (fun hb46 => ?_) (fun hb46 => ?_)
      · have hb46 : ¬ (lg_cmp ((wS f mm) - ((acF (upi mi 0 (Int32.ofInt 0)) q mm bN f).1)) (wS f mm)).toInt = 0 := hb46
        refine ex_iconst cg_238 (ix := 31) (pc' := 54) rfl rfl ?_
        refine ex_istore cg_238 (ix := 32) (pc' := 56) (L' := [some (.inr (.inl 119)), some (.inl (.int m)), some (.inl (.int q)), some (.inl (.int (Int32.ofInt 0))), some (.inl (.long ((wS f mm) - ((acF (upi mi 0 (Int32.ofInt 0)) q mm bN f).1)))), none, some (.inl (.int (Int32.ofInt 0))), none]) rfl rfl rfl rfl ?_
        refine ex_lload cg_238 (ix := 33) (pc' := 58) rfl rfl rfl ?_
        refine ex_aload_n cg_238 (ix := 34) (pc' := 59) rfl rfl rfl ?_
        refine ex_getfield cg_238 (ix := 35) (pc' := 62) (v := .inl (.long (wS f mm))) rfl rfl rfl rfl rfl ?_
        refine ex_lcmp cg_238 (ix := 36) (pc' := 63) rfl rfl ?_
        have hlc62 := cx_cmp ((wS f mm) - ((acF (upi mi 0 (Int32.ofInt 0)) q mm bN f).1)) (wS f mm)
        refine ex_if cg_238 (ix := 37) (t := 70) (pc' := 66) rfl rfl rfl (fun hb63 => ?_) (fun hb63 => ?_)
        · have hb63 : ¬ (lg_cmp ((wS f mm) - ((acF (upi mi 0 (Int32.ofInt 0)) q mm bN f).1)) (wS f mm)).toInt = 0 := hb63
          refine ex_lload cg_238 (ix := 40) (pc' := 72) rfl rfl rfl ?_
          refine ex_lstore cg_238 (ix := 41) (pc' := 74) (L' := [some (.inr (.inl 119)), some (.inl (.int m)), some (.inl (.int q)), some (.inl (.int (Int32.ofInt 0))), some (.inl (.long ((wS f mm) - ((acF (upi mi 0 (Int32.ofInt 0)) q mm bN f).1)))), none, some (.inl (.int (Int32.ofInt 0))), none]) rfl rfl rfl rfl ?_
          refine ex_iconst cg_238 (ix := 42) (pc' := 75) rfl rfl ?_
          refine ex_istore cg_238 (ix := 43) (pc' := 77) (L' := [some (.inr (.inl 119)), some (.inl (.int m)), some (.inl (.int q)), some (.inl (.int (Int32.ofInt 0))), some (.inl (.long ((wS f mm) - ((acF (upi mi 0 (Int32.ofInt 0)) q mm bN f).1)))), none, some (.inl (.int (Int32.ofInt 0))), some (.inl (.int (Int32.ofInt 0)))]) rfl rfl rfl rfl ?_
          refine ch_l (d := 6) (mi := upi mi 0 (Int32.ofInt 0)) (ml := ml) (bl := (acF (upi mi 0 (Int32.ofInt 0)) q mm bN f).1) (wt := wS f mm) (s0 := (wS f mm - (acF (upi mi 0 (Int32.ofInt 0)) q mm bN f).1, Int32.ofInt 0)) (hw0 ⟨w1, w2, w3⟩) ?_ 6 0 rfl (Int32.ofInt 0) (by decide +kernel)
          exact ⟨_, r, rw2, br2, f2, n2, kp2, _, _, rfl, rfl, hf2, Or.inr ⟨⟨w1, w2, w3⟩, Or.inr ⟨(fun q2 => by rcases hlc45 with q3 | q3 | q3 <;> first | omega | (have q5 : wS f mm - (acF (upi mi 0 (Int32.ofInt 0)) q mm bN f).1 = wS f mm := q2; rw [q5] at q3; omega)), rfl⟩⟩⟩
        · have hb63 : ¬ (¬ (lg_cmp ((wS f mm) - ((acF (upi mi 0 (Int32.ofInt 0)) q mm bN f).1)) (wS f mm)).toInt = 0) := hb63
          exfalso; first | omega | exact absurd hb63 (by decide +kernel)
      · have hb46 : ¬ (¬ (lg_cmp ((wS f mm) - ((acF (upi mi 0 (Int32.ofInt 0)) q mm bN f).1)) (wS f mm)).toInt = 0) := hb46
        refine ex_iconst cg_238 (ix := 29) (pc' := 50) rfl rfl ?_
        refine ex_goto cg_238 (ix := 30) (pc' := 54) rfl rfl ?_
        refine ex_istore cg_238 (ix := 32) (pc' := 56) (L' := [some (.inr (.inl 119)), some (.inl (.int m)), some (.inl (.int q)), some (.inl (.int (Int32.ofInt 0))), some (.inl (.long ((wS f mm) - ((acF (upi mi 0 (Int32.ofInt 0)) q mm bN f).1)))), none, some (.inl (.int (Int32.ofInt 1))), none]) rfl rfl rfl rfl ?_
        refine ex_lload cg_238 (ix := 33) (pc' := 58) rfl rfl rfl ?_
        refine ex_aload_n cg_238 (ix := 34) (pc' := 59) rfl rfl rfl ?_
        refine ex_getfield cg_238 (ix := 35) (pc' := 62) (v := .inl (.long (wS f mm))) rfl rfl rfl rfl rfl ?_
        refine ex_lcmp cg_238 (ix := 36) (pc' := 63) rfl rfl ?_
        have hlc62 := cx_cmp ((wS f mm) - ((acF (upi mi 0 (Int32.ofInt 0)) q mm bN f).1)) (wS f mm)
        refine ex_if cg_238 (ix := 37) (t := 70) (pc' := 66) rfl rfl rfl (fun hb63 => ?_) (fun hb63 => ?_)
        · have hb63 : ¬ (lg_cmp ((wS f mm) - ((acF (upi mi 0 (Int32.ofInt 0)) q mm bN f).1)) (wS f mm)).toInt = 0 := hb63
          exfalso; first | omega | exact absurd hb63 (by decide +kernel)
        · have hb63 : ¬ (¬ (lg_cmp ((wS f mm) - ((acF (upi mi 0 (Int32.ofInt 0)) q mm bN f).1)) (wS f mm)).toInt = 0) := hb63
          refine ex_lconst cg_238 (ix := 38) (pc' := 67) rfl rfl ?_
          refine ex_goto cg_238 (ix := 39) (pc' := 72) rfl rfl ?_
          refine ex_lstore cg_238 (ix := 41) (pc' := 74) (L' := [some (.inr (.inl 119)), some (.inl (.int m)), some (.inl (.int q)), some (.inl (.int (Int32.ofInt 0))), some (.inl (.long (Int64.ofNat 0))), none, some (.inl (.int (Int32.ofInt 1))), none]) rfl rfl rfl rfl ?_
          refine ex_iconst cg_238 (ix := 42) (pc' := 75) rfl rfl ?_
          refine ex_istore cg_238 (ix := 43) (pc' := 77) (L' := [some (.inr (.inl 119)), some (.inl (.int m)), some (.inl (.int q)), some (.inl (.int (Int32.ofInt 0))), some (.inl (.long (Int64.ofNat 0))), none, some (.inl (.int (Int32.ofInt 1))), some (.inl (.int (Int32.ofInt 0)))]) rfl rfl rfl rfl ?_
          refine ch_l (d := 6) (mi := upi mi 0 (Int32.ofInt 0)) (ml := ml) (bl := (acF (upi mi 0 (Int32.ofInt 0)) q mm bN f).1) (wt := wS f mm) (s0 := (Int64.ofNat 0, Int32.ofInt 1)) (hw0 ⟨w1, w2, w3⟩) ?_ 6 0 rfl (Int32.ofInt 0) (by decide +kernel)
          exact ⟨_, r, rw2, br2, f2, n2, kp2, _, _, rfl, rfl, hf2, Or.inr ⟨⟨w1, w2, w3⟩, Or.inl ⟨(by rcases hlc45 with q2 | q2 | q2 <;> first | omega | exact q2.2.1), rfl⟩⟩⟩
    · have hb13 : ¬ (0 ≤ (Int32.ofInt 0).toInt) := hb13
      exfalso; first | omega | exact absurd hb13 (by decide +kernel)
end
