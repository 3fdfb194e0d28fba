noncomputable section
theorem cg_86 : cx_G 86 tb_86 TbX7 (some .int) := cx_G.of gok_86
theorem cg_85 : cx_G 85 tb_85 TbX7 (some .int) := cx_G.of gok_85
theorem cg_84 : cx_G 84 tb_84 TbX7 (some .int) := cx_G.of gok_84
theorem cg_83 : cx_G 83 tb_83 TbX7 (some .boolean) := cx_G.of gok_83
theorem cg_101 : cx_G 101 tb_101 TbX8 (some .int) := cx_G.of gok_101
/-- the lowest tide that makes a rip at a cell -/
def rtP (f : Nat → Int32) (c : Nat) : Prop := (c = 0 ∨ 2 ≤ (f (c - 1)).toInt - (f c).toInt) ∧ (c = 23 ∨ 2 ≤ (f (c + 1)).toInt - (f c).toInt)
def rt (f : Nat → Int32) (c : Nat) : Int := if (c = 0 ∨ 2 ≤ (f (c - 1)).toInt - (f c).toInt) ∧ (c = 23 ∨ 2 ≤ (f (c + 1)).toInt - (f c).toInt) then (f c).toInt + 2 else 10
def bkU (f : Nat → Int32) : Prop := ∀ i : Nat, i < 24 → -9 ≤ (f i).toInt ∧ (f i).toInt ≤ 9
theorem rt_b {f : Nat → Int32} (hf : bkU f) {c : Nat} (hc : c < 24) : -7 ≤ rt f c ∧ rt f c ≤ 11 := by
  have := hf c hc
  unfold rt
  split <;> omega
theorem bk_d {f : Nat → Int32} (hf : bkU f) {a b : Nat} (ha : a < 24) (hb : b < 24) : (f a - f b).toInt = (f a).toInt - (f b).toInt := by
  have h1 := hf a ha
  have h2 := hf b hb
  exact cx_subc (by omega) (by omega)
def h_sh (F : Nat → Nat → Int32) : cx_H := [(15, .inl (7, [.inr (.inl 2), .inr (.inl 16)])), (16, .inr (.inr (.inr (3, [17, 18, 19, 20])))), (17, .inr (.inl (0, 24, F 0))), (18, .inr (.inl (0, 24, F 1))), (19, .inr (.inl (0, 24, F 2))), (20, .inr (.inl (0, 24, F 3)))]
theorem ct_rt {b c : Int32} {cN k1 : Nat} {f : Nat → Int32} {F : Nat → Nat → Int32} (hb0 : 0 ≤ b.toInt) (hk1 : [17, 18, 19, 20][b.toNatClampNeg]? = some k1) (hk2 : cx_hg (h_sh F) k1 = some (.inr (.inl (0, 24, f)))) (hf : bkU f) (hc : c.toInt = (cN : Int)) (hcN : cN < 24) : cx_Ct 2 86 [.inr (.inl 15), .inl (.int b), .inl (.int c)] (h_sh F) (fun v h2 => ∃ z : Int32, v = some (.inl (.int z)) ∧ h2 = h_sh F ∧ z.toInt = rt f cN) := by
  have kc0 : (Int32.ofInt 0).toInt = 0 := by decide +kernel
  have kc1 : (Int32.ofInt 1).toInt = 1 := by decide +kernel
  have kc2 : (Int32.ofInt 2).toInt = 2 := by decide +kernel
  have kc10 : (Int32.ofInt 10).toInt = 10 := by decide +kernel
  have kc23 : (Int32.ofInt 23).toInt = 23 := by decide +kernel
  have hck : c.toNatClampNeg = cN := cx_clamp hc
  have hfc := hf cN hcN
  refine cx_Ct.of cg_86 (nL := 6) rfl rfl rfl ?_
  show cx_T 2 86 [15, 16, 17, 18, 19, 20] 0 ([some (.inr (.inl 15)), some (.inl (.int b)), some (.inl (.int c)), none, none, none], [], h_sh F) _
  refine ex_aload_n cg_86 (ix := 0) (pc' := 1) rfl rfl rfl ?_
  refine ex_getfield cg_86 (ix := 1) (pc' := 4) rfl rfl rfl rfl rfl ?_
  refine ex_iload_n cg_86 (ix := 2) (pc' := 5) rfl rfl rfl ?_
  refine ex_aaload cg_86 (ix := 3) (pc' := 6) (k1 := k1) rfl rfl (by omega) hk1 rfl ?_
  refine ex_astore_n cg_86 (ix := 4) (pc' := 7) (L' := [some (.inr (.inl 15)), some (.inl (.int b)), some (.inl (.int c)), some (.inr (.inl k1)), none, none]) rfl rfl rfl rfl ?_
  refine ex_iload_n cg_86 (ix := 5) (pc' := 8) rfl rfl rfl ?_
  refine ex_if cg_86 (ix := 6) (t := 24) (pc' := 11) rfl rfl rfl (fun hb8 => ?_) (fun hb8 => ?_)
  · have hb8 : c.toInt = 0 := hb8
    refine ex_iconst cg_86 (ix := 18) (pc' := 25) rfl rfl ?_
    refine ex_goto cg_86 (ix := 19) (pc' := 29) rfl rfl ?_
    refine ex_istore cg_86 (ix := 21) (pc' := 31) (L' := [some (.inr (.inl 15)), some (.inl (.int b)), some (.inl (.int c)), some (.inr (.inl k1)), some (.inl (.int (Int32.ofInt 1))), none]) rfl rfl rfl rfl ?_
    refine ex_iload_n cg_86 (ix := 22) (pc' := 32) rfl rfl rfl ?_
    refine ex_bipush cg_86 (ix := 23) (pc' := 34) rfl rfl rfl ?_
    refine ex_icmp cg_86 (ix := 24) (t := 50) (pc' := 37) rfl rfl rfl (fun hb34 => ?_) (fun hb34 => ?_)
    · have hb34 : c.toInt = (Int32.ofInt 23).toInt := hb34
      refine ex_iconst cg_86 (ix := 36) (pc' := 51) rfl rfl ?_
      refine ex_goto cg_86 (ix := 37) (pc' := 55) rfl rfl ?_
      refine ex_istore cg_86 (ix := 39) (pc' := 57) (L' := [some (.inr (.inl 15)), some (.inl (.int b)), some (.inl (.int c)), some (.inr (.inl k1)), some (.inl (.int (Int32.ofInt 1))), some (.inl (.int (Int32.ofInt 1)))]) rfl rfl rfl rfl ?_
      refine ex_iload cg_86 (ix := 40) (pc' := 59) rfl rfl rfl ?_
      refine ex_if cg_86 (ix := 41) (t := 75) (pc' := 62) rfl rfl rfl (fun hb59 => ?_) (fun hb59 => ?_)
      · have hb59 : (Int32.ofInt 1).toInt = 0 := hb59
        exfalso; first | omega | exact absurd hb59 (by decide +kernel)
      · have hb59 : ¬ ((Int32.ofInt 1).toInt = 0) := hb59
        refine ex_iload cg_86 (ix := 42) (pc' := 64) rfl rfl rfl ?_
        refine ex_if cg_86 (ix := 43) (t := 75) (pc' := 67) rfl rfl rfl (fun hb64 => ?_) (fun hb64 => ?_)
        · have hb64 : (Int32.ofInt 1).toInt = 0 := hb64
          exfalso; first | omega | exact absurd hb64 (by decide +kernel)
        · have hb64 : ¬ ((Int32.ofInt 1).toInt = 0) := hb64
          refine ex_aload_n cg_86 (ix := 44) (pc' := 68) rfl rfl rfl ?_
          refine ex_iload_n cg_86 (ix := 45) (pc' := 69) rfl rfl rfl ?_
          refine ex_iaload cg_86 (ix := 46) (pc' := 70) rfl hk2 (by omega) (by omega) rfl ?_
          refine ex_iconst cg_86 (ix := 47) (pc' := 71) rfl rfl ?_
          refine ex_iadd cg_86 (ix := 48) (pc' := 72) rfl rfl ?_
          refine ex_goto cg_86 (ix := 49) (pc' := 77) rfl rfl ?_
          refine ex_ireturn cg_86 (ix := 51) rfl ?_
          exact ⟨_, rfl, rfl, by unfold rt; rw [if_pos (by omega), hck, cx_addc (by omega) (by omega)]; omega⟩
    · have hb34 : ¬ (c.toInt = (Int32.ofInt 23).toInt) := hb34
      refine ex_aload_n cg_86 (ix := 25) (pc' := 38) rfl rfl rfl ?_
      refine ex_iload_n cg_86 (ix := 26) (pc' := 39) rfl rfl rfl ?_
      refine ex_iconst cg_86 (ix := 27) (pc' := 40) rfl rfl ?_
      refine ex_iadd cg_86 (ix := 28) (pc' := 41) rfl rfl ?_
      have a2 : (c + Int32.ofInt 1).toNatClampNeg = cN + 1 := cx_clamp (by rw [cx_addc (by omega) (by omega)]; omega)
      have a2i : (c + Int32.ofInt 1).toInt = (cN : Int) + 1 := by rw [cx_addc (by omega) (by omega)]; omega
      refine ex_iaload cg_86 (ix := 29) (pc' := 42) rfl hk2 (by omega) (by omega) rfl ?_
      refine ex_aload_n cg_86 (ix := 30) (pc' := 43) rfl rfl rfl ?_
      refine ex_iload_n cg_86 (ix := 31) (pc' := 44) rfl rfl rfl ?_
      refine ex_iaload cg_86 (ix := 32) (pc' := 45) rfl hk2 (by omega) (by omega) rfl ?_
      refine ex_isub cg_86 (ix := 33) (pc' := 46) rfl rfl ?_
      have d45 : (f (c + Int32.ofInt 1).toNatClampNeg - f c.toNatClampNeg).toInt = (f (cN + 1)).toInt - (f cN).toInt := by rw [a2, hck]; exact bk_d hf (by omega) hcN
      refine ex_iconst cg_86 (ix := 34) (pc' := 47) rfl rfl ?_
      refine ex_icmp cg_86 (ix := 35) (t := 54) (pc' := 50) rfl rfl rfl (fun hb47 => ?_) (fun hb47 => ?_)
      · have hb47 : ((f (c + (Int32.ofInt 1)).toNatClampNeg) - (f c.toNatClampNeg)).toInt < (Int32.ofInt 2).toInt := hb47
        refine ex_iconst cg_86 (ix := 38) (pc' := 55) rfl rfl ?_
        refine ex_istore cg_86 (ix := 39) (pc' := 57) (L' := [some (.inr (.inl 15)), some (.inl (.int b)), some (.inl (.int c)), some (.inr (.inl k1)), some (.inl (.int (Int32.ofInt 1))), some (.inl (.int (Int32.ofInt 0)))]) rfl rfl rfl rfl ?_
        refine ex_iload cg_86 (ix := 40) (pc' := 59) rfl rfl rfl ?_
        refine ex_if cg_86 (ix := 41) (t := 75) (pc' := 62) rfl rfl rfl (fun hb59 => ?_) (fun hb59 => ?_)
        · have hb59 : (Int32.ofInt 1).toInt = 0 := hb59
          exfalso; first | omega | exact absurd hb59 (by decide +kernel)
        · have hb59 : ¬ ((Int32.ofInt 1).toInt = 0) := hb59
          refine ex_iload cg_86 (ix := 42) (pc' := 64) rfl rfl rfl ?_
          refine ex_if cg_86 (ix := 43) (t := 75) (pc' := 67) rfl rfl rfl (fun hb64 => ?_) (fun hb64 => ?_)
          · have hb64 : (Int32.ofInt 0).toInt = 0 := hb64
            refine ex_bipush cg_86 (ix := 50) (pc' := 77) rfl rfl rfl ?_
            refine ex_ireturn cg_86 (ix := 51) rfl ?_
            exact ⟨_, rfl, rfl, by unfold rt; rw [if_neg (by omega)]; decide +kernel⟩
          · have hb64 : ¬ ((Int32.ofInt 0).toInt = 0) := hb64
            exfalso; first | omega | exact absurd hb64 (by decide +kernel)
      · have hb47 : ¬ (((f (c + (Int32.ofInt 1)).toNatClampNeg) - (f c.toNatClampNeg)).toInt < (Int32.ofInt 2).toInt) := hb47
        refine ex_iconst cg_86 (ix := 36) (pc' := 51) rfl rfl ?_
        refine ex_goto cg_86 (ix := 37) (pc' := 55) rfl rfl ?_
        refine ex_istore cg_86 (ix := 39) (pc' := 57) (L' := [some (.inr (.inl 15)), some (.inl (.int b)), some (.inl (.int c)), some (.inr (.inl k1)), some (.inl (.int (Int32.ofInt 1))), some (.inl (.int (Int32.ofInt 1)))]) rfl rfl rfl rfl ?_
        refine ex_iload cg_86 (ix := 40) (pc' := 59) rfl rfl rfl ?_
        refine ex_if cg_86 (ix := 41) (t := 75) (pc' := 62) rfl rfl rfl (fun hb59 => ?_) (fun hb59 => ?_)
        · have hb59 : (Int32.ofInt 1).toInt = 0 := hb59
          exfalso; first | omega | exact absurd hb59 (by decide +kernel)
        · have hb59 : ¬ ((Int32.ofInt 1).toInt = 0) := hb59
          refine ex_iload cg_86 (ix := 42) (pc' := 64) rfl rfl rfl ?_
          refine ex_if cg_86 (ix := 43) (t := 75) (pc' := 67) rfl rfl rfl (fun hb64 => ?_) (fun hb64 => ?_)
          · have hb64 : (Int32.ofInt 1).toInt = 0 := hb64
            exfalso; first | omega | exact absurd hb64 (by decide +kernel)
          · have hb64 : ¬ ((Int32.ofInt 1).toInt = 0) := hb64
            refine ex_aload_n cg_86 (ix := 44) (pc' := 68) rfl rfl rfl ?_
            refine ex_iload_n cg_86 (ix := 45) (pc' := 69) rfl rfl rfl ?_
            refine ex_iaload cg_86 (ix := 46) (pc' := 70) rfl hk2 (by omega) (by omega) rfl ?_
            refine ex_iconst cg_86 (ix := 47) (pc' := 71) rfl rfl ?_
            refine ex_iadd cg_86 (ix := 48) (pc' := 72) rfl rfl ?_
            refine ex_goto cg_86 (ix := 49) (pc' := 77) rfl rfl ?_
            refine ex_ireturn cg_86 (ix := 51) rfl ?_
            exact ⟨_, rfl, rfl, by unfold rt; rw [if_pos (by omega), hck, cx_addc (by omega) (by omega)]; omega⟩
  · have hb8 : ¬ (c.toInt = 0) := hb8
    refine ex_aload_n cg_86 (ix := 7) (pc' := 12) rfl rfl rfl ?_
    refine ex_iload_n cg_86 (ix := 8) (pc' := 13) rfl rfl rfl ?_
    refine ex_iconst cg_86 (ix := 9) (pc' := 14) rfl rfl ?_
    refine ex_isub cg_86 (ix := 10) (pc' := 15) rfl rfl ?_
    have a1 : (c - Int32.ofInt 1).toNatClampNeg = cN - 1 := cx_clamp (by rw [cx_subc (by omega) (by omega)]; omega)
    have a1i : (c - Int32.ofInt 1).toInt = (cN : Int) - 1 := by rw [cx_subc (by omega) (by omega)]; omega
    refine ex_iaload cg_86 (ix := 11) (pc' := 16) rfl hk2 (by omega) (by omega) rfl ?_
    refine ex_aload_n cg_86 (ix := 12) (pc' := 17) rfl rfl rfl ?_
    refine ex_iload_n cg_86 (ix := 13) (pc' := 18) rfl rfl rfl ?_
    refine ex_iaload cg_86 (ix := 14) (pc' := 19) rfl hk2 (by omega) (by omega) rfl ?_
    refine ex_isub cg_86 (ix := 15) (pc' := 20) rfl rfl ?_
    have d19 : (f (c - Int32.ofInt 1).toNatClampNeg - f c.toNatClampNeg).toInt = (f (cN - 1)).toInt - (f cN).toInt := by rw [a1, hck]; exact bk_d hf (by omega) hcN
    refine ex_iconst cg_86 (ix := 16) (pc' := 21) rfl rfl ?_
    refine ex_icmp cg_86 (ix := 17) (t := 28) (pc' := 24) rfl rfl rfl (fun hb21 => ?_) (fun hb21 => ?_)
    · have hb21 : ((f (c - (Int32.ofInt 1)).toNatClampNeg) - (f c.toNatClampNeg)).toInt < (Int32.ofInt 2).toInt := hb21
      refine ex_iconst cg_86 (ix := 20) (pc' := 29) rfl rfl ?_
      refine ex_istore cg_86 (ix := 21) (pc' := 31) (L' := [some (.inr (.inl 15)), some (.inl (.int b)), some (.inl (.int c)), some (.inr (.inl k1)), some (.inl (.int (Int32.ofInt 0))), none]) rfl rfl rfl rfl ?_
      refine ex_iload_n cg_86 (ix := 22) (pc' := 32) rfl rfl rfl ?_
      refine ex_bipush cg_86 (ix := 23) (pc' := 34) rfl rfl rfl ?_
      refine ex_icmp cg_86 (ix := 24) (t := 50) (pc' := 37) rfl rfl rfl (fun hb34 => ?_) (fun hb34 => ?_)
      · have hb34 : c.toInt = (Int32.ofInt 23).toInt := hb34
        refine ex_iconst cg_86 (ix := 36) (pc' := 51) rfl rfl ?_
        refine ex_goto cg_86 (ix := 37) (pc' := 55) rfl rfl ?_
        refine ex_istore cg_86 (ix := 39) (pc' := 57) (L' := [some (.inr (.inl 15)), some (.inl (.int b)), some (.inl (.int c)), some (.inr (.inl k1)), some (.inl (.int (Int32.ofInt 0))), some (.inl (.int (Int32.ofInt 1)))]) rfl rfl rfl rfl ?_
        refine ex_iload cg_86 (ix := 40) (pc' := 59) rfl rfl rfl ?_
        refine ex_if cg_86 (ix := 41) (t := 75) (pc' := 62) rfl rfl rfl (fun hb59 => ?_) (fun hb59 => ?_)
        · have hb59 : (Int32.ofInt 0).toInt = 0 := hb59
          refine ex_bipush cg_86 (ix := 50) (pc' := 77) rfl rfl rfl ?_
          refine ex_ireturn cg_86 (ix := 51) rfl ?_
          exact ⟨_, rfl, rfl, by unfold rt; rw [if_neg (by omega)]; decide +kernel⟩
        · have hb59 : ¬ ((Int32.ofInt 0).toInt = 0) := hb59
          exfalso; first | omega | exact absurd hb59 (by decide +kernel)
      · have hb34 : ¬ (c.toInt = (Int32.ofInt 23).toInt) := hb34
        refine ex_aload_n cg_86 (ix := 25) (pc' := 38) rfl rfl rfl ?_
        refine ex_iload_n cg_86 (ix := 26) (pc' := 39) rfl rfl rfl ?_
        refine ex_iconst cg_86 (ix := 27) (pc' := 40) rfl rfl ?_
        refine ex_iadd cg_86 (ix := 28) (pc' := 41) rfl rfl ?_
        have a2 : (c + Int32.ofInt 1).toNatClampNeg = cN + 1 := cx_clamp (by rw [cx_addc (by omega) (by omega)]; omega)
        have a2i : (c + Int32.ofInt 1).toInt = (cN : Int) + 1 := by rw [cx_addc (by omega) (by omega)]; omega
        refine ex_iaload cg_86 (ix := 29) (pc' := 42) rfl hk2 (by omega) (by omega) rfl ?_
        refine ex_aload_n cg_86 (ix := 30) (pc' := 43) rfl rfl rfl ?_
        refine ex_iload_n cg_86 (ix := 31) (pc' := 44) rfl rfl rfl ?_
        refine ex_iaload cg_86 (ix := 32) (pc' := 45) rfl hk2 (by omega) (by omega) rfl ?_
        refine ex_isub cg_86 (ix := 33) (pc' := 46) rfl rfl ?_
        have d45 : (f (c + Int32.ofInt 1).toNatClampNeg - f c.toNatClampNeg).toInt = (f (cN + 1)).toInt - (f cN).toInt := by rw [a2, hck]; exact bk_d hf (by omega) hcN
        refine ex_iconst cg_86 (ix := 34) (pc' := 47) rfl rfl ?_
        refine ex_icmp cg_86 (ix := 35) (t := 54) (pc' := 50) rfl rfl rfl (fun hb47 => ?_) (fun hb47 => ?_)
        · have hb47 : ((f (c + (Int32.ofInt 1)).toNatClampNeg) - (f c.toNatClampNeg)).toInt < (Int32.ofInt 2).toInt := hb47
          refine ex_iconst cg_86 (ix := 38) (pc' := 55) rfl rfl ?_
          refine ex_istore cg_86 (ix := 39) (pc' := 57) (L' := [some (.inr (.inl 15)), some (.inl (.int b)), some (.inl (.int c)), some (.inr (.inl k1)), some (.inl (.int (Int32.ofInt 0))), some (.inl (.int (Int32.ofInt 0)))]) rfl rfl rfl rfl ?_
          refine ex_iload cg_86 (ix := 40) (pc' := 59) rfl rfl rfl ?_
          refine ex_if cg_86 (ix := 41) (t := 75) (pc' := 62) rfl rfl rfl (fun hb59 => ?_) (fun hb59 => ?_)
          · have hb59 : (Int32.ofInt 0).toInt = 0 := hb59
            refine ex_bipush cg_86 (ix := 50) (pc' := 77) rfl rfl rfl ?_
            refine ex_ireturn cg_86 (ix := 51) rfl ?_
            exact ⟨_, rfl, rfl, by unfold rt; rw [if_neg (by omega)]; decide +kernel⟩
          · have hb59 : ¬ ((Int32.ofInt 0).toInt = 0) := hb59
            exfalso; first | omega | exact absurd hb59 (by decide +kernel)
        · have hb47 : ¬ (((f (c + (Int32.ofInt 1)).toNatClampNeg) - (f c.toNatClampNeg)).toInt < (Int32.ofInt 2).toInt) := hb47
          refine ex_iconst cg_86 (ix := 36) (pc' := 51) rfl rfl ?_
          refine ex_goto cg_86 (ix := 37) (pc' := 55) rfl rfl ?_
          refine ex_istore cg_86 (ix := 39) (pc' := 57) (L' := [some (.inr (.inl 15)), some (.inl (.int b)), some (.inl (.int c)), some (.inr (.inl k1)), some (.inl (.int (Int32.ofInt 0))), some (.inl (.int (Int32.ofInt 1)))]) rfl rfl rfl rfl ?_
          refine ex_iload cg_86 (ix := 40) (pc' := 59) rfl rfl rfl ?_
          refine ex_if cg_86 (ix := 41) (t := 75) (pc' := 62) rfl rfl rfl (fun hb59 => ?_) (fun hb59 => ?_)
          · have hb59 : (Int32.ofInt 0).toInt = 0 := hb59
            refine ex_bipush cg_86 (ix := 50) (pc' := 77) rfl rfl rfl ?_
            refine ex_ireturn cg_86 (ix := 51) rfl ?_
            exact ⟨_, rfl, rfl, by unfold rt; rw [if_neg (by omega)]; decide +kernel⟩
          · have hb59 : ¬ ((Int32.ofInt 0).toInt = 0) := hb59
            exfalso; first | omega | exact absurd hb59 (by decide +kernel)
    · have hb21 : ¬ (((f (c - (Int32.ofInt 1)).toNatClampNeg) - (f c.toNatClampNeg)).toInt < (Int32.ofInt 2).toInt) := hb21
      refine ex_iconst cg_86 (ix := 18) (pc' := 25) rfl rfl ?_
      refine ex_goto cg_86 (ix := 19) (pc' := 29) rfl rfl ?_
      refine ex_istore cg_86 (ix := 21) (pc' := 31) (L' := [some (.inr (.inl 15)), some (.inl (.int b)), some (.inl (.int c)), some (.inr (.inl k1)), some (.inl (.int (Int32.ofInt 1))), none]) rfl rfl rfl rfl ?_
      refine ex_iload_n cg_86 (ix := 22) (pc' := 32) rfl rfl rfl ?_
      refine ex_bipush cg_86 (ix := 23) (pc' := 34) rfl rfl rfl ?_
      refine ex_icmp cg_86 (ix := 24) (t := 50) (pc' := 37) rfl rfl rfl (fun hb34 => ?_) (fun hb34 => ?_)
      · have hb34 : c.toInt = (Int32.ofInt 23).toInt := hb34
        refine ex_iconst cg_86 (ix := 36) (pc' := 51) rfl rfl ?_
        refine ex_goto cg_86 (ix := 37) (pc' := 55) rfl rfl ?_
        refine ex_istore cg_86 (ix := 39) (pc' := 57) (L' := [some (.inr (.inl 15)), some (.inl (.int b)), some (.inl (.int c)), some (.inr (.inl k1)), some (.inl (.int (Int32.ofInt 1))), some (.inl (.int (Int32.ofInt 1)))]) rfl rfl rfl rfl ?_
        refine ex_iload cg_86 (ix := 40) (pc' := 59) rfl rfl rfl ?_
        refine ex_if cg_86 (ix := 41) (t := 75) (pc' := 62) rfl rfl rfl (fun hb59 => ?_) (fun hb59 => ?_)
        · have hb59 : (Int32.ofInt 1).toInt = 0 := hb59
          exfalso; first | omega | exact absurd hb59 (by decide +kernel)
        · have hb59 : ¬ ((Int32.ofInt 1).toInt = 0) := hb59
          refine ex_iload cg_86 (ix := 42) (pc' := 64) rfl rfl rfl ?_
          refine ex_if cg_86 (ix := 43) (t := 75) (pc' := 67) rfl rfl rfl (fun hb64 => ?_) (fun hb64 => ?_)
          · have hb64 : (Int32.ofInt 1).toInt = 0 := hb64
            exfalso; first | omega | exact absurd hb64 (by decide +kernel)
          · have hb64 : ¬ ((Int32.ofInt 1).toInt = 0) := hb64
            refine ex_aload_n cg_86 (ix := 44) (pc' := 68) rfl rfl rfl ?_
            refine ex_iload_n cg_86 (ix := 45) (pc' := 69) rfl rfl rfl ?_
            refine ex_iaload cg_86 (ix := 46) (pc' := 70) rfl hk2 (by omega) (by omega) rfl ?_
            refine ex_iconst cg_86 (ix := 47) (pc' := 71) rfl rfl ?_
            refine ex_iadd cg_86 (ix := 48) (pc' := 72) rfl rfl ?_
            refine ex_goto cg_86 (ix := 49) (pc' := 77) rfl rfl ?_
            refine ex_ireturn cg_86 (ix := 51) rfl ?_
            exact ⟨_, rfl, rfl, by unfold rt; rw [if_pos (by omega), hck, cx_addc (by omega) (by omega)]; omega⟩
      · have hb34 : ¬ (c.toInt = (Int32.ofInt 23).toInt) := hb34
        refine ex_aload_n cg_86 (ix := 25) (pc' := 38) rfl rfl rfl ?_
        refine ex_iload_n cg_86 (ix := 26) (pc' := 39) rfl rfl rfl ?_
        refine ex_iconst cg_86 (ix := 27) (pc' := 40) rfl rfl ?_
        refine ex_iadd cg_86 (ix := 28) (pc' := 41) rfl rfl ?_
        have a2 : (c + Int32.ofInt 1).toNatClampNeg = cN + 1 := cx_clamp (by rw [cx_addc (by omega) (by omega)]; omega)
        have a2i : (c + Int32.ofInt 1).toInt = (cN : Int) + 1 := by rw [cx_addc (by omega) (by omega)]; omega
        refine ex_iaload cg_86 (ix := 29) (pc' := 42) rfl hk2 (by omega) (by omega) rfl ?_
        refine ex_aload_n cg_86 (ix := 30) (pc' := 43) rfl rfl rfl ?_
        refine ex_iload_n cg_86 (ix := 31) (pc' := 44) rfl rfl rfl ?_
        refine ex_iaload cg_86 (ix := 32) (pc' := 45) rfl hk2 (by omega) (by omega) rfl ?_
        refine ex_isub cg_86 (ix := 33) (pc' := 46) rfl rfl ?_
        have d45 : (f (c + Int32.ofInt 1).toNatClampNeg - f c.toNatClampNeg).toInt = (f (cN + 1)).toInt - (f cN).toInt := by rw [a2, hck]; exact bk_d hf (by omega) hcN
        refine ex_iconst cg_86 (ix := 34) (pc' := 47) rfl rfl ?_
        refine ex_icmp cg_86 (ix := 35) (t := 54) (pc' := 50) rfl rfl rfl (fun hb47 => ?_) (fun hb47 => ?_)
        · have hb47 : ((f (c + (Int32.ofInt 1)).toNatClampNeg) - (f c.toNatClampNeg)).toInt < (Int32.ofInt 2).toInt := hb47
          refine ex_iconst cg_86 (ix := 38) (pc' := 55) rfl rfl ?_
          refine ex_istore cg_86 (ix := 39) (pc' := 57) (L' := [some (.inr (.inl 15)), some (.inl (.int b)), some (.inl (.int c)), some (.inr (.inl k1)), some (.inl (.int (Int32.ofInt 1))), some (.inl (.int (Int32.ofInt 0)))]) rfl rfl rfl rfl ?_
          refine ex_iload cg_86 (ix := 40) (pc' := 59) rfl rfl rfl ?_
          refine ex_if cg_86 (ix := 41) (t := 75) (pc' := 62) rfl rfl rfl (fun hb59 => ?_) (fun hb59 => ?_)
          · have hb59 : (Int32.ofInt 1).toInt = 0 := hb59
            exfalso; first | omega | exact absurd hb59 (by decide +kernel)
          · have hb59 : ¬ ((Int32.ofInt 1).toInt = 0) := hb59
            refine ex_iload cg_86 (ix := 42) (pc' := 64) rfl rfl rfl ?_
            refine ex_if cg_86 (ix := 43) (t := 75) (pc' := 67) rfl rfl rfl (fun hb64 => ?_) (fun hb64 => ?_)
            · have hb64 : (Int32.ofInt 0).toInt = 0 := hb64
              refine ex_bipush cg_86 (ix := 50) (pc' := 77) rfl rfl rfl ?_
              refine ex_ireturn cg_86 (ix := 51) rfl ?_
              exact ⟨_, rfl, rfl, by unfold rt; rw [if_neg (by omega)]; decide +kernel⟩
            · have hb64 : ¬ ((Int32.ofInt 0).toInt = 0) := hb64
              exfalso; first | omega | exact absurd hb64 (by decide +kernel)
        · have hb47 : ¬ (((f (c + (Int32.ofInt 1)).toNatClampNeg) - (f c.toNatClampNeg)).toInt < (Int32.ofInt 2).toInt) := hb47
          refine ex_iconst cg_86 (ix := 36) (pc' := 51) rfl rfl ?_
          refine ex_goto cg_86 (ix := 37) (pc' := 55) rfl rfl ?_
          refine ex_istore cg_86 (ix := 39) (pc' := 57) (L' := [some (.inr (.inl 15)), some (.inl (.int b)), some (.inl (.int c)), some (.inr (.inl k1)), some (.inl (.int (Int32.ofInt 1))), some (.inl (.int (Int32.ofInt 1)))]) rfl rfl rfl rfl ?_
          refine ex_iload cg_86 (ix := 40) (pc' := 59) rfl rfl rfl ?_
          refine ex_if cg_86 (ix := 41) (t := 75) (pc' := 62) rfl rfl rfl (fun hb59 => ?_) (fun hb59 => ?_)
          · have hb59 : (Int32.ofInt 1).toInt = 0 := hb59
            exfalso; first | omega | exact absurd hb59 (by decide +kernel)
          · have hb59 : ¬ ((Int32.ofInt 1).toInt = 0) := hb59
            refine ex_iload cg_86 (ix := 42) (pc' := 64) rfl rfl rfl ?_
            refine ex_if cg_86 (ix := 43) (t := 75) (pc' := 67) rfl rfl rfl (fun hb64 => ?_) (fun hb64 => ?_)
            · have hb64 : (Int32.ofInt 1).toInt = 0 := hb64
              exfalso; first | omega | exact absurd hb64 (by decide +kernel)
            · have hb64 : ¬ ((Int32.ofInt 1).toInt = 0) := hb64
              refine ex_aload_n cg_86 (ix := 44) (pc' := 68) rfl rfl rfl ?_
              refine ex_iload_n cg_86 (ix := 45) (pc' := 69) rfl rfl rfl ?_
              refine ex_iaload cg_86 (ix := 46) (pc' := 70) rfl hk2 (by omega) (by omega) rfl ?_
              refine ex_iconst cg_86 (ix := 47) (pc' := 71) rfl rfl ?_
              refine ex_iadd cg_86 (ix := 48) (pc' := 72) rfl rfl ?_
              refine ex_goto cg_86 (ix := 49) (pc' := 77) rfl rfl ?_
              refine ex_ireturn cg_86 (ix := 51) rfl ?_
              exact ⟨_, rfl, rfl, by unfold rt; rw [if_pos (by omega), hck, cx_addc (by omega) (by omega)]; omega⟩
def hgF (f : Nat → Int32) (base : Int) (lo : Nat) : Nat → Int
  | 0 => base
  | n + 1 => min (hgF f base lo n) (rt f (lo + n) - 1)
/-- the highest tide by which a cell is good -/
def hg (f : Nat → Int32) (c : Nat) (sw : Int) : Int := if 6 < sw then (f c).toInt - 1 else if sw < 3 then (f c).toInt + 4 else hgF f ((f c).toInt + 4) (c - 1) (min 23 (c + 1) + 1 - (c - 1))
theorem hgF_b {f : Nat → Int32} (hf : bkU f) {base : Int} (hb : -20 ≤ base ∧ base ≤ 20) {lo : Nat} : ∀ n : Nat, lo + n ≤ 24 → -20 ≤ hgF f base lo n ∧ hgF f base lo n ≤ 20
  | 0, _ => hb
  | n + 1, h => by
    have h1 := hgF_b (lo := lo) hf hb n (by omega)
    have h2 := rt_b hf (c := lo + n) (by omega)
    rw [hgF]
    omega
theorem hg_loop {d : Nat} {b c sw low : Int32} {cN k1 : Nat} {f : Nat → Int32} {F : Nat → Nat → Int32} {P : Option cx_V → cx_H → Prop} (hd : 3 ≤ d) (hb0 : 0 ≤ b.toInt) (hk1 : [17, 18, 19, 20][b.toNatClampNeg]? = some k1) (hk2 : cx_hg (h_sh F) k1 = some (.inr (.inl (0, 24, f)))) (hf : bkU f) (hc : c.toInt = (cN : Int)) (hcN : cN < 24) (hP : ∀ x5 : Int32, x5.toInt = hgF f ((f cN).toInt + 4) (cN - 1) (min 23 (cN + 1) + 1 - (cN - 1)) → P (some (.inl (.int x5))) (h_sh F)) :
    ∀ m_ k : Nat, cN - 1 + k + m_ = min 23 (cN + 1) + 1 → ∀ i x5 : Int32, i.toInt = ((cN - 1 + k : Nat) : Int) → x5.toInt = hgF f ((f cN).toInt + 4) (cN - 1) k → cx_T d 85 [15, 16, 17, 18, 19, 20] 41 ([some (.inr (.inl 15)), some (.inl (.int b)), some (.inl (.int c)), some (.inl (.int sw)), some (.inl (.int low)), some (.inl (.int x5)), some (.inl (.int i))], [], h_sh F) P := by
  have kc0 : (Int32.ofInt 0).toInt = 0 := by decide +kernel
  have kc1 : (Int32.ofInt 1).toInt = 1 := by decide +kernel
  have kc3 : (Int32.ofInt 3).toInt = 3 := by decide +kernel
  have kc4 : (Int32.ofInt 4).toInt = 4 := by decide +kernel
  have kc6 : (Int32.ofInt 6).toInt = 6 := by decide +kernel
  have kc23 : (Int32.ofInt 23).toInt = 23 := by decide +kernel
  have hlim : (if (c + (Int32.ofInt 1)) < (Int32.ofInt 23) then (c + (Int32.ofInt 1)) else (Int32.ofInt 23) : Int32).toInt = ((min 23 (cN + 1) : Nat) : Int) := by
    rw [cx_imin, cx_addc (by omega) (by omega)]
    omega
  have hfc := hf cN hcN
  intro m_
  induction m_ with
  | zero =>
    intro k hk i x5 hi hx
    refine ex_iload cg_85 (ix := 27) (pc' := 43) rfl rfl rfl ?_
    refine ex_bipush cg_85 (ix := 28) (pc' := 45) rfl rfl rfl ?_
    refine ex_iload_n cg_85 (ix := 29) (pc' := 46) rfl rfl rfl ?_
    refine ex_iconst cg_85 (ix := 30) (pc' := 47) rfl rfl ?_
    refine ex_iadd cg_85 (ix := 31) (pc' := 48) rfl rfl ?_
    refine ex_min cg_85 (ix := 32) (pc' := 51) rfl rfl (by first | decide | omega) rfl rfl ?_
    refine ex_icmp cg_85 (ix := 33) (t := 76) (pc' := 54) rfl rfl rfl (fun hb51 => ?_) (fun hb51 => ?_)
    · have hb51 : (if (c + (Int32.ofInt 1)) < (Int32.ofInt 23) then (c + (Int32.ofInt 1)) else (Int32.ofInt 23)).toInt < i.toInt := hb51
      refine ex_iload cg_85 (ix := 45) (pc' := 78) rfl rfl rfl ?_
      refine ex_ireturn cg_85 (ix := 46) rfl ?_
      exact hP _ (by rw [← show k = min 23 (cN + 1) + 1 - (cN - 1) by omega]; exact hx)
    · have hb51 : ¬ ((if (c + (Int32.ofInt 1)) < (Int32.ofInt 23) then (c + (Int32.ofInt 1)) else (Int32.ofInt 23)).toInt < i.toInt) := hb51
      exfalso; first | omega | exact absurd hb51 (by decide +kernel)
  | succ m_ ih =>
    intro k hk i x5 hi hx
    have hxb := hgF_b hf (base := (f cN).toInt + 4) (by omega) (lo := cN - 1) k (by omega)
    refine ex_iload cg_85 (ix := 27) (pc' := 43) rfl rfl rfl ?_
    refine ex_bipush cg_85 (ix := 28) (pc' := 45) rfl rfl rfl ?_
    refine ex_iload_n cg_85 (ix := 29) (pc' := 46) rfl rfl rfl ?_
    refine ex_iconst cg_85 (ix := 30) (pc' := 47) rfl rfl ?_
    refine ex_iadd cg_85 (ix := 31) (pc' := 48) rfl rfl ?_
    refine ex_min cg_85 (ix := 32) (pc' := 51) rfl rfl (by first | decide | omega) rfl rfl ?_
    refine ex_icmp cg_85 (ix := 33) (t := 76) (pc' := 54) rfl rfl rfl (fun hb51 => ?_) (fun hb51 => ?_)
    · have hb51 : (if (c + (Int32.ofInt 1)) < (Int32.ofInt 23) then (c + (Int32.ofInt 1)) else (Int32.ofInt 23)).toInt < i.toInt := hb51
      exfalso; first | omega | exact absurd hb51 (by decide +kernel)
    · have hb51 : ¬ ((if (c + (Int32.ofInt 1)) < (Int32.ofInt 23) then (c + (Int32.ofInt 1)) else (Int32.ofInt 23)).toInt < i.toInt) := hb51
      refine ex_iload cg_85 (ix := 34) (pc' := 56) rfl rfl rfl ?_
      refine ex_aload_n cg_85 (ix := 35) (pc' := 57) rfl rfl rfl ?_
      refine ex_iload_n cg_85 (ix := 36) (pc' := 58) rfl rfl rfl ?_
      refine ex_iload cg_85 (ix := 37) (pc' := 60) rfl rfl rfl ?_
      refine ex_callV cg_85 (ix := 38) (pc' := 63) (As := [.inl (.int b), .inl (.int i)]) (r := [.inl (.int x5)]) rfl rfl rfl (ct_rt (b := b) (c := i) (cN := cN - 1 + k) (k1 := k1) (f := f) (F := F) hb0 hk1 hk2 hf (by omega) (by omega)) (by first | decide | omega) rfl rfl rfl ⟨rfl, rfl, rfl, rfl, rfl, rfl, trivial⟩ rfl rfl (fun v h2 hq => ?_)
      obtain ⟨zr, rfl, rfl, hzr⟩ := hq
      have hrb := rt_b hf (c := cN - 1 + k) (by omega)
      show cx_T _ 85 _ 63 ([some (.inr (.inl 15)), some (.inl (.int b)), some (.inl (.int c)), some (.inl (.int sw)), some (.inl (.int low)), some (.inl (.int x5)), some (.inl (.int i))], [.inl (.int zr), .inl (.int x5)], [(15, .inl (7, [.inr (.inl 2), .inr (.inl 16)])), (16, .inr (.inr (.inr (3, [17, 18, 19, 20])))), (17, .inr (.inl (0, 24, F 0))), (18, .inr (.inl (0, 24, F 1))), (19, .inr (.inl (0, 24, F 2))), (20, .inr (.inl (0, 24, F 3)))]) _
      refine ex_iconst cg_85 (ix := 39) (pc' := 64) rfl rfl ?_
      refine ex_isub cg_85 (ix := 40) (pc' := 65) rfl rfl ?_
      refine ex_min cg_85 (ix := 41) (pc' := 68) rfl rfl (by first | decide | omega) rfl rfl ?_
      refine ex_istore cg_85 (ix := 42) (pc' := 70) (L' := [some (.inr (.inl 15)), some (.inl (.int b)), some (.inl (.int c)), some (.inl (.int sw)), some (.inl (.int low)), some (.inl (.int (if (zr - (Int32.ofInt 1)) < x5 then (zr - (Int32.ofInt 1)) else x5))), some (.inl (.int i))]) rfl rfl rfl rfl ?_
      refine ex_iinc cg_85 (ix := 43) (pc' := 73) (L' := [some (.inr (.inl 15)), some (.inl (.int b)), some (.inl (.int c)), some (.inl (.int sw)), some (.inl (.int low)), some (.inl (.int (if (zr - (Int32.ofInt 1)) < x5 then (zr - (Int32.ofInt 1)) else x5))), some (.inl (.int (i + Int32.ofInt 1)))]) rfl rfl rfl rfl rfl ?_
      refine ex_goto cg_85 (ix := 44) (pc' := 41) rfl rfl ?_
      refine ih (k + 1) (by omega) _ _ (by rw [cx_addc (by omega) (by omega)]; omega) ?_
      rw [cx_imin, cx_subc (by omega) (by omega), hx, hzr, kc1, hgF]
theorem ct_hg {b c sw : Int32} {cN k1 : Nat} {f : Nat → Int32} {F : Nat → Nat → Int32} (hb0 : 0 ≤ b.toInt) (hk1 : [17, 18, 19, 20][b.toNatClampNeg]? = some k1) (hk2 : cx_hg (h_sh F) k1 = some (.inr (.inl (0, 24, f)))) (hf : bkU f) (hc : c.toInt = (cN : Int)) (hcN : cN < 24) : cx_Ct 3 85 [.inr (.inl 15), .inl (.int b), .inl (.int c), .inl (.int sw)] (h_sh F) (fun v h2 => ∃ z : Int32, v = some (.inl (.int z)) ∧ h2 = h_sh F ∧ z.toInt = hg f cN sw.toInt) := by
  have kc0 : (Int32.ofInt 0).toInt = 0 := by decide +kernel
  have kc1 : (Int32.ofInt 1).toInt = 1 := by decide +kernel
  have kc3 : (Int32.ofInt 3).toInt = 3 := by decide +kernel
  have kc4 : (Int32.ofInt 4).toInt = 4 := by decide +kernel
  have kc6 : (Int32.ofInt 6).toInt = 6 := by decide +kernel
  have kc23 : (Int32.ofInt 23).toInt = 23 := by decide +kernel
  have hck : c.toNatClampNeg = cN := cx_clamp hc
  have hfc := hf cN hcN
  refine cx_Ct.of cg_85 (nL := 7) rfl rfl rfl ?_
  show cx_T 3 85 [15, 16, 17, 18, 19, 20] 0 ([some (.inr (.inl 15)), some (.inl (.int b)), some (.inl (.int c)), some (.inl (.int sw)), none, none, none], [], h_sh F) _
  refine ex_aload_n cg_85 (ix := 0) (pc' := 1) rfl rfl rfl ?_
  refine ex_getfield cg_85 (ix := 1) (pc' := 4) rfl rfl rfl rfl rfl ?_
  refine ex_iload_n cg_85 (ix := 2) (pc' := 5) rfl rfl rfl ?_
  refine ex_aaload cg_85 (ix := 3) (pc' := 6) (k1 := k1) rfl rfl (by omega) hk1 rfl ?_
  refine ex_iload_n cg_85 (ix := 4) (pc' := 7) rfl rfl rfl ?_
  refine ex_iaload cg_85 (ix := 5) (pc' := 8) rfl hk2 (by omega) (by omega) rfl ?_
  refine ex_istore cg_85 (ix := 6) (pc' := 10) (L' := [some (.inr (.inl 15)), some (.inl (.int b)), some (.inl (.int c)), some (.inl (.int sw)), some (.inl (.int (f c.toNatClampNeg))), none, none]) rfl rfl rfl rfl ?_
  refine ex_iload_n cg_85 (ix := 7) (pc' := 11) rfl rfl rfl ?_
  refine ex_bipush cg_85 (ix := 8) (pc' := 13) rfl rfl rfl ?_
  refine ex_icmp cg_85 (ix := 9) (t := 21) (pc' := 16) rfl rfl rfl (fun hb13 => ?_) (fun hb13 => ?_)
  · have hb13 : sw.toInt ≤ (Int32.ofInt 6).toInt := hb13
    refine ex_iload cg_85 (ix := 14) (pc' := 23) rfl rfl rfl ?_
    refine ex_iconst cg_85 (ix := 15) (pc' := 24) rfl rfl ?_
    refine ex_iadd cg_85 (ix := 16) (pc' := 25) rfl rfl ?_
    refine ex_istore cg_85 (ix := 17) (pc' := 27) (L' := [some (.inr (.inl 15)), some (.inl (.int b)), some (.inl (.int c)), some (.inl (.int sw)), some (.inl (.int (f c.toNatClampNeg))), some (.inl (.int ((f c.toNatClampNeg) + (Int32.ofInt 4)))), none]) rfl rfl rfl rfl ?_
    refine ex_iload_n cg_85 (ix := 18) (pc' := 28) rfl rfl rfl ?_
    refine ex_iconst cg_85 (ix := 19) (pc' := 29) rfl rfl ?_
    refine ex_icmp cg_85 (ix := 20) (t := 76) (pc' := 32) rfl rfl rfl (fun hb29 => ?_) (fun hb29 => ?_)
    · have hb29 : sw.toInt < (Int32.ofInt 3).toInt := hb29
      refine ex_iload cg_85 (ix := 45) (pc' := 78) rfl rfl rfl ?_
      refine ex_ireturn cg_85 (ix := 46) rfl ?_
      exact ⟨_, rfl, rfl, by unfold hg; rw [if_neg (by omega), if_pos (by omega), hck, cx_addc (by omega) (by omega)]; omega⟩
    · have hb29 : ¬ (sw.toInt < (Int32.ofInt 3).toInt) := hb29
      refine ex_iconst cg_85 (ix := 21) (pc' := 33) rfl rfl ?_
      refine ex_iload_n cg_85 (ix := 22) (pc' := 34) rfl rfl rfl ?_
      refine ex_iconst cg_85 (ix := 23) (pc' := 35) rfl rfl ?_
      refine ex_isub cg_85 (ix := 24) (pc' := 36) rfl rfl ?_
      refine ex_max cg_85 (ix := 25) (pc' := 39) rfl rfl (by first | decide | omega) rfl rfl ?_
      refine ex_istore cg_85 (ix := 26) (pc' := 41) (L' := [some (.inr (.inl 15)), some (.inl (.int b)), some (.inl (.int c)), some (.inl (.int sw)), some (.inl (.int (f c.toNatClampNeg))), some (.inl (.int ((f c.toNatClampNeg) + (Int32.ofInt 4)))), some (.inl (.int (if (Int32.ofInt 0) < (c - (Int32.ofInt 1)) then (c - (Int32.ofInt 1)) else (Int32.ofInt 0))))]) rfl rfl rfl rfl ?_
      refine hg_loop (by decide) hb0 hk1 hk2 hf hc hcN (fun x5 hx5 => ⟨_, rfl, rfl, by unfold hg; rw [if_neg (by omega), if_neg (by omega)]; exact hx5⟩) (min 23 (cN + 1) + 1 - (cN - 1)) 0 (by omega) _ _ ?_ ?_
      · rw [cx_imax, cx_subc (by omega) (by omega)]
        omega
      · rw [hck, cx_addc (by omega) (by omega)]
        show (f cN).toInt + (Int32.ofInt 4).toInt = (f cN).toInt + 4
        omega
  · have hb13 : ¬ (sw.toInt ≤ (Int32.ofInt 6).toInt) := hb13
    refine ex_iload cg_85 (ix := 10) (pc' := 18) rfl rfl rfl ?_
    refine ex_iconst cg_85 (ix := 11) (pc' := 19) rfl rfl ?_
    refine ex_isub cg_85 (ix := 12) (pc' := 20) rfl rfl ?_
    refine ex_ireturn cg_85 (ix := 13) rfl ?_
    exact ⟨_, rfl, rfl, by unfold hg; rw [if_pos (by omega), hck, cx_subc (by omega) (by omega)]; omega⟩
def sw_l (s : Nat → Int32) (k : Nat) : Int32 := if (s k).toInt = 99 then Int32.ofInt 0 else s k
theorem ct_ls {x : Int32} {k : Nat} {t s : Nat → Int32} (hx : x.toInt = (k : Int)) (hk : k < 16) : cx_Ct 2 101 [.inr (.inl 2), .inl (.int x)] (h_td t s) (fun v h2 => v = some (.inl (.int (sw_l s k))) ∧ h2 = h_td t s) := by
  have kc0 : (Int32.ofInt 0).toInt = 0 := by decide +kernel
  have kc99 : (Int32.ofInt 99).toInt = 99 := by decide +kernel
  have hck : x.toNatClampNeg = k := cx_clamp hx
  refine cx_Ct.of cg_101 (nL := 2) rfl rfl rfl ?_
  show cx_T 2 101 [2, 3, 4] 0 ([some (.inr (.inl 2)), some (.inl (.int x))], [], h_td t s) _
  refine ex_aload_n cg_101 (ix := 0) (pc' := 1) rfl rfl rfl ?_
  refine ex_getfield cg_101 (ix := 1) (pc' := 4) rfl rfl rfl rfl rfl ?_
  refine ex_iload_n cg_101 (ix := 2) (pc' := 5) rfl rfl rfl ?_
  refine ex_iaload cg_101 (ix := 3) (pc' := 6) rfl rfl (by omega) (by omega) rfl ?_
  refine ex_bipush cg_101 (ix := 4) (pc' := 8) rfl rfl rfl ?_
  refine ex_icmp cg_101 (ix := 5) (t := 15) (pc' := 11) rfl rfl rfl (fun hb8 => ?_) (fun hb8 => ?_)
  · have hb8 : ¬ (s x.toNatClampNeg).toInt = (Int32.ofInt 99).toInt := hb8
    refine ex_aload_n cg_101 (ix := 8) (pc' := 16) rfl rfl rfl ?_
    refine ex_getfield cg_101 (ix := 9) (pc' := 19) rfl rfl rfl rfl rfl ?_
    refine ex_iload_n cg_101 (ix := 10) (pc' := 20) rfl rfl rfl ?_
    refine ex_iaload cg_101 (ix := 11) (pc' := 21) rfl rfl (by omega) (by omega) rfl ?_
    refine ex_ireturn cg_101 (ix := 12) rfl ?_
    exact ⟨by unfold sw_l; rw [hck] at *; rw [if_neg (by omega)], rfl⟩
  · have hb8 : ¬ (¬ (s x.toNatClampNeg).toInt = (Int32.ofInt 99).toInt) := hb8
    refine ex_iconst cg_101 (ix := 6) (pc' := 12) rfl rfl ?_
    refine ex_goto cg_101 (ix := 7) (pc' := 21) rfl rfl ?_
    refine ex_ireturn cg_101 (ix := 12) rfl ?_
    exact ⟨by unfold sw_l; rw [hck] at *; rw [if_pos (by omega)], rfl⟩
/-- how safe a cell is -/
def sfV (f : Nat → Int32) (c : Nat) (lo hi gs ls : Int) : Int := if (f c).toInt ≤ lo ∧ hi ≤ hg f c gs then 2 else if max lo (f c).toInt ≤ min hi (hg f c ls) then 1 else 0
def h_sf (F : Nat → Nat → Int32) (t s : Nat → Int32) : cx_H := [(15, .inl (7, [.inr (.inl 2), .inr (.inl 16)])), (16, .inr (.inr (.inr (3, [17, 18, 19, 20])))), (17, .inr (.inl (0, 24, F 0))), (18, .inr (.inl (0, 24, F 1))), (19, .inr (.inl (0, 24, F 2))), (20, .inr (.inl (0, 24, F 3))), (2, .inl (8, [.inr (.inl 3), .inr (.inl 4), .inr (.inl 5), .inr (.inl 10)])), (3, .inr (.inl (0, 16, t))), (4, .inr (.inl (0, 16, s)))]
theorem ct_sf_ {b c x : Int32} {cN k1 hN : Nat} {f t s : Nat → Int32} {F : Nat → Nat → Int32} (hb0 : 0 ≤ b.toInt) (hk1 : [17, 18, 19, 20][b.toNatClampNeg]? = some k1) (hk2 : cx_hg (h_sh F) k1 = some (.inr (.inl (0, 24, f)))) (hf : bkU f) (hc : c.toInt = (cN : Int)) (hcN : cN < 24) (hx : x.toInt = (hN : Int)) (hh : hN < 16) (ht : ∀ i : Nat, i < 16 → tdU (t i).toInt) : cx_Ct 5 84 [.inr (.inl 15), .inl (.int b), .inl (.int c), .inl (.int x)] (h_sf F t s) (fun v h2 => ∃ z : Int32, v = some (.inl (.int z)) ∧ h2 = h_sf F t s ∧ z.toInt = sfV f cN (td_lo (td_a t hN).toInt (td_b t hN (16 - hN)).toInt) (td_hi (td_a t hN).toInt (td_b t hN (16 - hN)).toInt) (sw_x s hN).toInt (sw_l s hN).toInt) := by
  have kc0 : (Int32.ofInt 0).toInt = 0 := by decide +kernel
  have kc1 : (Int32.ofInt 1).toInt = 1 := by decide +kernel
  have kc2 : (Int32.ofInt 2).toInt = 2 := by decide +kernel
  have hck : c.toNatClampNeg = cN := cx_clamp hc
  have hlow : (f c.toNatClampNeg).toInt = (f cN).toInt := by rw [hck]
  have hk3 : cx_hg (h_sf F t s) k1 = some (.inr (.inl (0, 24, f))) := by
    have hB := ab_clamp (x := b) hb0
    rcases (show b.toNatClampNeg = 0 ∨ b.toNatClampNeg = 1 ∨ b.toNatClampNeg = 2 ∨ b.toNatClampNeg = 3 ∨ 4 ≤ b.toNatClampNeg by omega) with q | q | q | q | q
    · rw [q] at hk1; cases hk1; exact hk2
    · rw [q] at hk1; cases hk1; exact hk2
    · rw [q] at hk1; cases hk1; exact hk2
    · rw [q] at hk1; cases hk1; exact hk2
    · rw [List.getElem?_eq_none (by show 4 ≤ _; exact q)] at hk1; cases hk1
  refine cx_Ct.of cg_84 (nL := 8) rfl rfl rfl ?_
  show cx_T 5 84 [15, 16, 17, 18, 19, 20, 2, 3, 4] 0 ([some (.inr (.inl 15)), some (.inl (.int b)), some (.inl (.int c)), some (.inl (.int x)), none, none, none, none], [], h_sf F t s) _
  refine ex_aload_n cg_84 (ix := 0) (pc' := 1) rfl rfl rfl ?_
  refine ex_getfield cg_84 (ix := 1) (pc' := 4) rfl rfl rfl rfl rfl ?_
  refine ex_iload_n cg_84 (ix := 2) (pc' := 5) rfl rfl rfl ?_
  refine ex_callV cg_84 (ix := 3) (pc' := 8) (As := [.inl (.int x)]) (r := []) rfl rfl rfl (ct_lt (x := x) (k := hN) (t := t) (s := s) hx hh ht) (by first | decide | omega) rfl rfl rfl ⟨rfl, rfl, rfl, trivial⟩ rfl rfl (fun v h2 hq => ?_)
  obtain ⟨lo, rfl, hlo, rfl⟩ := hq
  show cx_T _ 84 _ 8 ([some (.inr (.inl 15)), some (.inl (.int b)), some (.inl (.int c)), some (.inl (.int x)), none, none, none, none], [.inl (.int lo)], [(15, .inl (7, [.inr (.inl 2), .inr (.inl 16)])), (16, .inr (.inr (.inr (3, [17, 18, 19, 20])))), (17, .inr (.inl (0, 24, F 0))), (18, .inr (.inl (0, 24, F 1))), (19, .inr (.inl (0, 24, F 2))), (20, .inr (.inl (0, 24, F 3))), (2, .inl (8, [.inr (.inl 3), .inr (.inl 4), .inr (.inl 5), .inr (.inl 10)])), (3, .inr (.inl (0, 16, t))), (4, .inr (.inl (0, 16, s)))]) _
  refine ex_istore cg_84 (ix := 4) (pc' := 10) (L' := [some (.inr (.inl 15)), some (.inl (.int b)), some (.inl (.int c)), some (.inl (.int x)), some (.inl (.int lo)), none, none, none]) rfl rfl rfl rfl ?_
  refine ex_aload_n cg_84 (ix := 5) (pc' := 11) rfl rfl rfl ?_
  refine ex_getfield cg_84 (ix := 6) (pc' := 14) rfl rfl rfl rfl rfl ?_
  refine ex_iload_n cg_84 (ix := 7) (pc' := 15) rfl rfl rfl ?_
  refine ex_callV cg_84 (ix := 8) (pc' := 18) (As := [.inl (.int x)]) (r := []) rfl rfl rfl (ct_gt (x := x) (k := hN) (t := t) (s := s) hx hh ht) (by first | decide | omega) rfl rfl rfl ⟨rfl, rfl, rfl, trivial⟩ rfl rfl (fun v h2 hq => ?_)
  obtain ⟨hi, rfl, hhi, rfl⟩ := hq
  show cx_T _ 84 _ 18 ([some (.inr (.inl 15)), some (.inl (.int b)), some (.inl (.int c)), some (.inl (.int x)), some (.inl (.int lo)), none, none, none], [.inl (.int hi)], [(15, .inl (7, [.inr (.inl 2), .inr (.inl 16)])), (16, .inr (.inr (.inr (3, [17, 18, 19, 20])))), (17, .inr (.inl (0, 24, F 0))), (18, .inr (.inl (0, 24, F 1))), (19, .inr (.inl (0, 24, F 2))), (20, .inr (.inl (0, 24, F 3))), (2, .inl (8, [.inr (.inl 3), .inr (.inl 4), .inr (.inl 5), .inr (.inl 10)])), (3, .inr (.inl (0, 16, t))), (4, .inr (.inl (0, 16, s)))]) _
  refine ex_istore cg_84 (ix := 9) (pc' := 20) (L' := [some (.inr (.inl 15)), some (.inl (.int b)), some (.inl (.int c)), some (.inl (.int x)), some (.inl (.int lo)), some (.inl (.int hi)), none, none]) rfl rfl rfl rfl ?_
  refine ex_aload_n cg_84 (ix := 10) (pc' := 21) rfl rfl rfl ?_
  refine ex_getfield cg_84 (ix := 11) (pc' := 24) rfl rfl rfl rfl rfl ?_
  refine ex_iload_n cg_84 (ix := 12) (pc' := 25) rfl rfl rfl ?_
  refine ex_aaload cg_84 (ix := 13) (pc' := 26) (k1 := k1) rfl rfl (by omega) hk1 rfl ?_
  refine ex_iload_n cg_84 (ix := 14) (pc' := 27) rfl rfl rfl ?_
  refine ex_iaload cg_84 (ix := 15) (pc' := 28) rfl hk3 (by omega) (by omega) rfl ?_
  refine ex_istore cg_84 (ix := 16) (pc' := 30) (L' := [some (.inr (.inl 15)), some (.inl (.int b)), some (.inl (.int c)), some (.inl (.int x)), some (.inl (.int lo)), some (.inl (.int hi)), some (.inl (.int (f c.toNatClampNeg))), none]) rfl rfl rfl rfl ?_
  refine ex_iload cg_84 (ix := 17) (pc' := 32) rfl rfl rfl ?_
  refine ex_iload cg_84 (ix := 18) (pc' := 34) rfl rfl rfl ?_
  refine ex_icmp cg_84 (ix := 19) (t := 58) (pc' := 37) rfl rfl rfl (fun hb34 => ?_) (fun hb34 => ?_)
  · have hb34 : lo.toInt < (f c.toNatClampNeg).toInt := hb34
    refine ex_aload_n cg_84 (ix := 32) (pc' := 59) rfl rfl rfl ?_
    refine ex_iload_n cg_84 (ix := 33) (pc' := 60) rfl rfl rfl ?_
    refine ex_iload_n cg_84 (ix := 34) (pc' := 61) rfl rfl rfl ?_
    refine ex_aload_n cg_84 (ix := 35) (pc' := 62) rfl rfl rfl ?_
    refine ex_getfield cg_84 (ix := 36) (pc' := 65) rfl rfl rfl rfl rfl ?_
    refine ex_iload_n cg_84 (ix := 37) (pc' := 66) rfl rfl rfl ?_
    refine ex_callV cg_84 (ix := 38) (pc' := 69) (As := [.inl (.int x)]) (r := [.inl (.int c), .inl (.int b), .inr (.inl 15)]) rfl rfl rfl (ct_ls (x := x) (k := hN) (t := t) (s := s) hx hh) (by first | decide | omega) rfl rfl rfl ⟨rfl, rfl, rfl, trivial⟩ rfl rfl (fun v h2 hq => ?_)
    obtain ⟨rfl, rfl⟩ := hq
    show cx_T _ 84 _ 69 ([some (.inr (.inl 15)), some (.inl (.int b)), some (.inl (.int c)), some (.inl (.int x)), some (.inl (.int lo)), some (.inl (.int hi)), some (.inl (.int (f c.toNatClampNeg))), none], [.inl (.int (sw_l s hN)), .inl (.int c), .inl (.int b), .inr (.inl 15)], [(15, .inl (7, [.inr (.inl 2), .inr (.inl 16)])), (16, .inr (.inr (.inr (3, [17, 18, 19, 20])))), (17, .inr (.inl (0, 24, F 0))), (18, .inr (.inl (0, 24, F 1))), (19, .inr (.inl (0, 24, F 2))), (20, .inr (.inl (0, 24, F 3))), (2, .inl (8, [.inr (.inl 3), .inr (.inl 4), .inr (.inl 5), .inr (.inl 10)])), (3, .inr (.inl (0, 16, t))), (4, .inr (.inl (0, 16, s)))]) _
    refine ex_callV cg_84 (ix := 39) (pc' := 72) (As := [.inl (.int b), .inl (.int c), .inl (.int (sw_l s hN))]) (r := []) rfl rfl rfl (ct_hg (b := b) (c := c) (sw := sw_l s hN) (cN := cN) (k1 := k1) (f := f) (F := F) hb0 hk1 hk2 hf hc hcN) (by first | decide | omega) rfl rfl rfl ⟨rfl, rfl, rfl, rfl, rfl, rfl, trivial⟩ rfl rfl (fun v h2 hq => ?_)
    obtain ⟨zl, rfl, rfl, hzl⟩ := hq
    show cx_T _ 84 _ 72 ([some (.inr (.inl 15)), some (.inl (.int b)), some (.inl (.int c)), some (.inl (.int x)), some (.inl (.int lo)), some (.inl (.int hi)), some (.inl (.int (f c.toNatClampNeg))), none], [.inl (.int zl)], [(15, .inl (7, [.inr (.inl 2), .inr (.inl 16)])), (16, .inr (.inr (.inr (3, [17, 18, 19, 20])))), (17, .inr (.inl (0, 24, F 0))), (18, .inr (.inl (0, 24, F 1))), (19, .inr (.inl (0, 24, F 2))), (20, .inr (.inl (0, 24, F 3))), (2, .inl (8, [.inr (.inl 3), .inr (.inl 4), .inr (.inl 5), .inr (.inl 10)])), (3, .inr (.inl (0, 16, t))), (4, .inr (.inl (0, 16, s)))]) _
    refine ex_istore cg_84 (ix := 40) (pc' := 74) (L' := [some (.inr (.inl 15)), some (.inl (.int b)), some (.inl (.int c)), some (.inl (.int x)), some (.inl (.int lo)), some (.inl (.int hi)), some (.inl (.int (f c.toNatClampNeg))), some (.inl (.int zl))]) rfl rfl rfl rfl ?_
    refine ex_iload cg_84 (ix := 41) (pc' := 76) rfl rfl rfl ?_
    refine ex_iload cg_84 (ix := 42) (pc' := 78) rfl rfl rfl ?_
    refine ex_max cg_84 (ix := 43) (pc' := 81) rfl rfl (by first | decide | omega) rfl rfl ?_
    refine ex_iload cg_84 (ix := 44) (pc' := 83) rfl rfl rfl ?_
    refine ex_iload cg_84 (ix := 45) (pc' := 85) rfl rfl rfl ?_
    refine ex_min cg_84 (ix := 46) (pc' := 88) rfl rfl (by first | decide | omega) rfl rfl ?_
    refine ex_icmp cg_84 (ix := 47) (t := 95) (pc' := 91) rfl rfl rfl (fun hb88 => ?_) (fun hb88 => ?_)
    · have hb88 : (if zl < hi then zl else hi).toInt < (if lo < (f c.toNatClampNeg) then (f c.toNatClampNeg) else lo).toInt := hb88
      refine ex_iconst cg_84 (ix := 50) (pc' := 96) rfl rfl ?_
      refine ex_ireturn cg_84 (ix := 51) rfl ?_
      exact ⟨_, rfl, rfl, by unfold sfV; rw [cx_imax, cx_imin, hck] at hb88; rw [if_neg (by omega), if_neg (by omega)]; exact kc0⟩
    · have hb88 : ¬ ((if zl < hi then zl else hi).toInt < (if lo < (f c.toNatClampNeg) then (f c.toNatClampNeg) else lo).toInt) := hb88
      refine ex_iconst cg_84 (ix := 48) (pc' := 92) rfl rfl ?_
      refine ex_goto cg_84 (ix := 49) (pc' := 96) rfl rfl ?_
      refine ex_ireturn cg_84 (ix := 51) rfl ?_
      exact ⟨_, rfl, rfl, by unfold sfV; rw [cx_imax, cx_imin, hck] at hb88; rw [if_neg (by omega), if_pos (by omega)]; exact kc1⟩
  · have hb34 : ¬ (lo.toInt < (f c.toNatClampNeg).toInt) := hb34
    refine ex_iload cg_84 (ix := 20) (pc' := 39) rfl rfl rfl ?_
    refine ex_aload_n cg_84 (ix := 21) (pc' := 40) rfl rfl rfl ?_
    refine ex_iload_n cg_84 (ix := 22) (pc' := 41) rfl rfl rfl ?_
    refine ex_iload_n cg_84 (ix := 23) (pc' := 42) rfl rfl rfl ?_
    refine ex_aload_n cg_84 (ix := 24) (pc' := 43) rfl rfl rfl ?_
    refine ex_getfield cg_84 (ix := 25) (pc' := 46) rfl rfl rfl rfl rfl ?_
    refine ex_iload_n cg_84 (ix := 26) (pc' := 47) rfl rfl rfl ?_
    refine ex_callV cg_84 (ix := 27) (pc' := 50) (As := [.inl (.int x)]) (r := [.inl (.int c), .inl (.int b), .inr (.inl 15), .inl (.int hi)]) rfl rfl rfl (ct_gs (x := x) (k := hN) (t := t) (s := s) hx hh) (by first | decide | omega) rfl rfl rfl ⟨rfl, rfl, rfl, trivial⟩ rfl rfl (fun v h2 hq => ?_)
    obtain ⟨rfl, rfl⟩ := hq
    show cx_T _ 84 _ 50 ([some (.inr (.inl 15)), some (.inl (.int b)), some (.inl (.int c)), some (.inl (.int x)), some (.inl (.int lo)), some (.inl (.int hi)), some (.inl (.int (f c.toNatClampNeg))), none], [.inl (.int (sw_x s hN)), .inl (.int c), .inl (.int b), .inr (.inl 15), .inl (.int hi)], [(15, .inl (7, [.inr (.inl 2), .inr (.inl 16)])), (16, .inr (.inr (.inr (3, [17, 18, 19, 20])))), (17, .inr (.inl (0, 24, F 0))), (18, .inr (.inl (0, 24, F 1))), (19, .inr (.inl (0, 24, F 2))), (20, .inr (.inl (0, 24, F 3))), (2, .inl (8, [.inr (.inl 3), .inr (.inl 4), .inr (.inl 5), .inr (.inl 10)])), (3, .inr (.inl (0, 16, t))), (4, .inr (.inl (0, 16, s)))]) _
    refine ex_callV cg_84 (ix := 28) (pc' := 53) (As := [.inl (.int b), .inl (.int c), .inl (.int (sw_x s hN))]) (r := [.inl (.int hi)]) rfl rfl rfl (ct_hg (b := b) (c := c) (sw := sw_x s hN) (cN := cN) (k1 := k1) (f := f) (F := F) hb0 hk1 hk2 hf hc hcN) (by first | decide | omega) rfl rfl rfl ⟨rfl, rfl, rfl, rfl, rfl, rfl, trivial⟩ rfl rfl (fun v h2 hq => ?_)
    obtain ⟨zg, rfl, rfl, hzg⟩ := hq
    show cx_T _ 84 _ 53 ([some (.inr (.inl 15)), some (.inl (.int b)), some (.inl (.int c)), some (.inl (.int x)), some (.inl (.int lo)), some (.inl (.int hi)), some (.inl (.int (f c.toNatClampNeg))), none], [.inl (.int zg), .inl (.int hi)], [(15, .inl (7, [.inr (.inl 2), .inr (.inl 16)])), (16, .inr (.inr (.inr (3, [17, 18, 19, 20])))), (17, .inr (.inl (0, 24, F 0))), (18, .inr (.inl (0, 24, F 1))), (19, .inr (.inl (0, 24, F 2))), (20, .inr (.inl (0, 24, F 3))), (2, .inl (8, [.inr (.inl 3), .inr (.inl 4), .inr (.inl 5), .inr (.inl 10)])), (3, .inr (.inl (0, 16, t))), (4, .inr (.inl (0, 16, s)))]) _
    refine ex_icmp cg_84 (ix := 29) (t := 58) (pc' := 56) rfl rfl rfl (fun hb53 => ?_) (fun hb53 => ?_)
    · have hb53 : zg.toInt < hi.toInt := hb53
      refine ex_aload_n cg_84 (ix := 32) (pc' := 59) rfl rfl rfl ?_
      refine ex_iload_n cg_84 (ix := 33) (pc' := 60) rfl rfl rfl ?_
      refine ex_iload_n cg_84 (ix := 34) (pc' := 61) rfl rfl rfl ?_
      refine ex_aload_n cg_84 (ix := 35) (pc' := 62) rfl rfl rfl ?_
      refine ex_getfield cg_84 (ix := 36) (pc' := 65) rfl rfl rfl rfl rfl ?_
      refine ex_iload_n cg_84 (ix := 37) (pc' := 66) rfl rfl rfl ?_
      refine ex_callV cg_84 (ix := 38) (pc' := 69) (As := [.inl (.int x)]) (r := [.inl (.int c), .inl (.int b), .inr (.inl 15)]) rfl rfl rfl (ct_ls (x := x) (k := hN) (t := t) (s := s) hx hh) (by first | decide | omega) rfl rfl rfl ⟨rfl, rfl, rfl, trivial⟩ rfl rfl (fun v h2 hq => ?_)
      obtain ⟨rfl, rfl⟩ := hq
      show cx_T _ 84 _ 69 ([some (.inr (.inl 15)), some (.inl (.int b)), some (.inl (.int c)), some (.inl (.int x)), some (.inl (.int lo)), some (.inl (.int hi)), some (.inl (.int (f c.toNatClampNeg))), none], [.inl (.int (sw_l s hN)), .inl (.int c), .inl (.int b), .inr (.inl 15)], [(15, .inl (7, [.inr (.inl 2), .inr (.inl 16)])), (16, .inr (.inr (.inr (3, [17, 18, 19, 20])))), (17, .inr (.inl (0, 24, F 0))), (18, .inr (.inl (0, 24, F 1))), (19, .inr (.inl (0, 24, F 2))), (20, .inr (.inl (0, 24, F 3))), (2, .inl (8, [.inr (.inl 3), .inr (.inl 4), .inr (.inl 5), .inr (.inl 10)])), (3, .inr (.inl (0, 16, t))), (4, .inr (.inl (0, 16, s)))]) _
      refine ex_callV cg_84 (ix := 39) (pc' := 72) (As := [.inl (.int b), .inl (.int c), .inl (.int (sw_l s hN))]) (r := []) rfl rfl rfl (ct_hg (b := b) (c := c) (sw := sw_l s hN) (cN := cN) (k1 := k1) (f := f) (F := F) hb0 hk1 hk2 hf hc hcN) (by first | decide | omega) rfl rfl rfl ⟨rfl, rfl, rfl, rfl, rfl, rfl, trivial⟩ rfl rfl (fun v h2 hq => ?_)
      obtain ⟨zl, rfl, rfl, hzl⟩ := hq
      show cx_T _ 84 _ 72 ([some (.inr (.inl 15)), some (.inl (.int b)), some (.inl (.int c)), some (.inl (.int x)), some (.inl (.int lo)), some (.inl (.int hi)), some (.inl (.int (f c.toNatClampNeg))), none], [.inl (.int zl)], [(15, .inl (7, [.inr (.inl 2), .inr (.inl 16)])), (16, .inr (.inr (.inr (3, [17, 18, 19, 20])))), (17, .inr (.inl (0, 24, F 0))), (18, .inr (.inl (0, 24, F 1))), (19, .inr (.inl (0, 24, F 2))), (20, .inr (.inl (0, 24, F 3))), (2, .inl (8, [.inr (.inl 3), .inr (.inl 4), .inr (.inl 5), .inr (.inl 10)])), (3, .inr (.inl (0, 16, t))), (4, .inr (.inl (0, 16, s)))]) _
      refine ex_istore cg_84 (ix := 40) (pc' := 74) (L' := [some (.inr (.inl 15)), some (.inl (.int b)), some (.inl (.int c)), some (.inl (.int x)), some (.inl (.int lo)), some (.inl (.int hi)), some (.inl (.int (f c.toNatClampNeg))), some (.inl (.int zl))]) rfl rfl rfl rfl ?_
      refine ex_iload cg_84 (ix := 41) (pc' := 76) rfl rfl rfl ?_
      refine ex_iload cg_84 (ix := 42) (pc' := 78) rfl rfl rfl ?_
      refine ex_max cg_84 (ix := 43) (pc' := 81) rfl rfl (by first | decide | omega) rfl rfl ?_
      refine ex_iload cg_84 (ix := 44) (pc' := 83) rfl rfl rfl ?_
      refine ex_iload cg_84 (ix := 45) (pc' := 85) rfl rfl rfl ?_
      refine ex_min cg_84 (ix := 46) (pc' := 88) rfl rfl (by first | decide | omega) rfl rfl ?_
      refine ex_icmp cg_84 (ix := 47) (t := 95) (pc' := 91) rfl rfl rfl (fun hb88 => ?_) (fun hb88 => ?_)
      · have hb88 : (if zl < hi then zl else hi).toInt < (if lo < (f c.toNatClampNeg) then (f c.toNatClampNeg) else lo).toInt := hb88
        refine ex_iconst cg_84 (ix := 50) (pc' := 96) rfl rfl ?_
        refine ex_ireturn cg_84 (ix := 51) rfl ?_
        exact ⟨_, rfl, rfl, by unfold sfV; rw [cx_imax, cx_imin, hck] at hb88; rw [if_neg (by omega), if_neg (by omega)]; exact kc0⟩
      · have hb88 : ¬ ((if zl < hi then zl else hi).toInt < (if lo < (f c.toNatClampNeg) then (f c.toNatClampNeg) else lo).toInt) := hb88
        refine ex_iconst cg_84 (ix := 48) (pc' := 92) rfl rfl ?_
        refine ex_goto cg_84 (ix := 49) (pc' := 96) rfl rfl ?_
        refine ex_ireturn cg_84 (ix := 51) rfl ?_
        exact ⟨_, rfl, rfl, by unfold sfV; rw [cx_imax, cx_imin, hck] at hb88; rw [if_neg (by omega), if_pos (by omega)]; exact kc1⟩
    · have hb53 : ¬ (zg.toInt < hi.toInt) := hb53
      refine ex_iconst cg_84 (ix := 30) (pc' := 57) rfl rfl ?_
      refine ex_ireturn cg_84 (ix := 31) rfl ?_
      exact ⟨_, rfl, rfl, by unfold sfV; rw [if_pos (by omega)]; exact kc2⟩
end
