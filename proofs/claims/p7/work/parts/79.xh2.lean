noncomputable section
theorem cg_192 : cx_G 192 tb_192 TbX11 (some .boolean) := cx_G.of gok_192
theorem cg_193 : cx_G 193 tb_193 TbX11 (some .boolean) := cx_G.of gok_193
theorem cg_190 : cx_G 190 tb_190 TbX11 (some .int) := cx_G.of gok_190
theorem cg_194 : cx_G 194 tb_194 TbX11 (some .int) := cx_G.of gok_194
def h_mb (mi : Nat → Int32) (ml : Nat → Int64) (g : Nat → Int32) : cx_H := [(119, .inl (11, vs_119 mi ml)), (121, .inr (.inl (0, 96, g)))]
/-- a rip at a cell -/
def ripQ (f : Nat → Int32) (c : Int32) (t sw : Int) : Prop := (0 ≤ c.toInt ∧ c.toInt < 24) ∧ 3 ≤ sw ∧ rt f c.toNatClampNeg ≤ t
theorem rt_alt {f : Nat → Int32} {c : Nat} : (((c = 0 ∨ 2 ≤ (f (c - 1)).toInt - (f c).toInt) ∧ (c = 23 ∨ 2 ≤ (f (c + 1)).toInt - (f c).toInt)) ∧ rt f c = (f c).toInt + 2) ∨ (¬ ((c = 0 ∨ 2 ≤ (f (c - 1)).toInt - (f c).toInt) ∧ (c = 23 ∨ 2 ≤ (f (c + 1)).toInt - (f c).toInt)) ∧ rt f c = 10) := by
  by_cases q : (c = 0 ∨ 2 ≤ (f (c - 1)).toInt - (f c).toInt) ∧ (c = 23 ∨ 2 ≤ (f (c + 1)).toInt - (f c).toInt)
  · exact Or.inl ⟨q, by unfold rt; rw [if_pos q]⟩
  · exact Or.inr ⟨q, by unfold rt; rw [if_neg q]⟩
theorem ct_rip {mi : Nat → Int32} {ml : Nat → Int64} {g : Nat → Int32} {b c tide sw : Int32} {bN : Nat} {f : Nat → Int32} (hb : b.toInt = (bN : Int)) (hbN : bN < 4) (hfg : ∀ i : Nat, i < 24 → g (24 * bN + i) = f i) (hf : bkU f) (ht0 : -9 ≤ tide.toInt) (ht9 : tide.toInt ≤ 9) : cx_Ct 4 192 [.inr (.inl 119), .inl (.int b), .inl (.int c), .inl (.int tide), .inl (.int sw)] (h_mb mi ml g) (fun v h2 => ∃ z : Int32, v = some (.inl (.int z)) ∧ h2 = h_mb mi ml g ∧ ((z = Int32.ofInt 1 ∧ ripQ f c tide.toInt sw.toInt) ∨ (z = Int32.ofInt 0 ∧ ¬ ripQ f c tide.toInt sw.toInt))) := by
  have kc0 : (Int32.ofInt 0).toInt = 0 := by decide +kernel
  have kc1 : (Int32.ofInt 1).toInt = 1 := by decide +kernel
  have kc2 : (Int32.ofInt 2).toInt = 2 := by decide +kernel
  have kc3 : (Int32.ofInt 3).toInt = 3 := by decide +kernel
  have kc23 : (Int32.ofInt 23).toInt = 23 := by decide +kernel
  have kc24 : (Int32.ofInt 24).toInt = 24 := by decide +kernel
  refine cx_Ct.of cg_192 (nL := 7) rfl rfl rfl ?_
  show cx_T 4 192 [119, 121] 0 ([some (.inr (.inl 119)), some (.inl (.int b)), some (.inl (.int c)), some (.inl (.int tide)), some (.inl (.int sw)), none, none], [], h_mb mi ml g) _
  refine ex_iload_n cg_192 (ix := 0) (pc' := 1) rfl rfl rfl ?_
  refine ex_callS cg_192 (ix := 1) (pc' := 4) (As := [.inl (.int c)]) (r := []) rfl rfl rfl (ct_mcell (x := c)) (by first | decide | omega) rfl rfl trivial rfl rfl (fun v h2 hq => ?_)
  obtain ⟨zc, rfl, rfl, hzc⟩ := hq
  rcases hzc with ⟨hzc, rfl⟩ | ⟨hzc, rfl⟩
  · show cx_T _ 192 _ 4 ([some (.inr (.inl 119)), some (.inl (.int b)), some (.inl (.int c)), some (.inl (.int tide)), some (.inl (.int sw)), none, none], [.inl (.int (Int32.ofInt 1))], [(119, .inl (11, vs_119 mi ml)), (121, .inr (.inl (0, 96, g)))]) _
    refine ex_if cg_192 (ix := 2) (t := 30) (pc' := 7) rfl rfl rfl (fun hb4 => ?_) (fun hb4 => ?_)
    · have hb4 : (Int32.ofInt 1).toInt = 0 := hb4
      exfalso; first | omega | exact absurd hb4 (by decide +kernel)
    · have hb4 : ¬ ((Int32.ofInt 1).toInt = 0) := hb4
      refine ex_iload cg_192 (ix := 3) (pc' := 9) rfl rfl rfl ?_
      refine ex_iconst cg_192 (ix := 4) (pc' := 10) rfl rfl ?_
      refine ex_icmp cg_192 (ix := 5) (t := 30) (pc' := 13) rfl rfl rfl (fun hb10 => ?_) (fun hb10 => ?_)
      · have hb10 : sw.toInt < (Int32.ofInt 3).toInt := hb10
        refine ex_iconst cg_192 (ix := 18) (pc' := 31) rfl rfl ?_
        refine ex_zreturn cg_192 (ix := 19) rfl (by first | exact Or.inl rfl | exact Or.inr rfl | (first | exact Or.inr rfl | exact Or.inl rfl)) ?_
        exact ⟨_, rfl, rfl, Or.inr ⟨rfl, fun q => by have q1 := q.1; have q2 := q.2.1; have q3 := q.2.2; omega⟩⟩
      · have hb10 : ¬ (sw.toInt < (Int32.ofInt 3).toInt) := hb10
        refine ex_iload_n cg_192 (ix := 6) (pc' := 14) rfl rfl rfl ?_
        refine ex_aload_n cg_192 (ix := 7) (pc' := 15) rfl rfl rfl ?_
        refine ex_getfield cg_192 (ix := 8) (pc' := 18) (v := .inr (.inl 121)) rfl rfl rfl rfl rfl ?_
        refine ex_bipush cg_192 (ix := 9) (pc' := 20) rfl rfl rfl ?_
        refine ex_iload_n cg_192 (ix := 10) (pc' := 21) rfl rfl rfl ?_
        refine ex_imul cg_192 (ix := 11) (pc' := 22) rfl rfl ?_
        refine ex_iload_n cg_192 (ix := 12) (pc' := 23) rfl rfl rfl ?_
        refine ex_iadd cg_192 (ix := 13) (pc' := 24) rfl rfl ?_
        have x0i : ((((Int32.ofInt 24) * b) + c)).toInt = 24 * (bN : Int) + c.toInt := by
          have e1 : ((Int32.ofInt 24) * b).toInt = 24 * b.toInt := cx_mulk (n := 24) (by decide +kernel) (by omega) (by omega)
          rw [cx_addc (by omega) (by omega), e1, hb]
        have hcC := ab_clamp (x := c) (by omega)
        have x0 : ((((Int32.ofInt 24) * b) + c)).toNatClampNeg = 24 * bN + c.toNatClampNeg := cx_clamp (by rw [x0i]; omega)
        have v0 : g ((((Int32.ofInt 24) * b) + c)).toNatClampNeg = f c.toNatClampNeg := by rw [x0]; exact hfg _ (by omega)
        have hrt := rt_alt (f := f) (c := c.toNatClampNeg)
        have hfc := hf c.toNatClampNeg (by omega)
        refine ex_iaload cg_192 (ix := 14) (pc' := 25) rfl rfl (by omega) (by omega) rfl ?_
        refine ex_isub cg_192 (ix := 15) (pc' := 26) rfl rfl ?_
        have d25 : (tide - (g ((((Int32.ofInt 24) * b) + c)).toNatClampNeg)).toInt = tide.toInt - (f c.toNatClampNeg).toInt := by rw [v0, cx_subc (by omega) (by omega)]
        refine ex_iconst cg_192 (ix := 16) (pc' := 27) rfl rfl ?_
        refine ex_icmp cg_192 (ix := 17) (t := 32) (pc' := 30) rfl rfl rfl (fun hb27 => ?_) (fun hb27 => ?_)
        · have hb27 : (Int32.ofInt 2).toInt ≤ (tide - (g (((Int32.ofInt 24) * b) + c).toNatClampNeg)).toInt := hb27
          refine ex_iload_n cg_192 (ix := 20) (pc' := 33) rfl rfl rfl ?_
          refine ex_if cg_192 (ix := 21) (t := 65) (pc' := 36) rfl rfl rfl (fun hb33 => ?_) (fun hb33 => ?_)
          · have hb33 : c.toInt = 0 := hb33
            refine ex_iconst cg_192 (ix := 43) (pc' := 66) rfl rfl ?_
            refine ex_goto cg_192 (ix := 44) (pc' := 70) rfl rfl ?_
            refine ex_istore cg_192 (ix := 46) (pc' := 72) (L' := [some (.inr (.inl 119)), some (.inl (.int b)), some (.inl (.int c)), some (.inl (.int tide)), some (.inl (.int sw)), some (.inl (.int (Int32.ofInt 1))), none]) rfl rfl rfl rfl ?_
            refine ex_iload_n cg_192 (ix := 47) (pc' := 73) rfl rfl rfl ?_
            refine ex_bipush cg_192 (ix := 48) (pc' := 75) rfl rfl rfl ?_
            refine ex_icmp cg_192 (ix := 49) (t := 107) (pc' := 78) rfl rfl rfl (fun hb75 => ?_) (fun hb75 => ?_)
            · have hb75 : c.toInt = (Int32.ofInt 23).toInt := hb75
              refine ex_iconst cg_192 (ix := 71) (pc' := 108) rfl rfl ?_
              refine ex_goto cg_192 (ix := 72) (pc' := 112) rfl rfl ?_
              refine ex_istore cg_192 (ix := 74) (pc' := 114) (L' := [some (.inr (.inl 119)), some (.inl (.int b)), some (.inl (.int c)), some (.inl (.int tide)), some (.inl (.int sw)), some (.inl (.int (Int32.ofInt 1))), some (.inl (.int (Int32.ofInt 1)))]) rfl rfl rfl rfl ?_
              refine ex_iload cg_192 (ix := 75) (pc' := 116) rfl rfl rfl ?_
              refine ex_if cg_192 (ix := 76) (t := 128) (pc' := 119) rfl rfl rfl (fun hb116 => ?_) (fun hb116 => ?_)
              · have hb116 : (Int32.ofInt 1).toInt = 0 := hb116
                exfalso; first | omega | exact absurd hb116 (by decide +kernel)
              · have hb116 : ¬ ((Int32.ofInt 1).toInt = 0) := hb116
                refine ex_iload cg_192 (ix := 77) (pc' := 121) rfl rfl rfl ?_
                refine ex_if cg_192 (ix := 78) (t := 128) (pc' := 124) rfl rfl rfl (fun hb121 => ?_) (fun hb121 => ?_)
                · have hb121 : (Int32.ofInt 1).toInt = 0 := hb121
                  exfalso; first | omega | exact absurd hb121 (by decide +kernel)
                · have hb121 : ¬ ((Int32.ofInt 1).toInt = 0) := hb121
                  refine ex_iconst cg_192 (ix := 79) (pc' := 125) rfl rfl ?_
                  refine ex_goto cg_192 (ix := 80) (pc' := 129) rfl rfl ?_
                  refine ex_zreturn cg_192 (ix := 82) rfl (by first | exact Or.inl rfl | exact Or.inr rfl | (first | exact Or.inr rfl | exact Or.inl rfl)) ?_
                  exact ⟨_, rfl, rfl, Or.inl ⟨rfl, by omega, by omega, by omega⟩⟩
            · have hb75 : ¬ (c.toInt = (Int32.ofInt 23).toInt) := hb75
              refine ex_aload_n cg_192 (ix := 50) (pc' := 79) rfl rfl rfl ?_
              refine ex_getfield cg_192 (ix := 51) (pc' := 82) (v := .inr (.inl 121)) rfl rfl rfl rfl rfl ?_
              refine ex_bipush cg_192 (ix := 52) (pc' := 84) rfl rfl rfl ?_
              refine ex_iload_n cg_192 (ix := 53) (pc' := 85) rfl rfl rfl ?_
              refine ex_imul cg_192 (ix := 54) (pc' := 86) rfl rfl ?_
              refine ex_iload_n cg_192 (ix := 55) (pc' := 87) rfl rfl rfl ?_
              refine ex_iadd cg_192 (ix := 56) (pc' := 88) rfl rfl ?_
              refine ex_iconst cg_192 (ix := 57) (pc' := 89) rfl rfl ?_
              refine ex_iadd cg_192 (ix := 58) (pc' := 90) rfl rfl ?_
              have x2i : ((((Int32.ofInt 24) * b) + c) + (Int32.ofInt 1)).toInt = 24 * (bN : Int) + c.toInt + 1 := by rw [cx_addc (by omega) (by omega), x0i, kc1]
              have v2 : g ((((Int32.ofInt 24) * b) + c) + (Int32.ofInt 1)).toNatClampNeg = f (c.toNatClampNeg + 1) := by rw [show ((((Int32.ofInt 24) * b) + c) + (Int32.ofInt 1)).toNatClampNeg = 24 * bN + (c.toNatClampNeg + 1) from cx_clamp (by rw [x2i]; omega)]; exact hfg _ (by omega)
              refine ex_iaload cg_192 (ix := 59) (pc' := 91) rfl rfl (by omega) (by omega) rfl ?_
              refine ex_aload_n cg_192 (ix := 60) (pc' := 92) rfl rfl rfl ?_
              refine ex_getfield cg_192 (ix := 61) (pc' := 95) (v := .inr (.inl 121)) rfl rfl rfl rfl rfl ?_
              refine ex_bipush cg_192 (ix := 62) (pc' := 97) rfl rfl rfl ?_
              refine ex_iload_n cg_192 (ix := 63) (pc' := 98) rfl rfl rfl ?_
              refine ex_imul cg_192 (ix := 64) (pc' := 99) rfl rfl ?_
              refine ex_iload_n cg_192 (ix := 65) (pc' := 100) rfl rfl rfl ?_
              refine ex_iadd cg_192 (ix := 66) (pc' := 101) rfl rfl ?_
              refine ex_iaload cg_192 (ix := 67) (pc' := 102) rfl rfl (by omega) (by omega) rfl ?_
              refine ex_isub cg_192 (ix := 68) (pc' := 103) rfl rfl ?_
              have d102 : ((g ((((Int32.ofInt 24) * b) + c) + (Int32.ofInt 1)).toNatClampNeg) - (g ((((Int32.ofInt 24) * b) + c)).toNatClampNeg)).toInt = (f (c.toNatClampNeg + 1)).toInt - (f c.toNatClampNeg).toInt := by rw [v0, v2]; exact bk_d hf (by omega) (by omega)
              refine ex_iconst cg_192 (ix := 69) (pc' := 104) rfl rfl ?_
              refine ex_icmp cg_192 (ix := 70) (t := 111) (pc' := 107) rfl rfl rfl (fun hb104 => ?_) (fun hb104 => ?_)
              · have hb104 : ((g ((((Int32.ofInt 24) * b) + c) + (Int32.ofInt 1)).toNatClampNeg) - (g (((Int32.ofInt 24) * b) + c).toNatClampNeg)).toInt < (Int32.ofInt 2).toInt := hb104
                refine ex_iconst cg_192 (ix := 73) (pc' := 112) rfl rfl ?_
                refine ex_istore cg_192 (ix := 74) (pc' := 114) (L' := [some (.inr (.inl 119)), some (.inl (.int b)), some (.inl (.int c)), some (.inl (.int tide)), some (.inl (.int sw)), some (.inl (.int (Int32.ofInt 1))), some (.inl (.int (Int32.ofInt 0)))]) rfl rfl rfl rfl ?_
                refine ex_iload cg_192 (ix := 75) (pc' := 116) rfl rfl rfl ?_
                refine ex_if cg_192 (ix := 76) (t := 128) (pc' := 119) rfl rfl rfl (fun hb116 => ?_) (fun hb116 => ?_)
                · have hb116 : (Int32.ofInt 1).toInt = 0 := hb116
                  exfalso; first | omega | exact absurd hb116 (by decide +kernel)
                · have hb116 : ¬ ((Int32.ofInt 1).toInt = 0) := hb116
                  refine ex_iload cg_192 (ix := 77) (pc' := 121) rfl rfl rfl ?_
                  refine ex_if cg_192 (ix := 78) (t := 128) (pc' := 124) rfl rfl rfl (fun hb121 => ?_) (fun hb121 => ?_)
                  · have hb121 : (Int32.ofInt 0).toInt = 0 := hb121
                    refine ex_iconst cg_192 (ix := 81) (pc' := 129) rfl rfl ?_
                    refine ex_zreturn cg_192 (ix := 82) rfl (by first | exact Or.inl rfl | exact Or.inr rfl | (first | exact Or.inr rfl | exact Or.inl rfl)) ?_
                    exact ⟨_, rfl, rfl, Or.inr ⟨rfl, fun q => by have q1 := q.1; have q2 := q.2.1; have q3 := q.2.2; omega⟩⟩
                  · have hb121 : ¬ ((Int32.ofInt 0).toInt = 0) := hb121
                    exfalso; first | omega | exact absurd hb121 (by decide +kernel)
              · have hb104 : ¬ (((g ((((Int32.ofInt 24) * b) + c) + (Int32.ofInt 1)).toNatClampNeg) - (g (((Int32.ofInt 24) * b) + c).toNatClampNeg)).toInt < (Int32.ofInt 2).toInt) := hb104
                refine ex_iconst cg_192 (ix := 71) (pc' := 108) rfl rfl ?_
                refine ex_goto cg_192 (ix := 72) (pc' := 112) rfl rfl ?_
                refine ex_istore cg_192 (ix := 74) (pc' := 114) (L' := [some (.inr (.inl 119)), some (.inl (.int b)), some (.inl (.int c)), some (.inl (.int tide)), some (.inl (.int sw)), some (.inl (.int (Int32.ofInt 1))), some (.inl (.int (Int32.ofInt 1)))]) rfl rfl rfl rfl ?_
                refine ex_iload cg_192 (ix := 75) (pc' := 116) rfl rfl rfl ?_
                refine ex_if cg_192 (ix := 76) (t := 128) (pc' := 119) rfl rfl rfl (fun hb116 => ?_) (fun hb116 => ?_)
                · have hb116 : (Int32.ofInt 1).toInt = 0 := hb116
                  exfalso; first | omega | exact absurd hb116 (by decide +kernel)
                · have hb116 : ¬ ((Int32.ofInt 1).toInt = 0) := hb116
                  refine ex_iload cg_192 (ix := 77) (pc' := 121) rfl rfl rfl ?_
                  refine ex_if cg_192 (ix := 78) (t := 128) (pc' := 124) rfl rfl rfl (fun hb121 => ?_) (fun hb121 => ?_)
                  · have hb121 : (Int32.ofInt 1).toInt = 0 := hb121
                    exfalso; first | omega | exact absurd hb121 (by decide +kernel)
                  · have hb121 : ¬ ((Int32.ofInt 1).toInt = 0) := hb121
                    refine ex_iconst cg_192 (ix := 79) (pc' := 125) rfl rfl ?_
                    refine ex_goto cg_192 (ix := 80) (pc' := 129) rfl rfl ?_
                    refine ex_zreturn cg_192 (ix := 82) rfl (by first | exact Or.inl rfl | exact Or.inr rfl | (first | exact Or.inr rfl | exact Or.inl rfl)) ?_
                    exact ⟨_, rfl, rfl, Or.inl ⟨rfl, by omega, by omega, by omega⟩⟩
          · have hb33 : ¬ (c.toInt = 0) := hb33
            refine ex_aload_n cg_192 (ix := 22) (pc' := 37) rfl rfl rfl ?_
            refine ex_getfield cg_192 (ix := 23) (pc' := 40) (v := .inr (.inl 121)) rfl rfl rfl rfl rfl ?_
            refine ex_bipush cg_192 (ix := 24) (pc' := 42) rfl rfl rfl ?_
            refine ex_iload_n cg_192 (ix := 25) (pc' := 43) rfl rfl rfl ?_
            refine ex_imul cg_192 (ix := 26) (pc' := 44) rfl rfl ?_
            refine ex_iload_n cg_192 (ix := 27) (pc' := 45) rfl rfl rfl ?_
            refine ex_iadd cg_192 (ix := 28) (pc' := 46) rfl rfl ?_
            refine ex_iconst cg_192 (ix := 29) (pc' := 47) rfl rfl ?_
            refine ex_isub cg_192 (ix := 30) (pc' := 48) rfl rfl ?_
            have x1i : ((((Int32.ofInt 24) * b) + c) - (Int32.ofInt 1)).toInt = 24 * (bN : Int) + c.toInt - 1 := by rw [cx_subc (by omega) (by omega), x0i, kc1]
            have v1 : g ((((Int32.ofInt 24) * b) + c) - (Int32.ofInt 1)).toNatClampNeg = f (c.toNatClampNeg - 1) := by rw [show ((((Int32.ofInt 24) * b) + c) - (Int32.ofInt 1)).toNatClampNeg = 24 * bN + (c.toNatClampNeg - 1) from cx_clamp (by rw [x1i]; omega)]; exact hfg _ (by omega)
            refine ex_iaload cg_192 (ix := 31) (pc' := 49) rfl rfl (by omega) (by omega) rfl ?_
            refine ex_aload_n cg_192 (ix := 32) (pc' := 50) rfl rfl rfl ?_
            refine ex_getfield cg_192 (ix := 33) (pc' := 53) (v := .inr (.inl 121)) rfl rfl rfl rfl rfl ?_
            refine ex_bipush cg_192 (ix := 34) (pc' := 55) rfl rfl rfl ?_
            refine ex_iload_n cg_192 (ix := 35) (pc' := 56) rfl rfl rfl ?_
            refine ex_imul cg_192 (ix := 36) (pc' := 57) rfl rfl ?_
            refine ex_iload_n cg_192 (ix := 37) (pc' := 58) rfl rfl rfl ?_
            refine ex_iadd cg_192 (ix := 38) (pc' := 59) rfl rfl ?_
            refine ex_iaload cg_192 (ix := 39) (pc' := 60) rfl rfl (by omega) (by omega) rfl ?_
            refine ex_isub cg_192 (ix := 40) (pc' := 61) rfl rfl ?_
            have d60 : ((g ((((Int32.ofInt 24) * b) + c) - (Int32.ofInt 1)).toNatClampNeg) - (g ((((Int32.ofInt 24) * b) + c)).toNatClampNeg)).toInt = (f (c.toNatClampNeg - 1)).toInt - (f c.toNatClampNeg).toInt := by rw [v0, v1]; exact bk_d hf (by omega) (by omega)
            refine ex_iconst cg_192 (ix := 41) (pc' := 62) rfl rfl ?_
            refine ex_icmp cg_192 (ix := 42) (t := 69) (pc' := 65) rfl rfl rfl (fun hb62 => ?_) (fun hb62 => ?_)
            · have hb62 : ((g ((((Int32.ofInt 24) * b) + c) - (Int32.ofInt 1)).toNatClampNeg) - (g (((Int32.ofInt 24) * b) + c).toNatClampNeg)).toInt < (Int32.ofInt 2).toInt := hb62
              refine ex_iconst cg_192 (ix := 45) (pc' := 70) rfl rfl ?_
              refine ex_istore cg_192 (ix := 46) (pc' := 72) (L' := [some (.inr (.inl 119)), some (.inl (.int b)), some (.inl (.int c)), some (.inl (.int tide)), some (.inl (.int sw)), some (.inl (.int (Int32.ofInt 0))), none]) rfl rfl rfl rfl ?_
              refine ex_iload_n cg_192 (ix := 47) (pc' := 73) rfl rfl rfl ?_
              refine ex_bipush cg_192 (ix := 48) (pc' := 75) rfl rfl rfl ?_
              refine ex_icmp cg_192 (ix := 49) (t := 107) (pc' := 78) rfl rfl rfl (fun hb75 => ?_) (fun hb75 => ?_)
              · have hb75 : c.toInt = (Int32.ofInt 23).toInt := hb75
                refine ex_iconst cg_192 (ix := 71) (pc' := 108) rfl rfl ?_
                refine ex_goto cg_192 (ix := 72) (pc' := 112) rfl rfl ?_
                refine ex_istore cg_192 (ix := 74) (pc' := 114) (L' := [some (.inr (.inl 119)), some (.inl (.int b)), some (.inl (.int c)), some (.inl (.int tide)), some (.inl (.int sw)), some (.inl (.int (Int32.ofInt 0))), some (.inl (.int (Int32.ofInt 1)))]) rfl rfl rfl rfl ?_
                refine ex_iload cg_192 (ix := 75) (pc' := 116) rfl rfl rfl ?_
                refine ex_if cg_192 (ix := 76) (t := 128) (pc' := 119) rfl rfl rfl (fun hb116 => ?_) (fun hb116 => ?_)
                · have hb116 : (Int32.ofInt 0).toInt = 0 := hb116
                  refine ex_iconst cg_192 (ix := 81) (pc' := 129) rfl rfl ?_
                  refine ex_zreturn cg_192 (ix := 82) rfl (by first | exact Or.inl rfl | exact Or.inr rfl | (first | exact Or.inr rfl | exact Or.inl rfl)) ?_
                  exact ⟨_, rfl, rfl, Or.inr ⟨rfl, fun q => by have q1 := q.1; have q2 := q.2.1; have q3 := q.2.2; omega⟩⟩
                · have hb116 : ¬ ((Int32.ofInt 0).toInt = 0) := hb116
                  exfalso; first | omega | exact absurd hb116 (by decide +kernel)
              · have hb75 : ¬ (c.toInt = (Int32.ofInt 23).toInt) := hb75
                refine ex_aload_n cg_192 (ix := 50) (pc' := 79) rfl rfl rfl ?_
                refine ex_getfield cg_192 (ix := 51) (pc' := 82) (v := .inr (.inl 121)) rfl rfl rfl rfl rfl ?_
                refine ex_bipush cg_192 (ix := 52) (pc' := 84) rfl rfl rfl ?_
                refine ex_iload_n cg_192 (ix := 53) (pc' := 85) rfl rfl rfl ?_
                refine ex_imul cg_192 (ix := 54) (pc' := 86) rfl rfl ?_
                refine ex_iload_n cg_192 (ix := 55) (pc' := 87) rfl rfl rfl ?_
                refine ex_iadd cg_192 (ix := 56) (pc' := 88) rfl rfl ?_
                refine ex_iconst cg_192 (ix := 57) (pc' := 89) rfl rfl ?_
                refine ex_iadd cg_192 (ix := 58) (pc' := 90) rfl rfl ?_
                have x2i : ((((Int32.ofInt 24) * b) + c) + (Int32.ofInt 1)).toInt = 24 * (bN : Int) + c.toInt + 1 := by rw [cx_addc (by omega) (by omega), x0i, kc1]
                have v2 : g ((((Int32.ofInt 24) * b) + c) + (Int32.ofInt 1)).toNatClampNeg = f (c.toNatClampNeg + 1) := by rw [show ((((Int32.ofInt 24) * b) + c) + (Int32.ofInt 1)).toNatClampNeg = 24 * bN + (c.toNatClampNeg + 1) from cx_clamp (by rw [x2i]; omega)]; exact hfg _ (by omega)
                refine ex_iaload cg_192 (ix := 59) (pc' := 91) rfl rfl (by omega) (by omega) rfl ?_
                refine ex_aload_n cg_192 (ix := 60) (pc' := 92) rfl rfl rfl ?_
                refine ex_getfield cg_192 (ix := 61) (pc' := 95) (v := .inr (.inl 121)) rfl rfl rfl rfl rfl ?_
                refine ex_bipush cg_192 (ix := 62) (pc' := 97) rfl rfl rfl ?_
                refine ex_iload_n cg_192 (ix := 63) (pc' := 98) rfl rfl rfl ?_
                refine ex_imul cg_192 (ix := 64) (pc' := 99) rfl rfl ?_
                refine ex_iload_n cg_192 (ix := 65) (pc' := 100) rfl rfl rfl ?_
                refine ex_iadd cg_192 (ix := 66) (pc' := 101) rfl rfl ?_
                refine ex_iaload cg_192 (ix := 67) (pc' := 102) rfl rfl (by omega) (by omega) rfl ?_
                refine ex_isub cg_192 (ix := 68) (pc' := 103) rfl rfl ?_
                have d102 : ((g ((((Int32.ofInt 24) * b) + c) + (Int32.ofInt 1)).toNatClampNeg) - (g ((((Int32.ofInt 24) * b) + c)).toNatClampNeg)).toInt = (f (c.toNatClampNeg + 1)).toInt - (f c.toNatClampNeg).toInt := by rw [v0, v2]; exact bk_d hf (by omega) (by omega)
                refine ex_iconst cg_192 (ix := 69) (pc' := 104) rfl rfl ?_
                refine ex_icmp cg_192 (ix := 70) (t := 111) (pc' := 107) rfl rfl rfl (fun hb104 => ?_) (fun hb104 => ?_)
                · have hb104 : ((g ((((Int32.ofInt 24) * b) + c) + (Int32.ofInt 1)).toNatClampNeg) - (g (((Int32.ofInt 24) * b) + c).toNatClampNeg)).toInt < (Int32.ofInt 2).toInt := hb104
                  refine ex_iconst cg_192 (ix := 73) (pc' := 112) rfl rfl ?_
                  refine ex_istore cg_192 (ix := 74) (pc' := 114) (L' := [some (.inr (.inl 119)), some (.inl (.int b)), some (.inl (.int c)), some (.inl (.int tide)), some (.inl (.int sw)), some (.inl (.int (Int32.ofInt 0))), some (.inl (.int (Int32.ofInt 0)))]) rfl rfl rfl rfl ?_
                  refine ex_iload cg_192 (ix := 75) (pc' := 116) rfl rfl rfl ?_
                  refine ex_if cg_192 (ix := 76) (t := 128) (pc' := 119) rfl rfl rfl (fun hb116 => ?_) (fun hb116 => ?_)
                  · have hb116 : (Int32.ofInt 0).toInt = 0 := hb116
                    refine ex_iconst cg_192 (ix := 81) (pc' := 129) rfl rfl ?_
                    refine ex_zreturn cg_192 (ix := 82) rfl (by first | exact Or.inl rfl | exact Or.inr rfl | (first | exact Or.inr rfl | exact Or.inl rfl)) ?_
                    exact ⟨_, rfl, rfl, Or.inr ⟨rfl, fun q => by have q1 := q.1; have q2 := q.2.1; have q3 := q.2.2; omega⟩⟩
                  · have hb116 : ¬ ((Int32.ofInt 0).toInt = 0) := hb116
                    exfalso; first | omega | exact absurd hb116 (by decide +kernel)
                · have hb104 : ¬ (((g ((((Int32.ofInt 24) * b) + c) + (Int32.ofInt 1)).toNatClampNeg) - (g (((Int32.ofInt 24) * b) + c).toNatClampNeg)).toInt < (Int32.ofInt 2).toInt) := hb104
                  refine ex_iconst cg_192 (ix := 71) (pc' := 108) rfl rfl ?_
                  refine ex_goto cg_192 (ix := 72) (pc' := 112) rfl rfl ?_
                  refine ex_istore cg_192 (ix := 74) (pc' := 114) (L' := [some (.inr (.inl 119)), some (.inl (.int b)), some (.inl (.int c)), some (.inl (.int tide)), some (.inl (.int sw)), some (.inl (.int (Int32.ofInt 0))), some (.inl (.int (Int32.ofInt 1)))]) rfl rfl rfl rfl ?_
                  refine ex_iload cg_192 (ix := 75) (pc' := 116) rfl rfl rfl ?_
                  refine ex_if cg_192 (ix := 76) (t := 128) (pc' := 119) rfl rfl rfl (fun hb116 => ?_) (fun hb116 => ?_)
                  · have hb116 : (Int32.ofInt 0).toInt = 0 := hb116
                    refine ex_iconst cg_192 (ix := 81) (pc' := 129) rfl rfl ?_
                    refine ex_zreturn cg_192 (ix := 82) rfl (by first | exact Or.inl rfl | exact Or.inr rfl | (first | exact Or.inr rfl | exact Or.inl rfl)) ?_
                    exact ⟨_, rfl, rfl, Or.inr ⟨rfl, fun q => by have q1 := q.1; have q2 := q.2.1; have q3 := q.2.2; omega⟩⟩
                  · have hb116 : ¬ ((Int32.ofInt 0).toInt = 0) := hb116
                    exfalso; first | omega | exact absurd hb116 (by decide +kernel)
            · have hb62 : ¬ (((g ((((Int32.ofInt 24) * b) + c) - (Int32.ofInt 1)).toNatClampNeg) - (g (((Int32.ofInt 24) * b) + c).toNatClampNeg)).toInt < (Int32.ofInt 2).toInt) := hb62
              refine ex_iconst cg_192 (ix := 43) (pc' := 66) rfl rfl ?_
              refine ex_goto cg_192 (ix := 44) (pc' := 70) rfl rfl ?_
              refine ex_istore cg_192 (ix := 46) (pc' := 72) (L' := [some (.inr (.inl 119)), some (.inl (.int b)), some (.inl (.int c)), some (.inl (.int tide)), some (.inl (.int sw)), some (.inl (.int (Int32.ofInt 1))), none]) rfl rfl rfl rfl ?_
              refine ex_iload_n cg_192 (ix := 47) (pc' := 73) rfl rfl rfl ?_
              refine ex_bipush cg_192 (ix := 48) (pc' := 75) rfl rfl rfl ?_
              refine ex_icmp cg_192 (ix := 49) (t := 107) (pc' := 78) rfl rfl rfl (fun hb75 => ?_) (fun hb75 => ?_)
              · have hb75 : c.toInt = (Int32.ofInt 23).toInt := hb75
                refine ex_iconst cg_192 (ix := 71) (pc' := 108) rfl rfl ?_
                refine ex_goto cg_192 (ix := 72) (pc' := 112) rfl rfl ?_
                refine ex_istore cg_192 (ix := 74) (pc' := 114) (L' := [some (.inr (.inl 119)), some (.inl (.int b)), some (.inl (.int c)), some (.inl (.int tide)), some (.inl (.int sw)), some (.inl (.int (Int32.ofInt 1))), some (.inl (.int (Int32.ofInt 1)))]) rfl rfl rfl rfl ?_
                refine ex_iload cg_192 (ix := 75) (pc' := 116) rfl rfl rfl ?_
                refine ex_if cg_192 (ix := 76) (t := 128) (pc' := 119) rfl rfl rfl (fun hb116 => ?_) (fun hb116 => ?_)
                · have hb116 : (Int32.ofInt 1).toInt = 0 := hb116
                  exfalso; first | omega | exact absurd hb116 (by decide +kernel)
                · have hb116 : ¬ ((Int32.ofInt 1).toInt = 0) := hb116
                  refine ex_iload cg_192 (ix := 77) (pc' := 121) rfl rfl rfl ?_
                  refine ex_if cg_192 (ix := 78) (t := 128) (pc' := 124) rfl rfl rfl (fun hb121 => ?_) (fun hb121 => ?_)
                  · have hb121 : (Int32.ofInt 1).toInt = 0 := hb121
                    exfalso; first | omega | exact absurd hb121 (by decide +kernel)
                  · have hb121 : ¬ ((Int32.ofInt 1).toInt = 0) := hb121
                    refine ex_iconst cg_192 (ix := 79) (pc' := 125) rfl rfl ?_
                    refine ex_goto cg_192 (ix := 80) (pc' := 129) rfl rfl ?_
                    refine ex_zreturn cg_192 (ix := 82) rfl (by first | exact Or.inl rfl | exact Or.inr rfl | (first | exact Or.inr rfl | exact Or.inl rfl)) ?_
                    exact ⟨_, rfl, rfl, Or.inl ⟨rfl, by omega, by omega, by omega⟩⟩
              · have hb75 : ¬ (c.toInt = (Int32.ofInt 23).toInt) := hb75
                refine ex_aload_n cg_192 (ix := 50) (pc' := 79) rfl rfl rfl ?_
                refine ex_getfield cg_192 (ix := 51) (pc' := 82) (v := .inr (.inl 121)) rfl rfl rfl rfl rfl ?_
                refine ex_bipush cg_192 (ix := 52) (pc' := 84) rfl rfl rfl ?_
                refine ex_iload_n cg_192 (ix := 53) (pc' := 85) rfl rfl rfl ?_
                refine ex_imul cg_192 (ix := 54) (pc' := 86) rfl rfl ?_
                refine ex_iload_n cg_192 (ix := 55) (pc' := 87) rfl rfl rfl ?_
                refine ex_iadd cg_192 (ix := 56) (pc' := 88) rfl rfl ?_
                refine ex_iconst cg_192 (ix := 57) (pc' := 89) rfl rfl ?_
                refine ex_iadd cg_192 (ix := 58) (pc' := 90) rfl rfl ?_
                have x2i : ((((Int32.ofInt 24) * b) + c) + (Int32.ofInt 1)).toInt = 24 * (bN : Int) + c.toInt + 1 := by rw [cx_addc (by omega) (by omega), x0i, kc1]
                have v2 : g ((((Int32.ofInt 24) * b) + c) + (Int32.ofInt 1)).toNatClampNeg = f (c.toNatClampNeg + 1) := by rw [show ((((Int32.ofInt 24) * b) + c) + (Int32.ofInt 1)).toNatClampNeg = 24 * bN + (c.toNatClampNeg + 1) from cx_clamp (by rw [x2i]; omega)]; exact hfg _ (by omega)
                refine ex_iaload cg_192 (ix := 59) (pc' := 91) rfl rfl (by omega) (by omega) rfl ?_
                refine ex_aload_n cg_192 (ix := 60) (pc' := 92) rfl rfl rfl ?_
                refine ex_getfield cg_192 (ix := 61) (pc' := 95) (v := .inr (.inl 121)) rfl rfl rfl rfl rfl ?_
                refine ex_bipush cg_192 (ix := 62) (pc' := 97) rfl rfl rfl ?_
                refine ex_iload_n cg_192 (ix := 63) (pc' := 98) rfl rfl rfl ?_
                refine ex_imul cg_192 (ix := 64) (pc' := 99) rfl rfl ?_
                refine ex_iload_n cg_192 (ix := 65) (pc' := 100) rfl rfl rfl ?_
                refine ex_iadd cg_192 (ix := 66) (pc' := 101) rfl rfl ?_
                refine ex_iaload cg_192 (ix := 67) (pc' := 102) rfl rfl (by omega) (by omega) rfl ?_
                refine ex_isub cg_192 (ix := 68) (pc' := 103) rfl rfl ?_
                have d102 : ((g ((((Int32.ofInt 24) * b) + c) + (Int32.ofInt 1)).toNatClampNeg) - (g ((((Int32.ofInt 24) * b) + c)).toNatClampNeg)).toInt = (f (c.toNatClampNeg + 1)).toInt - (f c.toNatClampNeg).toInt := by rw [v0, v2]; exact bk_d hf (by omega) (by omega)
                refine ex_iconst cg_192 (ix := 69) (pc' := 104) rfl rfl ?_
                refine ex_icmp cg_192 (ix := 70) (t := 111) (pc' := 107) rfl rfl rfl (fun hb104 => ?_) (fun hb104 => ?_)
                · have hb104 : ((g ((((Int32.ofInt 24) * b) + c) + (Int32.ofInt 1)).toNatClampNeg) - (g (((Int32.ofInt 24) * b) + c).toNatClampNeg)).toInt < (Int32.ofInt 2).toInt := hb104
                  refine ex_iconst cg_192 (ix := 73) (pc' := 112) rfl rfl ?_
                  refine ex_istore cg_192 (ix := 74) (pc' := 114) (L' := [some (.inr (.inl 119)), some (.inl (.int b)), some (.inl (.int c)), some (.inl (.int tide)), some (.inl (.int sw)), some (.inl (.int (Int32.ofInt 1))), some (.inl (.int (Int32.ofInt 0)))]) rfl rfl rfl rfl ?_
                  refine ex_iload cg_192 (ix := 75) (pc' := 116) rfl rfl rfl ?_
                  refine ex_if cg_192 (ix := 76) (t := 128) (pc' := 119) rfl rfl rfl (fun hb116 => ?_) (fun hb116 => ?_)
                  · have hb116 : (Int32.ofInt 1).toInt = 0 := hb116
                    exfalso; first | omega | exact absurd hb116 (by decide +kernel)
                  · have hb116 : ¬ ((Int32.ofInt 1).toInt = 0) := hb116
                    refine ex_iload cg_192 (ix := 77) (pc' := 121) rfl rfl rfl ?_
                    refine ex_if cg_192 (ix := 78) (t := 128) (pc' := 124) rfl rfl rfl (fun hb121 => ?_) (fun hb121 => ?_)
                    · have hb121 : (Int32.ofInt 0).toInt = 0 := hb121
                      refine ex_iconst cg_192 (ix := 81) (pc' := 129) rfl rfl ?_
                      refine ex_zreturn cg_192 (ix := 82) rfl (by first | exact Or.inl rfl | exact Or.inr rfl | (first | exact Or.inr rfl | exact Or.inl rfl)) ?_
                      exact ⟨_, rfl, rfl, Or.inr ⟨rfl, fun q => by have q1 := q.1; have q2 := q.2.1; have q3 := q.2.2; omega⟩⟩
                    · have hb121 : ¬ ((Int32.ofInt 0).toInt = 0) := hb121
                      exfalso; first | omega | exact absurd hb121 (by decide +kernel)
                · have hb104 : ¬ (((g ((((Int32.ofInt 24) * b) + c) + (Int32.ofInt 1)).toNatClampNeg) - (g (((Int32.ofInt 24) * b) + c).toNatClampNeg)).toInt < (Int32.ofInt 2).toInt) := hb104
                  refine ex_iconst cg_192 (ix := 71) (pc' := 108) rfl rfl ?_
                  refine ex_goto cg_192 (ix := 72) (pc' := 112) rfl rfl ?_
                  refine ex_istore cg_192 (ix := 74) (pc' := 114) (L' := [some (.inr (.inl 119)), some (.inl (.int b)), some (.inl (.int c)), some (.inl (.int tide)), some (.inl (.int sw)), some (.inl (.int (Int32.ofInt 1))), some (.inl (.int (Int32.ofInt 1)))]) rfl rfl rfl rfl ?_
                  refine ex_iload cg_192 (ix := 75) (pc' := 116) rfl rfl rfl ?_
                  refine ex_if cg_192 (ix := 76) (t := 128) (pc' := 119) rfl rfl rfl (fun hb116 => ?_) (fun hb116 => ?_)
                  · have hb116 : (Int32.ofInt 1).toInt = 0 := hb116
                    exfalso; first | omega | exact absurd hb116 (by decide +kernel)
                  · have hb116 : ¬ ((Int32.ofInt 1).toInt = 0) := hb116
                    refine ex_iload cg_192 (ix := 77) (pc' := 121) rfl rfl rfl ?_
                    refine ex_if cg_192 (ix := 78) (t := 128) (pc' := 124) rfl rfl rfl (fun hb121 => ?_) (fun hb121 => ?_)
                    · have hb121 : (Int32.ofInt 1).toInt = 0 := hb121
                      exfalso; first | omega | exact absurd hb121 (by decide +kernel)
                    · have hb121 : ¬ ((Int32.ofInt 1).toInt = 0) := hb121
                      refine ex_iconst cg_192 (ix := 79) (pc' := 125) rfl rfl ?_
                      refine ex_goto cg_192 (ix := 80) (pc' := 129) rfl rfl ?_
                      refine ex_zreturn cg_192 (ix := 82) rfl (by first | exact Or.inl rfl | exact Or.inr rfl | (first | exact Or.inr rfl | exact Or.inl rfl)) ?_
                      exact ⟨_, rfl, rfl, Or.inl ⟨rfl, by omega, by omega, by omega⟩⟩
        · have hb27 : ¬ ((Int32.ofInt 2).toInt ≤ (tide - (g (((Int32.ofInt 24) * b) + c).toNatClampNeg)).toInt) := hb27
          refine ex_iconst cg_192 (ix := 18) (pc' := 31) rfl rfl ?_
          refine ex_zreturn cg_192 (ix := 19) rfl (by first | exact Or.inl rfl | exact Or.inr rfl | (first | exact Or.inr rfl | exact Or.inl rfl)) ?_
          exact ⟨_, rfl, rfl, Or.inr ⟨rfl, fun q => by have q1 := q.1; have q2 := q.2.1; have q3 := q.2.2; omega⟩⟩
  · show cx_T _ 192 _ 4 ([some (.inr (.inl 119)), some (.inl (.int b)), some (.inl (.int c)), some (.inl (.int tide)), some (.inl (.int sw)), none, none], [.inl (.int (Int32.ofInt 0))], [(119, .inl (11, vs_119 mi ml)), (121, .inr (.inl (0, 96, g)))]) _
    refine ex_if cg_192 (ix := 2) (t := 30) (pc' := 7) rfl rfl rfl (fun hb4 => ?_) (fun hb4 => ?_)
    · have hb4 : (Int32.ofInt 0).toInt = 0 := hb4
      refine ex_iconst cg_192 (ix := 18) (pc' := 31) rfl rfl ?_
      refine ex_zreturn cg_192 (ix := 19) rfl (by first | exact Or.inl rfl | exact Or.inr rfl | (first | exact Or.inr rfl | exact Or.inl rfl)) ?_
      exact ⟨_, rfl, rfl, Or.inr ⟨rfl, fun q => by have q1 := q.1; have q2 := q.2.1; have q3 := q.2.2; omega⟩⟩
    · have hb4 : ¬ ((Int32.ofInt 0).toInt = 0) := hb4
      exfalso; first | omega | exact absurd hb4 (by decide +kernel)
theorem rip_no {f : Nat → Int32} {c : Int32} {cN : Nat} {t sw : Int} (hc : c.toInt = (cN : Int)) (hcN : cN < 24) (h3 : 3 ≤ sw) : ¬ ripQ f c t sw ↔ t < rt f cN := by
  have e0 : c.toNatClampNeg = cN := cx_clamp hc
  unfold ripQ
  rw [e0]
  constructor
  · intro q
    rcases (show t < rt f cN ∨ rt f cN ≤ t by omega) with z | z
    · exact z
    · exact absurd ⟨by omega, h3, z⟩ q
  · intro q r
    have := r.2.2
    omega
theorem hg_3 {f : Nat → Int32} {b : Int} {lo : Nat} : hgF f b lo 3 = min (min (min b (rt f lo - 1)) (rt f (lo + 1) - 1)) (rt f (lo + 2) - 1) := rfl
theorem hg_2 {f : Nat → Int32} {b : Int} {lo : Nat} : hgF f b lo 2 = min (min b (rt f lo - 1)) (rt f (lo + 1) - 1) := rfl
theorem good_iff {f : Nat → Int32} {c cl cr : Int32} {cN : Nat} {t sw : Int} (hc : c.toInt = (cN : Int)) (hcN : cN < 24) (hl : cl.toInt = (cN : Int) - 1) (hr : cr.toInt = (cN : Int) + 1) : (¬ ripQ f c t sw ∧ ¬ ripQ f cl t sw ∧ ¬ ripQ f cr t sw ∧ (0 ≤ t - (f cN).toInt ∧ t - (f cN).toInt ≤ 4) ∧ sw ≤ 6) ↔ ((f cN).toInt ≤ t ∧ t ≤ hg f cN sw) := by
  by_cases h6 : 6 < sw
  · have hh : hg f cN sw = (f cN).toInt - 1 := by unfold hg; rw [if_pos h6]
    rw [hh]
    constructor
    · intro q
      have := q.2.2.2.2
      omega
    · intro q
      omega
  · by_cases h3 : sw < 3
    · have hh : hg f cN sw = (f cN).toInt + 4 := by unfold hg; rw [if_neg h6, if_pos h3]
      rw [hh]
      constructor
      · intro q
        have := q.2.2.2.1
        omega
      · intro q
        refine ⟨fun r => ?_, fun r => ?_, fun r => ?_, by omega, by omega⟩
        · have := r.2.1
          omega
        · have := r.2.1
          omega
        · have := r.2.1
          omega
    · have hh : hg f cN sw = hgF f ((f cN).toInt + 4) (cN - 1) (min 23 (cN + 1) + 1 - (cN - 1)) := by unfold hg; rw [if_neg h6, if_neg h3]
      have r0 := rip_no (f := f) (t := t) (sw := sw) hc hcN (by omega)
      rw [hh, r0]
      rcases (show cN = 0 ∨ cN = 23 ∨ (1 ≤ cN ∧ cN ≤ 22) by omega) with q | q | q
      · subst q
        have r2 := rip_no (f := f) (t := t) (sw := sw) (c := cr) (cN := 1) (by omega) (by omega) (by omega)
        have r1 : ¬ ripQ f cl t sw := fun r => by have := r.1; omega
        rw [show min 23 (0 + 1) + 1 - (0 - 1) = 2 by omega, hg_2, r2]
        show _ ↔ (f 0).toInt ≤ t ∧ t ≤ min (min ((f 0).toInt + 4) (rt f 0 - 1)) (rt f 1 - 1)
        constructor
        · intro z
          omega
        · intro z
          exact ⟨by omega, r1, by omega, by omega, by omega⟩
      · subst q
        have r1 := rip_no (f := f) (t := t) (sw := sw) (c := cl) (cN := 22) (by omega) (by omega) (by omega)
        have r2 : ¬ ripQ f cr t sw := fun r => by have := r.1; omega
        rw [show min 23 (23 + 1) + 1 - (23 - 1) = 2 by omega, hg_2, r1]
        show _ ↔ (f 23).toInt ≤ t ∧ t ≤ min (min ((f 23).toInt + 4) (rt f 22 - 1)) (rt f 23 - 1)
        constructor
        · intro z
          omega
        · intro z
          exact ⟨by omega, by omega, r2, by omega, by omega⟩
      · obtain ⟨y, rfl⟩ : ∃ y, cN = y + 1 := ⟨cN - 1, by omega⟩
        have r1 := rip_no (f := f) (t := t) (sw := sw) (c := cl) (cN := y) (by omega) (by omega) (by omega)
        have r2 := rip_no (f := f) (t := t) (sw := sw) (c := cr) (cN := y + 2) (by omega) (by omega) (by omega)
        rw [show min 23 (y + 1 + 1) + 1 - (y + 1 - 1) = 3 by omega, show y + 1 - 1 = y by omega, hg_3, r1, r2]
        constructor
        · intro z
          omega
        · intro z
          exact ⟨by omega, by omega, by omega, by omega, by omega⟩
theorem ct_good {mi : Nat → Int32} {ml : Nat → Int64} {g : Nat → Int32} {b c tide sw : Int32} {bN cN : Nat} {f : Nat → Int32} (hb : b.toInt = (bN : Int)) (hbN : bN < 4) (hfg : ∀ i : Nat, i < 24 → g (24 * bN + i) = f i) (hf : bkU f) (ht0 : -9 ≤ tide.toInt) (ht9 : tide.toInt ≤ 9) (hc : c.toInt = (cN : Int)) (hcN : cN < 24) : cx_Ct 5 193 [.inr (.inl 119), .inl (.int b), .inl (.int c), .inl (.int tide), .inl (.int sw)] (h_mb mi ml g) (fun v h2 => ∃ z : Int32, v = some (.inl (.int z)) ∧ h2 = h_mb mi ml g ∧ ((z = Int32.ofInt 1 ∧ ((f cN).toInt ≤ tide.toInt ∧ tide.toInt ≤ hg f cN sw.toInt)) ∨ (z = Int32.ofInt 0 ∧ ¬ ((f cN).toInt ≤ tide.toInt ∧ tide.toInt ≤ hg f cN sw.toInt)))) := by
  have kc0 : (Int32.ofInt 0).toInt = 0 := by decide +kernel
  have kc1 : (Int32.ofInt 1).toInt = 1 := by decide +kernel
  have kc4 : (Int32.ofInt 4).toInt = 4 := by decide +kernel
  have kc6 : (Int32.ofInt 6).toInt = 6 := by decide +kernel
  have kc24 : (Int32.ofInt 24).toInt = 24 := by decide +kernel
  have hck : c.toNatClampNeg = cN := cx_clamp hc
  have hgi := good_iff (f := f) (c := c) (cl := c - Int32.ofInt 1) (cr := c + Int32.ofInt 1) (cN := cN) (t := tide.toInt) (sw := sw.toInt) hc hcN (by rw [cx_subc (by omega) (by omega)]; omega) (by rw [cx_addc (by omega) (by omega)]; omega)
  rw [← hck] at hgi ⊢
  refine cx_Ct.of cg_193 (nL := 6) rfl rfl rfl ?_
  show cx_T 5 193 [119, 121] 0 ([some (.inr (.inl 119)), some (.inl (.int b)), some (.inl (.int c)), some (.inl (.int tide)), some (.inl (.int sw)), none], [], h_mb mi ml g) _
  refine ex_aload_n cg_193 (ix := 0) (pc' := 1) rfl rfl rfl ?_
  refine ex_iload_n cg_193 (ix := 1) (pc' := 2) rfl rfl rfl ?_
  refine ex_iload_n cg_193 (ix := 2) (pc' := 3) rfl rfl rfl ?_
  refine ex_iload_n cg_193 (ix := 3) (pc' := 4) rfl rfl rfl ?_
  refine ex_iload cg_193 (ix := 4) (pc' := 6) rfl rfl rfl ?_
  refine ex_callV cg_193 (ix := 5) (pc' := 9) (As := [.inl (.int b), .inl (.int c), .inl (.int tide), .inl (.int sw)]) (r := []) rfl rfl rfl (ct_rip (mi := mi) (ml := ml) (g := g) (b := b) (c := c) (tide := tide) (sw := sw) (bN := bN) (f := f) hb hbN hfg hf ht0 ht9) (by first | decide | omega) rfl rfl rfl ⟨rfl, rfl, trivial⟩ rfl rfl (fun v h2 hq => ?_)
  obtain ⟨zr, rfl, rfl, hr0⟩ := hq
  rcases hr0 with ⟨rfl, hr0⟩ | ⟨rfl, hr0⟩
  · show cx_T _ 193 _ 9 ([some (.inr (.inl 119)), some (.inl (.int b)), some (.inl (.int c)), some (.inl (.int tide)), some (.inl (.int sw)), none], [.inl (.int (Int32.ofInt 1))], [(119, .inl (11, vs_119 mi ml)), (121, .inr (.inl (0, 96, g)))]) _
    refine ex_if cg_193 (ix := 6) (t := 40) (pc' := 12) rfl rfl rfl (fun hb9 => ?_) (fun hb9 => ?_)
    · have hb9 : ¬ (Int32.ofInt 1).toInt = 0 := hb9
      refine ex_iconst cg_193 (ix := 25) (pc' := 41) rfl rfl ?_
      refine ex_goto cg_193 (ix := 26) (pc' := 45) rfl rfl ?_
      refine ex_istore cg_193 (ix := 28) (pc' := 47) (L' := [some (.inr (.inl 119)), some (.inl (.int b)), some (.inl (.int c)), some (.inl (.int tide)), some (.inl (.int sw)), some (.inl (.int (Int32.ofInt 1)))]) rfl rfl rfl rfl ?_
      refine ex_iload cg_193 (ix := 29) (pc' := 49) rfl rfl rfl ?_
      refine ex_if cg_193 (ix := 30) (t := 84) (pc' := 52) rfl rfl rfl (fun hb49 => ?_) (fun hb49 => ?_)
      · have hb49 : ¬ (Int32.ofInt 1).toInt = 0 := hb49
        refine ex_iconst cg_193 (ix := 50) (pc' := 85) rfl rfl ?_
        refine ex_zreturn cg_193 (ix := 51) rfl (by first | exact Or.inl rfl | exact Or.inr rfl | (first | exact Or.inr rfl | exact Or.inl rfl)) ?_
        refine ⟨_, rfl, rfl, Or.inr ⟨rfl, fun q => ?_⟩⟩
        have q2 := hgi.mpr q
        first | exact q2.1 hr0 | exact q2.2.1 hr1 | exact q2.2.2.1 hr2 | (have q3 := q2.2.2.2; omega)
      · have hb49 : ¬ (¬ (Int32.ofInt 1).toInt = 0) := hb49
        exfalso; first | omega | exact absurd hb49 (by decide +kernel)
    · have hb9 : ¬ (¬ (Int32.ofInt 1).toInt = 0) := hb9
      exfalso; first | omega | exact absurd hb9 (by decide +kernel)
  · show cx_T _ 193 _ 9 ([some (.inr (.inl 119)), some (.inl (.int b)), some (.inl (.int c)), some (.inl (.int tide)), some (.inl (.int sw)), none], [.inl (.int (Int32.ofInt 0))], [(119, .inl (11, vs_119 mi ml)), (121, .inr (.inl (0, 96, g)))]) _
    refine ex_if cg_193 (ix := 6) (t := 40) (pc' := 12) rfl rfl rfl (fun hb9 => ?_) (fun hb9 => ?_)
    · have hb9 : ¬ (Int32.ofInt 0).toInt = 0 := hb9
      exfalso; first | omega | exact absurd hb9 (by decide +kernel)
    · have hb9 : ¬ (¬ (Int32.ofInt 0).toInt = 0) := hb9
      refine ex_aload_n cg_193 (ix := 7) (pc' := 13) rfl rfl rfl ?_
      refine ex_iload_n cg_193 (ix := 8) (pc' := 14) rfl rfl rfl ?_
      refine ex_iload_n cg_193 (ix := 9) (pc' := 15) rfl rfl rfl ?_
      refine ex_iconst cg_193 (ix := 10) (pc' := 16) rfl rfl ?_
      refine ex_isub cg_193 (ix := 11) (pc' := 17) rfl rfl ?_
      refine ex_iload_n cg_193 (ix := 12) (pc' := 18) rfl rfl rfl ?_
      refine ex_iload cg_193 (ix := 13) (pc' := 20) rfl rfl rfl ?_
      refine ex_callV cg_193 (ix := 14) (pc' := 23) (As := [.inl (.int b), .inl (.int (c - (Int32.ofInt 1))), .inl (.int tide), .inl (.int sw)]) (r := []) rfl rfl rfl (ct_rip (mi := mi) (ml := ml) (g := g) (b := b) (c := c - (Int32.ofInt 1)) (tide := tide) (sw := sw) (bN := bN) (f := f) hb hbN hfg hf ht0 ht9) (by first | decide | omega) rfl rfl rfl ⟨rfl, rfl, trivial⟩ rfl rfl (fun v h2 hq => ?_)
      obtain ⟨zr, rfl, rfl, hr1⟩ := hq
      rcases hr1 with ⟨rfl, hr1⟩ | ⟨rfl, hr1⟩
      · show cx_T _ 193 _ 23 ([some (.inr (.inl 119)), some (.inl (.int b)), some (.inl (.int c)), some (.inl (.int tide)), some (.inl (.int sw)), none], [.inl (.int (Int32.ofInt 1))], [(119, .inl (11, vs_119 mi ml)), (121, .inr (.inl (0, 96, g)))]) _
        refine ex_if cg_193 (ix := 15) (t := 40) (pc' := 26) rfl rfl rfl (fun hb23 => ?_) (fun hb23 => ?_)
        · have hb23 : ¬ (Int32.ofInt 1).toInt = 0 := hb23
          refine ex_iconst cg_193 (ix := 25) (pc' := 41) rfl rfl ?_
          refine ex_goto cg_193 (ix := 26) (pc' := 45) rfl rfl ?_
          refine ex_istore cg_193 (ix := 28) (pc' := 47) (L' := [some (.inr (.inl 119)), some (.inl (.int b)), some (.inl (.int c)), some (.inl (.int tide)), some (.inl (.int sw)), some (.inl (.int (Int32.ofInt 1)))]) rfl rfl rfl rfl ?_
          refine ex_iload cg_193 (ix := 29) (pc' := 49) rfl rfl rfl ?_
          refine ex_if cg_193 (ix := 30) (t := 84) (pc' := 52) rfl rfl rfl (fun hb49 => ?_) (fun hb49 => ?_)
          · have hb49 : ¬ (Int32.ofInt 1).toInt = 0 := hb49
            refine ex_iconst cg_193 (ix := 50) (pc' := 85) rfl rfl ?_
            refine ex_zreturn cg_193 (ix := 51) rfl (by first | exact Or.inl rfl | exact Or.inr rfl | (first | exact Or.inr rfl | exact Or.inl rfl)) ?_
            refine ⟨_, rfl, rfl, Or.inr ⟨rfl, fun q => ?_⟩⟩
            have q2 := hgi.mpr q
            first | exact q2.1 hr0 | exact q2.2.1 hr1 | exact q2.2.2.1 hr2 | (have q3 := q2.2.2.2; omega)
          · have hb49 : ¬ (¬ (Int32.ofInt 1).toInt = 0) := hb49
            exfalso; first | omega | exact absurd hb49 (by decide +kernel)
        · have hb23 : ¬ (¬ (Int32.ofInt 1).toInt = 0) := hb23
          exfalso; first | omega | exact absurd hb23 (by decide +kernel)
      · show cx_T _ 193 _ 23 ([some (.inr (.inl 119)), some (.inl (.int b)), some (.inl (.int c)), some (.inl (.int tide)), some (.inl (.int sw)), none], [.inl (.int (Int32.ofInt 0))], [(119, .inl (11, vs_119 mi ml)), (121, .inr (.inl (0, 96, g)))]) _
        refine ex_if cg_193 (ix := 15) (t := 40) (pc' := 26) rfl rfl rfl (fun hb23 => ?_) (fun hb23 => ?_)
        · have hb23 : ¬ (Int32.ofInt 0).toInt = 0 := hb23
          exfalso; first | omega | exact absurd hb23 (by decide +kernel)
        · have hb23 : ¬ (¬ (Int32.ofInt 0).toInt = 0) := hb23
          refine ex_aload_n cg_193 (ix := 16) (pc' := 27) rfl rfl rfl ?_
          refine ex_iload_n cg_193 (ix := 17) (pc' := 28) rfl rfl rfl ?_
          refine ex_iload_n cg_193 (ix := 18) (pc' := 29) rfl rfl rfl ?_
          refine ex_iconst cg_193 (ix := 19) (pc' := 30) rfl rfl ?_
          refine ex_iadd cg_193 (ix := 20) (pc' := 31) rfl rfl ?_
          refine ex_iload_n cg_193 (ix := 21) (pc' := 32) rfl rfl rfl ?_
          refine ex_iload cg_193 (ix := 22) (pc' := 34) rfl rfl rfl ?_
          refine ex_callV cg_193 (ix := 23) (pc' := 37) (As := [.inl (.int b), .inl (.int (c + (Int32.ofInt 1))), .inl (.int tide), .inl (.int sw)]) (r := []) rfl rfl rfl (ct_rip (mi := mi) (ml := ml) (g := g) (b := b) (c := c + (Int32.ofInt 1)) (tide := tide) (sw := sw) (bN := bN) (f := f) hb hbN hfg hf ht0 ht9) (by first | decide | omega) rfl rfl rfl ⟨rfl, rfl, trivial⟩ rfl rfl (fun v h2 hq => ?_)
          obtain ⟨zr, rfl, rfl, hr2⟩ := hq
          rcases hr2 with ⟨rfl, hr2⟩ | ⟨rfl, hr2⟩
          · show cx_T _ 193 _ 37 ([some (.inr (.inl 119)), some (.inl (.int b)), some (.inl (.int c)), some (.inl (.int tide)), some (.inl (.int sw)), none], [.inl (.int (Int32.ofInt 1))], [(119, .inl (11, vs_119 mi ml)), (121, .inr (.inl (0, 96, g)))]) _
            refine ex_if cg_193 (ix := 24) (t := 44) (pc' := 40) rfl rfl rfl (fun hb37 => ?_) (fun hb37 => ?_)
            · have hb37 : (Int32.ofInt 1).toInt = 0 := hb37
              exfalso; first | omega | exact absurd hb37 (by decide +kernel)
            · have hb37 : ¬ ((Int32.ofInt 1).toInt = 0) := hb37
              refine ex_iconst cg_193 (ix := 25) (pc' := 41) rfl rfl ?_
              refine ex_goto cg_193 (ix := 26) (pc' := 45) rfl rfl ?_
              refine ex_istore cg_193 (ix := 28) (pc' := 47) (L' := [some (.inr (.inl 119)), some (.inl (.int b)), some (.inl (.int c)), some (.inl (.int tide)), some (.inl (.int sw)), some (.inl (.int (Int32.ofInt 1)))]) rfl rfl rfl rfl ?_
              refine ex_iload cg_193 (ix := 29) (pc' := 49) rfl rfl rfl ?_
              refine ex_if cg_193 (ix := 30) (t := 84) (pc' := 52) rfl rfl rfl (fun hb49 => ?_) (fun hb49 => ?_)
              · have hb49 : ¬ (Int32.ofInt 1).toInt = 0 := hb49
                refine ex_iconst cg_193 (ix := 50) (pc' := 85) rfl rfl ?_
                refine ex_zreturn cg_193 (ix := 51) rfl (by first | exact Or.inl rfl | exact Or.inr rfl | (first | exact Or.inr rfl | exact Or.inl rfl)) ?_
                refine ⟨_, rfl, rfl, Or.inr ⟨rfl, fun q => ?_⟩⟩
                have q2 := hgi.mpr q
                first | exact q2.1 hr0 | exact q2.2.1 hr1 | exact q2.2.2.1 hr2 | (have q3 := q2.2.2.2; omega)
              · have hb49 : ¬ (¬ (Int32.ofInt 1).toInt = 0) := hb49
                exfalso; first | omega | exact absurd hb49 (by decide +kernel)
          · show cx_T _ 193 _ 37 ([some (.inr (.inl 119)), some (.inl (.int b)), some (.inl (.int c)), some (.inl (.int tide)), some (.inl (.int sw)), none], [.inl (.int (Int32.ofInt 0))], [(119, .inl (11, vs_119 mi ml)), (121, .inr (.inl (0, 96, g)))]) _
            refine ex_if cg_193 (ix := 24) (t := 44) (pc' := 40) rfl rfl rfl (fun hb37 => ?_) (fun hb37 => ?_)
            · have hb37 : (Int32.ofInt 0).toInt = 0 := hb37
              refine ex_iconst cg_193 (ix := 27) (pc' := 45) rfl rfl ?_
              refine ex_istore cg_193 (ix := 28) (pc' := 47) (L' := [some (.inr (.inl 119)), some (.inl (.int b)), some (.inl (.int c)), some (.inl (.int tide)), some (.inl (.int sw)), some (.inl (.int (Int32.ofInt 0)))]) rfl rfl rfl rfl ?_
              refine ex_iload cg_193 (ix := 29) (pc' := 49) rfl rfl rfl ?_
              refine ex_if cg_193 (ix := 30) (t := 84) (pc' := 52) rfl rfl rfl (fun hb49 => ?_) (fun hb49 => ?_)
              · have hb49 : ¬ (Int32.ofInt 0).toInt = 0 := hb49
                exfalso; first | omega | exact absurd hb49 (by decide +kernel)
              · have hb49 : ¬ (¬ (Int32.ofInt 0).toInt = 0) := hb49
                refine ex_iload_n cg_193 (ix := 31) (pc' := 53) rfl rfl rfl ?_
                refine ex_aload_n cg_193 (ix := 32) (pc' := 54) rfl rfl rfl ?_
                refine ex_getfield cg_193 (ix := 33) (pc' := 57) (v := .inr (.inl 121)) rfl rfl rfl rfl rfl ?_
                refine ex_bipush cg_193 (ix := 34) (pc' := 59) rfl rfl rfl ?_
                refine ex_iload_n cg_193 (ix := 35) (pc' := 60) rfl rfl rfl ?_
                refine ex_imul cg_193 (ix := 36) (pc' := 61) rfl rfl ?_
                refine ex_iload_n cg_193 (ix := 37) (pc' := 62) rfl rfl rfl ?_
                refine ex_iadd cg_193 (ix := 38) (pc' := 63) rfl rfl ?_
                have x0i : ((((Int32.ofInt 24) * b) + c)).toInt = 24 * (bN : Int) + c.toInt := by
                  have e1 : ((Int32.ofInt 24) * b).toInt = 24 * b.toInt := cx_mulk (n := 24) (by decide +kernel) (by omega) (by omega)
                  rw [cx_addc (by omega) (by omega), e1, hb]
                have hcC := ab_clamp (x := c) (by omega)
                have x0 : ((((Int32.ofInt 24) * b) + c)).toNatClampNeg = 24 * bN + c.toNatClampNeg := cx_clamp (by rw [x0i]; omega)
                have v0 : g ((((Int32.ofInt 24) * b) + c)).toNatClampNeg = f c.toNatClampNeg := by rw [x0]; exact hfg _ (by omega)
                have hfc := hf c.toNatClampNeg (by omega)
                refine ex_iaload cg_193 (ix := 39) (pc' := 64) rfl rfl (by omega) (by omega) rfl ?_
                refine ex_isub cg_193 (ix := 40) (pc' := 65) rfl rfl ?_
                have d64 : (tide - (g ((((Int32.ofInt 24) * b) + c)).toNatClampNeg)).toInt = tide.toInt - (f c.toNatClampNeg).toInt := by rw [v0, cx_subc (by omega) (by omega)]
                refine ex_iconst cg_193 (ix := 41) (pc' := 66) rfl rfl ?_
                refine ex_iconst cg_193 (ix := 42) (pc' := 67) rfl rfl ?_
                refine ex_callS cg_193 (ix := 43) (pc' := 70) (As := [.inl (.int (tide - (g (((Int32.ofInt 24) * b) + c).toNatClampNeg))), .inl (.int (Int32.ofInt 0)), .inl (.int (Int32.ofInt 4))]) (r := []) rfl rfl rfl (ct_min (x := tide - (g (((Int32.ofInt 24) * b) + c).toNatClampNeg)) (a := Int32.ofInt 0) (b := Int32.ofInt 4)) (by first | decide | omega) rfl rfl trivial rfl rfl (fun v h2 hq => ?_)
                obtain ⟨zi, rfl, rfl, hzi⟩ := hq
                rw [d64] at hzi
                rcases hzi with ⟨hzi, rfl⟩ | ⟨hzi, rfl⟩
                · show cx_T _ 193 _ 70 ([some (.inr (.inl 119)), some (.inl (.int b)), some (.inl (.int c)), some (.inl (.int tide)), some (.inl (.int sw)), some (.inl (.int (Int32.ofInt 0)))], [.inl (.int (Int32.ofInt 1))], [(119, .inl (11, vs_119 mi ml)), (121, .inr (.inl (0, 96, g)))]) _
                  refine ex_if cg_193 (ix := 44) (t := 84) (pc' := 73) rfl rfl rfl (fun hb70 => ?_) (fun hb70 => ?_)
                  · have hb70 : (Int32.ofInt 1).toInt = 0 := hb70
                    exfalso; first | omega | exact absurd hb70 (by decide +kernel)
                  · have hb70 : ¬ ((Int32.ofInt 1).toInt = 0) := hb70
                    refine ex_iload cg_193 (ix := 45) (pc' := 75) rfl rfl rfl ?_
                    refine ex_bipush cg_193 (ix := 46) (pc' := 77) rfl rfl rfl ?_
                    refine ex_icmp cg_193 (ix := 47) (t := 84) (pc' := 80) rfl rfl rfl (fun hb77 => ?_) (fun hb77 => ?_)
                    · have hb77 : (Int32.ofInt 6).toInt < sw.toInt := hb77
                      refine ex_iconst cg_193 (ix := 50) (pc' := 85) rfl rfl ?_
                      refine ex_zreturn cg_193 (ix := 51) rfl (by first | exact Or.inl rfl | exact Or.inr rfl | (first | exact Or.inr rfl | exact Or.inl rfl)) ?_
                      refine ⟨_, rfl, rfl, Or.inr ⟨rfl, fun q => ?_⟩⟩
                      have q2 := hgi.mpr q
                      first | exact q2.1 hr0 | exact q2.2.1 hr1 | exact q2.2.2.1 hr2 | (have q3 := q2.2.2.2; omega)
                    · have hb77 : ¬ ((Int32.ofInt 6).toInt < sw.toInt) := hb77
                      refine ex_iconst cg_193 (ix := 48) (pc' := 81) rfl rfl ?_
                      refine ex_goto cg_193 (ix := 49) (pc' := 85) rfl rfl ?_
                      refine ex_zreturn cg_193 (ix := 51) rfl (by first | exact Or.inl rfl | exact Or.inr rfl | (first | exact Or.inr rfl | exact Or.inl rfl)) ?_
                      exact ⟨_, rfl, rfl, Or.inl ⟨rfl, hgi.mp ⟨hr0, hr1, hr2, by omega, by omega⟩⟩⟩
                · show cx_T _ 193 _ 70 ([some (.inr (.inl 119)), some (.inl (.int b)), some (.inl (.int c)), some (.inl (.int tide)), some (.inl (.int sw)), some (.inl (.int (Int32.ofInt 0)))], [.inl (.int (Int32.ofInt 0))], [(119, .inl (11, vs_119 mi ml)), (121, .inr (.inl (0, 96, g)))]) _
                  refine ex_if cg_193 (ix := 44) (t := 84) (pc' := 73) rfl rfl rfl (fun hb70 => ?_) (fun hb70 => ?_)
                  · have hb70 : (Int32.ofInt 0).toInt = 0 := hb70
                    refine ex_iconst cg_193 (ix := 50) (pc' := 85) rfl rfl ?_
                    refine ex_zreturn cg_193 (ix := 51) rfl (by first | exact Or.inl rfl | exact Or.inr rfl | (first | exact Or.inr rfl | exact Or.inl rfl)) ?_
                    refine ⟨_, rfl, rfl, Or.inr ⟨rfl, fun q => ?_⟩⟩
                    have q2 := hgi.mpr q
                    first | exact q2.1 hr0 | exact q2.2.1 hr1 | exact q2.2.2.1 hr2 | (have q3 := q2.2.2.2; omega)
                  · have hb70 : ¬ ((Int32.ofInt 0).toInt = 0) := hb70
                    exfalso; first | omega | exact absurd hb70 (by decide +kernel)
            · have hb37 : ¬ ((Int32.ofInt 0).toInt = 0) := hb37
              exfalso; first | omega | exact absurd hb37 (by decide +kernel)
end
