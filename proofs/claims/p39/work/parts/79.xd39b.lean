noncomputable section
theorem cm_loop {d B : Nat} {b w z : Int32} {mi : Nat → Int32} {ml : Nat → Int64} {r g : Nat → Int32} {P : Option cx_V → cx_H → Prop} (hbB : b.toInt = (B : Int)) (hB : B < 4) (hg : ∀ c : Nat, c < 24 → (g (24 * B + c)).toInt ≤ 31) (hend : ∀ n i : Int32, n.toInt = sm_m g B 24 → cx_T d 258 [119, 126, 163] 108 ([some (.inr (.inl 119)), some (.inl (.int b)), some (.inl (.int w)), some (.inl (.int z)), some (.inl (.int n)), some (.inl (.int i))], [], h_md (upi mi 0 (Int32.ofInt 0)) ml r g) P) :
    ∀ (m k : Nat), k + m = 24 → ∀ n i : Int32, n.toInt = sm_m g B k → i.toInt = k → cx_T d 258 [119, 126, 163] 57 ([some (.inr (.inl 119)), some (.inl (.int b)), some (.inl (.int w)), some (.inl (.int z)), some (.inl (.int n)), some (.inl (.int i))], [], h_md (upi mi 0 (Int32.ofInt 0)) ml r g) P := by
  have kc0 : (Int32.ofInt 0).toInt = 0 := by decide +kernel
  have kc1 : (Int32.ofInt 1).toInt = 1 := by decide +kernel
  have kc24 : (Int32.ofInt 24).toInt = 24 := by decide +kernel
  have hmul : (Int32.ofInt 24 * b).toInt = 24 * (B : Int) := by rw [cx_mulk (n := 24) (by decide +kernel) (by omega) (by omega)]; omega
  intro m
  induction m with
  | zero =>
    intro k hk n i hn hi
    have ek : k = 24 := by omega
    subst ek
    refine ex_iload cg_258 (ix := 33) (pc' := 59) rfl rfl rfl ?_
    refine ex_bipush cg_258 (ix := 34) (pc' := 61) rfl rfl rfl ?_
    refine ex_icmp cg_258 (ix := 35) (t := 108) (pc' := 64) rfl rfl rfl (fun hb61 => ?_) (fun hb61 => ?_)
    · have hb61 : (Int32.ofInt 24).toInt ≤ i.toInt := hb61
      exact hend _ _ hn
    · have hb61 : ¬ ((Int32.ofInt 24).toInt ≤ i.toInt) := hb61
      exfalso; first | omega | exact absurd hb61 (by decide +kernel)
  | succ m ih =>
    intro k hk n i hn hi
    have hia : (Int32.ofInt 24 * b + i).toInt = ((24 * B + k : Nat) : Int) := by rw [cx_addc (by omega) (by omega)]; omega
    have hix : (Int32.ofInt 24 * b + i).toNatClampNeg = 24 * B + k := cx_clamp hia
    refine ex_iload cg_258 (ix := 33) (pc' := 59) rfl rfl rfl ?_
    refine ex_bipush cg_258 (ix := 34) (pc' := 61) rfl rfl rfl ?_
    refine ex_icmp cg_258 (ix := 35) (t := 108) (pc' := 64) rfl rfl rfl (fun hb61 => ?_) (fun hb61 => ?_)
    · have hb61 : (Int32.ofInt 24).toInt ≤ i.toInt := hb61
      exfalso; first | omega | exact absurd hb61 (by decide +kernel)
    · have hb61 : ¬ ((Int32.ofInt 24).toInt ≤ i.toInt) := hb61
      refine ex_iload cg_258 (ix := 36) (pc' := 66) rfl rfl rfl ?_
      refine ex_aload_n cg_258 (ix := 37) (pc' := 67) rfl rfl rfl ?_
      refine ex_getfield cg_258 (ix := 38) (pc' := 70) (v := .inr (.inl 163)) rfl rfl rfl rfl rfl ?_
      refine ex_bipush cg_258 (ix := 39) (pc' := 72) rfl rfl rfl ?_
      refine ex_iload_n cg_258 (ix := 40) (pc' := 73) rfl rfl rfl ?_
      refine ex_imul cg_258 (ix := 41) (pc' := 74) rfl rfl ?_
      refine ex_iload cg_258 (ix := 42) (pc' := 76) rfl rfl rfl ?_
      refine ex_iadd cg_258 (ix := 43) (pc' := 77) rfl rfl ?_
      refine ex_iaload cg_258 (ix := 44) (pc' := 78) rfl rfl (by omega) (by omega) rfl ?_
      refine ex_if cg_258 (ix := 45) (t := 98) (pc' := 81) rfl rfl rfl (fun hb78 => ?_) (fun hb78 => ?_)
      · have hb78 : (g (((Int32.ofInt 24) * b) + i).toNatClampNeg).toInt ≤ 0 := hb78
        refine ex_iconst cg_258 (ix := 57) (pc' := 99) rfl rfl ?_
        refine ex_iadd cg_258 (ix := 58) (pc' := 100) rfl rfl ?_
        refine ex_istore cg_258 (ix := 59) (pc' := 102) (L' := [some (.inr (.inl 119)), some (.inl (.int b)), some (.inl (.int w)), some (.inl (.int z)), some (.inl (.int (n + (Int32.ofInt 0)))), some (.inl (.int i))]) rfl rfl rfl rfl ?_
        refine ex_iinc cg_258 (ix := 60) (pc' := 105) (L' := [some (.inr (.inl 119)), some (.inl (.int b)), some (.inl (.int w)), some (.inl (.int z)), some (.inl (.int (n + (Int32.ofInt 0)))), some (.inl (.int (i + Int32.ofInt 1)))]) rfl rfl rfl rfl rfl ?_
        refine ex_goto cg_258 (ix := 61) (pc' := 57) rfl rfl ?_
        have e1 : (n + (Int32.ofInt 0)).toInt = sm_m g B (k + 1) := by
          have hbd := sm_mb (g := g) (b := B) k (fun c hc => hg c (by omega))
          rw [hix] at hb78
          rw [sm_m, if_pos hb78, cx_addc (by omega) (by omega)]
          omega
        exact ih (k + 1) (by omega) _ _ e1 (by rw [cx_addc (by omega) (by omega)]; omega)
      · have hb78 : ¬ ((g (((Int32.ofInt 24) * b) + i).toNatClampNeg).toInt ≤ 0) := hb78
        refine ex_aload_n cg_258 (ix := 46) (pc' := 82) rfl rfl rfl ?_
        refine ex_getfield cg_258 (ix := 47) (pc' := 85) (v := .inr (.inl 163)) rfl rfl rfl rfl rfl ?_
        refine ex_bipush cg_258 (ix := 48) (pc' := 87) rfl rfl rfl ?_
        refine ex_iload_n cg_258 (ix := 49) (pc' := 88) rfl rfl rfl ?_
        refine ex_imul cg_258 (ix := 50) (pc' := 89) rfl rfl ?_
        refine ex_iload cg_258 (ix := 51) (pc' := 91) rfl rfl rfl ?_
        refine ex_iadd cg_258 (ix := 52) (pc' := 92) rfl rfl ?_
        refine ex_iaload cg_258 (ix := 53) (pc' := 93) rfl rfl (by omega) (by omega) rfl ?_
        refine ex_iconst cg_258 (ix := 54) (pc' := 94) rfl rfl ?_
        refine ex_isub cg_258 (ix := 55) (pc' := 95) rfl rfl ?_
        refine ex_goto cg_258 (ix := 56) (pc' := 99) rfl rfl ?_
        refine ex_iadd cg_258 (ix := 58) (pc' := 100) rfl rfl ?_
        refine ex_istore cg_258 (ix := 59) (pc' := 102) (L' := [some (.inr (.inl 119)), some (.inl (.int b)), some (.inl (.int w)), some (.inl (.int z)), some (.inl (.int (n + ((g (((Int32.ofInt 24) * b) + i).toNatClampNeg) - (Int32.ofInt 1))))), some (.inl (.int i))]) rfl rfl rfl rfl ?_
        refine ex_iinc cg_258 (ix := 60) (pc' := 105) (L' := [some (.inr (.inl 119)), some (.inl (.int b)), some (.inl (.int w)), some (.inl (.int z)), some (.inl (.int (n + ((g (((Int32.ofInt 24) * b) + i).toNatClampNeg) - (Int32.ofInt 1))))), some (.inl (.int (i + Int32.ofInt 1)))]) rfl rfl rfl rfl rfl ?_
        refine ex_goto cg_258 (ix := 61) (pc' := 57) rfl rfl ?_
        have e1 : (n + ((g (((Int32.ofInt 24) * b) + i).toNatClampNeg) - (Int32.ofInt 1))).toInt = sm_m g B (k + 1) := by
          have hbd := sm_mb (g := g) (b := B) k (fun c hc => hg c (by omega))
          have hb2 := hg k (by omega)
          rw [hix] at hb78 ⊢
          have es : ((g (24 * B + k)) - (Int32.ofInt 1)).toInt = (g (24 * B + k)).toInt - 1 := by rw [cx_subc (by omega) (by omega)]; omega
          rw [sm_m, if_neg hb78, cx_addc (by omega) (by omega)]
          omega
        exact ih (k + 1) (by omega) _ _ e1 (by rw [cx_addc (by omega) (by omega)]; omega)
theorem ct_mcd {b w : Int32} {mi : Nat → Int32} {ml : Nat → Int64} {r g : Nat → Int32} (hg0 : ∀ bb c : Nat, bb < 4 → c < 24 → (g (24 * bb + c)).toInt ≤ 31) : cx_Ct 5 258 [.inr (.inl 119), .inl (.int b), .inl (.int w)] (h_md mi ml r g) (fun v h2 => ∃ (z : Int32) (r2 : Nat → Int32), v = some (.inl (.int z)) ∧ h2 = h_md (upi mi 0 (Int32.ofInt 0)) ml r2 g ∧ cd_ans b w (cn_m g b.toNatClampNeg 24) (sm_m g b.toNatClampNeg 24) z) := by
  have kcm5 : (Int32.ofInt (-5)).toInt = -5 := by decide +kernel
  have kcm2 : (Int32.ofInt (-2)).toInt = -2 := by decide +kernel
  have kcm1 : (Int32.ofInt (-1)).toInt = -1 := by decide +kernel
  have kc0 : (Int32.ofInt 0).toInt = 0 := by decide +kernel
  have kc1 : (Int32.ofInt 1).toInt = 1 := by decide +kernel
  have kc2 : (Int32.ofInt 2).toInt = 2 := by decide +kernel
  have kc3 : (Int32.ofInt 3).toInt = 3 := by decide +kernel
  have kc24 : (Int32.ofInt 24).toInt = 24 := by decide +kernel
  have kc30 : (Int32.ofInt 30).toInt = 30 := by decide +kernel
  have hgB : b.toNatClampNeg < 4 → ∀ c : Nat, c < 24 → (g (24 * b.toNatClampNeg + c)).toInt ≤ 31 := fun q c hc => hg0 _ c q hc
  refine cx_Ct.of cg_258 (nL := 6) rfl rfl rfl ?_
  show cx_T 5 258 [119, 126, 163] 0 ([some (.inr (.inl 119)), some (.inl (.int b)), some (.inl (.int w)), none, none, none], [], h_md mi ml r g) _
  refine ex_aload_n cg_258 (ix := 0) (pc' := 1) rfl rfl rfl ?_
  refine ex_iconst cg_258 (ix := 1) (pc' := 2) rfl rfl ?_
  refine ex_putfield cg_258 (ix := 2) (pc' := 5) (h' := [(119, .inl (11, vs_119 (upi mi 0 (Int32.ofInt 0)) ml)), (126, .inr (.inl (0, 7, r))), (163, .inr (.inl (0, 96, g)))]) rfl rfl rfl rfl rfl rfl rfl rfl ?_
  refine ex_iload_n cg_258 (ix := 3) (pc' := 6) rfl rfl rfl ?_
  refine ex_callS cg_258 (ix := 4) (pc' := 9) (As := [.inl (.int b)]) (r := []) rfl rfl rfl (ct_mbeach (x := b)) (by decide) rfl rfl trivial rfl rfl (fun v h2 hq => ?_)
  obtain ⟨z, rfl, rfl, hz1⟩ := hq
  rcases hz1 with ⟨hz1, rfl⟩ | ⟨hz1, rfl⟩
  · show cx_T _ 258 _ 9 ([some (.inr (.inl 119)), some (.inl (.int b)), some (.inl (.int w)), none, none, none], [.inl (.int (Int32.ofInt 1))], [(119, .inl (11, vs_119 (upi mi 0 (Int32.ofInt 0)) ml)), (126, .inr (.inl (0, 7, r))), (163, .inr (.inl (0, 96, g)))]) _
    refine ex_if cg_258 (ix := 5) (t := 18) (pc' := 12) rfl rfl rfl (fun hb9 => ?_) (fun hb9 => ?_)
    · have hb9 : ¬ (Int32.ofInt 1).toInt = 0 := hb9
      refine ex_iload_n cg_258 (ix := 10) (pc' := 19) rfl rfl rfl ?_
      refine ex_iconst cg_258 (ix := 11) (pc' := 20) rfl rfl ?_
      refine ex_iconst cg_258 (ix := 12) (pc' := 21) rfl rfl ?_
      refine ex_callS cg_258 (ix := 13) (pc' := 24) (As := [.inl (.int w), .inl (.int (Int32.ofInt 0)), .inl (.int (Int32.ofInt 2))]) (r := []) rfl rfl rfl (ct_min (x := w) (a := Int32.ofInt 0) (b := Int32.ofInt 2)) (by decide) rfl rfl trivial rfl rfl (fun v h2 hq => ?_)
      obtain ⟨z, rfl, rfl, hz2⟩ := hq
      rcases hz2 with ⟨hz2, rfl⟩ | ⟨hz2, rfl⟩
      · show cx_T _ 258 _ 24 ([some (.inr (.inl 119)), some (.inl (.int b)), some (.inl (.int w)), none, none, none], [.inl (.int (Int32.ofInt 1))], [(119, .inl (11, vs_119 (upi mi 0 (Int32.ofInt 0)) ml)), (126, .inr (.inl (0, 7, r))), (163, .inr (.inl (0, 96, g)))]) _
        refine ex_if cg_258 (ix := 14) (t := 34) (pc' := 27) rfl rfl rfl (fun hb24 => ?_) (fun hb24 => ?_)
        · have hb24 : ¬ (Int32.ofInt 1).toInt = 0 := hb24
          have hbB : b.toInt = (b.toNatClampNeg : Int) := (ab_clamp (by omega)).symm
          have hB4 : b.toNatClampNeg < 4 := (by omega); have hg := hgB hB4
          refine ex_aload_n cg_258 (ix := 19) (pc' := 35) rfl rfl rfl ?_
          refine ex_iload_n cg_258 (ix := 20) (pc' := 36) rfl rfl rfl ?_
          refine ex_callV cg_258 (ix := 21) (pc' := 39) (As := [.inl (.int b)]) (r := []) rfl rfl rfl (ct_257 (B := b.toNatClampNeg) (b := b) (mi := (upi mi 0 (Int32.ofInt 0))) (ml := ml) (g := g) hbB hB4) (by decide) rfl rfl rfl ⟨rfl, rfl, trivial⟩ rfl rfl (fun v h2 hq => ?_)
          obtain ⟨z, rfl, hz5, rfl⟩ := hq
          show cx_T _ 258 _ 39 ([some (.inr (.inl 119)), some (.inl (.int b)), some (.inl (.int w)), none, none, none], [.inl (.int z)], [(119, .inl (11, vs_119 (upi mi 0 (Int32.ofInt 0)) ml)), (126, .inr (.inl (0, 7, r))), (163, .inr (.inl (0, 96, g)))]) _
          refine ex_istore_n cg_258 (ix := 22) (pc' := 40) (L' := [some (.inr (.inl 119)), some (.inl (.int b)), some (.inl (.int w)), some (.inl (.int z)), none, none]) rfl rfl rfl rfl ?_
          refine ex_iload_n cg_258 (ix := 23) (pc' := 41) rfl rfl rfl ?_
          refine ex_if cg_258 (ix := 24) (t := 51) (pc' := 44) rfl rfl rfl (fun hb41 => ?_) (fun hb41 => ?_)
          · have hb41 : ¬ z.toInt = 0 := hb41
            refine ex_iconst cg_258 (ix := 29) (pc' := 52) rfl rfl ?_
            refine ex_istore cg_258 (ix := 30) (pc' := 54) (L' := [some (.inr (.inl 119)), some (.inl (.int b)), some (.inl (.int w)), some (.inl (.int z)), some (.inl (.int (Int32.ofInt 0))), none]) rfl rfl rfl rfl ?_
            refine ex_iconst cg_258 (ix := 31) (pc' := 55) rfl rfl ?_
            refine ex_istore cg_258 (ix := 32) (pc' := 57) (L' := [some (.inr (.inl 119)), some (.inl (.int b)), some (.inl (.int w)), some (.inl (.int z)), some (.inl (.int (Int32.ofInt 0))), some (.inl (.int (Int32.ofInt 0)))]) rfl rfl rfl rfl ?_
            refine cm_loop (B := b.toNatClampNeg) hbB hB4 hg (fun y i hy => ?_) 24 0 rfl _ _ (by show (Int32.ofInt 0).toInt = 0; decide +kernel) (by decide +kernel)
            refine ex_iload_n cg_258 (ix := 62) (pc' := 109) rfl rfl rfl ?_
            refine ex_if cg_258 (ix := 63) (t := 122) (pc' := 112) rfl rfl rfl (fun hb109 => ?_) (fun hb109 => ?_)
            · have hb109 : ¬ w.toInt = 0 := hb109
              refine ex_iload_n cg_258 (ix := 70) (pc' := 123) rfl rfl rfl ?_
              refine ex_iconst cg_258 (ix := 71) (pc' := 124) rfl rfl ?_
              refine ex_icmp cg_258 (ix := 72) (t := 132) (pc' := 127) rfl rfl rfl (fun hb124 => ?_) (fun hb124 => ?_)
              · have hb124 : ¬ w.toInt = (Int32.ofInt 1).toInt := hb124
                refine ex_iload cg_258 (ix := 75) (pc' := 134) rfl rfl rfl ?_
                refine ex_bipush cg_258 (ix := 76) (pc' := 136) rfl rfl rfl ?_
                refine ex_bipush cg_258 (ix := 77) (pc' := 138) rfl rfl rfl ?_
                refine ex_iload_n cg_258 (ix := 78) (pc' := 139) rfl rfl rfl ?_
                refine ex_isub cg_258 (ix := 79) (pc' := 140) rfl rfl ?_
                refine ex_imul cg_258 (ix := 80) (pc' := 141) rfl rfl ?_
                refine ex_iadd cg_258 (ix := 81) (pc' := 142) rfl rfl ?_
                refine ex_ireturn cg_258 (ix := 82) rfl ?_
                have hsb := sm_mb (g := g) (b := b.toNatClampNeg) 24 hg; have hcb := cn_mb (g := g) (b := b.toNatClampNeg) 24
                have hs1 : ((Int32.ofInt 24) - z).toInt = 24 - z.toInt := by rw [cx_subc (by omega) (by omega)]; omega
                have hs2 : ((Int32.ofInt 30) * ((Int32.ofInt 24) - z)).toInt = 30 * (24 - z.toInt) := by rw [cx_mulk (n := 30) (by decide +kernel) (by omega) (by omega)]; omega
                exact ⟨_, r, rfl, rfl, Or.inr (Or.inr (Or.inr (Or.inr (Or.inr ⟨by omega, by omega, by omega, by rw [cx_addc (by omega) (by omega)]; omega⟩))))⟩
              · have hb124 : ¬ (¬ w.toInt = (Int32.ofInt 1).toInt) := hb124
                refine ex_iload cg_258 (ix := 73) (pc' := 129) rfl rfl rfl ?_
                refine ex_goto cg_258 (ix := 74) (pc' := 142) rfl rfl ?_
                refine ex_ireturn cg_258 (ix := 82) rfl ?_
                exact ⟨_, r, rfl, rfl, Or.inr (Or.inr (Or.inr (Or.inr (Or.inl ⟨by omega, by omega, by omega, hy⟩))))⟩
            · have hb109 : ¬ (¬ w.toInt = 0) := hb109
              refine ex_bipush cg_258 (ix := 64) (pc' := 114) rfl rfl rfl ?_
              refine ex_iload cg_258 (ix := 65) (pc' := 116) rfl rfl rfl ?_
              refine ex_imul cg_258 (ix := 66) (pc' := 117) rfl rfl ?_
              refine ex_iload_n cg_258 (ix := 67) (pc' := 118) rfl rfl rfl ?_
              refine ex_idiv cg_258 (ix := 68) (pc' := 119) rfl (by intro q; rw [q] at hb41; exact hb41 rfl) rfl ?_
              refine ex_goto cg_258 (ix := 69) (pc' := 142) rfl rfl ?_
              refine ex_ireturn cg_258 (ix := 82) rfl ?_
              have hsb := sm_mb (g := g) (b := b.toNatClampNeg) 24 hg; have hcb := cn_mb (g := g) (b := b.toNatClampNeg) 24
              exact ⟨_, r, rfl, rfl, Or.inr (Or.inr (Or.inr (Or.inl ⟨by omega, by omega, by omega, _, _, by first | (rw [cx_mulk (n := 24) (by decide +kernel) (by omega) (by omega)]; omega) | (rw [cx_mulk2 (n := 24) (by decide +kernel) (by omega) (by omega)]; omega) | (rw [cx_mulk (n := 100) (by decide +kernel) (by omega) (by omega)]; omega) | (rw [cx_mulk2 (n := 100) (by decide +kernel) (by omega) (by omega)]; omega), hz5, rfl⟩)))⟩
          · have hb41 : ¬ (¬ z.toInt = 0) := hb41
            refine ex_aload_n cg_258 (ix := 25) (pc' := 45) rfl rfl rfl ?_
            refine ex_bipush cg_258 (ix := 26) (pc' := 47) rfl rfl rfl ?_
            refine ex_callV cg_258 (ix := 27) (pc' := 50) (As := [.inl (.int (Int32.ofInt (-5)))]) (r := []) rfl rfl rfl (ct_mref (x := Int32.ofInt (-5)) (mi := (upi mi 0 (Int32.ofInt 0))) (ml := ml) (r := r) (by decide +kernel) (by decide +kernel)) (by decide) rfl rfl rfl ⟨rfl, rfl, trivial⟩ rfl rfl (fun v h2 hq => ?_)
            obtain ⟨rfl, r2, rfl⟩ := hq
            show cx_T _ 258 _ 50 ([some (.inr (.inl 119)), some (.inl (.int b)), some (.inl (.int w)), some (.inl (.int z)), none, none], [.inl (.int (Int32.ofInt (-5)))], [(119, .inl (11, vs_119 (upi mi 0 (Int32.ofInt 0)) ml)), (126, .inr (.inl (0, 7, r2))), (163, .inr (.inl (0, 96, g)))]) _
            refine ex_ireturn cg_258 (ix := 28) rfl ?_
            have hsb := sm_mb (g := g) (b := b.toNatClampNeg) 24 hg; have hcb := cn_mb (g := g) (b := b.toNatClampNeg) 24
            exact ⟨_, _, rfl, rfl, Or.inr (Or.inr (Or.inl ⟨by omega, by omega, by omega, by decide +kernel⟩))⟩
        · have hb24 : ¬ (¬ (Int32.ofInt 1).toInt = 0) := hb24
          exfalso; first | omega | exact absurd hb24 (by decide +kernel)
      · show cx_T _ 258 _ 24 ([some (.inr (.inl 119)), some (.inl (.int b)), some (.inl (.int w)), none, none, none], [.inl (.int (Int32.ofInt 0))], [(119, .inl (11, vs_119 (upi mi 0 (Int32.ofInt 0)) ml)), (126, .inr (.inl (0, 7, r))), (163, .inr (.inl (0, 96, g)))]) _
        refine ex_if cg_258 (ix := 14) (t := 34) (pc' := 27) rfl rfl rfl (fun hb24 => ?_) (fun hb24 => ?_)
        · have hb24 : ¬ (Int32.ofInt 0).toInt = 0 := hb24
          exfalso; first | omega | exact absurd hb24 (by decide +kernel)
        · have hb24 : ¬ (¬ (Int32.ofInt 0).toInt = 0) := hb24
          refine ex_aload_n cg_258 (ix := 15) (pc' := 28) rfl rfl rfl ?_
          refine ex_bipush cg_258 (ix := 16) (pc' := 30) rfl rfl rfl ?_
          refine ex_callV cg_258 (ix := 17) (pc' := 33) (As := [.inl (.int (Int32.ofInt (-2)))]) (r := []) rfl rfl rfl (ct_mref (x := Int32.ofInt (-2)) (mi := (upi mi 0 (Int32.ofInt 0))) (ml := ml) (r := r) (by decide +kernel) (by decide +kernel)) (by decide) rfl rfl rfl ⟨rfl, rfl, trivial⟩ rfl rfl (fun v h2 hq => ?_)
          obtain ⟨rfl, r2, rfl⟩ := hq
          show cx_T _ 258 _ 33 ([some (.inr (.inl 119)), some (.inl (.int b)), some (.inl (.int w)), none, none, none], [.inl (.int (Int32.ofInt (-2)))], [(119, .inl (11, vs_119 (upi mi 0 (Int32.ofInt 0)) ml)), (126, .inr (.inl (0, 7, r2))), (163, .inr (.inl (0, 96, g)))]) _
          refine ex_ireturn cg_258 (ix := 18) rfl ?_
          exact ⟨_, _, rfl, rfl, Or.inr (Or.inl ⟨by omega, by omega, by decide +kernel⟩)⟩
    · have hb9 : ¬ (¬ (Int32.ofInt 1).toInt = 0) := hb9
      exfalso; first | omega | exact absurd hb9 (by decide +kernel)
  · show cx_T _ 258 _ 9 ([some (.inr (.inl 119)), some (.inl (.int b)), some (.inl (.int w)), none, none, none], [.inl (.int (Int32.ofInt 0))], [(119, .inl (11, vs_119 (upi mi 0 (Int32.ofInt 0)) ml)), (126, .inr (.inl (0, 7, r))), (163, .inr (.inl (0, 96, g)))]) _
    refine ex_if cg_258 (ix := 5) (t := 18) (pc' := 12) rfl rfl rfl (fun hb9 => ?_) (fun hb9 => ?_)
    · have hb9 : ¬ (Int32.ofInt 0).toInt = 0 := hb9
      exfalso; first | omega | exact absurd hb9 (by decide +kernel)
    · have hb9 : ¬ (¬ (Int32.ofInt 0).toInt = 0) := hb9
      refine ex_aload_n cg_258 (ix := 6) (pc' := 13) rfl rfl rfl ?_
      refine ex_iconst cg_258 (ix := 7) (pc' := 14) rfl rfl ?_
      refine ex_callV cg_258 (ix := 8) (pc' := 17) (As := [.inl (.int (Int32.ofInt (-1)))]) (r := []) rfl rfl rfl (ct_mref (x := Int32.ofInt (-1)) (mi := (upi mi 0 (Int32.ofInt 0))) (ml := ml) (r := r) (by decide +kernel) (by decide +kernel)) (by decide) rfl rfl rfl ⟨rfl, rfl, trivial⟩ rfl rfl (fun v h2 hq => ?_)
      obtain ⟨rfl, r2, rfl⟩ := hq
      show cx_T _ 258 _ 17 ([some (.inr (.inl 119)), some (.inl (.int b)), some (.inl (.int w)), none, none, none], [.inl (.int (Int32.ofInt (-1)))], [(119, .inl (11, vs_119 (upi mi 0 (Int32.ofInt 0)) ml)), (126, .inr (.inl (0, 7, r2))), (163, .inr (.inl (0, 96, g)))]) _
      refine ex_ireturn cg_258 (ix := 9) rfl ?_
      exact ⟨_, _, rfl, rfl, Or.inl ⟨by omega, by decide +kernel⟩⟩
end
