noncomputable section
def h_mt (mi : Nat → Int32) (ml : Nat → Int64) (r t s : Nat → Int32) : cx_H := [(119, .inl (11, vs_119 mi ml)), (126, .inr (.inl (0, 7, r))), (122, .inr (.inl (0, 16, t))), (123, .inr (.inl (0, 16, s)))]
theorem ct_mgauge {x w v : Int32} {mi : Nat → Int32} {ml : Nat → Int64} {r t s : Nat → Int32} : cx_Ct 5 188 [.inr (.inl 119), .inl (.int x), .inl (.int w), .inl (.int v)] (h_mt mi ml r t s) (fun v2 h2 => ∃ (z : Int32) (r2 t2 s2 : Nat → Int32), v2 = some (.inl (.int z)) ∧ h2 = h_mt (upi mi 0 (Int32.ofInt 0)) ml r2 t2 s2 ∧ ga x w v t s z t2 s2) := by
  have kc0 : (Int32.ofInt 0).toInt = 0 := by decide +kernel
  have kc1 : (Int32.ofInt 1).toInt = 1 := by decide +kernel
  have kc9 : (Int32.ofInt 9).toInt = 9 := by decide +kernel
  have kcm9 : (Int32.ofInt (-9)).toInt = -9 := by decide +kernel
  have kc99 : (Int32.ofInt 99).toInt = 99 := by decide +kernel
  have kcm1 : (Int32.ofInt (-1)).toInt = -1 := by decide +kernel
  have kcm2 : (Int32.ofInt (-2)).toInt = -2 := by decide +kernel
  have kcm4 : (Int32.ofInt (-4)).toInt = -4 := by decide +kernel
  have kcm6 : (Int32.ofInt (-6)).toInt = -6 := by decide +kernel
  refine cx_Ct.of cg_188 (nL := 5) rfl rfl rfl ?_
  show cx_T 5 188 [119, 126, 122, 123] 0 ([some (.inr (.inl 119)), some (.inl (.int x)), some (.inl (.int w)), some (.inl (.int v)), none], [], h_mt mi ml r t s) _
  refine ex_aload_n cg_188 (ix := 0) (pc' := 1) rfl rfl rfl ?_
  refine ex_iconst cg_188 (ix := 1) (pc' := 2) rfl rfl ?_
  refine ex_putfield cg_188 (ix := 2) (pc' := 5) (h' := [(119, .inl (11, vs_119 (upi mi 0 (Int32.ofInt 0)) ml)), (126, .inr (.inl (0, 7, r))), (122, .inr (.inl (0, 16, t))), (123, .inr (.inl (0, 16, s)))]) rfl rfl rfl rfl rfl rfl rfl rfl ?_
  refine ex_iload_n cg_188 (ix := 3) (pc' := 6) rfl rfl rfl ?_
  refine ex_callS cg_188 (ix := 4) (pc' := 9) (As := [.inl (.int x)]) (r := []) rfl rfl rfl (ct_mhour (x := x)) (by first | decide | omega) rfl rfl trivial rfl rfl (fun v h2 hq => ?_)
  obtain ⟨z, rfl, rfl, hz1⟩ := hq
  rcases hz1 with ⟨hz1, rfl⟩ | ⟨hz1, rfl⟩
  · show cx_T _ 188 _ 9 ([some (.inr (.inl 119)), some (.inl (.int x)), some (.inl (.int w)), some (.inl (.int v)), none], [.inl (.int (Int32.ofInt 1))], [(119, .inl (11, vs_119 (upi mi 0 (Int32.ofInt 0)) ml)), (126, .inr (.inl (0, 7, r))), (122, .inr (.inl (0, 16, t))), (123, .inr (.inl (0, 16, s)))]) _
    refine ex_if cg_188 (ix := 5) (t := 18) (pc' := 12) rfl rfl rfl (fun hb9 => ?_) (fun hb9 => ?_)
    · have hb9 : ¬ (Int32.ofInt 1).toInt = 0 := hb9
      refine ex_iload_n cg_188 (ix := 10) (pc' := 19) rfl rfl rfl ?_
      refine ex_iconst cg_188 (ix := 11) (pc' := 20) rfl rfl ?_
      refine ex_iconst cg_188 (ix := 12) (pc' := 21) rfl rfl ?_
      refine ex_callS cg_188 (ix := 13) (pc' := 24) (As := [.inl (.int w), .inl (.int (Int32.ofInt 0)), .inl (.int (Int32.ofInt 1))]) (r := []) rfl rfl rfl (ct_min (x := w) (a := Int32.ofInt 0) (b := Int32.ofInt 1)) (by first | decide | omega) rfl rfl trivial rfl rfl (fun v h2 hq => ?_)
      obtain ⟨z, rfl, rfl, hz2⟩ := hq
      rcases hz2 with ⟨hz2, rfl⟩ | ⟨hz2, rfl⟩
      · show cx_T _ 188 _ 24 ([some (.inr (.inl 119)), some (.inl (.int x)), some (.inl (.int w)), some (.inl (.int v)), none], [.inl (.int (Int32.ofInt 1))], [(119, .inl (11, vs_119 (upi mi 0 (Int32.ofInt 0)) ml)), (126, .inr (.inl (0, 7, r))), (122, .inr (.inl (0, 16, t))), (123, .inr (.inl (0, 16, s)))]) _
        refine ex_if cg_188 (ix := 14) (t := 34) (pc' := 27) rfl rfl rfl (fun hb24 => ?_) (fun hb24 => ?_)
        · have hb24 : ¬ (Int32.ofInt 1).toInt = 0 := hb24
          refine ex_iload_n cg_188 (ix := 19) (pc' := 35) rfl rfl rfl ?_
          refine ex_iload_n cg_188 (ix := 20) (pc' := 36) rfl rfl rfl ?_
          refine ex_if cg_188 (ix := 21) (t := 44) (pc' := 39) rfl rfl rfl (fun hb36 => ?_) (fun hb36 => ?_)
          · have hb36 : ¬ w.toInt = 0 := hb36
            refine ex_iconst cg_188 (ix := 24) (pc' := 45) rfl rfl ?_
            refine ex_icmp cg_188 (ix := 25) (t := 55) (pc' := 48) rfl rfl rfl (fun hb45 => ?_) (fun hb45 => ?_)
            · have hb45 : (Int32.ofInt 0).toInt ≤ v.toInt := hb45
              refine ex_iload_n cg_188 (ix := 30) (pc' := 56) rfl rfl rfl ?_
              refine ex_bipush cg_188 (ix := 31) (pc' := 58) rfl rfl rfl ?_
              refine ex_icmp cg_188 (ix := 32) (t := 74) (pc' := 61) rfl rfl rfl (fun hb58 => ?_) (fun hb58 => ?_)
              · have hb58 : v.toInt ≤ (Int32.ofInt 9).toInt := hb58
                refine ex_iload_n cg_188 (ix := 40) (pc' := 75) rfl rfl rfl ?_
                refine ex_if cg_188 (ix := 41) (t := 87) (pc' := 78) rfl rfl rfl (fun hb75 => ?_) (fun hb75 => ?_)
                · have hb75 : ¬ w.toInt = 0 := hb75
                  refine ex_aload_n cg_188 (ix := 47) (pc' := 88) rfl rfl rfl ?_
                  refine ex_getfield cg_188 (ix := 48) (pc' := 91) (v := .inr (.inl 123)) rfl rfl rfl rfl rfl ?_
                  refine ex_iload_n cg_188 (ix := 49) (pc' := 92) rfl rfl rfl ?_
                  refine ex_iaload cg_188 (ix := 50) (pc' := 93) rfl rfl (by omega) (by omega) rfl ?_
                  refine ex_istore cg_188 (ix := 51) (pc' := 95) (L' := [some (.inr (.inl 119)), some (.inl (.int x)), some (.inl (.int w)), some (.inl (.int v)), some (.inl (.int (s x.toNatClampNeg)))]) rfl rfl rfl rfl ?_
                  refine ex_aload_n cg_188 (ix := 52) (pc' := 96) rfl rfl rfl ?_
                  refine ex_getfield cg_188 (ix := 53) (pc' := 99) (v := .inr (.inl 122)) rfl rfl rfl rfl rfl ?_
                  refine ex_iload_n cg_188 (ix := 54) (pc' := 100) rfl rfl rfl ?_
                  refine ex_iload_n cg_188 (ix := 55) (pc' := 101) rfl rfl rfl ?_
                  refine ex_if cg_188 (ix := 56) (t := 108) (pc' := 104) rfl rfl rfl (fun hb101 => ?_) (fun hb101 => ?_)
                  · have hb101 : ¬ w.toInt = 0 := hb101
                    refine ex_aload_n cg_188 (ix := 59) (pc' := 109) rfl rfl rfl ?_
                    refine ex_getfield cg_188 (ix := 60) (pc' := 112) (v := .inr (.inl 122)) rfl rfl rfl rfl rfl ?_
                    refine ex_iload_n cg_188 (ix := 61) (pc' := 113) rfl rfl rfl ?_
                    refine ex_iaload cg_188 (ix := 62) (pc' := 114) rfl rfl (by omega) (by omega) rfl ?_
                    refine ex_iastore cg_188 (ix := 63) (pc' := 115) (h' := [(119, .inl (11, vs_119 (upi mi 0 (Int32.ofInt 0)) ml)), (126, .inr (.inl (0, 7, r))), (122, .inr (.inl (0, 16, upd t x.toNatClampNeg (t x.toNatClampNeg)))), (123, .inr (.inl (0, 16, s)))]) rfl rfl (by omega) (by omega) rfl rfl ?_
                    refine ex_aload_n cg_188 (ix := 64) (pc' := 116) rfl rfl rfl ?_
                    refine ex_getfield cg_188 (ix := 65) (pc' := 119) (v := .inr (.inl 123)) rfl rfl rfl rfl rfl ?_
                    refine ex_iload_n cg_188 (ix := 66) (pc' := 120) rfl rfl rfl ?_
                    refine ex_iload_n cg_188 (ix := 67) (pc' := 121) rfl rfl rfl ?_
                    refine ex_iconst cg_188 (ix := 68) (pc' := 122) rfl rfl ?_
                    refine ex_icmp cg_188 (ix := 69) (t := 129) (pc' := 125) rfl rfl rfl (fun hb122 => ?_) (fun hb122 => ?_)
                    · have hb122 : ¬ w.toInt = (Int32.ofInt 1).toInt := hb122
                      refine ex_aload_n cg_188 (ix := 72) (pc' := 130) rfl rfl rfl ?_
                      refine ex_getfield cg_188 (ix := 73) (pc' := 133) (v := .inr (.inl 123)) rfl rfl rfl rfl rfl ?_
                      refine ex_iload_n cg_188 (ix := 74) (pc' := 134) rfl rfl rfl ?_
                      refine ex_iaload cg_188 (ix := 75) (pc' := 135) rfl rfl (by omega) (by omega) rfl ?_
                      refine ex_iastore cg_188 (ix := 76) (pc' := 136) (h' := [(119, .inl (11, vs_119 (upi mi 0 (Int32.ofInt 0)) ml)), (126, .inr (.inl (0, 7, r))), (122, .inr (.inl (0, 16, upd t x.toNatClampNeg (t x.toNatClampNeg)))), (123, .inr (.inl (0, 16, upd s x.toNatClampNeg (s x.toNatClampNeg))))]) rfl rfl (by omega) (by omega) rfl rfl ?_
                      refine ex_iload cg_188 (ix := 77) (pc' := 138) rfl rfl rfl ?_
                      refine ex_ireturn cg_188 (ix := 78) rfl ?_
                      first | (exfalso; omega) | exact ⟨_, r, _, _, rfl, rfl, Or.inr (Or.inr (Or.inr (Or.inr (Or.inr (⟨by omega, by omega, by omega, rfl, upd_id, rfl⟩)))))⟩
                    · have hb122 : ¬ (¬ w.toInt = (Int32.ofInt 1).toInt) := hb122
                      refine ex_iload_n cg_188 (ix := 70) (pc' := 126) rfl rfl rfl ?_
                      refine ex_goto cg_188 (ix := 71) (pc' := 135) rfl rfl ?_
                      refine ex_iastore cg_188 (ix := 76) (pc' := 136) (h' := [(119, .inl (11, vs_119 (upi mi 0 (Int32.ofInt 0)) ml)), (126, .inr (.inl (0, 7, r))), (122, .inr (.inl (0, 16, upd t x.toNatClampNeg (t x.toNatClampNeg)))), (123, .inr (.inl (0, 16, upd s x.toNatClampNeg v)))]) rfl rfl (by omega) (by omega) rfl rfl ?_
                      refine ex_iload cg_188 (ix := 77) (pc' := 138) rfl rfl rfl ?_
                      refine ex_ireturn cg_188 (ix := 78) rfl ?_
                      first | (exfalso; omega) | exact ⟨_, r, _, _, rfl, rfl, Or.inr (Or.inr (Or.inr (Or.inr (Or.inr (⟨by omega, by omega, by omega, rfl, upd_id, rfl⟩)))))⟩
                  · have hb101 : ¬ (¬ w.toInt = 0) := hb101
                    refine ex_iload_n cg_188 (ix := 57) (pc' := 105) rfl rfl rfl ?_
                    refine ex_goto cg_188 (ix := 58) (pc' := 114) rfl rfl ?_
                    refine ex_iastore cg_188 (ix := 63) (pc' := 115) (h' := [(119, .inl (11, vs_119 (upi mi 0 (Int32.ofInt 0)) ml)), (126, .inr (.inl (0, 7, r))), (122, .inr (.inl (0, 16, upd t x.toNatClampNeg v))), (123, .inr (.inl (0, 16, s)))]) rfl rfl (by omega) (by omega) rfl rfl ?_
                    refine ex_aload_n cg_188 (ix := 64) (pc' := 116) rfl rfl rfl ?_
                    refine ex_getfield cg_188 (ix := 65) (pc' := 119) (v := .inr (.inl 123)) rfl rfl rfl rfl rfl ?_
                    refine ex_iload_n cg_188 (ix := 66) (pc' := 120) rfl rfl rfl ?_
                    refine ex_iload_n cg_188 (ix := 67) (pc' := 121) rfl rfl rfl ?_
                    refine ex_iconst cg_188 (ix := 68) (pc' := 122) rfl rfl ?_
                    refine ex_icmp cg_188 (ix := 69) (t := 129) (pc' := 125) rfl rfl rfl (fun hb122 => ?_) (fun hb122 => ?_)
                    · have hb122 : ¬ w.toInt = (Int32.ofInt 1).toInt := hb122
                      refine ex_aload_n cg_188 (ix := 72) (pc' := 130) rfl rfl rfl ?_
                      refine ex_getfield cg_188 (ix := 73) (pc' := 133) (v := .inr (.inl 123)) rfl rfl rfl rfl rfl ?_
                      refine ex_iload_n cg_188 (ix := 74) (pc' := 134) rfl rfl rfl ?_
                      refine ex_iaload cg_188 (ix := 75) (pc' := 135) rfl rfl (by omega) (by omega) rfl ?_
                      refine ex_iastore cg_188 (ix := 76) (pc' := 136) (h' := [(119, .inl (11, vs_119 (upi mi 0 (Int32.ofInt 0)) ml)), (126, .inr (.inl (0, 7, r))), (122, .inr (.inl (0, 16, upd t x.toNatClampNeg v))), (123, .inr (.inl (0, 16, upd s x.toNatClampNeg (s x.toNatClampNeg))))]) rfl rfl (by omega) (by omega) rfl rfl ?_
                      refine ex_iload cg_188 (ix := 77) (pc' := 138) rfl rfl rfl ?_
                      refine ex_ireturn cg_188 (ix := 78) rfl ?_
                      first | (exfalso; omega) | exact ⟨_, r, _, _, rfl, rfl, Or.inr (Or.inr (Or.inr (Or.inr (Or.inr (⟨by omega, by omega, by omega, rfl, upd_id, rfl⟩)))))⟩
                    · have hb122 : ¬ (¬ w.toInt = (Int32.ofInt 1).toInt) := hb122
                      refine ex_iload_n cg_188 (ix := 70) (pc' := 126) rfl rfl rfl ?_
                      refine ex_goto cg_188 (ix := 71) (pc' := 135) rfl rfl ?_
                      refine ex_iastore cg_188 (ix := 76) (pc' := 136) (h' := [(119, .inl (11, vs_119 (upi mi 0 (Int32.ofInt 0)) ml)), (126, .inr (.inl (0, 7, r))), (122, .inr (.inl (0, 16, upd t x.toNatClampNeg v))), (123, .inr (.inl (0, 16, upd s x.toNatClampNeg v)))]) rfl rfl (by omega) (by omega) rfl rfl ?_
                      refine ex_iload cg_188 (ix := 77) (pc' := 138) rfl rfl rfl ?_
                      refine ex_ireturn cg_188 (ix := 78) rfl ?_
                      first | (exfalso; omega) | exact ⟨_, r, _, _, rfl, rfl, Or.inr (Or.inr (Or.inr (Or.inr (Or.inr (⟨by omega, by omega, by omega, rfl, upd_id, rfl⟩)))))⟩
                · have hb75 : ¬ (¬ w.toInt = 0) := hb75
                  refine ex_aload_n cg_188 (ix := 42) (pc' := 79) rfl rfl rfl ?_
                  refine ex_getfield cg_188 (ix := 43) (pc' := 82) (v := .inr (.inl 122)) rfl rfl rfl rfl rfl ?_
                  refine ex_iload_n cg_188 (ix := 44) (pc' := 83) rfl rfl rfl ?_
                  refine ex_iaload cg_188 (ix := 45) (pc' := 84) rfl rfl (by omega) (by omega) rfl ?_
                  refine ex_goto cg_188 (ix := 46) (pc' := 93) rfl rfl ?_
                  refine ex_istore cg_188 (ix := 51) (pc' := 95) (L' := [some (.inr (.inl 119)), some (.inl (.int x)), some (.inl (.int w)), some (.inl (.int v)), some (.inl (.int (t x.toNatClampNeg)))]) rfl rfl rfl rfl ?_
                  refine ex_aload_n cg_188 (ix := 52) (pc' := 96) rfl rfl rfl ?_
                  refine ex_getfield cg_188 (ix := 53) (pc' := 99) (v := .inr (.inl 122)) rfl rfl rfl rfl rfl ?_
                  refine ex_iload_n cg_188 (ix := 54) (pc' := 100) rfl rfl rfl ?_
                  refine ex_iload_n cg_188 (ix := 55) (pc' := 101) rfl rfl rfl ?_
                  refine ex_if cg_188 (ix := 56) (t := 108) (pc' := 104) rfl rfl rfl (fun hb101 => ?_) (fun hb101 => ?_)
                  · have hb101 : ¬ w.toInt = 0 := hb101
                    refine ex_aload_n cg_188 (ix := 59) (pc' := 109) rfl rfl rfl ?_
                    refine ex_getfield cg_188 (ix := 60) (pc' := 112) (v := .inr (.inl 122)) rfl rfl rfl rfl rfl ?_
                    refine ex_iload_n cg_188 (ix := 61) (pc' := 113) rfl rfl rfl ?_
                    refine ex_iaload cg_188 (ix := 62) (pc' := 114) rfl rfl (by omega) (by omega) rfl ?_
                    refine ex_iastore cg_188 (ix := 63) (pc' := 115) (h' := [(119, .inl (11, vs_119 (upi mi 0 (Int32.ofInt 0)) ml)), (126, .inr (.inl (0, 7, r))), (122, .inr (.inl (0, 16, upd t x.toNatClampNeg (t x.toNatClampNeg)))), (123, .inr (.inl (0, 16, s)))]) rfl rfl (by omega) (by omega) rfl rfl ?_
                    refine ex_aload_n cg_188 (ix := 64) (pc' := 116) rfl rfl rfl ?_
                    refine ex_getfield cg_188 (ix := 65) (pc' := 119) (v := .inr (.inl 123)) rfl rfl rfl rfl rfl ?_
                    refine ex_iload_n cg_188 (ix := 66) (pc' := 120) rfl rfl rfl ?_
                    refine ex_iload_n cg_188 (ix := 67) (pc' := 121) rfl rfl rfl ?_
                    refine ex_iconst cg_188 (ix := 68) (pc' := 122) rfl rfl ?_
                    refine ex_icmp cg_188 (ix := 69) (t := 129) (pc' := 125) rfl rfl rfl (fun hb122 => ?_) (fun hb122 => ?_)
                    · have hb122 : ¬ w.toInt = (Int32.ofInt 1).toInt := hb122
                      refine ex_aload_n cg_188 (ix := 72) (pc' := 130) rfl rfl rfl ?_
                      refine ex_getfield cg_188 (ix := 73) (pc' := 133) (v := .inr (.inl 123)) rfl rfl rfl rfl rfl ?_
                      refine ex_iload_n cg_188 (ix := 74) (pc' := 134) rfl rfl rfl ?_
                      refine ex_iaload cg_188 (ix := 75) (pc' := 135) rfl rfl (by omega) (by omega) rfl ?_
                      refine ex_iastore cg_188 (ix := 76) (pc' := 136) (h' := [(119, .inl (11, vs_119 (upi mi 0 (Int32.ofInt 0)) ml)), (126, .inr (.inl (0, 7, r))), (122, .inr (.inl (0, 16, upd t x.toNatClampNeg (t x.toNatClampNeg)))), (123, .inr (.inl (0, 16, upd s x.toNatClampNeg (s x.toNatClampNeg))))]) rfl rfl (by omega) (by omega) rfl rfl ?_
                      refine ex_iload cg_188 (ix := 77) (pc' := 138) rfl rfl rfl ?_
                      refine ex_ireturn cg_188 (ix := 78) rfl ?_
                      first | (exfalso; omega) | exact ⟨_, r, _, _, rfl, rfl, Or.inr (Or.inr (Or.inr (Or.inr (Or.inl ⟨by omega, by omega, by omega, rfl, rfl, upd_id⟩))))⟩
                    · have hb122 : ¬ (¬ w.toInt = (Int32.ofInt 1).toInt) := hb122
                      refine ex_iload_n cg_188 (ix := 70) (pc' := 126) rfl rfl rfl ?_
                      refine ex_goto cg_188 (ix := 71) (pc' := 135) rfl rfl ?_
                      refine ex_iastore cg_188 (ix := 76) (pc' := 136) (h' := [(119, .inl (11, vs_119 (upi mi 0 (Int32.ofInt 0)) ml)), (126, .inr (.inl (0, 7, r))), (122, .inr (.inl (0, 16, upd t x.toNatClampNeg (t x.toNatClampNeg)))), (123, .inr (.inl (0, 16, upd s x.toNatClampNeg v)))]) rfl rfl (by omega) (by omega) rfl rfl ?_
                      refine ex_iload cg_188 (ix := 77) (pc' := 138) rfl rfl rfl ?_
                      refine ex_ireturn cg_188 (ix := 78) rfl ?_
                      first | (exfalso; omega) | exact ⟨_, r, _, _, rfl, rfl, Or.inr (Or.inr (Or.inr (Or.inr (Or.inl ⟨by omega, by omega, by omega, rfl, rfl, upd_id⟩))))⟩
                  · have hb101 : ¬ (¬ w.toInt = 0) := hb101
                    refine ex_iload_n cg_188 (ix := 57) (pc' := 105) rfl rfl rfl ?_
                    refine ex_goto cg_188 (ix := 58) (pc' := 114) rfl rfl ?_
                    refine ex_iastore cg_188 (ix := 63) (pc' := 115) (h' := [(119, .inl (11, vs_119 (upi mi 0 (Int32.ofInt 0)) ml)), (126, .inr (.inl (0, 7, r))), (122, .inr (.inl (0, 16, upd t x.toNatClampNeg v))), (123, .inr (.inl (0, 16, s)))]) rfl rfl (by omega) (by omega) rfl rfl ?_
                    refine ex_aload_n cg_188 (ix := 64) (pc' := 116) rfl rfl rfl ?_
                    refine ex_getfield cg_188 (ix := 65) (pc' := 119) (v := .inr (.inl 123)) rfl rfl rfl rfl rfl ?_
                    refine ex_iload_n cg_188 (ix := 66) (pc' := 120) rfl rfl rfl ?_
                    refine ex_iload_n cg_188 (ix := 67) (pc' := 121) rfl rfl rfl ?_
                    refine ex_iconst cg_188 (ix := 68) (pc' := 122) rfl rfl ?_
                    refine ex_icmp cg_188 (ix := 69) (t := 129) (pc' := 125) rfl rfl rfl (fun hb122 => ?_) (fun hb122 => ?_)
                    · have hb122 : ¬ w.toInt = (Int32.ofInt 1).toInt := hb122
                      refine ex_aload_n cg_188 (ix := 72) (pc' := 130) rfl rfl rfl ?_
                      refine ex_getfield cg_188 (ix := 73) (pc' := 133) (v := .inr (.inl 123)) rfl rfl rfl rfl rfl ?_
                      refine ex_iload_n cg_188 (ix := 74) (pc' := 134) rfl rfl rfl ?_
                      refine ex_iaload cg_188 (ix := 75) (pc' := 135) rfl rfl (by omega) (by omega) rfl ?_
                      refine ex_iastore cg_188 (ix := 76) (pc' := 136) (h' := [(119, .inl (11, vs_119 (upi mi 0 (Int32.ofInt 0)) ml)), (126, .inr (.inl (0, 7, r))), (122, .inr (.inl (0, 16, upd t x.toNatClampNeg v))), (123, .inr (.inl (0, 16, upd s x.toNatClampNeg (s x.toNatClampNeg))))]) rfl rfl (by omega) (by omega) rfl rfl ?_
                      refine ex_iload cg_188 (ix := 77) (pc' := 138) rfl rfl rfl ?_
                      refine ex_ireturn cg_188 (ix := 78) rfl ?_
                      first | (exfalso; omega) | exact ⟨_, r, _, _, rfl, rfl, Or.inr (Or.inr (Or.inr (Or.inr (Or.inl ⟨by omega, by omega, by omega, rfl, rfl, upd_id⟩))))⟩
                    · have hb122 : ¬ (¬ w.toInt = (Int32.ofInt 1).toInt) := hb122
                      refine ex_iload_n cg_188 (ix := 70) (pc' := 126) rfl rfl rfl ?_
                      refine ex_goto cg_188 (ix := 71) (pc' := 135) rfl rfl ?_
                      refine ex_iastore cg_188 (ix := 76) (pc' := 136) (h' := [(119, .inl (11, vs_119 (upi mi 0 (Int32.ofInt 0)) ml)), (126, .inr (.inl (0, 7, r))), (122, .inr (.inl (0, 16, upd t x.toNatClampNeg v))), (123, .inr (.inl (0, 16, upd s x.toNatClampNeg v)))]) rfl rfl (by omega) (by omega) rfl rfl ?_
                      refine ex_iload cg_188 (ix := 77) (pc' := 138) rfl rfl rfl ?_
                      refine ex_ireturn cg_188 (ix := 78) rfl ?_
                      first | (exfalso; omega) | exact ⟨_, r, _, _, rfl, rfl, Or.inr (Or.inr (Or.inr (Or.inr (Or.inl ⟨by omega, by omega, by omega, rfl, rfl, upd_id⟩))))⟩
              · have hb58 : ¬ (v.toInt ≤ (Int32.ofInt 9).toInt) := hb58
                refine ex_iload_n cg_188 (ix := 33) (pc' := 62) rfl rfl rfl ?_
                refine ex_bipush cg_188 (ix := 34) (pc' := 64) rfl rfl rfl ?_
                refine ex_icmp cg_188 (ix := 35) (t := 74) (pc' := 67) rfl rfl rfl (fun hb64 => ?_) (fun hb64 => ?_)
                · have hb64 : v.toInt = (Int32.ofInt 99).toInt := hb64
                  refine ex_iload_n cg_188 (ix := 40) (pc' := 75) rfl rfl rfl ?_
                  refine ex_if cg_188 (ix := 41) (t := 87) (pc' := 78) rfl rfl rfl (fun hb75 => ?_) (fun hb75 => ?_)
                  · have hb75 : ¬ w.toInt = 0 := hb75
                    refine ex_aload_n cg_188 (ix := 47) (pc' := 88) rfl rfl rfl ?_
                    refine ex_getfield cg_188 (ix := 48) (pc' := 91) (v := .inr (.inl 123)) rfl rfl rfl rfl rfl ?_
                    refine ex_iload_n cg_188 (ix := 49) (pc' := 92) rfl rfl rfl ?_
                    refine ex_iaload cg_188 (ix := 50) (pc' := 93) rfl rfl (by omega) (by omega) rfl ?_
                    refine ex_istore cg_188 (ix := 51) (pc' := 95) (L' := [some (.inr (.inl 119)), some (.inl (.int x)), some (.inl (.int w)), some (.inl (.int v)), some (.inl (.int (s x.toNatClampNeg)))]) rfl rfl rfl rfl ?_
                    refine ex_aload_n cg_188 (ix := 52) (pc' := 96) rfl rfl rfl ?_
                    refine ex_getfield cg_188 (ix := 53) (pc' := 99) (v := .inr (.inl 122)) rfl rfl rfl rfl rfl ?_
                    refine ex_iload_n cg_188 (ix := 54) (pc' := 100) rfl rfl rfl ?_
                    refine ex_iload_n cg_188 (ix := 55) (pc' := 101) rfl rfl rfl ?_
                    refine ex_if cg_188 (ix := 56) (t := 108) (pc' := 104) rfl rfl rfl (fun hb101 => ?_) (fun hb101 => ?_)
                    · have hb101 : ¬ w.toInt = 0 := hb101
                      refine ex_aload_n cg_188 (ix := 59) (pc' := 109) rfl rfl rfl ?_
                      refine ex_getfield cg_188 (ix := 60) (pc' := 112) (v := .inr (.inl 122)) rfl rfl rfl rfl rfl ?_
                      refine ex_iload_n cg_188 (ix := 61) (pc' := 113) rfl rfl rfl ?_
                      refine ex_iaload cg_188 (ix := 62) (pc' := 114) rfl rfl (by omega) (by omega) rfl ?_
                      refine ex_iastore cg_188 (ix := 63) (pc' := 115) (h' := [(119, .inl (11, vs_119 (upi mi 0 (Int32.ofInt 0)) ml)), (126, .inr (.inl (0, 7, r))), (122, .inr (.inl (0, 16, upd t x.toNatClampNeg (t x.toNatClampNeg)))), (123, .inr (.inl (0, 16, s)))]) rfl rfl (by omega) (by omega) rfl rfl ?_
                      refine ex_aload_n cg_188 (ix := 64) (pc' := 116) rfl rfl rfl ?_
                      refine ex_getfield cg_188 (ix := 65) (pc' := 119) (v := .inr (.inl 123)) rfl rfl rfl rfl rfl ?_
                      refine ex_iload_n cg_188 (ix := 66) (pc' := 120) rfl rfl rfl ?_
                      refine ex_iload_n cg_188 (ix := 67) (pc' := 121) rfl rfl rfl ?_
                      refine ex_iconst cg_188 (ix := 68) (pc' := 122) rfl rfl ?_
                      refine ex_icmp cg_188 (ix := 69) (t := 129) (pc' := 125) rfl rfl rfl (fun hb122 => ?_) (fun hb122 => ?_)
                      · have hb122 : ¬ w.toInt = (Int32.ofInt 1).toInt := hb122
                        refine ex_aload_n cg_188 (ix := 72) (pc' := 130) rfl rfl rfl ?_
                        refine ex_getfield cg_188 (ix := 73) (pc' := 133) (v := .inr (.inl 123)) rfl rfl rfl rfl rfl ?_
                        refine ex_iload_n cg_188 (ix := 74) (pc' := 134) rfl rfl rfl ?_
                        refine ex_iaload cg_188 (ix := 75) (pc' := 135) rfl rfl (by omega) (by omega) rfl ?_
                        refine ex_iastore cg_188 (ix := 76) (pc' := 136) (h' := [(119, .inl (11, vs_119 (upi mi 0 (Int32.ofInt 0)) ml)), (126, .inr (.inl (0, 7, r))), (122, .inr (.inl (0, 16, upd t x.toNatClampNeg (t x.toNatClampNeg)))), (123, .inr (.inl (0, 16, upd s x.toNatClampNeg (s x.toNatClampNeg))))]) rfl rfl (by omega) (by omega) rfl rfl ?_
                        refine ex_iload cg_188 (ix := 77) (pc' := 138) rfl rfl rfl ?_
                        refine ex_ireturn cg_188 (ix := 78) rfl ?_
                        first | (exfalso; omega) | exact ⟨_, r, _, _, rfl, rfl, Or.inr (Or.inr (Or.inr (Or.inr (Or.inr (⟨by omega, by omega, by omega, rfl, upd_id, rfl⟩)))))⟩
                      · have hb122 : ¬ (¬ w.toInt = (Int32.ofInt 1).toInt) := hb122
                        refine ex_iload_n cg_188 (ix := 70) (pc' := 126) rfl rfl rfl ?_
                        refine ex_goto cg_188 (ix := 71) (pc' := 135) rfl rfl ?_
                        refine ex_iastore cg_188 (ix := 76) (pc' := 136) (h' := [(119, .inl (11, vs_119 (upi mi 0 (Int32.ofInt 0)) ml)), (126, .inr (.inl (0, 7, r))), (122, .inr (.inl (0, 16, upd t x.toNatClampNeg (t x.toNatClampNeg)))), (123, .inr (.inl (0, 16, upd s x.toNatClampNeg v)))]) rfl rfl (by omega) (by omega) rfl rfl ?_
                        refine ex_iload cg_188 (ix := 77) (pc' := 138) rfl rfl rfl ?_
                        refine ex_ireturn cg_188 (ix := 78) rfl ?_
                        first | (exfalso; omega) | exact ⟨_, r, _, _, rfl, rfl, Or.inr (Or.inr (Or.inr (Or.inr (Or.inr (⟨by omega, by omega, by omega, rfl, upd_id, rfl⟩)))))⟩
                    · have hb101 : ¬ (¬ w.toInt = 0) := hb101
                      refine ex_iload_n cg_188 (ix := 57) (pc' := 105) rfl rfl rfl ?_
                      refine ex_goto cg_188 (ix := 58) (pc' := 114) rfl rfl ?_
                      refine ex_iastore cg_188 (ix := 63) (pc' := 115) (h' := [(119, .inl (11, vs_119 (upi mi 0 (Int32.ofInt 0)) ml)), (126, .inr (.inl (0, 7, r))), (122, .inr (.inl (0, 16, upd t x.toNatClampNeg v))), (123, .inr (.inl (0, 16, s)))]) rfl rfl (by omega) (by omega) rfl rfl ?_
                      refine ex_aload_n cg_188 (ix := 64) (pc' := 116) rfl rfl rfl ?_
                      refine ex_getfield cg_188 (ix := 65) (pc' := 119) (v := .inr (.inl 123)) rfl rfl rfl rfl rfl ?_
                      refine ex_iload_n cg_188 (ix := 66) (pc' := 120) rfl rfl rfl ?_
                      refine ex_iload_n cg_188 (ix := 67) (pc' := 121) rfl rfl rfl ?_
                      refine ex_iconst cg_188 (ix := 68) (pc' := 122) rfl rfl ?_
                      refine ex_icmp cg_188 (ix := 69) (t := 129) (pc' := 125) rfl rfl rfl (fun hb122 => ?_) (fun hb122 => ?_)
                      · have hb122 : ¬ w.toInt = (Int32.ofInt 1).toInt := hb122
                        refine ex_aload_n cg_188 (ix := 72) (pc' := 130) rfl rfl rfl ?_
                        refine ex_getfield cg_188 (ix := 73) (pc' := 133) (v := .inr (.inl 123)) rfl rfl rfl rfl rfl ?_
                        refine ex_iload_n cg_188 (ix := 74) (pc' := 134) rfl rfl rfl ?_
                        refine ex_iaload cg_188 (ix := 75) (pc' := 135) rfl rfl (by omega) (by omega) rfl ?_
                        refine ex_iastore cg_188 (ix := 76) (pc' := 136) (h' := [(119, .inl (11, vs_119 (upi mi 0 (Int32.ofInt 0)) ml)), (126, .inr (.inl (0, 7, r))), (122, .inr (.inl (0, 16, upd t x.toNatClampNeg v))), (123, .inr (.inl (0, 16, upd s x.toNatClampNeg (s x.toNatClampNeg))))]) rfl rfl (by omega) (by omega) rfl rfl ?_
                        refine ex_iload cg_188 (ix := 77) (pc' := 138) rfl rfl rfl ?_
                        refine ex_ireturn cg_188 (ix := 78) rfl ?_
                        first | (exfalso; omega) | exact ⟨_, r, _, _, rfl, rfl, Or.inr (Or.inr (Or.inr (Or.inr (Or.inr (⟨by omega, by omega, by omega, rfl, upd_id, rfl⟩)))))⟩
                      · have hb122 : ¬ (¬ w.toInt = (Int32.ofInt 1).toInt) := hb122
                        refine ex_iload_n cg_188 (ix := 70) (pc' := 126) rfl rfl rfl ?_
                        refine ex_goto cg_188 (ix := 71) (pc' := 135) rfl rfl ?_
                        refine ex_iastore cg_188 (ix := 76) (pc' := 136) (h' := [(119, .inl (11, vs_119 (upi mi 0 (Int32.ofInt 0)) ml)), (126, .inr (.inl (0, 7, r))), (122, .inr (.inl (0, 16, upd t x.toNatClampNeg v))), (123, .inr (.inl (0, 16, upd s x.toNatClampNeg v)))]) rfl rfl (by omega) (by omega) rfl rfl ?_
                        refine ex_iload cg_188 (ix := 77) (pc' := 138) rfl rfl rfl ?_
                        refine ex_ireturn cg_188 (ix := 78) rfl ?_
                        first | (exfalso; omega) | exact ⟨_, r, _, _, rfl, rfl, Or.inr (Or.inr (Or.inr (Or.inr (Or.inr (⟨by omega, by omega, by omega, rfl, upd_id, rfl⟩)))))⟩
                  · have hb75 : ¬ (¬ w.toInt = 0) := hb75
                    refine ex_aload_n cg_188 (ix := 42) (pc' := 79) rfl rfl rfl ?_
                    refine ex_getfield cg_188 (ix := 43) (pc' := 82) (v := .inr (.inl 122)) rfl rfl rfl rfl rfl ?_
                    refine ex_iload_n cg_188 (ix := 44) (pc' := 83) rfl rfl rfl ?_
                    refine ex_iaload cg_188 (ix := 45) (pc' := 84) rfl rfl (by omega) (by omega) rfl ?_
                    refine ex_goto cg_188 (ix := 46) (pc' := 93) rfl rfl ?_
                    refine ex_istore cg_188 (ix := 51) (pc' := 95) (L' := [some (.inr (.inl 119)), some (.inl (.int x)), some (.inl (.int w)), some (.inl (.int v)), some (.inl (.int (t x.toNatClampNeg)))]) rfl rfl rfl rfl ?_
                    refine ex_aload_n cg_188 (ix := 52) (pc' := 96) rfl rfl rfl ?_
                    refine ex_getfield cg_188 (ix := 53) (pc' := 99) (v := .inr (.inl 122)) rfl rfl rfl rfl rfl ?_
                    refine ex_iload_n cg_188 (ix := 54) (pc' := 100) rfl rfl rfl ?_
                    refine ex_iload_n cg_188 (ix := 55) (pc' := 101) rfl rfl rfl ?_
                    refine ex_if cg_188 (ix := 56) (t := 108) (pc' := 104) rfl rfl rfl (fun hb101 => ?_) (fun hb101 => ?_)
                    · have hb101 : ¬ w.toInt = 0 := hb101
                      refine ex_aload_n cg_188 (ix := 59) (pc' := 109) rfl rfl rfl ?_
                      refine ex_getfield cg_188 (ix := 60) (pc' := 112) (v := .inr (.inl 122)) rfl rfl rfl rfl rfl ?_
                      refine ex_iload_n cg_188 (ix := 61) (pc' := 113) rfl rfl rfl ?_
                      refine ex_iaload cg_188 (ix := 62) (pc' := 114) rfl rfl (by omega) (by omega) rfl ?_
                      refine ex_iastore cg_188 (ix := 63) (pc' := 115) (h' := [(119, .inl (11, vs_119 (upi mi 0 (Int32.ofInt 0)) ml)), (126, .inr (.inl (0, 7, r))), (122, .inr (.inl (0, 16, upd t x.toNatClampNeg (t x.toNatClampNeg)))), (123, .inr (.inl (0, 16, s)))]) rfl rfl (by omega) (by omega) rfl rfl ?_
                      refine ex_aload_n cg_188 (ix := 64) (pc' := 116) rfl rfl rfl ?_
                      refine ex_getfield cg_188 (ix := 65) (pc' := 119) (v := .inr (.inl 123)) rfl rfl rfl rfl rfl ?_
                      refine ex_iload_n cg_188 (ix := 66) (pc' := 120) rfl rfl rfl ?_
                      refine ex_iload_n cg_188 (ix := 67) (pc' := 121) rfl rfl rfl ?_
                      refine ex_iconst cg_188 (ix := 68) (pc' := 122) rfl rfl ?_
                      refine ex_icmp cg_188 (ix := 69) (t := 129) (pc' := 125) rfl rfl rfl (fun hb122 => ?_) (fun hb122 => ?_)
                      · have hb122 : ¬ w.toInt = (Int32.ofInt 1).toInt := hb122
                        refine ex_aload_n cg_188 (ix := 72) (pc' := 130) rfl rfl rfl ?_
                        refine ex_getfield cg_188 (ix := 73) (pc' := 133) (v := .inr (.inl 123)) rfl rfl rfl rfl rfl ?_
                        refine ex_iload_n cg_188 (ix := 74) (pc' := 134) rfl rfl rfl ?_
                        refine ex_iaload cg_188 (ix := 75) (pc' := 135) rfl rfl (by omega) (by omega) rfl ?_
                        refine ex_iastore cg_188 (ix := 76) (pc' := 136) (h' := [(119, .inl (11, vs_119 (upi mi 0 (Int32.ofInt 0)) ml)), (126, .inr (.inl (0, 7, r))), (122, .inr (.inl (0, 16, upd t x.toNatClampNeg (t x.toNatClampNeg)))), (123, .inr (.inl (0, 16, upd s x.toNatClampNeg (s x.toNatClampNeg))))]) rfl rfl (by omega) (by omega) rfl rfl ?_
                        refine ex_iload cg_188 (ix := 77) (pc' := 138) rfl rfl rfl ?_
                        refine ex_ireturn cg_188 (ix := 78) rfl ?_
                        first | (exfalso; omega) | exact ⟨_, r, _, _, rfl, rfl, Or.inr (Or.inr (Or.inr (Or.inr (Or.inl ⟨by omega, by omega, by omega, rfl, rfl, upd_id⟩))))⟩
                      · have hb122 : ¬ (¬ w.toInt = (Int32.ofInt 1).toInt) := hb122
                        refine ex_iload_n cg_188 (ix := 70) (pc' := 126) rfl rfl rfl ?_
                        refine ex_goto cg_188 (ix := 71) (pc' := 135) rfl rfl ?_
                        refine ex_iastore cg_188 (ix := 76) (pc' := 136) (h' := [(119, .inl (11, vs_119 (upi mi 0 (Int32.ofInt 0)) ml)), (126, .inr (.inl (0, 7, r))), (122, .inr (.inl (0, 16, upd t x.toNatClampNeg (t x.toNatClampNeg)))), (123, .inr (.inl (0, 16, upd s x.toNatClampNeg v)))]) rfl rfl (by omega) (by omega) rfl rfl ?_
                        refine ex_iload cg_188 (ix := 77) (pc' := 138) rfl rfl rfl ?_
                        refine ex_ireturn cg_188 (ix := 78) rfl ?_
                        first | (exfalso; omega) | exact ⟨_, r, _, _, rfl, rfl, Or.inr (Or.inr (Or.inr (Or.inr (Or.inl ⟨by omega, by omega, by omega, rfl, rfl, upd_id⟩))))⟩
                    · have hb101 : ¬ (¬ w.toInt = 0) := hb101
                      refine ex_iload_n cg_188 (ix := 57) (pc' := 105) rfl rfl rfl ?_
                      refine ex_goto cg_188 (ix := 58) (pc' := 114) rfl rfl ?_
                      refine ex_iastore cg_188 (ix := 63) (pc' := 115) (h' := [(119, .inl (11, vs_119 (upi mi 0 (Int32.ofInt 0)) ml)), (126, .inr (.inl (0, 7, r))), (122, .inr (.inl (0, 16, upd t x.toNatClampNeg v))), (123, .inr (.inl (0, 16, s)))]) rfl rfl (by omega) (by omega) rfl rfl ?_
                      refine ex_aload_n cg_188 (ix := 64) (pc' := 116) rfl rfl rfl ?_
                      refine ex_getfield cg_188 (ix := 65) (pc' := 119) (v := .inr (.inl 123)) rfl rfl rfl rfl rfl ?_
                      refine ex_iload_n cg_188 (ix := 66) (pc' := 120) rfl rfl rfl ?_
                      refine ex_iload_n cg_188 (ix := 67) (pc' := 121) rfl rfl rfl ?_
                      refine ex_iconst cg_188 (ix := 68) (pc' := 122) rfl rfl ?_
                      refine ex_icmp cg_188 (ix := 69) (t := 129) (pc' := 125) rfl rfl rfl (fun hb122 => ?_) (fun hb122 => ?_)
                      · have hb122 : ¬ w.toInt = (Int32.ofInt 1).toInt := hb122
                        refine ex_aload_n cg_188 (ix := 72) (pc' := 130) rfl rfl rfl ?_
                        refine ex_getfield cg_188 (ix := 73) (pc' := 133) (v := .inr (.inl 123)) rfl rfl rfl rfl rfl ?_
                        refine ex_iload_n cg_188 (ix := 74) (pc' := 134) rfl rfl rfl ?_
                        refine ex_iaload cg_188 (ix := 75) (pc' := 135) rfl rfl (by omega) (by omega) rfl ?_
                        refine ex_iastore cg_188 (ix := 76) (pc' := 136) (h' := [(119, .inl (11, vs_119 (upi mi 0 (Int32.ofInt 0)) ml)), (126, .inr (.inl (0, 7, r))), (122, .inr (.inl (0, 16, upd t x.toNatClampNeg v))), (123, .inr (.inl (0, 16, upd s x.toNatClampNeg (s x.toNatClampNeg))))]) rfl rfl (by omega) (by omega) rfl rfl ?_
                        refine ex_iload cg_188 (ix := 77) (pc' := 138) rfl rfl rfl ?_
                        refine ex_ireturn cg_188 (ix := 78) rfl ?_
                        first | (exfalso; omega) | exact ⟨_, r, _, _, rfl, rfl, Or.inr (Or.inr (Or.inr (Or.inr (Or.inl ⟨by omega, by omega, by omega, rfl, rfl, upd_id⟩))))⟩
                      · have hb122 : ¬ (¬ w.toInt = (Int32.ofInt 1).toInt) := hb122
                        refine ex_iload_n cg_188 (ix := 70) (pc' := 126) rfl rfl rfl ?_
                        refine ex_goto cg_188 (ix := 71) (pc' := 135) rfl rfl ?_
                        refine ex_iastore cg_188 (ix := 76) (pc' := 136) (h' := [(119, .inl (11, vs_119 (upi mi 0 (Int32.ofInt 0)) ml)), (126, .inr (.inl (0, 7, r))), (122, .inr (.inl (0, 16, upd t x.toNatClampNeg v))), (123, .inr (.inl (0, 16, upd s x.toNatClampNeg v)))]) rfl rfl (by omega) (by omega) rfl rfl ?_
                        refine ex_iload cg_188 (ix := 77) (pc' := 138) rfl rfl rfl ?_
                        refine ex_ireturn cg_188 (ix := 78) rfl ?_
                        first | (exfalso; omega) | exact ⟨_, r, _, _, rfl, rfl, Or.inr (Or.inr (Or.inr (Or.inr (Or.inl ⟨by omega, by omega, by omega, rfl, rfl, upd_id⟩))))⟩
                · have hb64 : ¬ (v.toInt = (Int32.ofInt 99).toInt) := hb64
                  refine ex_aload_n cg_188 (ix := 36) (pc' := 68) rfl rfl rfl ?_
                  refine ex_bipush cg_188 (ix := 37) (pc' := 70) rfl rfl rfl ?_
                  refine ex_callV cg_188 (ix := 38) (pc' := 73) (As := [.inl (.int (Int32.ofInt (-6)))]) (r := []) rfl rfl rfl (ct_mrf (x := Int32.ofInt (-6)) (mi := (upi mi 0 (Int32.ofInt 0))) (ml := ml) (r := r) (by decide +kernel) (by decide +kernel)) (by first | decide | omega) rfl rfl rfl ⟨rfl, rfl, trivial⟩ rfl rfl (fun v h2 hq => ?_)
                  obtain ⟨rfl, r2, rfl⟩ := hq
                  show cx_T _ 188 _ 73 ([some (.inr (.inl 119)), some (.inl (.int x)), some (.inl (.int w)), some (.inl (.int v)), none], [.inl (.int (Int32.ofInt 1000000000 - (Int32.ofInt (-6))))], [(119, .inl (11, vs_119 (upi mi 0 (Int32.ofInt 0)) ml)), (126, .inr (.inl (0, 7, r2))), (122, .inr (.inl (0, 16, t))), (123, .inr (.inl (0, 16, s)))]) _
                  refine ex_ireturn cg_188 (ix := 39) rfl ?_
                  exact ⟨_, r2, _, _, rfl, rfl, Or.inr (Or.inr (Or.inr (Or.inl ⟨by omega, by omega, by omega, by omega, rfl, rfl, rfl⟩)))⟩
            · have hb45 : ¬ ((Int32.ofInt 0).toInt ≤ v.toInt) := hb45
              refine ex_aload_n cg_188 (ix := 26) (pc' := 49) rfl rfl rfl ?_
              refine ex_bipush cg_188 (ix := 27) (pc' := 51) rfl rfl rfl ?_
              refine ex_callV cg_188 (ix := 28) (pc' := 54) (As := [.inl (.int (Int32.ofInt (-4)))]) (r := []) rfl rfl rfl (ct_mrf (x := Int32.ofInt (-4)) (mi := (upi mi 0 (Int32.ofInt 0))) (ml := ml) (r := r) (by decide +kernel) (by decide +kernel)) (by first | decide | omega) rfl rfl rfl ⟨rfl, rfl, trivial⟩ rfl rfl (fun v h2 hq => ?_)
              obtain ⟨rfl, r2, rfl⟩ := hq
              show cx_T _ 188 _ 54 ([some (.inr (.inl 119)), some (.inl (.int x)), some (.inl (.int w)), some (.inl (.int v)), none], [.inl (.int (Int32.ofInt 1000000000 - (Int32.ofInt (-4))))], [(119, .inl (11, vs_119 (upi mi 0 (Int32.ofInt 0)) ml)), (126, .inr (.inl (0, 7, r2))), (122, .inr (.inl (0, 16, t))), (123, .inr (.inl (0, 16, s)))]) _
              refine ex_ireturn cg_188 (ix := 29) rfl ?_
              exact ⟨_, r2, _, _, rfl, rfl, Or.inr (Or.inr (Or.inl ⟨by omega, by omega, rfl, rfl, rfl⟩))⟩
          · have hb36 : ¬ (¬ w.toInt = 0) := hb36
            refine ex_bipush cg_188 (ix := 22) (pc' := 41) rfl rfl rfl ?_
            refine ex_goto cg_188 (ix := 23) (pc' := 45) rfl rfl ?_
            refine ex_icmp cg_188 (ix := 25) (t := 55) (pc' := 48) rfl rfl rfl (fun hb45 => ?_) (fun hb45 => ?_)
            · have hb45 : (Int32.ofInt (-9)).toInt ≤ v.toInt := hb45
              refine ex_iload_n cg_188 (ix := 30) (pc' := 56) rfl rfl rfl ?_
              refine ex_bipush cg_188 (ix := 31) (pc' := 58) rfl rfl rfl ?_
              refine ex_icmp cg_188 (ix := 32) (t := 74) (pc' := 61) rfl rfl rfl (fun hb58 => ?_) (fun hb58 => ?_)
              · have hb58 : v.toInt ≤ (Int32.ofInt 9).toInt := hb58
                refine ex_iload_n cg_188 (ix := 40) (pc' := 75) rfl rfl rfl ?_
                refine ex_if cg_188 (ix := 41) (t := 87) (pc' := 78) rfl rfl rfl (fun hb75 => ?_) (fun hb75 => ?_)
                · have hb75 : ¬ w.toInt = 0 := hb75
                  refine ex_aload_n cg_188 (ix := 47) (pc' := 88) rfl rfl rfl ?_
                  refine ex_getfield cg_188 (ix := 48) (pc' := 91) (v := .inr (.inl 123)) rfl rfl rfl rfl rfl ?_
                  refine ex_iload_n cg_188 (ix := 49) (pc' := 92) rfl rfl rfl ?_
                  refine ex_iaload cg_188 (ix := 50) (pc' := 93) rfl rfl (by omega) (by omega) rfl ?_
                  refine ex_istore cg_188 (ix := 51) (pc' := 95) (L' := [some (.inr (.inl 119)), some (.inl (.int x)), some (.inl (.int w)), some (.inl (.int v)), some (.inl (.int (s x.toNatClampNeg)))]) rfl rfl rfl rfl ?_
                  refine ex_aload_n cg_188 (ix := 52) (pc' := 96) rfl rfl rfl ?_
                  refine ex_getfield cg_188 (ix := 53) (pc' := 99) (v := .inr (.inl 122)) rfl rfl rfl rfl rfl ?_
                  refine ex_iload_n cg_188 (ix := 54) (pc' := 100) rfl rfl rfl ?_
                  refine ex_iload_n cg_188 (ix := 55) (pc' := 101) rfl rfl rfl ?_
                  refine ex_if cg_188 (ix := 56) (t := 108) (pc' := 104) rfl rfl rfl (fun hb101 => ?_) (fun hb101 => ?_)
                  · have hb101 : ¬ w.toInt = 0 := hb101
                    refine ex_aload_n cg_188 (ix := 59) (pc' := 109) rfl rfl rfl ?_
                    refine ex_getfield cg_188 (ix := 60) (pc' := 112) (v := .inr (.inl 122)) rfl rfl rfl rfl rfl ?_
                    refine ex_iload_n cg_188 (ix := 61) (pc' := 113) rfl rfl rfl ?_
                    refine ex_iaload cg_188 (ix := 62) (pc' := 114) rfl rfl (by omega) (by omega) rfl ?_
                    refine ex_iastore cg_188 (ix := 63) (pc' := 115) (h' := [(119, .inl (11, vs_119 (upi mi 0 (Int32.ofInt 0)) ml)), (126, .inr (.inl (0, 7, r))), (122, .inr (.inl (0, 16, upd t x.toNatClampNeg (t x.toNatClampNeg)))), (123, .inr (.inl (0, 16, s)))]) rfl rfl (by omega) (by omega) rfl rfl ?_
                    refine ex_aload_n cg_188 (ix := 64) (pc' := 116) rfl rfl rfl ?_
                    refine ex_getfield cg_188 (ix := 65) (pc' := 119) (v := .inr (.inl 123)) rfl rfl rfl rfl rfl ?_
                    refine ex_iload_n cg_188 (ix := 66) (pc' := 120) rfl rfl rfl ?_
                    refine ex_iload_n cg_188 (ix := 67) (pc' := 121) rfl rfl rfl ?_
                    refine ex_iconst cg_188 (ix := 68) (pc' := 122) rfl rfl ?_
                    refine ex_icmp cg_188 (ix := 69) (t := 129) (pc' := 125) rfl rfl rfl (fun hb122 => ?_) (fun hb122 => ?_)
                    · have hb122 : ¬ w.toInt = (Int32.ofInt 1).toInt := hb122
                      refine ex_aload_n cg_188 (ix := 72) (pc' := 130) rfl rfl rfl ?_
                      refine ex_getfield cg_188 (ix := 73) (pc' := 133) (v := .inr (.inl 123)) rfl rfl rfl rfl rfl ?_
                      refine ex_iload_n cg_188 (ix := 74) (pc' := 134) rfl rfl rfl ?_
                      refine ex_iaload cg_188 (ix := 75) (pc' := 135) rfl rfl (by omega) (by omega) rfl ?_
                      refine ex_iastore cg_188 (ix := 76) (pc' := 136) (h' := [(119, .inl (11, vs_119 (upi mi 0 (Int32.ofInt 0)) ml)), (126, .inr (.inl (0, 7, r))), (122, .inr (.inl (0, 16, upd t x.toNatClampNeg (t x.toNatClampNeg)))), (123, .inr (.inl (0, 16, upd s x.toNatClampNeg (s x.toNatClampNeg))))]) rfl rfl (by omega) (by omega) rfl rfl ?_
                      refine ex_iload cg_188 (ix := 77) (pc' := 138) rfl rfl rfl ?_
                      refine ex_ireturn cg_188 (ix := 78) rfl ?_
                      first | (exfalso; omega) | exact ⟨_, r, _, _, rfl, rfl, Or.inr (Or.inr (Or.inr (Or.inr (Or.inr (⟨by omega, by omega, by omega, rfl, upd_id, rfl⟩)))))⟩
                    · have hb122 : ¬ (¬ w.toInt = (Int32.ofInt 1).toInt) := hb122
                      refine ex_iload_n cg_188 (ix := 70) (pc' := 126) rfl rfl rfl ?_
                      refine ex_goto cg_188 (ix := 71) (pc' := 135) rfl rfl ?_
                      refine ex_iastore cg_188 (ix := 76) (pc' := 136) (h' := [(119, .inl (11, vs_119 (upi mi 0 (Int32.ofInt 0)) ml)), (126, .inr (.inl (0, 7, r))), (122, .inr (.inl (0, 16, upd t x.toNatClampNeg (t x.toNatClampNeg)))), (123, .inr (.inl (0, 16, upd s x.toNatClampNeg v)))]) rfl rfl (by omega) (by omega) rfl rfl ?_
                      refine ex_iload cg_188 (ix := 77) (pc' := 138) rfl rfl rfl ?_
                      refine ex_ireturn cg_188 (ix := 78) rfl ?_
                      first | (exfalso; omega) | exact ⟨_, r, _, _, rfl, rfl, Or.inr (Or.inr (Or.inr (Or.inr (Or.inr (⟨by omega, by omega, by omega, rfl, upd_id, rfl⟩)))))⟩
                  · have hb101 : ¬ (¬ w.toInt = 0) := hb101
                    refine ex_iload_n cg_188 (ix := 57) (pc' := 105) rfl rfl rfl ?_
                    refine ex_goto cg_188 (ix := 58) (pc' := 114) rfl rfl ?_
                    refine ex_iastore cg_188 (ix := 63) (pc' := 115) (h' := [(119, .inl (11, vs_119 (upi mi 0 (Int32.ofInt 0)) ml)), (126, .inr (.inl (0, 7, r))), (122, .inr (.inl (0, 16, upd t x.toNatClampNeg v))), (123, .inr (.inl (0, 16, s)))]) rfl rfl (by omega) (by omega) rfl rfl ?_
                    refine ex_aload_n cg_188 (ix := 64) (pc' := 116) rfl rfl rfl ?_
                    refine ex_getfield cg_188 (ix := 65) (pc' := 119) (v := .inr (.inl 123)) rfl rfl rfl rfl rfl ?_
                    refine ex_iload_n cg_188 (ix := 66) (pc' := 120) rfl rfl rfl ?_
                    refine ex_iload_n cg_188 (ix := 67) (pc' := 121) rfl rfl rfl ?_
                    refine ex_iconst cg_188 (ix := 68) (pc' := 122) rfl rfl ?_
                    refine ex_icmp cg_188 (ix := 69) (t := 129) (pc' := 125) rfl rfl rfl (fun hb122 => ?_) (fun hb122 => ?_)
                    · have hb122 : ¬ w.toInt = (Int32.ofInt 1).toInt := hb122
                      refine ex_aload_n cg_188 (ix := 72) (pc' := 130) rfl rfl rfl ?_
                      refine ex_getfield cg_188 (ix := 73) (pc' := 133) (v := .inr (.inl 123)) rfl rfl rfl rfl rfl ?_
                      refine ex_iload_n cg_188 (ix := 74) (pc' := 134) rfl rfl rfl ?_
                      refine ex_iaload cg_188 (ix := 75) (pc' := 135) rfl rfl (by omega) (by omega) rfl ?_
                      refine ex_iastore cg_188 (ix := 76) (pc' := 136) (h' := [(119, .inl (11, vs_119 (upi mi 0 (Int32.ofInt 0)) ml)), (126, .inr (.inl (0, 7, r))), (122, .inr (.inl (0, 16, upd t x.toNatClampNeg v))), (123, .inr (.inl (0, 16, upd s x.toNatClampNeg (s x.toNatClampNeg))))]) rfl rfl (by omega) (by omega) rfl rfl ?_
                      refine ex_iload cg_188 (ix := 77) (pc' := 138) rfl rfl rfl ?_
                      refine ex_ireturn cg_188 (ix := 78) rfl ?_
                      first | (exfalso; omega) | exact ⟨_, r, _, _, rfl, rfl, Or.inr (Or.inr (Or.inr (Or.inr (Or.inr (⟨by omega, by omega, by omega, rfl, upd_id, rfl⟩)))))⟩
                    · have hb122 : ¬ (¬ w.toInt = (Int32.ofInt 1).toInt) := hb122
                      refine ex_iload_n cg_188 (ix := 70) (pc' := 126) rfl rfl rfl ?_
                      refine ex_goto cg_188 (ix := 71) (pc' := 135) rfl rfl ?_
                      refine ex_iastore cg_188 (ix := 76) (pc' := 136) (h' := [(119, .inl (11, vs_119 (upi mi 0 (Int32.ofInt 0)) ml)), (126, .inr (.inl (0, 7, r))), (122, .inr (.inl (0, 16, upd t x.toNatClampNeg v))), (123, .inr (.inl (0, 16, upd s x.toNatClampNeg v)))]) rfl rfl (by omega) (by omega) rfl rfl ?_
                      refine ex_iload cg_188 (ix := 77) (pc' := 138) rfl rfl rfl ?_
                      refine ex_ireturn cg_188 (ix := 78) rfl ?_
                      first | (exfalso; omega) | exact ⟨_, r, _, _, rfl, rfl, Or.inr (Or.inr (Or.inr (Or.inr (Or.inr (⟨by omega, by omega, by omega, rfl, upd_id, rfl⟩)))))⟩
                · have hb75 : ¬ (¬ w.toInt = 0) := hb75
                  refine ex_aload_n cg_188 (ix := 42) (pc' := 79) rfl rfl rfl ?_
                  refine ex_getfield cg_188 (ix := 43) (pc' := 82) (v := .inr (.inl 122)) rfl rfl rfl rfl rfl ?_
                  refine ex_iload_n cg_188 (ix := 44) (pc' := 83) rfl rfl rfl ?_
                  refine ex_iaload cg_188 (ix := 45) (pc' := 84) rfl rfl (by omega) (by omega) rfl ?_
                  refine ex_goto cg_188 (ix := 46) (pc' := 93) rfl rfl ?_
                  refine ex_istore cg_188 (ix := 51) (pc' := 95) (L' := [some (.inr (.inl 119)), some (.inl (.int x)), some (.inl (.int w)), some (.inl (.int v)), some (.inl (.int (t x.toNatClampNeg)))]) rfl rfl rfl rfl ?_
                  refine ex_aload_n cg_188 (ix := 52) (pc' := 96) rfl rfl rfl ?_
                  refine ex_getfield cg_188 (ix := 53) (pc' := 99) (v := .inr (.inl 122)) rfl rfl rfl rfl rfl ?_
                  refine ex_iload_n cg_188 (ix := 54) (pc' := 100) rfl rfl rfl ?_
                  refine ex_iload_n cg_188 (ix := 55) (pc' := 101) rfl rfl rfl ?_
                  refine ex_if cg_188 (ix := 56) (t := 108) (pc' := 104) rfl rfl rfl (fun hb101 => ?_) (fun hb101 => ?_)
                  · have hb101 : ¬ w.toInt = 0 := hb101
                    refine ex_aload_n cg_188 (ix := 59) (pc' := 109) rfl rfl rfl ?_
                    refine ex_getfield cg_188 (ix := 60) (pc' := 112) (v := .inr (.inl 122)) rfl rfl rfl rfl rfl ?_
                    refine ex_iload_n cg_188 (ix := 61) (pc' := 113) rfl rfl rfl ?_
                    refine ex_iaload cg_188 (ix := 62) (pc' := 114) rfl rfl (by omega) (by omega) rfl ?_
                    refine ex_iastore cg_188 (ix := 63) (pc' := 115) (h' := [(119, .inl (11, vs_119 (upi mi 0 (Int32.ofInt 0)) ml)), (126, .inr (.inl (0, 7, r))), (122, .inr (.inl (0, 16, upd t x.toNatClampNeg (t x.toNatClampNeg)))), (123, .inr (.inl (0, 16, s)))]) rfl rfl (by omega) (by omega) rfl rfl ?_
                    refine ex_aload_n cg_188 (ix := 64) (pc' := 116) rfl rfl rfl ?_
                    refine ex_getfield cg_188 (ix := 65) (pc' := 119) (v := .inr (.inl 123)) rfl rfl rfl rfl rfl ?_
                    refine ex_iload_n cg_188 (ix := 66) (pc' := 120) rfl rfl rfl ?_
                    refine ex_iload_n cg_188 (ix := 67) (pc' := 121) rfl rfl rfl ?_
                    refine ex_iconst cg_188 (ix := 68) (pc' := 122) rfl rfl ?_
                    refine ex_icmp cg_188 (ix := 69) (t := 129) (pc' := 125) rfl rfl rfl (fun hb122 => ?_) (fun hb122 => ?_)
                    · have hb122 : ¬ w.toInt = (Int32.ofInt 1).toInt := hb122
                      refine ex_aload_n cg_188 (ix := 72) (pc' := 130) rfl rfl rfl ?_
                      refine ex_getfield cg_188 (ix := 73) (pc' := 133) (v := .inr (.inl 123)) rfl rfl rfl rfl rfl ?_
                      refine ex_iload_n cg_188 (ix := 74) (pc' := 134) rfl rfl rfl ?_
                      refine ex_iaload cg_188 (ix := 75) (pc' := 135) rfl rfl (by omega) (by omega) rfl ?_
                      refine ex_iastore cg_188 (ix := 76) (pc' := 136) (h' := [(119, .inl (11, vs_119 (upi mi 0 (Int32.ofInt 0)) ml)), (126, .inr (.inl (0, 7, r))), (122, .inr (.inl (0, 16, upd t x.toNatClampNeg (t x.toNatClampNeg)))), (123, .inr (.inl (0, 16, upd s x.toNatClampNeg (s x.toNatClampNeg))))]) rfl rfl (by omega) (by omega) rfl rfl ?_
                      refine ex_iload cg_188 (ix := 77) (pc' := 138) rfl rfl rfl ?_
                      refine ex_ireturn cg_188 (ix := 78) rfl ?_
                      first | (exfalso; omega) | exact ⟨_, r, _, _, rfl, rfl, Or.inr (Or.inr (Or.inr (Or.inr (Or.inl ⟨by omega, by omega, by omega, rfl, rfl, upd_id⟩))))⟩
                    · have hb122 : ¬ (¬ w.toInt = (Int32.ofInt 1).toInt) := hb122
                      refine ex_iload_n cg_188 (ix := 70) (pc' := 126) rfl rfl rfl ?_
                      refine ex_goto cg_188 (ix := 71) (pc' := 135) rfl rfl ?_
                      refine ex_iastore cg_188 (ix := 76) (pc' := 136) (h' := [(119, .inl (11, vs_119 (upi mi 0 (Int32.ofInt 0)) ml)), (126, .inr (.inl (0, 7, r))), (122, .inr (.inl (0, 16, upd t x.toNatClampNeg (t x.toNatClampNeg)))), (123, .inr (.inl (0, 16, upd s x.toNatClampNeg v)))]) rfl rfl (by omega) (by omega) rfl rfl ?_
                      refine ex_iload cg_188 (ix := 77) (pc' := 138) rfl rfl rfl ?_
                      refine ex_ireturn cg_188 (ix := 78) rfl ?_
                      first | (exfalso; omega) | exact ⟨_, r, _, _, rfl, rfl, Or.inr (Or.inr (Or.inr (Or.inr (Or.inl ⟨by omega, by omega, by omega, rfl, rfl, upd_id⟩))))⟩
                  · have hb101 : ¬ (¬ w.toInt = 0) := hb101
                    refine ex_iload_n cg_188 (ix := 57) (pc' := 105) rfl rfl rfl ?_
                    refine ex_goto cg_188 (ix := 58) (pc' := 114) rfl rfl ?_
                    refine ex_iastore cg_188 (ix := 63) (pc' := 115) (h' := [(119, .inl (11, vs_119 (upi mi 0 (Int32.ofInt 0)) ml)), (126, .inr (.inl (0, 7, r))), (122, .inr (.inl (0, 16, upd t x.toNatClampNeg v))), (123, .inr (.inl (0, 16, s)))]) rfl rfl (by omega) (by omega) rfl rfl ?_
                    refine ex_aload_n cg_188 (ix := 64) (pc' := 116) rfl rfl rfl ?_
                    refine ex_getfield cg_188 (ix := 65) (pc' := 119) (v := .inr (.inl 123)) rfl rfl rfl rfl rfl ?_
                    refine ex_iload_n cg_188 (ix := 66) (pc' := 120) rfl rfl rfl ?_
                    refine ex_iload_n cg_188 (ix := 67) (pc' := 121) rfl rfl rfl ?_
                    refine ex_iconst cg_188 (ix := 68) (pc' := 122) rfl rfl ?_
                    refine ex_icmp cg_188 (ix := 69) (t := 129) (pc' := 125) rfl rfl rfl (fun hb122 => ?_) (fun hb122 => ?_)
                    · have hb122 : ¬ w.toInt = (Int32.ofInt 1).toInt := hb122
                      refine ex_aload_n cg_188 (ix := 72) (pc' := 130) rfl rfl rfl ?_
                      refine ex_getfield cg_188 (ix := 73) (pc' := 133) (v := .inr (.inl 123)) rfl rfl rfl rfl rfl ?_
                      refine ex_iload_n cg_188 (ix := 74) (pc' := 134) rfl rfl rfl ?_
                      refine ex_iaload cg_188 (ix := 75) (pc' := 135) rfl rfl (by omega) (by omega) rfl ?_
                      refine ex_iastore cg_188 (ix := 76) (pc' := 136) (h' := [(119, .inl (11, vs_119 (upi mi 0 (Int32.ofInt 0)) ml)), (126, .inr (.inl (0, 7, r))), (122, .inr (.inl (0, 16, upd t x.toNatClampNeg v))), (123, .inr (.inl (0, 16, upd s x.toNatClampNeg (s x.toNatClampNeg))))]) rfl rfl (by omega) (by omega) rfl rfl ?_
                      refine ex_iload cg_188 (ix := 77) (pc' := 138) rfl rfl rfl ?_
                      refine ex_ireturn cg_188 (ix := 78) rfl ?_
                      first | (exfalso; omega) | exact ⟨_, r, _, _, rfl, rfl, Or.inr (Or.inr (Or.inr (Or.inr (Or.inl ⟨by omega, by omega, by omega, rfl, rfl, upd_id⟩))))⟩
                    · have hb122 : ¬ (¬ w.toInt = (Int32.ofInt 1).toInt) := hb122
                      refine ex_iload_n cg_188 (ix := 70) (pc' := 126) rfl rfl rfl ?_
                      refine ex_goto cg_188 (ix := 71) (pc' := 135) rfl rfl ?_
                      refine ex_iastore cg_188 (ix := 76) (pc' := 136) (h' := [(119, .inl (11, vs_119 (upi mi 0 (Int32.ofInt 0)) ml)), (126, .inr (.inl (0, 7, r))), (122, .inr (.inl (0, 16, upd t x.toNatClampNeg v))), (123, .inr (.inl (0, 16, upd s x.toNatClampNeg v)))]) rfl rfl (by omega) (by omega) rfl rfl ?_
                      refine ex_iload cg_188 (ix := 77) (pc' := 138) rfl rfl rfl ?_
                      refine ex_ireturn cg_188 (ix := 78) rfl ?_
                      first | (exfalso; omega) | exact ⟨_, r, _, _, rfl, rfl, Or.inr (Or.inr (Or.inr (Or.inr (Or.inl ⟨by omega, by omega, by omega, rfl, rfl, upd_id⟩))))⟩
              · have hb58 : ¬ (v.toInt ≤ (Int32.ofInt 9).toInt) := hb58
                refine ex_iload_n cg_188 (ix := 33) (pc' := 62) rfl rfl rfl ?_
                refine ex_bipush cg_188 (ix := 34) (pc' := 64) rfl rfl rfl ?_
                refine ex_icmp cg_188 (ix := 35) (t := 74) (pc' := 67) rfl rfl rfl (fun hb64 => ?_) (fun hb64 => ?_)
                · have hb64 : v.toInt = (Int32.ofInt 99).toInt := hb64
                  refine ex_iload_n cg_188 (ix := 40) (pc' := 75) rfl rfl rfl ?_
                  refine ex_if cg_188 (ix := 41) (t := 87) (pc' := 78) rfl rfl rfl (fun hb75 => ?_) (fun hb75 => ?_)
                  · have hb75 : ¬ w.toInt = 0 := hb75
                    refine ex_aload_n cg_188 (ix := 47) (pc' := 88) rfl rfl rfl ?_
                    refine ex_getfield cg_188 (ix := 48) (pc' := 91) (v := .inr (.inl 123)) rfl rfl rfl rfl rfl ?_
                    refine ex_iload_n cg_188 (ix := 49) (pc' := 92) rfl rfl rfl ?_
                    refine ex_iaload cg_188 (ix := 50) (pc' := 93) rfl rfl (by omega) (by omega) rfl ?_
                    refine ex_istore cg_188 (ix := 51) (pc' := 95) (L' := [some (.inr (.inl 119)), some (.inl (.int x)), some (.inl (.int w)), some (.inl (.int v)), some (.inl (.int (s x.toNatClampNeg)))]) rfl rfl rfl rfl ?_
                    refine ex_aload_n cg_188 (ix := 52) (pc' := 96) rfl rfl rfl ?_
                    refine ex_getfield cg_188 (ix := 53) (pc' := 99) (v := .inr (.inl 122)) rfl rfl rfl rfl rfl ?_
                    refine ex_iload_n cg_188 (ix := 54) (pc' := 100) rfl rfl rfl ?_
                    refine ex_iload_n cg_188 (ix := 55) (pc' := 101) rfl rfl rfl ?_
                    refine ex_if cg_188 (ix := 56) (t := 108) (pc' := 104) rfl rfl rfl (fun hb101 => ?_) (fun hb101 => ?_)
                    · have hb101 : ¬ w.toInt = 0 := hb101
                      refine ex_aload_n cg_188 (ix := 59) (pc' := 109) rfl rfl rfl ?_
                      refine ex_getfield cg_188 (ix := 60) (pc' := 112) (v := .inr (.inl 122)) rfl rfl rfl rfl rfl ?_
                      refine ex_iload_n cg_188 (ix := 61) (pc' := 113) rfl rfl rfl ?_
                      refine ex_iaload cg_188 (ix := 62) (pc' := 114) rfl rfl (by omega) (by omega) rfl ?_
                      refine ex_iastore cg_188 (ix := 63) (pc' := 115) (h' := [(119, .inl (11, vs_119 (upi mi 0 (Int32.ofInt 0)) ml)), (126, .inr (.inl (0, 7, r))), (122, .inr (.inl (0, 16, upd t x.toNatClampNeg (t x.toNatClampNeg)))), (123, .inr (.inl (0, 16, s)))]) rfl rfl (by omega) (by omega) rfl rfl ?_
                      refine ex_aload_n cg_188 (ix := 64) (pc' := 116) rfl rfl rfl ?_
                      refine ex_getfield cg_188 (ix := 65) (pc' := 119) (v := .inr (.inl 123)) rfl rfl rfl rfl rfl ?_
                      refine ex_iload_n cg_188 (ix := 66) (pc' := 120) rfl rfl rfl ?_
                      refine ex_iload_n cg_188 (ix := 67) (pc' := 121) rfl rfl rfl ?_
                      refine ex_iconst cg_188 (ix := 68) (pc' := 122) rfl rfl ?_
                      refine ex_icmp cg_188 (ix := 69) (t := 129) (pc' := 125) rfl rfl rfl (fun hb122 => ?_) (fun hb122 => ?_)
                      · have hb122 : ¬ w.toInt = (Int32.ofInt 1).toInt := hb122
                        refine ex_aload_n cg_188 (ix := 72) (pc' := 130) rfl rfl rfl ?_
                        refine ex_getfield cg_188 (ix := 73) (pc' := 133) (v := .inr (.inl 123)) rfl rfl rfl rfl rfl ?_
                        refine ex_iload_n cg_188 (ix := 74) (pc' := 134) rfl rfl rfl ?_
                        refine ex_iaload cg_188 (ix := 75) (pc' := 135) rfl rfl (by omega) (by omega) rfl ?_
                        refine ex_iastore cg_188 (ix := 76) (pc' := 136) (h' := [(119, .inl (11, vs_119 (upi mi 0 (Int32.ofInt 0)) ml)), (126, .inr (.inl (0, 7, r))), (122, .inr (.inl (0, 16, upd t x.toNatClampNeg (t x.toNatClampNeg)))), (123, .inr (.inl (0, 16, upd s x.toNatClampNeg (s x.toNatClampNeg))))]) rfl rfl (by omega) (by omega) rfl rfl ?_
                        refine ex_iload cg_188 (ix := 77) (pc' := 138) rfl rfl rfl ?_
                        refine ex_ireturn cg_188 (ix := 78) rfl ?_
                        first | (exfalso; omega) | exact ⟨_, r, _, _, rfl, rfl, Or.inr (Or.inr (Or.inr (Or.inr (Or.inr (⟨by omega, by omega, by omega, rfl, upd_id, rfl⟩)))))⟩
                      · have hb122 : ¬ (¬ w.toInt = (Int32.ofInt 1).toInt) := hb122
                        refine ex_iload_n cg_188 (ix := 70) (pc' := 126) rfl rfl rfl ?_
                        refine ex_goto cg_188 (ix := 71) (pc' := 135) rfl rfl ?_
                        refine ex_iastore cg_188 (ix := 76) (pc' := 136) (h' := [(119, .inl (11, vs_119 (upi mi 0 (Int32.ofInt 0)) ml)), (126, .inr (.inl (0, 7, r))), (122, .inr (.inl (0, 16, upd t x.toNatClampNeg (t x.toNatClampNeg)))), (123, .inr (.inl (0, 16, upd s x.toNatClampNeg v)))]) rfl rfl (by omega) (by omega) rfl rfl ?_
                        refine ex_iload cg_188 (ix := 77) (pc' := 138) rfl rfl rfl ?_
                        refine ex_ireturn cg_188 (ix := 78) rfl ?_
                        first | (exfalso; omega) | exact ⟨_, r, _, _, rfl, rfl, Or.inr (Or.inr (Or.inr (Or.inr (Or.inr (⟨by omega, by omega, by omega, rfl, upd_id, rfl⟩)))))⟩
                    · have hb101 : ¬ (¬ w.toInt = 0) := hb101
                      refine ex_iload_n cg_188 (ix := 57) (pc' := 105) rfl rfl rfl ?_
                      refine ex_goto cg_188 (ix := 58) (pc' := 114) rfl rfl ?_
                      refine ex_iastore cg_188 (ix := 63) (pc' := 115) (h' := [(119, .inl (11, vs_119 (upi mi 0 (Int32.ofInt 0)) ml)), (126, .inr (.inl (0, 7, r))), (122, .inr (.inl (0, 16, upd t x.toNatClampNeg v))), (123, .inr (.inl (0, 16, s)))]) rfl rfl (by omega) (by omega) rfl rfl ?_
                      refine ex_aload_n cg_188 (ix := 64) (pc' := 116) rfl rfl rfl ?_
                      refine ex_getfield cg_188 (ix := 65) (pc' := 119) (v := .inr (.inl 123)) rfl rfl rfl rfl rfl ?_
                      refine ex_iload_n cg_188 (ix := 66) (pc' := 120) rfl rfl rfl ?_
                      refine ex_iload_n cg_188 (ix := 67) (pc' := 121) rfl rfl rfl ?_
                      refine ex_iconst cg_188 (ix := 68) (pc' := 122) rfl rfl ?_
                      refine ex_icmp cg_188 (ix := 69) (t := 129) (pc' := 125) rfl rfl rfl (fun hb122 => ?_) (fun hb122 => ?_)
                      · have hb122 : ¬ w.toInt = (Int32.ofInt 1).toInt := hb122
                        refine ex_aload_n cg_188 (ix := 72) (pc' := 130) rfl rfl rfl ?_
                        refine ex_getfield cg_188 (ix := 73) (pc' := 133) (v := .inr (.inl 123)) rfl rfl rfl rfl rfl ?_
                        refine ex_iload_n cg_188 (ix := 74) (pc' := 134) rfl rfl rfl ?_
                        refine ex_iaload cg_188 (ix := 75) (pc' := 135) rfl rfl (by omega) (by omega) rfl ?_
                        refine ex_iastore cg_188 (ix := 76) (pc' := 136) (h' := [(119, .inl (11, vs_119 (upi mi 0 (Int32.ofInt 0)) ml)), (126, .inr (.inl (0, 7, r))), (122, .inr (.inl (0, 16, upd t x.toNatClampNeg v))), (123, .inr (.inl (0, 16, upd s x.toNatClampNeg (s x.toNatClampNeg))))]) rfl rfl (by omega) (by omega) rfl rfl ?_
                        refine ex_iload cg_188 (ix := 77) (pc' := 138) rfl rfl rfl ?_
                        refine ex_ireturn cg_188 (ix := 78) rfl ?_
                        first | (exfalso; omega) | exact ⟨_, r, _, _, rfl, rfl, Or.inr (Or.inr (Or.inr (Or.inr (Or.inr (⟨by omega, by omega, by omega, rfl, upd_id, rfl⟩)))))⟩
                      · have hb122 : ¬ (¬ w.toInt = (Int32.ofInt 1).toInt) := hb122
                        refine ex_iload_n cg_188 (ix := 70) (pc' := 126) rfl rfl rfl ?_
                        refine ex_goto cg_188 (ix := 71) (pc' := 135) rfl rfl ?_
                        refine ex_iastore cg_188 (ix := 76) (pc' := 136) (h' := [(119, .inl (11, vs_119 (upi mi 0 (Int32.ofInt 0)) ml)), (126, .inr (.inl (0, 7, r))), (122, .inr (.inl (0, 16, upd t x.toNatClampNeg v))), (123, .inr (.inl (0, 16, upd s x.toNatClampNeg v)))]) rfl rfl (by omega) (by omega) rfl rfl ?_
                        refine ex_iload cg_188 (ix := 77) (pc' := 138) rfl rfl rfl ?_
                        refine ex_ireturn cg_188 (ix := 78) rfl ?_
                        first | (exfalso; omega) | exact ⟨_, r, _, _, rfl, rfl, Or.inr (Or.inr (Or.inr (Or.inr (Or.inr (⟨by omega, by omega, by omega, rfl, upd_id, rfl⟩)))))⟩
                  · have hb75 : ¬ (¬ w.toInt = 0) := hb75
                    refine ex_aload_n cg_188 (ix := 42) (pc' := 79) rfl rfl rfl ?_
                    refine ex_getfield cg_188 (ix := 43) (pc' := 82) (v := .inr (.inl 122)) rfl rfl rfl rfl rfl ?_
                    refine ex_iload_n cg_188 (ix := 44) (pc' := 83) rfl rfl rfl ?_
                    refine ex_iaload cg_188 (ix := 45) (pc' := 84) rfl rfl (by omega) (by omega) rfl ?_
                    refine ex_goto cg_188 (ix := 46) (pc' := 93) rfl rfl ?_
                    refine ex_istore cg_188 (ix := 51) (pc' := 95) (L' := [some (.inr (.inl 119)), some (.inl (.int x)), some (.inl (.int w)), some (.inl (.int v)), some (.inl (.int (t x.toNatClampNeg)))]) rfl rfl rfl rfl ?_
                    refine ex_aload_n cg_188 (ix := 52) (pc' := 96) rfl rfl rfl ?_
                    refine ex_getfield cg_188 (ix := 53) (pc' := 99) (v := .inr (.inl 122)) rfl rfl rfl rfl rfl ?_
                    refine ex_iload_n cg_188 (ix := 54) (pc' := 100) rfl rfl rfl ?_
                    refine ex_iload_n cg_188 (ix := 55) (pc' := 101) rfl rfl rfl ?_
                    refine ex_if cg_188 (ix := 56) (t := 108) (pc' := 104) rfl rfl rfl (fun hb101 => ?_) (fun hb101 => ?_)
                    · have hb101 : ¬ w.toInt = 0 := hb101
                      refine ex_aload_n cg_188 (ix := 59) (pc' := 109) rfl rfl rfl ?_
                      refine ex_getfield cg_188 (ix := 60) (pc' := 112) (v := .inr (.inl 122)) rfl rfl rfl rfl rfl ?_
                      refine ex_iload_n cg_188 (ix := 61) (pc' := 113) rfl rfl rfl ?_
                      refine ex_iaload cg_188 (ix := 62) (pc' := 114) rfl rfl (by omega) (by omega) rfl ?_
                      refine ex_iastore cg_188 (ix := 63) (pc' := 115) (h' := [(119, .inl (11, vs_119 (upi mi 0 (Int32.ofInt 0)) ml)), (126, .inr (.inl (0, 7, r))), (122, .inr (.inl (0, 16, upd t x.toNatClampNeg (t x.toNatClampNeg)))), (123, .inr (.inl (0, 16, s)))]) rfl rfl (by omega) (by omega) rfl rfl ?_
                      refine ex_aload_n cg_188 (ix := 64) (pc' := 116) rfl rfl rfl ?_
                      refine ex_getfield cg_188 (ix := 65) (pc' := 119) (v := .inr (.inl 123)) rfl rfl rfl rfl rfl ?_
                      refine ex_iload_n cg_188 (ix := 66) (pc' := 120) rfl rfl rfl ?_
                      refine ex_iload_n cg_188 (ix := 67) (pc' := 121) rfl rfl rfl ?_
                      refine ex_iconst cg_188 (ix := 68) (pc' := 122) rfl rfl ?_
                      refine ex_icmp cg_188 (ix := 69) (t := 129) (pc' := 125) rfl rfl rfl (fun hb122 => ?_) (fun hb122 => ?_)
                      · have hb122 : ¬ w.toInt = (Int32.ofInt 1).toInt := hb122
                        refine ex_aload_n cg_188 (ix := 72) (pc' := 130) rfl rfl rfl ?_
                        refine ex_getfield cg_188 (ix := 73) (pc' := 133) (v := .inr (.inl 123)) rfl rfl rfl rfl rfl ?_
                        refine ex_iload_n cg_188 (ix := 74) (pc' := 134) rfl rfl rfl ?_
                        refine ex_iaload cg_188 (ix := 75) (pc' := 135) rfl rfl (by omega) (by omega) rfl ?_
                        refine ex_iastore cg_188 (ix := 76) (pc' := 136) (h' := [(119, .inl (11, vs_119 (upi mi 0 (Int32.ofInt 0)) ml)), (126, .inr (.inl (0, 7, r))), (122, .inr (.inl (0, 16, upd t x.toNatClampNeg (t x.toNatClampNeg)))), (123, .inr (.inl (0, 16, upd s x.toNatClampNeg (s x.toNatClampNeg))))]) rfl rfl (by omega) (by omega) rfl rfl ?_
                        refine ex_iload cg_188 (ix := 77) (pc' := 138) rfl rfl rfl ?_
                        refine ex_ireturn cg_188 (ix := 78) rfl ?_
                        first | (exfalso; omega) | exact ⟨_, r, _, _, rfl, rfl, Or.inr (Or.inr (Or.inr (Or.inr (Or.inl ⟨by omega, by omega, by omega, rfl, rfl, upd_id⟩))))⟩
                      · have hb122 : ¬ (¬ w.toInt = (Int32.ofInt 1).toInt) := hb122
                        refine ex_iload_n cg_188 (ix := 70) (pc' := 126) rfl rfl rfl ?_
                        refine ex_goto cg_188 (ix := 71) (pc' := 135) rfl rfl ?_
                        refine ex_iastore cg_188 (ix := 76) (pc' := 136) (h' := [(119, .inl (11, vs_119 (upi mi 0 (Int32.ofInt 0)) ml)), (126, .inr (.inl (0, 7, r))), (122, .inr (.inl (0, 16, upd t x.toNatClampNeg (t x.toNatClampNeg)))), (123, .inr (.inl (0, 16, upd s x.toNatClampNeg v)))]) rfl rfl (by omega) (by omega) rfl rfl ?_
                        refine ex_iload cg_188 (ix := 77) (pc' := 138) rfl rfl rfl ?_
                        refine ex_ireturn cg_188 (ix := 78) rfl ?_
                        first | (exfalso; omega) | exact ⟨_, r, _, _, rfl, rfl, Or.inr (Or.inr (Or.inr (Or.inr (Or.inl ⟨by omega, by omega, by omega, rfl, rfl, upd_id⟩))))⟩
                    · have hb101 : ¬ (¬ w.toInt = 0) := hb101
                      refine ex_iload_n cg_188 (ix := 57) (pc' := 105) rfl rfl rfl ?_
                      refine ex_goto cg_188 (ix := 58) (pc' := 114) rfl rfl ?_
                      refine ex_iastore cg_188 (ix := 63) (pc' := 115) (h' := [(119, .inl (11, vs_119 (upi mi 0 (Int32.ofInt 0)) ml)), (126, .inr (.inl (0, 7, r))), (122, .inr (.inl (0, 16, upd t x.toNatClampNeg v))), (123, .inr (.inl (0, 16, s)))]) rfl rfl (by omega) (by omega) rfl rfl ?_
                      refine ex_aload_n cg_188 (ix := 64) (pc' := 116) rfl rfl rfl ?_
                      refine ex_getfield cg_188 (ix := 65) (pc' := 119) (v := .inr (.inl 123)) rfl rfl rfl rfl rfl ?_
                      refine ex_iload_n cg_188 (ix := 66) (pc' := 120) rfl rfl rfl ?_
                      refine ex_iload_n cg_188 (ix := 67) (pc' := 121) rfl rfl rfl ?_
                      refine ex_iconst cg_188 (ix := 68) (pc' := 122) rfl rfl ?_
                      refine ex_icmp cg_188 (ix := 69) (t := 129) (pc' := 125) rfl rfl rfl (fun hb122 => ?_) (fun hb122 => ?_)
                      · have hb122 : ¬ w.toInt = (Int32.ofInt 1).toInt := hb122
                        refine ex_aload_n cg_188 (ix := 72) (pc' := 130) rfl rfl rfl ?_
                        refine ex_getfield cg_188 (ix := 73) (pc' := 133) (v := .inr (.inl 123)) rfl rfl rfl rfl rfl ?_
                        refine ex_iload_n cg_188 (ix := 74) (pc' := 134) rfl rfl rfl ?_
                        refine ex_iaload cg_188 (ix := 75) (pc' := 135) rfl rfl (by omega) (by omega) rfl ?_
                        refine ex_iastore cg_188 (ix := 76) (pc' := 136) (h' := [(119, .inl (11, vs_119 (upi mi 0 (Int32.ofInt 0)) ml)), (126, .inr (.inl (0, 7, r))), (122, .inr (.inl (0, 16, upd t x.toNatClampNeg v))), (123, .inr (.inl (0, 16, upd s x.toNatClampNeg (s x.toNatClampNeg))))]) rfl rfl (by omega) (by omega) rfl rfl ?_
                        refine ex_iload cg_188 (ix := 77) (pc' := 138) rfl rfl rfl ?_
                        refine ex_ireturn cg_188 (ix := 78) rfl ?_
                        first | (exfalso; omega) | exact ⟨_, r, _, _, rfl, rfl, Or.inr (Or.inr (Or.inr (Or.inr (Or.inl ⟨by omega, by omega, by omega, rfl, rfl, upd_id⟩))))⟩
                      · have hb122 : ¬ (¬ w.toInt = (Int32.ofInt 1).toInt) := hb122
                        refine ex_iload_n cg_188 (ix := 70) (pc' := 126) rfl rfl rfl ?_
                        refine ex_goto cg_188 (ix := 71) (pc' := 135) rfl rfl ?_
                        refine ex_iastore cg_188 (ix := 76) (pc' := 136) (h' := [(119, .inl (11, vs_119 (upi mi 0 (Int32.ofInt 0)) ml)), (126, .inr (.inl (0, 7, r))), (122, .inr (.inl (0, 16, upd t x.toNatClampNeg v))), (123, .inr (.inl (0, 16, upd s x.toNatClampNeg v)))]) rfl rfl (by omega) (by omega) rfl rfl ?_
                        refine ex_iload cg_188 (ix := 77) (pc' := 138) rfl rfl rfl ?_
                        refine ex_ireturn cg_188 (ix := 78) rfl ?_
                        first | (exfalso; omega) | exact ⟨_, r, _, _, rfl, rfl, Or.inr (Or.inr (Or.inr (Or.inr (Or.inl ⟨by omega, by omega, by omega, rfl, rfl, upd_id⟩))))⟩
                · have hb64 : ¬ (v.toInt = (Int32.ofInt 99).toInt) := hb64
                  refine ex_aload_n cg_188 (ix := 36) (pc' := 68) rfl rfl rfl ?_
                  refine ex_bipush cg_188 (ix := 37) (pc' := 70) rfl rfl rfl ?_
                  refine ex_callV cg_188 (ix := 38) (pc' := 73) (As := [.inl (.int (Int32.ofInt (-6)))]) (r := []) rfl rfl rfl (ct_mrf (x := Int32.ofInt (-6)) (mi := (upi mi 0 (Int32.ofInt 0))) (ml := ml) (r := r) (by decide +kernel) (by decide +kernel)) (by first | decide | omega) rfl rfl rfl ⟨rfl, rfl, trivial⟩ rfl rfl (fun v h2 hq => ?_)
                  obtain ⟨rfl, r2, rfl⟩ := hq
                  show cx_T _ 188 _ 73 ([some (.inr (.inl 119)), some (.inl (.int x)), some (.inl (.int w)), some (.inl (.int v)), none], [.inl (.int (Int32.ofInt 1000000000 - (Int32.ofInt (-6))))], [(119, .inl (11, vs_119 (upi mi 0 (Int32.ofInt 0)) ml)), (126, .inr (.inl (0, 7, r2))), (122, .inr (.inl (0, 16, t))), (123, .inr (.inl (0, 16, s)))]) _
                  refine ex_ireturn cg_188 (ix := 39) rfl ?_
                  exact ⟨_, r2, _, _, rfl, rfl, Or.inr (Or.inr (Or.inr (Or.inl ⟨by omega, by omega, by omega, by omega, rfl, rfl, rfl⟩)))⟩
            · have hb45 : ¬ ((Int32.ofInt (-9)).toInt ≤ v.toInt) := hb45
              refine ex_aload_n cg_188 (ix := 26) (pc' := 49) rfl rfl rfl ?_
              refine ex_bipush cg_188 (ix := 27) (pc' := 51) rfl rfl rfl ?_
              refine ex_callV cg_188 (ix := 28) (pc' := 54) (As := [.inl (.int (Int32.ofInt (-4)))]) (r := []) rfl rfl rfl (ct_mrf (x := Int32.ofInt (-4)) (mi := (upi mi 0 (Int32.ofInt 0))) (ml := ml) (r := r) (by decide +kernel) (by decide +kernel)) (by first | decide | omega) rfl rfl rfl ⟨rfl, rfl, trivial⟩ rfl rfl (fun v h2 hq => ?_)
              obtain ⟨rfl, r2, rfl⟩ := hq
              show cx_T _ 188 _ 54 ([some (.inr (.inl 119)), some (.inl (.int x)), some (.inl (.int w)), some (.inl (.int v)), none], [.inl (.int (Int32.ofInt 1000000000 - (Int32.ofInt (-4))))], [(119, .inl (11, vs_119 (upi mi 0 (Int32.ofInt 0)) ml)), (126, .inr (.inl (0, 7, r2))), (122, .inr (.inl (0, 16, t))), (123, .inr (.inl (0, 16, s)))]) _
              refine ex_ireturn cg_188 (ix := 29) rfl ?_
              exact ⟨_, r2, _, _, rfl, rfl, Or.inr (Or.inr (Or.inl ⟨by omega, by omega, rfl, rfl, rfl⟩))⟩
        · have hb24 : ¬ (¬ (Int32.ofInt 1).toInt = 0) := hb24
          exfalso; first | omega | exact absurd hb24 (by decide +kernel)
      · show cx_T _ 188 _ 24 ([some (.inr (.inl 119)), some (.inl (.int x)), some (.inl (.int w)), some (.inl (.int v)), none], [.inl (.int (Int32.ofInt 0))], [(119, .inl (11, vs_119 (upi mi 0 (Int32.ofInt 0)) ml)), (126, .inr (.inl (0, 7, r))), (122, .inr (.inl (0, 16, t))), (123, .inr (.inl (0, 16, s)))]) _
        refine ex_if cg_188 (ix := 14) (t := 34) (pc' := 27) rfl rfl rfl (fun hb24 => ?_) (fun hb24 => ?_)
        · have hb24 : ¬ (Int32.ofInt 0).toInt = 0 := hb24
          exfalso; first | omega | exact absurd hb24 (by decide +kernel)
        · have hb24 : ¬ (¬ (Int32.ofInt 0).toInt = 0) := hb24
          refine ex_aload_n cg_188 (ix := 15) (pc' := 28) rfl rfl rfl ?_
          refine ex_bipush cg_188 (ix := 16) (pc' := 30) rfl rfl rfl ?_
          refine ex_callV cg_188 (ix := 17) (pc' := 33) (As := [.inl (.int (Int32.ofInt (-2)))]) (r := []) rfl rfl rfl (ct_mrf (x := Int32.ofInt (-2)) (mi := (upi mi 0 (Int32.ofInt 0))) (ml := ml) (r := r) (by decide +kernel) (by decide +kernel)) (by first | decide | omega) rfl rfl rfl ⟨rfl, rfl, trivial⟩ rfl rfl (fun v h2 hq => ?_)
          obtain ⟨rfl, r2, rfl⟩ := hq
          show cx_T _ 188 _ 33 ([some (.inr (.inl 119)), some (.inl (.int x)), some (.inl (.int w)), some (.inl (.int v)), none], [.inl (.int (Int32.ofInt 1000000000 - (Int32.ofInt (-2))))], [(119, .inl (11, vs_119 (upi mi 0 (Int32.ofInt 0)) ml)), (126, .inr (.inl (0, 7, r2))), (122, .inr (.inl (0, 16, t))), (123, .inr (.inl (0, 16, s)))]) _
          refine ex_ireturn cg_188 (ix := 18) rfl ?_
          exact ⟨_, r2, _, _, rfl, rfl, Or.inr (Or.inl ⟨by omega, by omega, by omega, rfl, rfl, rfl⟩)⟩
    · have hb9 : ¬ (¬ (Int32.ofInt 1).toInt = 0) := hb9
      exfalso; first | omega | exact absurd hb9 (by decide +kernel)
  · show cx_T _ 188 _ 9 ([some (.inr (.inl 119)), some (.inl (.int x)), some (.inl (.int w)), some (.inl (.int v)), none], [.inl (.int (Int32.ofInt 0))], [(119, .inl (11, vs_119 (upi mi 0 (Int32.ofInt 0)) ml)), (126, .inr (.inl (0, 7, r))), (122, .inr (.inl (0, 16, t))), (123, .inr (.inl (0, 16, s)))]) _
    refine ex_if cg_188 (ix := 5) (t := 18) (pc' := 12) rfl rfl rfl (fun hb9 => ?_) (fun hb9 => ?_)
    · have hb9 : ¬ (Int32.ofInt 0).toInt = 0 := hb9
      exfalso; first | omega | exact absurd hb9 (by decide +kernel)
    · have hb9 : ¬ (¬ (Int32.ofInt 0).toInt = 0) := hb9
      refine ex_aload_n cg_188 (ix := 6) (pc' := 13) rfl rfl rfl ?_
      refine ex_iconst cg_188 (ix := 7) (pc' := 14) rfl rfl ?_
      refine ex_callV cg_188 (ix := 8) (pc' := 17) (As := [.inl (.int (Int32.ofInt (-1)))]) (r := []) rfl rfl rfl (ct_mrf (x := Int32.ofInt (-1)) (mi := (upi mi 0 (Int32.ofInt 0))) (ml := ml) (r := r) (by decide +kernel) (by decide +kernel)) (by first | decide | omega) rfl rfl rfl ⟨rfl, rfl, trivial⟩ rfl rfl (fun v h2 hq => ?_)
      obtain ⟨rfl, r2, rfl⟩ := hq
      show cx_T _ 188 _ 17 ([some (.inr (.inl 119)), some (.inl (.int x)), some (.inl (.int w)), some (.inl (.int v)), none], [.inl (.int (Int32.ofInt 1000000000 - (Int32.ofInt (-1))))], [(119, .inl (11, vs_119 (upi mi 0 (Int32.ofInt 0)) ml)), (126, .inr (.inl (0, 7, r2))), (122, .inr (.inl (0, 16, t))), (123, .inr (.inl (0, 16, s)))]) _
      refine ex_ireturn cg_188 (ix := 9) rfl ?_
      exact ⟨_, r2, _, _, rfl, rfl, Or.inl ⟨by omega, rfl, rfl, rfl⟩⟩
/-- the reference's numbers behind may -/
def mam (mi mi2 : Nat → Int32) (t s : Nat → Int32) (h : Nat) : Prop := mi2 = upi mi 0 (Int32.ofInt 0) ∨ ∃ (k : Nat) (lo hi : Int32), lo.toInt = td_lo (td_a t h).toInt (td_b t h (16 - h)).toInt ∧ hi.toInt = td_hi (td_a t h).toInt (td_b t h (16 - h)).toInt ∧ mi2 = upi (upi (upi (upi mi 0 (Int32.ofInt 0)) 10 lo) 11 hi) 12 (sw_x s h)
theorem ct_mmay {x w : Int32} {mi : Nat → Int32} {ml : Nat → Int64} {r t s : Nat → Int32} (ht : ∀ i : Nat, i < 16 → tdU (t i).toInt) : cx_Ct 5 191 [.inr (.inl 119), .inl (.int x), .inl (.int w)] (h_mt mi ml r t s) (fun v2 h2 => ∃ (z : Int32) (r2 mi2 : Nat → Int32), v2 = some (.inl (.int z)) ∧ mam mi mi2 t s x.toNatClampNeg ∧ (¬ (0 ≤ x.toInt ∧ x.toInt < 16) → mi2 = upi mi 0 (Int32.ofInt 0)) ∧ h2 = h_mt mi2 ml r2 t s ∧ ma x w t s z) := by
  have kc0 : (Int32.ofInt 0).toInt = 0 := by decide +kernel
  have kc1 : (Int32.ofInt 1).toInt = 1 := by decide +kernel
  have kc2 : (Int32.ofInt 2).toInt = 2 := by decide +kernel
  have kcm1 : (Int32.ofInt (-1)).toInt = -1 := by decide +kernel
  have kcm2 : (Int32.ofInt (-2)).toInt = -2 := by decide +kernel
  refine cx_Ct.of cg_191 (nL := 3) rfl rfl rfl ?_
  show cx_T 5 191 [119, 126, 122, 123] 0 ([some (.inr (.inl 119)), some (.inl (.int x)), some (.inl (.int w))], [], h_mt mi ml r t s) _
  refine ex_aload_n cg_191 (ix := 0) (pc' := 1) rfl rfl rfl ?_
  refine ex_iconst cg_191 (ix := 1) (pc' := 2) rfl rfl ?_
  refine ex_putfield cg_191 (ix := 2) (pc' := 5) (h' := [(119, .inl (11, vs_119 (upi mi 0 (Int32.ofInt 0)) ml)), (126, .inr (.inl (0, 7, r))), (122, .inr (.inl (0, 16, t))), (123, .inr (.inl (0, 16, s)))]) rfl rfl rfl rfl rfl rfl rfl rfl ?_
  refine ex_iload_n cg_191 (ix := 3) (pc' := 6) rfl rfl rfl ?_
  refine ex_callS cg_191 (ix := 4) (pc' := 9) (As := [.inl (.int x)]) (r := []) rfl rfl rfl (ct_mhour (x := x)) (by first | decide | omega) rfl rfl trivial rfl rfl (fun v h2 hq => ?_)
  obtain ⟨z, rfl, rfl, hz1⟩ := hq
  rcases hz1 with ⟨hz1, rfl⟩ | ⟨hz1, rfl⟩
  · show cx_T _ 191 _ 9 ([some (.inr (.inl 119)), some (.inl (.int x)), some (.inl (.int w))], [.inl (.int (Int32.ofInt 1))], [(119, .inl (11, vs_119 (upi mi 0 (Int32.ofInt 0)) ml)), (126, .inr (.inl (0, 7, r))), (122, .inr (.inl (0, 16, t))), (123, .inr (.inl (0, 16, s)))]) _
    refine ex_if cg_191 (ix := 5) (t := 18) (pc' := 12) rfl rfl rfl (fun hb9 => ?_) (fun hb9 => ?_)
    · have hb9 : ¬ (Int32.ofInt 1).toInt = 0 := hb9
      refine ex_iload_n cg_191 (ix := 10) (pc' := 19) rfl rfl rfl ?_
      refine ex_iconst cg_191 (ix := 11) (pc' := 20) rfl rfl ?_
      refine ex_iconst cg_191 (ix := 12) (pc' := 21) rfl rfl ?_
      refine ex_callS cg_191 (ix := 13) (pc' := 24) (As := [.inl (.int w), .inl (.int (Int32.ofInt 0)), .inl (.int (Int32.ofInt 2))]) (r := []) rfl rfl rfl (ct_min (x := w) (a := Int32.ofInt 0) (b := Int32.ofInt 2)) (by first | decide | omega) rfl rfl trivial rfl rfl (fun v h2 hq => ?_)
      obtain ⟨z, rfl, rfl, hz2⟩ := hq
      rcases hz2 with ⟨hz2, rfl⟩ | ⟨hz2, rfl⟩
      · show cx_T _ 191 _ 24 ([some (.inr (.inl 119)), some (.inl (.int x)), some (.inl (.int w))], [.inl (.int (Int32.ofInt 1))], [(119, .inl (11, vs_119 (upi mi 0 (Int32.ofInt 0)) ml)), (126, .inr (.inl (0, 7, r))), (122, .inr (.inl (0, 16, t))), (123, .inr (.inl (0, 16, s)))]) _
        refine ex_if cg_191 (ix := 14) (t := 34) (pc' := 27) rfl rfl rfl (fun hb24 => ?_) (fun hb24 => ?_)
        · have hb24 : ¬ (Int32.ofInt 1).toInt = 0 := hb24
          refine ex_aload_n cg_191 (ix := 19) (pc' := 35) rfl rfl rfl ?_
          refine ex_iload_n cg_191 (ix := 20) (pc' := 36) rfl rfl rfl ?_
          refine ex_callV cg_191 (ix := 21) (pc' := 39) (As := [.inl (.int x)]) (r := []) rfl rfl rfl (ct_fm (x := x) (h := x.toNatClampNeg) (mi := (upi mi 0 (Int32.ofInt 0))) (ml := ml) (t := t) (s := s) (ab_clamp (by omega)).symm (by have := ab_clamp (x := x) (by omega); omega) ht) (by first | decide | omega) rfl rfl rfl ⟨rfl, rfl, rfl, trivial⟩ rfl rfl (fun v h2 hq => ?_)
          obtain ⟨rfl, lo, hi, hlo, hhi, rfl⟩ := hq
          show cx_T _ 191 _ 39 ([some (.inr (.inl 119)), some (.inl (.int x)), some (.inl (.int w))], [], [(119, .inl (11, vs_119 (upi (upi (upi (upi mi 0 (Int32.ofInt 0)) 10 lo) 11 hi) 12 (sw_x s x.toNatClampNeg)) ml)), (126, .inr (.inl (0, 7, r))), (122, .inr (.inl (0, 16, t))), (123, .inr (.inl (0, 16, s)))]) _
          refine ex_iload_n cg_191 (ix := 22) (pc' := 40) rfl rfl rfl ?_
          refine ex_if cg_191 (ix := 23) (t := 50) (pc' := 43) rfl rfl rfl (fun hb40 => ?_) (fun hb40 => ?_)
          · have hb40 : ¬ w.toInt = 0 := hb40
            refine ex_iload_n cg_191 (ix := 27) (pc' := 51) rfl rfl rfl ?_
            refine ex_iconst cg_191 (ix := 28) (pc' := 52) rfl rfl ?_
            refine ex_icmp cg_191 (ix := 29) (t := 62) (pc' := 55) rfl rfl rfl (fun hb52 => ?_) (fun hb52 => ?_)
            · have hb52 : ¬ w.toInt = (Int32.ofInt 1).toInt := hb52
              refine ex_aload_n cg_191 (ix := 33) (pc' := 63) rfl rfl rfl ?_
              refine ex_getfield cg_191 (ix := 34) (pc' := 66) (v := .inl (.int (sw_x s x.toNatClampNeg))) rfl rfl rfl rfl rfl ?_
              refine ex_ireturn cg_191 (ix := 35) rfl ?_
              exact ⟨_, r, _, rfl, Or.inr ⟨0, lo, hi, hlo, hhi, rfl⟩, fun u => absurd ⟨by omega, by omega⟩ u, rfl, Or.inr (Or.inr (Or.inr (Or.inr (⟨by omega, by omega, rfl⟩))))⟩
            · have hb52 : ¬ (¬ w.toInt = (Int32.ofInt 1).toInt) := hb52
              refine ex_aload_n cg_191 (ix := 30) (pc' := 56) rfl rfl rfl ?_
              refine ex_getfield cg_191 (ix := 31) (pc' := 59) (v := .inl (.int hi)) rfl rfl rfl rfl rfl ?_
              refine ex_goto cg_191 (ix := 32) (pc' := 66) rfl rfl ?_
              refine ex_ireturn cg_191 (ix := 35) rfl ?_
              exact ⟨_, r, _, rfl, Or.inr ⟨0, lo, hi, hlo, hhi, rfl⟩, fun u => absurd ⟨by omega, by omega⟩ u, rfl, Or.inr (Or.inr (Or.inr (Or.inl ⟨by omega, by omega, hhi⟩)))⟩
          · have hb40 : ¬ (¬ w.toInt = 0) := hb40
            refine ex_aload_n cg_191 (ix := 24) (pc' := 44) rfl rfl rfl ?_
            refine ex_getfield cg_191 (ix := 25) (pc' := 47) (v := .inl (.int lo)) rfl rfl rfl rfl rfl ?_
            refine ex_goto cg_191 (ix := 26) (pc' := 66) rfl rfl ?_
            refine ex_ireturn cg_191 (ix := 35) rfl ?_
            exact ⟨_, r, _, rfl, Or.inr ⟨0, lo, hi, hlo, hhi, rfl⟩, fun u => absurd ⟨by omega, by omega⟩ u, rfl, Or.inr (Or.inr (Or.inl ⟨by omega, by omega, hlo⟩))⟩
        · have hb24 : ¬ (¬ (Int32.ofInt 1).toInt = 0) := hb24
          exfalso; first | omega | exact absurd hb24 (by decide +kernel)
      · show cx_T _ 191 _ 24 ([some (.inr (.inl 119)), some (.inl (.int x)), some (.inl (.int w))], [.inl (.int (Int32.ofInt 0))], [(119, .inl (11, vs_119 (upi mi 0 (Int32.ofInt 0)) ml)), (126, .inr (.inl (0, 7, r))), (122, .inr (.inl (0, 16, t))), (123, .inr (.inl (0, 16, s)))]) _
        refine ex_if cg_191 (ix := 14) (t := 34) (pc' := 27) rfl rfl rfl (fun hb24 => ?_) (fun hb24 => ?_)
        · have hb24 : ¬ (Int32.ofInt 0).toInt = 0 := hb24
          exfalso; first | omega | exact absurd hb24 (by decide +kernel)
        · have hb24 : ¬ (¬ (Int32.ofInt 0).toInt = 0) := hb24
          refine ex_aload_n cg_191 (ix := 15) (pc' := 28) rfl rfl rfl ?_
          refine ex_bipush cg_191 (ix := 16) (pc' := 30) rfl rfl rfl ?_
          refine ex_callV cg_191 (ix := 17) (pc' := 33) (As := [.inl (.int (Int32.ofInt (-2)))]) (r := []) rfl rfl rfl (ct_mrf (x := Int32.ofInt (-2)) (mi := (upi mi 0 (Int32.ofInt 0))) (ml := ml) (r := r) (by decide +kernel) (by decide +kernel)) (by first | decide | omega) rfl rfl rfl ⟨rfl, rfl, trivial⟩ rfl rfl (fun v h2 hq => ?_)
          obtain ⟨rfl, r2, rfl⟩ := hq
          show cx_T _ 191 _ 33 ([some (.inr (.inl 119)), some (.inl (.int x)), some (.inl (.int w))], [.inl (.int (Int32.ofInt 1000000000 - (Int32.ofInt (-2))))], [(119, .inl (11, vs_119 (upi mi 0 (Int32.ofInt 0)) ml)), (126, .inr (.inl (0, 7, r2))), (122, .inr (.inl (0, 16, t))), (123, .inr (.inl (0, 16, s)))]) _
          refine ex_ireturn cg_191 (ix := 18) rfl ?_
          exact ⟨_, r2, _, rfl, Or.inl rfl, fun _ => rfl, rfl, Or.inr (Or.inl ⟨by omega, by omega, rfl⟩)⟩
    · have hb9 : ¬ (¬ (Int32.ofInt 1).toInt = 0) := hb9
      exfalso; first | omega | exact absurd hb9 (by decide +kernel)
  · show cx_T _ 191 _ 9 ([some (.inr (.inl 119)), some (.inl (.int x)), some (.inl (.int w))], [.inl (.int (Int32.ofInt 0))], [(119, .inl (11, vs_119 (upi mi 0 (Int32.ofInt 0)) ml)), (126, .inr (.inl (0, 7, r))), (122, .inr (.inl (0, 16, t))), (123, .inr (.inl (0, 16, s)))]) _
    refine ex_if cg_191 (ix := 5) (t := 18) (pc' := 12) rfl rfl rfl (fun hb9 => ?_) (fun hb9 => ?_)
    · have hb9 : ¬ (Int32.ofInt 0).toInt = 0 := hb9
      exfalso; first | omega | exact absurd hb9 (by decide +kernel)
    · have hb9 : ¬ (¬ (Int32.ofInt 0).toInt = 0) := hb9
      refine ex_aload_n cg_191 (ix := 6) (pc' := 13) rfl rfl rfl ?_
      refine ex_iconst cg_191 (ix := 7) (pc' := 14) rfl rfl ?_
      refine ex_callV cg_191 (ix := 8) (pc' := 17) (As := [.inl (.int (Int32.ofInt (-1)))]) (r := []) rfl rfl rfl (ct_mrf (x := Int32.ofInt (-1)) (mi := (upi mi 0 (Int32.ofInt 0))) (ml := ml) (r := r) (by decide +kernel) (by decide +kernel)) (by first | decide | omega) rfl rfl rfl ⟨rfl, rfl, trivial⟩ rfl rfl (fun v h2 hq => ?_)
      obtain ⟨rfl, r2, rfl⟩ := hq
      show cx_T _ 191 _ 17 ([some (.inr (.inl 119)), some (.inl (.int x)), some (.inl (.int w))], [.inl (.int (Int32.ofInt 1000000000 - (Int32.ofInt (-1))))], [(119, .inl (11, vs_119 (upi mi 0 (Int32.ofInt 0)) ml)), (126, .inr (.inl (0, 7, r2))), (122, .inr (.inl (0, 16, t))), (123, .inr (.inl (0, 16, s)))]) _
      refine ex_ireturn cg_191 (ix := 9) rfl ?_
      exact ⟨_, r2, _, rfl, Or.inl rfl, fun _ => rfl, rfl, Or.inl ⟨by omega, rfl⟩⟩
end
