noncomputable section
theorem cg_206 : cx_G 206 tb_206 TbX11 (some .int) := cx_G.of gok_206
theorem cg_208 : cx_G 208 tb_208 TbX11 (some .int) := cx_G.of gok_208
theorem cg_209 : cx_G 209 tb_209 TbX11 (some .int) := cx_G.of gok_209
theorem cg_207 : cx_G 207 tb_207 TbX11 (some .int) := cx_G.of gok_207
theorem cg_210 : cx_G 210 tb_210 TbX11 none := cx_G.of gok_210
theorem cg_211 : cx_G 211 tb_211 TbX11 none := cx_G.of gok_211
theorem cg_212 : cx_G 212 tb_212 TbX11 (some .int) := cx_G.of gok_212
theorem cg_213 : cx_G 213 tb_213 TbX11 (some .int) := cx_G.of gok_213
theorem cg_214 : cx_G 214 tb_214 TbX11 (some .int) := cx_G.of gok_214
theorem cg_205 : cx_G 205 tb_205 TbX11 (some .int) := cx_G.of gok_205
theorem cg_186 : cx_G 186 tb_186 TbX11 (some .int) := cx_G.of gok_186
theorem cg_204 : cx_G 204 tb_204 TbX11 (some .int) := cx_G.of gok_204
/-- how many of the first m have this value -/
def cntV (f : Nat → Nat) : Nat → Nat → Nat
  | 0, _ => 0
  | m + 1, v => (if f m = v then 1 else 0) + cntV f m v
theorem cntV_E {f g : Nat → Nat} {v : Nat} : ∀ {m : Nat}, (∀ i, i < m → f i = g i) → cntV f m v = cntV g m v
  | 0, _ => rfl
  | m + 1, h => by rw [cntV, cntV, h m (by omega), cntV_E (fun i hi => h i (by omega))]
theorem zsC_cnt {f : Nat → Nat} : ∀ {m : Nat}, zsC f m = cntV f m 0
  | 0 => rfl
  | m + 1 => by
    have ih := zsC_cnt (f := f) (m := m)
    rw [cntV]
    by_cases q : f m = 0
    · rw [zsC_z q, if_pos q, ih]; omega
    · rw [zsC_n q, if_neg q, ih]; omega
theorem fsC_cnt {f : Nat → Nat} {b : Nat} : ∀ {m : Nat}, fsC f m b = cntV f m (1 + 2 * b)
  | 0 => rfl
  | m + 1 => by
    have ih := fsC_cnt (f := f) (b := b) (m := m)
    rw [cntV]
    by_cases q : f m % 2 = 1
    · rw [fsC_o q]
      show (if b = (f m - 1) / 2 then 1 else 0) + fsC f m b = _
      rw [ih]
      by_cases z : f m = 1 + 2 * b
      · rw [if_pos z, if_pos (by omega)]
      · rw [if_neg z, if_neg (by omega)]
    · rw [fsC_e q, ih, if_neg (by omega)]
      omega
/-- the same values in another order -/
theorem cnt_same {f g : Nat → Nat} {m : Nat} (h : ∀ v, cntV f m v = cntV g m v) : zsC f m = zsC g m ∧ fsC f m = fsC g m := ⟨by rw [zsC_cnt, zsC_cnt, h], funext (fun b => by rw [fsC_cnt, fsC_cnt, h])⟩
/-- one put among the others at j -/
def insV (f : Nat → Nat) (j v : Nat) : Nat → Nat := fun p => if p < j then f p else if p = j then v else f (p - 1)
theorem ins_cnt {f : Nat → Nat} {j v x : Nat} : ∀ {n : Nat}, cntV (insV f j v) (j + n + 1) x = cntV f (j + n) x + if v = x then 1 else 0
  | 0 => by
    have e1 : cntV (insV f j v) (j + 0) x = cntV f (j + 0) x := cntV_E (fun i hi => if_pos hi)
    have e2 : insV f j v (j + 0) = v := by
      unfold insV
      rw [if_neg (by omega), if_pos (Nat.add_zero j)]
    show (if insV f j v (j + 0) = x then 1 else 0) + cntV (insV f j v) (j + 0) x = _
    rw [e1, e2]
    exact Nat.add_comm _ _
  | n + 1 => by
    have ih := ins_cnt (f := f) (j := j) (v := v) (x := x) (n := n)
    have e2 : insV f j v (j + n + 1) = f (j + n) := by
      unfold insV
      rw [if_neg (by omega), if_neg (by omega), Nat.add_sub_cancel]
    show (if insV f j v (j + n + 1) = x then 1 else 0) + cntV (insV f j v) (j + n + 1) x = ((if f (j + n) = x then 1 else 0) + cntV f (j + n) x) + if v = x then 1 else 0
    rw [ih, e2]
    exact (Nat.add_assoc _ _ _).symm
theorem ins_asc {f : Nat → Nat} {j v m : Nat} (hj : j ≤ m) (ha : ∀ i k, i ≤ k → k < m → f i ≤ f k) (h1 : ∀ i, i < j → f i ≤ v) (h2 : ∀ i, j ≤ i → i < m → v ≤ f i) : ∀ i k, i ≤ k → k < m + 1 → insV f j v i ≤ insV f j v k := fun i k hik hk => by
  unfold insV
  by_cases a : i < j
  · rw [if_pos a]
    by_cases b : k < j
    · rw [if_pos b]; exact ha i k hik (by omega)
    · rw [if_neg b]
      by_cases c : k = j
      · rw [if_pos c]; exact h1 i a
      · rw [if_neg c]; exact ha i (k - 1) (by omega) (by omega)
  · rw [if_neg a, if_neg (show ¬ k < j by omega)]
    by_cases b : i = j
    · rw [if_pos b]
      by_cases c : k = j
      · rw [if_pos c]; exact Nat.le_refl _
      · rw [if_neg c]; exact h2 (k - 1) (by omega) (by omega)
    · rw [if_neg b, if_neg (show ¬ k = j by omega)]
      exact ha (i - 1) (k - 1) (by omega) (by omega)
/-- where a state and a place lead, as the reference tells it -/
def gsV (nb : Nat → Nat → Prop) (s t : Nat) (z : Int) : Prop := (t = 4 ∧ z = 0) ∨ (t < 4 ∧ s = 0 ∧ z = ((1 + 2 * t : Nat) : Int)) ∨ (t < 4 ∧ s % 2 = 1 ∧ nb ((s - 1) / 2) t ∧ z = ((2 + 2 * t : Nat) : Int)) ∨ (t < 4 ∧ ¬ mgS nb s t ∧ z = -1)
theorem gsV_0 {nb : Nat → Nat → Prop} {s t : Nat} {z : Int} (h : gsV nb s t z) (ht : t ≤ 4) : (0 ≤ z ∧ z = ((nxs s t : Nat) : Int) ∧ (t = 4 ∨ (t < 4 ∧ mgS nb s t))) ∨ (z = -1 ∧ t < 4 ∧ ¬ mgS nb s t) := by
  unfold nxs
  rcases h with ⟨h1, h2⟩ | ⟨h1, h2, h3⟩ | ⟨h1, h2, h3, h4⟩ | ⟨h1, h2, h3⟩
  · rw [if_pos h1]
    exact Or.inl ⟨by omega, h2, Or.inl h1⟩
  · rw [if_neg (by omega), if_pos h2]
    exact Or.inl ⟨by omega, h3, Or.inr ⟨h1, Or.inl h2⟩⟩
  · rw [if_neg (by omega), if_neg (by omega)]
    exact Or.inl ⟨by omega, h4, Or.inr ⟨h1, Or.inr ⟨h2, h3⟩⟩⟩
  · exact Or.inr ⟨h3, h1, h2⟩
def ro_divm (x y : Int32) : Prop := (x / y).toInt = x.toInt / y.toInt ∧ (x - x / y * y).toInt = x.toInt % y.toInt
theorem ro_dm {x y : Int32} (h1 : 0 ≤ x.toInt) (h2 : 0 < y.toInt) : (x / y).toInt = x.toInt / y.toInt ∧ (x - x / y * y).toInt = x.toInt % y.toInt := by
  have hi := ab_hi32 x
  have e0 : 0 ≤ x.toInt / y.toInt := Int.ediv_nonneg h1 (by omega)
  have e9 : x.toInt / y.toInt ≤ x.toInt := Int.ediv_le_self _ h1
  have e1 : (x / y).toInt = x.toInt / y.toInt := ro_div h1 h2
  have h3 : x.toInt / y.toInt * y.toInt + x.toInt % y.toInt = x.toInt := Int.ediv_mul_add_emod _ _
  have h4 : 0 ≤ x.toInt % y.toInt := Int.emod_nonneg _ (by omega)
  have h5 : 0 ≤ x.toInt / y.toInt * y.toInt := Int.mul_nonneg e0 (by omega)
  have e2 : (x / y * y).toInt = x.toInt / y.toInt * y.toInt := by rw [cx_mulc (by rw [e1]; omega) (by rw [e1]; omega), e1]
  refine ⟨e1, ?_⟩
  rw [cx_subc (by rw [e2]; omega) (by rw [e2]; omega), e2]
  omega
theorem ct_goes {mi : Nat → Int32} {ml : Nat → Int64} {mm : Nat → Int32} {x y : Int32} {sN tN : Nat} (hmm : ∀ b : Nat, b < 4 → 0 ≤ (mm b).toInt ∧ (mm b).toInt ≤ 40) (hx : x.toInt = (sN : Int)) (hs9 : sN < 9) (hy : y.toInt = (tN : Int)) (ht : tN ≤ 4) : cx_Ct 2 206 [.inr (.inl 119), .inl (.int x), .inl (.int y)] ([(119, .inl (11, vs_119 mi ml)), (120, .inr (.inl (0, 4, mm)))]) (fun v h2 => ∃ z : Int32, v = some (.inl (.int z)) ∧ h2 = [(119, .inl (11, vs_119 mi ml)), (120, .inr (.inl (0, 4, mm)))] ∧ gsV (nbF mm) sN tN z.toInt) := by
  have kc4 : (Int32.ofInt 4).toInt = 4 := by decide +kernel
  have kc0 : (Int32.ofInt 0).toInt = 0 := by decide +kernel
  have kc1 : (Int32.ofInt 1).toInt = 1 := by decide +kernel
  have kc2 : (Int32.ofInt 2).toInt = 2 := by decide +kernel
  have kc10 : (Int32.ofInt 10).toInt = 10 := by decide +kernel
  have kcm1 : (Int32.ofInt (-1)).toInt = -1 := by decide +kernel
  have hy2 : (Int32.ofInt 2 * y).toInt = 2 * y.toInt := cx_mulk (by decide +kernel) (by omega) (by omega)
  refine cx_Ct.of cg_206 (nL := 6) rfl rfl rfl ?_
  show cx_T 2 206 [119, 120] 0 ([some (.inr (.inl 119)), some (.inl (.int x)), some (.inl (.int y)), none, none, none], [], ([(119, .inl (11, vs_119 mi ml)), (120, .inr (.inl (0, 4, mm)))])) _
  refine ex_iload_n cg_206 (ix := 0) (pc' := 1) rfl rfl rfl ?_
  refine ex_iconst cg_206 (ix := 1) (pc' := 2) rfl rfl ?_
  refine ex_icmp cg_206 (ix := 2) (t := 7) (pc' := 5) rfl rfl rfl (fun hb2 => ?_) (fun hb2 => ?_)
  · have hb2 : ¬ y.toInt = (Int32.ofInt 4).toInt := hb2
    refine ex_iload_n cg_206 (ix := 5) (pc' := 8) rfl rfl rfl ?_
    refine ex_if cg_206 (ix := 6) (t := 17) (pc' := 11) rfl rfl rfl (fun hb8 => ?_) (fun hb8 => ?_)
    · have hb8 : ¬ x.toInt = 0 := hb8
      have hx1 : (x - Int32.ofInt 1).toInt = ((sN - 1 : Nat) : Int) := by
        rw [cx_subc (by omega) (by omega)]
        omega
      have hx2 : ((x - Int32.ofInt 1) / Int32.ofInt 2).toInt = (((sN - 1) / 2 : Nat) : Int) := by
        rw [ro_div (by omega) (by omega), hx1, kc2]
        omega
      have hx3 : (x - x / Int32.ofInt 2 * Int32.ofInt 2).toInt = ((sN % 2 : Nat) : Int) := by
        rw [(ro_dm (by omega) (by omega)).2, hx, kc2]
        omega
      have hmA : mm ((x - Int32.ofInt 1) / Int32.ofInt 2).toNatClampNeg = mm ((sN - 1) / 2) := by rw [cx_clamp hx2]
      have hmB : mm y.toNatClampNeg = mm tN := by rw [cx_clamp hy]
      have hm1 := hmm ((sN - 1) / 2) (by omega)
      have hm3 := hmm tN (by omega)
      refine ex_iload_n cg_206 (ix := 13) (pc' := 18) rfl rfl rfl ?_
      refine ex_iconst cg_206 (ix := 14) (pc' := 19) rfl rfl ?_
      refine ex_isub cg_206 (ix := 15) (pc' := 20) rfl rfl ?_
      refine ex_iconst cg_206 (ix := 16) (pc' := 21) rfl rfl ?_
      refine ex_idiv cg_206 (ix := 17) (pc' := 22) rfl (by decide +kernel) rfl ?_
      refine ex_istore_n cg_206 (ix := 18) (pc' := 23) (L' := [some (.inr (.inl 119)), some (.inl (.int x)), some (.inl (.int y)), some (.inl (.int ((x - (Int32.ofInt 1)) / (Int32.ofInt 2)))), none, none]) rfl rfl rfl rfl ?_
      refine ex_iload_n cg_206 (ix := 19) (pc' := 24) rfl rfl rfl ?_
      refine ex_iconst cg_206 (ix := 20) (pc' := 25) rfl rfl ?_
      refine ex_irem cg_206 (ix := 21) (pc' := 26) rfl (by decide +kernel) rfl ?_
      refine ex_if cg_206 (ix := 22) (t := 33) (pc' := 29) rfl rfl rfl (fun hb26 => ?_) (fun hb26 => ?_)
      · have hb26 : ¬ (x - x / (Int32.ofInt 2) * (Int32.ofInt 2)).toInt = 0 := hb26
        refine ex_iconst cg_206 (ix := 25) (pc' := 34) rfl rfl ?_
        refine ex_istore cg_206 (ix := 26) (pc' := 36) (L' := [some (.inr (.inl 119)), some (.inl (.int x)), some (.inl (.int y)), some (.inl (.int ((x - (Int32.ofInt 1)) / (Int32.ofInt 2)))), some (.inl (.int (Int32.ofInt 0))), none]) rfl rfl rfl rfl ?_
        refine ex_aload_n cg_206 (ix := 27) (pc' := 37) rfl rfl rfl ?_
        refine ex_getfield cg_206 (ix := 28) (pc' := 40) (v := .inr (.inl 120)) rfl rfl rfl rfl rfl ?_
        refine ex_iload_n cg_206 (ix := 29) (pc' := 41) rfl rfl rfl ?_
        refine ex_iaload cg_206 (ix := 30) (pc' := 42) rfl rfl (by omega) (by omega) rfl ?_
        refine ex_aload_n cg_206 (ix := 31) (pc' := 43) rfl rfl rfl ?_
        refine ex_getfield cg_206 (ix := 32) (pc' := 46) (v := .inr (.inl 120)) rfl rfl rfl rfl rfl ?_
        refine ex_iload_n cg_206 (ix := 33) (pc' := 47) rfl rfl rfl ?_
        refine ex_iaload cg_206 (ix := 34) (pc' := 48) rfl rfl (by omega) (by omega) rfl ?_
        refine ex_icmp cg_206 (ix := 35) (t := 67) (pc' := 51) rfl rfl rfl (fun hb48 => ?_) (fun hb48 => ?_)
        · have hb48 : (mm ((x - (Int32.ofInt 1)) / (Int32.ofInt 2)).toNatClampNeg).toInt ≤ (mm y.toNatClampNeg).toInt := hb48
          refine ex_aload_n cg_206 (ix := 46) (pc' := 68) rfl rfl rfl ?_
          refine ex_getfield cg_206 (ix := 47) (pc' := 71) (v := .inr (.inl 120)) rfl rfl rfl rfl rfl ?_
          refine ex_iload_n cg_206 (ix := 48) (pc' := 72) rfl rfl rfl ?_
          refine ex_iaload cg_206 (ix := 49) (pc' := 73) rfl rfl (by omega) (by omega) rfl ?_
          refine ex_aload_n cg_206 (ix := 50) (pc' := 74) rfl rfl rfl ?_
          refine ex_getfield cg_206 (ix := 51) (pc' := 77) (v := .inr (.inl 120)) rfl rfl rfl rfl rfl ?_
          refine ex_iload_n cg_206 (ix := 52) (pc' := 78) rfl rfl rfl ?_
          refine ex_iaload cg_206 (ix := 53) (pc' := 79) rfl rfl (by omega) (by omega) rfl ?_
          refine ex_isub cg_206 (ix := 54) (pc' := 80) rfl rfl ?_
          refine ex_istore cg_206 (ix := 55) (pc' := 82) (L' := [some (.inr (.inl 119)), some (.inl (.int x)), some (.inl (.int y)), some (.inl (.int ((x - (Int32.ofInt 1)) / (Int32.ofInt 2)))), some (.inl (.int (Int32.ofInt 0))), some (.inl (.int ((mm y.toNatClampNeg) - (mm ((x - (Int32.ofInt 1)) / (Int32.ofInt 2)).toNatClampNeg))))]) rfl rfl rfl rfl ?_
          have hdf : ((mm y.toNatClampNeg) - (mm ((x - (Int32.ofInt 1)) / (Int32.ofInt 2)).toNatClampNeg)).toInt ≤ 10 ↔ nbF mm ((sN - 1) / 2) tN := by
            unfold nbF
            rw [hmA, hmB] at hb48
            rw [hmA, hmB, cx_subc (by omega) (by omega)]
            omega
          refine ex_iload cg_206 (ix := 56) (pc' := 84) rfl rfl rfl ?_
          refine ex_if cg_206 (ix := 57) (t := 94) (pc' := 87) rfl rfl rfl (fun hb84 => ?_) (fun hb84 => ?_)
          · have hb84 : ¬ (Int32.ofInt 0).toInt = 0 := hb84
            exfalso; first | omega | exact absurd hb84 (by decide +kernel)
          · have hb84 : ¬ (¬ (Int32.ofInt 0).toInt = 0) := hb84
            refine ex_iload cg_206 (ix := 58) (pc' := 89) rfl rfl rfl ?_
            refine ex_bipush cg_206 (ix := 59) (pc' := 91) rfl rfl rfl ?_
            refine ex_icmp cg_206 (ix := 60) (t := 98) (pc' := 94) rfl rfl rfl (fun hb91 => ?_) (fun hb91 => ?_)
            · have hb91 : ((mm y.toNatClampNeg) - (mm ((x - (Int32.ofInt 1)) / (Int32.ofInt 2)).toNatClampNeg)).toInt ≤ (Int32.ofInt 10).toInt := hb91
              refine ex_iconst cg_206 (ix := 63) (pc' := 99) rfl rfl ?_
              refine ex_iconst cg_206 (ix := 64) (pc' := 100) rfl rfl ?_
              refine ex_iload_n cg_206 (ix := 65) (pc' := 101) rfl rfl rfl ?_
              refine ex_imul cg_206 (ix := 66) (pc' := 102) rfl rfl ?_
              refine ex_iadd cg_206 (ix := 67) (pc' := 103) rfl rfl ?_
              refine ex_ireturn cg_206 (ix := 68) rfl ?_
              exact ⟨_, rfl, rfl, Or.inr (Or.inr (Or.inl ⟨by omega, by omega, hdf.mp (by omega), by rw [cx_addc (by omega) (by omega), hy2]; omega⟩))⟩
            · have hb91 : ¬ (((mm y.toNatClampNeg) - (mm ((x - (Int32.ofInt 1)) / (Int32.ofInt 2)).toNatClampNeg)).toInt ≤ (Int32.ofInt 10).toInt) := hb91
              refine ex_iconst cg_206 (ix := 61) (pc' := 95) rfl rfl ?_
              refine ex_goto cg_206 (ix := 62) (pc' := 103) rfl rfl ?_
              refine ex_ireturn cg_206 (ix := 68) rfl ?_
              exact ⟨_, rfl, rfl, Or.inr (Or.inr (Or.inr ⟨by omega, fun q => q.elim (fun z => by omega) (fun z => by
                have z1 := z.1
                first
                | omega
                | (have z2 := hdf.mpr z.2
                   omega)), kcm1⟩))⟩
        · have hb48 : ¬ ((mm ((x - (Int32.ofInt 1)) / (Int32.ofInt 2)).toNatClampNeg).toInt ≤ (mm y.toNatClampNeg).toInt) := hb48
          refine ex_aload_n cg_206 (ix := 36) (pc' := 52) rfl rfl rfl ?_
          refine ex_getfield cg_206 (ix := 37) (pc' := 55) (v := .inr (.inl 120)) rfl rfl rfl rfl rfl ?_
          refine ex_iload_n cg_206 (ix := 38) (pc' := 56) rfl rfl rfl ?_
          refine ex_iaload cg_206 (ix := 39) (pc' := 57) rfl rfl (by omega) (by omega) rfl ?_
          refine ex_aload_n cg_206 (ix := 40) (pc' := 58) rfl rfl rfl ?_
          refine ex_getfield cg_206 (ix := 41) (pc' := 61) (v := .inr (.inl 120)) rfl rfl rfl rfl rfl ?_
          refine ex_iload_n cg_206 (ix := 42) (pc' := 62) rfl rfl rfl ?_
          refine ex_iaload cg_206 (ix := 43) (pc' := 63) rfl rfl (by omega) (by omega) rfl ?_
          refine ex_isub cg_206 (ix := 44) (pc' := 64) rfl rfl ?_
          refine ex_goto cg_206 (ix := 45) (pc' := 80) rfl rfl ?_
          refine ex_istore cg_206 (ix := 55) (pc' := 82) (L' := [some (.inr (.inl 119)), some (.inl (.int x)), some (.inl (.int y)), some (.inl (.int ((x - (Int32.ofInt 1)) / (Int32.ofInt 2)))), some (.inl (.int (Int32.ofInt 0))), some (.inl (.int ((mm ((x - (Int32.ofInt 1)) / (Int32.ofInt 2)).toNatClampNeg) - (mm y.toNatClampNeg))))]) rfl rfl rfl rfl ?_
          have hdf : ((mm ((x - (Int32.ofInt 1)) / (Int32.ofInt 2)).toNatClampNeg) - (mm y.toNatClampNeg)).toInt ≤ 10 ↔ nbF mm ((sN - 1) / 2) tN := by
            unfold nbF
            rw [hmA, hmB] at hb48
            rw [hmA, hmB, cx_subc (by omega) (by omega)]
            omega
          refine ex_iload cg_206 (ix := 56) (pc' := 84) rfl rfl rfl ?_
          refine ex_if cg_206 (ix := 57) (t := 94) (pc' := 87) rfl rfl rfl (fun hb84 => ?_) (fun hb84 => ?_)
          · have hb84 : ¬ (Int32.ofInt 0).toInt = 0 := hb84
            exfalso; first | omega | exact absurd hb84 (by decide +kernel)
          · have hb84 : ¬ (¬ (Int32.ofInt 0).toInt = 0) := hb84
            refine ex_iload cg_206 (ix := 58) (pc' := 89) rfl rfl rfl ?_
            refine ex_bipush cg_206 (ix := 59) (pc' := 91) rfl rfl rfl ?_
            refine ex_icmp cg_206 (ix := 60) (t := 98) (pc' := 94) rfl rfl rfl (fun hb91 => ?_) (fun hb91 => ?_)
            · have hb91 : ((mm ((x - (Int32.ofInt 1)) / (Int32.ofInt 2)).toNatClampNeg) - (mm y.toNatClampNeg)).toInt ≤ (Int32.ofInt 10).toInt := hb91
              refine ex_iconst cg_206 (ix := 63) (pc' := 99) rfl rfl ?_
              refine ex_iconst cg_206 (ix := 64) (pc' := 100) rfl rfl ?_
              refine ex_iload_n cg_206 (ix := 65) (pc' := 101) rfl rfl rfl ?_
              refine ex_imul cg_206 (ix := 66) (pc' := 102) rfl rfl ?_
              refine ex_iadd cg_206 (ix := 67) (pc' := 103) rfl rfl ?_
              refine ex_ireturn cg_206 (ix := 68) rfl ?_
              exact ⟨_, rfl, rfl, Or.inr (Or.inr (Or.inl ⟨by omega, by omega, hdf.mp (by omega), by rw [cx_addc (by omega) (by omega), hy2]; omega⟩))⟩
            · have hb91 : ¬ (((mm ((x - (Int32.ofInt 1)) / (Int32.ofInt 2)).toNatClampNeg) - (mm y.toNatClampNeg)).toInt ≤ (Int32.ofInt 10).toInt) := hb91
              refine ex_iconst cg_206 (ix := 61) (pc' := 95) rfl rfl ?_
              refine ex_goto cg_206 (ix := 62) (pc' := 103) rfl rfl ?_
              refine ex_ireturn cg_206 (ix := 68) rfl ?_
              exact ⟨_, rfl, rfl, Or.inr (Or.inr (Or.inr ⟨by omega, fun q => q.elim (fun z => by omega) (fun z => by
                have z1 := z.1
                first
                | omega
                | (have z2 := hdf.mpr z.2
                   omega)), kcm1⟩))⟩
      · have hb26 : ¬ (¬ (x - x / (Int32.ofInt 2) * (Int32.ofInt 2)).toInt = 0) := hb26
        refine ex_iconst cg_206 (ix := 23) (pc' := 30) rfl rfl ?_
        refine ex_goto cg_206 (ix := 24) (pc' := 34) rfl rfl ?_
        refine ex_istore cg_206 (ix := 26) (pc' := 36) (L' := [some (.inr (.inl 119)), some (.inl (.int x)), some (.inl (.int y)), some (.inl (.int ((x - (Int32.ofInt 1)) / (Int32.ofInt 2)))), some (.inl (.int (Int32.ofInt 1))), none]) rfl rfl rfl rfl ?_
        refine ex_aload_n cg_206 (ix := 27) (pc' := 37) rfl rfl rfl ?_
        refine ex_getfield cg_206 (ix := 28) (pc' := 40) (v := .inr (.inl 120)) rfl rfl rfl rfl rfl ?_
        refine ex_iload_n cg_206 (ix := 29) (pc' := 41) rfl rfl rfl ?_
        refine ex_iaload cg_206 (ix := 30) (pc' := 42) rfl rfl (by omega) (by omega) rfl ?_
        refine ex_aload_n cg_206 (ix := 31) (pc' := 43) rfl rfl rfl ?_
        refine ex_getfield cg_206 (ix := 32) (pc' := 46) (v := .inr (.inl 120)) rfl rfl rfl rfl rfl ?_
        refine ex_iload_n cg_206 (ix := 33) (pc' := 47) rfl rfl rfl ?_
        refine ex_iaload cg_206 (ix := 34) (pc' := 48) rfl rfl (by omega) (by omega) rfl ?_
        refine ex_icmp cg_206 (ix := 35) (t := 67) (pc' := 51) rfl rfl rfl (fun hb48 => ?_) (fun hb48 => ?_)
        · have hb48 : (mm ((x - (Int32.ofInt 1)) / (Int32.ofInt 2)).toNatClampNeg).toInt ≤ (mm y.toNatClampNeg).toInt := hb48
          refine ex_aload_n cg_206 (ix := 46) (pc' := 68) rfl rfl rfl ?_
          refine ex_getfield cg_206 (ix := 47) (pc' := 71) (v := .inr (.inl 120)) rfl rfl rfl rfl rfl ?_
          refine ex_iload_n cg_206 (ix := 48) (pc' := 72) rfl rfl rfl ?_
          refine ex_iaload cg_206 (ix := 49) (pc' := 73) rfl rfl (by omega) (by omega) rfl ?_
          refine ex_aload_n cg_206 (ix := 50) (pc' := 74) rfl rfl rfl ?_
          refine ex_getfield cg_206 (ix := 51) (pc' := 77) (v := .inr (.inl 120)) rfl rfl rfl rfl rfl ?_
          refine ex_iload_n cg_206 (ix := 52) (pc' := 78) rfl rfl rfl ?_
          refine ex_iaload cg_206 (ix := 53) (pc' := 79) rfl rfl (by omega) (by omega) rfl ?_
          refine ex_isub cg_206 (ix := 54) (pc' := 80) rfl rfl ?_
          refine ex_istore cg_206 (ix := 55) (pc' := 82) (L' := [some (.inr (.inl 119)), some (.inl (.int x)), some (.inl (.int y)), some (.inl (.int ((x - (Int32.ofInt 1)) / (Int32.ofInt 2)))), some (.inl (.int (Int32.ofInt 1))), some (.inl (.int ((mm y.toNatClampNeg) - (mm ((x - (Int32.ofInt 1)) / (Int32.ofInt 2)).toNatClampNeg))))]) rfl rfl rfl rfl ?_
          have hdf : ((mm y.toNatClampNeg) - (mm ((x - (Int32.ofInt 1)) / (Int32.ofInt 2)).toNatClampNeg)).toInt ≤ 10 ↔ nbF mm ((sN - 1) / 2) tN := by
            unfold nbF
            rw [hmA, hmB] at hb48
            rw [hmA, hmB, cx_subc (by omega) (by omega)]
            omega
          refine ex_iload cg_206 (ix := 56) (pc' := 84) rfl rfl rfl ?_
          refine ex_if cg_206 (ix := 57) (t := 94) (pc' := 87) rfl rfl rfl (fun hb84 => ?_) (fun hb84 => ?_)
          · have hb84 : ¬ (Int32.ofInt 1).toInt = 0 := hb84
            refine ex_iconst cg_206 (ix := 61) (pc' := 95) rfl rfl ?_
            refine ex_goto cg_206 (ix := 62) (pc' := 103) rfl rfl ?_
            refine ex_ireturn cg_206 (ix := 68) rfl ?_
            exact ⟨_, rfl, rfl, Or.inr (Or.inr (Or.inr ⟨by omega, fun q => q.elim (fun z => by omega) (fun z => by
              have z1 := z.1
              first
              | omega
              | (have z2 := hdf.mpr z.2
                 omega)), kcm1⟩))⟩
          · have hb84 : ¬ (¬ (Int32.ofInt 1).toInt = 0) := hb84
            exfalso; first | omega | exact absurd hb84 (by decide +kernel)
        · have hb48 : ¬ ((mm ((x - (Int32.ofInt 1)) / (Int32.ofInt 2)).toNatClampNeg).toInt ≤ (mm y.toNatClampNeg).toInt) := hb48
          refine ex_aload_n cg_206 (ix := 36) (pc' := 52) rfl rfl rfl ?_
          refine ex_getfield cg_206 (ix := 37) (pc' := 55) (v := .inr (.inl 120)) rfl rfl rfl rfl rfl ?_
          refine ex_iload_n cg_206 (ix := 38) (pc' := 56) rfl rfl rfl ?_
          refine ex_iaload cg_206 (ix := 39) (pc' := 57) rfl rfl (by omega) (by omega) rfl ?_
          refine ex_aload_n cg_206 (ix := 40) (pc' := 58) rfl rfl rfl ?_
          refine ex_getfield cg_206 (ix := 41) (pc' := 61) (v := .inr (.inl 120)) rfl rfl rfl rfl rfl ?_
          refine ex_iload_n cg_206 (ix := 42) (pc' := 62) rfl rfl rfl ?_
          refine ex_iaload cg_206 (ix := 43) (pc' := 63) rfl rfl (by omega) (by omega) rfl ?_
          refine ex_isub cg_206 (ix := 44) (pc' := 64) rfl rfl ?_
          refine ex_goto cg_206 (ix := 45) (pc' := 80) rfl rfl ?_
          refine ex_istore cg_206 (ix := 55) (pc' := 82) (L' := [some (.inr (.inl 119)), some (.inl (.int x)), some (.inl (.int y)), some (.inl (.int ((x - (Int32.ofInt 1)) / (Int32.ofInt 2)))), some (.inl (.int (Int32.ofInt 1))), some (.inl (.int ((mm ((x - (Int32.ofInt 1)) / (Int32.ofInt 2)).toNatClampNeg) - (mm y.toNatClampNeg))))]) rfl rfl rfl rfl ?_
          have hdf : ((mm ((x - (Int32.ofInt 1)) / (Int32.ofInt 2)).toNatClampNeg) - (mm y.toNatClampNeg)).toInt ≤ 10 ↔ nbF mm ((sN - 1) / 2) tN := by
            unfold nbF
            rw [hmA, hmB] at hb48
            rw [hmA, hmB, cx_subc (by omega) (by omega)]
            omega
          refine ex_iload cg_206 (ix := 56) (pc' := 84) rfl rfl rfl ?_
          refine ex_if cg_206 (ix := 57) (t := 94) (pc' := 87) rfl rfl rfl (fun hb84 => ?_) (fun hb84 => ?_)
          · have hb84 : ¬ (Int32.ofInt 1).toInt = 0 := hb84
            refine ex_iconst cg_206 (ix := 61) (pc' := 95) rfl rfl ?_
            refine ex_goto cg_206 (ix := 62) (pc' := 103) rfl rfl ?_
            refine ex_ireturn cg_206 (ix := 68) rfl ?_
            exact ⟨_, rfl, rfl, Or.inr (Or.inr (Or.inr ⟨by omega, fun q => q.elim (fun z => by omega) (fun z => by
              have z1 := z.1
              first
              | omega
              | (have z2 := hdf.mpr z.2
                 omega)), kcm1⟩))⟩
          · have hb84 : ¬ (¬ (Int32.ofInt 1).toInt = 0) := hb84
            exfalso; first | omega | exact absurd hb84 (by decide +kernel)
    · have hb8 : ¬ (¬ x.toInt = 0) := hb8
      refine ex_iconst cg_206 (ix := 7) (pc' := 12) rfl rfl ?_
      refine ex_iconst cg_206 (ix := 8) (pc' := 13) rfl rfl ?_
      refine ex_iload_n cg_206 (ix := 9) (pc' := 14) rfl rfl rfl ?_
      refine ex_imul cg_206 (ix := 10) (pc' := 15) rfl rfl ?_
      refine ex_iadd cg_206 (ix := 11) (pc' := 16) rfl rfl ?_
      refine ex_ireturn cg_206 (ix := 12) rfl ?_
      exact ⟨_, rfl, rfl, Or.inr (Or.inl ⟨by omega, by omega, by rw [cx_addc (by omega) (by omega), hy2]; omega⟩)⟩
  · have hb2 : ¬ (¬ y.toInt = (Int32.ofInt 4).toInt) := hb2
    refine ex_iconst cg_206 (ix := 3) (pc' := 6) rfl rfl ?_
    refine ex_ireturn cg_206 (ix := 4) rfl ?_
    exact ⟨_, rfl, rfl, Or.inl ⟨by omega, kc0⟩⟩
theorem ct_ra {mi : Nat → Int32} {ml : Nat → Int64} {mh : Nat → Int32} {x y n : Int32} {bN hN gN v : Nat} (hx : x.toInt = (bN : Int)) (hb : bN < 4) (hy : y.toInt = (hN : Int)) (hh : hN < 16) (hn : n.toInt = (gN : Int)) (hg : gN ≤ 4) (hv : (mh (16 * bN + hN)).toInt = (v : Int)) (hv9 : v ≤ 999) : cx_Ct 2 208 [.inr (.inl 119), .inl (.int x), .inl (.int y), .inl (.int n)] ([(119, .inl (11, vs_119 mi ml)), (124, .inr (.inl (0, 64, mh)))]) (fun v_ h2 => ∃ z : Int32, v_ = some (.inl (.int z)) ∧ h2 = [(119, .inl (11, vs_119 mi ml)), (124, .inr (.inl (0, 64, mh)))] ∧ z.toInt = ((rk1 v gN : Nat) : Int)) := by
  have kc12 : (Int32.ofInt 12).toInt = 12 := by decide +kernel
  have kc16 : (Int32.ofInt 16).toInt = 16 := by decide +kernel
  have kc1 : (Int32.ofInt 1).toInt = 1 := by decide +kernel
  have hx16 : (Int32.ofInt 16 * x).toInt = 16 * x.toInt := cx_mulk (by decide +kernel) (by omega) (by omega)
  have hix : (Int32.ofInt 16 * x + y).toInt = ((16 * bN + hN : Nat) : Int) := by
    rw [cx_addc (by omega) (by omega), hx16]
    omega
  have hvv : (mh (Int32.ofInt 16 * x + y).toNatClampNeg).toInt = (v : Int) := by
    rw [cx_clamp hix]
    exact hv
  have h12 : (Int32.ofInt 12 * mh (Int32.ofInt 16 * x + y).toNatClampNeg).toInt = ((12 * v : Nat) : Int) := by
    rw [cx_mulk (by decide +kernel) (by omega) (by omega)]
    omega
  have h1y : (Int32.ofInt 1 + n).toInt = ((1 + gN : Nat) : Int) := by
    rw [cx_addc (by omega) (by omega), kc1]
    omega
  refine cx_Ct.of cg_208 (nL := 4) rfl rfl rfl ?_
  show cx_T 2 208 [119, 124] 0 ([some (.inr (.inl 119)), some (.inl (.int x)), some (.inl (.int y)), some (.inl (.int n))], [], ([(119, .inl (11, vs_119 mi ml)), (124, .inr (.inl (0, 64, mh)))])) _
  refine ex_bipush cg_208 (ix := 0) (pc' := 2) rfl rfl rfl ?_
  refine ex_aload_n cg_208 (ix := 1) (pc' := 3) rfl rfl rfl ?_
  refine ex_getfield cg_208 (ix := 2) (pc' := 6) (v := .inr (.inl 124)) rfl rfl rfl rfl rfl ?_
  refine ex_bipush cg_208 (ix := 3) (pc' := 8) rfl rfl rfl ?_
  refine ex_iload_n cg_208 (ix := 4) (pc' := 9) rfl rfl rfl ?_
  refine ex_imul cg_208 (ix := 5) (pc' := 10) rfl rfl ?_
  refine ex_iload_n cg_208 (ix := 6) (pc' := 11) rfl rfl rfl ?_
  refine ex_iadd cg_208 (ix := 7) (pc' := 12) rfl rfl ?_
  refine ex_iaload cg_208 (ix := 8) (pc' := 13) rfl rfl (by omega) (by omega) rfl ?_
  refine ex_imul cg_208 (ix := 9) (pc' := 14) rfl rfl ?_
  refine ex_iconst cg_208 (ix := 10) (pc' := 15) rfl rfl ?_
  refine ex_iload_n cg_208 (ix := 11) (pc' := 16) rfl rfl rfl ?_
  refine ex_iadd cg_208 (ix := 12) (pc' := 17) rfl rfl ?_
  refine ex_idiv cg_208 (ix := 13) (pc' := 18) rfl (by exact fun z0 => absurd (congrArg Int32.toInt z0) (by rw [h1y, show (0 : Int32).toInt = 0 from by decide]; omega)) rfl ?_
  refine ex_ireturn cg_208 (ix := 14) rfl ?_
  exact ⟨_, rfl, rfl, by rw [ro_div (by rw [h12]; omega) (by rw [h1y]; omega), h12, h1y]; rfl⟩
end
