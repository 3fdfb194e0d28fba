noncomputable section
theorem cg_99 : cx_G 99 tb_99 TbX8 (some .int) := cx_G.of gok_99
theorem cg_100 : cx_G 100 tb_100 TbX8 (some .int) := cx_G.of gok_100
theorem cg_102 : cx_G 102 tb_102 TbX8 (some .int) := cx_G.of gok_102
theorem cg_97 : cx_G 97 tb_97 TbX8 (some .int) := cx_G.of gok_97
theorem cg_98 : cx_G 98 tb_98 TbX8 (some .int) := cx_G.of gok_98
theorem cg_91 : cx_G 91 tb_91 TbX8 (some .int) := cx_G.of gok_91
theorem cg_92 : cx_G 92 tb_92 TbX8 (some .int) := cx_G.of gok_92
theorem cx_imin {x y : Int32} : (if y < x then y else x).toInt = min x.toInt y.toInt := by
  by_cases q : y < x
  · rw [if_pos q]; rw [Int32.lt_iff_toInt_lt] at q; omega
  · rw [if_neg q]; rw [Int32.lt_iff_toInt_lt] at q; omega
theorem cx_imax {x y : Int32} : (if x < y then y else x).toInt = max x.toInt y.toInt := by
  by_cases q : x < y
  · rw [if_pos q]; rw [Int32.lt_iff_toInt_lt] at q; omega
  · rw [if_neg q]; rw [Int32.lt_iff_toInt_lt] at q; omega
/-- the nearest told tide from an hour back -/
def td_a (t : Nat → Int32) : Nat → Int32
  | 0 => if (t 0).toInt = 99 then Int32.ofInt 99 else t 0
  | k + 1 => if (t (k + 1)).toInt = 99 then td_a t k else t (k + 1)
/-- from an hour on, n hours -/
def td_b (t : Nat → Int32) : Nat → Nat → Int32
  | _, 0 => Int32.ofInt 99
  | k, n + 1 => if (t k).toInt = 99 then td_b t (k + 1) n else t k
/-- the greatest told swell of the first k hours -/
def sw_g (s : Nat → Int32) : Nat → Int32
  | 0 => Int32.ofInt (-1)
  | k + 1 => if ¬ (s k).toInt = 99 ∧ (sw_g s k).toInt < (s k).toInt then s k else sw_g s k
def sw_x (s : Nat → Int32) (k : Nat) : Int32 := if (s k).toInt = 99 then (if 0 ≤ (sw_g s 16).toInt then sw_g s 16 else Int32.ofInt 9) else s k
def tdU (x : Int) : Prop := (-9 ≤ x ∧ x ≤ 9) ∨ x = 99
theorem td_aU {t : Nat → Int32} : ∀ k : Nat, (∀ i : Nat, i ≤ k → tdU (t i).toInt) → tdU (td_a t k).toInt
  | 0, h => by
    rw [td_a]
    split
    · exact Or.inr (by decide +kernel)
    · exact h 0 (Nat.le_refl _)
  | k + 1, h => by
    rw [td_a]
    split
    · exact td_aU k (fun i hi => h i (by omega))
    · exact h (k + 1) (Nat.le_refl _)
theorem td_bU {t : Nat → Int32} : ∀ n k : Nat, (∀ i : Nat, k ≤ i → i < k + n → tdU (t i).toInt) → tdU (td_b t k n).toInt
  | 0, k, h => Or.inr (by rw [td_b]; decide +kernel)
  | n + 1, k, h => by
    rw [td_b]
    split
    · exact td_bU n (k + 1) (fun i h1 h2 => h i (by omega) (by omega))
    · exact h k (Nat.le_refl _) (by omega)
/-- the least and the greatest tide by the nearest ones -/
def td_lo (a b : Int) : Int := if ¬ a = 99 ∧ ¬ b = 99 then min a b else if a = 99 ∧ b = 99 then -9 else max (-9) (min a b - 3)
def td_hi (a b : Int) : Int := if ¬ a = 99 ∧ ¬ b = 99 then max a b else min 9 (min a b + 3)
def h_td (t s : Nat → Int32) : cx_H := [(2, .inl (8, [.inr (.inl 3), .inr (.inl 4), .inr (.inl 5), .inr (.inl 10)])), (3, .inr (.inl (0, 16, t))), (4, .inr (.inl (0, 16, s)))]
theorem ta_loop {d : Nat} {x : Int32} {t s : Nat → Int32} {P : Option cx_V → cx_H → Prop} : ∀ (k : Nat), k < 16 → ∀ i : Int32, P (some (.inl (.int (td_a t k)))) (h_td t s) → i.toInt = k → cx_T d 99 [2, 3, 4] 2 ([some (.inr (.inl 2)), some (.inl (.int x)), some (.inl (.int i))], [], h_td t s) P := by
  have kc99 : (Int32.ofInt 99).toInt = 99 := by decide +kernel
  have kcm1 : (Int32.ofInt (-1)).toInt = -1 := by decide +kernel
  intro k
  induction k with
  | zero =>
    intro hk i hP hi
    have hik : i.toNatClampNeg = 0 := cx_clamp hi
    refine ex_iload_n cg_99 (ix := 2) (pc' := 3) rfl rfl rfl ?_
    refine ex_if cg_99 (ix := 3) (t := 30) (pc' := 6) rfl rfl rfl (fun hb3 => ?_) (fun hb3 => ?_)
    · have hb3 : i.toInt < 0 := hb3
      exfalso; first | omega | exact absurd hb3 (by decide +kernel)
    · have hb3 : ¬ (i.toInt < 0) := hb3
      refine ex_aload_n cg_99 (ix := 4) (pc' := 7) rfl rfl rfl ?_
      refine ex_getfield cg_99 (ix := 5) (pc' := 10) rfl rfl rfl rfl rfl ?_
      refine ex_iload_n cg_99 (ix := 6) (pc' := 11) rfl rfl rfl ?_
      refine ex_iaload cg_99 (ix := 7) (pc' := 12) rfl rfl (by omega) (by omega) rfl ?_
      refine ex_bipush cg_99 (ix := 8) (pc' := 14) rfl rfl rfl ?_
      refine ex_icmp cg_99 (ix := 9) (t := 24) (pc' := 17) rfl rfl rfl (fun hb14 => ?_) (fun hb14 => ?_)
      · have hb14 : (t i.toNatClampNeg).toInt = (Int32.ofInt 99).toInt := hb14
        refine ex_iinc cg_99 (ix := 15) (pc' := 27) (L' := [some (.inr (.inl 2)), some (.inl (.int x)), some (.inl (.int (i + Int32.ofInt (-1))))]) rfl rfl rfl rfl rfl ?_
        refine ex_goto cg_99 (ix := 16) (pc' := 2) rfl rfl ?_
        have him : (i + Int32.ofInt (-1)).toInt = -1 := by rw [cx_addc (by omega) (by omega)]; omega
        rw [hik] at hb14
        rw [kc99] at hb14
        refine ex_iload_n cg_99 (ix := 2) (pc' := 3) rfl rfl rfl ?_
        refine ex_if cg_99 (ix := 3) (t := 30) (pc' := 6) rfl rfl rfl (fun hb3 => ?_) (fun hb3 => ?_)
        · have hb3 : (i + Int32.ofInt (-1)).toInt < 0 := hb3
          refine ex_bipush cg_99 (ix := 17) (pc' := 32) rfl rfl rfl ?_
          refine ex_ireturn cg_99 (ix := 18) rfl ?_
          rw [td_a, if_pos hb14] at hP
          exact hP
        · have hb3 : ¬ ((i + Int32.ofInt (-1)).toInt < 0) := hb3
          exfalso; first | omega | exact absurd hb3 (by decide +kernel)
      · have hb14 : ¬ ((t i.toNatClampNeg).toInt = (Int32.ofInt 99).toInt) := hb14
        refine ex_aload_n cg_99 (ix := 10) (pc' := 18) rfl rfl rfl ?_
        refine ex_getfield cg_99 (ix := 11) (pc' := 21) rfl rfl rfl rfl rfl ?_
        refine ex_iload_n cg_99 (ix := 12) (pc' := 22) rfl rfl rfl ?_
        refine ex_iaload cg_99 (ix := 13) (pc' := 23) rfl rfl (by omega) (by omega) rfl ?_
        refine ex_ireturn cg_99 (ix := 14) rfl ?_
        rw [hik] at hb14 ⊢
        rw [kc99] at hb14
        rw [td_a, if_neg hb14] at hP
        exact hP
  | succ k ih0 =>
    intro hk i hP hi
    have ih := ih0 (by omega)
    have hik : i.toNatClampNeg = k + 1 := cx_clamp hi
    refine ex_iload_n cg_99 (ix := 2) (pc' := 3) rfl rfl rfl ?_
    refine ex_if cg_99 (ix := 3) (t := 30) (pc' := 6) rfl rfl rfl (fun hb3 => ?_) (fun hb3 => ?_)
    · have hb3 : i.toInt < 0 := hb3
      exfalso; first | omega | exact absurd hb3 (by decide +kernel)
    · have hb3 : ¬ (i.toInt < 0) := hb3
      refine ex_aload_n cg_99 (ix := 4) (pc' := 7) rfl rfl rfl ?_
      refine ex_getfield cg_99 (ix := 5) (pc' := 10) rfl rfl rfl rfl rfl ?_
      refine ex_iload_n cg_99 (ix := 6) (pc' := 11) rfl rfl rfl ?_
      refine ex_iaload cg_99 (ix := 7) (pc' := 12) rfl rfl (by omega) (by omega) rfl ?_
      refine ex_bipush cg_99 (ix := 8) (pc' := 14) rfl rfl rfl ?_
      refine ex_icmp cg_99 (ix := 9) (t := 24) (pc' := 17) rfl rfl rfl (fun hb14 => ?_) (fun hb14 => ?_)
      · have hb14 : (t i.toNatClampNeg).toInt = (Int32.ofInt 99).toInt := hb14
        refine ex_iinc cg_99 (ix := 15) (pc' := 27) (L' := [some (.inr (.inl 2)), some (.inl (.int x)), some (.inl (.int (i + Int32.ofInt (-1))))]) rfl rfl rfl rfl rfl ?_
        refine ex_goto cg_99 (ix := 16) (pc' := 2) rfl rfl ?_
        rw [hik] at hb14
        rw [kc99] at hb14
        rw [td_a, if_pos hb14] at hP
        exact ih _ hP (by rw [cx_addc (by omega) (by omega)]; omega)
      · have hb14 : ¬ ((t i.toNatClampNeg).toInt = (Int32.ofInt 99).toInt) := hb14
        refine ex_aload_n cg_99 (ix := 10) (pc' := 18) rfl rfl rfl ?_
        refine ex_getfield cg_99 (ix := 11) (pc' := 21) rfl rfl rfl rfl rfl ?_
        refine ex_iload_n cg_99 (ix := 12) (pc' := 22) rfl rfl rfl ?_
        refine ex_iaload cg_99 (ix := 13) (pc' := 23) rfl rfl (by omega) (by omega) rfl ?_
        refine ex_ireturn cg_99 (ix := 14) rfl ?_
        rw [hik] at hb14 ⊢
        rw [kc99] at hb14
        rw [td_a, if_neg hb14] at hP
        exact hP
theorem ct_ta {x : Int32} {k : Nat} {t s : Nat → Int32} (hx : x.toInt = (k : Int)) (hk : k < 16) : cx_Ct 2 99 [.inr (.inl 2), .inl (.int x)] (h_td t s) (fun v h2 => v = some (.inl (.int (td_a t k))) ∧ h2 = h_td t s) := by
  refine cx_Ct.of cg_99 (nL := 3) rfl rfl rfl ?_
  show cx_T 2 99 [2, 3, 4] 0 ([some (.inr (.inl 2)), some (.inl (.int x)), none], [], h_td t s) _
  refine ex_iload_n cg_99 (ix := 0) (pc' := 1) rfl rfl rfl ?_
  refine ex_istore_n cg_99 (ix := 1) (pc' := 2) (L' := [some (.inr (.inl 2)), some (.inl (.int x)), some (.inl (.int x))]) rfl rfl rfl rfl ?_
  exact ta_loop k hk x ⟨rfl, rfl⟩ hx
theorem tb_loop {d : Nat} {x : Int32} {t s : Nat → Int32} {P : Option cx_V → cx_H → Prop} : ∀ (n k : Nat), k + n = 16 → ∀ i : Int32, P (some (.inl (.int (td_b t k n)))) (h_td t s) → i.toInt = k → cx_T d 100 [2, 3, 4] 2 ([some (.inr (.inl 2)), some (.inl (.int x)), some (.inl (.int i))], [], h_td t s) P := by
  have kc99 : (Int32.ofInt 99).toInt = 99 := by decide +kernel
  have kc1 : (Int32.ofInt 1).toInt = 1 := by decide +kernel
  have kc16 : (Int32.ofInt 16).toInt = 16 := by decide +kernel
  intro n
  induction n with
  | zero =>
    intro k hk i hP hi
    have hik : i.toNatClampNeg = k := cx_clamp hi
    refine ex_iload_n cg_100 (ix := 2) (pc' := 3) rfl rfl rfl ?_
    refine ex_bipush cg_100 (ix := 3) (pc' := 5) rfl rfl rfl ?_
    refine ex_icmp cg_100 (ix := 4) (t := 32) (pc' := 8) rfl rfl rfl (fun hb5 => ?_) (fun hb5 => ?_)
    · have hb5 : (Int32.ofInt 16).toInt ≤ i.toInt := hb5
      refine ex_bipush cg_100 (ix := 18) (pc' := 34) rfl rfl rfl ?_
      refine ex_ireturn cg_100 (ix := 19) rfl ?_
      exact hP
    · have hb5 : ¬ ((Int32.ofInt 16).toInt ≤ i.toInt) := hb5
      exfalso; first | omega | exact absurd hb5 (by decide +kernel)
  | succ n ih =>
    intro k hk i hP hi
    have hik : i.toNatClampNeg = k := cx_clamp hi
    refine ex_iload_n cg_100 (ix := 2) (pc' := 3) rfl rfl rfl ?_
    refine ex_bipush cg_100 (ix := 3) (pc' := 5) rfl rfl rfl ?_
    refine ex_icmp cg_100 (ix := 4) (t := 32) (pc' := 8) rfl rfl rfl (fun hb5 => ?_) (fun hb5 => ?_)
    · have hb5 : (Int32.ofInt 16).toInt ≤ i.toInt := hb5
      exfalso; first | omega | exact absurd hb5 (by decide +kernel)
    · have hb5 : ¬ ((Int32.ofInt 16).toInt ≤ i.toInt) := hb5
      refine ex_aload_n cg_100 (ix := 5) (pc' := 9) rfl rfl rfl ?_
      refine ex_getfield cg_100 (ix := 6) (pc' := 12) rfl rfl rfl rfl rfl ?_
      refine ex_iload_n cg_100 (ix := 7) (pc' := 13) rfl rfl rfl ?_
      refine ex_iaload cg_100 (ix := 8) (pc' := 14) rfl rfl (by omega) (by omega) rfl ?_
      refine ex_bipush cg_100 (ix := 9) (pc' := 16) rfl rfl rfl ?_
      refine ex_icmp cg_100 (ix := 10) (t := 26) (pc' := 19) rfl rfl rfl (fun hb16 => ?_) (fun hb16 => ?_)
      · have hb16 : (t i.toNatClampNeg).toInt = (Int32.ofInt 99).toInt := hb16
        refine ex_iinc cg_100 (ix := 16) (pc' := 29) (L' := [some (.inr (.inl 2)), some (.inl (.int x)), some (.inl (.int (i + Int32.ofInt 1)))]) rfl rfl rfl rfl rfl ?_
        refine ex_goto cg_100 (ix := 17) (pc' := 2) rfl rfl ?_
        rw [hik] at hb16
        rw [kc99] at hb16
        rw [td_b, if_pos hb16] at hP
        exact ih _ (by omega) _ hP (by rw [cx_addc (by omega) (by omega)]; omega)
      · have hb16 : ¬ ((t i.toNatClampNeg).toInt = (Int32.ofInt 99).toInt) := hb16
        refine ex_aload_n cg_100 (ix := 11) (pc' := 20) rfl rfl rfl ?_
        refine ex_getfield cg_100 (ix := 12) (pc' := 23) rfl rfl rfl rfl rfl ?_
        refine ex_iload_n cg_100 (ix := 13) (pc' := 24) rfl rfl rfl ?_
        refine ex_iaload cg_100 (ix := 14) (pc' := 25) rfl rfl (by omega) (by omega) rfl ?_
        refine ex_ireturn cg_100 (ix := 15) rfl ?_
        rw [hik] at hb16 ⊢
        rw [kc99] at hb16
        rw [td_b, if_neg hb16] at hP
        exact hP
theorem ct_tb {x : Int32} {k : Nat} {t s : Nat → Int32} (hx : x.toInt = (k : Int)) (hk : k < 16) : cx_Ct 2 100 [.inr (.inl 2), .inl (.int x)] (h_td t s) (fun v h2 => v = some (.inl (.int (td_b t k (16 - k)))) ∧ h2 = h_td t s) := by
  refine cx_Ct.of cg_100 (nL := 3) rfl rfl rfl ?_
  show cx_T 2 100 [2, 3, 4] 0 ([some (.inr (.inl 2)), some (.inl (.int x)), none], [], h_td t s) _
  refine ex_iload_n cg_100 (ix := 0) (pc' := 1) rfl rfl rfl ?_
  refine ex_istore_n cg_100 (ix := 1) (pc' := 2) (L' := [some (.inr (.inl 2)), some (.inl (.int x)), some (.inl (.int x))]) rfl rfl rfl rfl ?_
  exact tb_loop (16 - k) k (by omega) x ⟨rfl, rfl⟩ hx
theorem gs_loop {d : Nat} {x : Int32} {t s : Nat → Int32} {P : Option cx_V → cx_H → Prop} (hP : P (some (.inl (.int (if 0 ≤ (sw_g s 16).toInt then sw_g s 16 else Int32.ofInt 9)))) (h_td t s)) : ∀ (n k : Nat), k + n = 16 → ∀ g i : Int32, g = sw_g s k → i.toInt = k → cx_T d 102 [2, 3, 4] 22 ([some (.inr (.inl 2)), some (.inl (.int x)), some (.inl (.int g)), some (.inl (.int i))], [], h_td t s) P := by
  have kc99 : (Int32.ofInt 99).toInt = 99 := by decide +kernel
  have kc1 : (Int32.ofInt 1).toInt = 1 := by decide +kernel
  have kc16 : (Int32.ofInt 16).toInt = 16 := by decide +kernel
  have kc9 : (Int32.ofInt 9).toInt = 9 := by decide +kernel
  intro n
  induction n with
  | zero =>
    intro k hk g i hg hi
    have ek : k = 16 := by omega
    subst ek
    have hge := hg.symm
    refine ex_iload_n cg_102 (ix := 15) (pc' := 23) rfl rfl rfl ?_
    refine ex_bipush cg_102 (ix := 16) (pc' := 25) rfl rfl rfl ?_
    refine ex_icmp cg_102 (ix := 17) (t := 62) (pc' := 28) rfl rfl rfl (fun hb25 => ?_) (fun hb25 => ?_)
    · have hb25 : (Int32.ofInt 16).toInt ≤ i.toInt := hb25
      refine ex_iload_n cg_102 (ix := 37) (pc' := 63) rfl rfl rfl ?_
      refine ex_if cg_102 (ix := 38) (t := 71) (pc' := 66) rfl rfl rfl (fun hb63 => ?_) (fun hb63 => ?_)
      · have hb63 : 0 ≤ g.toInt := hb63
        refine ex_iload_n cg_102 (ix := 41) (pc' := 72) rfl rfl rfl ?_
        refine ex_ireturn cg_102 (ix := 42) rfl ?_
        rw [hge, if_pos hb63] at hP
        exact hP
      · have hb63 : ¬ (0 ≤ g.toInt) := hb63
        refine ex_bipush cg_102 (ix := 39) (pc' := 68) rfl rfl rfl ?_
        refine ex_goto cg_102 (ix := 40) (pc' := 72) rfl rfl ?_
        refine ex_ireturn cg_102 (ix := 42) rfl ?_
        rw [hge, if_neg hb63] at hP
        exact hP
    · have hb25 : ¬ ((Int32.ofInt 16).toInt ≤ i.toInt) := hb25
      exfalso; first | omega | exact absurd hb25 (by decide +kernel)
  | succ n ih =>
    intro k hk g i hg hi
    have hik : i.toNatClampNeg = k := cx_clamp hi
    refine ex_iload_n cg_102 (ix := 15) (pc' := 23) rfl rfl rfl ?_
    refine ex_bipush cg_102 (ix := 16) (pc' := 25) rfl rfl rfl ?_
    refine ex_icmp cg_102 (ix := 17) (t := 62) (pc' := 28) rfl rfl rfl (fun hb25 => ?_) (fun hb25 => ?_)
    · have hb25 : (Int32.ofInt 16).toInt ≤ i.toInt := hb25
      exfalso; first | omega | exact absurd hb25 (by decide +kernel)
    · have hb25 : ¬ ((Int32.ofInt 16).toInt ≤ i.toInt) := hb25
      refine ex_aload_n cg_102 (ix := 18) (pc' := 29) rfl rfl rfl ?_
      refine ex_getfield cg_102 (ix := 19) (pc' := 32) rfl rfl rfl rfl rfl ?_
      refine ex_iload_n cg_102 (ix := 20) (pc' := 33) rfl rfl rfl ?_
      refine ex_iaload cg_102 (ix := 21) (pc' := 34) rfl rfl (by omega) (by omega) rfl ?_
      refine ex_bipush cg_102 (ix := 22) (pc' := 36) rfl rfl rfl ?_
      refine ex_icmp cg_102 (ix := 23) (t := 56) (pc' := 39) rfl rfl rfl (fun hb36 => ?_) (fun hb36 => ?_)
      · have hb36 : (s i.toNatClampNeg).toInt = (Int32.ofInt 99).toInt := hb36
        refine ex_iinc cg_102 (ix := 35) (pc' := 59) (L' := [some (.inr (.inl 2)), some (.inl (.int x)), some (.inl (.int g)), some (.inl (.int (i + Int32.ofInt 1)))]) rfl rfl rfl rfl rfl ?_
        refine ex_goto cg_102 (ix := 36) (pc' := 22) rfl rfl ?_
        have e1 : g = sw_g s (k + 1) := by
          rw [sw_g, ← hg, if_neg (by first | (rw [hik] at hb36 hb46; omega) | (rw [hik] at hb36; omega))]
        exact ih (k + 1) (by omega) _ _ e1 (by rw [cx_addc (by omega) (by omega)]; omega)
      · have hb36 : ¬ ((s i.toNatClampNeg).toInt = (Int32.ofInt 99).toInt) := hb36
        refine ex_aload_n cg_102 (ix := 24) (pc' := 40) rfl rfl rfl ?_
        refine ex_getfield cg_102 (ix := 25) (pc' := 43) rfl rfl rfl rfl rfl ?_
        refine ex_iload_n cg_102 (ix := 26) (pc' := 44) rfl rfl rfl ?_
        refine ex_iaload cg_102 (ix := 27) (pc' := 45) rfl rfl (by omega) (by omega) rfl ?_
        refine ex_iload_n cg_102 (ix := 28) (pc' := 46) rfl rfl rfl ?_
        refine ex_icmp cg_102 (ix := 29) (t := 56) (pc' := 49) rfl rfl rfl (fun hb46 => ?_) (fun hb46 => ?_)
        · have hb46 : (s i.toNatClampNeg).toInt ≤ g.toInt := hb46
          refine ex_iinc cg_102 (ix := 35) (pc' := 59) (L' := [some (.inr (.inl 2)), some (.inl (.int x)), some (.inl (.int g)), some (.inl (.int (i + Int32.ofInt 1)))]) rfl rfl rfl rfl rfl ?_
          refine ex_goto cg_102 (ix := 36) (pc' := 22) rfl rfl ?_
          have e1 : g = sw_g s (k + 1) := by
            rw [sw_g, ← hg, if_neg (by first | (rw [hik] at hb36 hb46; omega) | (rw [hik] at hb36; omega))]
          exact ih (k + 1) (by omega) _ _ e1 (by rw [cx_addc (by omega) (by omega)]; omega)
        · have hb46 : ¬ ((s i.toNatClampNeg).toInt ≤ g.toInt) := hb46
          refine ex_aload_n cg_102 (ix := 30) (pc' := 50) rfl rfl rfl ?_
          refine ex_getfield cg_102 (ix := 31) (pc' := 53) rfl rfl rfl rfl rfl ?_
          refine ex_iload_n cg_102 (ix := 32) (pc' := 54) rfl rfl rfl ?_
          refine ex_iaload cg_102 (ix := 33) (pc' := 55) rfl rfl (by omega) (by omega) rfl ?_
          refine ex_istore_n cg_102 (ix := 34) (pc' := 56) (L' := [some (.inr (.inl 2)), some (.inl (.int x)), some (.inl (.int (s i.toNatClampNeg))), some (.inl (.int i))]) rfl rfl rfl rfl ?_
          refine ex_iinc cg_102 (ix := 35) (pc' := 59) (L' := [some (.inr (.inl 2)), some (.inl (.int x)), some (.inl (.int (s i.toNatClampNeg))), some (.inl (.int (i + Int32.ofInt 1)))]) rfl rfl rfl rfl rfl ?_
          refine ex_goto cg_102 (ix := 36) (pc' := 22) rfl rfl ?_
          have e1 : s i.toNatClampNeg = sw_g s (k + 1) := by
            rw [hik] at hb36 hb46 ⊢
            rw [sw_g, ← hg, if_pos ⟨by omega, by omega⟩]
          exact ih (k + 1) (by omega) _ _ e1 (by rw [cx_addc (by omega) (by omega)]; omega)
theorem ct_gs {x : Int32} {k : Nat} {t s : Nat → Int32} (hx : x.toInt = (k : Int)) (hk : k < 16) : cx_Ct 2 102 [.inr (.inl 2), .inl (.int x)] (h_td t s) (fun v h2 => v = some (.inl (.int (sw_x s k))) ∧ h2 = h_td t s) := by
  have kc99 : (Int32.ofInt 99).toInt = 99 := by decide +kernel
  have kc16 : (Int32.ofInt 16).toInt = 16 := by decide +kernel
  have kc0 : (Int32.ofInt 0).toInt = 0 := by decide +kernel
  have kcm1 : (Int32.ofInt (-1)).toInt = -1 := by decide +kernel
  have hxk : x.toNatClampNeg = k := cx_clamp hx
  refine cx_Ct.of cg_102 (nL := 4) rfl rfl rfl ?_
  show cx_T 2 102 [2, 3, 4] 0 ([some (.inr (.inl 2)), some (.inl (.int x)), none, none], [], h_td t s) _
  refine ex_aload_n cg_102 (ix := 0) (pc' := 1) rfl rfl rfl ?_
  refine ex_getfield cg_102 (ix := 1) (pc' := 4) rfl rfl rfl rfl rfl ?_
  refine ex_iload_n cg_102 (ix := 2) (pc' := 5) rfl rfl rfl ?_
  refine ex_iaload cg_102 (ix := 3) (pc' := 6) rfl rfl (by omega) (by omega) rfl ?_
  refine ex_bipush cg_102 (ix := 4) (pc' := 8) rfl rfl rfl ?_
  refine ex_icmp cg_102 (ix := 5) (t := 18) (pc' := 11) rfl rfl rfl (fun hb8 => ?_) (fun hb8 => ?_)
  · have hb8 : (s x.toNatClampNeg).toInt = (Int32.ofInt 99).toInt := hb8
    refine ex_iconst cg_102 (ix := 11) (pc' := 19) rfl rfl ?_
    refine ex_istore_n cg_102 (ix := 12) (pc' := 20) (L' := [some (.inr (.inl 2)), some (.inl (.int x)), some (.inl (.int (Int32.ofInt (-1)))), none]) rfl rfl rfl rfl ?_
    refine ex_iconst cg_102 (ix := 13) (pc' := 21) rfl rfl ?_
    refine ex_istore_n cg_102 (ix := 14) (pc' := 22) (L' := [some (.inr (.inl 2)), some (.inl (.int x)), some (.inl (.int (Int32.ofInt (-1)))), some (.inl (.int (Int32.ofInt 0)))]) rfl rfl rfl rfl ?_
    refine gs_loop ?_ 16 0 rfl _ _ rfl (by decide +kernel)
    rw [hxk] at hb8
    exact ⟨by rw [sw_x, if_pos (show (s k).toInt = 99 by omega)], rfl⟩
  · have hb8 : ¬ ((s x.toNatClampNeg).toInt = (Int32.ofInt 99).toInt) := hb8
    refine ex_aload_n cg_102 (ix := 6) (pc' := 12) rfl rfl rfl ?_
    refine ex_getfield cg_102 (ix := 7) (pc' := 15) rfl rfl rfl rfl rfl ?_
    refine ex_iload_n cg_102 (ix := 8) (pc' := 16) rfl rfl rfl ?_
    refine ex_iaload cg_102 (ix := 9) (pc' := 17) rfl rfl (by omega) (by omega) rfl ?_
    refine ex_ireturn cg_102 (ix := 10) rfl ?_
    rw [hxk] at hb8 ⊢
    exact ⟨by rw [sw_x, if_neg (by omega)], rfl⟩
theorem ct_lt {x : Int32} {k : Nat} {t s : Nat → Int32} (hx : x.toInt = (k : Int)) (hk : k < 16) (ht : ∀ i : Nat, i < 16 → tdU (t i).toInt) : cx_Ct 3 97 [.inr (.inl 2), .inl (.int x)] (h_td t s) (fun v h2 => ∃ z : Int32, v = some (.inl (.int z)) ∧ z.toInt = td_lo (td_a t k).toInt (td_b t k (16 - k)).toInt ∧ h2 = h_td t s) := by
  have kcm9 : (Int32.ofInt (-9)).toInt = -9 := by decide +kernel
  have kc3 : (Int32.ofInt 3).toInt = 3 := by decide +kernel
  have kc9 : (Int32.ofInt 9).toInt = 9 := by decide +kernel
  have kc99 : (Int32.ofInt 99).toInt = 99 := by decide +kernel
  have ha := td_aU k (fun i hi => ht i (by omega))
  have hb := td_bU (16 - k) k (fun i h1 h2 => ht i (by omega))
  unfold tdU at ha hb
  have hsub : ((if (td_b t k (16 - k)) < (td_a t k) then (td_b t k (16 - k)) else (td_a t k)) - (Int32.ofInt 3)).toInt = (if (td_b t k (16 - k)) < (td_a t k) then (td_b t k (16 - k)) else (td_a t k)).toInt - 3 := by rw [cx_subc (by rw [cx_imin]; omega) (by rw [cx_imin]; omega)]; omega
  refine cx_Ct.of cg_97 (nL := 4) rfl rfl rfl ?_
  show cx_T 3 97 [2, 3, 4] 0 ([some (.inr (.inl 2)), some (.inl (.int x)), none, none], [], h_td t s) _
  refine ex_aload_n cg_97 (ix := 0) (pc' := 1) rfl rfl rfl ?_
  refine ex_iload_n cg_97 (ix := 1) (pc' := 2) rfl rfl rfl ?_
  refine ex_callV cg_97 (ix := 2) (pc' := 5) (As := [.inl (.int x)]) (r := []) rfl rfl rfl (ct_ta (x := x) (k := k) (t := t) (s := s) hx hk) (by first | decide | omega) rfl rfl rfl ⟨rfl, rfl, rfl, trivial⟩ rfl rfl (fun v h2 hq => ?_)
  obtain ⟨rfl, rfl⟩ := hq
  show cx_T _ 97 _ 5 ([some (.inr (.inl 2)), some (.inl (.int x)), none, none], [.inl (.int (td_a t k))], [(2, .inl (8, [.inr (.inl 3), .inr (.inl 4), .inr (.inl 5), .inr (.inl 10)])), (3, .inr (.inl (0, 16, t))), (4, .inr (.inl (0, 16, s)))]) _
  refine ex_istore_n cg_97 (ix := 3) (pc' := 6) (L' := [some (.inr (.inl 2)), some (.inl (.int x)), some (.inl (.int (td_a t k))), none]) rfl rfl rfl rfl ?_
  refine ex_aload_n cg_97 (ix := 4) (pc' := 7) rfl rfl rfl ?_
  refine ex_iload_n cg_97 (ix := 5) (pc' := 8) rfl rfl rfl ?_
  refine ex_callV cg_97 (ix := 6) (pc' := 11) (As := [.inl (.int x)]) (r := []) rfl rfl rfl (ct_tb (x := x) (k := k) (t := t) (s := s) hx hk) (by first | decide | omega) rfl rfl rfl ⟨rfl, rfl, rfl, trivial⟩ rfl rfl (fun v h2 hq => ?_)
  obtain ⟨rfl, rfl⟩ := hq
  show cx_T _ 97 _ 11 ([some (.inr (.inl 2)), some (.inl (.int x)), some (.inl (.int (td_a t k))), none], [.inl (.int (td_b t k (16 - k)))], [(2, .inl (8, [.inr (.inl 3), .inr (.inl 4), .inr (.inl 5), .inr (.inl 10)])), (3, .inr (.inl (0, 16, t))), (4, .inr (.inl (0, 16, s)))]) _
  refine ex_istore_n cg_97 (ix := 7) (pc' := 12) (L' := [some (.inr (.inl 2)), some (.inl (.int x)), some (.inl (.int (td_a t k))), some (.inl (.int (td_b t k (16 - k))))]) rfl rfl rfl rfl ?_
  refine ex_iload_n cg_97 (ix := 8) (pc' := 13) rfl rfl rfl ?_
  refine ex_bipush cg_97 (ix := 9) (pc' := 15) rfl rfl rfl ?_
  refine ex_icmp cg_97 (ix := 10) (t := 30) (pc' := 18) rfl rfl rfl (fun hb15 => ?_) (fun hb15 => ?_)
  · have hb15 : (td_a t k).toInt = (Int32.ofInt 99).toInt := hb15
    refine ex_iload_n cg_97 (ix := 18) (pc' := 31) rfl rfl rfl ?_
    refine ex_bipush cg_97 (ix := 19) (pc' := 33) rfl rfl rfl ?_
    refine ex_icmp cg_97 (ix := 20) (t := 45) (pc' := 36) rfl rfl rfl (fun hb33 => ?_) (fun hb33 => ?_)
    · have hb33 : ¬ (td_a t k).toInt = (Int32.ofInt 99).toInt := hb33
      refine ex_bipush cg_97 (ix := 26) (pc' := 47) rfl rfl rfl ?_
      refine ex_iload_n cg_97 (ix := 27) (pc' := 48) rfl rfl rfl ?_
      refine ex_iload_n cg_97 (ix := 28) (pc' := 49) rfl rfl rfl ?_
      refine ex_min cg_97 (ix := 29) (pc' := 52) rfl rfl (by first | decide | omega) rfl rfl ?_
      refine ex_iconst cg_97 (ix := 30) (pc' := 53) rfl rfl ?_
      refine ex_isub cg_97 (ix := 31) (pc' := 54) rfl rfl ?_
      refine ex_max cg_97 (ix := 32) (pc' := 57) rfl rfl (by first | decide | omega) rfl rfl ?_
      refine ex_ireturn cg_97 (ix := 33) rfl ?_
      refine ⟨_, rfl, ?_, rfl⟩
      first | (unfold td_lo; split <;> (try split) <;> omega) | (simp only [cx_imin, cx_imax]; unfold td_lo; split <;> (try split) <;> omega) | (simp only [cx_imin, cx_imax]; rw [hsub]; simp only [cx_imin, cx_imax]; unfold td_lo; split <;> (try split) <;> omega) | (simp only [cx_imin, cx_imax]; rw [hadd]; simp only [cx_imin, cx_imax]; unfold td_lo; split <;> (try split) <;> omega)
    · have hb33 : ¬ (¬ (td_a t k).toInt = (Int32.ofInt 99).toInt) := hb33
      refine ex_iload_n cg_97 (ix := 21) (pc' := 37) rfl rfl rfl ?_
      refine ex_bipush cg_97 (ix := 22) (pc' := 39) rfl rfl rfl ?_
      refine ex_icmp cg_97 (ix := 23) (t := 45) (pc' := 42) rfl rfl rfl (fun hb39 => ?_) (fun hb39 => ?_)
      · have hb39 : ¬ (td_b t k (16 - k)).toInt = (Int32.ofInt 99).toInt := hb39
        refine ex_bipush cg_97 (ix := 26) (pc' := 47) rfl rfl rfl ?_
        refine ex_iload_n cg_97 (ix := 27) (pc' := 48) rfl rfl rfl ?_
        refine ex_iload_n cg_97 (ix := 28) (pc' := 49) rfl rfl rfl ?_
        refine ex_min cg_97 (ix := 29) (pc' := 52) rfl rfl (by first | decide | omega) rfl rfl ?_
        refine ex_iconst cg_97 (ix := 30) (pc' := 53) rfl rfl ?_
        refine ex_isub cg_97 (ix := 31) (pc' := 54) rfl rfl ?_
        refine ex_max cg_97 (ix := 32) (pc' := 57) rfl rfl (by first | decide | omega) rfl rfl ?_
        refine ex_ireturn cg_97 (ix := 33) rfl ?_
        refine ⟨_, rfl, ?_, rfl⟩
        first | (unfold td_lo; split <;> (try split) <;> omega) | (simp only [cx_imin, cx_imax]; unfold td_lo; split <;> (try split) <;> omega) | (simp only [cx_imin, cx_imax]; rw [hsub]; simp only [cx_imin, cx_imax]; unfold td_lo; split <;> (try split) <;> omega) | (simp only [cx_imin, cx_imax]; rw [hadd]; simp only [cx_imin, cx_imax]; unfold td_lo; split <;> (try split) <;> omega)
      · have hb39 : ¬ (¬ (td_b t k (16 - k)).toInt = (Int32.ofInt 99).toInt) := hb39
        refine ex_bipush cg_97 (ix := 24) (pc' := 44) rfl rfl rfl ?_
        refine ex_ireturn cg_97 (ix := 25) rfl ?_
        refine ⟨_, rfl, ?_, rfl⟩
        first | (unfold td_lo; split <;> (try split) <;> omega) | (simp only [cx_imin, cx_imax]; unfold td_lo; split <;> (try split) <;> omega) | (simp only [cx_imin, cx_imax]; rw [hsub]; simp only [cx_imin, cx_imax]; unfold td_lo; split <;> (try split) <;> omega) | (simp only [cx_imin, cx_imax]; rw [hadd]; simp only [cx_imin, cx_imax]; unfold td_lo; split <;> (try split) <;> omega)
  · have hb15 : ¬ ((td_a t k).toInt = (Int32.ofInt 99).toInt) := hb15
    refine ex_iload_n cg_97 (ix := 11) (pc' := 19) rfl rfl rfl ?_
    refine ex_bipush cg_97 (ix := 12) (pc' := 21) rfl rfl rfl ?_
    refine ex_icmp cg_97 (ix := 13) (t := 30) (pc' := 24) rfl rfl rfl (fun hb21 => ?_) (fun hb21 => ?_)
    · have hb21 : (td_b t k (16 - k)).toInt = (Int32.ofInt 99).toInt := hb21
      refine ex_iload_n cg_97 (ix := 18) (pc' := 31) rfl rfl rfl ?_
      refine ex_bipush cg_97 (ix := 19) (pc' := 33) rfl rfl rfl ?_
      refine ex_icmp cg_97 (ix := 20) (t := 45) (pc' := 36) rfl rfl rfl (fun hb33 => ?_) (fun hb33 => ?_)
      · have hb33 : ¬ (td_a t k).toInt = (Int32.ofInt 99).toInt := hb33
        refine ex_bipush cg_97 (ix := 26) (pc' := 47) rfl rfl rfl ?_
        refine ex_iload_n cg_97 (ix := 27) (pc' := 48) rfl rfl rfl ?_
        refine ex_iload_n cg_97 (ix := 28) (pc' := 49) rfl rfl rfl ?_
        refine ex_min cg_97 (ix := 29) (pc' := 52) rfl rfl (by first | decide | omega) rfl rfl ?_
        refine ex_iconst cg_97 (ix := 30) (pc' := 53) rfl rfl ?_
        refine ex_isub cg_97 (ix := 31) (pc' := 54) rfl rfl ?_
        refine ex_max cg_97 (ix := 32) (pc' := 57) rfl rfl (by first | decide | omega) rfl rfl ?_
        refine ex_ireturn cg_97 (ix := 33) rfl ?_
        refine ⟨_, rfl, ?_, rfl⟩
        first | (unfold td_lo; split <;> (try split) <;> omega) | (simp only [cx_imin, cx_imax]; unfold td_lo; split <;> (try split) <;> omega) | (simp only [cx_imin, cx_imax]; rw [hsub]; simp only [cx_imin, cx_imax]; unfold td_lo; split <;> (try split) <;> omega) | (simp only [cx_imin, cx_imax]; rw [hadd]; simp only [cx_imin, cx_imax]; unfold td_lo; split <;> (try split) <;> omega)
      · have hb33 : ¬ (¬ (td_a t k).toInt = (Int32.ofInt 99).toInt) := hb33
        refine ex_iload_n cg_97 (ix := 21) (pc' := 37) rfl rfl rfl ?_
        refine ex_bipush cg_97 (ix := 22) (pc' := 39) rfl rfl rfl ?_
        refine ex_icmp cg_97 (ix := 23) (t := 45) (pc' := 42) rfl rfl rfl (fun hb39 => ?_) (fun hb39 => ?_)
        · have hb39 : ¬ (td_b t k (16 - k)).toInt = (Int32.ofInt 99).toInt := hb39
          refine ex_bipush cg_97 (ix := 26) (pc' := 47) rfl rfl rfl ?_
          refine ex_iload_n cg_97 (ix := 27) (pc' := 48) rfl rfl rfl ?_
          refine ex_iload_n cg_97 (ix := 28) (pc' := 49) rfl rfl rfl ?_
          refine ex_min cg_97 (ix := 29) (pc' := 52) rfl rfl (by first | decide | omega) rfl rfl ?_
          refine ex_iconst cg_97 (ix := 30) (pc' := 53) rfl rfl ?_
          refine ex_isub cg_97 (ix := 31) (pc' := 54) rfl rfl ?_
          refine ex_max cg_97 (ix := 32) (pc' := 57) rfl rfl (by first | decide | omega) rfl rfl ?_
          refine ex_ireturn cg_97 (ix := 33) rfl ?_
          refine ⟨_, rfl, ?_, rfl⟩
          first | (unfold td_lo; split <;> (try split) <;> omega) | (simp only [cx_imin, cx_imax]; unfold td_lo; split <;> (try split) <;> omega) | (simp only [cx_imin, cx_imax]; rw [hsub]; simp only [cx_imin, cx_imax]; unfold td_lo; split <;> (try split) <;> omega) | (simp only [cx_imin, cx_imax]; rw [hadd]; simp only [cx_imin, cx_imax]; unfold td_lo; split <;> (try split) <;> omega)
        · have hb39 : ¬ (¬ (td_b t k (16 - k)).toInt = (Int32.ofInt 99).toInt) := hb39
          refine ex_bipush cg_97 (ix := 24) (pc' := 44) rfl rfl rfl ?_
          refine ex_ireturn cg_97 (ix := 25) rfl ?_
          refine ⟨_, rfl, ?_, rfl⟩
          first | (unfold td_lo; split <;> (try split) <;> omega) | (simp only [cx_imin, cx_imax]; unfold td_lo; split <;> (try split) <;> omega) | (simp only [cx_imin, cx_imax]; rw [hsub]; simp only [cx_imin, cx_imax]; unfold td_lo; split <;> (try split) <;> omega) | (simp only [cx_imin, cx_imax]; rw [hadd]; simp only [cx_imin, cx_imax]; unfold td_lo; split <;> (try split) <;> omega)
    · have hb21 : ¬ ((td_b t k (16 - k)).toInt = (Int32.ofInt 99).toInt) := hb21
      refine ex_iload_n cg_97 (ix := 14) (pc' := 25) rfl rfl rfl ?_
      refine ex_iload_n cg_97 (ix := 15) (pc' := 26) rfl rfl rfl ?_
      refine ex_min cg_97 (ix := 16) (pc' := 29) rfl rfl (by first | decide | omega) rfl rfl ?_
      refine ex_ireturn cg_97 (ix := 17) rfl ?_
      refine ⟨_, rfl, ?_, rfl⟩
      first | (unfold td_lo; split <;> (try split) <;> omega) | (simp only [cx_imin, cx_imax]; unfold td_lo; split <;> (try split) <;> omega) | (simp only [cx_imin, cx_imax]; rw [hsub]; simp only [cx_imin, cx_imax]; unfold td_lo; split <;> (try split) <;> omega) | (simp only [cx_imin, cx_imax]; rw [hadd]; simp only [cx_imin, cx_imax]; unfold td_lo; split <;> (try split) <;> omega)
theorem ct_gt {x : Int32} {k : Nat} {t s : Nat → Int32} (hx : x.toInt = (k : Int)) (hk : k < 16) (ht : ∀ i : Nat, i < 16 → tdU (t i).toInt) : cx_Ct 3 98 [.inr (.inl 2), .inl (.int x)] (h_td t s) (fun v h2 => ∃ z : Int32, v = some (.inl (.int z)) ∧ z.toInt = td_hi (td_a t k).toInt (td_b t k (16 - k)).toInt ∧ h2 = h_td t s) := by
  have kcm9 : (Int32.ofInt (-9)).toInt = -9 := by decide +kernel
  have kc3 : (Int32.ofInt 3).toInt = 3 := by decide +kernel
  have kc9 : (Int32.ofInt 9).toInt = 9 := by decide +kernel
  have kc99 : (Int32.ofInt 99).toInt = 99 := by decide +kernel
  have ha := td_aU k (fun i hi => ht i (by omega))
  have hb := td_bU (16 - k) k (fun i h1 h2 => ht i (by omega))
  unfold tdU at ha hb
  have hadd : ((if (td_b t k (16 - k)) < (td_a t k) then (td_b t k (16 - k)) else (td_a t k)) + (Int32.ofInt 3)).toInt = (if (td_b t k (16 - k)) < (td_a t k) then (td_b t k (16 - k)) else (td_a t k)).toInt + 3 := by rw [cx_addc (by rw [cx_imin]; omega) (by rw [cx_imin]; omega)]; omega
  refine cx_Ct.of cg_98 (nL := 4) rfl rfl rfl ?_
  show cx_T 3 98 [2, 3, 4] 0 ([some (.inr (.inl 2)), some (.inl (.int x)), none, none], [], h_td t s) _
  refine ex_aload_n cg_98 (ix := 0) (pc' := 1) rfl rfl rfl ?_
  refine ex_iload_n cg_98 (ix := 1) (pc' := 2) rfl rfl rfl ?_
  refine ex_callV cg_98 (ix := 2) (pc' := 5) (As := [.inl (.int x)]) (r := []) rfl rfl rfl (ct_ta (x := x) (k := k) (t := t) (s := s) hx hk) (by first | decide | omega) rfl rfl rfl ⟨rfl, rfl, rfl, trivial⟩ rfl rfl (fun v h2 hq => ?_)
  obtain ⟨rfl, rfl⟩ := hq
  show cx_T _ 98 _ 5 ([some (.inr (.inl 2)), some (.inl (.int x)), none, none], [.inl (.int (td_a t k))], [(2, .inl (8, [.inr (.inl 3), .inr (.inl 4), .inr (.inl 5), .inr (.inl 10)])), (3, .inr (.inl (0, 16, t))), (4, .inr (.inl (0, 16, s)))]) _
  refine ex_istore_n cg_98 (ix := 3) (pc' := 6) (L' := [some (.inr (.inl 2)), some (.inl (.int x)), some (.inl (.int (td_a t k))), none]) rfl rfl rfl rfl ?_
  refine ex_aload_n cg_98 (ix := 4) (pc' := 7) rfl rfl rfl ?_
  refine ex_iload_n cg_98 (ix := 5) (pc' := 8) rfl rfl rfl ?_
  refine ex_callV cg_98 (ix := 6) (pc' := 11) (As := [.inl (.int x)]) (r := []) rfl rfl rfl (ct_tb (x := x) (k := k) (t := t) (s := s) hx hk) (by first | decide | omega) rfl rfl rfl ⟨rfl, rfl, rfl, trivial⟩ rfl rfl (fun v h2 hq => ?_)
  obtain ⟨rfl, rfl⟩ := hq
  show cx_T _ 98 _ 11 ([some (.inr (.inl 2)), some (.inl (.int x)), some (.inl (.int (td_a t k))), none], [.inl (.int (td_b t k (16 - k)))], [(2, .inl (8, [.inr (.inl 3), .inr (.inl 4), .inr (.inl 5), .inr (.inl 10)])), (3, .inr (.inl (0, 16, t))), (4, .inr (.inl (0, 16, s)))]) _
  refine ex_istore_n cg_98 (ix := 7) (pc' := 12) (L' := [some (.inr (.inl 2)), some (.inl (.int x)), some (.inl (.int (td_a t k))), some (.inl (.int (td_b t k (16 - k))))]) rfl rfl rfl rfl ?_
  refine ex_iload_n cg_98 (ix := 8) (pc' := 13) rfl rfl rfl ?_
  refine ex_bipush cg_98 (ix := 9) (pc' := 15) rfl rfl rfl ?_
  refine ex_icmp cg_98 (ix := 10) (t := 30) (pc' := 18) rfl rfl rfl (fun hb15 => ?_) (fun hb15 => ?_)
  · have hb15 : (td_a t k).toInt = (Int32.ofInt 99).toInt := hb15
    refine ex_bipush cg_98 (ix := 18) (pc' := 32) rfl rfl rfl ?_
    refine ex_iload_n cg_98 (ix := 19) (pc' := 33) rfl rfl rfl ?_
    refine ex_iload_n cg_98 (ix := 20) (pc' := 34) rfl rfl rfl ?_
    refine ex_min cg_98 (ix := 21) (pc' := 37) rfl rfl (by first | decide | omega) rfl rfl ?_
    refine ex_iconst cg_98 (ix := 22) (pc' := 38) rfl rfl ?_
    refine ex_iadd cg_98 (ix := 23) (pc' := 39) rfl rfl ?_
    refine ex_min cg_98 (ix := 24) (pc' := 42) rfl rfl (by first | decide | omega) rfl rfl ?_
    refine ex_ireturn cg_98 (ix := 25) rfl ?_
    refine ⟨_, rfl, ?_, rfl⟩
    first | (unfold td_hi; split <;> (try split) <;> omega) | (simp only [cx_imin, cx_imax]; unfold td_hi; split <;> (try split) <;> omega) | (simp only [cx_imin, cx_imax]; rw [hsub]; simp only [cx_imin, cx_imax]; unfold td_hi; split <;> (try split) <;> omega) | (simp only [cx_imin, cx_imax]; rw [hadd]; simp only [cx_imin, cx_imax]; unfold td_hi; split <;> (try split) <;> omega)
  · have hb15 : ¬ ((td_a t k).toInt = (Int32.ofInt 99).toInt) := hb15
    refine ex_iload_n cg_98 (ix := 11) (pc' := 19) rfl rfl rfl ?_
    refine ex_bipush cg_98 (ix := 12) (pc' := 21) rfl rfl rfl ?_
    refine ex_icmp cg_98 (ix := 13) (t := 30) (pc' := 24) rfl rfl rfl (fun hb21 => ?_) (fun hb21 => ?_)
    · have hb21 : (td_b t k (16 - k)).toInt = (Int32.ofInt 99).toInt := hb21
      refine ex_bipush cg_98 (ix := 18) (pc' := 32) rfl rfl rfl ?_
      refine ex_iload_n cg_98 (ix := 19) (pc' := 33) rfl rfl rfl ?_
      refine ex_iload_n cg_98 (ix := 20) (pc' := 34) rfl rfl rfl ?_
      refine ex_min cg_98 (ix := 21) (pc' := 37) rfl rfl (by first | decide | omega) rfl rfl ?_
      refine ex_iconst cg_98 (ix := 22) (pc' := 38) rfl rfl ?_
      refine ex_iadd cg_98 (ix := 23) (pc' := 39) rfl rfl ?_
      refine ex_min cg_98 (ix := 24) (pc' := 42) rfl rfl (by first | decide | omega) rfl rfl ?_
      refine ex_ireturn cg_98 (ix := 25) rfl ?_
      refine ⟨_, rfl, ?_, rfl⟩
      first | (unfold td_hi; split <;> (try split) <;> omega) | (simp only [cx_imin, cx_imax]; unfold td_hi; split <;> (try split) <;> omega) | (simp only [cx_imin, cx_imax]; rw [hsub]; simp only [cx_imin, cx_imax]; unfold td_hi; split <;> (try split) <;> omega) | (simp only [cx_imin, cx_imax]; rw [hadd]; simp only [cx_imin, cx_imax]; unfold td_hi; split <;> (try split) <;> omega)
    · have hb21 : ¬ ((td_b t k (16 - k)).toInt = (Int32.ofInt 99).toInt) := hb21
      refine ex_iload_n cg_98 (ix := 14) (pc' := 25) rfl rfl rfl ?_
      refine ex_iload_n cg_98 (ix := 15) (pc' := 26) rfl rfl rfl ?_
      refine ex_max cg_98 (ix := 16) (pc' := 29) rfl rfl (by first | decide | omega) rfl rfl ?_
      refine ex_ireturn cg_98 (ix := 17) rfl ?_
      refine ⟨_, rfl, ?_, rfl⟩
      first | (unfold td_hi; split <;> (try split) <;> omega) | (simp only [cx_imin, cx_imax]; unfold td_hi; split <;> (try split) <;> omega) | (simp only [cx_imin, cx_imax]; rw [hsub]; simp only [cx_imin, cx_imax]; unfold td_hi; split <;> (try split) <;> omega) | (simp only [cx_imin, cx_imax]; rw [hadd]; simp only [cx_imin, cx_imax]; unfold td_hi; split <;> (try split) <;> omega)
theorem ct_pt {x y : Int32} {t s : Nat → Int32} (hx0 : 0 ≤ x.toInt) (hx1 : x.toInt < 16) : cx_Ct 2 91 [.inr (.inl 2), .inl (.int x), .inl (.int y)] (h_td t s) (fun v h2 => v = some (.inl (.int (t x.toNatClampNeg))) ∧ h2 = h_td (upd t x.toNatClampNeg y) s) := by
  refine cx_Ct.of cg_91 (nL := 4) rfl rfl rfl ?_
  show cx_T 2 91 [2, 3, 4] 0 ([some (.inr (.inl 2)), some (.inl (.int x)), some (.inl (.int y)), none], [], h_td t s) _
  refine ex_aload_n cg_91 (ix := 0) (pc' := 1) rfl rfl rfl ?_
  refine ex_getfield cg_91 (ix := 1) (pc' := 4) rfl rfl rfl rfl rfl ?_
  refine ex_iload_n cg_91 (ix := 2) (pc' := 5) rfl rfl rfl ?_
  refine ex_iaload cg_91 (ix := 3) (pc' := 6) rfl rfl (by omega) (by omega) rfl ?_
  refine ex_istore_n cg_91 (ix := 4) (pc' := 7) (L' := [some (.inr (.inl 2)), some (.inl (.int x)), some (.inl (.int y)), some (.inl (.int (t x.toNatClampNeg)))]) rfl rfl rfl rfl ?_
  refine ex_aload_n cg_91 (ix := 5) (pc' := 8) rfl rfl rfl ?_
  refine ex_getfield cg_91 (ix := 6) (pc' := 11) rfl rfl rfl rfl rfl ?_
  refine ex_iload_n cg_91 (ix := 7) (pc' := 12) rfl rfl rfl ?_
  refine ex_iload_n cg_91 (ix := 8) (pc' := 13) rfl rfl rfl ?_
  refine ex_iastore cg_91 (ix := 9) (pc' := 14) (h' := [(2, .inl (8, [.inr (.inl 3), .inr (.inl 4), .inr (.inl 5), .inr (.inl 10)])), (3, .inr (.inl (0, 16, upd t x.toNatClampNeg y))), (4, .inr (.inl (0, 16, s)))]) rfl rfl (by omega) (by omega) rfl rfl ?_
  refine ex_iload_n cg_91 (ix := 10) (pc' := 15) rfl rfl rfl ?_
  refine ex_ireturn cg_91 (ix := 11) rfl ?_
  exact ⟨rfl, rfl⟩
theorem ct_ps {x y : Int32} {t s : Nat → Int32} (hx0 : 0 ≤ x.toInt) (hx1 : x.toInt < 16) : cx_Ct 2 92 [.inr (.inl 2), .inl (.int x), .inl (.int y)] (h_td t s) (fun v h2 => v = some (.inl (.int (s x.toNatClampNeg))) ∧ h2 = h_td t (upd s x.toNatClampNeg y)) := by
  refine cx_Ct.of cg_92 (nL := 4) rfl rfl rfl ?_
  show cx_T 2 92 [2, 3, 4] 0 ([some (.inr (.inl 2)), some (.inl (.int x)), some (.inl (.int y)), none], [], h_td t s) _
  refine ex_aload_n cg_92 (ix := 0) (pc' := 1) rfl rfl rfl ?_
  refine ex_getfield cg_92 (ix := 1) (pc' := 4) rfl rfl rfl rfl rfl ?_
  refine ex_iload_n cg_92 (ix := 2) (pc' := 5) rfl rfl rfl ?_
  refine ex_iaload cg_92 (ix := 3) (pc' := 6) rfl rfl (by omega) (by omega) rfl ?_
  refine ex_istore_n cg_92 (ix := 4) (pc' := 7) (L' := [some (.inr (.inl 2)), some (.inl (.int x)), some (.inl (.int y)), some (.inl (.int (s x.toNatClampNeg)))]) rfl rfl rfl rfl ?_
  refine ex_aload_n cg_92 (ix := 5) (pc' := 8) rfl rfl rfl ?_
  refine ex_getfield cg_92 (ix := 6) (pc' := 11) rfl rfl rfl rfl rfl ?_
  refine ex_iload_n cg_92 (ix := 7) (pc' := 12) rfl rfl rfl ?_
  refine ex_iload_n cg_92 (ix := 8) (pc' := 13) rfl rfl rfl ?_
  refine ex_iastore cg_92 (ix := 9) (pc' := 14) (h' := [(2, .inl (8, [.inr (.inl 3), .inr (.inl 4), .inr (.inl 5), .inr (.inl 10)])), (3, .inr (.inl (0, 16, t))), (4, .inr (.inl (0, 16, upd s x.toNatClampNeg y)))]) rfl rfl (by omega) (by omega) rfl rfl ?_
  refine ex_iload_n cg_92 (ix := 10) (pc' := 15) rfl rfl rfl ?_
  refine ex_ireturn cg_92 (ix := 11) rfl ?_
  exact ⟨rfl, rfl⟩
end
