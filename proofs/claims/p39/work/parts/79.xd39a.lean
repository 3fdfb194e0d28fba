noncomputable section
theorem cg_25 : cx_G 25 tb_25 TbX2 (some .int) := cx_G.of gok_25
theorem cg_165 : cx_G 165 tb_165 TbX10 (some .int) := cx_G.of gok_165
theorem cg_258 : cx_G 258 tb_258 TbX11 (some .int) := cx_G.of gok_258
/-- the heads of the first k -/
def sm_x (f : Nat → Int32) : Nat → Int
  | 0 => 0
  | k + 1 => sm_x f k + (if 0 < (f k).toInt then (f k).toInt else 0)
theorem sm_xb {f : Nat → Int32} : ∀ k : Nat, (∀ c : Nat, c < k → (f c).toInt ≤ 30) → 0 ≤ sm_x f k ∧ sm_x f k ≤ 30 * k
  | 0, _ => ⟨Int.le_refl _, Int.le_refl _⟩
  | k + 1, h => by
    have h1 := sm_xb (f := f) k (fun c hc => h c (by omega))
    have h2 := h k (by omega)
    rw [sm_x]
    split <;> omega
def sm_m (g : Nat → Int32) (b : Nat) : Nat → Int
  | 0 => 0
  | k + 1 => sm_m g b k + (if (g (24 * b + k)).toInt ≤ 0 then 0 else (g (24 * b + k)).toInt - 1)
theorem sm_mb {g : Nat → Int32} {b : Nat} : ∀ k : Nat, (∀ c : Nat, c < k → (g (24 * b + c)).toInt ≤ 31) → 0 ≤ sm_m g b k ∧ sm_m g b k ≤ 30 * k
  | 0, _ => ⟨Int.le_refl _, Int.le_refl _⟩
  | k + 1, h => by
    have h1 := sm_mb (g := g) (b := b) k (fun c hc => h c (by omega))
    have h2 := h k (by omega)
    rw [sm_m]
    split <;> omega
theorem sx_loop {d : Nat} {b : Int32} {k1 : Nat} {f : Nat → Int32} {F : Nat → Nat → Int32} {P : Option cx_V → cx_H → Prop} (hd2 : 2 ≤ d) (hf : ∀ c : Nat, c < 24 → (f c).toInt ≤ 30) (hb0 : 0 ≤ b.toInt) (hk1 : [115, 116, 117, 118][b.toNatClampNeg]? = some k1) (hk2 : cx_hg (h_hc F) k1 = some (.inr (.inl (0, 24, f)))) (hP : ∀ n : Int32, n.toInt = sm_x f 24 → P (some (.inl (.int n))) (h_hc F)) :
    ∀ (m k : Nat), k + m = 24 → ∀ n i : Int32, n.toInt = sm_x f k → i.toInt = k → cx_T d 25 [113, 114, 115, 116, 117, 118] 4 ([some (.inr (.inl 113)), some (.inl (.int b)), some (.inl (.int n)), some (.inl (.int i))], [], h_hc F) P := by
  have kc0 : (Int32.ofInt 0).toInt = 0 := by decide +kernel
  have kc24 : (Int32.ofInt 24).toInt = 24 := by decide +kernel
  have kc1 : (Int32.ofInt 1).toInt = 1 := by decide +kernel
  intro m
  induction m with
  | zero =>
    intro k hk n i hn hi
    have ek : k = 24 := by omega
    subst ek
    refine ex_iload_n cg_25 (ix := 4) (pc' := 5) rfl rfl rfl ?_
    refine ex_bipush cg_25 (ix := 5) (pc' := 7) rfl rfl rfl ?_
    refine ex_icmp cg_25 (ix := 6) (t := 31) (pc' := 10) rfl rfl rfl (fun hb7 => ?_) (fun hb7 => ?_)
    · have hb7 : (Int32.ofInt 24).toInt ≤ i.toInt := hb7
      refine ex_iload_n cg_25 (ix := 20) (pc' := 32) rfl rfl rfl ?_
      refine ex_ireturn cg_25 (ix := 21) rfl ?_
      exact hP _ hn
    · have hb7 : ¬ ((Int32.ofInt 24).toInt ≤ i.toInt) := hb7
      exfalso; first | omega | exact absurd hb7 (by decide +kernel)
  | succ m ih =>
    intro k hk n i hn hi
    have hik : i.toNatClampNeg = k := cx_clamp hi
    have hmx : ((if (Int32.ofInt 0) < (f i.toNatClampNeg) then (f i.toNatClampNeg) else (Int32.ofInt 0)) : Int32).toInt = (if 0 < (f k).toInt then (f k).toInt else 0) := by
      rw [hik]
      by_cases q : Int32.ofInt 0 < f k
      · rw [if_pos q, if_pos (by rw [Int32.lt_iff_toInt_lt, kc0] at q; exact q)]
      · rw [if_neg q, if_neg (by rw [Int32.lt_iff_toInt_lt, kc0] at q; exact q), kc0]
    refine ex_iload_n cg_25 (ix := 4) (pc' := 5) rfl rfl rfl ?_
    refine ex_bipush cg_25 (ix := 5) (pc' := 7) rfl rfl rfl ?_
    refine ex_icmp cg_25 (ix := 6) (t := 31) (pc' := 10) rfl rfl rfl (fun hb7 => ?_) (fun hb7 => ?_)
    · have hb7 : (Int32.ofInt 24).toInt ≤ i.toInt := hb7
      exfalso; first | omega | exact absurd hb7 (by decide +kernel)
    · have hb7 : ¬ ((Int32.ofInt 24).toInt ≤ i.toInt) := hb7
      refine ex_iload_n cg_25 (ix := 7) (pc' := 11) rfl rfl rfl ?_
      refine ex_iconst cg_25 (ix := 8) (pc' := 12) rfl rfl ?_
      refine ex_aload_n cg_25 (ix := 9) (pc' := 13) rfl rfl rfl ?_
      refine ex_getfield cg_25 (ix := 10) (pc' := 16) rfl rfl rfl rfl rfl ?_
      refine ex_iload_n cg_25 (ix := 11) (pc' := 17) rfl rfl rfl ?_
      refine ex_aaload cg_25 (ix := 12) (pc' := 18) (k1 := k1) rfl rfl (by omega) hk1 rfl ?_
      refine ex_iload_n cg_25 (ix := 13) (pc' := 19) rfl rfl rfl ?_
      refine ex_iaload cg_25 (ix := 14) (pc' := 20) rfl hk2 (by omega) (by omega) rfl ?_
      refine ex_max cg_25 (ix := 15) (pc' := 23) rfl rfl hd2 rfl rfl ?_
      refine ex_iadd cg_25 (ix := 16) (pc' := 24) rfl rfl ?_
      refine ex_istore_n cg_25 (ix := 17) (pc' := 25) (L' := [some (.inr (.inl 113)), some (.inl (.int b)), some (.inl (.int (n + (if (Int32.ofInt 0) < (f i.toNatClampNeg) then (f i.toNatClampNeg) else (Int32.ofInt 0))))), some (.inl (.int i))]) rfl rfl rfl rfl ?_
      refine ex_iinc cg_25 (ix := 18) (pc' := 28) (L' := [some (.inr (.inl 113)), some (.inl (.int b)), some (.inl (.int (n + (if (Int32.ofInt 0) < (f i.toNatClampNeg) then (f i.toNatClampNeg) else (Int32.ofInt 0))))), some (.inl (.int (i + Int32.ofInt 1)))]) rfl rfl rfl rfl rfl ?_
      refine ex_goto cg_25 (ix := 19) (pc' := 4) rfl rfl ?_
      have e1 : (n + (if (Int32.ofInt 0) < (f i.toNatClampNeg) then (f i.toNatClampNeg) else (Int32.ofInt 0))).toInt = sm_x f (k + 1) := by
        have hbd := sm_xb (f := f) k (fun c hc => hf c (by omega))
        have hb2 := hf k (by omega)
        rw [cx_addc (by rw [hmx]; split <;> omega) (by rw [hmx]; split <;> omega), hmx, sm_x, hn]
      exact ih (k + 1) (by omega) _ _ e1 (by rw [cx_addc (by omega) (by omega)]; omega)
theorem ct_sum {b : Int32} {k1 : Nat} {f : Nat → Int32} {F : Nat → Nat → Int32} (hf : ∀ c : Nat, c < 24 → (f c).toInt ≤ 30) (hb0 : 0 ≤ b.toInt) (hk1 : [115, 116, 117, 118][b.toNatClampNeg]? = some k1) (hk2 : cx_hg (h_hc F) k1 = some (.inr (.inl (0, 24, f)))) : cx_Ct 2 25 [.inr (.inl 113), .inl (.int b)] (h_hc F) (fun v h2 => ∃ n : Int32, v = some (.inl (.int n)) ∧ n.toInt = sm_x f 24 ∧ h2 = h_hc F) := by
  refine cx_Ct.of cg_25 (nL := 4) rfl rfl rfl ?_
  show cx_T 2 25 [113, 114, 115, 116, 117, 118] 0 ([some (.inr (.inl 113)), some (.inl (.int b)), none, none], [], h_hc F) _
  refine ex_iconst cg_25 (ix := 0) (pc' := 1) rfl rfl ?_
  refine ex_istore_n cg_25 (ix := 1) (pc' := 2) (L' := [some (.inr (.inl 113)), some (.inl (.int b)), some (.inl (.int (Int32.ofInt 0))), none]) rfl rfl rfl rfl ?_
  refine ex_iconst cg_25 (ix := 2) (pc' := 3) rfl rfl ?_
  refine ex_istore_n cg_25 (ix := 3) (pc' := 4) (L' := [some (.inr (.inl 113)), some (.inl (.int b)), some (.inl (.int (Int32.ofInt 0))), some (.inl (.int (Int32.ofInt 0)))]) rfl rfl rfl rfl ?_
  exact sx_loop (by decide) hf hb0 hk1 hk2 (fun n hn => ⟨n, rfl, hn, rfl⟩) 24 0 rfl _ _ (by show (Int32.ofInt 0).toInt = 0; decide +kernel) (by decide +kernel)
/-- the answer of counted -/
def cd_ans (b w : Int32) (cn sm : Int) (z : Int32) : Prop :=
  (¬ (0 ≤ b.toInt ∧ b.toInt < 4) ∧ z.toInt = -1) ∨
  ((0 ≤ b.toInt ∧ b.toInt < 4) ∧ ¬ (0 ≤ w.toInt ∧ w.toInt ≤ 2) ∧ z.toInt = -2) ∨
  ((0 ≤ b.toInt ∧ b.toInt < 4) ∧ (0 ≤ w.toInt ∧ w.toInt ≤ 2) ∧ cn = 0 ∧ z.toInt = -5) ∨
  ((0 ≤ b.toInt ∧ b.toInt < 4) ∧ w.toInt = 0 ∧ ¬ cn = 0 ∧ ∃ x y : Int32, x.toInt = 24 * sm ∧ y.toInt = cn ∧ z = x / y) ∨
  ((0 ≤ b.toInt ∧ b.toInt < 4) ∧ w.toInt = 1 ∧ ¬ cn = 0 ∧ z.toInt = sm) ∨
  ((0 ≤ b.toInt ∧ b.toInt < 4) ∧ w.toInt = 2 ∧ ¬ cn = 0 ∧ z.toInt = sm + 30 * (24 - cn))
theorem cd_same {b w z z2 : Int32} {cn sm : Int} (h1 : cd_ans b w cn sm z) (h2 : cd_ans b w cn sm z2) : z = z2 := by
  unfold cd_ans at h1 h2
  rcases h1 with h1 | h1 | h1 | h1 | h1 | h1 <;> rcases h2 with h2 | h2 | h2 | h2 | h2 | h2 <;> first | (exact cx_i32 (by omega)) | (exfalso; omega) | skip
  obtain ⟨-, -, -, x, y, e1, e2, e3⟩ := h1
  obtain ⟨-, -, -, x2, y2, g1, g2, g3⟩ := h2
  rw [e3, g3, cx_i32 (show x.toInt = x2.toInt by omega), cx_i32 (show y.toInt = y2.toInt by omega)]
theorem ct_cd0 {dy b : Int32} {k1 : Nat} {r f : Nat → Int32} {F : Nat → Nat → Int32} (hf : ∀ c : Nat, c < 24 → (f c).toInt ≤ 30) (hb0 : 0 ≤ b.toInt) (hk1 : [115, 116, 117, 118][b.toNatClampNeg]? = some k1) (hk2 : cx_hg (h_hc F) k1 = some (.inr (.inl (0, 24, f)))) (hb1 : b.toInt < 4) : cx_Ct 5 165 [.inr (.inl 0), .inl (.int b), .inl (.int (Int32.ofInt 0))] (h_xd dy r F) (fun v h2 => ∃ (z : Int32) (r2 : Nat → Int32), v = some (.inl (.int z)) ∧ h2 = h_xd dy r2 F ∧ cd_ans b (Int32.ofInt 0) (cn_x f 24) (sm_x f 24) z) := by
  have kcm5 : (Int32.ofInt (-5)).toInt = -5 := by decide +kernel
  have kcm2 : (Int32.ofInt (-2)).toInt = -2 := by decide +kernel
  have kcm1 : (Int32.ofInt (-1)).toInt = -1 := by decide +kernel
  have kc0 : (Int32.ofInt 0).toInt = 0 := by decide +kernel
  have kc1 : (Int32.ofInt 1).toInt = 1 := by decide +kernel
  have kc2 : (Int32.ofInt 2).toInt = 2 := by decide +kernel
  have kc24 : (Int32.ofInt 24).toInt = 24 := by decide +kernel
  have kc30 : (Int32.ofInt 30).toInt = 30 := by decide +kernel
  refine cx_Ct.of cg_165 (nL := 5) rfl rfl rfl ?_
  show cx_T 5 165 [0, 1, 113, 114, 115, 116, 117, 118] 0 ([some (.inr (.inl 0)), some (.inl (.int b)), some (.inl (.int (Int32.ofInt 0))), none, none], [], h_xd dy r F) _
  refine ex_iload_n cg_165 (ix := 0) (pc' := 1) rfl rfl rfl ?_
  refine ex_callS cg_165 (ix := 1) (pc' := 4) (As := [.inl (.int b)]) (r := []) rfl rfl rfl (ct_xbeach (x := b)) (by decide) rfl rfl trivial rfl rfl (fun v h2 hq => ?_)
  obtain ⟨z, rfl, rfl, hz1⟩ := hq
  rcases hz1 with ⟨hz1, rfl⟩ | ⟨hz1, rfl⟩
  · show cx_T _ 165 _ 4 ([some (.inr (.inl 0)), some (.inl (.int b)), some (.inl (.int (Int32.ofInt 0))), none, none], [.inl (.int (Int32.ofInt 1))], [(0, .inl (10, [.inr (.inl 1), .inr (.inl 2), .inr (.inl 15), .inr (.inl 21), .inr (.inl 43), .inr (.inl 68), .inr (.inl 77), .inr (.inl 87), .inr (.inl 101), .inr (.inl 107), .inr (.inl 113), .inl (.int dy)])), (1, .inr (.inl (0, 7, r))), (113, .inl (2, [.inr (.inl 114)])), (114, .inr (.inr (.inr (3, [115, 116, 117, 118])))), (115, .inr (.inl (0, 24, F 0))), (116, .inr (.inl (0, 24, F 1))), (117, .inr (.inl (0, 24, F 2))), (118, .inr (.inl (0, 24, F 3)))]) _
    refine ex_if cg_165 (ix := 2) (t := 13) (pc' := 7) rfl rfl rfl (fun hb4 => ?_) (fun hb4 => ?_)
    · have hb4 : ¬ (Int32.ofInt 1).toInt = 0 := hb4
      refine ex_iload_n cg_165 (ix := 7) (pc' := 14) rfl rfl rfl ?_
      refine ex_if cg_165 (ix := 8) (t := 22) (pc' := 17) rfl rfl rfl (fun hb14 => ?_) (fun hb14 => ?_)
      · have hb14 : (Int32.ofInt 0).toInt < 0 := hb14
        exfalso; first | omega | exact absurd hb14 (by decide +kernel)
      · have hb14 : ¬ ((Int32.ofInt 0).toInt < 0) := hb14
        refine ex_iload_n cg_165 (ix := 9) (pc' := 18) rfl rfl rfl ?_
        refine ex_iconst cg_165 (ix := 10) (pc' := 19) rfl rfl ?_
        refine ex_icmp cg_165 (ix := 11) (t := 29) (pc' := 22) rfl rfl rfl (fun hb19 => ?_) (fun hb19 => ?_)
        · have hb19 : (Int32.ofInt 0).toInt ≤ (Int32.ofInt 2).toInt := hb19
          refine ex_aload_n cg_165 (ix := 16) (pc' := 30) rfl rfl rfl ?_
          refine ex_getfield cg_165 (ix := 17) (pc' := 33) rfl rfl rfl rfl rfl ?_
          refine ex_iload_n cg_165 (ix := 18) (pc' := 34) rfl rfl rfl ?_
          refine ex_callV cg_165 (ix := 19) (pc' := 37) (As := [.inl (.int b)]) (r := []) rfl rfl rfl (ct_24 (b := b) (k1 := k1) (f := f) (F := F) hb0 hk1 hk2) (by decide) rfl rfl rfl ⟨rfl, rfl, rfl, rfl, rfl, rfl, trivial⟩ rfl rfl (fun v h2 hq => ?_)
          obtain ⟨z, rfl, hz5, rfl⟩ := hq
          show cx_T _ 165 _ 37 ([some (.inr (.inl 0)), some (.inl (.int b)), some (.inl (.int (Int32.ofInt 0))), none, none], [.inl (.int z)], [(0, .inl (10, [.inr (.inl 1), .inr (.inl 2), .inr (.inl 15), .inr (.inl 21), .inr (.inl 43), .inr (.inl 68), .inr (.inl 77), .inr (.inl 87), .inr (.inl 101), .inr (.inl 107), .inr (.inl 113), .inl (.int dy)])), (1, .inr (.inl (0, 7, r))), (113, .inl (2, [.inr (.inl 114)])), (114, .inr (.inr (.inr (3, [115, 116, 117, 118])))), (115, .inr (.inl (0, 24, F 0))), (116, .inr (.inl (0, 24, F 1))), (117, .inr (.inl (0, 24, F 2))), (118, .inr (.inl (0, 24, F 3)))]) _
          refine ex_istore_n cg_165 (ix := 20) (pc' := 38) (L' := [some (.inr (.inl 0)), some (.inl (.int b)), some (.inl (.int (Int32.ofInt 0))), some (.inl (.int z)), none]) rfl rfl rfl rfl ?_
          refine ex_iload_n cg_165 (ix := 21) (pc' := 39) rfl rfl rfl ?_
          refine ex_if cg_165 (ix := 22) (t := 49) (pc' := 42) rfl rfl rfl (fun hb39 => ?_) (fun hb39 => ?_)
          · have hb39 : 0 < z.toInt := hb39
            refine ex_aload_n cg_165 (ix := 27) (pc' := 50) rfl rfl rfl ?_
            refine ex_getfield cg_165 (ix := 28) (pc' := 53) rfl rfl rfl rfl rfl ?_
            refine ex_iload_n cg_165 (ix := 29) (pc' := 54) rfl rfl rfl ?_
            refine ex_callV cg_165 (ix := 30) (pc' := 57) (As := [.inl (.int b)]) (r := []) rfl rfl rfl (ct_sum (b := b) (k1 := k1) (f := f) (F := F) hf hb0 hk1 hk2) (by decide) rfl rfl rfl ⟨rfl, rfl, rfl, rfl, rfl, rfl, trivial⟩ rfl rfl (fun v h2 hq => ?_)
            obtain ⟨y, rfl, hz6, rfl⟩ := hq
            show cx_T _ 165 _ 57 ([some (.inr (.inl 0)), some (.inl (.int b)), some (.inl (.int (Int32.ofInt 0))), some (.inl (.int z)), none], [.inl (.int y)], [(0, .inl (10, [.inr (.inl 1), .inr (.inl 2), .inr (.inl 15), .inr (.inl 21), .inr (.inl 43), .inr (.inl 68), .inr (.inl 77), .inr (.inl 87), .inr (.inl 101), .inr (.inl 107), .inr (.inl 113), .inl (.int dy)])), (1, .inr (.inl (0, 7, r))), (113, .inl (2, [.inr (.inl 114)])), (114, .inr (.inr (.inr (3, [115, 116, 117, 118])))), (115, .inr (.inl (0, 24, F 0))), (116, .inr (.inl (0, 24, F 1))), (117, .inr (.inl (0, 24, F 2))), (118, .inr (.inl (0, 24, F 3)))]) _
            refine ex_istore cg_165 (ix := 31) (pc' := 59) (L' := [some (.inr (.inl 0)), some (.inl (.int b)), some (.inl (.int (Int32.ofInt 0))), some (.inl (.int z)), some (.inl (.int y))]) rfl rfl rfl rfl ?_
            refine ex_iload_n cg_165 (ix := 32) (pc' := 60) rfl rfl rfl ?_
            refine ex_lookup cg_165 (ix := 33) (off := 28) (t := 88) rfl (by decide) (by decide +kernel) rfl ?_
            refine ex_bipush cg_165 (ix := 34) (pc' := 90) rfl rfl rfl ?_
            refine ex_iload cg_165 (ix := 35) (pc' := 92) rfl rfl rfl ?_
            refine ex_imul cg_165 (ix := 36) (pc' := 93) rfl rfl ?_
            refine ex_iload_n cg_165 (ix := 37) (pc' := 94) rfl rfl rfl ?_
            refine ex_idiv cg_165 (ix := 38) (pc' := 95) rfl (by intro q; rw [q] at hb39; exact absurd hb39 (by decide)) rfl ?_
            refine ex_ireturn cg_165 (ix := 39) rfl ?_
            have hsb := sm_xb (f := f) 24 hf; have hcb := cn_xb (f := f) 24
            exact ⟨_, r, rfl, rfl, Or.inr (Or.inr (Or.inr (Or.inl ⟨by omega, by decide +kernel, by omega, _, _, by first | (rw [cx_mulk (n := 24) (by decide +kernel) (by omega) (by omega)]; omega) | (rw [cx_mulk2 (n := 24) (by decide +kernel) (by omega) (by omega)]; omega) | (rw [cx_mulk (n := 100) (by decide +kernel) (by omega) (by omega)]; omega) | (rw [cx_mulk2 (n := 100) (by decide +kernel) (by omega) (by omega)]; omega), hz5, rfl⟩)))⟩
          · have hb39 : ¬ (0 < z.toInt) := hb39
            refine ex_aload_n cg_165 (ix := 23) (pc' := 43) rfl rfl rfl ?_
            refine ex_bipush cg_165 (ix := 24) (pc' := 45) rfl rfl rfl ?_
            refine ex_callV cg_165 (ix := 25) (pc' := 48) (As := [.inl (.int (Int32.ofInt (-5)))]) (r := []) rfl rfl rfl (ct_xref (dy := dy) (x := Int32.ofInt (-5)) (r := r) (by decide +kernel) (by decide +kernel)) (by decide) rfl rfl rfl ⟨rfl, rfl, trivial⟩ rfl rfl (fun v h2 hq => ?_)
            obtain ⟨rfl, r2, rfl⟩ := hq
            show cx_T _ 165 _ 48 ([some (.inr (.inl 0)), some (.inl (.int b)), some (.inl (.int (Int32.ofInt 0))), some (.inl (.int z)), none], [.inl (.int (Int32.ofInt (-5)))], [(0, .inl (10, [.inr (.inl 1), .inr (.inl 2), .inr (.inl 15), .inr (.inl 21), .inr (.inl 43), .inr (.inl 68), .inr (.inl 77), .inr (.inl 87), .inr (.inl 101), .inr (.inl 107), .inr (.inl 113), .inl (.int dy)])), (1, .inr (.inl (0, 7, r2))), (113, .inl (2, [.inr (.inl 114)])), (114, .inr (.inr (.inr (3, [115, 116, 117, 118])))), (115, .inr (.inl (0, 24, F 0))), (116, .inr (.inl (0, 24, F 1))), (117, .inr (.inl (0, 24, F 2))), (118, .inr (.inl (0, 24, F 3)))]) _
            refine ex_ireturn cg_165 (ix := 26) rfl ?_
            have hsb := sm_xb (f := f) 24 hf; have hcb := cn_xb (f := f) 24
            exact ⟨_, _, rfl, rfl, Or.inr (Or.inr (Or.inl ⟨by omega, by omega, by omega, by decide +kernel⟩))⟩
        · have hb19 : ¬ ((Int32.ofInt 0).toInt ≤ (Int32.ofInt 2).toInt) := hb19
          exfalso; first | omega | exact absurd hb19 (by decide +kernel)
    · have hb4 : ¬ (¬ (Int32.ofInt 1).toInt = 0) := hb4
      exfalso; first | omega | exact absurd hb4 (by decide +kernel)
  · show cx_T _ 165 _ 4 ([some (.inr (.inl 0)), some (.inl (.int b)), some (.inl (.int (Int32.ofInt 0))), none, none], [.inl (.int (Int32.ofInt 0))], [(0, .inl (10, [.inr (.inl 1), .inr (.inl 2), .inr (.inl 15), .inr (.inl 21), .inr (.inl 43), .inr (.inl 68), .inr (.inl 77), .inr (.inl 87), .inr (.inl 101), .inr (.inl 107), .inr (.inl 113), .inl (.int dy)])), (1, .inr (.inl (0, 7, r))), (113, .inl (2, [.inr (.inl 114)])), (114, .inr (.inr (.inr (3, [115, 116, 117, 118])))), (115, .inr (.inl (0, 24, F 0))), (116, .inr (.inl (0, 24, F 1))), (117, .inr (.inl (0, 24, F 2))), (118, .inr (.inl (0, 24, F 3)))]) _
    refine ex_if cg_165 (ix := 2) (t := 13) (pc' := 7) rfl rfl rfl (fun hb4 => ?_) (fun hb4 => ?_)
    · have hb4 : ¬ (Int32.ofInt 0).toInt = 0 := hb4
      exfalso; first | omega | exact absurd hb4 (by decide +kernel)
    · have hb4 : ¬ (¬ (Int32.ofInt 0).toInt = 0) := hb4
      refine ex_aload_n cg_165 (ix := 3) (pc' := 8) rfl rfl rfl ?_
      refine ex_iconst cg_165 (ix := 4) (pc' := 9) rfl rfl ?_
      refine ex_callV cg_165 (ix := 5) (pc' := 12) (As := [.inl (.int (Int32.ofInt (-1)))]) (r := []) rfl rfl rfl (ct_xref (dy := dy) (x := Int32.ofInt (-1)) (r := r) (by decide +kernel) (by decide +kernel)) (by decide) rfl rfl rfl ⟨rfl, rfl, trivial⟩ rfl rfl (fun v h2 hq => ?_)
      obtain ⟨rfl, r2, rfl⟩ := hq
      show cx_T _ 165 _ 12 ([some (.inr (.inl 0)), some (.inl (.int b)), some (.inl (.int (Int32.ofInt 0))), none, none], [.inl (.int (Int32.ofInt (-1)))], [(0, .inl (10, [.inr (.inl 1), .inr (.inl 2), .inr (.inl 15), .inr (.inl 21), .inr (.inl 43), .inr (.inl 68), .inr (.inl 77), .inr (.inl 87), .inr (.inl 101), .inr (.inl 107), .inr (.inl 113), .inl (.int dy)])), (1, .inr (.inl (0, 7, r2))), (113, .inl (2, [.inr (.inl 114)])), (114, .inr (.inr (.inr (3, [115, 116, 117, 118])))), (115, .inr (.inl (0, 24, F 0))), (116, .inr (.inl (0, 24, F 1))), (117, .inr (.inl (0, 24, F 2))), (118, .inr (.inl (0, 24, F 3)))]) _
      refine ex_ireturn cg_165 (ix := 6) rfl ?_
      exact ⟨_, _, rfl, rfl, Or.inl ⟨by omega, by decide +kernel⟩⟩
theorem ct_cd1 {dy b : Int32} {k1 : Nat} {r f : Nat → Int32} {F : Nat → Nat → Int32} (hf : ∀ c : Nat, c < 24 → (f c).toInt ≤ 30) (hb0 : 0 ≤ b.toInt) (hk1 : [115, 116, 117, 118][b.toNatClampNeg]? = some k1) (hk2 : cx_hg (h_hc F) k1 = some (.inr (.inl (0, 24, f)))) (hb1 : b.toInt < 4) : cx_Ct 5 165 [.inr (.inl 0), .inl (.int b), .inl (.int (Int32.ofInt 1))] (h_xd dy r F) (fun v h2 => ∃ (z : Int32) (r2 : Nat → Int32), v = some (.inl (.int z)) ∧ h2 = h_xd dy r2 F ∧ cd_ans b (Int32.ofInt 1) (cn_x f 24) (sm_x f 24) z) := by
  have kcm5 : (Int32.ofInt (-5)).toInt = -5 := by decide +kernel
  have kcm2 : (Int32.ofInt (-2)).toInt = -2 := by decide +kernel
  have kcm1 : (Int32.ofInt (-1)).toInt = -1 := by decide +kernel
  have kc0 : (Int32.ofInt 0).toInt = 0 := by decide +kernel
  have kc1 : (Int32.ofInt 1).toInt = 1 := by decide +kernel
  have kc2 : (Int32.ofInt 2).toInt = 2 := by decide +kernel
  have kc24 : (Int32.ofInt 24).toInt = 24 := by decide +kernel
  have kc30 : (Int32.ofInt 30).toInt = 30 := by decide +kernel
  refine cx_Ct.of cg_165 (nL := 5) rfl rfl rfl ?_
  show cx_T 5 165 [0, 1, 113, 114, 115, 116, 117, 118] 0 ([some (.inr (.inl 0)), some (.inl (.int b)), some (.inl (.int (Int32.ofInt 1))), none, none], [], h_xd dy r F) _
  refine ex_iload_n cg_165 (ix := 0) (pc' := 1) rfl rfl rfl ?_
  refine ex_callS cg_165 (ix := 1) (pc' := 4) (As := [.inl (.int b)]) (r := []) rfl rfl rfl (ct_xbeach (x := b)) (by decide) rfl rfl trivial rfl rfl (fun v h2 hq => ?_)
  obtain ⟨z, rfl, rfl, hz1⟩ := hq
  rcases hz1 with ⟨hz1, rfl⟩ | ⟨hz1, rfl⟩
  · show cx_T _ 165 _ 4 ([some (.inr (.inl 0)), some (.inl (.int b)), some (.inl (.int (Int32.ofInt 1))), none, none], [.inl (.int (Int32.ofInt 1))], [(0, .inl (10, [.inr (.inl 1), .inr (.inl 2), .inr (.inl 15), .inr (.inl 21), .inr (.inl 43), .inr (.inl 68), .inr (.inl 77), .inr (.inl 87), .inr (.inl 101), .inr (.inl 107), .inr (.inl 113), .inl (.int dy)])), (1, .inr (.inl (0, 7, r))), (113, .inl (2, [.inr (.inl 114)])), (114, .inr (.inr (.inr (3, [115, 116, 117, 118])))), (115, .inr (.inl (0, 24, F 0))), (116, .inr (.inl (0, 24, F 1))), (117, .inr (.inl (0, 24, F 2))), (118, .inr (.inl (0, 24, F 3)))]) _
    refine ex_if cg_165 (ix := 2) (t := 13) (pc' := 7) rfl rfl rfl (fun hb4 => ?_) (fun hb4 => ?_)
    · have hb4 : ¬ (Int32.ofInt 1).toInt = 0 := hb4
      refine ex_iload_n cg_165 (ix := 7) (pc' := 14) rfl rfl rfl ?_
      refine ex_if cg_165 (ix := 8) (t := 22) (pc' := 17) rfl rfl rfl (fun hb14 => ?_) (fun hb14 => ?_)
      · have hb14 : (Int32.ofInt 1).toInt < 0 := hb14
        exfalso; first | omega | exact absurd hb14 (by decide +kernel)
      · have hb14 : ¬ ((Int32.ofInt 1).toInt < 0) := hb14
        refine ex_iload_n cg_165 (ix := 9) (pc' := 18) rfl rfl rfl ?_
        refine ex_iconst cg_165 (ix := 10) (pc' := 19) rfl rfl ?_
        refine ex_icmp cg_165 (ix := 11) (t := 29) (pc' := 22) rfl rfl rfl (fun hb19 => ?_) (fun hb19 => ?_)
        · have hb19 : (Int32.ofInt 1).toInt ≤ (Int32.ofInt 2).toInt := hb19
          refine ex_aload_n cg_165 (ix := 16) (pc' := 30) rfl rfl rfl ?_
          refine ex_getfield cg_165 (ix := 17) (pc' := 33) rfl rfl rfl rfl rfl ?_
          refine ex_iload_n cg_165 (ix := 18) (pc' := 34) rfl rfl rfl ?_
          refine ex_callV cg_165 (ix := 19) (pc' := 37) (As := [.inl (.int b)]) (r := []) rfl rfl rfl (ct_24 (b := b) (k1 := k1) (f := f) (F := F) hb0 hk1 hk2) (by decide) rfl rfl rfl ⟨rfl, rfl, rfl, rfl, rfl, rfl, trivial⟩ rfl rfl (fun v h2 hq => ?_)
          obtain ⟨z, rfl, hz5, rfl⟩ := hq
          show cx_T _ 165 _ 37 ([some (.inr (.inl 0)), some (.inl (.int b)), some (.inl (.int (Int32.ofInt 1))), none, none], [.inl (.int z)], [(0, .inl (10, [.inr (.inl 1), .inr (.inl 2), .inr (.inl 15), .inr (.inl 21), .inr (.inl 43), .inr (.inl 68), .inr (.inl 77), .inr (.inl 87), .inr (.inl 101), .inr (.inl 107), .inr (.inl 113), .inl (.int dy)])), (1, .inr (.inl (0, 7, r))), (113, .inl (2, [.inr (.inl 114)])), (114, .inr (.inr (.inr (3, [115, 116, 117, 118])))), (115, .inr (.inl (0, 24, F 0))), (116, .inr (.inl (0, 24, F 1))), (117, .inr (.inl (0, 24, F 2))), (118, .inr (.inl (0, 24, F 3)))]) _
          refine ex_istore_n cg_165 (ix := 20) (pc' := 38) (L' := [some (.inr (.inl 0)), some (.inl (.int b)), some (.inl (.int (Int32.ofInt 1))), some (.inl (.int z)), none]) rfl rfl rfl rfl ?_
          refine ex_iload_n cg_165 (ix := 21) (pc' := 39) rfl rfl rfl ?_
          refine ex_if cg_165 (ix := 22) (t := 49) (pc' := 42) rfl rfl rfl (fun hb39 => ?_) (fun hb39 => ?_)
          · have hb39 : 0 < z.toInt := hb39
            refine ex_aload_n cg_165 (ix := 27) (pc' := 50) rfl rfl rfl ?_
            refine ex_getfield cg_165 (ix := 28) (pc' := 53) rfl rfl rfl rfl rfl ?_
            refine ex_iload_n cg_165 (ix := 29) (pc' := 54) rfl rfl rfl ?_
            refine ex_callV cg_165 (ix := 30) (pc' := 57) (As := [.inl (.int b)]) (r := []) rfl rfl rfl (ct_sum (b := b) (k1 := k1) (f := f) (F := F) hf hb0 hk1 hk2) (by decide) rfl rfl rfl ⟨rfl, rfl, rfl, rfl, rfl, rfl, trivial⟩ rfl rfl (fun v h2 hq => ?_)
            obtain ⟨y, rfl, hz6, rfl⟩ := hq
            show cx_T _ 165 _ 57 ([some (.inr (.inl 0)), some (.inl (.int b)), some (.inl (.int (Int32.ofInt 1))), some (.inl (.int z)), none], [.inl (.int y)], [(0, .inl (10, [.inr (.inl 1), .inr (.inl 2), .inr (.inl 15), .inr (.inl 21), .inr (.inl 43), .inr (.inl 68), .inr (.inl 77), .inr (.inl 87), .inr (.inl 101), .inr (.inl 107), .inr (.inl 113), .inl (.int dy)])), (1, .inr (.inl (0, 7, r))), (113, .inl (2, [.inr (.inl 114)])), (114, .inr (.inr (.inr (3, [115, 116, 117, 118])))), (115, .inr (.inl (0, 24, F 0))), (116, .inr (.inl (0, 24, F 1))), (117, .inr (.inl (0, 24, F 2))), (118, .inr (.inl (0, 24, F 3)))]) _
            refine ex_istore cg_165 (ix := 31) (pc' := 59) (L' := [some (.inr (.inl 0)), some (.inl (.int b)), some (.inl (.int (Int32.ofInt 1))), some (.inl (.int z)), some (.inl (.int y))]) rfl rfl rfl rfl ?_
            refine ex_iload_n cg_165 (ix := 32) (pc' := 60) rfl rfl rfl ?_
            refine ex_lookup cg_165 (ix := 33) (off := 36) (t := 96) rfl (by decide) (by decide +kernel) rfl ?_
            refine ex_iload cg_165 (ix := 40) (pc' := 98) rfl rfl rfl ?_
            refine ex_ireturn cg_165 (ix := 41) rfl ?_
            exact ⟨_, r, rfl, rfl, Or.inr (Or.inr (Or.inr (Or.inr (Or.inl ⟨by omega, by decide +kernel, by omega, hz6⟩))))⟩
          · have hb39 : ¬ (0 < z.toInt) := hb39
            refine ex_aload_n cg_165 (ix := 23) (pc' := 43) rfl rfl rfl ?_
            refine ex_bipush cg_165 (ix := 24) (pc' := 45) rfl rfl rfl ?_
            refine ex_callV cg_165 (ix := 25) (pc' := 48) (As := [.inl (.int (Int32.ofInt (-5)))]) (r := []) rfl rfl rfl (ct_xref (dy := dy) (x := Int32.ofInt (-5)) (r := r) (by decide +kernel) (by decide +kernel)) (by decide) rfl rfl rfl ⟨rfl, rfl, trivial⟩ rfl rfl (fun v h2 hq => ?_)
            obtain ⟨rfl, r2, rfl⟩ := hq
            show cx_T _ 165 _ 48 ([some (.inr (.inl 0)), some (.inl (.int b)), some (.inl (.int (Int32.ofInt 1))), some (.inl (.int z)), none], [.inl (.int (Int32.ofInt (-5)))], [(0, .inl (10, [.inr (.inl 1), .inr (.inl 2), .inr (.inl 15), .inr (.inl 21), .inr (.inl 43), .inr (.inl 68), .inr (.inl 77), .inr (.inl 87), .inr (.inl 101), .inr (.inl 107), .inr (.inl 113), .inl (.int dy)])), (1, .inr (.inl (0, 7, r2))), (113, .inl (2, [.inr (.inl 114)])), (114, .inr (.inr (.inr (3, [115, 116, 117, 118])))), (115, .inr (.inl (0, 24, F 0))), (116, .inr (.inl (0, 24, F 1))), (117, .inr (.inl (0, 24, F 2))), (118, .inr (.inl (0, 24, F 3)))]) _
            refine ex_ireturn cg_165 (ix := 26) rfl ?_
            have hsb := sm_xb (f := f) 24 hf; have hcb := cn_xb (f := f) 24
            exact ⟨_, _, rfl, rfl, Or.inr (Or.inr (Or.inl ⟨by omega, by omega, by omega, by decide +kernel⟩))⟩
        · have hb19 : ¬ ((Int32.ofInt 1).toInt ≤ (Int32.ofInt 2).toInt) := hb19
          exfalso; first | omega | exact absurd hb19 (by decide +kernel)
    · have hb4 : ¬ (¬ (Int32.ofInt 1).toInt = 0) := hb4
      exfalso; first | omega | exact absurd hb4 (by decide +kernel)
  · show cx_T _ 165 _ 4 ([some (.inr (.inl 0)), some (.inl (.int b)), some (.inl (.int (Int32.ofInt 1))), none, none], [.inl (.int (Int32.ofInt 0))], [(0, .inl (10, [.inr (.inl 1), .inr (.inl 2), .inr (.inl 15), .inr (.inl 21), .inr (.inl 43), .inr (.inl 68), .inr (.inl 77), .inr (.inl 87), .inr (.inl 101), .inr (.inl 107), .inr (.inl 113), .inl (.int dy)])), (1, .inr (.inl (0, 7, r))), (113, .inl (2, [.inr (.inl 114)])), (114, .inr (.inr (.inr (3, [115, 116, 117, 118])))), (115, .inr (.inl (0, 24, F 0))), (116, .inr (.inl (0, 24, F 1))), (117, .inr (.inl (0, 24, F 2))), (118, .inr (.inl (0, 24, F 3)))]) _
    refine ex_if cg_165 (ix := 2) (t := 13) (pc' := 7) rfl rfl rfl (fun hb4 => ?_) (fun hb4 => ?_)
    · have hb4 : ¬ (Int32.ofInt 0).toInt = 0 := hb4
      exfalso; first | omega | exact absurd hb4 (by decide +kernel)
    · have hb4 : ¬ (¬ (Int32.ofInt 0).toInt = 0) := hb4
      refine ex_aload_n cg_165 (ix := 3) (pc' := 8) rfl rfl rfl ?_
      refine ex_iconst cg_165 (ix := 4) (pc' := 9) rfl rfl ?_
      refine ex_callV cg_165 (ix := 5) (pc' := 12) (As := [.inl (.int (Int32.ofInt (-1)))]) (r := []) rfl rfl rfl (ct_xref (dy := dy) (x := Int32.ofInt (-1)) (r := r) (by decide +kernel) (by decide +kernel)) (by decide) rfl rfl rfl ⟨rfl, rfl, trivial⟩ rfl rfl (fun v h2 hq => ?_)
      obtain ⟨rfl, r2, rfl⟩ := hq
      show cx_T _ 165 _ 12 ([some (.inr (.inl 0)), some (.inl (.int b)), some (.inl (.int (Int32.ofInt 1))), none, none], [.inl (.int (Int32.ofInt (-1)))], [(0, .inl (10, [.inr (.inl 1), .inr (.inl 2), .inr (.inl 15), .inr (.inl 21), .inr (.inl 43), .inr (.inl 68), .inr (.inl 77), .inr (.inl 87), .inr (.inl 101), .inr (.inl 107), .inr (.inl 113), .inl (.int dy)])), (1, .inr (.inl (0, 7, r2))), (113, .inl (2, [.inr (.inl 114)])), (114, .inr (.inr (.inr (3, [115, 116, 117, 118])))), (115, .inr (.inl (0, 24, F 0))), (116, .inr (.inl (0, 24, F 1))), (117, .inr (.inl (0, 24, F 2))), (118, .inr (.inl (0, 24, F 3)))]) _
      refine ex_ireturn cg_165 (ix := 6) rfl ?_
      exact ⟨_, _, rfl, rfl, Or.inl ⟨by omega, by decide +kernel⟩⟩
theorem ct_cd2 {dy b : Int32} {k1 : Nat} {r f : Nat → Int32} {F : Nat → Nat → Int32} (hf : ∀ c : Nat, c < 24 → (f c).toInt ≤ 30) (hb0 : 0 ≤ b.toInt) (hk1 : [115, 116, 117, 118][b.toNatClampNeg]? = some k1) (hk2 : cx_hg (h_hc F) k1 = some (.inr (.inl (0, 24, f)))) (hb1 : b.toInt < 4) : cx_Ct 5 165 [.inr (.inl 0), .inl (.int b), .inl (.int (Int32.ofInt 2))] (h_xd dy r F) (fun v h2 => ∃ (z : Int32) (r2 : Nat → Int32), v = some (.inl (.int z)) ∧ h2 = h_xd dy r2 F ∧ cd_ans b (Int32.ofInt 2) (cn_x f 24) (sm_x f 24) z) := by
  have kcm5 : (Int32.ofInt (-5)).toInt = -5 := by decide +kernel
  have kcm2 : (Int32.ofInt (-2)).toInt = -2 := by decide +kernel
  have kcm1 : (Int32.ofInt (-1)).toInt = -1 := by decide +kernel
  have kc0 : (Int32.ofInt 0).toInt = 0 := by decide +kernel
  have kc1 : (Int32.ofInt 1).toInt = 1 := by decide +kernel
  have kc2 : (Int32.ofInt 2).toInt = 2 := by decide +kernel
  have kc24 : (Int32.ofInt 24).toInt = 24 := by decide +kernel
  have kc30 : (Int32.ofInt 30).toInt = 30 := by decide +kernel
  refine cx_Ct.of cg_165 (nL := 5) rfl rfl rfl ?_
  show cx_T 5 165 [0, 1, 113, 114, 115, 116, 117, 118] 0 ([some (.inr (.inl 0)), some (.inl (.int b)), some (.inl (.int (Int32.ofInt 2))), none, none], [], h_xd dy r F) _
  refine ex_iload_n cg_165 (ix := 0) (pc' := 1) rfl rfl rfl ?_
  refine ex_callS cg_165 (ix := 1) (pc' := 4) (As := [.inl (.int b)]) (r := []) rfl rfl rfl (ct_xbeach (x := b)) (by decide) rfl rfl trivial rfl rfl (fun v h2 hq => ?_)
  obtain ⟨z, rfl, rfl, hz1⟩ := hq
  rcases hz1 with ⟨hz1, rfl⟩ | ⟨hz1, rfl⟩
  · show cx_T _ 165 _ 4 ([some (.inr (.inl 0)), some (.inl (.int b)), some (.inl (.int (Int32.ofInt 2))), none, none], [.inl (.int (Int32.ofInt 1))], [(0, .inl (10, [.inr (.inl 1), .inr (.inl 2), .inr (.inl 15), .inr (.inl 21), .inr (.inl 43), .inr (.inl 68), .inr (.inl 77), .inr (.inl 87), .inr (.inl 101), .inr (.inl 107), .inr (.inl 113), .inl (.int dy)])), (1, .inr (.inl (0, 7, r))), (113, .inl (2, [.inr (.inl 114)])), (114, .inr (.inr (.inr (3, [115, 116, 117, 118])))), (115, .inr (.inl (0, 24, F 0))), (116, .inr (.inl (0, 24, F 1))), (117, .inr (.inl (0, 24, F 2))), (118, .inr (.inl (0, 24, F 3)))]) _
    refine ex_if cg_165 (ix := 2) (t := 13) (pc' := 7) rfl rfl rfl (fun hb4 => ?_) (fun hb4 => ?_)
    · have hb4 : ¬ (Int32.ofInt 1).toInt = 0 := hb4
      refine ex_iload_n cg_165 (ix := 7) (pc' := 14) rfl rfl rfl ?_
      refine ex_if cg_165 (ix := 8) (t := 22) (pc' := 17) rfl rfl rfl (fun hb14 => ?_) (fun hb14 => ?_)
      · have hb14 : (Int32.ofInt 2).toInt < 0 := hb14
        exfalso; first | omega | exact absurd hb14 (by decide +kernel)
      · have hb14 : ¬ ((Int32.ofInt 2).toInt < 0) := hb14
        refine ex_iload_n cg_165 (ix := 9) (pc' := 18) rfl rfl rfl ?_
        refine ex_iconst cg_165 (ix := 10) (pc' := 19) rfl rfl ?_
        refine ex_icmp cg_165 (ix := 11) (t := 29) (pc' := 22) rfl rfl rfl (fun hb19 => ?_) (fun hb19 => ?_)
        · have hb19 : (Int32.ofInt 2).toInt ≤ (Int32.ofInt 2).toInt := hb19
          refine ex_aload_n cg_165 (ix := 16) (pc' := 30) rfl rfl rfl ?_
          refine ex_getfield cg_165 (ix := 17) (pc' := 33) rfl rfl rfl rfl rfl ?_
          refine ex_iload_n cg_165 (ix := 18) (pc' := 34) rfl rfl rfl ?_
          refine ex_callV cg_165 (ix := 19) (pc' := 37) (As := [.inl (.int b)]) (r := []) rfl rfl rfl (ct_24 (b := b) (k1 := k1) (f := f) (F := F) hb0 hk1 hk2) (by decide) rfl rfl rfl ⟨rfl, rfl, rfl, rfl, rfl, rfl, trivial⟩ rfl rfl (fun v h2 hq => ?_)
          obtain ⟨z, rfl, hz5, rfl⟩ := hq
          show cx_T _ 165 _ 37 ([some (.inr (.inl 0)), some (.inl (.int b)), some (.inl (.int (Int32.ofInt 2))), none, none], [.inl (.int z)], [(0, .inl (10, [.inr (.inl 1), .inr (.inl 2), .inr (.inl 15), .inr (.inl 21), .inr (.inl 43), .inr (.inl 68), .inr (.inl 77), .inr (.inl 87), .inr (.inl 101), .inr (.inl 107), .inr (.inl 113), .inl (.int dy)])), (1, .inr (.inl (0, 7, r))), (113, .inl (2, [.inr (.inl 114)])), (114, .inr (.inr (.inr (3, [115, 116, 117, 118])))), (115, .inr (.inl (0, 24, F 0))), (116, .inr (.inl (0, 24, F 1))), (117, .inr (.inl (0, 24, F 2))), (118, .inr (.inl (0, 24, F 3)))]) _
          refine ex_istore_n cg_165 (ix := 20) (pc' := 38) (L' := [some (.inr (.inl 0)), some (.inl (.int b)), some (.inl (.int (Int32.ofInt 2))), some (.inl (.int z)), none]) rfl rfl rfl rfl ?_
          refine ex_iload_n cg_165 (ix := 21) (pc' := 39) rfl rfl rfl ?_
          refine ex_if cg_165 (ix := 22) (t := 49) (pc' := 42) rfl rfl rfl (fun hb39 => ?_) (fun hb39 => ?_)
          · have hb39 : 0 < z.toInt := hb39
            refine ex_aload_n cg_165 (ix := 27) (pc' := 50) rfl rfl rfl ?_
            refine ex_getfield cg_165 (ix := 28) (pc' := 53) rfl rfl rfl rfl rfl ?_
            refine ex_iload_n cg_165 (ix := 29) (pc' := 54) rfl rfl rfl ?_
            refine ex_callV cg_165 (ix := 30) (pc' := 57) (As := [.inl (.int b)]) (r := []) rfl rfl rfl (ct_sum (b := b) (k1 := k1) (f := f) (F := F) hf hb0 hk1 hk2) (by decide) rfl rfl rfl ⟨rfl, rfl, rfl, rfl, rfl, rfl, trivial⟩ rfl rfl (fun v h2 hq => ?_)
            obtain ⟨y, rfl, hz6, rfl⟩ := hq
            show cx_T _ 165 _ 57 ([some (.inr (.inl 0)), some (.inl (.int b)), some (.inl (.int (Int32.ofInt 2))), some (.inl (.int z)), none], [.inl (.int y)], [(0, .inl (10, [.inr (.inl 1), .inr (.inl 2), .inr (.inl 15), .inr (.inl 21), .inr (.inl 43), .inr (.inl 68), .inr (.inl 77), .inr (.inl 87), .inr (.inl 101), .inr (.inl 107), .inr (.inl 113), .inl (.int dy)])), (1, .inr (.inl (0, 7, r))), (113, .inl (2, [.inr (.inl 114)])), (114, .inr (.inr (.inr (3, [115, 116, 117, 118])))), (115, .inr (.inl (0, 24, F 0))), (116, .inr (.inl (0, 24, F 1))), (117, .inr (.inl (0, 24, F 2))), (118, .inr (.inl (0, 24, F 3)))]) _
            refine ex_istore cg_165 (ix := 31) (pc' := 59) (L' := [some (.inr (.inl 0)), some (.inl (.int b)), some (.inl (.int (Int32.ofInt 2))), some (.inl (.int z)), some (.inl (.int y))]) rfl rfl rfl rfl ?_
            refine ex_iload_n cg_165 (ix := 32) (pc' := 60) rfl rfl rfl ?_
            refine ex_lookup cg_165 (ix := 33) (off := 39) (t := 99) rfl (by decide) (by decide +kernel) rfl ?_
            refine ex_iload cg_165 (ix := 42) (pc' := 101) rfl rfl rfl ?_
            refine ex_bipush cg_165 (ix := 43) (pc' := 103) rfl rfl rfl ?_
            refine ex_bipush cg_165 (ix := 44) (pc' := 105) rfl rfl rfl ?_
            refine ex_iload_n cg_165 (ix := 45) (pc' := 106) rfl rfl rfl ?_
            refine ex_isub cg_165 (ix := 46) (pc' := 107) rfl rfl ?_
            refine ex_imul cg_165 (ix := 47) (pc' := 108) rfl rfl ?_
            refine ex_iadd cg_165 (ix := 48) (pc' := 109) rfl rfl ?_
            refine ex_ireturn cg_165 (ix := 49) rfl ?_
            have hsb := sm_xb (f := f) 24 hf; have hcb := cn_xb (f := f) 24
            have hs1 : ((Int32.ofInt 24) - z).toInt = 24 - z.toInt := by rw [cx_subc (by omega) (by omega)]; omega
            have hs2 : ((Int32.ofInt 30) * ((Int32.ofInt 24) - z)).toInt = 30 * (24 - z.toInt) := by rw [cx_mulk (n := 30) (by decide +kernel) (by omega) (by omega)]; omega
            exact ⟨_, r, rfl, rfl, Or.inr (Or.inr (Or.inr (Or.inr (Or.inr ⟨by omega, by decide +kernel, by omega, by rw [cx_addc (by omega) (by omega)]; omega⟩))))⟩
          · have hb39 : ¬ (0 < z.toInt) := hb39
            refine ex_aload_n cg_165 (ix := 23) (pc' := 43) rfl rfl rfl ?_
            refine ex_bipush cg_165 (ix := 24) (pc' := 45) rfl rfl rfl ?_
            refine ex_callV cg_165 (ix := 25) (pc' := 48) (As := [.inl (.int (Int32.ofInt (-5)))]) (r := []) rfl rfl rfl (ct_xref (dy := dy) (x := Int32.ofInt (-5)) (r := r) (by decide +kernel) (by decide +kernel)) (by decide) rfl rfl rfl ⟨rfl, rfl, trivial⟩ rfl rfl (fun v h2 hq => ?_)
            obtain ⟨rfl, r2, rfl⟩ := hq
            show cx_T _ 165 _ 48 ([some (.inr (.inl 0)), some (.inl (.int b)), some (.inl (.int (Int32.ofInt 2))), some (.inl (.int z)), none], [.inl (.int (Int32.ofInt (-5)))], [(0, .inl (10, [.inr (.inl 1), .inr (.inl 2), .inr (.inl 15), .inr (.inl 21), .inr (.inl 43), .inr (.inl 68), .inr (.inl 77), .inr (.inl 87), .inr (.inl 101), .inr (.inl 107), .inr (.inl 113), .inl (.int dy)])), (1, .inr (.inl (0, 7, r2))), (113, .inl (2, [.inr (.inl 114)])), (114, .inr (.inr (.inr (3, [115, 116, 117, 118])))), (115, .inr (.inl (0, 24, F 0))), (116, .inr (.inl (0, 24, F 1))), (117, .inr (.inl (0, 24, F 2))), (118, .inr (.inl (0, 24, F 3)))]) _
            refine ex_ireturn cg_165 (ix := 26) rfl ?_
            have hsb := sm_xb (f := f) 24 hf; have hcb := cn_xb (f := f) 24
            exact ⟨_, _, rfl, rfl, Or.inr (Or.inr (Or.inl ⟨by omega, by omega, by omega, by decide +kernel⟩))⟩
        · have hb19 : ¬ ((Int32.ofInt 2).toInt ≤ (Int32.ofInt 2).toInt) := hb19
          exfalso; first | omega | exact absurd hb19 (by decide +kernel)
    · have hb4 : ¬ (¬ (Int32.ofInt 1).toInt = 0) := hb4
      exfalso; first | omega | exact absurd hb4 (by decide +kernel)
  · show cx_T _ 165 _ 4 ([some (.inr (.inl 0)), some (.inl (.int b)), some (.inl (.int (Int32.ofInt 2))), none, none], [.inl (.int (Int32.ofInt 0))], [(0, .inl (10, [.inr (.inl 1), .inr (.inl 2), .inr (.inl 15), .inr (.inl 21), .inr (.inl 43), .inr (.inl 68), .inr (.inl 77), .inr (.inl 87), .inr (.inl 101), .inr (.inl 107), .inr (.inl 113), .inl (.int dy)])), (1, .inr (.inl (0, 7, r))), (113, .inl (2, [.inr (.inl 114)])), (114, .inr (.inr (.inr (3, [115, 116, 117, 118])))), (115, .inr (.inl (0, 24, F 0))), (116, .inr (.inl (0, 24, F 1))), (117, .inr (.inl (0, 24, F 2))), (118, .inr (.inl (0, 24, F 3)))]) _
    refine ex_if cg_165 (ix := 2) (t := 13) (pc' := 7) rfl rfl rfl (fun hb4 => ?_) (fun hb4 => ?_)
    · have hb4 : ¬ (Int32.ofInt 0).toInt = 0 := hb4
      exfalso; first | omega | exact absurd hb4 (by decide +kernel)
    · have hb4 : ¬ (¬ (Int32.ofInt 0).toInt = 0) := hb4
      refine ex_aload_n cg_165 (ix := 3) (pc' := 8) rfl rfl rfl ?_
      refine ex_iconst cg_165 (ix := 4) (pc' := 9) rfl rfl ?_
      refine ex_callV cg_165 (ix := 5) (pc' := 12) (As := [.inl (.int (Int32.ofInt (-1)))]) (r := []) rfl rfl rfl (ct_xref (dy := dy) (x := Int32.ofInt (-1)) (r := r) (by decide +kernel) (by decide +kernel)) (by decide) rfl rfl rfl ⟨rfl, rfl, trivial⟩ rfl rfl (fun v h2 hq => ?_)
      obtain ⟨rfl, r2, rfl⟩ := hq
      show cx_T _ 165 _ 12 ([some (.inr (.inl 0)), some (.inl (.int b)), some (.inl (.int (Int32.ofInt 2))), none, none], [.inl (.int (Int32.ofInt (-1)))], [(0, .inl (10, [.inr (.inl 1), .inr (.inl 2), .inr (.inl 15), .inr (.inl 21), .inr (.inl 43), .inr (.inl 68), .inr (.inl 77), .inr (.inl 87), .inr (.inl 101), .inr (.inl 107), .inr (.inl 113), .inl (.int dy)])), (1, .inr (.inl (0, 7, r2))), (113, .inl (2, [.inr (.inl 114)])), (114, .inr (.inr (.inr (3, [115, 116, 117, 118])))), (115, .inr (.inl (0, 24, F 0))), (116, .inr (.inl (0, 24, F 1))), (117, .inr (.inl (0, 24, F 2))), (118, .inr (.inl (0, 24, F 3)))]) _
      refine ex_ireturn cg_165 (ix := 6) rfl ?_
      exact ⟨_, _, rfl, rfl, Or.inl ⟨by omega, by decide +kernel⟩⟩
theorem ct_cdw {dy b w : Int32} {k1 : Nat} {r f : Nat → Int32} {F : Nat → Nat → Int32} (hf : ∀ c : Nat, c < 24 → (f c).toInt ≤ 30) (hb0 : 0 ≤ b.toInt) (hk1 : [115, 116, 117, 118][b.toNatClampNeg]? = some k1) (hk2 : cx_hg (h_hc F) k1 = some (.inr (.inl (0, 24, f)))) (hw : ¬ (0 ≤ w.toInt ∧ w.toInt ≤ 2)) : cx_Ct 5 165 [.inr (.inl 0), .inl (.int b), .inl (.int w)] (h_xd dy r F) (fun v h2 => ∃ (z : Int32) (r2 : Nat → Int32), v = some (.inl (.int z)) ∧ h2 = h_xd dy r2 F ∧ cd_ans b w (cn_x f 24) (sm_x f 24) z) := by
  have kcm5 : (Int32.ofInt (-5)).toInt = -5 := by decide +kernel
  have kcm2 : (Int32.ofInt (-2)).toInt = -2 := by decide +kernel
  have kcm1 : (Int32.ofInt (-1)).toInt = -1 := by decide +kernel
  have kc0 : (Int32.ofInt 0).toInt = 0 := by decide +kernel
  have kc1 : (Int32.ofInt 1).toInt = 1 := by decide +kernel
  have kc2 : (Int32.ofInt 2).toInt = 2 := by decide +kernel
  have kc24 : (Int32.ofInt 24).toInt = 24 := by decide +kernel
  have kc30 : (Int32.ofInt 30).toInt = 30 := by decide +kernel
  refine cx_Ct.of cg_165 (nL := 5) rfl rfl rfl ?_
  show cx_T 5 165 [0, 1, 113, 114, 115, 116, 117, 118] 0 ([some (.inr (.inl 0)), some (.inl (.int b)), some (.inl (.int w)), none, none], [], h_xd dy r F) _
  refine ex_iload_n cg_165 (ix := 0) (pc' := 1) rfl rfl rfl ?_
  refine ex_callS cg_165 (ix := 1) (pc' := 4) (As := [.inl (.int b)]) (r := []) rfl rfl rfl (ct_xbeach (x := b)) (by decide) rfl rfl trivial rfl rfl (fun v h2 hq => ?_)
  obtain ⟨z, rfl, rfl, hz1⟩ := hq
  rcases hz1 with ⟨hz1, rfl⟩ | ⟨hz1, rfl⟩
  · show cx_T _ 165 _ 4 ([some (.inr (.inl 0)), some (.inl (.int b)), some (.inl (.int w)), none, none], [.inl (.int (Int32.ofInt 1))], [(0, .inl (10, [.inr (.inl 1), .inr (.inl 2), .inr (.inl 15), .inr (.inl 21), .inr (.inl 43), .inr (.inl 68), .inr (.inl 77), .inr (.inl 87), .inr (.inl 101), .inr (.inl 107), .inr (.inl 113), .inl (.int dy)])), (1, .inr (.inl (0, 7, r))), (113, .inl (2, [.inr (.inl 114)])), (114, .inr (.inr (.inr (3, [115, 116, 117, 118])))), (115, .inr (.inl (0, 24, F 0))), (116, .inr (.inl (0, 24, F 1))), (117, .inr (.inl (0, 24, F 2))), (118, .inr (.inl (0, 24, F 3)))]) _
    refine ex_if cg_165 (ix := 2) (t := 13) (pc' := 7) rfl rfl rfl (fun hb4 => ?_) (fun hb4 => ?_)
    · have hb4 : ¬ (Int32.ofInt 1).toInt = 0 := hb4
      refine ex_iload_n cg_165 (ix := 7) (pc' := 14) rfl rfl rfl ?_
      refine ex_if cg_165 (ix := 8) (t := 22) (pc' := 17) rfl rfl rfl (fun hb14 => ?_) (fun hb14 => ?_)
      · have hb14 : w.toInt < 0 := hb14
        refine ex_aload_n cg_165 (ix := 12) (pc' := 23) rfl rfl rfl ?_
        refine ex_bipush cg_165 (ix := 13) (pc' := 25) rfl rfl rfl ?_
        refine ex_callV cg_165 (ix := 14) (pc' := 28) (As := [.inl (.int (Int32.ofInt (-2)))]) (r := []) rfl rfl rfl (ct_xref (dy := dy) (x := Int32.ofInt (-2)) (r := r) (by decide +kernel) (by decide +kernel)) (by decide) rfl rfl rfl ⟨rfl, rfl, trivial⟩ rfl rfl (fun v h2 hq => ?_)
        obtain ⟨rfl, r2, rfl⟩ := hq
        show cx_T _ 165 _ 28 ([some (.inr (.inl 0)), some (.inl (.int b)), some (.inl (.int w)), none, none], [.inl (.int (Int32.ofInt (-2)))], [(0, .inl (10, [.inr (.inl 1), .inr (.inl 2), .inr (.inl 15), .inr (.inl 21), .inr (.inl 43), .inr (.inl 68), .inr (.inl 77), .inr (.inl 87), .inr (.inl 101), .inr (.inl 107), .inr (.inl 113), .inl (.int dy)])), (1, .inr (.inl (0, 7, r2))), (113, .inl (2, [.inr (.inl 114)])), (114, .inr (.inr (.inr (3, [115, 116, 117, 118])))), (115, .inr (.inl (0, 24, F 0))), (116, .inr (.inl (0, 24, F 1))), (117, .inr (.inl (0, 24, F 2))), (118, .inr (.inl (0, 24, F 3)))]) _
        refine ex_ireturn cg_165 (ix := 15) rfl ?_
        exact ⟨_, _, rfl, rfl, Or.inr (Or.inl ⟨by omega, by omega, by decide +kernel⟩)⟩
      · have hb14 : ¬ (w.toInt < 0) := hb14
        refine ex_iload_n cg_165 (ix := 9) (pc' := 18) rfl rfl rfl ?_
        refine ex_iconst cg_165 (ix := 10) (pc' := 19) rfl rfl ?_
        refine ex_icmp cg_165 (ix := 11) (t := 29) (pc' := 22) rfl rfl rfl (fun hb19 => ?_) (fun hb19 => ?_)
        · have hb19 : w.toInt ≤ (Int32.ofInt 2).toInt := hb19
          exfalso; omega
        · have hb19 : ¬ (w.toInt ≤ (Int32.ofInt 2).toInt) := hb19
          refine ex_aload_n cg_165 (ix := 12) (pc' := 23) rfl rfl rfl ?_
          refine ex_bipush cg_165 (ix := 13) (pc' := 25) rfl rfl rfl ?_
          refine ex_callV cg_165 (ix := 14) (pc' := 28) (As := [.inl (.int (Int32.ofInt (-2)))]) (r := []) rfl rfl rfl (ct_xref (dy := dy) (x := Int32.ofInt (-2)) (r := r) (by decide +kernel) (by decide +kernel)) (by decide) rfl rfl rfl ⟨rfl, rfl, trivial⟩ rfl rfl (fun v h2 hq => ?_)
          obtain ⟨rfl, r2, rfl⟩ := hq
          show cx_T _ 165 _ 28 ([some (.inr (.inl 0)), some (.inl (.int b)), some (.inl (.int w)), none, none], [.inl (.int (Int32.ofInt (-2)))], [(0, .inl (10, [.inr (.inl 1), .inr (.inl 2), .inr (.inl 15), .inr (.inl 21), .inr (.inl 43), .inr (.inl 68), .inr (.inl 77), .inr (.inl 87), .inr (.inl 101), .inr (.inl 107), .inr (.inl 113), .inl (.int dy)])), (1, .inr (.inl (0, 7, r2))), (113, .inl (2, [.inr (.inl 114)])), (114, .inr (.inr (.inr (3, [115, 116, 117, 118])))), (115, .inr (.inl (0, 24, F 0))), (116, .inr (.inl (0, 24, F 1))), (117, .inr (.inl (0, 24, F 2))), (118, .inr (.inl (0, 24, F 3)))]) _
          refine ex_ireturn cg_165 (ix := 15) rfl ?_
          exact ⟨_, _, rfl, rfl, Or.inr (Or.inl ⟨by omega, by omega, by decide +kernel⟩)⟩
    · have hb4 : ¬ (¬ (Int32.ofInt 1).toInt = 0) := hb4
      exfalso; first | omega | exact absurd hb4 (by decide +kernel)
  · show cx_T _ 165 _ 4 ([some (.inr (.inl 0)), some (.inl (.int b)), some (.inl (.int w)), none, none], [.inl (.int (Int32.ofInt 0))], [(0, .inl (10, [.inr (.inl 1), .inr (.inl 2), .inr (.inl 15), .inr (.inl 21), .inr (.inl 43), .inr (.inl 68), .inr (.inl 77), .inr (.inl 87), .inr (.inl 101), .inr (.inl 107), .inr (.inl 113), .inl (.int dy)])), (1, .inr (.inl (0, 7, r))), (113, .inl (2, [.inr (.inl 114)])), (114, .inr (.inr (.inr (3, [115, 116, 117, 118])))), (115, .inr (.inl (0, 24, F 0))), (116, .inr (.inl (0, 24, F 1))), (117, .inr (.inl (0, 24, F 2))), (118, .inr (.inl (0, 24, F 3)))]) _
    refine ex_if cg_165 (ix := 2) (t := 13) (pc' := 7) rfl rfl rfl (fun hb4 => ?_) (fun hb4 => ?_)
    · have hb4 : ¬ (Int32.ofInt 0).toInt = 0 := hb4
      exfalso; first | omega | exact absurd hb4 (by decide +kernel)
    · have hb4 : ¬ (¬ (Int32.ofInt 0).toInt = 0) := hb4
      refine ex_aload_n cg_165 (ix := 3) (pc' := 8) rfl rfl rfl ?_
      refine ex_iconst cg_165 (ix := 4) (pc' := 9) rfl rfl ?_
      refine ex_callV cg_165 (ix := 5) (pc' := 12) (As := [.inl (.int (Int32.ofInt (-1)))]) (r := []) rfl rfl rfl (ct_xref (dy := dy) (x := Int32.ofInt (-1)) (r := r) (by decide +kernel) (by decide +kernel)) (by decide) rfl rfl rfl ⟨rfl, rfl, trivial⟩ rfl rfl (fun v h2 hq => ?_)
      obtain ⟨rfl, r2, rfl⟩ := hq
      show cx_T _ 165 _ 12 ([some (.inr (.inl 0)), some (.inl (.int b)), some (.inl (.int w)), none, none], [.inl (.int (Int32.ofInt (-1)))], [(0, .inl (10, [.inr (.inl 1), .inr (.inl 2), .inr (.inl 15), .inr (.inl 21), .inr (.inl 43), .inr (.inl 68), .inr (.inl 77), .inr (.inl 87), .inr (.inl 101), .inr (.inl 107), .inr (.inl 113), .inl (.int dy)])), (1, .inr (.inl (0, 7, r2))), (113, .inl (2, [.inr (.inl 114)])), (114, .inr (.inr (.inr (3, [115, 116, 117, 118])))), (115, .inr (.inl (0, 24, F 0))), (116, .inr (.inl (0, 24, F 1))), (117, .inr (.inl (0, 24, F 2))), (118, .inr (.inl (0, 24, F 3)))]) _
      refine ex_ireturn cg_165 (ix := 6) rfl ?_
      exact ⟨_, _, rfl, rfl, Or.inl ⟨by omega, by decide +kernel⟩⟩
theorem ct_cdN {dy b w : Int32} {r f : Nat → Int32} {F : Nat → Nat → Int32} (hb : ¬ (0 ≤ b.toInt ∧ b.toInt < 4)) : cx_Ct 5 165 [.inr (.inl 0), .inl (.int b), .inl (.int w)] (h_xd dy r F) (fun v h2 => ∃ (z : Int32) (r2 : Nat → Int32), v = some (.inl (.int z)) ∧ h2 = h_xd dy r2 F ∧ cd_ans b w (cn_x f 24) (sm_x f 24) z) := by
  have kcm5 : (Int32.ofInt (-5)).toInt = -5 := by decide +kernel
  have kcm2 : (Int32.ofInt (-2)).toInt = -2 := by decide +kernel
  have kcm1 : (Int32.ofInt (-1)).toInt = -1 := by decide +kernel
  have kc0 : (Int32.ofInt 0).toInt = 0 := by decide +kernel
  have kc1 : (Int32.ofInt 1).toInt = 1 := by decide +kernel
  have kc2 : (Int32.ofInt 2).toInt = 2 := by decide +kernel
  have kc24 : (Int32.ofInt 24).toInt = 24 := by decide +kernel
  have kc30 : (Int32.ofInt 30).toInt = 30 := by decide +kernel
  refine cx_Ct.of cg_165 (nL := 5) rfl rfl rfl ?_
  show cx_T 5 165 [0, 1, 113, 114, 115, 116, 117, 118] 0 ([some (.inr (.inl 0)), some (.inl (.int b)), some (.inl (.int w)), none, none], [], h_xd dy r F) _
  refine ex_iload_n cg_165 (ix := 0) (pc' := 1) rfl rfl rfl ?_
  refine ex_callS cg_165 (ix := 1) (pc' := 4) (As := [.inl (.int b)]) (r := []) rfl rfl rfl (ct_xbeach (x := b)) (by decide) rfl rfl trivial rfl rfl (fun v h2 hq => ?_)
  obtain ⟨z, rfl, rfl, hz1⟩ := hq
  rcases hz1 with ⟨hz1, rfl⟩ | ⟨hz1, rfl⟩
  · show cx_T _ 165 _ 4 ([some (.inr (.inl 0)), some (.inl (.int b)), some (.inl (.int w)), none, none], [.inl (.int (Int32.ofInt 1))], [(0, .inl (10, [.inr (.inl 1), .inr (.inl 2), .inr (.inl 15), .inr (.inl 21), .inr (.inl 43), .inr (.inl 68), .inr (.inl 77), .inr (.inl 87), .inr (.inl 101), .inr (.inl 107), .inr (.inl 113), .inl (.int dy)])), (1, .inr (.inl (0, 7, r))), (113, .inl (2, [.inr (.inl 114)])), (114, .inr (.inr (.inr (3, [115, 116, 117, 118])))), (115, .inr (.inl (0, 24, F 0))), (116, .inr (.inl (0, 24, F 1))), (117, .inr (.inl (0, 24, F 2))), (118, .inr (.inl (0, 24, F 3)))]) _
    refine ex_if cg_165 (ix := 2) (t := 13) (pc' := 7) rfl rfl rfl (fun hb4 => ?_) (fun hb4 => ?_)
    · have hb4 : ¬ (Int32.ofInt 1).toInt = 0 := hb4
      exfalso; omega
    · have hb4 : ¬ (¬ (Int32.ofInt 1).toInt = 0) := hb4
      exfalso; first | omega | exact absurd hb4 (by decide +kernel)
  · show cx_T _ 165 _ 4 ([some (.inr (.inl 0)), some (.inl (.int b)), some (.inl (.int w)), none, none], [.inl (.int (Int32.ofInt 0))], [(0, .inl (10, [.inr (.inl 1), .inr (.inl 2), .inr (.inl 15), .inr (.inl 21), .inr (.inl 43), .inr (.inl 68), .inr (.inl 77), .inr (.inl 87), .inr (.inl 101), .inr (.inl 107), .inr (.inl 113), .inl (.int dy)])), (1, .inr (.inl (0, 7, r))), (113, .inl (2, [.inr (.inl 114)])), (114, .inr (.inr (.inr (3, [115, 116, 117, 118])))), (115, .inr (.inl (0, 24, F 0))), (116, .inr (.inl (0, 24, F 1))), (117, .inr (.inl (0, 24, F 2))), (118, .inr (.inl (0, 24, F 3)))]) _
    refine ex_if cg_165 (ix := 2) (t := 13) (pc' := 7) rfl rfl rfl (fun hb4 => ?_) (fun hb4 => ?_)
    · have hb4 : ¬ (Int32.ofInt 0).toInt = 0 := hb4
      exfalso; first | omega | exact absurd hb4 (by decide +kernel)
    · have hb4 : ¬ (¬ (Int32.ofInt 0).toInt = 0) := hb4
      refine ex_aload_n cg_165 (ix := 3) (pc' := 8) rfl rfl rfl ?_
      refine ex_iconst cg_165 (ix := 4) (pc' := 9) rfl rfl ?_
      refine ex_callV cg_165 (ix := 5) (pc' := 12) (As := [.inl (.int (Int32.ofInt (-1)))]) (r := []) rfl rfl rfl (ct_xref (dy := dy) (x := Int32.ofInt (-1)) (r := r) (by decide +kernel) (by decide +kernel)) (by decide) rfl rfl rfl ⟨rfl, rfl, trivial⟩ rfl rfl (fun v h2 hq => ?_)
      obtain ⟨rfl, r2, rfl⟩ := hq
      show cx_T _ 165 _ 12 ([some (.inr (.inl 0)), some (.inl (.int b)), some (.inl (.int w)), none, none], [.inl (.int (Int32.ofInt (-1)))], [(0, .inl (10, [.inr (.inl 1), .inr (.inl 2), .inr (.inl 15), .inr (.inl 21), .inr (.inl 43), .inr (.inl 68), .inr (.inl 77), .inr (.inl 87), .inr (.inl 101), .inr (.inl 107), .inr (.inl 113), .inl (.int dy)])), (1, .inr (.inl (0, 7, r2))), (113, .inl (2, [.inr (.inl 114)])), (114, .inr (.inr (.inr (3, [115, 116, 117, 118])))), (115, .inr (.inl (0, 24, F 0))), (116, .inr (.inl (0, 24, F 1))), (117, .inr (.inl (0, 24, F 2))), (118, .inr (.inl (0, 24, F 3)))]) _
      refine ex_ireturn cg_165 (ix := 6) rfl ?_
      exact ⟨_, _, rfl, rfl, Or.inl ⟨by omega, by decide +kernel⟩⟩
theorem ct_cd {dy b w : Int32} {r : Nat → Int32} {F : Nat → Nat → Int32} (hF : ∀ bb c : Nat, bb < 4 → c < 24 → (F bb c).toInt ≤ 30) : cx_Ct 5 165 [.inr (.inl 0), .inl (.int b), .inl (.int w)] (h_xd dy r F) (fun v h2 => ∃ (z : Int32) (r2 : Nat → Int32), v = some (.inl (.int z)) ∧ h2 = h_xd dy r2 F ∧ cd_ans b w (cn_x (F b.toNatClampNeg) 24) (sm_x (F b.toNatClampNeg) 24) z) := by
  by_cases hb : 0 ≤ b.toInt ∧ b.toInt < 4
  · have hB : (b.toNatClampNeg : Int) = b.toInt := ab_clamp hb.1
    obtain ⟨k1, hk1, hk2⟩ : ∃ k1, [115, 116, 117, 118][b.toNatClampNeg]? = some k1 ∧ cx_hg (h_hc F) k1 = some (.inr (.inl (0, 24, F b.toNatClampNeg))) := by
      rcases (show b.toNatClampNeg = 0 ∨ b.toNatClampNeg = 1 ∨ b.toNatClampNeg = 2 ∨ b.toNatClampNeg = 3 by omega) with q | q | q | q <;> rw [q] <;> exact ⟨_, rfl, rfl⟩
    have hf : ∀ c : Nat, c < 24 → (F b.toNatClampNeg c).toInt ≤ 30 := fun c hc => hF _ c (by omega) hc
    by_cases hw : 0 ≤ w.toInt ∧ w.toInt ≤ 2
    · rcases (show w.toInt = 0 ∨ w.toInt = 1 ∨ w.toInt = 2 by omega) with q | q | q
      · rw [show w = Int32.ofInt 0 from cx_i32 (by rw [q]; decide +kernel)]; exact ct_cd0 hf hb.1 hk1 hk2 hb.2
      · rw [show w = Int32.ofInt 1 from cx_i32 (by rw [q]; decide +kernel)]; exact ct_cd1 hf hb.1 hk1 hk2 hb.2
      · rw [show w = Int32.ofInt 2 from cx_i32 (by rw [q]; decide +kernel)]; exact ct_cd2 hf hb.1 hk1 hk2 hb.2
    · exact ct_cdw hf hb.1 hk1 hk2 hw
  · exact ct_cdN hb
end
