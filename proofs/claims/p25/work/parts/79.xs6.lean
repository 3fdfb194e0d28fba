noncomputable section
theorem cg_67 : cx_G 67 tb_67 TbX6 (some .int) := cx_G.of gok_67
theorem cg_68 : cx_G 68 tb_68 TbX6 (some .int) := cx_G.of gok_68
theorem cg_146 : cx_G 146 tb_146 TbX10 (some .int) := cx_G.of gok_146
theorem cg_150 : cx_G 150 tb_150 TbX10 (some .int) := cx_G.of gok_150
theorem cg_226 : cx_G 226 tb_226 TbX11 (some .int) := cx_G.of gok_226
theorem cg_233 : cx_G 233 tb_233 TbX11 (some .int) := cx_G.of gok_233
def sxV (z : Int32) (B R : Prop) : Prop := (z.toInt = -4 ∧ B) ∨ (z.toInt = -6 ∧ ¬ B ∧ R) ∨ (z.toInt = 0 ∧ ¬ B ∧ ¬ R)
theorem sxO_V {x a b : Int32} : sxV (sxO x a b) (x.toInt < a.toInt) (b.toInt < x.toInt) := by
  unfold sxV sxO
  by_cases q1 : x.toInt < a.toInt
  · rw [if_pos q1]; exact Or.inl ⟨by decide +kernel, q1⟩
  · rw [if_neg q1]
    by_cases q2 : b.toInt < x.toInt
    · rw [if_pos q2]; exact Or.inr (Or.inl ⟨by decide +kernel, q1, q2⟩)
    · rw [if_neg q2]; exact Or.inr (Or.inr ⟨by decide +kernel, q1, q2⟩)
theorem sxF_V {f g : Int32} {B R B2 R2 : Prop} (h1 : sxV f B R) (h2 : sxV g B2 R2) : sxV (sxF f g) (B ∨ B2) (R ∨ R2) := by
  have k4 : (Int32.ofInt (-4)).toInt = -4 := by decide +kernel
  unfold sxV at h1 h2 ⊢
  unfold sxF
  rcases h1 with ⟨a1, a2⟩ | ⟨a1, a2, a3⟩ | ⟨a1, a2, a3⟩
  · rw [if_pos (Or.inl a1)]; exact Or.inl ⟨k4, Or.inl a2⟩
  · rcases h2 with ⟨c1, c2⟩ | ⟨c1, c2, c3⟩ | ⟨c1, c2, c3⟩
    · rw [if_pos (Or.inr c1)]; exact Or.inl ⟨k4, Or.inr c2⟩
    · rw [if_neg (by omega), if_neg (by omega)]; exact Or.inr (Or.inl ⟨a1, fun q => q.elim a2 c2, Or.inl a3⟩)
    · rw [if_neg (by omega), if_neg (by omega)]; exact Or.inr (Or.inl ⟨a1, fun q => q.elim a2 c2, Or.inl a3⟩)
  · rcases h2 with ⟨c1, c2⟩ | ⟨c1, c2, c3⟩ | ⟨c1, c2, c3⟩
    · rw [if_pos (Or.inr c1)]; exact Or.inl ⟨k4, Or.inr c2⟩
    · rw [if_neg (by omega), if_pos a1]; exact Or.inr (Or.inl ⟨c1, fun q => q.elim a2 c2, Or.inr c3⟩)
    · rw [if_neg (by omega), if_pos a1]; exact Or.inr (Or.inr ⟨c1, fun q => q.elim a2 c2, fun q => q.elim a3 c3⟩)
/-- what drift answers and leaves -/
def drA (l s r dl ds dr z l2 s2 r2 : Int32) : Prop :=
  ((l.toInt < 0 ∨ (s.toInt < 0 ∨ r.toInt < 0)) ∧ z.toInt = -4 ∧ l2 = dl ∧ s2 = ds ∧ r2 = dr) ∨
  (¬ (l.toInt < 0 ∨ (s.toInt < 0 ∨ r.toInt < 0)) ∧ (4 < l.toInt ∨ (4 < s.toInt ∨ 4 < r.toInt)) ∧ z.toInt = -6 ∧ l2 = dl ∧ s2 = ds ∧ r2 = dr) ∨
  (((0 ≤ l.toInt ∧ l.toInt ≤ 4) ∧ (0 ≤ s.toInt ∧ s.toInt ≤ 4) ∧ (0 ≤ r.toInt ∧ r.toInt ≤ 4)) ∧ ¬ l.toInt + s.toInt + r.toInt = 4 ∧ z.toInt = -3 ∧ l2 = dl ∧ s2 = ds ∧ r2 = dr) ∨
  (((0 ≤ l.toInt ∧ l.toInt ≤ 4) ∧ (0 ≤ s.toInt ∧ s.toInt ≤ 4) ∧ (0 ≤ r.toInt ∧ r.toInt ≤ 4)) ∧ l.toInt + s.toInt + r.toInt = 4 ∧ z.toInt = 1 ∧ l2 = l ∧ s2 = s ∧ r2 = r)
def boA (p bo z b2 : Int32) : Prop := (¬ (0 ≤ p.toInt ∧ p.toInt < 32) ∧ z = Int32.ofInt (-1) ∧ b2 = bo) ∨ ((0 ≤ p.toInt ∧ p.toInt < 32) ∧ z = bo ∧ b2 = p)
def h_xb (dy : Int32) (r : Nat → Int32) (bf : Int64) (dl ds dr md bo : Int32) : cx_H := [(0, .inl (10, [.inr (.inl 1), .inr (.inl 2), .inr (.inl 15), .inr (.inl 21), .inr (.inl 43), .inr (.inl 68), .inr (.inl 77), .inr (.inl 87), .inr (.inl 101), .inr (.inl 107), .inr (.inl 113), .inl (.int dy)])), (1, .inr (.inl (0, 7, r))), (77, .inl (6, [.inr (.inl 78), .inr (.inl 79), .inr (.inl 80), .inr (.inl 81), .inr (.inl 85), .inr (.inl 86), .inl (.long bf), .inl (.int dl), .inl (.int ds), .inl (.int dr), .inl (.int md), .inl (.int bo)]))]
theorem ct_pd {bf : Int64} {dl ds dr md bo : Int32} {l s q : Int32} : cx_Ct 2 67 [.inr (.inl 77), .inl (.int l), .inl (.int s), .inl (.int q)] ([(77, .inl (6, [.inr (.inl 78), .inr (.inl 79), .inr (.inl 80), .inr (.inl 81), .inr (.inl 85), .inr (.inl 86), .inl (.long bf), .inl (.int dl), .inl (.int ds), .inl (.int dr), .inl (.int md), .inl (.int bo)]))]) (fun v h2 => v = some (.inl (.int (Int32.ofInt 1))) ∧ h2 = [(77, .inl (6, [.inr (.inl 78), .inr (.inl 79), .inr (.inl 80), .inr (.inl 81), .inr (.inl 85), .inr (.inl 86), .inl (.long bf), .inl (.int l), .inl (.int s), .inl (.int q), .inl (.int md), .inl (.int bo)]))]) := by
  refine cx_Ct.of cg_67 (nL := 4) rfl rfl rfl ?_
  show cx_T 2 67 [77] 0 ([some (.inr (.inl 77)), some (.inl (.int l)), some (.inl (.int s)), some (.inl (.int q))], [], [(77, .inl (6, [.inr (.inl 78), .inr (.inl 79), .inr (.inl 80), .inr (.inl 81), .inr (.inl 85), .inr (.inl 86), .inl (.long bf), .inl (.int dl), .inl (.int ds), .inl (.int dr), .inl (.int md), .inl (.int bo)]))]) _
  refine ex_aload_n cg_67 (ix := 0) (pc' := 1) rfl rfl rfl ?_
  refine ex_iload_n cg_67 (ix := 1) (pc' := 2) rfl rfl rfl ?_
  refine ex_putfield cg_67 (ix := 2) (pc' := 5) (h' := [(77, .inl (6, [.inr (.inl 78), .inr (.inl 79), .inr (.inl 80), .inr (.inl 81), .inr (.inl 85), .inr (.inl 86), .inl (.long bf), .inl (.int l), .inl (.int ds), .inl (.int dr), .inl (.int md), .inl (.int bo)]))]) rfl rfl rfl rfl rfl rfl rfl rfl ?_
  refine ex_aload_n cg_67 (ix := 3) (pc' := 6) rfl rfl rfl ?_
  refine ex_iload_n cg_67 (ix := 4) (pc' := 7) rfl rfl rfl ?_
  refine ex_putfield cg_67 (ix := 5) (pc' := 10) (h' := [(77, .inl (6, [.inr (.inl 78), .inr (.inl 79), .inr (.inl 80), .inr (.inl 81), .inr (.inl 85), .inr (.inl 86), .inl (.long bf), .inl (.int l), .inl (.int s), .inl (.int dr), .inl (.int md), .inl (.int bo)]))]) rfl rfl rfl rfl rfl rfl rfl rfl ?_
  refine ex_aload_n cg_67 (ix := 6) (pc' := 11) rfl rfl rfl ?_
  refine ex_iload_n cg_67 (ix := 7) (pc' := 12) rfl rfl rfl ?_
  refine ex_putfield cg_67 (ix := 8) (pc' := 15) (h' := [(77, .inl (6, [.inr (.inl 78), .inr (.inl 79), .inr (.inl 80), .inr (.inl 81), .inr (.inl 85), .inr (.inl 86), .inl (.long bf), .inl (.int l), .inl (.int s), .inl (.int q), .inl (.int md), .inl (.int bo)]))]) rfl rfl rfl rfl rfl rfl rfl rfl ?_
  refine ex_iconst cg_67 (ix := 9) (pc' := 16) rfl rfl ?_
  refine ex_ireturn cg_67 (ix := 10) rfl ?_
  exact ⟨rfl, rfl⟩
theorem ct_pb {bf : Int64} {dl ds dr md bo : Int32} {p : Int32} : cx_Ct 2 68 [.inr (.inl 77), .inl (.int p)] ([(77, .inl (6, [.inr (.inl 78), .inr (.inl 79), .inr (.inl 80), .inr (.inl 81), .inr (.inl 85), .inr (.inl 86), .inl (.long bf), .inl (.int dl), .inl (.int ds), .inl (.int dr), .inl (.int md), .inl (.int bo)]))]) (fun v h2 => v = some (.inl (.int bo)) ∧ h2 = [(77, .inl (6, [.inr (.inl 78), .inr (.inl 79), .inr (.inl 80), .inr (.inl 81), .inr (.inl 85), .inr (.inl 86), .inl (.long bf), .inl (.int dl), .inl (.int ds), .inl (.int dr), .inl (.int md), .inl (.int p)]))]) := by
  refine cx_Ct.of cg_68 (nL := 3) rfl rfl rfl ?_
  show cx_T 2 68 [77] 0 ([some (.inr (.inl 77)), some (.inl (.int p)), none], [], [(77, .inl (6, [.inr (.inl 78), .inr (.inl 79), .inr (.inl 80), .inr (.inl 81), .inr (.inl 85), .inr (.inl 86), .inl (.long bf), .inl (.int dl), .inl (.int ds), .inl (.int dr), .inl (.int md), .inl (.int bo)]))]) _
  refine ex_aload_n cg_68 (ix := 0) (pc' := 1) rfl rfl rfl ?_
  refine ex_getfield cg_68 (ix := 1) (pc' := 4) rfl rfl rfl rfl rfl ?_
  refine ex_istore_n cg_68 (ix := 2) (pc' := 5) (L' := [some (.inr (.inl 77)), some (.inl (.int p)), some (.inl (.int bo))]) rfl rfl rfl rfl ?_
  refine ex_aload_n cg_68 (ix := 3) (pc' := 6) rfl rfl rfl ?_
  refine ex_iload_n cg_68 (ix := 4) (pc' := 7) rfl rfl rfl ?_
  refine ex_putfield cg_68 (ix := 5) (pc' := 10) (h' := [(77, .inl (6, [.inr (.inl 78), .inr (.inl 79), .inr (.inl 80), .inr (.inl 81), .inr (.inl 85), .inr (.inl 86), .inl (.long bf), .inl (.int dl), .inl (.int ds), .inl (.int dr), .inl (.int md), .inl (.int p)]))]) rfl rfl rfl rfl rfl rfl rfl rfl ?_
  refine ex_iload_n cg_68 (ix := 6) (pc' := 11) rfl rfl rfl ?_
  refine ex_ireturn cg_68 (ix := 7) rfl ?_
  exact ⟨rfl, rfl⟩
theorem ct_drift {dy : Int32} {r : Nat → Int32} {bf : Int64} {dl ds dr md bo : Int32} {l s q : Int32} : cx_Ct 4 146 [.inr (.inl 0), .inl (.int l), .inl (.int s), .inl (.int q)] (h_xb dy r bf dl ds dr md bo) (fun v_ h2 => ∃ (z : Int32) (r2 : Nat → Int32) (l2 s2 q2 : Int32), v_ = some (.inl (.int z)) ∧ h2 = h_xb dy r2 bf l2 s2 q2 md bo ∧ drA l s q dl ds dr z l2 s2 q2) := by
  have kcm3 : (Int32.ofInt (-3)).toInt = -3 := by decide +kernel
  have kc0 : (Int32.ofInt 0).toInt = 0 := by decide +kernel
  have kc1 : (Int32.ofInt 1).toInt = 1 := by decide +kernel
  have kc4 : (Int32.ofInt 4).toInt = 4 := by decide +kernel
  have hsum : (0 ≤ l.toInt ∧ l.toInt ≤ 4) → (0 ≤ s.toInt ∧ s.toInt ≤ 4) → (0 ≤ q.toInt ∧ q.toInt ≤ 4) → (l + s + q).toInt = l.toInt + s.toInt + q.toInt := fun h1 h2 h3 => by
    have e1 : (l + s).toInt = l.toInt + s.toInt := cx_addc (by omega) (by omega)
    rw [cx_addc (by omega) (by omega), e1]
  have hV : ((sxF (sxO l (Int32.ofInt 0) (Int32.ofInt 4)) (sxF (sxO s (Int32.ofInt 0) (Int32.ofInt 4)) (sxO q (Int32.ofInt 0) (Int32.ofInt 4)))).toInt = -4 ∧ (l.toInt < 0 ∨ (s.toInt < 0 ∨ q.toInt < 0))) ∨ ((sxF (sxO l (Int32.ofInt 0) (Int32.ofInt 4)) (sxF (sxO s (Int32.ofInt 0) (Int32.ofInt 4)) (sxO q (Int32.ofInt 0) (Int32.ofInt 4)))).toInt = -6 ∧ ¬ (l.toInt < 0 ∨ (s.toInt < 0 ∨ q.toInt < 0)) ∧ (4 < l.toInt ∨ (4 < s.toInt ∨ 4 < q.toInt))) ∨ ((sxF (sxO l (Int32.ofInt 0) (Int32.ofInt 4)) (sxF (sxO s (Int32.ofInt 0) (Int32.ofInt 4)) (sxO q (Int32.ofInt 0) (Int32.ofInt 4)))).toInt = 0 ∧ ¬ (l.toInt < 0 ∨ (s.toInt < 0 ∨ q.toInt < 0)) ∧ ¬ (4 < l.toInt ∨ (4 < s.toInt ∨ 4 < q.toInt))) := by
    have h1 := sxF_V (sxO_V (x := l) (a := Int32.ofInt 0) (b := Int32.ofInt 4)) (sxF_V (sxO_V (x := s) (a := Int32.ofInt 0) (b := Int32.ofInt 4)) (sxO_V (x := q) (a := Int32.ofInt 0) (b := Int32.ofInt 4)))
    unfold sxV at h1
    rw [kc0, kc4] at h1
    exact h1
  refine cx_Ct.of cg_146 (nL := 6) rfl rfl rfl ?_
  show cx_T 4 146 [0, 1, 77] 0 ([some (.inr (.inl 0)), some (.inl (.int l)), some (.inl (.int s)), some (.inl (.int q)), none, none], [], (h_xb dy r bf dl ds dr md bo)) _
  refine ex_iconst cg_146 (ix := 0) (pc' := 1) rfl rfl ?_
  refine ex_istore cg_146 (ix := 1) (pc' := 3) (L' := [some (.inr (.inl 0)), some (.inl (.int l)), some (.inl (.int s)), some (.inl (.int q)), some (.inl (.int (Int32.ofInt 4))), none]) rfl rfl rfl rfl ?_
  refine ex_iload_n cg_146 (ix := 2) (pc' := 4) rfl rfl rfl ?_
  refine ex_iconst cg_146 (ix := 3) (pc' := 5) rfl rfl ?_
  refine ex_iload cg_146 (ix := 4) (pc' := 7) rfl rfl rfl ?_
  refine ex_callS cg_146 (ix := 5) (pc' := 10) (As := [.inl (.int l), .inl (.int (Int32.ofInt 0)), .inl (.int (Int32.ofInt 4))]) (r := []) rfl rfl rfl (ct_sxo (x := l) (a := Int32.ofInt 0) (b := Int32.ofInt 4)) (by first | decide | omega) rfl rfl trivial rfl rfl (fun v h2 hq => ?_)
  obtain ⟨rfl, rfl⟩ := hq
  show cx_T _ 146 _ 10 ([some (.inr (.inl 0)), some (.inl (.int l)), some (.inl (.int s)), some (.inl (.int q)), some (.inl (.int (Int32.ofInt 4))), none], [.inl (.int (sxO l (Int32.ofInt 0) (Int32.ofInt 4)))], [(0, .inl (10, [.inr (.inl 1), .inr (.inl 2), .inr (.inl 15), .inr (.inl 21), .inr (.inl 43), .inr (.inl 68), .inr (.inl 77), .inr (.inl 87), .inr (.inl 101), .inr (.inl 107), .inr (.inl 113), .inl (.int dy)])), (1, .inr (.inl (0, 7, r))), (77, .inl (6, [.inr (.inl 78), .inr (.inl 79), .inr (.inl 80), .inr (.inl 81), .inr (.inl 85), .inr (.inl 86), .inl (.long bf), .inl (.int dl), .inl (.int ds), .inl (.int dr), .inl (.int md), .inl (.int bo)]))]) _
  refine ex_iload_n cg_146 (ix := 6) (pc' := 11) rfl rfl rfl ?_
  refine ex_iconst cg_146 (ix := 7) (pc' := 12) rfl rfl ?_
  refine ex_iload cg_146 (ix := 8) (pc' := 14) rfl rfl rfl ?_
  refine ex_callS cg_146 (ix := 9) (pc' := 17) (As := [.inl (.int s), .inl (.int (Int32.ofInt 0)), .inl (.int (Int32.ofInt 4))]) (r := [.inl (.int (sxO l (Int32.ofInt 0) (Int32.ofInt 4)))]) rfl rfl rfl (ct_sxo (x := s) (a := Int32.ofInt 0) (b := Int32.ofInt 4)) (by first | decide | omega) rfl rfl trivial rfl rfl (fun v h2 hq => ?_)
  obtain ⟨rfl, rfl⟩ := hq
  show cx_T _ 146 _ 17 ([some (.inr (.inl 0)), some (.inl (.int l)), some (.inl (.int s)), some (.inl (.int q)), some (.inl (.int (Int32.ofInt 4))), none], [.inl (.int (sxO s (Int32.ofInt 0) (Int32.ofInt 4))), .inl (.int (sxO l (Int32.ofInt 0) (Int32.ofInt 4)))], [(0, .inl (10, [.inr (.inl 1), .inr (.inl 2), .inr (.inl 15), .inr (.inl 21), .inr (.inl 43), .inr (.inl 68), .inr (.inl 77), .inr (.inl 87), .inr (.inl 101), .inr (.inl 107), .inr (.inl 113), .inl (.int dy)])), (1, .inr (.inl (0, 7, r))), (77, .inl (6, [.inr (.inl 78), .inr (.inl 79), .inr (.inl 80), .inr (.inl 81), .inr (.inl 85), .inr (.inl 86), .inl (.long bf), .inl (.int dl), .inl (.int ds), .inl (.int dr), .inl (.int md), .inl (.int bo)]))]) _
  refine ex_iload_n cg_146 (ix := 10) (pc' := 18) rfl rfl rfl ?_
  refine ex_iconst cg_146 (ix := 11) (pc' := 19) rfl rfl ?_
  refine ex_iload cg_146 (ix := 12) (pc' := 21) rfl rfl rfl ?_
  refine ex_callS cg_146 (ix := 13) (pc' := 24) (As := [.inl (.int q), .inl (.int (Int32.ofInt 0)), .inl (.int (Int32.ofInt 4))]) (r := [.inl (.int (sxO s (Int32.ofInt 0) (Int32.ofInt 4))), .inl (.int (sxO l (Int32.ofInt 0) (Int32.ofInt 4)))]) rfl rfl rfl (ct_sxo (x := q) (a := Int32.ofInt 0) (b := Int32.ofInt 4)) (by first | decide | omega) rfl rfl trivial rfl rfl (fun v h2 hq => ?_)
  obtain ⟨rfl, rfl⟩ := hq
  show cx_T _ 146 _ 24 ([some (.inr (.inl 0)), some (.inl (.int l)), some (.inl (.int s)), some (.inl (.int q)), some (.inl (.int (Int32.ofInt 4))), none], [.inl (.int (sxO q (Int32.ofInt 0) (Int32.ofInt 4))), .inl (.int (sxO s (Int32.ofInt 0) (Int32.ofInt 4))), .inl (.int (sxO l (Int32.ofInt 0) (Int32.ofInt 4)))], [(0, .inl (10, [.inr (.inl 1), .inr (.inl 2), .inr (.inl 15), .inr (.inl 21), .inr (.inl 43), .inr (.inl 68), .inr (.inl 77), .inr (.inl 87), .inr (.inl 101), .inr (.inl 107), .inr (.inl 113), .inl (.int dy)])), (1, .inr (.inl (0, 7, r))), (77, .inl (6, [.inr (.inl 78), .inr (.inl 79), .inr (.inl 80), .inr (.inl 81), .inr (.inl 85), .inr (.inl 86), .inl (.long bf), .inl (.int dl), .inl (.int ds), .inl (.int dr), .inl (.int md), .inl (.int bo)]))]) _
  refine ex_callS cg_146 (ix := 14) (pc' := 27) (As := [.inl (.int (sxO s (Int32.ofInt 0) (Int32.ofInt 4))), .inl (.int (sxO q (Int32.ofInt 0) (Int32.ofInt 4)))]) (r := [.inl (.int (sxO l (Int32.ofInt 0) (Int32.ofInt 4)))]) rfl rfl rfl (ct_sxf (f := sxO s (Int32.ofInt 0) (Int32.ofInt 4)) (g := sxO q (Int32.ofInt 0) (Int32.ofInt 4))) (by first | decide | omega) rfl rfl trivial rfl rfl (fun v h2 hq => ?_)
  obtain ⟨rfl, rfl⟩ := hq
  show cx_T _ 146 _ 27 ([some (.inr (.inl 0)), some (.inl (.int l)), some (.inl (.int s)), some (.inl (.int q)), some (.inl (.int (Int32.ofInt 4))), none], [.inl (.int (sxF (sxO s (Int32.ofInt 0) (Int32.ofInt 4)) (sxO q (Int32.ofInt 0) (Int32.ofInt 4)))), .inl (.int (sxO l (Int32.ofInt 0) (Int32.ofInt 4)))], [(0, .inl (10, [.inr (.inl 1), .inr (.inl 2), .inr (.inl 15), .inr (.inl 21), .inr (.inl 43), .inr (.inl 68), .inr (.inl 77), .inr (.inl 87), .inr (.inl 101), .inr (.inl 107), .inr (.inl 113), .inl (.int dy)])), (1, .inr (.inl (0, 7, r))), (77, .inl (6, [.inr (.inl 78), .inr (.inl 79), .inr (.inl 80), .inr (.inl 81), .inr (.inl 85), .inr (.inl 86), .inl (.long bf), .inl (.int dl), .inl (.int ds), .inl (.int dr), .inl (.int md), .inl (.int bo)]))]) _
  refine ex_callS cg_146 (ix := 15) (pc' := 30) (As := [.inl (.int (sxO l (Int32.ofInt 0) (Int32.ofInt 4))), .inl (.int (sxF (sxO s (Int32.ofInt 0) (Int32.ofInt 4)) (sxO q (Int32.ofInt 0) (Int32.ofInt 4))))]) (r := []) rfl rfl rfl (ct_sxf (f := sxO l (Int32.ofInt 0) (Int32.ofInt 4)) (g := sxF (sxO s (Int32.ofInt 0) (Int32.ofInt 4)) (sxO q (Int32.ofInt 0) (Int32.ofInt 4)))) (by first | decide | omega) rfl rfl trivial rfl rfl (fun v h2 hq => ?_)
  obtain ⟨rfl, rfl⟩ := hq
  show cx_T _ 146 _ 30 ([some (.inr (.inl 0)), some (.inl (.int l)), some (.inl (.int s)), some (.inl (.int q)), some (.inl (.int (Int32.ofInt 4))), none], [.inl (.int (sxF (sxO l (Int32.ofInt 0) (Int32.ofInt 4)) (sxF (sxO s (Int32.ofInt 0) (Int32.ofInt 4)) (sxO q (Int32.ofInt 0) (Int32.ofInt 4)))))], [(0, .inl (10, [.inr (.inl 1), .inr (.inl 2), .inr (.inl 15), .inr (.inl 21), .inr (.inl 43), .inr (.inl 68), .inr (.inl 77), .inr (.inl 87), .inr (.inl 101), .inr (.inl 107), .inr (.inl 113), .inl (.int dy)])), (1, .inr (.inl (0, 7, r))), (77, .inl (6, [.inr (.inl 78), .inr (.inl 79), .inr (.inl 80), .inr (.inl 81), .inr (.inl 85), .inr (.inl 86), .inl (.long bf), .inl (.int dl), .inl (.int ds), .inl (.int dr), .inl (.int md), .inl (.int bo)]))]) _
  refine ex_istore cg_146 (ix := 16) (pc' := 32) (L' := [some (.inr (.inl 0)), some (.inl (.int l)), some (.inl (.int s)), some (.inl (.int q)), some (.inl (.int (Int32.ofInt 4))), some (.inl (.int (sxF (sxO l (Int32.ofInt 0) (Int32.ofInt 4)) (sxF (sxO s (Int32.ofInt 0) (Int32.ofInt 4)) (sxO q (Int32.ofInt 0) (Int32.ofInt 4))))))]) rfl rfl rfl rfl ?_
  refine ex_iload cg_146 (ix := 17) (pc' := 34) rfl rfl rfl ?_
  refine ex_if cg_146 (ix := 18) (t := 51) (pc' := 37) rfl rfl rfl (fun hb34 => ?_) (fun hb34 => ?_)
  · have hb34 : ¬ (sxF (sxO l (Int32.ofInt 0) (Int32.ofInt 4)) (sxF (sxO s (Int32.ofInt 0) (Int32.ofInt 4)) (sxO q (Int32.ofInt 0) (Int32.ofInt 4)))).toInt = 0 := hb34
    refine ex_iload cg_146 (ix := 28) (pc' := 53) rfl rfl rfl ?_
    refine ex_if cg_146 (ix := 29) (t := 65) (pc' := 56) rfl rfl rfl (fun hb53 => ?_) (fun hb53 => ?_)
    · have hb53 : (sxF (sxO l (Int32.ofInt 0) (Int32.ofInt 4)) (sxF (sxO s (Int32.ofInt 0) (Int32.ofInt 4)) (sxO q (Int32.ofInt 0) (Int32.ofInt 4)))).toInt = 0 := hb53
      refine ex_aload_n cg_146 (ix := 34) (pc' := 66) rfl rfl rfl ?_
      refine ex_getfield cg_146 (ix := 35) (pc' := 69) rfl rfl rfl rfl rfl ?_
      refine ex_iload_n cg_146 (ix := 36) (pc' := 70) rfl rfl rfl ?_
      refine ex_iload_n cg_146 (ix := 37) (pc' := 71) rfl rfl rfl ?_
      refine ex_iload_n cg_146 (ix := 38) (pc' := 72) rfl rfl rfl ?_
      refine ex_callV cg_146 (ix := 39) (pc' := 75) (As := [.inl (.int l), .inl (.int s), .inl (.int q)]) (r := []) rfl rfl rfl (ct_pd (bf := bf) (dl := dl) (ds := ds) (dr := dr) (md := md) (bo := bo) (l := l) (s := s) (q := q)) (by first | decide | omega) rfl rfl rfl ⟨rfl, trivial⟩ rfl rfl (fun v h2 hq => ?_)
      obtain ⟨rfl, rfl⟩ := hq
      show cx_T _ 146 _ 75 ([some (.inr (.inl 0)), some (.inl (.int l)), some (.inl (.int s)), some (.inl (.int q)), some (.inl (.int (Int32.ofInt 4))), some (.inl (.int (sxF (sxO l (Int32.ofInt 0) (Int32.ofInt 4)) (sxF (sxO s (Int32.ofInt 0) (Int32.ofInt 4)) (sxO q (Int32.ofInt 0) (Int32.ofInt 4))))))], [.inl (.int (Int32.ofInt 1))], [(0, .inl (10, [.inr (.inl 1), .inr (.inl 2), .inr (.inl 15), .inr (.inl 21), .inr (.inl 43), .inr (.inl 68), .inr (.inl 77), .inr (.inl 87), .inr (.inl 101), .inr (.inl 107), .inr (.inl 113), .inl (.int dy)])), (1, .inr (.inl (0, 7, r))), (77, .inl (6, [.inr (.inl 78), .inr (.inl 79), .inr (.inl 80), .inr (.inl 81), .inr (.inl 85), .inr (.inl 86), .inl (.long bf), .inl (.int l), .inl (.int s), .inl (.int q), .inl (.int md), .inl (.int bo)]))]) _
      refine ex_ireturn cg_146 (ix := 40) rfl ?_
      first | (exfalso; omega) | exact ⟨_, r, _, _, _, rfl, rfl, Or.inr (Or.inr (Or.inr ⟨by omega, by first | (rw [hsum (by omega) (by omega) (by omega)] at hb44; omega) | (rw [hsum (by omega) (by omega) (by omega)] at hb52; omega), by decide +kernel, rfl, rfl, rfl⟩))⟩
    · have hb53 : ¬ ((sxF (sxO l (Int32.ofInt 0) (Int32.ofInt 4)) (sxF (sxO s (Int32.ofInt 0) (Int32.ofInt 4)) (sxO q (Int32.ofInt 0) (Int32.ofInt 4)))).toInt = 0) := hb53
      refine ex_aload_n cg_146 (ix := 30) (pc' := 57) rfl rfl rfl ?_
      refine ex_iload cg_146 (ix := 31) (pc' := 59) rfl rfl rfl ?_
      refine ex_callV cg_146 (ix := 32) (pc' := 62) (As := [.inl (.int (sxF (sxO l (Int32.ofInt 0) (Int32.ofInt 4)) (sxF (sxO s (Int32.ofInt 0) (Int32.ofInt 4)) (sxO q (Int32.ofInt 0) (Int32.ofInt 4)))))]) (r := []) rfl rfl rfl (ct_xref (dy := dy) (x := sxF (sxO l (Int32.ofInt 0) (Int32.ofInt 4)) (sxF (sxO s (Int32.ofInt 0) (Int32.ofInt 4)) (sxO q (Int32.ofInt 0) (Int32.ofInt 4)))) (r := r) (by first | decide +kernel | omega) (by first | decide +kernel | omega)) (by first | decide | omega) rfl rfl rfl ⟨rfl, rfl, trivial⟩ rfl rfl (fun v h2 hq => ?_)
      obtain ⟨rfl, rr2, rfl⟩ := hq
      show cx_T _ 146 _ 62 ([some (.inr (.inl 0)), some (.inl (.int l)), some (.inl (.int s)), some (.inl (.int q)), some (.inl (.int (Int32.ofInt 4))), some (.inl (.int (sxF (sxO l (Int32.ofInt 0) (Int32.ofInt 4)) (sxF (sxO s (Int32.ofInt 0) (Int32.ofInt 4)) (sxO q (Int32.ofInt 0) (Int32.ofInt 4))))))], [.inl (.int (sxF (sxO l (Int32.ofInt 0) (Int32.ofInt 4)) (sxF (sxO s (Int32.ofInt 0) (Int32.ofInt 4)) (sxO q (Int32.ofInt 0) (Int32.ofInt 4)))))], [(0, .inl (10, [.inr (.inl 1), .inr (.inl 2), .inr (.inl 15), .inr (.inl 21), .inr (.inl 43), .inr (.inl 68), .inr (.inl 77), .inr (.inl 87), .inr (.inl 101), .inr (.inl 107), .inr (.inl 113), .inl (.int dy)])), (1, .inr (.inl (0, 7, rr2))), (77, .inl (6, [.inr (.inl 78), .inr (.inl 79), .inr (.inl 80), .inr (.inl 81), .inr (.inl 85), .inr (.inl 86), .inl (.long bf), .inl (.int dl), .inl (.int ds), .inl (.int dr), .inl (.int md), .inl (.int bo)]))]) _
      refine ex_goto cg_146 (ix := 33) (pc' := 75) rfl rfl ?_
      refine ex_ireturn cg_146 (ix := 40) rfl ?_
      rcases (show (l.toInt < 0 ∨ (s.toInt < 0 ∨ q.toInt < 0)) ∨ ¬ (l.toInt < 0 ∨ (s.toInt < 0 ∨ q.toInt < 0)) by omega) with hB | hB
      · exact ⟨_, rr2, dl, ds, dr, rfl, rfl, Or.inl ⟨hB, by omega, rfl, rfl, rfl⟩⟩
      · exact ⟨_, rr2, dl, ds, dr, rfl, rfl, Or.inr (Or.inl ⟨hB, by omega, by omega, rfl, rfl, rfl⟩)⟩
  · have hb34 : ¬ (¬ (sxF (sxO l (Int32.ofInt 0) (Int32.ofInt 4)) (sxF (sxO s (Int32.ofInt 0) (Int32.ofInt 4)) (sxO q (Int32.ofInt 0) (Int32.ofInt 4)))).toInt = 0) := hb34
    refine ex_iload_n cg_146 (ix := 19) (pc' := 38) rfl rfl rfl ?_
    refine ex_iload_n cg_146 (ix := 20) (pc' := 39) rfl rfl rfl ?_
    refine ex_iadd cg_146 (ix := 21) (pc' := 40) rfl rfl ?_
    refine ex_iload_n cg_146 (ix := 22) (pc' := 41) rfl rfl rfl ?_
    refine ex_iadd cg_146 (ix := 23) (pc' := 42) rfl rfl ?_
    refine ex_iload cg_146 (ix := 24) (pc' := 44) rfl rfl rfl ?_
    refine ex_icmp cg_146 (ix := 25) (t := 51) (pc' := 47) rfl rfl rfl (fun hb44 => ?_) (fun hb44 => ?_)
    · have hb44 : ((l + s) + q).toInt = (Int32.ofInt 4).toInt := hb44
      refine ex_iload cg_146 (ix := 28) (pc' := 53) rfl rfl rfl ?_
      refine ex_if cg_146 (ix := 29) (t := 65) (pc' := 56) rfl rfl rfl (fun hb53 => ?_) (fun hb53 => ?_)
      · have hb53 : (sxF (sxO l (Int32.ofInt 0) (Int32.ofInt 4)) (sxF (sxO s (Int32.ofInt 0) (Int32.ofInt 4)) (sxO q (Int32.ofInt 0) (Int32.ofInt 4)))).toInt = 0 := hb53
        refine ex_aload_n cg_146 (ix := 34) (pc' := 66) rfl rfl rfl ?_
        refine ex_getfield cg_146 (ix := 35) (pc' := 69) rfl rfl rfl rfl rfl ?_
        refine ex_iload_n cg_146 (ix := 36) (pc' := 70) rfl rfl rfl ?_
        refine ex_iload_n cg_146 (ix := 37) (pc' := 71) rfl rfl rfl ?_
        refine ex_iload_n cg_146 (ix := 38) (pc' := 72) rfl rfl rfl ?_
        refine ex_callV cg_146 (ix := 39) (pc' := 75) (As := [.inl (.int l), .inl (.int s), .inl (.int q)]) (r := []) rfl rfl rfl (ct_pd (bf := bf) (dl := dl) (ds := ds) (dr := dr) (md := md) (bo := bo) (l := l) (s := s) (q := q)) (by first | decide | omega) rfl rfl rfl ⟨rfl, trivial⟩ rfl rfl (fun v h2 hq => ?_)
        obtain ⟨rfl, rfl⟩ := hq
        show cx_T _ 146 _ 75 ([some (.inr (.inl 0)), some (.inl (.int l)), some (.inl (.int s)), some (.inl (.int q)), some (.inl (.int (Int32.ofInt 4))), some (.inl (.int (sxF (sxO l (Int32.ofInt 0) (Int32.ofInt 4)) (sxF (sxO s (Int32.ofInt 0) (Int32.ofInt 4)) (sxO q (Int32.ofInt 0) (Int32.ofInt 4))))))], [.inl (.int (Int32.ofInt 1))], [(0, .inl (10, [.inr (.inl 1), .inr (.inl 2), .inr (.inl 15), .inr (.inl 21), .inr (.inl 43), .inr (.inl 68), .inr (.inl 77), .inr (.inl 87), .inr (.inl 101), .inr (.inl 107), .inr (.inl 113), .inl (.int dy)])), (1, .inr (.inl (0, 7, r))), (77, .inl (6, [.inr (.inl 78), .inr (.inl 79), .inr (.inl 80), .inr (.inl 81), .inr (.inl 85), .inr (.inl 86), .inl (.long bf), .inl (.int l), .inl (.int s), .inl (.int q), .inl (.int md), .inl (.int bo)]))]) _
        refine ex_ireturn cg_146 (ix := 40) rfl ?_
        first | (exfalso; omega) | exact ⟨_, r, _, _, _, rfl, rfl, Or.inr (Or.inr (Or.inr ⟨by omega, by first | (rw [hsum (by omega) (by omega) (by omega)] at hb44; omega) | (rw [hsum (by omega) (by omega) (by omega)] at hb52; omega), by decide +kernel, rfl, rfl, rfl⟩))⟩
      · have hb53 : ¬ ((sxF (sxO l (Int32.ofInt 0) (Int32.ofInt 4)) (sxF (sxO s (Int32.ofInt 0) (Int32.ofInt 4)) (sxO q (Int32.ofInt 0) (Int32.ofInt 4)))).toInt = 0) := hb53
        refine ex_aload_n cg_146 (ix := 30) (pc' := 57) rfl rfl rfl ?_
        refine ex_iload cg_146 (ix := 31) (pc' := 59) rfl rfl rfl ?_
        refine ex_callV cg_146 (ix := 32) (pc' := 62) (As := [.inl (.int (sxF (sxO l (Int32.ofInt 0) (Int32.ofInt 4)) (sxF (sxO s (Int32.ofInt 0) (Int32.ofInt 4)) (sxO q (Int32.ofInt 0) (Int32.ofInt 4)))))]) (r := []) rfl rfl rfl (ct_xref (dy := dy) (x := sxF (sxO l (Int32.ofInt 0) (Int32.ofInt 4)) (sxF (sxO s (Int32.ofInt 0) (Int32.ofInt 4)) (sxO q (Int32.ofInt 0) (Int32.ofInt 4)))) (r := r) (by first | decide +kernel | omega) (by first | decide +kernel | omega)) (by first | decide | omega) rfl rfl rfl ⟨rfl, rfl, trivial⟩ rfl rfl (fun v h2 hq => ?_)
        obtain ⟨rfl, rr2, rfl⟩ := hq
        show cx_T _ 146 _ 62 ([some (.inr (.inl 0)), some (.inl (.int l)), some (.inl (.int s)), some (.inl (.int q)), some (.inl (.int (Int32.ofInt 4))), some (.inl (.int (sxF (sxO l (Int32.ofInt 0) (Int32.ofInt 4)) (sxF (sxO s (Int32.ofInt 0) (Int32.ofInt 4)) (sxO q (Int32.ofInt 0) (Int32.ofInt 4))))))], [.inl (.int (sxF (sxO l (Int32.ofInt 0) (Int32.ofInt 4)) (sxF (sxO s (Int32.ofInt 0) (Int32.ofInt 4)) (sxO q (Int32.ofInt 0) (Int32.ofInt 4)))))], [(0, .inl (10, [.inr (.inl 1), .inr (.inl 2), .inr (.inl 15), .inr (.inl 21), .inr (.inl 43), .inr (.inl 68), .inr (.inl 77), .inr (.inl 87), .inr (.inl 101), .inr (.inl 107), .inr (.inl 113), .inl (.int dy)])), (1, .inr (.inl (0, 7, rr2))), (77, .inl (6, [.inr (.inl 78), .inr (.inl 79), .inr (.inl 80), .inr (.inl 81), .inr (.inl 85), .inr (.inl 86), .inl (.long bf), .inl (.int dl), .inl (.int ds), .inl (.int dr), .inl (.int md), .inl (.int bo)]))]) _
        refine ex_goto cg_146 (ix := 33) (pc' := 75) rfl rfl ?_
        refine ex_ireturn cg_146 (ix := 40) rfl ?_
        rcases (show (l.toInt < 0 ∨ (s.toInt < 0 ∨ q.toInt < 0)) ∨ ¬ (l.toInt < 0 ∨ (s.toInt < 0 ∨ q.toInt < 0)) by omega) with hB | hB
        · exact ⟨_, rr2, dl, ds, dr, rfl, rfl, Or.inl ⟨hB, by omega, rfl, rfl, rfl⟩⟩
        · exact ⟨_, rr2, dl, ds, dr, rfl, rfl, Or.inr (Or.inl ⟨hB, by omega, by omega, rfl, rfl, rfl⟩)⟩
    · have hb44 : ¬ (((l + s) + q).toInt = (Int32.ofInt 4).toInt) := hb44
      refine ex_bipush cg_146 (ix := 26) (pc' := 49) rfl rfl rfl ?_
      refine ex_istore cg_146 (ix := 27) (pc' := 51) (L' := [some (.inr (.inl 0)), some (.inl (.int l)), some (.inl (.int s)), some (.inl (.int q)), some (.inl (.int (Int32.ofInt 4))), some (.inl (.int (Int32.ofInt (-3))))]) rfl rfl rfl rfl ?_
      refine ex_iload cg_146 (ix := 28) (pc' := 53) rfl rfl rfl ?_
      refine ex_if cg_146 (ix := 29) (t := 65) (pc' := 56) rfl rfl rfl (fun hb53 => ?_) (fun hb53 => ?_)
      · have hb53 : (Int32.ofInt (-3)).toInt = 0 := hb53
        exfalso; first | omega | exact absurd hb53 (by decide +kernel)
      · have hb53 : ¬ ((Int32.ofInt (-3)).toInt = 0) := hb53
        refine ex_aload_n cg_146 (ix := 30) (pc' := 57) rfl rfl rfl ?_
        refine ex_iload cg_146 (ix := 31) (pc' := 59) rfl rfl rfl ?_
        refine ex_callV cg_146 (ix := 32) (pc' := 62) (As := [.inl (.int (Int32.ofInt (-3)))]) (r := []) rfl rfl rfl (ct_xref (dy := dy) (x := Int32.ofInt (-3)) (r := r) (by first | decide +kernel | omega) (by first | decide +kernel | omega)) (by first | decide | omega) rfl rfl rfl ⟨rfl, rfl, trivial⟩ rfl rfl (fun v h2 hq => ?_)
        obtain ⟨rfl, rr2, rfl⟩ := hq
        show cx_T _ 146 _ 62 ([some (.inr (.inl 0)), some (.inl (.int l)), some (.inl (.int s)), some (.inl (.int q)), some (.inl (.int (Int32.ofInt 4))), some (.inl (.int (Int32.ofInt (-3))))], [.inl (.int (Int32.ofInt (-3)))], [(0, .inl (10, [.inr (.inl 1), .inr (.inl 2), .inr (.inl 15), .inr (.inl 21), .inr (.inl 43), .inr (.inl 68), .inr (.inl 77), .inr (.inl 87), .inr (.inl 101), .inr (.inl 107), .inr (.inl 113), .inl (.int dy)])), (1, .inr (.inl (0, 7, rr2))), (77, .inl (6, [.inr (.inl 78), .inr (.inl 79), .inr (.inl 80), .inr (.inl 81), .inr (.inl 85), .inr (.inl 86), .inl (.long bf), .inl (.int dl), .inl (.int ds), .inl (.int dr), .inl (.int md), .inl (.int bo)]))]) _
        refine ex_goto cg_146 (ix := 33) (pc' := 75) rfl rfl ?_
        refine ex_ireturn cg_146 (ix := 40) rfl ?_
        first | (exfalso; omega) | exact ⟨_, rr2, dl, ds, dr, rfl, rfl, Or.inr (Or.inr (Or.inl ⟨by omega, by first | (rw [hsum (by omega) (by omega) (by omega)] at hb44; omega) | (rw [hsum (by omega) (by omega) (by omega)] at hb52; omega), by decide +kernel, rfl, rfl, rfl⟩))⟩
theorem ct_boat {dy : Int32} {r : Nat → Int32} {bf : Int64} {dl ds dr md bo : Int32} {p : Int32} : cx_Ct 4 150 [.inr (.inl 0), .inl (.int p)] (h_xb dy r bf dl ds dr md bo) (fun v_ h2 => ∃ (z : Int32) (r2 : Nat → Int32) (b2 : Int32), v_ = some (.inl (.int z)) ∧ h2 = h_xb dy r2 bf dl ds dr md b2 ∧ boA p bo z b2) := by
  have kc0 : (Int32.ofInt 0).toInt = 0 := by decide +kernel
  have kc1 : (Int32.ofInt 1).toInt = 1 := by decide +kernel
  have kcm1 : (Int32.ofInt (-1)).toInt = -1 := by decide +kernel
  refine cx_Ct.of cg_150 (nL := 2) rfl rfl rfl ?_
  show cx_T 4 150 [0, 1, 77] 0 ([some (.inr (.inl 0)), some (.inl (.int p))], [], (h_xb dy r bf dl ds dr md bo)) _
  refine ex_iload_n cg_150 (ix := 0) (pc' := 1) rfl rfl rfl ?_
  refine ex_callS cg_150 (ix := 1) (pc' := 4) (As := [.inl (.int p)]) (r := []) rfl rfl rfl (ct_xplace (x := p)) (by first | decide | omega) rfl rfl trivial rfl rfl (fun v h2 hq => ?_)
  obtain ⟨z, rfl, rfl, hz1⟩ := hq
  rcases hz1 with ⟨hz1, rfl⟩ | ⟨hz1, rfl⟩
  · show cx_T _ 150 _ 4 ([some (.inr (.inl 0)), some (.inl (.int p))], [.inl (.int (Int32.ofInt 1))], [(0, .inl (10, [.inr (.inl 1), .inr (.inl 2), .inr (.inl 15), .inr (.inl 21), .inr (.inl 43), .inr (.inl 68), .inr (.inl 77), .inr (.inl 87), .inr (.inl 101), .inr (.inl 107), .inr (.inl 113), .inl (.int dy)])), (1, .inr (.inl (0, 7, r))), (77, .inl (6, [.inr (.inl 78), .inr (.inl 79), .inr (.inl 80), .inr (.inl 81), .inr (.inl 85), .inr (.inl 86), .inl (.long bf), .inl (.int dl), .inl (.int ds), .inl (.int dr), .inl (.int md), .inl (.int bo)]))]) _
    refine ex_if cg_150 (ix := 2) (t := 18) (pc' := 7) rfl rfl rfl (fun hb4 => ?_) (fun hb4 => ?_)
    · have hb4 : (Int32.ofInt 1).toInt = 0 := hb4
      exfalso; first | omega | exact absurd hb4 (by decide +kernel)
    · have hb4 : ¬ ((Int32.ofInt 1).toInt = 0) := hb4
      refine ex_aload_n cg_150 (ix := 3) (pc' := 8) rfl rfl rfl ?_
      refine ex_getfield cg_150 (ix := 4) (pc' := 11) rfl rfl rfl rfl rfl ?_
      refine ex_iload_n cg_150 (ix := 5) (pc' := 12) rfl rfl rfl ?_
      refine ex_callV cg_150 (ix := 6) (pc' := 15) (As := [.inl (.int p)]) (r := []) rfl rfl rfl (ct_pb (bf := bf) (dl := dl) (ds := ds) (dr := dr) (md := md) (bo := bo) (p := p)) (by first | decide | omega) rfl rfl rfl ⟨rfl, trivial⟩ rfl rfl (fun v h2 hq => ?_)
      obtain ⟨rfl, rfl⟩ := hq
      show cx_T _ 150 _ 15 ([some (.inr (.inl 0)), some (.inl (.int p))], [.inl (.int bo)], [(0, .inl (10, [.inr (.inl 1), .inr (.inl 2), .inr (.inl 15), .inr (.inl 21), .inr (.inl 43), .inr (.inl 68), .inr (.inl 77), .inr (.inl 87), .inr (.inl 101), .inr (.inl 107), .inr (.inl 113), .inl (.int dy)])), (1, .inr (.inl (0, 7, r))), (77, .inl (6, [.inr (.inl 78), .inr (.inl 79), .inr (.inl 80), .inr (.inl 81), .inr (.inl 85), .inr (.inl 86), .inl (.long bf), .inl (.int dl), .inl (.int ds), .inl (.int dr), .inl (.int md), .inl (.int p)]))]) _
      refine ex_goto cg_150 (ix := 7) (pc' := 23) rfl rfl ?_
      refine ex_ireturn cg_150 (ix := 11) rfl ?_
      exact ⟨_, r, p, rfl, rfl, Or.inr ⟨hz1, rfl, rfl⟩⟩
  · show cx_T _ 150 _ 4 ([some (.inr (.inl 0)), some (.inl (.int p))], [.inl (.int (Int32.ofInt 0))], [(0, .inl (10, [.inr (.inl 1), .inr (.inl 2), .inr (.inl 15), .inr (.inl 21), .inr (.inl 43), .inr (.inl 68), .inr (.inl 77), .inr (.inl 87), .inr (.inl 101), .inr (.inl 107), .inr (.inl 113), .inl (.int dy)])), (1, .inr (.inl (0, 7, r))), (77, .inl (6, [.inr (.inl 78), .inr (.inl 79), .inr (.inl 80), .inr (.inl 81), .inr (.inl 85), .inr (.inl 86), .inl (.long bf), .inl (.int dl), .inl (.int ds), .inl (.int dr), .inl (.int md), .inl (.int bo)]))]) _
    refine ex_if cg_150 (ix := 2) (t := 18) (pc' := 7) rfl rfl rfl (fun hb4 => ?_) (fun hb4 => ?_)
    · have hb4 : (Int32.ofInt 0).toInt = 0 := hb4
      refine ex_aload_n cg_150 (ix := 8) (pc' := 19) rfl rfl rfl ?_
      refine ex_iconst cg_150 (ix := 9) (pc' := 20) rfl rfl ?_
      refine ex_callV cg_150 (ix := 10) (pc' := 23) (As := [.inl (.int (Int32.ofInt (-1)))]) (r := []) rfl rfl rfl (ct_xref (dy := dy) (x := Int32.ofInt (-1)) (r := r) (by first | decide +kernel | omega) (by first | decide +kernel | omega)) (by first | decide | omega) rfl rfl rfl ⟨rfl, rfl, trivial⟩ rfl rfl (fun v h2 hq => ?_)
      obtain ⟨rfl, rr2, rfl⟩ := hq
      show cx_T _ 150 _ 23 ([some (.inr (.inl 0)), some (.inl (.int p))], [.inl (.int (Int32.ofInt (-1)))], [(0, .inl (10, [.inr (.inl 1), .inr (.inl 2), .inr (.inl 15), .inr (.inl 21), .inr (.inl 43), .inr (.inl 68), .inr (.inl 77), .inr (.inl 87), .inr (.inl 101), .inr (.inl 107), .inr (.inl 113), .inl (.int dy)])), (1, .inr (.inl (0, 7, rr2))), (77, .inl (6, [.inr (.inl 78), .inr (.inl 79), .inr (.inl 80), .inr (.inl 81), .inr (.inl 85), .inr (.inl 86), .inl (.long bf), .inl (.int dl), .inl (.int ds), .inl (.int dr), .inl (.int md), .inl (.int bo)]))]) _
      refine ex_ireturn cg_150 (ix := 11) rfl ?_
      exact ⟨_, rr2, bo, rfl, rfl, Or.inl ⟨hz1, rfl, rfl⟩⟩
    · have hb4 : ¬ ((Int32.ofInt 0).toInt = 0) := hb4
      exfalso; first | omega | exact absurd hb4 (by decide +kernel)
theorem ct_mdrift {mi : Nat → Int32} {ml : Nat → Int64} {r : Nat → Int32} {l s q : Int32} : cx_Ct 3 226 [.inr (.inl 119), .inl (.int l), .inl (.int s), .inl (.int q)] (h_mr mi ml r) (fun v_ h2 => ∃ (z : Int32) (r2 : Nat → Int32) (l2 s2 q2 : Int32), v_ = some (.inl (.int z)) ∧ h2 = h_mr (upi (upi (upi (upi mi 0 (Int32.ofInt 0)) 42 l2) 43 s2) 44 q2) ml r2 ∧ drA l s q (mi 42) (mi 43) (mi 44) z l2 s2 q2) := by
  have kcm6 : (Int32.ofInt (-6)).toInt = -6 := by decide +kernel
  have kcm4 : (Int32.ofInt (-4)).toInt = -4 := by decide +kernel
  have kcm3 : (Int32.ofInt (-3)).toInt = -3 := by decide +kernel
  have kc0 : (Int32.ofInt 0).toInt = 0 := by decide +kernel
  have kc1 : (Int32.ofInt 1).toInt = 1 := by decide +kernel
  have kc4 : (Int32.ofInt 4).toInt = 4 := by decide +kernel
  have hsum : (0 ≤ l.toInt ∧ l.toInt ≤ 4) → (0 ≤ s.toInt ∧ s.toInt ≤ 4) → (0 ≤ q.toInt ∧ q.toInt ≤ 4) → (l + s + q).toInt = l.toInt + s.toInt + q.toInt := fun h1 h2 h3 => by
    have e1 : (l + s).toInt = l.toInt + s.toInt := cx_addc (by omega) (by omega)
    rw [cx_addc (by omega) (by omega), e1]
  refine cx_Ct.of cg_226 (nL := 4) rfl rfl rfl ?_
  show cx_T 3 226 [119, 126] 0 ([some (.inr (.inl 119)), some (.inl (.int l)), some (.inl (.int s)), some (.inl (.int q))], [], (h_mr mi ml r)) _
  refine ex_aload_n cg_226 (ix := 0) (pc' := 1) rfl rfl rfl ?_
  refine ex_iconst cg_226 (ix := 1) (pc' := 2) rfl rfl ?_
  refine ex_putfield cg_226 (ix := 2) (pc' := 5) (h' := [(119, .inl (11, vs_119 (upi mi 0 (Int32.ofInt 0)) ml)), (126, .inr (.inl (0, 7, r)))]) rfl rfl rfl rfl rfl rfl rfl rfl ?_
  refine ex_iload_n cg_226 (ix := 3) (pc' := 6) rfl rfl rfl ?_
  refine ex_if cg_226 (ix := 4) (t := 17) (pc' := 9) rfl rfl rfl (fun hb6 => ?_) (fun hb6 => ?_)
  · have hb6 : l.toInt < 0 := hb6
    refine ex_aload_n cg_226 (ix := 9) (pc' := 18) rfl rfl rfl ?_
    refine ex_bipush cg_226 (ix := 10) (pc' := 20) rfl rfl rfl ?_
    refine ex_callV cg_226 (ix := 11) (pc' := 23) (As := [.inl (.int (Int32.ofInt (-4)))]) (r := []) rfl rfl rfl (ct_mref (mi := (upi mi 0 (Int32.ofInt 0))) (ml := ml) (x := Int32.ofInt (-4)) (r := r) (by decide +kernel) (by decide +kernel)) (by first | decide | omega) rfl rfl rfl ⟨rfl, rfl, trivial⟩ rfl rfl (fun v h2 hq => ?_)
    obtain ⟨rfl, rr2, rfl⟩ := hq
    show cx_T _ 226 _ 23 ([some (.inr (.inl 119)), some (.inl (.int l)), some (.inl (.int s)), some (.inl (.int q))], [.inl (.int (Int32.ofInt (-4)))], [(119, .inl (11, vs_119 (upi mi 0 (Int32.ofInt 0)) ml)), (126, .inr (.inl (0, 7, rr2)))]) _
    refine ex_ireturn cg_226 (ix := 12) rfl ?_
    exact ⟨_, rr2, mi 42, mi 43, mi 44, rfl, rfl, Or.inl ⟨by omega, by decide +kernel, rfl, rfl, rfl⟩⟩
  · have hb6 : ¬ (l.toInt < 0) := hb6
    refine ex_iload_n cg_226 (ix := 5) (pc' := 10) rfl rfl rfl ?_
    refine ex_if cg_226 (ix := 6) (t := 17) (pc' := 13) rfl rfl rfl (fun hb10 => ?_) (fun hb10 => ?_)
    · have hb10 : s.toInt < 0 := hb10
      refine ex_aload_n cg_226 (ix := 9) (pc' := 18) rfl rfl rfl ?_
      refine ex_bipush cg_226 (ix := 10) (pc' := 20) rfl rfl rfl ?_
      refine ex_callV cg_226 (ix := 11) (pc' := 23) (As := [.inl (.int (Int32.ofInt (-4)))]) (r := []) rfl rfl rfl (ct_mref (mi := (upi mi 0 (Int32.ofInt 0))) (ml := ml) (x := Int32.ofInt (-4)) (r := r) (by decide +kernel) (by decide +kernel)) (by first | decide | omega) rfl rfl rfl ⟨rfl, rfl, trivial⟩ rfl rfl (fun v h2 hq => ?_)
      obtain ⟨rfl, rr2, rfl⟩ := hq
      show cx_T _ 226 _ 23 ([some (.inr (.inl 119)), some (.inl (.int l)), some (.inl (.int s)), some (.inl (.int q))], [.inl (.int (Int32.ofInt (-4)))], [(119, .inl (11, vs_119 (upi mi 0 (Int32.ofInt 0)) ml)), (126, .inr (.inl (0, 7, rr2)))]) _
      refine ex_ireturn cg_226 (ix := 12) rfl ?_
      exact ⟨_, rr2, mi 42, mi 43, mi 44, rfl, rfl, Or.inl ⟨by omega, by decide +kernel, rfl, rfl, rfl⟩⟩
    · have hb10 : ¬ (s.toInt < 0) := hb10
      refine ex_iload_n cg_226 (ix := 7) (pc' := 14) rfl rfl rfl ?_
      refine ex_if cg_226 (ix := 8) (t := 24) (pc' := 17) rfl rfl rfl (fun hb14 => ?_) (fun hb14 => ?_)
      · have hb14 : 0 ≤ q.toInt := hb14
        refine ex_iload_n cg_226 (ix := 13) (pc' := 25) rfl rfl rfl ?_
        refine ex_iconst cg_226 (ix := 14) (pc' := 26) rfl rfl ?_
        refine ex_icmp cg_226 (ix := 15) (t := 39) (pc' := 29) rfl rfl rfl (fun hb26 => ?_) (fun hb26 => ?_)
        · have hb26 : (Int32.ofInt 4).toInt < l.toInt := hb26
          refine ex_aload_n cg_226 (ix := 22) (pc' := 40) rfl rfl rfl ?_
          refine ex_bipush cg_226 (ix := 23) (pc' := 42) rfl rfl rfl ?_
          refine ex_callV cg_226 (ix := 24) (pc' := 45) (As := [.inl (.int (Int32.ofInt (-6)))]) (r := []) rfl rfl rfl (ct_mref (mi := (upi mi 0 (Int32.ofInt 0))) (ml := ml) (x := Int32.ofInt (-6)) (r := r) (by decide +kernel) (by decide +kernel)) (by first | decide | omega) rfl rfl rfl ⟨rfl, rfl, trivial⟩ rfl rfl (fun v h2 hq => ?_)
          obtain ⟨rfl, rr2, rfl⟩ := hq
          show cx_T _ 226 _ 45 ([some (.inr (.inl 119)), some (.inl (.int l)), some (.inl (.int s)), some (.inl (.int q))], [.inl (.int (Int32.ofInt (-6)))], [(119, .inl (11, vs_119 (upi mi 0 (Int32.ofInt 0)) ml)), (126, .inr (.inl (0, 7, rr2)))]) _
          refine ex_ireturn cg_226 (ix := 25) rfl ?_
          exact ⟨_, rr2, mi 42, mi 43, mi 44, rfl, rfl, Or.inr (Or.inl ⟨by omega, by omega, by decide +kernel, rfl, rfl, rfl⟩)⟩
        · have hb26 : ¬ ((Int32.ofInt 4).toInt < l.toInt) := hb26
          refine ex_iload_n cg_226 (ix := 16) (pc' := 30) rfl rfl rfl ?_
          refine ex_iconst cg_226 (ix := 17) (pc' := 31) rfl rfl ?_
          refine ex_icmp cg_226 (ix := 18) (t := 39) (pc' := 34) rfl rfl rfl (fun hb31 => ?_) (fun hb31 => ?_)
          · have hb31 : (Int32.ofInt 4).toInt < s.toInt := hb31
            refine ex_aload_n cg_226 (ix := 22) (pc' := 40) rfl rfl rfl ?_
            refine ex_bipush cg_226 (ix := 23) (pc' := 42) rfl rfl rfl ?_
            refine ex_callV cg_226 (ix := 24) (pc' := 45) (As := [.inl (.int (Int32.ofInt (-6)))]) (r := []) rfl rfl rfl (ct_mref (mi := (upi mi 0 (Int32.ofInt 0))) (ml := ml) (x := Int32.ofInt (-6)) (r := r) (by decide +kernel) (by decide +kernel)) (by first | decide | omega) rfl rfl rfl ⟨rfl, rfl, trivial⟩ rfl rfl (fun v h2 hq => ?_)
            obtain ⟨rfl, rr2, rfl⟩ := hq
            show cx_T _ 226 _ 45 ([some (.inr (.inl 119)), some (.inl (.int l)), some (.inl (.int s)), some (.inl (.int q))], [.inl (.int (Int32.ofInt (-6)))], [(119, .inl (11, vs_119 (upi mi 0 (Int32.ofInt 0)) ml)), (126, .inr (.inl (0, 7, rr2)))]) _
            refine ex_ireturn cg_226 (ix := 25) rfl ?_
            exact ⟨_, rr2, mi 42, mi 43, mi 44, rfl, rfl, Or.inr (Or.inl ⟨by omega, by omega, by decide +kernel, rfl, rfl, rfl⟩)⟩
          · have hb31 : ¬ ((Int32.ofInt 4).toInt < s.toInt) := hb31
            refine ex_iload_n cg_226 (ix := 19) (pc' := 35) rfl rfl rfl ?_
            refine ex_iconst cg_226 (ix := 20) (pc' := 36) rfl rfl ?_
            refine ex_icmp cg_226 (ix := 21) (t := 46) (pc' := 39) rfl rfl rfl (fun hb36 => ?_) (fun hb36 => ?_)
            · have hb36 : q.toInt ≤ (Int32.ofInt 4).toInt := hb36
              refine ex_iload_n cg_226 (ix := 26) (pc' := 47) rfl rfl rfl ?_
              refine ex_iload_n cg_226 (ix := 27) (pc' := 48) rfl rfl rfl ?_
              refine ex_iadd cg_226 (ix := 28) (pc' := 49) rfl rfl ?_
              refine ex_iload_n cg_226 (ix := 29) (pc' := 50) rfl rfl rfl ?_
              refine ex_iadd cg_226 (ix := 30) (pc' := 51) rfl rfl ?_
              refine ex_iconst cg_226 (ix := 31) (pc' := 52) rfl rfl ?_
              refine ex_icmp cg_226 (ix := 32) (t := 62) (pc' := 55) rfl rfl rfl (fun hb52 => ?_) (fun hb52 => ?_)
              · have hb52 : ((l + s) + q).toInt = (Int32.ofInt 4).toInt := hb52
                refine ex_aload_n cg_226 (ix := 37) (pc' := 63) rfl rfl rfl ?_
                refine ex_iload_n cg_226 (ix := 38) (pc' := 64) rfl rfl rfl ?_
                refine ex_putfield cg_226 (ix := 39) (pc' := 67) (h' := [(119, .inl (11, vs_119 (upi (upi mi 0 (Int32.ofInt 0)) 42 l) ml)), (126, .inr (.inl (0, 7, r)))]) rfl rfl rfl rfl rfl rfl rfl rfl ?_
                refine ex_aload_n cg_226 (ix := 40) (pc' := 68) rfl rfl rfl ?_
                refine ex_iload_n cg_226 (ix := 41) (pc' := 69) rfl rfl rfl ?_
                refine ex_putfield cg_226 (ix := 42) (pc' := 72) (h' := [(119, .inl (11, vs_119 (upi (upi (upi mi 0 (Int32.ofInt 0)) 42 l) 43 s) ml)), (126, .inr (.inl (0, 7, r)))]) rfl rfl rfl rfl rfl rfl rfl rfl ?_
                refine ex_aload_n cg_226 (ix := 43) (pc' := 73) rfl rfl rfl ?_
                refine ex_iload_n cg_226 (ix := 44) (pc' := 74) rfl rfl rfl ?_
                refine ex_putfield cg_226 (ix := 45) (pc' := 77) (h' := [(119, .inl (11, vs_119 (upi (upi (upi (upi mi 0 (Int32.ofInt 0)) 42 l) 43 s) 44 q) ml)), (126, .inr (.inl (0, 7, r)))]) rfl rfl rfl rfl rfl rfl rfl rfl ?_
                refine ex_iconst cg_226 (ix := 46) (pc' := 78) rfl rfl ?_
                refine ex_ireturn cg_226 (ix := 47) rfl ?_
                first | (exfalso; omega) | exact ⟨_, r, _, _, _, rfl, rfl, Or.inr (Or.inr (Or.inr ⟨by omega, by first | (rw [hsum (by omega) (by omega) (by omega)] at hb44; omega) | (rw [hsum (by omega) (by omega) (by omega)] at hb52; omega), by decide +kernel, rfl, rfl, rfl⟩))⟩
              · have hb52 : ¬ (((l + s) + q).toInt = (Int32.ofInt 4).toInt) := hb52
                refine ex_aload_n cg_226 (ix := 33) (pc' := 56) rfl rfl rfl ?_
                refine ex_bipush cg_226 (ix := 34) (pc' := 58) rfl rfl rfl ?_
                refine ex_callV cg_226 (ix := 35) (pc' := 61) (As := [.inl (.int (Int32.ofInt (-3)))]) (r := []) rfl rfl rfl (ct_mref (mi := (upi mi 0 (Int32.ofInt 0))) (ml := ml) (x := Int32.ofInt (-3)) (r := r) (by decide +kernel) (by decide +kernel)) (by first | decide | omega) rfl rfl rfl ⟨rfl, rfl, trivial⟩ rfl rfl (fun v h2 hq => ?_)
                obtain ⟨rfl, rr2, rfl⟩ := hq
                show cx_T _ 226 _ 61 ([some (.inr (.inl 119)), some (.inl (.int l)), some (.inl (.int s)), some (.inl (.int q))], [.inl (.int (Int32.ofInt (-3)))], [(119, .inl (11, vs_119 (upi mi 0 (Int32.ofInt 0)) ml)), (126, .inr (.inl (0, 7, rr2)))]) _
                refine ex_ireturn cg_226 (ix := 36) rfl ?_
                first | (exfalso; omega) | exact ⟨_, rr2, mi 42, mi 43, mi 44, rfl, rfl, Or.inr (Or.inr (Or.inl ⟨by omega, by first | (rw [hsum (by omega) (by omega) (by omega)] at hb44; omega) | (rw [hsum (by omega) (by omega) (by omega)] at hb52; omega), by decide +kernel, rfl, rfl, rfl⟩))⟩
            · have hb36 : ¬ (q.toInt ≤ (Int32.ofInt 4).toInt) := hb36
              refine ex_aload_n cg_226 (ix := 22) (pc' := 40) rfl rfl rfl ?_
              refine ex_bipush cg_226 (ix := 23) (pc' := 42) rfl rfl rfl ?_
              refine ex_callV cg_226 (ix := 24) (pc' := 45) (As := [.inl (.int (Int32.ofInt (-6)))]) (r := []) rfl rfl rfl (ct_mref (mi := (upi mi 0 (Int32.ofInt 0))) (ml := ml) (x := Int32.ofInt (-6)) (r := r) (by decide +kernel) (by decide +kernel)) (by first | decide | omega) rfl rfl rfl ⟨rfl, rfl, trivial⟩ rfl rfl (fun v h2 hq => ?_)
              obtain ⟨rfl, rr2, rfl⟩ := hq
              show cx_T _ 226 _ 45 ([some (.inr (.inl 119)), some (.inl (.int l)), some (.inl (.int s)), some (.inl (.int q))], [.inl (.int (Int32.ofInt (-6)))], [(119, .inl (11, vs_119 (upi mi 0 (Int32.ofInt 0)) ml)), (126, .inr (.inl (0, 7, rr2)))]) _
              refine ex_ireturn cg_226 (ix := 25) rfl ?_
              exact ⟨_, rr2, mi 42, mi 43, mi 44, rfl, rfl, Or.inr (Or.inl ⟨by omega, by omega, by decide +kernel, rfl, rfl, rfl⟩)⟩
      · have hb14 : ¬ (0 ≤ q.toInt) := hb14
        refine ex_aload_n cg_226 (ix := 9) (pc' := 18) rfl rfl rfl ?_
        refine ex_bipush cg_226 (ix := 10) (pc' := 20) rfl rfl rfl ?_
        refine ex_callV cg_226 (ix := 11) (pc' := 23) (As := [.inl (.int (Int32.ofInt (-4)))]) (r := []) rfl rfl rfl (ct_mref (mi := (upi mi 0 (Int32.ofInt 0))) (ml := ml) (x := Int32.ofInt (-4)) (r := r) (by decide +kernel) (by decide +kernel)) (by first | decide | omega) rfl rfl rfl ⟨rfl, rfl, trivial⟩ rfl rfl (fun v h2 hq => ?_)
        obtain ⟨rfl, rr2, rfl⟩ := hq
        show cx_T _ 226 _ 23 ([some (.inr (.inl 119)), some (.inl (.int l)), some (.inl (.int s)), some (.inl (.int q))], [.inl (.int (Int32.ofInt (-4)))], [(119, .inl (11, vs_119 (upi mi 0 (Int32.ofInt 0)) ml)), (126, .inr (.inl (0, 7, rr2)))]) _
        refine ex_ireturn cg_226 (ix := 12) rfl ?_
        exact ⟨_, rr2, mi 42, mi 43, mi 44, rfl, rfl, Or.inl ⟨by omega, by decide +kernel, rfl, rfl, rfl⟩⟩
theorem ct_mboat {mi : Nat → Int32} {ml : Nat → Int64} {r : Nat → Int32} {p : Int32} : cx_Ct 4 233 [.inr (.inl 119), .inl (.int p)] (h_mr mi ml r) (fun v_ h2 => ∃ (z : Int32) (r2 : Nat → Int32) (b2 : Int32), v_ = some (.inl (.int z)) ∧ h2 = h_mr (upi (upi mi 0 (Int32.ofInt 0)) 45 b2) ml r2 ∧ boA p (mi 45) z b2) := by
  have kc0 : (Int32.ofInt 0).toInt = 0 := by decide +kernel
  have kc1 : (Int32.ofInt 1).toInt = 1 := by decide +kernel
  have kcm1 : (Int32.ofInt (-1)).toInt = -1 := by decide +kernel
  refine cx_Ct.of cg_233 (nL := 3) rfl rfl rfl ?_
  show cx_T 4 233 [119, 126] 0 ([some (.inr (.inl 119)), some (.inl (.int p)), none], [], (h_mr mi ml r)) _
  refine ex_aload_n cg_233 (ix := 0) (pc' := 1) rfl rfl rfl ?_
  refine ex_iconst cg_233 (ix := 1) (pc' := 2) rfl rfl ?_
  refine ex_putfield cg_233 (ix := 2) (pc' := 5) (h' := [(119, .inl (11, vs_119 (upi mi 0 (Int32.ofInt 0)) ml)), (126, .inr (.inl (0, 7, r)))]) rfl rfl rfl rfl rfl rfl rfl rfl ?_
  refine ex_iload_n cg_233 (ix := 3) (pc' := 6) rfl rfl rfl ?_
  refine ex_callS cg_233 (ix := 4) (pc' := 9) (As := [.inl (.int p)]) (r := []) rfl rfl rfl (ct_mplace (x := p)) (by first | decide | omega) rfl rfl trivial rfl rfl (fun v h2 hq => ?_)
  obtain ⟨z, rfl, rfl, hz1⟩ := hq
  rcases hz1 with ⟨hz1, rfl⟩ | ⟨hz1, rfl⟩
  · show cx_T _ 233 _ 9 ([some (.inr (.inl 119)), some (.inl (.int p)), none], [.inl (.int (Int32.ofInt 1))], [(119, .inl (11, vs_119 (upi mi 0 (Int32.ofInt 0)) ml)), (126, .inr (.inl (0, 7, r)))]) _
    refine ex_if cg_233 (ix := 5) (t := 18) (pc' := 12) rfl rfl rfl (fun hb9 => ?_) (fun hb9 => ?_)
    · have hb9 : ¬ (Int32.ofInt 1).toInt = 0 := hb9
      refine ex_aload_n cg_233 (ix := 10) (pc' := 19) rfl rfl rfl ?_
      refine ex_getfield cg_233 (ix := 11) (pc' := 22) (v := .inl (.int (mi 45))) rfl rfl rfl rfl rfl ?_
      refine ex_istore_n cg_233 (ix := 12) (pc' := 23) (L' := [some (.inr (.inl 119)), some (.inl (.int p)), some (.inl (.int (mi 45)))]) rfl rfl rfl rfl ?_
      refine ex_aload_n cg_233 (ix := 13) (pc' := 24) rfl rfl rfl ?_
      refine ex_iload_n cg_233 (ix := 14) (pc' := 25) rfl rfl rfl ?_
      refine ex_putfield cg_233 (ix := 15) (pc' := 28) (h' := [(119, .inl (11, vs_119 (upi (upi mi 0 (Int32.ofInt 0)) 45 p) ml)), (126, .inr (.inl (0, 7, r)))]) rfl rfl rfl rfl rfl rfl rfl rfl ?_
      refine ex_iload_n cg_233 (ix := 16) (pc' := 29) rfl rfl rfl ?_
      refine ex_ireturn cg_233 (ix := 17) rfl ?_
      exact ⟨_, r, p, rfl, rfl, Or.inr ⟨hz1, rfl, rfl⟩⟩
    · have hb9 : ¬ (¬ (Int32.ofInt 1).toInt = 0) := hb9
      exfalso; first | omega | exact absurd hb9 (by decide +kernel)
  · show cx_T _ 233 _ 9 ([some (.inr (.inl 119)), some (.inl (.int p)), none], [.inl (.int (Int32.ofInt 0))], [(119, .inl (11, vs_119 (upi mi 0 (Int32.ofInt 0)) ml)), (126, .inr (.inl (0, 7, r)))]) _
    refine ex_if cg_233 (ix := 5) (t := 18) (pc' := 12) rfl rfl rfl (fun hb9 => ?_) (fun hb9 => ?_)
    · have hb9 : ¬ (Int32.ofInt 0).toInt = 0 := hb9
      exfalso; first | omega | exact absurd hb9 (by decide +kernel)
    · have hb9 : ¬ (¬ (Int32.ofInt 0).toInt = 0) := hb9
      refine ex_aload_n cg_233 (ix := 6) (pc' := 13) rfl rfl rfl ?_
      refine ex_iconst cg_233 (ix := 7) (pc' := 14) rfl rfl ?_
      refine ex_callV cg_233 (ix := 8) (pc' := 17) (As := [.inl (.int (Int32.ofInt (-1)))]) (r := []) rfl rfl rfl (ct_mref (mi := (upi mi 0 (Int32.ofInt 0))) (ml := ml) (x := Int32.ofInt (-1)) (r := r) (by decide +kernel) (by decide +kernel)) (by first | decide | omega) rfl rfl rfl ⟨rfl, rfl, trivial⟩ rfl rfl (fun v h2 hq => ?_)
      obtain ⟨rfl, rr2, rfl⟩ := hq
      show cx_T _ 233 _ 17 ([some (.inr (.inl 119)), some (.inl (.int p)), none], [.inl (.int (Int32.ofInt (-1)))], [(119, .inl (11, vs_119 (upi mi 0 (Int32.ofInt 0)) ml)), (126, .inr (.inl (0, 7, rr2)))]) _
      refine ex_ireturn cg_233 (ix := 9) rfl ?_
      exact ⟨_, rr2, mi 45, rfl, rfl, Or.inl ⟨hz1, rfl, rfl⟩⟩
end
