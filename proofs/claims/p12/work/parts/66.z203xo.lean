noncomputable section
def h_ro (g fk pf pt pr : Int32) (mi cd sz sp th fo go la pl : Nat → Int32) (R L hd : Nat → Nat → Int32) : cx_H := [(43, .inl (4, [.inr (.inl 2), .inr (.inl 44), .inr (.inl 45), .inr (.inl 46), .inr (.inl 47), .inr (.inl 48), .inr (.inl 49), .inr (.inl 50), .inr (.inl 57), .inr (.inl 58), .inr (.inl 66), .inr (.inl 67), .inl (.int g), .inl (.int fk), .inl (.int pf), .inl (.int pt), .inl (.int pr)])), (44, .inr (.inl (0, 4, mi))), (45, .inr (.inl (0, 70, cd))), (46, .inr (.inl (0, 70, sz))), (47, .inr (.inl (0, 625, sp))), (48, .inr (.inl (0, 280, th))), (49, .inr (.inl (2, 4900, fo))), (50, .inr (.inr (.inr (3, [51, 52, 53, 54, 55, 56])))), (51, .inr (.inl (0, 70, R 0))), (52, .inr (.inl (0, 70, R 1))), (53, .inr (.inl (0, 70, R 2))), (54, .inr (.inl (0, 70, R 3))), (55, .inr (.inl (0, 70, R 4))), (56, .inr (.inl (0, 70, R 5))), (57, .inr (.inl (0, 350, go))), (58, .inr (.inr (.inr (3, [59, 60, 61, 62, 63, 64, 65])))), (59, .inr (.inl (0, 350, L 0))), (60, .inr (.inl (0, 350, L 1))), (61, .inr (.inl (0, 350, L 2))), (62, .inr (.inl (0, 350, L 3))), (63, .inr (.inl (0, 350, L 4))), (64, .inr (.inl (0, 350, L 5))), (65, .inr (.inl (0, 350, L 6))), (66, .inr (.inl (0, 4, la))), (67, .inr (.inl (0, 24, pl))), (2, .inl (8, [.inr (.inl 3), .inr (.inl 4), .inr (.inl 5), .inr (.inl 10)])), (5, .inr (.inr (.inr (3, [6, 7, 8, 9])))), (6, .inr (.inl (0, 16, hd 0))), (7, .inr (.inl (0, 16, hd 1))), (8, .inr (.inl (0, 16, hd 2))), (9, .inr (.inl (0, 16, hd 3)))]
def h_hd (hd : Nat → Nat → Int32) : cx_H := [(2, .inl (8, [.inr (.inl 3), .inr (.inl 4), .inr (.inl 5), .inr (.inl 10)])), (5, .inr (.inr (.inr (3, [6, 7, 8, 9])))), (6, .inr (.inl (0, 16, hd 0))), (7, .inr (.inl (0, 16, hd 1))), (8, .inr (.inl (0, 16, hd 2))), (9, .inr (.inl (0, 16, hd 3)))]
theorem rr_get {g fk pf pt pr : Int32} {mi cd sz sp th fo go la pl : Nat → Int32} {V L hd : Nat → Nat → Int32} {i : Nat} (hi : i < 6) : cx_hg (h_ro g fk pf pt pr mi cd sz sp th fo go la pl V L hd) (51 + i) = some (.inr (.inl (0, 70, V i))) := by
  rcases (show i = 0 ∨ i = 1 ∨ i = 2 ∨ i = 3 ∨ i = 4 ∨ i = 5 by omega) with rfl | rfl | rfl | rfl | rfl | rfl <;> rfl
theorem rr_set {g fk pf pt pr : Int32} {mi cd sz sp th fo go la pl : Nat → Int32} {V L hd : Nat → Nat → Int32} {i : Nat} {f : Nat → Int32} (hi : i < 6) : cx_hs (h_ro g fk pf pt pr mi cd sz sp th fo go la pl V L hd) (51 + i) (.inr (.inl (0, 70, f))) = h_ro g fk pf pt pr mi cd sz sp th fo go la pl (up2 V i f) L hd := by
  rcases (show i = 0 ∨ i = 1 ∨ i = 2 ∨ i = 3 ∨ i = 4 ∨ i = 5 by omega) with rfl | rfl | rfl | rfl | rfl | rfl <;> rfl
theorem rr_ix {x : Int32} {i : Nat} (hi : i < 6) (hx : x.toInt = (i : Int)) : [51, 52, 53, 54, 55, 56][x.toNatClampNeg]? = some (51 + i) := by
  rw [cx_clamp hx]
  rcases (show i = 0 ∨ i = 1 ∨ i = 2 ∨ i = 3 ∨ i = 4 ∨ i = 5 by omega) with rfl | rfl | rfl | rfl | rfl | rfl <;> rfl
theorem ll_get {g fk pf pt pr : Int32} {mi cd sz sp th fo go la pl : Nat → Int32} {R V hd : Nat → Nat → Int32} {i : Nat} (hi : i < 7) : cx_hg (h_ro g fk pf pt pr mi cd sz sp th fo go la pl R V hd) (59 + i) = some (.inr (.inl (0, 350, V i))) := by
  rcases (show i = 0 ∨ i = 1 ∨ i = 2 ∨ i = 3 ∨ i = 4 ∨ i = 5 ∨ i = 6 by omega) with rfl | rfl | rfl | rfl | rfl | rfl | rfl <;> rfl
theorem ll_set {g fk pf pt pr : Int32} {mi cd sz sp th fo go la pl : Nat → Int32} {R V hd : Nat → Nat → Int32} {i : Nat} {f : Nat → Int32} (hi : i < 7) : cx_hs (h_ro g fk pf pt pr mi cd sz sp th fo go la pl R V hd) (59 + i) (.inr (.inl (0, 350, f))) = h_ro g fk pf pt pr mi cd sz sp th fo go la pl R (up2 V i f) hd := by
  rcases (show i = 0 ∨ i = 1 ∨ i = 2 ∨ i = 3 ∨ i = 4 ∨ i = 5 ∨ i = 6 by omega) with rfl | rfl | rfl | rfl | rfl | rfl | rfl <;> rfl
theorem ll_ix {x : Int32} {i : Nat} (hi : i < 7) (hx : x.toInt = (i : Int)) : [59, 60, 61, 62, 63, 64, 65][x.toNatClampNeg]? = some (59 + i) := by
  rw [cx_clamp hx]
  rcases (show i = 0 ∨ i = 1 ∨ i = 2 ∨ i = 3 ∨ i = 4 ∨ i = 5 ∨ i = 6 by omega) with rfl | rfl | rfl | rfl | rfl | rfl | rfl <;> rfl
theorem hh_get {g fk pf pt pr : Int32} {mi cd sz sp th fo go la pl : Nat → Int32} {R L V : Nat → Nat → Int32} {i : Nat} (hi : i < 4) : cx_hg (h_ro g fk pf pt pr mi cd sz sp th fo go la pl R L V) (6 + i) = some (.inr (.inl (0, 16, V i))) := by
  rcases (show i = 0 ∨ i = 1 ∨ i = 2 ∨ i = 3 by omega) with rfl | rfl | rfl | rfl <;> rfl
theorem hh_ix {x : Int32} {i : Nat} (hi : i < 4) (hx : x.toInt = (i : Int)) : [6, 7, 8, 9][x.toNatClampNeg]? = some (6 + i) := by
  rw [cx_clamp hx]
  rcases (show i = 0 ∨ i = 1 ∨ i = 2 ∨ i = 3 by omega) with rfl | rfl | rfl | rfl <;> rfl
theorem hd_get {V : Nat → Nat → Int32} {i : Nat} (hi : i < 4) : cx_hg (h_hd V) (6 + i) = some (.inr (.inl (0, 16, V i))) := by
  rcases (show i = 0 ∨ i = 1 ∨ i = 2 ∨ i = 3 by omega) with rfl | rfl | rfl | rfl <;> rfl
def rk1 (h g : Nat) : Nat := 12 * h / (1 + g)
theorem rk1_le {h g : Nat} : rk1 h g ≤ 12 * h := Nat.div_le_self _ _
/-- the risk of an hour, by how many are where -/
def rkS (hd : Nat → Nat → Int32) (h : Nat) (c : Nat → Nat) : Nat → Nat
  | 0 => 0
  | b + 1 => rkS hd h c b + rk1 (hd b h).toInt.toNat (c b)
def rkH (hd : Nat → Nat → Int32) (h : Nat) (c : Nat → Nat) : Nat := rkS hd h c 4
def hdH (hd : Nat → Nat → Int32) : Prop := ∀ b h : Nat, b < 4 → h < 16 → 0 ≤ (hd b h).toInt ∧ (hd b h).toInt ≤ 999
theorem rkS_E {hd : Nat → Nat → Int32} {h : Nat} {c d : Nat → Nat} : ∀ {k : Nat}, (∀ b, b < k → c b = d b) → rkS hd h c k = rkS hd h d k
  | 0, _ => rfl
  | k + 1, q => by rw [rkS, rkS, rkS_E (fun b hb => q b (by omega)), q k (by omega)]
theorem rkH_E {hd : Nat → Nat → Int32} {h : Nat} {c d : Nat → Nat} (q : ∀ b, b < 4 → c b = d b) : rkH hd h c = rkH hd h d := rkS_E q
theorem rkS_b {hd : Nat → Nat → Int32} {h : Nat} {c : Nat → Nat} (hh : h < 16) (H : hdH hd) : ∀ {k : Nat}, k ≤ 4 → rkS hd h c k ≤ 12000 * k
  | 0, _ => Nat.le_refl _
  | k + 1, hk => by
    have ih := rkS_b (c := c) hh H (k := k) (by omega)
    have h1 := H k h (by omega) hh
    have h2 := rk1_le (h := (hd k h).toInt.toNat) (g := c k)
    rw [rkS]
    omega
theorem rkH_b {hd : Nat → Nat → Int32} {h : Nat} {c : Nat → Nat} (hh : h < 16) (H : hdH hd) : rkH hd h c ≤ 100000 := by
  have := rkS_b (c := c) hh H (k := 4) (Nat.le_refl _)
  unfold rkH
  omega
theorem ro_div {x y : Int32} (h1 : 0 ≤ x.toInt) (h2 : 0 < y.toInt) : (x / y).toInt = x.toInt / y.toInt := by rw [ab_div_toInt (by omega), Int.tdiv_eq_ediv_of_nonneg h1]
theorem mnZ_E {Z : Nat} {ok ok2 : Nat → Bool} {G G2 : Nat → Nat} : ∀ {k : Nat}, (∀ c, c < k → ok c = ok2 c) → (∀ c, c < k → ok c = true → G c = G2 c) → mnZ Z ok G k = mnZ Z ok2 G2 k
  | 0, _, _ => rfl
  | k + 1, h1, h2 => by
    rw [mnZ, mnZ, mnZ_E (fun c hc => h1 c (by omega)) (fun c hc => h2 c (by omega)), ← h1 k (by omega)]
    by_cases q : ok k = true
    · rw [if_pos q, if_pos q, h2 k (by omega) q]
    · rw [if_neg q, if_neg q]
theorem mnZ_stop {Z : Nat} {ok : Nat → Bool} {G : Nat → Nat} {k : Nat} : ∀ {m : Nat}, (∀ c, k ≤ c → c < k + m → ¬ ok c = true) → mnZ Z ok G (k + m) = mnZ Z ok G k
  | 0, _ => rfl
  | m + 1, h => by
    rw [show k + (m + 1) = (k + m) + 1 by omega, mnZ, if_neg (h (k + m) (by omega) (by omega)), mnZ_stop (fun c h1 h2 => h c h1 (by omega))]
theorem mnZ_min {Z : Nat} {f : Nat → Nat} {r : Nat} {G : Nat → Nat} : ∀ {k : Nat}, mnZ Z (fun c => Nat.ble (f c) (r + 1)) G k = min (mnZ Z (fun c => Nat.ble (f c) r) G k) (mnZ Z (fun c => Nat.beq (f c) (r + 1)) G k)
  | 0 => by
    show Z = min Z Z
    omega
  | k + 1 => by
    have ih := mnZ_min (Z := Z) (f := f) (r := r) (G := G) (k := k)
    rw [mnZ, mnZ, mnZ, ih]
    by_cases q : f k ≤ r
    · rw [if_pos (Nat.ble_eq_true_of_le (show f k ≤ r + 1 by omega)), if_pos (Nat.ble_eq_true_of_le q), if_neg (fun z => by have := Nat.eq_of_beq_eq_true z; omega)]
      omega
    · rw [if_neg (fun z => q (Nat.le_of_ble_eq_true z))]
      by_cases q2 : f k = r + 1
      · rw [if_pos (Nat.ble_eq_true_of_le (show f k ≤ r + 1 by omega)), if_pos (by rw [q2]; exact Nat.beq_refl _)]
        omega
      · rw [if_neg (fun z => by have := Nat.le_of_ble_eq_true z; omega), if_neg (fun z => q2 (Nat.eq_of_beq_eq_true z))]
def spC7 (i : Nat) : Bool := (List.range 70).all (fun j => Nat.blt j i || Nat.ble (szNl i) (szNl j))
theorem spC7_ok : (List.range 70).all spC7 = true := by decide +kernel
theorem sz_mono {i j : Nat} (h : i ≤ j) (hj : j < 70) : szN i ≤ szN j := by
  rw [szN_e]
  have h1 := List.all_eq_true.mp spC7_ok i (List.mem_range.mpr (by omega))
  unfold spC7 at h1
  have h2 : (Nat.blt j i || Nat.ble (szNl i) (szNl j)) = true := List.all_eq_true.mp h1 j (List.mem_range.mpr hj)
  rw [Bool.or_eq_true] at h2
  rcases h2 with q | q
  · have : j < i := Nat.le_of_ble_eq_true q
    omega
  · exact Nat.le_of_ble_eq_true q
theorem lt_4 {x : Nat} (h : x < 4) : x = 0 ∨ x = 1 ∨ x = 2 ∨ x = 3 := by omega
theorem sp_ar {a0 a1 a2 a3 b0 b1 b2 b3 : Nat} (h : a0 + a1 + a2 + a3 + (b0 + b1 + b2 + b3) ≤ 4) : a0 + b0 + (a1 + b1) + (a2 + b2) + (a3 + b3) ≤ 4 ∧ (a0 + 5 * a1 + 25 * a2 + 125 * a3) + (b0 + 5 * b1 + 25 * b2 + 125 * b3) = (a0 + b0) + 5 * (a1 + b1) + 25 * (a2 + b2) + 125 * (a3 + b3) ∧ (a0 + b0) + 5 * (a1 + b1) + 25 * (a2 + b2) + 125 * (a3 + b3) < 625 := ⟨by omega, by omega, by omega⟩
theorem sp_add {a b : Nat} (ha : a < 70) (hb : b < 70) (h : szN a + szN b ≤ 4) : cdN a + cdN b < 625 ∧ spN (cdN a + cdN b) < 70 ∧ ∀ x, x < 4 → cN (spN (cdN a + cdN b)) x = cN a x + cN b x := by
  obtain ⟨s1, c1, -, -⟩ := sp_sz ha
  obtain ⟨s2, c2, -, -⟩ := sp_sz hb
  rw [s1, s2] at h
  obtain ⟨q1, q2, q3⟩ := sp_ar h
  obtain ⟨k1, k2, k3, k4, k5⟩ := sp_ex q1
  rw [c1, c2, q2]
  refine ⟨q3, k1, fun x hx => ?_⟩
  rcases lt_4 hx with rfl | rfl | rfl | rfl
  · exact k2
  · exact k3
  · exact k4
  · exact k5
/-- the least by who goes on (a spread) and how many have rested -/
def GOf (rkc : (Nat → Nat) → Nat) (Lv : Nat → Nat → Nat) (G on : Nat) : Nat → Nat := fun fr => rkc (fun b => cN on b + cN fr b) + Lv fr (G - szN on - szN fr)
def GOv (rkc : (Nat → Nat) → Nat) (Lv : Nat → Nat → Nat) (G on r : Nat) : Nat := mnZ 1000000000 (fun fr => Nat.ble (szN fr) r) (GOf rkc Lv G on) 70
def LVv (nb : Nat → Nat → Prop) (rkc : (Nat → Nat) → Nat) (Lv : Nat → Nat → Nat) (G F r : Nat) : Nat := mnZ 1000000000 (fun on => bP (cho nb (cnL (cN F)) (cN on))) (fun on => GOv rkc Lv G on r) 70
theorem LV_s {nb : Nat → Nat → Prop} {rk : Nat → (Nat → Nat) → Nat} {G j F r : Nat} : LV nb rk G (j + 1) F r = LVv nb (rk j) (LV nb rk G j) G F r := by
  rw [LV]
  unfold LVv GOv GOf
  rfl
theorem ct_hat {hd : Nat → Nat → Int32} {x y : Int32} {bN hN : Nat} (hx : x.toInt = (bN : Int)) (hb : bN < 4) (hy : y.toInt = (hN : Int)) (hh : hN < 16) : cx_Ct 2 95 [.inr (.inl 2), .inl (.int x), .inl (.int y)] (h_hd hd) (fun v h2 => ∃ z : Int32, v = some (.inl (.int z)) ∧ h2 = h_hd hd ∧ z.toInt = (hd bN hN).toInt) := by
  refine cx_Ct.of cg_95 (nL := 3) rfl rfl rfl ?_
  show cx_T 2 95 [2, 5, 6, 7, 8, 9] 0 ([some (.inr (.inl 2)), some (.inl (.int x)), some (.inl (.int y))], [], h_hd hd) _
  refine ex_aload_n cg_95 (ix := 0) (pc' := 1) rfl rfl rfl ?_
  refine ex_getfield cg_95 (ix := 1) (pc' := 4) rfl rfl rfl rfl rfl ?_
  refine ex_iload_n cg_95 (ix := 2) (pc' := 5) rfl rfl rfl ?_
  refine ex_aaload cg_95 (ix := 3) (pc' := 6) (k1 := (6 + bN)) rfl rfl (by omega) (hh_ix hb hx) rfl ?_
  refine ex_iload_n cg_95 (ix := 4) (pc' := 7) rfl rfl rfl ?_
  refine ex_iaload cg_95 (ix := 5) (pc' := 8) rfl (hd_get (V := hd) (by omega)) (by omega) (by omega) rfl ?_
  refine ex_ireturn cg_95 (ix := 6) rfl ?_
  exact ⟨_, rfl, rfl, by rw [cx_clamp hy]⟩
theorem ct_rof {x y : Int32} {hN gN : Nat} (hx : x.toInt = (hN : Int)) (hh : hN ≤ 999) (hy : y.toInt = (gN : Int)) (hg : gN ≤ 4) : cx_Ct 2 52 [.inl (.int x), .inl (.int y)] [] (fun v h2 => ∃ z : Int32, v = some (.inl (.int z)) ∧ h2 = [] ∧ z.toInt = ((rk1 hN gN : Nat) : Int)) := by
  have kc0 : (Int32.ofInt 0).toInt = 0 := by decide +kernel
  have kc12 : (Int32.ofInt 12).toInt = 12 := by decide +kernel
  have kc1 : (Int32.ofInt 1).toInt = 1 := by decide +kernel
  have h12 : (Int32.ofInt 12 * x).toInt = ((12 * hN : Nat) : Int) := by
    rw [cx_mulk (by decide +kernel) (by omega) (by omega)]
    omega
  have h1y : (Int32.ofInt 1 + y).toInt = ((1 + gN : Nat) : Int) := by
    rw [cx_addc (by omega) (by omega), kc1]
    omega
  refine cx_Ct.of cg_52 (nL := 2) rfl rfl rfl ?_
  show cx_T 2 52 [] 0 ([some (.inl (.int x)), some (.inl (.int y))], [], []) _
  refine ex_iload_n cg_52 (ix := 0) (pc' := 1) rfl rfl rfl ?_
  refine ex_if cg_52 (ix := 1) (t := 8) (pc' := 4) rfl rfl rfl (fun hb1 => ?_) (fun hb1 => ?_)
  · have hb1 : 0 ≤ y.toInt := hb1
    refine ex_bipush cg_52 (ix := 4) (pc' := 10) rfl rfl rfl ?_
    refine ex_iload_n cg_52 (ix := 5) (pc' := 11) rfl rfl rfl ?_
    refine ex_imul cg_52 (ix := 6) (pc' := 12) rfl rfl ?_
    refine ex_iconst cg_52 (ix := 7) (pc' := 13) rfl rfl ?_
    refine ex_iload_n cg_52 (ix := 8) (pc' := 14) rfl rfl rfl ?_
    refine ex_iadd cg_52 (ix := 9) (pc' := 15) rfl rfl ?_
    refine ex_idiv cg_52 (ix := 10) (pc' := 16) rfl (by exact fun z0 => absurd (congrArg Int32.toInt z0) (by rw [h1y, show (0 : Int32).toInt = 0 from by decide]; omega)) rfl ?_
    refine ex_ireturn cg_52 (ix := 11) rfl ?_
    exact ⟨_, rfl, rfl, by rw [ro_div (by rw [h12]; omega) (by rw [h1y]; omega), h12, h1y]; rfl⟩
  · have hb1 : ¬ (0 ≤ y.toInt) := hb1
    exfalso; first | omega | exact absurd hb1 (by decide +kernel)
theorem rk_loop {g fk pf pt pr : Int32} {mi cd sz sp th fo go la pl : Nat → Int32} {R L hd : Nat → Nat → Int32} {x y : Int32} {xN hN : Nat} {s : Int32} {sN : Nat} {P : Option cx_V → cx_H → Prop} (hth : thH th) (hhd : hdH hd) (hx : x.toInt = (xN : Int)) (hx6 : xN < 6) (hy : y.toInt = (hN : Int)) (hh : hN < 16) (hs : s.toInt = (sN : Int)) (hs70 : sN < 70) (hP : ∀ z i : Int32, z.toInt = ((rkS hd hN (cN sN) 4 : Nat) : Int) → cx_T 3 51 [43, 44, 45, 46, 47, 48, 49, 50, 51, 52, 53, 54, 55, 56, 57, 58, 59, 60, 61, 62, 63, 64, 65, 66, 67, 2, 5, 6, 7, 8, 9] 51 ([some (.inr (.inl 43)), some (.inl (.int x)), some (.inl (.int y)), some (.inl (.int s)), some (.inl (.int z)), some (.inl (.int i))], [], [(43, .inl (4, [.inr (.inl 2), .inr (.inl 44), .inr (.inl 45), .inr (.inl 46), .inr (.inl 47), .inr (.inl 48), .inr (.inl 49), .inr (.inl 50), .inr (.inl 57), .inr (.inl 58), .inr (.inl 66), .inr (.inl 67), .inl (.int g), .inl (.int fk), .inl (.int pf), .inl (.int pt), .inl (.int pr)])), (44, .inr (.inl (0, 4, mi))), (45, .inr (.inl (0, 70, cd))), (46, .inr (.inl (0, 70, sz))), (47, .inr (.inl (0, 625, sp))), (48, .inr (.inl (0, 280, th))), (49, .inr (.inl (2, 4900, fo))), (50, .inr (.inr (.inr (3, [51, 52, 53, 54, 55, 56])))), (51, .inr (.inl (0, 70, R 0))), (52, .inr (.inl (0, 70, R 1))), (53, .inr (.inl (0, 70, R 2))), (54, .inr (.inl (0, 70, R 3))), (55, .inr (.inl (0, 70, R 4))), (56, .inr (.inl (0, 70, R 5))), (57, .inr (.inl (0, 350, go))), (58, .inr (.inr (.inr (3, [59, 60, 61, 62, 63, 64, 65])))), (59, .inr (.inl (0, 350, L 0))), (60, .inr (.inl (0, 350, L 1))), (61, .inr (.inl (0, 350, L 2))), (62, .inr (.inl (0, 350, L 3))), (63, .inr (.inl (0, 350, L 4))), (64, .inr (.inl (0, 350, L 5))), (65, .inr (.inl (0, 350, L 6))), (66, .inr (.inl (0, 4, la))), (67, .inr (.inl (0, 24, pl))), (2, .inl (8, [.inr (.inl 3), .inr (.inl 4), .inr (.inl 5), .inr (.inl 10)])), (5, .inr (.inr (.inr (3, [6, 7, 8, 9])))), (6, .inr (.inl (0, 16, hd 0))), (7, .inr (.inl (0, 16, hd 1))), (8, .inr (.inl (0, 16, hd 2))), (9, .inr (.inl (0, 16, hd 3)))]) P) :
    ∀ (m k : Nat), k + m = 4 → ∀ i : Int32, i.toInt = (k : Int) → ∀ (z : Int32), z.toInt = ((rkS hd hN (cN sN) k : Nat) : Int) → cx_T 3 51 [43, 44, 45, 46, 47, 48, 49, 50, 51, 52, 53, 54, 55, 56, 57, 58, 59, 60, 61, 62, 63, 64, 65, 66, 67, 2, 5, 6, 7, 8, 9] 14 ([some (.inr (.inl 43)), some (.inl (.int x)), some (.inl (.int y)), some (.inl (.int s)), some (.inl (.int z)), some (.inl (.int i))], [], [(43, .inl (4, [.inr (.inl 2), .inr (.inl 44), .inr (.inl 45), .inr (.inl 46), .inr (.inl 47), .inr (.inl 48), .inr (.inl 49), .inr (.inl 50), .inr (.inl 57), .inr (.inl 58), .inr (.inl 66), .inr (.inl 67), .inl (.int g), .inl (.int fk), .inl (.int pf), .inl (.int pt), .inl (.int pr)])), (44, .inr (.inl (0, 4, mi))), (45, .inr (.inl (0, 70, cd))), (46, .inr (.inl (0, 70, sz))), (47, .inr (.inl (0, 625, sp))), (48, .inr (.inl (0, 280, th))), (49, .inr (.inl (2, 4900, fo))), (50, .inr (.inr (.inr (3, [51, 52, 53, 54, 55, 56])))), (51, .inr (.inl (0, 70, R 0))), (52, .inr (.inl (0, 70, R 1))), (53, .inr (.inl (0, 70, R 2))), (54, .inr (.inl (0, 70, R 3))), (55, .inr (.inl (0, 70, R 4))), (56, .inr (.inl (0, 70, R 5))), (57, .inr (.inl (0, 350, go))), (58, .inr (.inr (.inr (3, [59, 60, 61, 62, 63, 64, 65])))), (59, .inr (.inl (0, 350, L 0))), (60, .inr (.inl (0, 350, L 1))), (61, .inr (.inl (0, 350, L 2))), (62, .inr (.inl (0, 350, L 3))), (63, .inr (.inl (0, 350, L 4))), (64, .inr (.inl (0, 350, L 5))), (65, .inr (.inl (0, 350, L 6))), (66, .inr (.inl (0, 4, la))), (67, .inr (.inl (0, 24, pl))), (2, .inl (8, [.inr (.inl 3), .inr (.inl 4), .inr (.inl 5), .inr (.inl 10)])), (5, .inr (.inr (.inr (3, [6, 7, 8, 9])))), (6, .inr (.inl (0, 16, hd 0))), (7, .inr (.inl (0, 16, hd 1))), (8, .inr (.inl (0, 16, hd 2))), (9, .inr (.inl (0, 16, hd 3)))]) P := by
  have kc0 : (Int32.ofInt 0).toInt = 0 := by decide +kernel
  have kc1 : (Int32.ofInt 1).toInt = 1 := by decide +kernel
  have kc4 : (Int32.ofInt 4).toInt = 4 := by decide +kernel
  have kc70 : (Int32.ofInt 70).toInt = 70 := by decide +kernel
  intro m
  induction m with
  | zero =>
    intro k hk i hi z hz0
    have ek : k = 4 := by omega
    refine ex_iload cg_51 (ix := 9) (pc' := 16) rfl rfl rfl ?_
    refine ex_iconst cg_51 (ix := 10) (pc' := 17) rfl rfl ?_
    refine ex_icmp cg_51 (ix := 11) (t := 51) (pc' := 20) rfl rfl rfl (fun hb17 => ?_) (fun hb17 => ?_)
    · have hb17 : (Int32.ofInt 4).toInt ≤ i.toInt := hb17
      rw [ek] at hz0
      exact hP z i hz0
    · have hb17 : ¬ ((Int32.ofInt 4).toInt ≤ i.toInt) := hb17
      exfalso; first | omega | exact absurd hb17 (by decide +kernel)
  | succ m ih =>
    intro k hk i hi z hz0
    have hik : i.toNatClampNeg = k := cx_clamp hi
    have hkb := rkS_b (c := cN sN) hh hhd (k := k) (by omega)
    refine ex_iload cg_51 (ix := 9) (pc' := 16) rfl rfl rfl ?_
    refine ex_iconst cg_51 (ix := 10) (pc' := 17) rfl rfl ?_
    refine ex_icmp cg_51 (ix := 11) (t := 51) (pc' := 20) rfl rfl rfl (fun hb17 => ?_) (fun hb17 => ?_)
    · have hb17 : (Int32.ofInt 4).toInt ≤ i.toInt := hb17
      exfalso; first | omega | exact absurd hb17 (by decide +kernel)
    · have hb17 : ¬ ((Int32.ofInt 4).toInt ≤ i.toInt) := hb17
      refine ex_iload cg_51 (ix := 12) (pc' := 22) rfl rfl rfl ?_
      refine ex_aload_n cg_51 (ix := 13) (pc' := 23) rfl rfl rfl ?_
      refine ex_getfield cg_51 (ix := 14) (pc' := 26) rfl rfl rfl rfl rfl ?_
      refine ex_iload cg_51 (ix := 15) (pc' := 28) rfl rfl rfl ?_
      refine ex_iload_n cg_51 (ix := 16) (pc' := 29) rfl rfl rfl ?_
      refine ex_callV cg_51 (ix := 17) (pc' := 32) (As := [.inl (.int i), .inl (.int y)]) (r := [.inl (.int z)]) rfl rfl rfl (ct_hat (hd := hd) (x := i) (y := y) (bN := k) (hN := hN) hi (by omega) hy hh) (by first | decide | omega) rfl rfl rfl ⟨rfl, rfl, rfl, rfl, rfl, rfl, trivial⟩ rfl rfl (fun v h2 hq => ?_)
      obtain ⟨hz, rfl, rfl, hhz⟩ := hq
      have hhb := hhd k hN (by omega) hh
      show cx_T _ 51 _ 32 ([some (.inr (.inl 43)), some (.inl (.int x)), some (.inl (.int y)), some (.inl (.int s)), some (.inl (.int z)), some (.inl (.int i))], [.inl (.int hz), .inl (.int z)], [(43, .inl (4, [.inr (.inl 2), .inr (.inl 44), .inr (.inl 45), .inr (.inl 46), .inr (.inl 47), .inr (.inl 48), .inr (.inl 49), .inr (.inl 50), .inr (.inl 57), .inr (.inl 58), .inr (.inl 66), .inr (.inl 67), .inl (.int g), .inl (.int fk), .inl (.int pf), .inl (.int pt), .inl (.int pr)])), (44, .inr (.inl (0, 4, mi))), (45, .inr (.inl (0, 70, cd))), (46, .inr (.inl (0, 70, sz))), (47, .inr (.inl (0, 625, sp))), (48, .inr (.inl (0, 280, th))), (49, .inr (.inl (2, 4900, fo))), (50, .inr (.inr (.inr (3, [51, 52, 53, 54, 55, 56])))), (51, .inr (.inl (0, 70, R 0))), (52, .inr (.inl (0, 70, R 1))), (53, .inr (.inl (0, 70, R 2))), (54, .inr (.inl (0, 70, R 3))), (55, .inr (.inl (0, 70, R 4))), (56, .inr (.inl (0, 70, R 5))), (57, .inr (.inl (0, 350, go))), (58, .inr (.inr (.inr (3, [59, 60, 61, 62, 63, 64, 65])))), (59, .inr (.inl (0, 350, L 0))), (60, .inr (.inl (0, 350, L 1))), (61, .inr (.inl (0, 350, L 2))), (62, .inr (.inl (0, 350, L 3))), (63, .inr (.inl (0, 350, L 4))), (64, .inr (.inl (0, 350, L 5))), (65, .inr (.inl (0, 350, L 6))), (66, .inr (.inl (0, 4, la))), (67, .inr (.inl (0, 24, pl))), (2, .inl (8, [.inr (.inl 3), .inr (.inl 4), .inr (.inl 5), .inr (.inl 10)])), (5, .inr (.inr (.inr (3, [6, 7, 8, 9])))), (6, .inr (.inl (0, 16, hd 0))), (7, .inr (.inl (0, 16, hd 1))), (8, .inr (.inl (0, 16, hd 2))), (9, .inr (.inl (0, 16, hd 3)))]) _
      refine ex_aload_n cg_51 (ix := 18) (pc' := 33) rfl rfl rfl ?_
      refine ex_iload_n cg_51 (ix := 19) (pc' := 34) rfl rfl rfl ?_
      refine ex_iload cg_51 (ix := 20) (pc' := 36) rfl rfl rfl ?_
      refine ex_callV cg_51 (ix := 21) (pc' := 39) (As := [.inl (.int s), .inl (.int i)]) (r := [.inl (.int hz), .inl (.int z)]) rfl rfl rfl (ct_ga (g := g) (fk := fk) (pf := pf) (pt := pt) (pr := pr) (th := th) (x := s) (y := i) (sN := sN) (bN := k) hth hs hs70 hi (by omega)) (by first | decide | omega) rfl rfl rfl ⟨rfl, rfl, trivial⟩ rfl rfl (fun v h2 hq => ?_)
      obtain ⟨gz, rfl, rfl, hgz⟩ := hq
      show cx_T _ 51 _ 39 ([some (.inr (.inl 43)), some (.inl (.int x)), some (.inl (.int y)), some (.inl (.int s)), some (.inl (.int z)), some (.inl (.int i))], [.inl (.int gz), .inl (.int hz), .inl (.int z)], [(43, .inl (4, [.inr (.inl 2), .inr (.inl 44), .inr (.inl 45), .inr (.inl 46), .inr (.inl 47), .inr (.inl 48), .inr (.inl 49), .inr (.inl 50), .inr (.inl 57), .inr (.inl 58), .inr (.inl 66), .inr (.inl 67), .inl (.int g), .inl (.int fk), .inl (.int pf), .inl (.int pt), .inl (.int pr)])), (44, .inr (.inl (0, 4, mi))), (45, .inr (.inl (0, 70, cd))), (46, .inr (.inl (0, 70, sz))), (47, .inr (.inl (0, 625, sp))), (48, .inr (.inl (0, 280, th))), (49, .inr (.inl (2, 4900, fo))), (50, .inr (.inr (.inr (3, [51, 52, 53, 54, 55, 56])))), (51, .inr (.inl (0, 70, R 0))), (52, .inr (.inl (0, 70, R 1))), (53, .inr (.inl (0, 70, R 2))), (54, .inr (.inl (0, 70, R 3))), (55, .inr (.inl (0, 70, R 4))), (56, .inr (.inl (0, 70, R 5))), (57, .inr (.inl (0, 350, go))), (58, .inr (.inr (.inr (3, [59, 60, 61, 62, 63, 64, 65])))), (59, .inr (.inl (0, 350, L 0))), (60, .inr (.inl (0, 350, L 1))), (61, .inr (.inl (0, 350, L 2))), (62, .inr (.inl (0, 350, L 3))), (63, .inr (.inl (0, 350, L 4))), (64, .inr (.inl (0, 350, L 5))), (65, .inr (.inl (0, 350, L 6))), (66, .inr (.inl (0, 4, la))), (67, .inr (.inl (0, 24, pl))), (2, .inl (8, [.inr (.inl 3), .inr (.inl 4), .inr (.inl 5), .inr (.inl 10)])), (5, .inr (.inr (.inr (3, [6, 7, 8, 9])))), (6, .inr (.inl (0, 16, hd 0))), (7, .inr (.inl (0, 16, hd 1))), (8, .inr (.inl (0, 16, hd 2))), (9, .inr (.inl (0, 16, hd 3)))]) _
      refine ex_callS cg_51 (ix := 22) (pc' := 42) (As := [.inl (.int hz), .inl (.int gz)]) (r := [.inl (.int z)]) rfl rfl rfl (ct_rof (x := hz) (y := gz) (hN := (hd k hN).toInt.toNat) (gN := cN sN k) (by omega) (by omega) hgz (by have := cN_le (b := k) hs70 (by omega); omega)) (by first | decide | omega) rfl rfl trivial rfl rfl (fun v h2 hq => ?_)
      obtain ⟨z3, rfl, rfl, hz3⟩ := hq
      show cx_T _ 51 _ 42 ([some (.inr (.inl 43)), some (.inl (.int x)), some (.inl (.int y)), some (.inl (.int s)), some (.inl (.int z)), some (.inl (.int i))], [.inl (.int z3), .inl (.int z)], [(43, .inl (4, [.inr (.inl 2), .inr (.inl 44), .inr (.inl 45), .inr (.inl 46), .inr (.inl 47), .inr (.inl 48), .inr (.inl 49), .inr (.inl 50), .inr (.inl 57), .inr (.inl 58), .inr (.inl 66), .inr (.inl 67), .inl (.int g), .inl (.int fk), .inl (.int pf), .inl (.int pt), .inl (.int pr)])), (44, .inr (.inl (0, 4, mi))), (45, .inr (.inl (0, 70, cd))), (46, .inr (.inl (0, 70, sz))), (47, .inr (.inl (0, 625, sp))), (48, .inr (.inl (0, 280, th))), (49, .inr (.inl (2, 4900, fo))), (50, .inr (.inr (.inr (3, [51, 52, 53, 54, 55, 56])))), (51, .inr (.inl (0, 70, R 0))), (52, .inr (.inl (0, 70, R 1))), (53, .inr (.inl (0, 70, R 2))), (54, .inr (.inl (0, 70, R 3))), (55, .inr (.inl (0, 70, R 4))), (56, .inr (.inl (0, 70, R 5))), (57, .inr (.inl (0, 350, go))), (58, .inr (.inr (.inr (3, [59, 60, 61, 62, 63, 64, 65])))), (59, .inr (.inl (0, 350, L 0))), (60, .inr (.inl (0, 350, L 1))), (61, .inr (.inl (0, 350, L 2))), (62, .inr (.inl (0, 350, L 3))), (63, .inr (.inl (0, 350, L 4))), (64, .inr (.inl (0, 350, L 5))), (65, .inr (.inl (0, 350, L 6))), (66, .inr (.inl (0, 4, la))), (67, .inr (.inl (0, 24, pl))), (2, .inl (8, [.inr (.inl 3), .inr (.inl 4), .inr (.inl 5), .inr (.inl 10)])), (5, .inr (.inr (.inr (3, [6, 7, 8, 9])))), (6, .inr (.inl (0, 16, hd 0))), (7, .inr (.inl (0, 16, hd 1))), (8, .inr (.inl (0, 16, hd 2))), (9, .inr (.inl (0, 16, hd 3)))]) _
      refine ex_iadd cg_51 (ix := 23) (pc' := 43) rfl rfl ?_
      refine ex_istore cg_51 (ix := 24) (pc' := 45) (L' := [some (.inr (.inl 43)), some (.inl (.int x)), some (.inl (.int y)), some (.inl (.int s)), some (.inl (.int (z + z3))), some (.inl (.int i))]) rfl rfl rfl rfl ?_
      refine ex_iinc cg_51 (ix := 25) (pc' := 48) (L' := [some (.inr (.inl 43)), some (.inl (.int x)), some (.inl (.int y)), some (.inl (.int s)), some (.inl (.int (z + z3))), some (.inl (.int (i + Int32.ofInt 1)))]) rfl rfl rfl rfl rfl ?_
      refine ex_goto cg_51 (ix := 26) (pc' := 14) rfl rfl ?_
      exact ih (k + 1) (by omega) _ (by rw [cx_addc (by omega) (by omega)]; omega) _ (by rw [cx_addc (by omega) (by have := rk1_le (h := (hd k hN).toInt.toNat) (g := cN sN k); omega), hz0, hz3, rkS]; omega)
theorem wr_loop {g fk pf pt pr : Int32} {mi cd sz sp th fo go la pl : Nat → Int32} {R L hd : Nat → Nat → Int32} {x y : Int32} {xN hN : Nat} {P : Option cx_V → cx_H → Prop} (hth : thH th) (hhd : hdH hd) (hx : x.toInt = (xN : Int)) (hx6 : xN < 6) (hy : y.toInt = (hN : Int)) (hh : hN < 16) (hP : ∀ R2 : Nat → Nat → Int32, (∀ j : Nat, ¬ j = xN → R2 j = R j) → (∀ s : Nat, s < 70 → (R2 xN s).toInt = ((rkH hd hN (cN s) : Nat) : Int)) →  P none ([(43, .inl (4, [.inr (.inl 2), .inr (.inl 44), .inr (.inl 45), .inr (.inl 46), .inr (.inl 47), .inr (.inl 48), .inr (.inl 49), .inr (.inl 50), .inr (.inl 57), .inr (.inl 58), .inr (.inl 66), .inr (.inl 67), .inl (.int g), .inl (.int fk), .inl (.int pf), .inl (.int pt), .inl (.int pr)])), (44, .inr (.inl (0, 4, mi))), (45, .inr (.inl (0, 70, cd))), (46, .inr (.inl (0, 70, sz))), (47, .inr (.inl (0, 625, sp))), (48, .inr (.inl (0, 280, th))), (49, .inr (.inl (2, 4900, fo))), (50, .inr (.inr (.inr (3, [51, 52, 53, 54, 55, 56])))), (51, .inr (.inl (0, 70, R2 0))), (52, .inr (.inl (0, 70, R2 1))), (53, .inr (.inl (0, 70, R2 2))), (54, .inr (.inl (0, 70, R2 3))), (55, .inr (.inl (0, 70, R2 4))), (56, .inr (.inl (0, 70, R2 5))), (57, .inr (.inl (0, 350, go))), (58, .inr (.inr (.inr (3, [59, 60, 61, 62, 63, 64, 65])))), (59, .inr (.inl (0, 350, L 0))), (60, .inr (.inl (0, 350, L 1))), (61, .inr (.inl (0, 350, L 2))), (62, .inr (.inl (0, 350, L 3))), (63, .inr (.inl (0, 350, L 4))), (64, .inr (.inl (0, 350, L 5))), (65, .inr (.inl (0, 350, L 6))), (66, .inr (.inl (0, 4, la))), (67, .inr (.inl (0, 24, pl))), (2, .inl (8, [.inr (.inl 3), .inr (.inl 4), .inr (.inl 5), .inr (.inl 10)])), (5, .inr (.inr (.inr (3, [6, 7, 8, 9])))), (6, .inr (.inl (0, 16, hd 0))), (7, .inr (.inl (0, 16, hd 1))), (8, .inr (.inl (0, 16, hd 2))), (9, .inr (.inl (0, 16, hd 3)))])) :
    ∀ (m k : Nat), k + m = 70 → ∀ i : Int32, i.toInt = (k : Int) → ∀ (R2 : Nat → Nat → Int32) (A B : Option cx_V), (∀ j : Nat, ¬ j = xN → R2 j = R j) → (∀ s : Nat, s < k → (R2 xN s).toInt = ((rkH hd hN (cN s) : Nat) : Int)) → cx_T 3 51 [43, 44, 45, 46, 47, 48, 49, 50, 51, 52, 53, 54, 55, 56, 57, 58, 59, 60, 61, 62, 63, 64, 65, 66, 67, 2, 5, 6, 7, 8, 9] 2 ([some (.inr (.inl 43)), some (.inl (.int x)), some (.inl (.int y)), some (.inl (.int i)), A, B], [], [(43, .inl (4, [.inr (.inl 2), .inr (.inl 44), .inr (.inl 45), .inr (.inl 46), .inr (.inl 47), .inr (.inl 48), .inr (.inl 49), .inr (.inl 50), .inr (.inl 57), .inr (.inl 58), .inr (.inl 66), .inr (.inl 67), .inl (.int g), .inl (.int fk), .inl (.int pf), .inl (.int pt), .inl (.int pr)])), (44, .inr (.inl (0, 4, mi))), (45, .inr (.inl (0, 70, cd))), (46, .inr (.inl (0, 70, sz))), (47, .inr (.inl (0, 625, sp))), (48, .inr (.inl (0, 280, th))), (49, .inr (.inl (2, 4900, fo))), (50, .inr (.inr (.inr (3, [51, 52, 53, 54, 55, 56])))), (51, .inr (.inl (0, 70, R2 0))), (52, .inr (.inl (0, 70, R2 1))), (53, .inr (.inl (0, 70, R2 2))), (54, .inr (.inl (0, 70, R2 3))), (55, .inr (.inl (0, 70, R2 4))), (56, .inr (.inl (0, 70, R2 5))), (57, .inr (.inl (0, 350, go))), (58, .inr (.inr (.inr (3, [59, 60, 61, 62, 63, 64, 65])))), (59, .inr (.inl (0, 350, L 0))), (60, .inr (.inl (0, 350, L 1))), (61, .inr (.inl (0, 350, L 2))), (62, .inr (.inl (0, 350, L 3))), (63, .inr (.inl (0, 350, L 4))), (64, .inr (.inl (0, 350, L 5))), (65, .inr (.inl (0, 350, L 6))), (66, .inr (.inl (0, 4, la))), (67, .inr (.inl (0, 24, pl))), (2, .inl (8, [.inr (.inl 3), .inr (.inl 4), .inr (.inl 5), .inr (.inl 10)])), (5, .inr (.inr (.inr (3, [6, 7, 8, 9])))), (6, .inr (.inl (0, 16, hd 0))), (7, .inr (.inl (0, 16, hd 1))), (8, .inr (.inl (0, 16, hd 2))), (9, .inr (.inl (0, 16, hd 3)))]) P := by
  have kc0 : (Int32.ofInt 0).toInt = 0 := by decide +kernel
  have kc1 : (Int32.ofInt 1).toInt = 1 := by decide +kernel
  have kc4 : (Int32.ofInt 4).toInt = 4 := by decide +kernel
  have kc70 : (Int32.ofInt 70).toInt = 70 := by decide +kernel
  intro m
  induction m with
  | zero =>
    intro k hk i hi R2 A B hr1 hr2
    have ek : k = 70 := by omega
    refine ex_iload_n cg_51 (ix := 2) (pc' := 3) rfl rfl rfl ?_
    refine ex_bipush cg_51 (ix := 3) (pc' := 5) rfl rfl rfl ?_
    refine ex_icmp cg_51 (ix := 4) (t := 67) (pc' := 8) rfl rfl rfl (fun hb5 => ?_) (fun hb5 => ?_)
    · have hb5 : (Int32.ofInt 70).toInt ≤ i.toInt := hb5
      refine ex_return_ cg_51 (ix := 36) rfl ?_
      rw [ek] at hr2
      exact hP R2 hr1 hr2
    · have hb5 : ¬ ((Int32.ofInt 70).toInt ≤ i.toInt) := hb5
      exfalso; first | omega | exact absurd hb5 (by decide +kernel)
  | succ m ih =>
    intro k hk i hi R2 A B hr1 hr2
    have hik : i.toNatClampNeg = k := cx_clamp hi
    refine ex_iload_n cg_51 (ix := 2) (pc' := 3) rfl rfl rfl ?_
    refine ex_bipush cg_51 (ix := 3) (pc' := 5) rfl rfl rfl ?_
    refine ex_icmp cg_51 (ix := 4) (t := 67) (pc' := 8) rfl rfl rfl (fun hb5 => ?_) (fun hb5 => ?_)
    · have hb5 : (Int32.ofInt 70).toInt ≤ i.toInt := hb5
      exfalso; first | omega | exact absurd hb5 (by decide +kernel)
    · have hb5 : ¬ ((Int32.ofInt 70).toInt ≤ i.toInt) := hb5
      refine ex_iconst cg_51 (ix := 5) (pc' := 9) rfl rfl ?_
      refine ex_istore cg_51 (ix := 6) (pc' := 11) (L' := [some (.inr (.inl 43)), some (.inl (.int x)), some (.inl (.int y)), some (.inl (.int i)), some (.inl (.int (Int32.ofInt 0))), B]) rfl rfl rfl rfl ?_
      refine ex_iconst cg_51 (ix := 7) (pc' := 12) rfl rfl ?_
      refine ex_istore cg_51 (ix := 8) (pc' := 14) (L' := [some (.inr (.inl 43)), some (.inl (.int x)), some (.inl (.int y)), some (.inl (.int i)), some (.inl (.int (Int32.ofInt 0))), some (.inl (.int (Int32.ofInt 0)))]) rfl rfl rfl rfl ?_
      refine rk_loop (g := g) (fk := fk) (pf := pf) (pt := pt) (pr := pr) (mi := mi) (cd := cd) (sz := sz) (sp := sp) (th := th) (fo := fo) (go := go) (la := la) (pl := pl) (R := R2) (L := L) (hd := hd) (x := x) (y := y) (xN := xN) (hN := hN) (s := i) (sN := k) hth hhd hx hx6 hy hh hi (by omega) (P := P) (fun z i2 hz0 => ?_) 4 0 (by omega) (Int32.ofInt 0) (by decide +kernel) (Int32.ofInt 0) (by rw [rkS]; decide +kernel)
      refine ex_aload_n cg_51 (ix := 27) (pc' := 52) rfl rfl rfl ?_
      refine ex_getfield cg_51 (ix := 28) (pc' := 55) rfl rfl rfl rfl rfl ?_
      refine ex_iload_n cg_51 (ix := 29) (pc' := 56) rfl rfl rfl ?_
      refine ex_aaload cg_51 (ix := 30) (pc' := 57) (k1 := (51 + xN)) rfl rfl (by omega) (rr_ix hx6 hx) rfl ?_
      refine ex_iload_n cg_51 (ix := 31) (pc' := 58) rfl rfl rfl ?_
      refine ex_iload cg_51 (ix := 32) (pc' := 60) rfl rfl rfl ?_
      refine ex_iastore cg_51 (ix := 33) (pc' := 61) (h' := [(43, .inl (4, [.inr (.inl 2), .inr (.inl 44), .inr (.inl 45), .inr (.inl 46), .inr (.inl 47), .inr (.inl 48), .inr (.inl 49), .inr (.inl 50), .inr (.inl 57), .inr (.inl 58), .inr (.inl 66), .inr (.inl 67), .inl (.int g), .inl (.int fk), .inl (.int pf), .inl (.int pt), .inl (.int pr)])), (44, .inr (.inl (0, 4, mi))), (45, .inr (.inl (0, 70, cd))), (46, .inr (.inl (0, 70, sz))), (47, .inr (.inl (0, 625, sp))), (48, .inr (.inl (0, 280, th))), (49, .inr (.inl (2, 4900, fo))), (50, .inr (.inr (.inr (3, [51, 52, 53, 54, 55, 56])))), (51, .inr (.inl (0, 70, (up2 R2 xN (upd (R2 xN) i.toNatClampNeg z)) 0))), (52, .inr (.inl (0, 70, (up2 R2 xN (upd (R2 xN) i.toNatClampNeg z)) 1))), (53, .inr (.inl (0, 70, (up2 R2 xN (upd (R2 xN) i.toNatClampNeg z)) 2))), (54, .inr (.inl (0, 70, (up2 R2 xN (upd (R2 xN) i.toNatClampNeg z)) 3))), (55, .inr (.inl (0, 70, (up2 R2 xN (upd (R2 xN) i.toNatClampNeg z)) 4))), (56, .inr (.inl (0, 70, (up2 R2 xN (upd (R2 xN) i.toNatClampNeg z)) 5))), (57, .inr (.inl (0, 350, go))), (58, .inr (.inr (.inr (3, [59, 60, 61, 62, 63, 64, 65])))), (59, .inr (.inl (0, 350, L 0))), (60, .inr (.inl (0, 350, L 1))), (61, .inr (.inl (0, 350, L 2))), (62, .inr (.inl (0, 350, L 3))), (63, .inr (.inl (0, 350, L 4))), (64, .inr (.inl (0, 350, L 5))), (65, .inr (.inl (0, 350, L 6))), (66, .inr (.inl (0, 4, la))), (67, .inr (.inl (0, 24, pl))), (2, .inl (8, [.inr (.inl 3), .inr (.inl 4), .inr (.inl 5), .inr (.inl 10)])), (5, .inr (.inr (.inr (3, [6, 7, 8, 9])))), (6, .inr (.inl (0, 16, hd 0))), (7, .inr (.inl (0, 16, hd 1))), (8, .inr (.inl (0, 16, hd 2))), (9, .inr (.inl (0, 16, hd 3)))]) rfl (rr_get (V := R2) (by omega)) (by omega) (by omega) (rr_set (V := R2) (by omega)) rfl ?_
      refine ex_iinc cg_51 (ix := 34) (pc' := 64) (L' := [some (.inr (.inl 43)), some (.inl (.int x)), some (.inl (.int y)), some (.inl (.int (i + Int32.ofInt 1))), some (.inl (.int z)), some (.inl (.int i2))]) rfl rfl rfl rfl rfl ?_
      refine ex_goto cg_51 (ix := 35) (pc' := 2) rfl rfl ?_
      refine ih (k + 1) (by omega) _ (by rw [cx_addc (by omega) (by omega)]; omega) _ _ _ (fun j hj => ?_) (fun q hq => ?_)
      · rw [up2_ne hj]; exact hr1 j hj
      · rw [up2_me, hik]
        unfold upd
        by_cases e : q = k
        · rw [e, if_pos rfl]; exact hz0
        · rw [if_neg e]; exact hr2 q (by omega)
theorem ct_wr {g fk pf pt pr : Int32} {mi cd sz sp th fo go la pl : Nat → Int32} {R L hd : Nat → Nat → Int32} {x y : Int32} {xN hN : Nat} (hth : thH th) (hhd : hdH hd) (hx : x.toInt = (xN : Int)) (hx6 : xN < 6) (hy : y.toInt = (hN : Int)) (hh : hN < 16) : cx_Ct 3 51 [.inr (.inl 43), .inl (.int x), .inl (.int y)] (h_ro g fk pf pt pr mi cd sz sp th fo go la pl R L hd) (fun v h2 => v = none ∧ ∃ R2 : Nat → Nat → Int32, h2 = h_ro g fk pf pt pr mi cd sz sp th fo go la pl R2 L hd ∧ (∀ j : Nat, ¬ j = xN → R2 j = R j) ∧ ∀ s : Nat, s < 70 → (R2 xN s).toInt = ((rkH hd hN (cN s) : Nat) : Int)) := by
  have kc0 : (Int32.ofInt 0).toInt = 0 := by decide +kernel
  have kc70 : (Int32.ofInt 70).toInt = 70 := by decide +kernel
  have kc4 : (Int32.ofInt 4).toInt = 4 := by decide +kernel
  have kc1 : (Int32.ofInt 1).toInt = 1 := by decide +kernel
  refine cx_Ct.of cg_51 (nL := 6) rfl rfl rfl ?_
  show cx_T 3 51 [43, 44, 45, 46, 47, 48, 49, 50, 51, 52, 53, 54, 55, 56, 57, 58, 59, 60, 61, 62, 63, 64, 65, 66, 67, 2, 5, 6, 7, 8, 9] 0 ([some (.inr (.inl 43)), some (.inl (.int x)), some (.inl (.int y)), none, none, none], [], (h_ro g fk pf pt pr mi cd sz sp th fo go la pl R L hd)) _
  refine ex_iconst cg_51 (ix := 0) (pc' := 1) rfl rfl ?_
  refine ex_istore_n cg_51 (ix := 1) (pc' := 2) (L' := [some (.inr (.inl 43)), some (.inl (.int x)), some (.inl (.int y)), some (.inl (.int (Int32.ofInt 0))), none, none]) rfl rfl rfl rfl ?_
  exact wr_loop (g := g) (fk := fk) (pf := pf) (pt := pt) (pr := pr) (mi := mi) (cd := cd) (sz := sz) (sp := sp) (th := th) (fo := fo) (go := go) (la := la) (pl := pl) (R := R) (L := L) (hd := hd) (x := x) (y := y) (xN := xN) (hN := hN) hth hhd hx hx6 hy hh (P := fun v h2 => v = none ∧ ∃ R2 : Nat → Nat → Int32, h2 = h_ro g fk pf pt pr mi cd sz sp th fo go la pl R2 L hd ∧ (∀ j : Nat, ¬ j = xN → R2 j = R j) ∧ ∀ s : Nat, s < 70 → (R2 xN s).toInt = ((rkH hd hN (cN s) : Nat) : Int)) (fun R2 h1 h3 => ⟨rfl, R2, rfl, h1, h3⟩) 70 0 (by omega) (Int32.ofInt 0) (by decide +kernel) R none none (fun _ _ => rfl) (fun s hs => absurd hs (Nat.not_lt_zero s))
theorem g1_loop {g fk pf pt pr : Int32} {mi cd sz sp th fo go la pl : Nat → Int32} {R L hd : Nat → Nat → Int32} {x : Int32} {xN gN : Nat} {rkc : (Nat → Nat) → Nat} {Lv : Nat → Nat → Nat} {n l : Int32} {oN lN : Nat} {P : Option cx_V → cx_H → Prop} (hcd : cdH cd) (hsz : szH sz) (hsp : spH sp) (hx : x.toInt = (xN : Int)) (hx6 : xN < 6) (hg : g.toInt = (gN : Int)) (hg4 : gN ≤ 4) (hR : ∀ s : Nat, s < 70 → (R xN s).toInt = ((rkc (cN s) : Nat) : Int)) (hkc : ∀ c e : Nat → Nat, (∀ b, b < 4 → c b = e b) → rkc c = rkc e) (hkb : ∀ c : Nat → Nat, rkc c ≤ 100000) (hL : ∀ f r : Nat, f < 70 → szN f + r ≤ gN → (L (xN + 1) (5 * f + r)).toInt = ((Lv f r : Nat) : Int)) (hLb : ∀ f r : Nat, Lv f r ≤ 1000000) (hn : n.toInt = (oN : Int)) (ho : oN < 70) (hl : l.toInt = (lN : Int)) (hlo : lN + szN oN = gN) (hP : ∀ (gx : Nat → Int32) (i : Int32) (A B : Option cx_V), (∀ r : Nat, r ≤ lN → (gx (5 * oN + r)).toInt = ((mnZ 1000000000 (fun fr => Nat.beq (szN fr) r) (GOf rkc Lv gN oN) 70 : Nat) : Int)) → (∀ j : Nat, ¬ (5 * oN ≤ j ∧ j < 5 * oN + 5) → gx j = go j) →  cx_T 3 53 [43, 44, 45, 46, 47, 48, 49, 50, 51, 52, 53, 54, 55, 56, 57, 58, 59, 60, 61, 62, 63, 64, 65, 66, 67, 2, 5, 6, 7, 8, 9] 153 ([some (.inr (.inl 43)), some (.inl (.int x)), some (.inl (.int n)), some (.inl (.int l)), some (.inl (.int i)), A, B], [], [(43, .inl (4, [.inr (.inl 2), .inr (.inl 44), .inr (.inl 45), .inr (.inl 46), .inr (.inl 47), .inr (.inl 48), .inr (.inl 49), .inr (.inl 50), .inr (.inl 57), .inr (.inl 58), .inr (.inl 66), .inr (.inl 67), .inl (.int g), .inl (.int fk), .inl (.int pf), .inl (.int pt), .inl (.int pr)])), (44, .inr (.inl (0, 4, mi))), (45, .inr (.inl (0, 70, cd))), (46, .inr (.inl (0, 70, sz))), (47, .inr (.inl (0, 625, sp))), (48, .inr (.inl (0, 280, th))), (49, .inr (.inl (2, 4900, fo))), (50, .inr (.inr (.inr (3, [51, 52, 53, 54, 55, 56])))), (51, .inr (.inl (0, 70, R 0))), (52, .inr (.inl (0, 70, R 1))), (53, .inr (.inl (0, 70, R 2))), (54, .inr (.inl (0, 70, R 3))), (55, .inr (.inl (0, 70, R 4))), (56, .inr (.inl (0, 70, R 5))), (57, .inr (.inl (0, 350, gx))), (58, .inr (.inr (.inr (3, [59, 60, 61, 62, 63, 64, 65])))), (59, .inr (.inl (0, 350, L 0))), (60, .inr (.inl (0, 350, L 1))), (61, .inr (.inl (0, 350, L 2))), (62, .inr (.inl (0, 350, L 3))), (63, .inr (.inl (0, 350, L 4))), (64, .inr (.inl (0, 350, L 5))), (65, .inr (.inl (0, 350, L 6))), (66, .inr (.inl (0, 4, la))), (67, .inr (.inl (0, 24, pl))), (2, .inl (8, [.inr (.inl 3), .inr (.inl 4), .inr (.inl 5), .inr (.inl 10)])), (5, .inr (.inr (.inr (3, [6, 7, 8, 9])))), (6, .inr (.inl (0, 16, hd 0))), (7, .inr (.inl (0, 16, hd 1))), (8, .inr (.inl (0, 16, hd 2))), (9, .inr (.inl (0, 16, hd 3)))]) P) :
    ∀ (m k : Nat), k + m = 70 → ∀ i : Int32, i.toInt = (k : Int) → ∀ (gx : Nat → Int32) (A B : Option cx_V), (∀ r : Nat, r ≤ lN → (gx (5 * oN + r)).toInt = ((mnZ 1000000000 (fun fr => Nat.beq (szN fr) r) (GOf rkc Lv gN oN) k : Nat) : Int)) → (∀ j : Nat, ¬ (5 * oN ≤ j ∧ j < 5 * oN + 5) → gx j = go j) → cx_T 3 53 [43, 44, 45, 46, 47, 48, 49, 50, 51, 52, 53, 54, 55, 56, 57, 58, 59, 60, 61, 62, 63, 64, 65, 66, 67, 2, 5, 6, 7, 8, 9] 45 ([some (.inr (.inl 43)), some (.inl (.int x)), some (.inl (.int n)), some (.inl (.int l)), some (.inl (.int i)), A, B], [], [(43, .inl (4, [.inr (.inl 2), .inr (.inl 44), .inr (.inl 45), .inr (.inl 46), .inr (.inl 47), .inr (.inl 48), .inr (.inl 49), .inr (.inl 50), .inr (.inl 57), .inr (.inl 58), .inr (.inl 66), .inr (.inl 67), .inl (.int g), .inl (.int fk), .inl (.int pf), .inl (.int pt), .inl (.int pr)])), (44, .inr (.inl (0, 4, mi))), (45, .inr (.inl (0, 70, cd))), (46, .inr (.inl (0, 70, sz))), (47, .inr (.inl (0, 625, sp))), (48, .inr (.inl (0, 280, th))), (49, .inr (.inl (2, 4900, fo))), (50, .inr (.inr (.inr (3, [51, 52, 53, 54, 55, 56])))), (51, .inr (.inl (0, 70, R 0))), (52, .inr (.inl (0, 70, R 1))), (53, .inr (.inl (0, 70, R 2))), (54, .inr (.inl (0, 70, R 3))), (55, .inr (.inl (0, 70, R 4))), (56, .inr (.inl (0, 70, R 5))), (57, .inr (.inl (0, 350, gx))), (58, .inr (.inr (.inr (3, [59, 60, 61, 62, 63, 64, 65])))), (59, .inr (.inl (0, 350, L 0))), (60, .inr (.inl (0, 350, L 1))), (61, .inr (.inl (0, 350, L 2))), (62, .inr (.inl (0, 350, L 3))), (63, .inr (.inl (0, 350, L 4))), (64, .inr (.inl (0, 350, L 5))), (65, .inr (.inl (0, 350, L 6))), (66, .inr (.inl (0, 4, la))), (67, .inr (.inl (0, 24, pl))), (2, .inl (8, [.inr (.inl 3), .inr (.inl 4), .inr (.inl 5), .inr (.inl 10)])), (5, .inr (.inr (.inr (3, [6, 7, 8, 9])))), (6, .inr (.inl (0, 16, hd 0))), (7, .inr (.inl (0, 16, hd 1))), (8, .inr (.inl (0, 16, hd 2))), (9, .inr (.inl (0, 16, hd 3)))]) P := by
  have kc0 : (Int32.ofInt 0).toInt = 0 := by decide +kernel
  have kc1 : (Int32.ofInt 1).toInt = 1 := by decide +kernel
  have kc5 : (Int32.ofInt 5).toInt = 5 := by decide +kernel
  have kc70 : (Int32.ofInt 70).toInt = 70 := by decide +kernel
  have kc1000000000 : (Int32.ofInt 1000000000).toInt = 1000000000 := by decide +kernel
  intro m
  induction m with
  | zero =>
    intro k hk i hi gx A B hg1 hg2
    have ek : k = 70 := by omega
    refine ex_iload cg_53 (ix := 26) (pc' := 47) rfl rfl rfl ?_
    refine ex_bipush cg_53 (ix := 27) (pc' := 49) rfl rfl rfl ?_
    refine ex_icmp cg_53 (ix := 28) (t := 153) (pc' := 52) rfl rfl rfl (fun hb49 => ?_) (fun hb49 => ?_)
    · have hb49 : (Int32.ofInt 70).toInt ≤ i.toInt := hb49
      refine hP gx i A B (fun r hr => ?_) hg2
      rw [hg1 r hr]
      first
      | rw [ek]
      | (rw [show (70 : Nat) = k + (70 - k) by omega, mnZ_stop (fun c h1 h2 z => ?_)]
         have h3 := sz_mono h1 (show c < 70 by omega)
         have h4 := Nat.eq_of_beq_eq_true z
         omega)
    · have hb49 : ¬ ((Int32.ofInt 70).toInt ≤ i.toInt) := hb49
      exfalso; first | omega | exact absurd hb49 (by decide +kernel)
  | succ m ih =>
    intro k hk i hi gx A B hg1 hg2
    have hik : i.toNatClampNeg = k := cx_clamp hi
    have hn0 : (n * Int32.ofInt 5).toInt = 5 * n.toInt := cx_mulk2 kc5 (by omega) (by omega)
    have hzk : (sz i.toNatClampNeg).toInt = ((szN k : Nat) : Int) := by
      rw [hik]
      exact hsz k (by omega)
    have hzk4 := (sp_sz (show k < 70 by omega)).2.2.2
    refine ex_iload cg_53 (ix := 26) (pc' := 47) rfl rfl rfl ?_
    refine ex_bipush cg_53 (ix := 27) (pc' := 49) rfl rfl rfl ?_
    refine ex_icmp cg_53 (ix := 28) (t := 153) (pc' := 52) rfl rfl rfl (fun hb49 => ?_) (fun hb49 => ?_)
    · have hb49 : (Int32.ofInt 70).toInt ≤ i.toInt := hb49
      exfalso; first | omega | exact absurd hb49 (by decide +kernel)
    · have hb49 : ¬ ((Int32.ofInt 70).toInt ≤ i.toInt) := hb49
      refine ex_aload_n cg_53 (ix := 29) (pc' := 53) rfl rfl rfl ?_
      refine ex_getfield cg_53 (ix := 30) (pc' := 56) rfl rfl rfl rfl rfl ?_
      refine ex_iload cg_53 (ix := 31) (pc' := 58) rfl rfl rfl ?_
      refine ex_iaload cg_53 (ix := 32) (pc' := 59) rfl rfl (by omega) (by omega) rfl ?_
      refine ex_iload_n cg_53 (ix := 33) (pc' := 60) rfl rfl rfl ?_
      refine ex_icmp cg_53 (ix := 34) (t := 153) (pc' := 63) rfl rfl rfl (fun hb60 => ?_) (fun hb60 => ?_)
      · have hb60 : l.toInt < (sz i.toNatClampNeg).toInt := hb60
        refine hP gx i A B (fun r hr => ?_) hg2
        rw [hg1 r hr]
        first
        | rw [ek]
        | (rw [show (70 : Nat) = k + (70 - k) by omega, mnZ_stop (fun c h1 h2 z => ?_)]
           have h3 := sz_mono h1 (show c < 70 by omega)
           have h4 := Nat.eq_of_beq_eq_true z
           omega)
      · have hb60 : ¬ (l.toInt < (sz i.toNatClampNeg).toInt) := hb60
        have hk7 : k < 70 := by omega
        have hadd := sp_add ho hk7 (by omega)
        have hc1 : (cd n.toNatClampNeg).toInt = ((cdN oN : Nat) : Int) := by
          rw [cx_clamp hn]
          exact hcd _ ho
        have hc2 : (cd i.toNatClampNeg).toInt = ((cdN k : Nat) : Int) := by
          rw [hik]
          exact hcd _ hk7
        have hcs : (cd n.toNatClampNeg + cd i.toNatClampNeg).toInt = ((cdN oN + cdN k : Nat) : Int) := by
          rw [cx_addc (by omega) (by omega), hc1, hc2]
          omega
        have hps : (sp (cd n.toNatClampNeg + cd i.toNatClampNeg).toNatClampNeg).toInt = ((spN (cdN oN + cdN k) : Nat) : Int) := by
          rw [cx_clamp hcs]
          exact hsp _ hadd.1
        have hrv : (R xN (sp (cd n.toNatClampNeg + cd i.toNatClampNeg).toNatClampNeg).toNatClampNeg).toInt = ((rkc (fun b => cN oN b + cN k b) : Nat) : Int) := by
          rw [cx_clamp hps, hR _ hadd.2.1, hkc _ (fun b => cN oN b + cN k b) hadd.2.2]
        have hx1 : (x + Int32.ofInt 1).toInt = ((xN + 1 : Nat) : Int) := by
          rw [cx_addc (by omega) (by omega)]
          omega
        have hi5 : (i * Int32.ofInt 5).toInt = 5 * i.toInt := cx_mulk2 kc5 (by omega) (by omega)
        have hi5l : (i * Int32.ofInt 5 + l).toInt = 5 * i.toInt + l.toInt := by rw [cx_addc (by omega) (by omega), hi5]
        have hli : (i * Int32.ofInt 5 + l - sz i.toNatClampNeg).toInt = ((5 * k + (gN - szN oN - szN k) : Nat) : Int) := by
          rw [cx_subc (by omega) (by omega), hi5l]
          omega
        have hlv : (L (xN + 1) (i * Int32.ofInt 5 + l - sz i.toNatClampNeg).toNatClampNeg).toInt = ((Lv k (gN - szN oN - szN k) : Nat) : Int) := by
          rw [cx_clamp hli]
          exact hL k _ hk7 (by omega)
        have hrb := hkb (fun b => cN oN b + cN k b)
        have hlb := hLb k (gN - szN oN - szN k)
        have hall : (R xN (sp (cd n.toNatClampNeg + cd i.toNatClampNeg).toNatClampNeg).toNatClampNeg + L (xN + 1) (i * Int32.ofInt 5 + l - sz i.toNatClampNeg).toNatClampNeg).toInt = ((GOf rkc Lv gN oN k : Nat) : Int) := by
          rw [cx_addc (by omega) (by omega), hrv, hlv]
          unfold GOf
          omega
        have hat : (n * Int32.ofInt 5 + sz i.toNatClampNeg).toInt = ((5 * oN + szN k : Nat) : Int) := by
          rw [cx_addc (by omega) (by omega), hn0]
          omega
        have hatc := cx_clamp hat
        have hgv : (gx (n * Int32.ofInt 5 + sz i.toNatClampNeg).toNatClampNeg).toInt = ((mnZ 1000000000 (fun fr => Nat.beq (szN fr) (szN k)) (GOf rkc Lv gN oN) k : Nat) : Int) := by
          rw [hatc]
          exact hg1 _ (by omega)
        refine ex_aload_n cg_53 (ix := 35) (pc' := 64) rfl rfl rfl ?_
        refine ex_getfield cg_53 (ix := 36) (pc' := 67) rfl rfl rfl rfl rfl ?_
        refine ex_iload_n cg_53 (ix := 37) (pc' := 68) rfl rfl rfl ?_
        refine ex_aaload cg_53 (ix := 38) (pc' := 69) (k1 := (51 + xN)) rfl rfl (by omega) (rr_ix hx6 hx) rfl ?_
        refine ex_aload_n cg_53 (ix := 39) (pc' := 70) rfl rfl rfl ?_
        refine ex_getfield cg_53 (ix := 40) (pc' := 73) rfl rfl rfl rfl rfl ?_
        refine ex_aload_n cg_53 (ix := 41) (pc' := 74) rfl rfl rfl ?_
        refine ex_getfield cg_53 (ix := 42) (pc' := 77) rfl rfl rfl rfl rfl ?_
        refine ex_iload_n cg_53 (ix := 43) (pc' := 78) rfl rfl rfl ?_
        refine ex_iaload cg_53 (ix := 44) (pc' := 79) rfl rfl (by omega) (by omega) rfl ?_
        refine ex_aload_n cg_53 (ix := 45) (pc' := 80) rfl rfl rfl ?_
        refine ex_getfield cg_53 (ix := 46) (pc' := 83) rfl rfl rfl rfl rfl ?_
        refine ex_iload cg_53 (ix := 47) (pc' := 85) rfl rfl rfl ?_
        refine ex_iaload cg_53 (ix := 48) (pc' := 86) rfl rfl (by omega) (by omega) rfl ?_
        refine ex_iadd cg_53 (ix := 49) (pc' := 87) rfl rfl ?_
        refine ex_iaload cg_53 (ix := 50) (pc' := 88) rfl rfl (by omega) (by omega) rfl ?_
        refine ex_iaload cg_53 (ix := 51) (pc' := 89) rfl (rr_get (V := R) (by omega)) (by omega) (by omega) rfl ?_
        refine ex_aload_n cg_53 (ix := 52) (pc' := 90) rfl rfl rfl ?_
        refine ex_getfield cg_53 (ix := 53) (pc' := 93) rfl rfl rfl rfl rfl ?_
        refine ex_iload_n cg_53 (ix := 54) (pc' := 94) rfl rfl rfl ?_
        refine ex_iconst cg_53 (ix := 55) (pc' := 95) rfl rfl ?_
        refine ex_iadd cg_53 (ix := 56) (pc' := 96) rfl rfl ?_
        refine ex_aaload cg_53 (ix := 57) (pc' := 97) (k1 := (59 + (xN + 1))) rfl rfl (by omega) (ll_ix (by omega) hx1) rfl ?_
        refine ex_iload cg_53 (ix := 58) (pc' := 99) rfl rfl rfl ?_
        refine ex_iconst cg_53 (ix := 59) (pc' := 100) rfl rfl ?_
        refine ex_imul cg_53 (ix := 60) (pc' := 101) rfl rfl ?_
        refine ex_iload_n cg_53 (ix := 61) (pc' := 102) rfl rfl rfl ?_
        refine ex_iadd cg_53 (ix := 62) (pc' := 103) rfl rfl ?_
        refine ex_aload_n cg_53 (ix := 63) (pc' := 104) rfl rfl rfl ?_
        refine ex_getfield cg_53 (ix := 64) (pc' := 107) rfl rfl rfl rfl rfl ?_
        refine ex_iload cg_53 (ix := 65) (pc' := 109) rfl rfl rfl ?_
        refine ex_iaload cg_53 (ix := 66) (pc' := 110) rfl rfl (by omega) (by omega) rfl ?_
        refine ex_isub cg_53 (ix := 67) (pc' := 111) rfl rfl ?_
        refine ex_iaload cg_53 (ix := 68) (pc' := 112) rfl (ll_get (V := L) (by omega)) (by omega) (by omega) rfl ?_
        refine ex_iadd cg_53 (ix := 69) (pc' := 113) rfl rfl ?_
        refine ex_istore cg_53 (ix := 70) (pc' := 115) (L' := [some (.inr (.inl 43)), some (.inl (.int x)), some (.inl (.int n)), some (.inl (.int l)), some (.inl (.int i)), some (.inl (.int (((R xN) (sp ((cd n.toNatClampNeg) + (cd i.toNatClampNeg)).toNatClampNeg).toNatClampNeg) + ((L (xN + 1)) (((i * (Int32.ofInt 5)) + l) - (sz i.toNatClampNeg)).toNatClampNeg)))), B]) rfl rfl rfl rfl ?_
        refine ex_iload_n cg_53 (ix := 71) (pc' := 116) rfl rfl rfl ?_
        refine ex_iconst cg_53 (ix := 72) (pc' := 117) rfl rfl ?_
        refine ex_imul cg_53 (ix := 73) (pc' := 118) rfl rfl ?_
        refine ex_aload_n cg_53 (ix := 74) (pc' := 119) rfl rfl rfl ?_
        refine ex_getfield cg_53 (ix := 75) (pc' := 122) rfl rfl rfl rfl rfl ?_
        refine ex_iload cg_53 (ix := 76) (pc' := 124) rfl rfl rfl ?_
        refine ex_iaload cg_53 (ix := 77) (pc' := 125) rfl rfl (by omega) (by omega) rfl ?_
        refine ex_iadd cg_53 (ix := 78) (pc' := 126) rfl rfl ?_
        refine ex_istore cg_53 (ix := 79) (pc' := 128) (L' := [some (.inr (.inl 43)), some (.inl (.int x)), some (.inl (.int n)), some (.inl (.int l)), some (.inl (.int i)), some (.inl (.int (((R xN) (sp ((cd n.toNatClampNeg) + (cd i.toNatClampNeg)).toNatClampNeg).toNatClampNeg) + ((L (xN + 1)) (((i * (Int32.ofInt 5)) + l) - (sz i.toNatClampNeg)).toNatClampNeg)))), some (.inl (.int ((n * (Int32.ofInt 5)) + (sz i.toNatClampNeg))))]) rfl rfl rfl rfl ?_
        refine ex_aload_n cg_53 (ix := 80) (pc' := 129) rfl rfl rfl ?_
        refine ex_getfield cg_53 (ix := 81) (pc' := 132) rfl rfl rfl rfl rfl ?_
        refine ex_iload cg_53 (ix := 82) (pc' := 134) rfl rfl rfl ?_
        refine ex_aload_n cg_53 (ix := 83) (pc' := 135) rfl rfl rfl ?_
        refine ex_getfield cg_53 (ix := 84) (pc' := 138) rfl rfl rfl rfl rfl ?_
        refine ex_iload cg_53 (ix := 85) (pc' := 140) rfl rfl rfl ?_
        refine ex_iaload cg_53 (ix := 86) (pc' := 141) rfl rfl (by omega) (by omega) rfl ?_
        refine ex_iload cg_53 (ix := 87) (pc' := 143) rfl rfl rfl ?_
        refine ex_min cg_53 (ix := 88) (pc' := 146) rfl rfl (by first | decide | omega) rfl rfl ?_
        refine ex_iastore cg_53 (ix := 89) (pc' := 147) (h' := [(43, .inl (4, [.inr (.inl 2), .inr (.inl 44), .inr (.inl 45), .inr (.inl 46), .inr (.inl 47), .inr (.inl 48), .inr (.inl 49), .inr (.inl 50), .inr (.inl 57), .inr (.inl 58), .inr (.inl 66), .inr (.inl 67), .inl (.int g), .inl (.int fk), .inl (.int pf), .inl (.int pt), .inl (.int pr)])), (44, .inr (.inl (0, 4, mi))), (45, .inr (.inl (0, 70, cd))), (46, .inr (.inl (0, 70, sz))), (47, .inr (.inl (0, 625, sp))), (48, .inr (.inl (0, 280, th))), (49, .inr (.inl (2, 4900, fo))), (50, .inr (.inr (.inr (3, [51, 52, 53, 54, 55, 56])))), (51, .inr (.inl (0, 70, R 0))), (52, .inr (.inl (0, 70, R 1))), (53, .inr (.inl (0, 70, R 2))), (54, .inr (.inl (0, 70, R 3))), (55, .inr (.inl (0, 70, R 4))), (56, .inr (.inl (0, 70, R 5))), (57, .inr (.inl (0, 350, upd gx ((n * (Int32.ofInt 5)) + (sz i.toNatClampNeg)).toNatClampNeg (if (((R xN) (sp ((cd n.toNatClampNeg) + (cd i.toNatClampNeg)).toNatClampNeg).toNatClampNeg) + ((L (xN + 1)) (((i * (Int32.ofInt 5)) + l) - (sz i.toNatClampNeg)).toNatClampNeg)) < (gx ((n * (Int32.ofInt 5)) + (sz i.toNatClampNeg)).toNatClampNeg) then (((R xN) (sp ((cd n.toNatClampNeg) + (cd i.toNatClampNeg)).toNatClampNeg).toNatClampNeg) + ((L (xN + 1)) (((i * (Int32.ofInt 5)) + l) - (sz i.toNatClampNeg)).toNatClampNeg)) else (gx ((n * (Int32.ofInt 5)) + (sz i.toNatClampNeg)).toNatClampNeg))))), (58, .inr (.inr (.inr (3, [59, 60, 61, 62, 63, 64, 65])))), (59, .inr (.inl (0, 350, L 0))), (60, .inr (.inl (0, 350, L 1))), (61, .inr (.inl (0, 350, L 2))), (62, .inr (.inl (0, 350, L 3))), (63, .inr (.inl (0, 350, L 4))), (64, .inr (.inl (0, 350, L 5))), (65, .inr (.inl (0, 350, L 6))), (66, .inr (.inl (0, 4, la))), (67, .inr (.inl (0, 24, pl))), (2, .inl (8, [.inr (.inl 3), .inr (.inl 4), .inr (.inl 5), .inr (.inl 10)])), (5, .inr (.inr (.inr (3, [6, 7, 8, 9])))), (6, .inr (.inl (0, 16, hd 0))), (7, .inr (.inl (0, 16, hd 1))), (8, .inr (.inl (0, 16, hd 2))), (9, .inr (.inl (0, 16, hd 3)))]) rfl rfl (by omega) (by omega) rfl rfl ?_
        refine ex_iinc cg_53 (ix := 90) (pc' := 150) (L' := [some (.inr (.inl 43)), some (.inl (.int x)), some (.inl (.int n)), some (.inl (.int l)), some (.inl (.int (i + Int32.ofInt 1))), some (.inl (.int (((R xN) (sp ((cd n.toNatClampNeg) + (cd i.toNatClampNeg)).toNatClampNeg).toNatClampNeg) + ((L (xN + 1)) (((i * (Int32.ofInt 5)) + l) - (sz i.toNatClampNeg)).toNatClampNeg)))), some (.inl (.int ((n * (Int32.ofInt 5)) + (sz i.toNatClampNeg))))]) rfl rfl rfl rfl rfl ?_
        refine ex_goto cg_53 (ix := 91) (pc' := 45) rfl rfl ?_
        refine ih (k + 1) (by omega) _ (by rw [cx_addc (by omega) (by omega)]; omega) _ _ _ (fun r hr => ?_) (fun j hj => ?_)
        · rw [hatc]
          unfold upd
          by_cases e : r = szN k
          · rw [if_pos (by omega), ro_min, ← hatc, hgv, hall, e, mnZ, if_pos (Nat.beq_refl _)]
            omega
          · rw [if_neg (by omega), hg1 r hr, mnZ, if_neg (fun z => e (Nat.eq_of_beq_eq_true z).symm)]
        · rw [hatc]
          unfold upd
          rw [if_neg (by omega)]; exact hg2 j hj
theorem g2_loop {g fk pf pt pr : Int32} {mi cd sz sp th fo go la pl : Nat → Int32} {R L hd : Nat → Nat → Int32} {x : Int32} {xN gN : Nat} {rkc : (Nat → Nat) → Nat} {Lv : Nat → Nat → Nat} {n l : Int32} {oN lN : Nat} {P : Option cx_V → cx_H → Prop} (hcd : cdH cd) (hsz : szH sz) (hsp : spH sp) (hx : x.toInt = (xN : Int)) (hx6 : xN < 6) (hg : g.toInt = (gN : Int)) (hg4 : gN ≤ 4) (hR : ∀ s : Nat, s < 70 → (R xN s).toInt = ((rkc (cN s) : Nat) : Int)) (hkc : ∀ c e : Nat → Nat, (∀ b, b < 4 → c b = e b) → rkc c = rkc e) (hkb : ∀ c : Nat → Nat, rkc c ≤ 100000) (hL : ∀ f r : Nat, f < 70 → szN f + r ≤ gN → (L (xN + 1) (5 * f + r)).toInt = ((Lv f r : Nat) : Int)) (hLb : ∀ f r : Nat, Lv f r ≤ 1000000) (hn : n.toInt = (oN : Int)) (ho : oN < 70) (hl : l.toInt = (lN : Int)) (hlo : lN + szN oN = gN) (hP : ∀ (gx : Nat → Int32) (i : Int32) (A B : Option cx_V), (∀ r : Nat, r ≤ lN → (gx (5 * oN + r)).toInt = ((mnZ 1000000000 (fun fr => Nat.ble (szN fr) r) (GOf rkc Lv gN oN) 70 : Nat) : Int)) → (∀ j : Nat, ¬ (5 * oN ≤ j ∧ j < 5 * oN + 5) → gx j = go j) → cx_T 3 53 [43, 44, 45, 46, 47, 48, 49, 50, 51, 52, 53, 54, 55, 56, 57, 58, 59, 60, 61, 62, 63, 64, 65, 66, 67, 2, 5, 6, 7, 8, 9] 202 ([some (.inr (.inl 43)), some (.inl (.int x)), some (.inl (.int n)), some (.inl (.int l)), some (.inl (.int i)), A, B], [], [(43, .inl (4, [.inr (.inl 2), .inr (.inl 44), .inr (.inl 45), .inr (.inl 46), .inr (.inl 47), .inr (.inl 48), .inr (.inl 49), .inr (.inl 50), .inr (.inl 57), .inr (.inl 58), .inr (.inl 66), .inr (.inl 67), .inl (.int g), .inl (.int fk), .inl (.int pf), .inl (.int pt), .inl (.int pr)])), (44, .inr (.inl (0, 4, mi))), (45, .inr (.inl (0, 70, cd))), (46, .inr (.inl (0, 70, sz))), (47, .inr (.inl (0, 625, sp))), (48, .inr (.inl (0, 280, th))), (49, .inr (.inl (2, 4900, fo))), (50, .inr (.inr (.inr (3, [51, 52, 53, 54, 55, 56])))), (51, .inr (.inl (0, 70, R 0))), (52, .inr (.inl (0, 70, R 1))), (53, .inr (.inl (0, 70, R 2))), (54, .inr (.inl (0, 70, R 3))), (55, .inr (.inl (0, 70, R 4))), (56, .inr (.inl (0, 70, R 5))), (57, .inr (.inl (0, 350, gx))), (58, .inr (.inr (.inr (3, [59, 60, 61, 62, 63, 64, 65])))), (59, .inr (.inl (0, 350, L 0))), (60, .inr (.inl (0, 350, L 1))), (61, .inr (.inl (0, 350, L 2))), (62, .inr (.inl (0, 350, L 3))), (63, .inr (.inl (0, 350, L 4))), (64, .inr (.inl (0, 350, L 5))), (65, .inr (.inl (0, 350, L 6))), (66, .inr (.inl (0, 4, la))), (67, .inr (.inl (0, 24, pl))), (2, .inl (8, [.inr (.inl 3), .inr (.inl 4), .inr (.inl 5), .inr (.inl 10)])), (5, .inr (.inr (.inr (3, [6, 7, 8, 9])))), (6, .inr (.inl (0, 16, hd 0))), (7, .inr (.inl (0, 16, hd 1))), (8, .inr (.inl (0, 16, hd 2))), (9, .inr (.inl (0, 16, hd 3)))]) P) :
    ∀ (m k : Nat), k + m = lN + 1 → ∀ i : Int32, i.toInt = (k : Int) → ∀ (gx : Nat → Int32) (A B : Option cx_V), 1 ≤ k → (∀ r : Nat, r < k → r ≤ lN → (gx (5 * oN + r)).toInt = ((mnZ 1000000000 (fun fr => Nat.ble (szN fr) r) (GOf rkc Lv gN oN) 70 : Nat) : Int)) → (∀ r : Nat, k ≤ r → r ≤ lN → (gx (5 * oN + r)).toInt = ((mnZ 1000000000 (fun fr => Nat.beq (szN fr) r) (GOf rkc Lv gN oN) 70 : Nat) : Int)) → (∀ j : Nat, ¬ (5 * oN ≤ j ∧ j < 5 * oN + 5) → gx j = go j) → cx_T 3 53 [43, 44, 45, 46, 47, 48, 49, 50, 51, 52, 53, 54, 55, 56, 57, 58, 59, 60, 61, 62, 63, 64, 65, 66, 67, 2, 5, 6, 7, 8, 9] 156 ([some (.inr (.inl 43)), some (.inl (.int x)), some (.inl (.int n)), some (.inl (.int l)), some (.inl (.int i)), A, B], [], [(43, .inl (4, [.inr (.inl 2), .inr (.inl 44), .inr (.inl 45), .inr (.inl 46), .inr (.inl 47), .inr (.inl 48), .inr (.inl 49), .inr (.inl 50), .inr (.inl 57), .inr (.inl 58), .inr (.inl 66), .inr (.inl 67), .inl (.int g), .inl (.int fk), .inl (.int pf), .inl (.int pt), .inl (.int pr)])), (44, .inr (.inl (0, 4, mi))), (45, .inr (.inl (0, 70, cd))), (46, .inr (.inl (0, 70, sz))), (47, .inr (.inl (0, 625, sp))), (48, .inr (.inl (0, 280, th))), (49, .inr (.inl (2, 4900, fo))), (50, .inr (.inr (.inr (3, [51, 52, 53, 54, 55, 56])))), (51, .inr (.inl (0, 70, R 0))), (52, .inr (.inl (0, 70, R 1))), (53, .inr (.inl (0, 70, R 2))), (54, .inr (.inl (0, 70, R 3))), (55, .inr (.inl (0, 70, R 4))), (56, .inr (.inl (0, 70, R 5))), (57, .inr (.inl (0, 350, gx))), (58, .inr (.inr (.inr (3, [59, 60, 61, 62, 63, 64, 65])))), (59, .inr (.inl (0, 350, L 0))), (60, .inr (.inl (0, 350, L 1))), (61, .inr (.inl (0, 350, L 2))), (62, .inr (.inl (0, 350, L 3))), (63, .inr (.inl (0, 350, L 4))), (64, .inr (.inl (0, 350, L 5))), (65, .inr (.inl (0, 350, L 6))), (66, .inr (.inl (0, 4, la))), (67, .inr (.inl (0, 24, pl))), (2, .inl (8, [.inr (.inl 3), .inr (.inl 4), .inr (.inl 5), .inr (.inl 10)])), (5, .inr (.inr (.inr (3, [6, 7, 8, 9])))), (6, .inr (.inl (0, 16, hd 0))), (7, .inr (.inl (0, 16, hd 1))), (8, .inr (.inl (0, 16, hd 2))), (9, .inr (.inl (0, 16, hd 3)))]) P := by
  have kc0 : (Int32.ofInt 0).toInt = 0 := by decide +kernel
  have kc1 : (Int32.ofInt 1).toInt = 1 := by decide +kernel
  have kc5 : (Int32.ofInt 5).toInt = 5 := by decide +kernel
  have kc70 : (Int32.ofInt 70).toInt = 70 := by decide +kernel
  have kc1000000000 : (Int32.ofInt 1000000000).toInt = 1000000000 := by decide +kernel
  intro m
  induction m with
  | zero =>
    intro k hk i hi gx A B hk1 hg1 hg3 hg2
    have ek : k = lN + 1 := by omega
    refine ex_iload cg_53 (ix := 94) (pc' := 158) rfl rfl rfl ?_
    refine ex_iload_n cg_53 (ix := 95) (pc' := 159) rfl rfl rfl ?_
    refine ex_icmp cg_53 (ix := 96) (t := 202) (pc' := 162) rfl rfl rfl (fun hb159 => ?_) (fun hb159 => ?_)
    · have hb159 : l.toInt < i.toInt := hb159
      exact hP gx i A B (fun r hr => hg1 r (by omega) hr) hg2
    · have hb159 : ¬ (l.toInt < i.toInt) := hb159
      exfalso; first | omega | exact absurd hb159 (by decide +kernel)
  | succ m ih =>
    intro k hk i hi gx A B hk1 hg1 hg3 hg2
    have hik : i.toNatClampNeg = k := cx_clamp hi
    have hn0 : (n * Int32.ofInt 5).toInt = 5 * n.toInt := cx_mulk2 kc5 (by omega) (by omega)
    have hat : (n * Int32.ofInt 5 + i).toInt = ((5 * oN + k : Nat) : Int) := by
      rw [cx_addc (by omega) (by omega), hn0]
      omega
    have hatc := cx_clamp hat
    have hat1 : (n * Int32.ofInt 5 + i - Int32.ofInt 1).toInt = ((5 * oN + (k - 1) : Nat) : Int) := by
      rw [cx_subc (by omega) (by omega), hat]
      omega
    have hatc1 := cx_clamp hat1
    have hv1 := hg1 (k - 1) (by omega) (by omega)
    have hv2 := hg3 k (Nat.le_refl _) (by omega)
    refine ex_iload cg_53 (ix := 94) (pc' := 158) rfl rfl rfl ?_
    refine ex_iload_n cg_53 (ix := 95) (pc' := 159) rfl rfl rfl ?_
    refine ex_icmp cg_53 (ix := 96) (t := 202) (pc' := 162) rfl rfl rfl (fun hb159 => ?_) (fun hb159 => ?_)
    · have hb159 : l.toInt < i.toInt := hb159
      exfalso; first | omega | exact absurd hb159 (by decide +kernel)
    · have hb159 : ¬ (l.toInt < i.toInt) := hb159
      refine ex_iload_n cg_53 (ix := 97) (pc' := 163) rfl rfl rfl ?_
      refine ex_iconst cg_53 (ix := 98) (pc' := 164) rfl rfl ?_
      refine ex_imul cg_53 (ix := 99) (pc' := 165) rfl rfl ?_
      refine ex_iload cg_53 (ix := 100) (pc' := 167) rfl rfl rfl ?_
      refine ex_iadd cg_53 (ix := 101) (pc' := 168) rfl rfl ?_
      refine ex_istore cg_53 (ix := 102) (pc' := 170) (L' := [some (.inr (.inl 43)), some (.inl (.int x)), some (.inl (.int n)), some (.inl (.int l)), some (.inl (.int i)), some (.inl (.int ((n * (Int32.ofInt 5)) + i))), B]) rfl rfl rfl rfl ?_
      refine ex_aload_n cg_53 (ix := 103) (pc' := 171) rfl rfl rfl ?_
      refine ex_getfield cg_53 (ix := 104) (pc' := 174) rfl rfl rfl rfl rfl ?_
      refine ex_iload cg_53 (ix := 105) (pc' := 176) rfl rfl rfl ?_
      refine ex_aload_n cg_53 (ix := 106) (pc' := 177) rfl rfl rfl ?_
      refine ex_getfield cg_53 (ix := 107) (pc' := 180) rfl rfl rfl rfl rfl ?_
      refine ex_iload cg_53 (ix := 108) (pc' := 182) rfl rfl rfl ?_
      refine ex_iaload cg_53 (ix := 109) (pc' := 183) rfl rfl (by omega) (by omega) rfl ?_
      refine ex_aload_n cg_53 (ix := 110) (pc' := 184) rfl rfl rfl ?_
      refine ex_getfield cg_53 (ix := 111) (pc' := 187) rfl rfl rfl rfl rfl ?_
      refine ex_iload cg_53 (ix := 112) (pc' := 189) rfl rfl rfl ?_
      refine ex_iconst cg_53 (ix := 113) (pc' := 190) rfl rfl ?_
      refine ex_isub cg_53 (ix := 114) (pc' := 191) rfl rfl ?_
      refine ex_iaload cg_53 (ix := 115) (pc' := 192) rfl rfl (by omega) (by omega) rfl ?_
      refine ex_min cg_53 (ix := 116) (pc' := 195) rfl rfl (by first | decide | omega) rfl rfl ?_
      refine ex_iastore cg_53 (ix := 117) (pc' := 196) (h' := [(43, .inl (4, [.inr (.inl 2), .inr (.inl 44), .inr (.inl 45), .inr (.inl 46), .inr (.inl 47), .inr (.inl 48), .inr (.inl 49), .inr (.inl 50), .inr (.inl 57), .inr (.inl 58), .inr (.inl 66), .inr (.inl 67), .inl (.int g), .inl (.int fk), .inl (.int pf), .inl (.int pt), .inl (.int pr)])), (44, .inr (.inl (0, 4, mi))), (45, .inr (.inl (0, 70, cd))), (46, .inr (.inl (0, 70, sz))), (47, .inr (.inl (0, 625, sp))), (48, .inr (.inl (0, 280, th))), (49, .inr (.inl (2, 4900, fo))), (50, .inr (.inr (.inr (3, [51, 52, 53, 54, 55, 56])))), (51, .inr (.inl (0, 70, R 0))), (52, .inr (.inl (0, 70, R 1))), (53, .inr (.inl (0, 70, R 2))), (54, .inr (.inl (0, 70, R 3))), (55, .inr (.inl (0, 70, R 4))), (56, .inr (.inl (0, 70, R 5))), (57, .inr (.inl (0, 350, upd gx ((n * (Int32.ofInt 5)) + i).toNatClampNeg (if (gx (((n * (Int32.ofInt 5)) + i) - (Int32.ofInt 1)).toNatClampNeg) < (gx ((n * (Int32.ofInt 5)) + i).toNatClampNeg) then (gx (((n * (Int32.ofInt 5)) + i) - (Int32.ofInt 1)).toNatClampNeg) else (gx ((n * (Int32.ofInt 5)) + i).toNatClampNeg))))), (58, .inr (.inr (.inr (3, [59, 60, 61, 62, 63, 64, 65])))), (59, .inr (.inl (0, 350, L 0))), (60, .inr (.inl (0, 350, L 1))), (61, .inr (.inl (0, 350, L 2))), (62, .inr (.inl (0, 350, L 3))), (63, .inr (.inl (0, 350, L 4))), (64, .inr (.inl (0, 350, L 5))), (65, .inr (.inl (0, 350, L 6))), (66, .inr (.inl (0, 4, la))), (67, .inr (.inl (0, 24, pl))), (2, .inl (8, [.inr (.inl 3), .inr (.inl 4), .inr (.inl 5), .inr (.inl 10)])), (5, .inr (.inr (.inr (3, [6, 7, 8, 9])))), (6, .inr (.inl (0, 16, hd 0))), (7, .inr (.inl (0, 16, hd 1))), (8, .inr (.inl (0, 16, hd 2))), (9, .inr (.inl (0, 16, hd 3)))]) rfl rfl (by omega) (by omega) rfl rfl ?_
      refine ex_iinc cg_53 (ix := 118) (pc' := 199) (L' := [some (.inr (.inl 43)), some (.inl (.int x)), some (.inl (.int n)), some (.inl (.int l)), some (.inl (.int (i + Int32.ofInt 1))), some (.inl (.int ((n * (Int32.ofInt 5)) + i))), B]) rfl rfl rfl rfl rfl ?_
      refine ex_goto cg_53 (ix := 119) (pc' := 156) rfl rfl ?_
      refine ih (k + 1) (by omega) _ (by rw [cx_addc (by omega) (by omega)]; omega) _ _ _ (by omega) (fun r hr hr2 => ?_) (fun r hr hr2 => ?_) (fun j hj => ?_)
      · rw [hatc, hatc1]
        unfold upd
        by_cases e : r = k
        · rw [if_pos (by omega), ro_min, hv1, hv2, e]
          have hmm := mnZ_min (Z := 1000000000) (f := szN) (r := k - 1) (G := GOf rkc Lv gN oN) (k := 70)
          rw [show k - 1 + 1 = k by omega] at hmm
          rw [hmm]
          omega
        · rw [if_neg (by omega)]; exact hg1 r (by omega) hr2
      · rw [hatc]
        unfold upd
        rw [if_neg (by omega)]; exact hg3 r (by omega) hr2
      · rw [hatc]
        unfold upd
        rw [if_neg (by omega)]; exact hg2 j hj
theorem g0_loop {g fk pf pt pr : Int32} {mi cd sz sp th fo go la pl : Nat → Int32} {R L hd : Nat → Nat → Int32} {x : Int32} {xN gN : Nat} {rkc : (Nat → Nat) → Nat} {Lv : Nat → Nat → Nat} {P : Option cx_V → cx_H → Prop} (hcd : cdH cd) (hsz : szH sz) (hsp : spH sp) (hx : x.toInt = (xN : Int)) (hx6 : xN < 6) (hg : g.toInt = (gN : Int)) (hg4 : gN ≤ 4) (hR : ∀ s : Nat, s < 70 → (R xN s).toInt = ((rkc (cN s) : Nat) : Int)) (hkc : ∀ c e : Nat → Nat, (∀ b, b < 4 → c b = e b) → rkc c = rkc e) (hkb : ∀ c : Nat → Nat, rkc c ≤ 100000) (hL : ∀ f r : Nat, f < 70 → szN f + r ≤ gN → (L (xN + 1) (5 * f + r)).toInt = ((Lv f r : Nat) : Int)) (hLb : ∀ f r : Nat, Lv f r ≤ 1000000) (hP : ∀ gx : Nat → Int32, (∀ q r : Nat, q < 70 → szN q + r ≤ gN → (gx (5 * q + r)).toInt = ((GOv rkc Lv gN q r : Nat) : Int)) → P none ([(43, .inl (4, [.inr (.inl 2), .inr (.inl 44), .inr (.inl 45), .inr (.inl 46), .inr (.inl 47), .inr (.inl 48), .inr (.inl 49), .inr (.inl 50), .inr (.inl 57), .inr (.inl 58), .inr (.inl 66), .inr (.inl 67), .inl (.int g), .inl (.int fk), .inl (.int pf), .inl (.int pt), .inl (.int pr)])), (44, .inr (.inl (0, 4, mi))), (45, .inr (.inl (0, 70, cd))), (46, .inr (.inl (0, 70, sz))), (47, .inr (.inl (0, 625, sp))), (48, .inr (.inl (0, 280, th))), (49, .inr (.inl (2, 4900, fo))), (50, .inr (.inr (.inr (3, [51, 52, 53, 54, 55, 56])))), (51, .inr (.inl (0, 70, R 0))), (52, .inr (.inl (0, 70, R 1))), (53, .inr (.inl (0, 70, R 2))), (54, .inr (.inl (0, 70, R 3))), (55, .inr (.inl (0, 70, R 4))), (56, .inr (.inl (0, 70, R 5))), (57, .inr (.inl (0, 350, gx))), (58, .inr (.inr (.inr (3, [59, 60, 61, 62, 63, 64, 65])))), (59, .inr (.inl (0, 350, L 0))), (60, .inr (.inl (0, 350, L 1))), (61, .inr (.inl (0, 350, L 2))), (62, .inr (.inl (0, 350, L 3))), (63, .inr (.inl (0, 350, L 4))), (64, .inr (.inl (0, 350, L 5))), (65, .inr (.inl (0, 350, L 6))), (66, .inr (.inl (0, 4, la))), (67, .inr (.inl (0, 24, pl))), (2, .inl (8, [.inr (.inl 3), .inr (.inl 4), .inr (.inl 5), .inr (.inl 10)])), (5, .inr (.inr (.inr (3, [6, 7, 8, 9])))), (6, .inr (.inl (0, 16, hd 0))), (7, .inr (.inl (0, 16, hd 1))), (8, .inr (.inl (0, 16, hd 2))), (9, .inr (.inl (0, 16, hd 3)))])) :
    ∀ (m k : Nat), k + m = 70 → ∀ i : Int32, i.toInt = (k : Int) → ∀ (gx : Nat → Int32) (A B C D : Option cx_V), (∀ q r : Nat, q < k → szN q + r ≤ gN → (gx (5 * q + r)).toInt = ((GOv rkc Lv gN q r : Nat) : Int)) → (∀ j : Nat, 5 * k ≤ j → j < 350 → (gx j).toInt = 1000000000) → cx_T 3 53 [43, 44, 45, 46, 47, 48, 49, 50, 51, 52, 53, 54, 55, 56, 57, 58, 59, 60, 61, 62, 63, 64, 65, 66, 67, 2, 5, 6, 7, 8, 9] 11 ([some (.inr (.inl 43)), some (.inl (.int x)), some (.inl (.int i)), A, B, C, D], [], [(43, .inl (4, [.inr (.inl 2), .inr (.inl 44), .inr (.inl 45), .inr (.inl 46), .inr (.inl 47), .inr (.inl 48), .inr (.inl 49), .inr (.inl 50), .inr (.inl 57), .inr (.inl 58), .inr (.inl 66), .inr (.inl 67), .inl (.int g), .inl (.int fk), .inl (.int pf), .inl (.int pt), .inl (.int pr)])), (44, .inr (.inl (0, 4, mi))), (45, .inr (.inl (0, 70, cd))), (46, .inr (.inl (0, 70, sz))), (47, .inr (.inl (0, 625, sp))), (48, .inr (.inl (0, 280, th))), (49, .inr (.inl (2, 4900, fo))), (50, .inr (.inr (.inr (3, [51, 52, 53, 54, 55, 56])))), (51, .inr (.inl (0, 70, R 0))), (52, .inr (.inl (0, 70, R 1))), (53, .inr (.inl (0, 70, R 2))), (54, .inr (.inl (0, 70, R 3))), (55, .inr (.inl (0, 70, R 4))), (56, .inr (.inl (0, 70, R 5))), (57, .inr (.inl (0, 350, gx))), (58, .inr (.inr (.inr (3, [59, 60, 61, 62, 63, 64, 65])))), (59, .inr (.inl (0, 350, L 0))), (60, .inr (.inl (0, 350, L 1))), (61, .inr (.inl (0, 350, L 2))), (62, .inr (.inl (0, 350, L 3))), (63, .inr (.inl (0, 350, L 4))), (64, .inr (.inl (0, 350, L 5))), (65, .inr (.inl (0, 350, L 6))), (66, .inr (.inl (0, 4, la))), (67, .inr (.inl (0, 24, pl))), (2, .inl (8, [.inr (.inl 3), .inr (.inl 4), .inr (.inl 5), .inr (.inl 10)])), (5, .inr (.inr (.inr (3, [6, 7, 8, 9])))), (6, .inr (.inl (0, 16, hd 0))), (7, .inr (.inl (0, 16, hd 1))), (8, .inr (.inl (0, 16, hd 2))), (9, .inr (.inl (0, 16, hd 3)))]) P := by
  have kc0 : (Int32.ofInt 0).toInt = 0 := by decide +kernel
  have kc1 : (Int32.ofInt 1).toInt = 1 := by decide +kernel
  have kc5 : (Int32.ofInt 5).toInt = 5 := by decide +kernel
  have kc70 : (Int32.ofInt 70).toInt = 70 := by decide +kernel
  have kc1000000000 : (Int32.ofInt 1000000000).toInt = 1000000000 := by decide +kernel
  intro m
  induction m with
  | zero =>
    intro k hk i hi gx A B C D hg1 hg2
    have ek : k = 70 := by omega
    refine ex_iload_n cg_53 (ix := 6) (pc' := 12) rfl rfl rfl ?_
    refine ex_bipush cg_53 (ix := 7) (pc' := 14) rfl rfl rfl ?_
    refine ex_icmp cg_53 (ix := 8) (t := 208) (pc' := 17) rfl rfl rfl (fun hb14 => ?_) (fun hb14 => ?_)
    · have hb14 : (Int32.ofInt 70).toInt ≤ i.toInt := hb14
      refine ex_return_ cg_53 (ix := 122) rfl ?_
      refine hP gx (fun q r hq hr => hg1 q r ?_ hr)
      first
      | omega
      | exact Classical.byContradiction (fun z => by
          have h3 := sz_mono (show k ≤ q by omega) hq
          omega)
    · have hb14 : ¬ ((Int32.ofInt 70).toInt ≤ i.toInt) := hb14
      exfalso; first | omega | exact absurd hb14 (by decide +kernel)
  | succ m ih =>
    intro k hk i hi gx A B C D hg1 hg2
    have hik : i.toNatClampNeg = k := cx_clamp hi
    have hzk : (sz i.toNatClampNeg).toInt = ((szN k : Nat) : Int) := by
      rw [hik]
      exact hsz k (by omega)
    have hzk4 := (sp_sz (show k < 70 by omega)).2.2.2
    refine ex_iload_n cg_53 (ix := 6) (pc' := 12) rfl rfl rfl ?_
    refine ex_bipush cg_53 (ix := 7) (pc' := 14) rfl rfl rfl ?_
    refine ex_icmp cg_53 (ix := 8) (t := 208) (pc' := 17) rfl rfl rfl (fun hb14 => ?_) (fun hb14 => ?_)
    · have hb14 : (Int32.ofInt 70).toInt ≤ i.toInt := hb14
      exfalso; first | omega | exact absurd hb14 (by decide +kernel)
    · have hb14 : ¬ ((Int32.ofInt 70).toInt ≤ i.toInt) := hb14
      refine ex_aload_n cg_53 (ix := 9) (pc' := 18) rfl rfl rfl ?_
      refine ex_getfield cg_53 (ix := 10) (pc' := 21) rfl rfl rfl rfl rfl ?_
      refine ex_iload_n cg_53 (ix := 11) (pc' := 22) rfl rfl rfl ?_
      refine ex_iaload cg_53 (ix := 12) (pc' := 23) rfl rfl (by omega) (by omega) rfl ?_
      refine ex_aload_n cg_53 (ix := 13) (pc' := 24) rfl rfl rfl ?_
      refine ex_getfield cg_53 (ix := 14) (pc' := 27) rfl rfl rfl rfl rfl ?_
      refine ex_icmp cg_53 (ix := 15) (t := 208) (pc' := 30) rfl rfl rfl (fun hb27 => ?_) (fun hb27 => ?_)
      · have hb27 : g.toInt < (sz i.toNatClampNeg).toInt := hb27
        refine ex_return_ cg_53 (ix := 122) rfl ?_
        refine hP gx (fun q r hq hr => hg1 q r ?_ hr)
        first
        | omega
        | exact Classical.byContradiction (fun z => by
            have h3 := sz_mono (show k ≤ q by omega) hq
            omega)
      · have hb27 : ¬ (g.toInt < (sz i.toNatClampNeg).toInt) := hb27
        refine ex_aload_n cg_53 (ix := 16) (pc' := 31) rfl rfl rfl ?_
        refine ex_getfield cg_53 (ix := 17) (pc' := 34) rfl rfl rfl rfl rfl ?_
        refine ex_aload_n cg_53 (ix := 18) (pc' := 35) rfl rfl rfl ?_
        refine ex_getfield cg_53 (ix := 19) (pc' := 38) rfl rfl rfl rfl rfl ?_
        refine ex_iload_n cg_53 (ix := 20) (pc' := 39) rfl rfl rfl ?_
        refine ex_iaload cg_53 (ix := 21) (pc' := 40) rfl rfl (by omega) (by omega) rfl ?_
        refine ex_isub cg_53 (ix := 22) (pc' := 41) rfl rfl ?_
        refine ex_istore_n cg_53 (ix := 23) (pc' := 42) (L' := [some (.inr (.inl 43)), some (.inl (.int x)), some (.inl (.int i)), some (.inl (.int (g - (sz i.toNatClampNeg)))), B, C, D]) rfl rfl rfl rfl ?_
        refine ex_iconst cg_53 (ix := 24) (pc' := 43) rfl rfl ?_
        refine ex_istore cg_53 (ix := 25) (pc' := 45) (L' := [some (.inr (.inl 43)), some (.inl (.int x)), some (.inl (.int i)), some (.inl (.int (g - (sz i.toNatClampNeg)))), some (.inl (.int (Int32.ofInt 0))), C, D]) rfl rfl rfl rfl ?_
        have hlv : (g - sz i.toNatClampNeg).toInt = ((gN - szN k : Nat) : Int) := by
          rw [cx_subc (by omega) (by omega)]
          omega
        refine g1_loop (g := g) (fk := fk) (pf := pf) (pt := pt) (pr := pr) (mi := mi) (cd := cd) (sz := sz) (sp := sp) (th := th) (fo := fo) (go := gx) (la := la) (pl := pl) (R := R) (L := L) (hd := hd) (x := x) (xN := xN) (gN := gN) (rkc := rkc) (Lv := Lv) (n := i) (l := g - sz i.toNatClampNeg) (oN := k) (lN := gN - szN k) hcd hsz hsp hx hx6 hg hg4 hR hkc hkb hL hLb hi (by omega) hlv (by omega) (P := P) (fun gx2 i2 A2 B2 ha1 ha2 => ?_) 70 0 (by omega) (Int32.ofInt 0) (by decide +kernel) gx _ _ (fun r hr => ?_) (fun _ _ => rfl)
        · skip
          refine ex_iconst cg_53 (ix := 92) (pc' := 154) rfl rfl ?_
          refine ex_istore cg_53 (ix := 93) (pc' := 156) (L' := [some (.inr (.inl 43)), some (.inl (.int x)), some (.inl (.int i)), some (.inl (.int (g - sz i.toNatClampNeg))), some (.inl (.int (Int32.ofInt 1))), A2, B2]) rfl rfl rfl rfl ?_
          refine g2_loop (g := g) (fk := fk) (pf := pf) (pt := pt) (pr := pr) (mi := mi) (cd := cd) (sz := sz) (sp := sp) (th := th) (fo := fo) (go := gx2) (la := la) (pl := pl) (R := R) (L := L) (hd := hd) (x := x) (xN := xN) (gN := gN) (rkc := rkc) (Lv := Lv) (n := i) (l := g - sz i.toNatClampNeg) (oN := k) (lN := gN - szN k) hcd hsz hsp hx hx6 hg hg4 hR hkc hkb hL hLb hi (by omega) hlv (by omega) (P := P) (fun gx3 i3 A3 B3 hb1 hb2 => ?_) (gN - szN k) 1 (by omega) (Int32.ofInt 1) (by decide +kernel) gx2 _ _ (Nat.le_refl _) (fun r h1 h2 => ?_) (fun r h1 h2 => ha1 r h2) (fun _ _ => rfl)
          · skip
            refine ex_iinc cg_53 (ix := 120) (pc' := 205) (L' := [some (.inr (.inl 43)), some (.inl (.int x)), some (.inl (.int (i + Int32.ofInt 1))), some (.inl (.int (g - sz i.toNatClampNeg))), some (.inl (.int i3)), A3, B3]) rfl rfl rfl rfl rfl ?_
            refine ex_goto cg_53 (ix := 121) (pc' := 11) rfl rfl ?_
            refine ih (k + 1) (by omega) _ (by rw [cx_addc (by omega) (by omega)]; omega) gx3 _ _ _ _ (fun q r hq hr => ?_) (fun j h1 h2 => ?_)
            · by_cases e : q = k
              · rw [e]
                rw [e] at hr
                exact hb1 r (by omega)
              · have := (sp_sz (show q < 70 by omega)).2.2.2
                rw [hb2 _ (by omega), ha2 _ (by omega)]; exact hg1 q r (by omega) hr
            · rw [hb2 _ (by omega), ha2 _ (by omega)]; exact hg2 j (by omega) h2
          · have er : r = 0 := by omega
            rw [er, ha1 0 (by omega), mnZ_E (G2 := GOf rkc Lv gN k) (ok2 := fun fr => Nat.ble (szN fr) 0) (fun c _ => ?_) (fun _ _ _ => rfl)]
            show Nat.beq (szN c) 0 = Nat.ble (szN c) 0
            cases szN c with
            | zero => rfl
            | succ n0 => rfl
        · have hq9 := hg2 (5 * k + r) (by omega) (by omega)
          rw [mnZ]
          omega
theorem ct_wg {g fk pf pt pr : Int32} {mi cd sz sp th fo go la pl : Nat → Int32} {R L hd : Nat → Nat → Int32} {x : Int32} {xN gN : Nat} {rkc : (Nat → Nat) → Nat} {Lv : Nat → Nat → Nat} (hcd : cdH cd) (hsz : szH sz) (hsp : spH sp) (hx : x.toInt = (xN : Int)) (hx6 : xN < 6) (hg : g.toInt = (gN : Int)) (hg4 : gN ≤ 4) (hR : ∀ s : Nat, s < 70 → (R xN s).toInt = ((rkc (cN s) : Nat) : Int)) (hkc : ∀ c e : Nat → Nat, (∀ b, b < 4 → c b = e b) → rkc c = rkc e) (hkb : ∀ c : Nat → Nat, rkc c ≤ 100000) (hL : ∀ f r : Nat, f < 70 → szN f + r ≤ gN → (L (xN + 1) (5 * f + r)).toInt = ((Lv f r : Nat) : Int)) (hLb : ∀ f r : Nat, Lv f r ≤ 1000000) : cx_Ct 3 53 [.inr (.inl 43), .inl (.int x)] (h_ro g fk pf pt pr mi cd sz sp th fo go la pl R L hd) (fun v h2 => v = none ∧ ∃ gx : Nat → Int32, h2 = h_ro g fk pf pt pr mi cd sz sp th fo gx la pl R L hd ∧ ∀ q r : Nat, q < 70 → szN q + r ≤ gN → (gx (5 * q + r)).toInt = ((GOv rkc Lv gN q r : Nat) : Int)) := by
  have kc1000000000 : (Int32.ofInt 1000000000).toInt = 1000000000 := by decide +kernel
  have kc0 : (Int32.ofInt 0).toInt = 0 := by decide +kernel
  have kc70 : (Int32.ofInt 70).toInt = 70 := by decide +kernel
  have kc1 : (Int32.ofInt 1).toInt = 1 := by decide +kernel
  have kc5 : (Int32.ofInt 5).toInt = 5 := by decide +kernel
  refine cx_Ct.of cg_53 (nL := 7) rfl rfl rfl ?_
  show cx_T 3 53 [43, 44, 45, 46, 47, 48, 49, 50, 51, 52, 53, 54, 55, 56, 57, 58, 59, 60, 61, 62, 63, 64, 65, 66, 67, 2, 5, 6, 7, 8, 9] 0 ([some (.inr (.inl 43)), some (.inl (.int x)), none, none, none, none, none], [], (h_ro g fk pf pt pr mi cd sz sp th fo go la pl R L hd)) _
  refine ex_aload_n cg_53 (ix := 0) (pc' := 1) rfl rfl rfl ?_
  refine ex_getfield cg_53 (ix := 1) (pc' := 4) rfl rfl rfl rfl rfl ?_
  refine ex_ldc cg_53 (ix := 2) (pc' := 6) rfl rfl rfl ?_
  refine ex_fillI cg_53 (ix := 3) (pc' := 9) (h' := [(43, .inl (4, [.inr (.inl 2), .inr (.inl 44), .inr (.inl 45), .inr (.inl 46), .inr (.inl 47), .inr (.inl 48), .inr (.inl 49), .inr (.inl 50), .inr (.inl 57), .inr (.inl 58), .inr (.inl 66), .inr (.inl 67), .inl (.int g), .inl (.int fk), .inl (.int pf), .inl (.int pt), .inl (.int pr)])), (44, .inr (.inl (0, 4, mi))), (45, .inr (.inl (0, 70, cd))), (46, .inr (.inl (0, 70, sz))), (47, .inr (.inl (0, 625, sp))), (48, .inr (.inl (0, 280, th))), (49, .inr (.inl (2, 4900, fo))), (50, .inr (.inr (.inr (3, [51, 52, 53, 54, 55, 56])))), (51, .inr (.inl (0, 70, R 0))), (52, .inr (.inl (0, 70, R 1))), (53, .inr (.inl (0, 70, R 2))), (54, .inr (.inl (0, 70, R 3))), (55, .inr (.inl (0, 70, R 4))), (56, .inr (.inl (0, 70, R 5))), (57, .inr (.inl (0, 350, fun i => if i < 350 then (Int32.ofInt 1000000000) else go i))), (58, .inr (.inr (.inr (3, [59, 60, 61, 62, 63, 64, 65])))), (59, .inr (.inl (0, 350, L 0))), (60, .inr (.inl (0, 350, L 1))), (61, .inr (.inl (0, 350, L 2))), (62, .inr (.inl (0, 350, L 3))), (63, .inr (.inl (0, 350, L 4))), (64, .inr (.inl (0, 350, L 5))), (65, .inr (.inl (0, 350, L 6))), (66, .inr (.inl (0, 4, la))), (67, .inr (.inl (0, 24, pl))), (2, .inl (8, [.inr (.inl 3), .inr (.inl 4), .inr (.inl 5), .inr (.inl 10)])), (5, .inr (.inr (.inr (3, [6, 7, 8, 9])))), (6, .inr (.inl (0, 16, hd 0))), (7, .inr (.inl (0, 16, hd 1))), (8, .inr (.inl (0, 16, hd 2))), (9, .inr (.inl (0, 16, hd 3)))]) rfl rfl (by first | decide | omega) rfl rfl rfl rfl rfl ?_
  refine ex_iconst cg_53 (ix := 4) (pc' := 10) rfl rfl ?_
  refine ex_istore_n cg_53 (ix := 5) (pc' := 11) (L' := [some (.inr (.inl 43)), some (.inl (.int x)), some (.inl (.int (Int32.ofInt 0))), none, none, none, none]) rfl rfl rfl rfl ?_
  refine g0_loop (g := g) (fk := fk) (pf := pf) (pt := pt) (pr := pr) (mi := mi) (cd := cd) (sz := sz) (sp := sp) (th := th) (fo := fo) (go := go) (la := la) (pl := pl) (R := R) (L := L) (hd := hd) (x := x) (xN := xN) (gN := gN) (rkc := rkc) (Lv := Lv) hcd hsz hsp hx hx6 hg hg4 hR hkc hkb hL hLb (P := fun v h2 => v = none ∧ ∃ gx : Nat → Int32, h2 = h_ro g fk pf pt pr mi cd sz sp th fo gx la pl R L hd ∧ ∀ q r : Nat, q < 70 → szN q + r ≤ gN → (gx (5 * q + r)).toInt = ((GOv rkc Lv gN q r : Nat) : Int)) (fun gx h1 => ⟨rfl, gx, rfl, h1⟩) 70 0 (by omega) (Int32.ofInt 0) (by decide +kernel) _ none none none none (fun q r hq => absurd hq (Nat.not_lt_zero q)) (fun j h1 h2 => ?_)
  show (if j < 350 then Int32.ofInt 1000000000 else go j).toInt = 1000000000
  rw [if_pos h2]
  decide +kernel
end
