noncomputable section
/-- by hours: the guards' states and where they are sent, the first way of the least risk -/
def planP (nb : Nat → Nat → Prop) (rk : Nat → (Nat → Nat) → Nat) (G H : Nat) (SS TS : Nat → Nat → Nat) (n : Nat) : Prop := (∀ i, SS 0 i = 0) ∧ ∀ j : Nat, j < n → isF nb (okD (rk (H - 1 - j)) (LV nb rk G (H - 1 - j)) G (LV nb rk G (H - j) (spI (fsC (SS j) G)) (zsC (SS j) G))) (SS j) G 0 (fun _ => 0) (TS j) ∧ ∀ i : Nat, SS (j + 1) i = if i < G then nxs (SS j i) (TS j i) else 0
theorem isF_4 {nb : Nat → Nat → Prop} {OK : (Nat → Nat) → (Nat → Nat) → Prop} {st p ts : Nat → Nat} {G g : Nat} (h : isF nb OK st G g p ts) : ∀ i, i < G → ts i ≤ 4 := fun i hi => by
  rcases h.1.2.1 i hi with q | q <;> omega
theorem planP_9 {nb : Nat → Nat → Prop} {rk : Nat → (Nat → Nat) → Nat} {G H : Nat} {SS TS : Nat → Nat → Nat} {n : Nat} (h : planP nb rk G H SS TS n) : ∀ {j : Nat}, j ≤ n → ∀ i, SS j i < 9
  | 0, _, i => by rw [h.1 i]; omega
  | j + 1, hj, i => by
    rw [(h.2 j (by omega)).2 i]
    split
    · exact nxs_9 (isF_4 (h.2 j (by omega)).1 i (by assumption))
    · omega
theorem zsC_all {st : Nat → Nat} (h : ∀ i, st i = 0) : ∀ {m : Nat}, zsC st m = m ∧ fsC st m = fun _ => 0
  | 0 => ⟨rfl, rfl⟩
  | m + 1 => by
    obtain ⟨i1, i2⟩ := zsC_all h (m := m)
    rw [zsC_z (h m), fsC_e (by rw [h m]; decide), i1, i2]
    exact ⟨rfl, rfl⟩
theorem spI_0 : spI (fun _ => 0) = 0 := by
  unfold spI
  rw [spN_e]
  rfl
section PLN
variable {nb : Nat → Nat → Prop} {rk : Nat → (Nat → Nat) → Nat} {G H : Nat} {SS TS : Nat → Nat → Nat}
/-- a way that keeps to what is due is there -/
theorem plan_ex (hk : ∀ j c d, (∀ b, b < 4 → c b = d b) → rk j c = rk j d) (hr : ∀ j c, rk j c ≤ 100000) (hG : G ≤ 4) (hH : H ≤ 90) {j : Nat} (hj : j < H) {st : Nat → Nat} (hs : ∀ i, st i < 9) : ∃ ts : Nat → Nat, vsT nb (okD (rk (H - 1 - j)) (LV nb rk G (H - 1 - j)) G (LV nb rk G (H - j) (spI (fsC st G)) (zsC st G))) st G 0 (fun _ => 0) ts := by
  obtain ⟨ts, h1, h2⟩ := LV_2 (nb := nb) (rk := rk) (G := G) (j := H - 1 - j) (q := 0) (m := G) (st := st) hk hr (by omega) hG hs (fun i hi => absurd hi (Nat.not_lt_zero i)) (by omega)
  refine ⟨ts, fun i hi => absurd hi (Nat.not_lt_zero i), okB_A.mp h1, ?_⟩
  unfold okD
  rw [show H - j = H - 1 - j + 1 by omega]
  exact h2.symm
/-- what is due behind the hour -/
theorem plan_nx {st ts y : Nat → Nat} {D : Nat} {rkc : (Nat → Nat) → Nat} {Lv : Nat → Nat → Nat} (h : isF nb (okD rkc Lv G D) st G 0 (fun _ => 0) ts) (hy : ∀ i, i < G → y i = nxs (st i) (ts i)) : D = rkc (cadd (onC st ts G) (frC st ts G)) + Lv (spI (fsC y G)) (zsC y G) := by
  obtain ⟨e1, e2⟩ := nx_fs (isF_4 h) hy
  have h3 := h.1.2.2
  unfold okD at h3
  rw [e1, show zsC y G = G - c4 (onC st ts G) - c4 (frC st ts G) by omega]
  exact h3.symm
end PLN
theorem cd5_on0 {st ts : Nat → Nat} : cd5 (onC st ts 0) = 0 := rfl
theorem cd5_fr0 {st ts : Nat → Nat} : cd5 (frC st ts 0) = 0 := rfl
theorem cnt_up {st ts : Nat → Nat} {m : Nat} (h : ts m ≤ 4) : cd5 (cadd (onC st ts (m + 1)) (frC st ts (m + 1))) = cd5 (cadd (onC st ts m) (frC st ts m)) + if ts m = 4 then 0 else p5 (ts m) := by
  rw [cd5_add, cd5_add]
  by_cases q : ts m = 4
  · rw [onC_4 q, frC_4 q, if_pos q, Nat.add_zero]
  · rw [if_neg q]
    by_cases z : st m = 0
    · rw [onC_z z, frC_y (by omega) z, cd5_ce (by omega)]
      omega
    · rw [onC_y (by omega) z, frC_n z, cd5_ce (by omega)]
      omega
theorem ct_sb {x y : Int32} {sN tN : Nat} (hs9 : sN < 9) (ht : tN ≤ 4) (hx : x.toInt = lr sN) (hy : y.toInt = rpv tN) : cx_Ct 2 57 [.inl (.int x), .inl (.int y)] [] (fun v h2 => ∃ z : Int32, v = some (.inl (.int z)) ∧ h2 = [] ∧ z.toInt = lr (nxs sN tN)) := by
  have kcm9 : (Int32.ofInt (-9)).toInt = -9 := by decide +kernel
  have kc4 : (Int32.ofInt 4).toInt = 4 := by decide +kernel
  have kc5 : (Int32.ofInt 5).toInt = 5 := by decide +kernel
  refine cx_Ct.of cg_57 (nL := 2) rfl rfl rfl ?_
  show cx_T 2 57 [] 0 ([some (.inl (.int x)), some (.inl (.int y))], [], []) _
  refine ex_iload_n cg_57 (ix := 0) (pc' := 1) rfl rfl rfl ?_
  refine ex_bipush cg_57 (ix := 1) (pc' := 3) rfl rfl rfl ?_
  refine ex_icmp cg_57 (ix := 2) (t := 8) (pc' := 6) rfl rfl rfl (fun hb3 => ?_) (fun hb3 => ?_)
  · have hb3 : ¬ y.toInt = (Int32.ofInt (-9)).toInt := hb3
    refine ex_iload_n cg_57 (ix := 5) (pc' := 9) rfl rfl rfl ?_
    refine ex_iconst cg_57 (ix := 6) (pc' := 10) rfl rfl ?_
    refine ex_icmp cg_57 (ix := 7) (t := 17) (pc' := 13) rfl rfl rfl (fun hb10 => ?_) (fun hb10 => ?_)
    · have hb10 : ¬ x.toInt = (Int32.ofInt 4).toInt := hb10
      refine ex_iconst cg_57 (ix := 10) (pc' := 18) rfl rfl ?_
      refine ex_ireturn cg_57 (ix := 11) rfl ?_
      refine ⟨_, rfl, rfl, ?_⟩
      unfold rpv at hy
      unfold lr at hx
      unfold nxs
      by_cases q4 : tN = 4
      · rw [if_pos q4] at hy
        rw [if_pos q4]
        unfold lr
        rw [if_pos rfl]
        omega
      · rw [if_neg q4] at hy
        rw [if_neg q4]
        by_cases q0 : sN = 0
        · rw [if_pos q0] at hx
          rw [if_pos q0]
          unfold lr
          rw [if_neg (by omega), if_pos (by omega)]
          omega
        · rw [if_neg q0] at hx
          rw [if_neg q0]
          unfold lr
          rw [if_neg (by omega), if_neg (by omega)]
          split at hx <;> omega
    · have hb10 : ¬ (¬ x.toInt = (Int32.ofInt 4).toInt) := hb10
      refine ex_iload_n cg_57 (ix := 8) (pc' := 14) rfl rfl rfl ?_
      refine ex_goto cg_57 (ix := 9) (pc' := 18) rfl rfl ?_
      refine ex_ireturn cg_57 (ix := 11) rfl ?_
      refine ⟨_, rfl, rfl, ?_⟩
      unfold rpv at hy
      unfold lr at hx
      unfold nxs
      by_cases q4 : tN = 4
      · rw [if_pos q4] at hy
        rw [if_pos q4]
        unfold lr
        rw [if_pos rfl]
        omega
      · rw [if_neg q4] at hy
        rw [if_neg q4]
        by_cases q0 : sN = 0
        · rw [if_pos q0] at hx
          rw [if_pos q0]
          unfold lr
          rw [if_neg (by omega), if_pos (by omega)]
          omega
        · rw [if_neg q0] at hx
          rw [if_neg q0]
          unfold lr
          rw [if_neg (by omega), if_neg (by omega)]
          split at hx <;> omega
  · have hb3 : ¬ (¬ y.toInt = (Int32.ofInt (-9)).toInt) := hb3
    refine ex_iconst cg_57 (ix := 3) (pc' := 7) rfl rfl ?_
    refine ex_ireturn cg_57 (ix := 4) rfl ?_
    refine ⟨_, rfl, rfl, ?_⟩
    unfold rpv at hy
    unfold lr at hx
    unfold nxs
    by_cases q4 : tN = 4
    · rw [if_pos q4] at hy
      rw [if_pos q4]
      unfold lr
      rw [if_pos rfl]
      omega
    · rw [if_neg q4] at hy
      rw [if_neg q4]
      by_cases q0 : sN = 0
      · rw [if_pos q0] at hx
        rw [if_pos q0]
        unfold lr
        rw [if_neg (by omega), if_pos (by omega)]
        omega
      · rw [if_neg q0] at hx
        rw [if_neg q0]
        unfold lr
        rw [if_neg (by omega), if_neg (by omega)]
        split at hx <;> omega
theorem pi_loop {g fk pf pt pr : Int32} {mi cd sz sp th fo go la pl : Nat → Int32} {R L hd : Nat → Nat → Int32} {x du s : Int32} {gN sN : Nat} {st ts : Nat → Nat} {P : Option cx_V → cx_H → Prop} (hs : s.toInt = (sN : Int)) (hs6 : sN < 6) (hg : g.toInt = (gN : Int)) (hg4 : gN ≤ 4) (hs9 : ∀ i, st i < 9) (ht4 : ∀ i : Nat, i < gN → ts i ≤ 4) (hpl : ∀ i : Nat, i < gN → (pl (4 * sN + i)).toInt = rpv (ts i)) (hP : ∀ (al i : Int32) (lx : Nat → Int32) (A : Option cx_V), al.toInt = ((cd5 (cadd (onC st ts gN) (frC st ts gN)) : Nat) : Int) → (∀ i : Nat, i < gN → (lx i).toInt = lr (nxs (st i) (ts i))) → (∀ i : Nat, i < 4 → 0 ≤ (lx i).toInt ∧ (lx i).toInt ≤ 5) → cx_T 9 56 [43, 44, 45, 46, 47, 48, 49, 50, 51, 52, 53, 54, 55, 56, 57, 58, 59, 60, 61, 62, 63, 64, 65, 66, 67, 2, 5, 6, 7, 8, 9] 105 ([some (.inr (.inl 43)), some (.inl (.int x)), some (.inl (.int du)), some (.inl (.int s)), some (.inl (.int al)), some (.inl (.int i)), A], [], [(43, .inl (4, [.inr (.inl 2), .inr (.inl 44), .inr (.inl 45), .inr (.inl 46), .inr (.inl 47), .inr (.inl 48), .inr (.inl 49), .inr (.inl 50), .inr (.inl 57), .inr (.inl 58), .inr (.inl 66), .inr (.inl 67), .inl (.int g), .inl (.int fk), .inl (.int pf), .inl (.int pt), .inl (.int pr)])), (44, .inr (.inl (0, 4, mi))), (45, .inr (.inl (0, 70, cd))), (46, .inr (.inl (0, 70, sz))), (47, .inr (.inl (0, 625, sp))), (48, .inr (.inl (0, 280, th))), (49, .inr (.inl (2, 4900, fo))), (50, .inr (.inr (.inr (3, [51, 52, 53, 54, 55, 56])))), (51, .inr (.inl (0, 70, R 0))), (52, .inr (.inl (0, 70, R 1))), (53, .inr (.inl (0, 70, R 2))), (54, .inr (.inl (0, 70, R 3))), (55, .inr (.inl (0, 70, R 4))), (56, .inr (.inl (0, 70, R 5))), (57, .inr (.inl (0, 350, go))), (58, .inr (.inr (.inr (3, [59, 60, 61, 62, 63, 64, 65])))), (59, .inr (.inl (0, 350, L 0))), (60, .inr (.inl (0, 350, L 1))), (61, .inr (.inl (0, 350, L 2))), (62, .inr (.inl (0, 350, L 3))), (63, .inr (.inl (0, 350, L 4))), (64, .inr (.inl (0, 350, L 5))), (65, .inr (.inl (0, 350, L 6))), (66, .inr (.inl (0, 4, lx))), (67, .inr (.inl (0, 24, pl))), (2, .inl (8, [.inr (.inl 3), .inr (.inl 4), .inr (.inl 5), .inr (.inl 10)])), (5, .inr (.inr (.inr (3, [6, 7, 8, 9])))), (6, .inr (.inl (0, 16, hd 0))), (7, .inr (.inl (0, 16, hd 1))), (8, .inr (.inl (0, 16, hd 2))), (9, .inr (.inl (0, 16, hd 3)))]) P) :
    ∀ (m k : Nat), k + m = gN → ∀ i : Int32, i.toInt = (k : Int) → ∀ (al : Int32) (lx : Nat → Int32) (A : Option cx_V), al.toInt = ((cd5 (cadd (onC st ts k) (frC st ts k)) : Nat) : Int) → (∀ i : Nat, i < k → (lx i).toInt = lr (nxs (st i) (ts i))) → (∀ i : Nat, k ≤ i → i < gN → (lx i).toInt = lr (st i)) → (∀ i : Nat, i < 4 → 0 ≤ (lx i).toInt ∧ (lx i).toInt ≤ 5) → cx_T 9 56 [43, 44, 45, 46, 47, 48, 49, 50, 51, 52, 53, 54, 55, 56, 57, 58, 59, 60, 61, 62, 63, 64, 65, 66, 67, 2, 5, 6, 7, 8, 9] 36 ([some (.inr (.inl 43)), some (.inl (.int x)), some (.inl (.int du)), some (.inl (.int s)), some (.inl (.int al)), some (.inl (.int i)), A], [], [(43, .inl (4, [.inr (.inl 2), .inr (.inl 44), .inr (.inl 45), .inr (.inl 46), .inr (.inl 47), .inr (.inl 48), .inr (.inl 49), .inr (.inl 50), .inr (.inl 57), .inr (.inl 58), .inr (.inl 66), .inr (.inl 67), .inl (.int g), .inl (.int fk), .inl (.int pf), .inl (.int pt), .inl (.int pr)])), (44, .inr (.inl (0, 4, mi))), (45, .inr (.inl (0, 70, cd))), (46, .inr (.inl (0, 70, sz))), (47, .inr (.inl (0, 625, sp))), (48, .inr (.inl (0, 280, th))), (49, .inr (.inl (2, 4900, fo))), (50, .inr (.inr (.inr (3, [51, 52, 53, 54, 55, 56])))), (51, .inr (.inl (0, 70, R 0))), (52, .inr (.inl (0, 70, R 1))), (53, .inr (.inl (0, 70, R 2))), (54, .inr (.inl (0, 70, R 3))), (55, .inr (.inl (0, 70, R 4))), (56, .inr (.inl (0, 70, R 5))), (57, .inr (.inl (0, 350, go))), (58, .inr (.inr (.inr (3, [59, 60, 61, 62, 63, 64, 65])))), (59, .inr (.inl (0, 350, L 0))), (60, .inr (.inl (0, 350, L 1))), (61, .inr (.inl (0, 350, L 2))), (62, .inr (.inl (0, 350, L 3))), (63, .inr (.inl (0, 350, L 4))), (64, .inr (.inl (0, 350, L 5))), (65, .inr (.inl (0, 350, L 6))), (66, .inr (.inl (0, 4, lx))), (67, .inr (.inl (0, 24, pl))), (2, .inl (8, [.inr (.inl 3), .inr (.inl 4), .inr (.inl 5), .inr (.inl 10)])), (5, .inr (.inr (.inr (3, [6, 7, 8, 9])))), (6, .inr (.inl (0, 16, hd 0))), (7, .inr (.inl (0, 16, hd 1))), (8, .inr (.inl (0, 16, hd 2))), (9, .inr (.inl (0, 16, hd 3)))]) P := by
  have kcm9 : (Int32.ofInt (-9)).toInt = -9 := by decide +kernel
  have kc0 : (Int32.ofInt 0).toInt = 0 := by decide +kernel
  have kc1 : (Int32.ofInt 1).toInt = 1 := by decide +kernel
  have kc4 : (Int32.ofInt 4).toInt = 4 := by decide +kernel
  intro m
  induction m with
  | zero =>
    intro k hk i hi al lx A hal hl2 hl3 hl5
    have ek : k = gN := by omega
    refine ex_iload cg_56 (ix := 24) (pc' := 38) rfl rfl rfl ?_
    refine ex_aload_n cg_56 (ix := 25) (pc' := 39) rfl rfl rfl ?_
    refine ex_getfield cg_56 (ix := 26) (pc' := 42) rfl rfl rfl rfl rfl ?_
    refine ex_icmp cg_56 (ix := 27) (t := 105) (pc' := 45) rfl rfl rfl (fun hb42 => ?_) (fun hb42 => ?_)
    · have hb42 : g.toInt ≤ i.toInt := hb42
      rw [ek] at hal hl2
      exact hP al i lx A hal hl2 hl5
    · have hb42 : ¬ (g.toInt ≤ i.toInt) := hb42
      exfalso; first | omega | exact absurd hb42 (by decide +kernel)
  | succ m ih =>
    intro k hk i hi al lx A hal hl2 hl3 hl5
    have hik : i.toNatClampNeg = k := cx_clamp hi
    have hs4 : (s * Int32.ofInt 4).toInt = 4 * s.toInt := cx_mulk2 kc4 (by omega) (by omega)
    have hat : (s * Int32.ofInt 4 + i).toInt = ((4 * sN + k : Nat) : Int) := by
      rw [cx_addc (by omega) (by omega), hs4]
      omega
    have hatc := cx_clamp hat
    have hpv : (pl (s * Int32.ofInt 4 + i).toNatClampNeg).toInt = rpv (ts k) := by
      rw [hatc]
      exact hpl k (by omega)
    have ht := ht4 k (by omega)
    have hup := cnt_up (st := st) ht
    have hlk := hl3 k (Nat.le_refl _) (by omega)
    have hik4 : (lx i.toNatClampNeg).toInt = lr (st k) := by
      rw [hik]
      exact hlk
    have hcb := cd5_le (c := cadd (onC st ts k) (frC st ts k))
    have hc4 := c4_of (st := st) (ts := ts) (m := k)
    have hc5 := c4_add (c := onC st ts k) (d := frC st ts k)
    refine ex_iload cg_56 (ix := 24) (pc' := 38) rfl rfl rfl ?_
    refine ex_aload_n cg_56 (ix := 25) (pc' := 39) rfl rfl rfl ?_
    refine ex_getfield cg_56 (ix := 26) (pc' := 42) rfl rfl rfl rfl rfl ?_
    refine ex_icmp cg_56 (ix := 27) (t := 105) (pc' := 45) rfl rfl rfl (fun hb42 => ?_) (fun hb42 => ?_)
    · have hb42 : g.toInt ≤ i.toInt := hb42
      exfalso; first | omega | exact absurd hb42 (by decide +kernel)
    · have hb42 : ¬ (g.toInt ≤ i.toInt) := hb42
      refine ex_aload_n cg_56 (ix := 28) (pc' := 46) rfl rfl rfl ?_
      refine ex_getfield cg_56 (ix := 29) (pc' := 49) rfl rfl rfl rfl rfl ?_
      refine ex_iload_n cg_56 (ix := 30) (pc' := 50) rfl rfl rfl ?_
      refine ex_iconst cg_56 (ix := 31) (pc' := 51) rfl rfl ?_
      refine ex_imul cg_56 (ix := 32) (pc' := 52) rfl rfl ?_
      refine ex_iload cg_56 (ix := 33) (pc' := 54) rfl rfl rfl ?_
      refine ex_iadd cg_56 (ix := 34) (pc' := 55) rfl rfl ?_
      refine ex_iaload cg_56 (ix := 35) (pc' := 56) rfl rfl (by omega) (by omega) rfl ?_
      refine ex_istore cg_56 (ix := 36) (pc' := 58) (L' := [some (.inr (.inl 43)), some (.inl (.int x)), some (.inl (.int du)), some (.inl (.int s)), some (.inl (.int al)), some (.inl (.int i)), some (.inl (.int (pl ((s * (Int32.ofInt 4)) + i).toNatClampNeg)))]) rfl rfl rfl rfl ?_
      refine ex_iload cg_56 (ix := 37) (pc' := 60) rfl rfl rfl ?_
      refine ex_iload cg_56 (ix := 38) (pc' := 62) rfl rfl rfl ?_
      refine ex_bipush cg_56 (ix := 39) (pc' := 64) rfl rfl rfl ?_
      refine ex_icmp cg_56 (ix := 40) (t := 71) (pc' := 67) rfl rfl rfl (fun hb64 => ?_) (fun hb64 => ?_)
      · have hb64 : ¬ (pl ((s * (Int32.ofInt 4)) + i).toNatClampNeg).toInt = (Int32.ofInt (-9)).toInt := hb64
        refine ex_getstatic cg_56 (ix := 43) (pc' := 74) rfl rfl rfl ?_
        refine ex_iload cg_56 (ix := 44) (pc' := 76) rfl rfl rfl ?_
        refine ex_sload cg_56 (ix := 45) (pc' := 77) rfl (by unfold rpv at hpv; split at hpv <;> omega) (by unfold rpv at hpv; split at hpv <;> omega) rfl ?_
        refine ex_iadd cg_56 (ix := 46) (pc' := 78) rfl rfl ?_
        refine ex_istore cg_56 (ix := 47) (pc' := 80) (L' := [some (.inr (.inl 43)), some (.inl (.int x)), some (.inl (.int du)), some (.inl (.int s)), some (.inl (.int (al + (cOne (pl ((s * (Int32.ofInt 4)) + i).toNatClampNeg).toNatClampNeg)))), some (.inl (.int i)), some (.inl (.int (pl ((s * (Int32.ofInt 4)) + i).toNatClampNeg)))]) rfl rfl rfl rfl ?_
        refine ex_aload_n cg_56 (ix := 48) (pc' := 81) rfl rfl rfl ?_
        refine ex_getfield cg_56 (ix := 49) (pc' := 84) rfl rfl rfl rfl rfl ?_
        refine ex_iload cg_56 (ix := 50) (pc' := 86) rfl rfl rfl ?_
        refine ex_aload_n cg_56 (ix := 51) (pc' := 87) rfl rfl rfl ?_
        refine ex_getfield cg_56 (ix := 52) (pc' := 90) rfl rfl rfl rfl rfl ?_
        refine ex_iload cg_56 (ix := 53) (pc' := 92) rfl rfl rfl ?_
        refine ex_iaload cg_56 (ix := 54) (pc' := 93) rfl rfl (by omega) (by omega) rfl ?_
        refine ex_iload cg_56 (ix := 55) (pc' := 95) rfl rfl rfl ?_
        refine ex_callS cg_56 (ix := 56) (pc' := 98) (As := [.inl (.int (lx i.toNatClampNeg)), .inl (.int (pl ((s * (Int32.ofInt 4)) + i).toNatClampNeg))]) (r := [.inl (.int i), .inr (.inl 66)]) rfl rfl rfl (ct_sb (x := lx i.toNatClampNeg) (y := pl ((s * (Int32.ofInt 4)) + i).toNatClampNeg) (sN := st k) (tN := ts k) (hs9 k) ht hik4 hpv) (by first | decide | omega) rfl rfl trivial rfl rfl (fun v h2 hq => ?_)
        obtain ⟨zb, rfl, rfl, hzb⟩ := hq
        show cx_T _ 56 _ 98 ([some (.inr (.inl 43)), some (.inl (.int x)), some (.inl (.int du)), some (.inl (.int s)), some (.inl (.int (al + (cOne (pl ((s * (Int32.ofInt 4)) + i).toNatClampNeg).toNatClampNeg)))), some (.inl (.int i)), some (.inl (.int (pl ((s * (Int32.ofInt 4)) + i).toNatClampNeg)))], [.inl (.int zb), .inl (.int i), .inr (.inl 66)], [(43, .inl (4, [.inr (.inl 2), .inr (.inl 44), .inr (.inl 45), .inr (.inl 46), .inr (.inl 47), .inr (.inl 48), .inr (.inl 49), .inr (.inl 50), .inr (.inl 57), .inr (.inl 58), .inr (.inl 66), .inr (.inl 67), .inl (.int g), .inl (.int fk), .inl (.int pf), .inl (.int pt), .inl (.int pr)])), (44, .inr (.inl (0, 4, mi))), (45, .inr (.inl (0, 70, cd))), (46, .inr (.inl (0, 70, sz))), (47, .inr (.inl (0, 625, sp))), (48, .inr (.inl (0, 280, th))), (49, .inr (.inl (2, 4900, fo))), (50, .inr (.inr (.inr (3, [51, 52, 53, 54, 55, 56])))), (51, .inr (.inl (0, 70, R 0))), (52, .inr (.inl (0, 70, R 1))), (53, .inr (.inl (0, 70, R 2))), (54, .inr (.inl (0, 70, R 3))), (55, .inr (.inl (0, 70, R 4))), (56, .inr (.inl (0, 70, R 5))), (57, .inr (.inl (0, 350, go))), (58, .inr (.inr (.inr (3, [59, 60, 61, 62, 63, 64, 65])))), (59, .inr (.inl (0, 350, L 0))), (60, .inr (.inl (0, 350, L 1))), (61, .inr (.inl (0, 350, L 2))), (62, .inr (.inl (0, 350, L 3))), (63, .inr (.inl (0, 350, L 4))), (64, .inr (.inl (0, 350, L 5))), (65, .inr (.inl (0, 350, L 6))), (66, .inr (.inl (0, 4, lx))), (67, .inr (.inl (0, 24, pl))), (2, .inl (8, [.inr (.inl 3), .inr (.inl 4), .inr (.inl 5), .inr (.inl 10)])), (5, .inr (.inr (.inr (3, [6, 7, 8, 9])))), (6, .inr (.inl (0, 16, hd 0))), (7, .inr (.inl (0, 16, hd 1))), (8, .inr (.inl (0, 16, hd 2))), (9, .inr (.inl (0, 16, hd 3)))]) _
        refine ex_iastore cg_56 (ix := 57) (pc' := 99) (h' := [(43, .inl (4, [.inr (.inl 2), .inr (.inl 44), .inr (.inl 45), .inr (.inl 46), .inr (.inl 47), .inr (.inl 48), .inr (.inl 49), .inr (.inl 50), .inr (.inl 57), .inr (.inl 58), .inr (.inl 66), .inr (.inl 67), .inl (.int g), .inl (.int fk), .inl (.int pf), .inl (.int pt), .inl (.int pr)])), (44, .inr (.inl (0, 4, mi))), (45, .inr (.inl (0, 70, cd))), (46, .inr (.inl (0, 70, sz))), (47, .inr (.inl (0, 625, sp))), (48, .inr (.inl (0, 280, th))), (49, .inr (.inl (2, 4900, fo))), (50, .inr (.inr (.inr (3, [51, 52, 53, 54, 55, 56])))), (51, .inr (.inl (0, 70, R 0))), (52, .inr (.inl (0, 70, R 1))), (53, .inr (.inl (0, 70, R 2))), (54, .inr (.inl (0, 70, R 3))), (55, .inr (.inl (0, 70, R 4))), (56, .inr (.inl (0, 70, R 5))), (57, .inr (.inl (0, 350, go))), (58, .inr (.inr (.inr (3, [59, 60, 61, 62, 63, 64, 65])))), (59, .inr (.inl (0, 350, L 0))), (60, .inr (.inl (0, 350, L 1))), (61, .inr (.inl (0, 350, L 2))), (62, .inr (.inl (0, 350, L 3))), (63, .inr (.inl (0, 350, L 4))), (64, .inr (.inl (0, 350, L 5))), (65, .inr (.inl (0, 350, L 6))), (66, .inr (.inl (0, 4, upd lx i.toNatClampNeg zb))), (67, .inr (.inl (0, 24, pl))), (2, .inl (8, [.inr (.inl 3), .inr (.inl 4), .inr (.inl 5), .inr (.inl 10)])), (5, .inr (.inr (.inr (3, [6, 7, 8, 9])))), (6, .inr (.inl (0, 16, hd 0))), (7, .inr (.inl (0, 16, hd 1))), (8, .inr (.inl (0, 16, hd 2))), (9, .inr (.inl (0, 16, hd 3)))]) rfl rfl (by omega) (by omega) rfl rfl ?_
        refine ex_iinc cg_56 (ix := 58) (pc' := 102) (L' := [some (.inr (.inl 43)), some (.inl (.int x)), some (.inl (.int du)), some (.inl (.int s)), some (.inl (.int (al + (cOne (pl ((s * (Int32.ofInt 4)) + i).toNatClampNeg).toNatClampNeg)))), some (.inl (.int (i + Int32.ofInt 1))), some (.inl (.int (pl ((s * (Int32.ofInt 4)) + i).toNatClampNeg)))]) rfl rfl rfl rfl rfl ?_
        refine ex_goto cg_56 (ix := 59) (pc' := 36) rfl rfl ?_
        have hr5 : 0 ≤ zb.toInt ∧ zb.toInt ≤ 5 := by
          have := nxs_9 (s := st k) ht
          rw [hzb]
          unfold lr
          split
          · omega
          · split <;> omega
        have hq4 : ¬ ts k = 4 := fun q => by
          unfold rpv at hpv
          rw [if_pos q] at hpv
          omega
        have hpk : (pl (s * Int32.ofInt 4 + i).toNatClampNeg).toInt = ((ts k : Nat) : Int) := by
          rw [hpv]
          unfold rpv
          rw [if_neg hq4]
        have hone : (cOne (pl (s * Int32.ofInt 4 + i).toNatClampNeg).toNatClampNeg).toInt = ((p5 (ts k) : Nat) : Int) := by
          rw [cx_clamp hpk]
          exact cOne_v (by omega)
        have hp5 : p5 (ts k) ≤ 125 := by
          rcases (show ts k = 0 ∨ ts k = 1 ∨ ts k = 2 ∨ ts k = 3 by omega) with q | q | q | q <;> rw [q] <;> decide
        rw [if_neg hq4] at hup
        refine ih (k + 1) (by omega) _ (by rw [cx_addc (by omega) (by omega)]; omega) _ _ _ (by rw [hup, cx_addc (by omega) (by omega)]; omega) (fun j hj => ?_) (fun j hj hj2 => ?_) (fun j hj => ?_)
        · rw [hik]
          unfold upd
          by_cases e : j = k
          · rw [e, if_pos rfl]; exact hzb
          · rw [if_neg e]; exact hl2 j (by omega)
        · rw [hik]
          unfold upd
          rw [if_neg (by omega)]; exact hl3 j (by omega) hj2
        · rw [hik]
          unfold upd
          split
          · exact hr5
          · exact hl5 j hj
      · have hb64 : ¬ (¬ (pl ((s * (Int32.ofInt 4)) + i).toNatClampNeg).toInt = (Int32.ofInt (-9)).toInt) := hb64
        refine ex_iconst cg_56 (ix := 41) (pc' := 68) rfl rfl ?_
        refine ex_goto cg_56 (ix := 42) (pc' := 77) rfl rfl ?_
        refine ex_iadd cg_56 (ix := 46) (pc' := 78) rfl rfl ?_
        refine ex_istore cg_56 (ix := 47) (pc' := 80) (L' := [some (.inr (.inl 43)), some (.inl (.int x)), some (.inl (.int du)), some (.inl (.int s)), some (.inl (.int (al + (Int32.ofInt 0)))), some (.inl (.int i)), some (.inl (.int (pl ((s * (Int32.ofInt 4)) + i).toNatClampNeg)))]) rfl rfl rfl rfl ?_
        refine ex_aload_n cg_56 (ix := 48) (pc' := 81) rfl rfl rfl ?_
        refine ex_getfield cg_56 (ix := 49) (pc' := 84) rfl rfl rfl rfl rfl ?_
        refine ex_iload cg_56 (ix := 50) (pc' := 86) rfl rfl rfl ?_
        refine ex_aload_n cg_56 (ix := 51) (pc' := 87) rfl rfl rfl ?_
        refine ex_getfield cg_56 (ix := 52) (pc' := 90) rfl rfl rfl rfl rfl ?_
        refine ex_iload cg_56 (ix := 53) (pc' := 92) rfl rfl rfl ?_
        refine ex_iaload cg_56 (ix := 54) (pc' := 93) rfl rfl (by omega) (by omega) rfl ?_
        refine ex_iload cg_56 (ix := 55) (pc' := 95) rfl rfl rfl ?_
        refine ex_callS cg_56 (ix := 56) (pc' := 98) (As := [.inl (.int (lx i.toNatClampNeg)), .inl (.int (pl ((s * (Int32.ofInt 4)) + i).toNatClampNeg))]) (r := [.inl (.int i), .inr (.inl 66)]) rfl rfl rfl (ct_sb (x := lx i.toNatClampNeg) (y := pl ((s * (Int32.ofInt 4)) + i).toNatClampNeg) (sN := st k) (tN := ts k) (hs9 k) ht hik4 hpv) (by first | decide | omega) rfl rfl trivial rfl rfl (fun v h2 hq => ?_)
        obtain ⟨zb, rfl, rfl, hzb⟩ := hq
        show cx_T _ 56 _ 98 ([some (.inr (.inl 43)), some (.inl (.int x)), some (.inl (.int du)), some (.inl (.int s)), some (.inl (.int (al + (Int32.ofInt 0)))), some (.inl (.int i)), some (.inl (.int (pl ((s * (Int32.ofInt 4)) + i).toNatClampNeg)))], [.inl (.int zb), .inl (.int i), .inr (.inl 66)], [(43, .inl (4, [.inr (.inl 2), .inr (.inl 44), .inr (.inl 45), .inr (.inl 46), .inr (.inl 47), .inr (.inl 48), .inr (.inl 49), .inr (.inl 50), .inr (.inl 57), .inr (.inl 58), .inr (.inl 66), .inr (.inl 67), .inl (.int g), .inl (.int fk), .inl (.int pf), .inl (.int pt), .inl (.int pr)])), (44, .inr (.inl (0, 4, mi))), (45, .inr (.inl (0, 70, cd))), (46, .inr (.inl (0, 70, sz))), (47, .inr (.inl (0, 625, sp))), (48, .inr (.inl (0, 280, th))), (49, .inr (.inl (2, 4900, fo))), (50, .inr (.inr (.inr (3, [51, 52, 53, 54, 55, 56])))), (51, .inr (.inl (0, 70, R 0))), (52, .inr (.inl (0, 70, R 1))), (53, .inr (.inl (0, 70, R 2))), (54, .inr (.inl (0, 70, R 3))), (55, .inr (.inl (0, 70, R 4))), (56, .inr (.inl (0, 70, R 5))), (57, .inr (.inl (0, 350, go))), (58, .inr (.inr (.inr (3, [59, 60, 61, 62, 63, 64, 65])))), (59, .inr (.inl (0, 350, L 0))), (60, .inr (.inl (0, 350, L 1))), (61, .inr (.inl (0, 350, L 2))), (62, .inr (.inl (0, 350, L 3))), (63, .inr (.inl (0, 350, L 4))), (64, .inr (.inl (0, 350, L 5))), (65, .inr (.inl (0, 350, L 6))), (66, .inr (.inl (0, 4, lx))), (67, .inr (.inl (0, 24, pl))), (2, .inl (8, [.inr (.inl 3), .inr (.inl 4), .inr (.inl 5), .inr (.inl 10)])), (5, .inr (.inr (.inr (3, [6, 7, 8, 9])))), (6, .inr (.inl (0, 16, hd 0))), (7, .inr (.inl (0, 16, hd 1))), (8, .inr (.inl (0, 16, hd 2))), (9, .inr (.inl (0, 16, hd 3)))]) _
        refine ex_iastore cg_56 (ix := 57) (pc' := 99) (h' := [(43, .inl (4, [.inr (.inl 2), .inr (.inl 44), .inr (.inl 45), .inr (.inl 46), .inr (.inl 47), .inr (.inl 48), .inr (.inl 49), .inr (.inl 50), .inr (.inl 57), .inr (.inl 58), .inr (.inl 66), .inr (.inl 67), .inl (.int g), .inl (.int fk), .inl (.int pf), .inl (.int pt), .inl (.int pr)])), (44, .inr (.inl (0, 4, mi))), (45, .inr (.inl (0, 70, cd))), (46, .inr (.inl (0, 70, sz))), (47, .inr (.inl (0, 625, sp))), (48, .inr (.inl (0, 280, th))), (49, .inr (.inl (2, 4900, fo))), (50, .inr (.inr (.inr (3, [51, 52, 53, 54, 55, 56])))), (51, .inr (.inl (0, 70, R 0))), (52, .inr (.inl (0, 70, R 1))), (53, .inr (.inl (0, 70, R 2))), (54, .inr (.inl (0, 70, R 3))), (55, .inr (.inl (0, 70, R 4))), (56, .inr (.inl (0, 70, R 5))), (57, .inr (.inl (0, 350, go))), (58, .inr (.inr (.inr (3, [59, 60, 61, 62, 63, 64, 65])))), (59, .inr (.inl (0, 350, L 0))), (60, .inr (.inl (0, 350, L 1))), (61, .inr (.inl (0, 350, L 2))), (62, .inr (.inl (0, 350, L 3))), (63, .inr (.inl (0, 350, L 4))), (64, .inr (.inl (0, 350, L 5))), (65, .inr (.inl (0, 350, L 6))), (66, .inr (.inl (0, 4, upd lx i.toNatClampNeg zb))), (67, .inr (.inl (0, 24, pl))), (2, .inl (8, [.inr (.inl 3), .inr (.inl 4), .inr (.inl 5), .inr (.inl 10)])), (5, .inr (.inr (.inr (3, [6, 7, 8, 9])))), (6, .inr (.inl (0, 16, hd 0))), (7, .inr (.inl (0, 16, hd 1))), (8, .inr (.inl (0, 16, hd 2))), (9, .inr (.inl (0, 16, hd 3)))]) rfl rfl (by omega) (by omega) rfl rfl ?_
        refine ex_iinc cg_56 (ix := 58) (pc' := 102) (L' := [some (.inr (.inl 43)), some (.inl (.int x)), some (.inl (.int du)), some (.inl (.int s)), some (.inl (.int (al + (Int32.ofInt 0)))), some (.inl (.int (i + Int32.ofInt 1))), some (.inl (.int (pl ((s * (Int32.ofInt 4)) + i).toNatClampNeg)))]) rfl rfl rfl rfl rfl ?_
        refine ex_goto cg_56 (ix := 59) (pc' := 36) rfl rfl ?_
        have hr5 : 0 ≤ zb.toInt ∧ zb.toInt ≤ 5 := by
          have := nxs_9 (s := st k) ht
          rw [hzb]
          unfold lr
          split
          · omega
          · split <;> omega
        have hq4 : ts k = 4 := Classical.byContradiction (fun q => by
          unfold rpv at hpv
          rw [if_neg q] at hpv
          omega)
        rw [if_pos hq4] at hup
        refine ih (k + 1) (by omega) _ (by rw [cx_addc (by omega) (by omega)]; omega) _ _ _ (by rw [hup, cx_addc (by omega) (by omega)]; omega) (fun j hj => ?_) (fun j hj hj2 => ?_) (fun j hj => ?_)
        · rw [hik]
          unfold upd
          by_cases e : j = k
          · rw [e, if_pos rfl]; exact hzb
          · rw [if_neg e]; exact hl2 j (by omega)
        · rw [hik]
          unfold upd
          rw [if_neg (by omega)]; exact hl3 j (by omega) hj2
        · rw [hik]
          unfold upd
          split
          · exact hr5
          · exact hl5 j hj
theorem pa_loop {g fk pf pt pr : Int32} {mi cd sz sp th fo go la pl : Nat → Int32} {R L hd : Nat → Nat → Int32} {x : Int32} {gN H : Nat} {rk : Nat → (Nat → Nat) → Nat} {P : Option cx_V → cx_H → Prop} (hsz : szH sz) (hsp : spH sp) (hmi : miH mi) (hx : x.toInt + 1 = (H : Int)) (hH : H ≤ 6) (hg : g.toInt = (gN : Int)) (hg4 : gN ≤ 4) (hR : ∀ j s : Nat, j < H → s < 70 → (R j s).toInt = ((rk (H - 1 - j) (cN s) : Nat) : Int)) (hkE : ∀ j c d, (∀ b, b < 4 → c b = d b) → rk j c = rk j d) (hr : ∀ j c, rk j c ≤ 100000) (hL : ∀ j f r : Nat, j ≤ H → f < 70 → szN f + r ≤ gN → (L j (5 * f + r)).toInt = ((LV (nbF mi) rk gN (H - j) f r : Nat) : Int)) (hP : ∀ lx px : Nat → Int32, (plU px ∧ (∀ i : Nat, i < 4 → 0 ≤ (lx i).toInt ∧ (lx i).toInt ≤ 5) ∧ ∃ SS TS : Nat → Nat → Nat, planP (nbF mi) rk gN H SS TS H ∧ ∀ j i : Nat, j < H → i < gN → (px (4 * j + i)).toInt = rpv (TS j i)) → P none ([(43, .inl (4, [.inr (.inl 2), .inr (.inl 44), .inr (.inl 45), .inr (.inl 46), .inr (.inl 47), .inr (.inl 48), .inr (.inl 49), .inr (.inl 50), .inr (.inl 57), .inr (.inl 58), .inr (.inl 66), .inr (.inl 67), .inl (.int g), .inl (.int fk), .inl (.int pf), .inl (.int pt), .inl (.int pr)])), (44, .inr (.inl (0, 4, mi))), (45, .inr (.inl (0, 70, cd))), (46, .inr (.inl (0, 70, sz))), (47, .inr (.inl (0, 625, sp))), (48, .inr (.inl (0, 280, th))), (49, .inr (.inl (2, 4900, fo))), (50, .inr (.inr (.inr (3, [51, 52, 53, 54, 55, 56])))), (51, .inr (.inl (0, 70, R 0))), (52, .inr (.inl (0, 70, R 1))), (53, .inr (.inl (0, 70, R 2))), (54, .inr (.inl (0, 70, R 3))), (55, .inr (.inl (0, 70, R 4))), (56, .inr (.inl (0, 70, R 5))), (57, .inr (.inl (0, 350, go))), (58, .inr (.inr (.inr (3, [59, 60, 61, 62, 63, 64, 65])))), (59, .inr (.inl (0, 350, L 0))), (60, .inr (.inl (0, 350, L 1))), (61, .inr (.inl (0, 350, L 2))), (62, .inr (.inl (0, 350, L 3))), (63, .inr (.inl (0, 350, L 4))), (64, .inr (.inl (0, 350, L 5))), (65, .inr (.inl (0, 350, L 6))), (66, .inr (.inl (0, 4, lx))), (67, .inr (.inl (0, 24, px))), (2, .inl (8, [.inr (.inl 3), .inr (.inl 4), .inr (.inl 5), .inr (.inl 10)])), (5, .inr (.inr (.inr (3, [6, 7, 8, 9])))), (6, .inr (.inl (0, 16, hd 0))), (7, .inr (.inl (0, 16, hd 1))), (8, .inr (.inl (0, 16, hd 2))), (9, .inr (.inl (0, 16, hd 3)))])) :
    ∀ (m k : Nat), k + m = H → ∀ i : Int32, i.toInt = (k : Int) → ∀ (SS TS : Nat → Nat → Nat) (du : Int32) (lx px : Nat → Int32) (A B C : Option cx_V), planP (nbF mi) rk gN H SS TS k → du.toInt = ((LV (nbF mi) rk gN (H - k) (spI (fsC (SS k) gN)) (zsC (SS k) gN) : Nat) : Int) → (∀ i : Nat, i < gN → (lx i).toInt = lr (SS k i)) → (∀ i : Nat, i < 4 → 0 ≤ (lx i).toInt ∧ (lx i).toInt ≤ 5) → plU px → (∀ j i : Nat, j < k → i < gN → (px (4 * j + i)).toInt = rpv (TS j i)) → cx_T 9 56 [43, 44, 45, 46, 47, 48, 49, 50, 51, 52, 53, 54, 55, 56, 57, 58, 59, 60, 61, 62, 63, 64, 65, 66, 67, 2, 5, 6, 7, 8, 9] 15 ([some (.inr (.inl 43)), some (.inl (.int x)), some (.inl (.int du)), some (.inl (.int i)), A, B, C], [], [(43, .inl (4, [.inr (.inl 2), .inr (.inl 44), .inr (.inl 45), .inr (.inl 46), .inr (.inl 47), .inr (.inl 48), .inr (.inl 49), .inr (.inl 50), .inr (.inl 57), .inr (.inl 58), .inr (.inl 66), .inr (.inl 67), .inl (.int g), .inl (.int fk), .inl (.int pf), .inl (.int pt), .inl (.int pr)])), (44, .inr (.inl (0, 4, mi))), (45, .inr (.inl (0, 70, cd))), (46, .inr (.inl (0, 70, sz))), (47, .inr (.inl (0, 625, sp))), (48, .inr (.inl (0, 280, th))), (49, .inr (.inl (2, 4900, fo))), (50, .inr (.inr (.inr (3, [51, 52, 53, 54, 55, 56])))), (51, .inr (.inl (0, 70, R 0))), (52, .inr (.inl (0, 70, R 1))), (53, .inr (.inl (0, 70, R 2))), (54, .inr (.inl (0, 70, R 3))), (55, .inr (.inl (0, 70, R 4))), (56, .inr (.inl (0, 70, R 5))), (57, .inr (.inl (0, 350, go))), (58, .inr (.inr (.inr (3, [59, 60, 61, 62, 63, 64, 65])))), (59, .inr (.inl (0, 350, L 0))), (60, .inr (.inl (0, 350, L 1))), (61, .inr (.inl (0, 350, L 2))), (62, .inr (.inl (0, 350, L 3))), (63, .inr (.inl (0, 350, L 4))), (64, .inr (.inl (0, 350, L 5))), (65, .inr (.inl (0, 350, L 6))), (66, .inr (.inl (0, 4, lx))), (67, .inr (.inl (0, 24, px))), (2, .inl (8, [.inr (.inl 3), .inr (.inl 4), .inr (.inl 5), .inr (.inl 10)])), (5, .inr (.inr (.inr (3, [6, 7, 8, 9])))), (6, .inr (.inl (0, 16, hd 0))), (7, .inr (.inl (0, 16, hd 1))), (8, .inr (.inl (0, 16, hd 2))), (9, .inr (.inl (0, 16, hd 3)))]) P := by
  have kcm9 : (Int32.ofInt (-9)).toInt = -9 := by decide +kernel
  have kc0 : (Int32.ofInt 0).toInt = 0 := by decide +kernel
  have kc1 : (Int32.ofInt 1).toInt = 1 := by decide +kernel
  have kc4 : (Int32.ofInt 4).toInt = 4 := by decide +kernel
  intro m
  induction m with
  | zero =>
    intro k hk i hi SS TS du lx px A B C hpl0 hdu hlx hl5 hpx0 hpx
    have ek : k = H := by omega
    refine ex_iload_n cg_56 (ix := 9) (pc' := 16) rfl rfl rfl ?_
    refine ex_iload_n cg_56 (ix := 10) (pc' := 17) rfl rfl rfl ?_
    refine ex_icmp cg_56 (ix := 11) (t := 128) (pc' := 20) rfl rfl rfl (fun hb17 => ?_) (fun hb17 => ?_)
    · have hb17 : x.toInt < i.toInt := hb17
      refine ex_return_ cg_56 (ix := 74) rfl ?_
      rw [ek] at hpl0 hpx
      exact hP lx px ⟨hpx0, hl5, SS, TS, hpl0, hpx⟩
    · have hb17 : ¬ (x.toInt < i.toInt) := hb17
      exfalso; first | omega | exact absurd hb17 (by decide +kernel)
  | succ m ih =>
    intro k hk i hi SS TS du lx px A B C hpl0 hdu hlx hl5 hpx0 hpx
    have hik : i.toNatClampNeg = k := cx_clamp hi
    refine ex_iload_n cg_56 (ix := 9) (pc' := 16) rfl rfl rfl ?_
    refine ex_iload_n cg_56 (ix := 10) (pc' := 17) rfl rfl rfl ?_
    refine ex_icmp cg_56 (ix := 11) (t := 128) (pc' := 20) rfl rfl rfl (fun hb17 => ?_) (fun hb17 => ?_)
    · have hb17 : x.toInt < i.toInt := hb17
      exfalso; first | omega | exact absurd hb17 (by decide +kernel)
    · have hb17 : ¬ (x.toInt < i.toInt) := hb17
      refine ex_aload_n cg_56 (ix := 12) (pc' := 21) rfl rfl rfl ?_
      refine ex_iload_n cg_56 (ix := 13) (pc' := 22) rfl rfl rfl ?_
      refine ex_iconst cg_56 (ix := 14) (pc' := 23) rfl rfl ?_
      refine ex_iconst cg_56 (ix := 15) (pc' := 24) rfl rfl ?_
      refine ex_iconst cg_56 (ix := 16) (pc' := 25) rfl rfl ?_
      refine ex_iload_n cg_56 (ix := 17) (pc' := 26) rfl rfl rfl ?_
      refine ex_callV cg_56 (ix := 18) (pc' := 29) (As := [.inl (.int i), .inl (.int (Int32.ofInt 0)), .inl (.int (Int32.ofInt 0)), .inl (.int (Int32.ofInt 0)), .inl (.int du)]) (r := []) rfl rfl rfl (ct_pf (g := g) (fk := fk) (pf := pf) (pt := pt) (pr := pr) (mi := mi) (cd := cd) (sz := sz) (sp := sp) (th := th) (fo := fo) (go := go) (la := lx) (R := R) (L := L) (hd := hd) (x := i) (du := du) (xN := k) (gN := gN) (D := LV (nbF mi) rk gN (H - k) (spI (fsC (SS k) gN)) (zsC (SS k) gN)) (rkc := rk (H - 1 - k)) (Lv := LV (nbF mi) rk gN (H - 1 - k)) (st := SS k) hsz hsp hmi hi (by omega) hg hg4 hdu (fun s hs => hR k s (by omega) hs) (hkE (H - 1 - k)) (hr (H - 1 - k)) (fun f r h1 h3 => by rw [hL (k + 1) f r (by omega) h1 h3, show H - (k + 1) = H - 1 - k by omega]) (fun f r => Nat.le_trans (LV_b hr (by omega)) (by omega)) (fun i9 _ => planP_9 hpl0 (Nat.le_refl k) i9) hlx gN px (Int32.ofInt 0) (Int32.ofInt 0) (Int32.ofInt 0) 0 (fun _ => 0) hpx0 kc0 (by omega) (fun i9 h => absurd h (Nat.not_lt_zero i9)) (by rw [cd5_on0]; exact kc0) (by rw [cd5_fr0]; exact kc0)) (by first | decide | omega) rfl rfl rfl ⟨rfl, rfl, rfl, rfl, rfl, rfl, rfl, rfl, rfl, rfl, rfl, rfl, rfl, rfl, rfl, rfl, rfl, rfl, rfl, rfl, rfl, rfl, rfl, rfl, rfl, rfl, rfl, rfl, rfl, rfl, rfl, trivial⟩ rfl rfl (fun v h2 hq => ?_)
      obtain ⟨z3, px2, rfl, rfl, hu3, hn3, hr3⟩ := hq
      rcases hr3 with ⟨rfl, ts, hF, hP3⟩ | ⟨rfl, hno⟩
      rotate_left
      · exfalso
        obtain ⟨ts, hts⟩ := plan_ex (nb := nbF mi) hkE hr hg4 (show H ≤ 90 by omega) (show k < H by omega) (planP_9 hpl0 (Nat.le_refl k))
        exact hno ts hts
      show cx_T _ 56 _ 29 ([some (.inr (.inl 43)), some (.inl (.int x)), some (.inl (.int du)), some (.inl (.int i)), A, B, C], [.inl (.int (Int32.ofInt 1))], [(43, .inl (4, [.inr (.inl 2), .inr (.inl 44), .inr (.inl 45), .inr (.inl 46), .inr (.inl 47), .inr (.inl 48), .inr (.inl 49), .inr (.inl 50), .inr (.inl 57), .inr (.inl 58), .inr (.inl 66), .inr (.inl 67), .inl (.int g), .inl (.int fk), .inl (.int pf), .inl (.int pt), .inl (.int pr)])), (44, .inr (.inl (0, 4, mi))), (45, .inr (.inl (0, 70, cd))), (46, .inr (.inl (0, 70, sz))), (47, .inr (.inl (0, 625, sp))), (48, .inr (.inl (0, 280, th))), (49, .inr (.inl (2, 4900, fo))), (50, .inr (.inr (.inr (3, [51, 52, 53, 54, 55, 56])))), (51, .inr (.inl (0, 70, R 0))), (52, .inr (.inl (0, 70, R 1))), (53, .inr (.inl (0, 70, R 2))), (54, .inr (.inl (0, 70, R 3))), (55, .inr (.inl (0, 70, R 4))), (56, .inr (.inl (0, 70, R 5))), (57, .inr (.inl (0, 350, go))), (58, .inr (.inr (.inr (3, [59, 60, 61, 62, 63, 64, 65])))), (59, .inr (.inl (0, 350, L 0))), (60, .inr (.inl (0, 350, L 1))), (61, .inr (.inl (0, 350, L 2))), (62, .inr (.inl (0, 350, L 3))), (63, .inr (.inl (0, 350, L 4))), (64, .inr (.inl (0, 350, L 5))), (65, .inr (.inl (0, 350, L 6))), (66, .inr (.inl (0, 4, lx))), (67, .inr (.inl (0, 24, px2))), (2, .inl (8, [.inr (.inl 3), .inr (.inl 4), .inr (.inl 5), .inr (.inl 10)])), (5, .inr (.inr (.inr (3, [6, 7, 8, 9])))), (6, .inr (.inl (0, 16, hd 0))), (7, .inr (.inl (0, 16, hd 1))), (8, .inr (.inl (0, 16, hd 2))), (9, .inr (.inl (0, 16, hd 3)))]) _
      refine ex_pop cg_56 (ix := 19) (pc' := 30) rfl rfl rfl ?_
      refine ex_iconst cg_56 (ix := 20) (pc' := 31) rfl rfl ?_
      refine ex_istore cg_56 (ix := 21) (pc' := 33) (L' := [some (.inr (.inl 43)), some (.inl (.int x)), some (.inl (.int du)), some (.inl (.int i)), some (.inl (.int (Int32.ofInt 0))), B, C]) rfl rfl rfl rfl ?_
      refine ex_iconst cg_56 (ix := 22) (pc' := 34) rfl rfl ?_
      refine ex_istore cg_56 (ix := 23) (pc' := 36) (L' := [some (.inr (.inl 43)), some (.inl (.int x)), some (.inl (.int du)), some (.inl (.int i)), some (.inl (.int (Int32.ofInt 0))), some (.inl (.int (Int32.ofInt 0))), C]) rfl rfl rfl rfl ?_
      have h9 := planP_9 hpl0 (Nat.le_refl k)
      have hF0 : isF (nbF mi) (okD (rk (H - 1 - k)) (LV (nbF mi) rk gN (H - 1 - k)) gN (LV (nbF mi) rk gN (H - k) (spI (fsC (SS k) gN)) (zsC (SS k) gN))) (SS k) gN 0 (fun _ => 0) ts := hF
      have hnx := plan_nx hF0 (y := fun i9 => if i9 < gN then nxs (SS k i9) (ts i9) else 0) (fun i9 h => if_pos h)
      refine pi_loop (g := g) (fk := fk) (pf := pf) (pt := pt) (pr := pr) (mi := mi) (cd := cd) (sz := sz) (sp := sp) (th := th) (fo := fo) (go := go) (la := lx) (pl := px2) (R := R) (L := L) (hd := hd) (x := x) (du := du) (s := i) (gN := gN) (sN := k) (st := SS k) (ts := ts) hi (by omega) hg hg4 h9 (isF_4 hF0) (fun i9 h => hP3 i9 (Nat.zero_le _) h) (P := P) (fun al2 i2 lx2 A2 hal2 hl2b hl5b => ?_) gN 0 (by omega) (Int32.ofInt 0) (by decide +kernel) (Int32.ofInt 0) lx _ (by rw [cd5_add, cd5_on0, cd5_fr0]; exact kc0) (fun i9 h => absurd h (Nat.not_lt_zero i9)) (fun i9 _ h => hlx i9 h) hl5
      generalize hS2 : (fun j i9 => if j = k + 1 then (if i9 < gN then nxs (SS k i9) (ts i9) else 0) else SS j i9) = SS2
      generalize hT2 : (fun j => if j = k then ts else TS j) = TS2
      have hSk1 : ∀ i9, SS2 (k + 1) i9 = if i9 < gN then nxs (SS k i9) (ts i9) else 0 := fun i9 => by
        rw [← hS2]
        exact if_pos rfl
      have hSj : ∀ j, j ≤ k → SS2 j = SS j := fun j hj => by
        rw [← hS2]
        funext i9
        exact if_neg (by omega)
      have hTk : TS2 k = ts := by
        rw [← hT2]
        exact if_pos rfl
      have hTj : ∀ j, j < k → TS2 j = TS j := fun j hj => by
        rw [← hT2]
        exact if_neg (by omega)
      have hpp : planP (nbF mi) rk gN H SS2 TS2 (k + 1) := by
        refine ⟨fun i9 => by rw [hSj 0 (by omega)]; exact hpl0.1 i9, fun j hj => ?_⟩
        by_cases e : j = k
        · subst e
          rw [hSj j (Nat.le_refl _), hTk]
          exact ⟨hF0, hSk1⟩
        · rw [hSj j (by omega), hTj j (by omega), hSj (j + 1) (by omega)]
          exact hpl0.2 j (by omega)
      have hE2 : SS2 (k + 1) = fun i9 => if i9 < gN then nxs (SS k i9) (ts i9) else 0 := funext hSk1
      have hc4 := c4_of (st := SS k) (ts := ts) (m := gN)
      obtain ⟨al1, al3, -⟩ := spI_ok (c := cadd (onC (SS k) ts gN) (frC (SS k) ts gN)) (by rw [c4_add]; omega)
      have hcl := cd5_le (c := cadd (onC (SS k) ts gN) (frC (SS k) ts gN))
      have hc5 := c4_add (c := onC (SS k) ts gN) (d := frC (SS k) ts gN)
      have hspv : (sp al2.toNatClampNeg).toInt = ((spI (cadd (onC (SS k) ts gN) (frC (SS k) ts gN)) : Nat) : Int) := by
        rw [cx_clamp hal2]
        exact hsp _ (by omega)
      have hrv : (R k (sp al2.toNatClampNeg).toNatClampNeg).toInt = ((rk (H - 1 - k) (cadd (onC (SS k) ts gN) (frC (SS k) ts gN)) : Nat) : Int) := by
        rw [cx_clamp hspv, hR k _ (by omega) al1, hkE _ _ _ al3]
      have hrb := hr (H - 1 - k) (cadd (onC (SS k) ts gN) (frC (SS k) ts gN))
      rw [← hE2, show H - 1 - k = H - (k + 1) by omega] at hnx
      rw [show H - 1 - k = H - (k + 1) by omega] at hrv hrb
      have hLVb := LV_b hr (nb := nbF mi) (G := gN) (j := H - (k + 1)) (F := spI (fsC (SS2 (k + 1)) gN)) (r := zsC (SS2 (k + 1)) gN) (by omega)
      refine ex_iload_n cg_56 (ix := 60) (pc' := 106) rfl rfl rfl ?_
      refine ex_aload_n cg_56 (ix := 61) (pc' := 107) rfl rfl rfl ?_
      refine ex_getfield cg_56 (ix := 62) (pc' := 110) rfl rfl rfl rfl rfl ?_
      refine ex_iload_n cg_56 (ix := 63) (pc' := 111) rfl rfl rfl ?_
      refine ex_aaload cg_56 (ix := 64) (pc' := 112) (k1 := (51 + k)) rfl rfl (by omega) (rr_ix (by omega) hi) rfl ?_
      refine ex_aload_n cg_56 (ix := 65) (pc' := 113) rfl rfl rfl ?_
      refine ex_getfield cg_56 (ix := 66) (pc' := 116) rfl rfl rfl rfl rfl ?_
      refine ex_iload cg_56 (ix := 67) (pc' := 118) rfl rfl rfl ?_
      refine ex_iaload cg_56 (ix := 68) (pc' := 119) rfl rfl (by omega) (by omega) rfl ?_
      refine ex_iaload cg_56 (ix := 69) (pc' := 120) rfl (rr_get (V := R) (by omega)) (by omega) (by omega) rfl ?_
      refine ex_isub cg_56 (ix := 70) (pc' := 121) rfl rfl ?_
      refine ex_istore_n cg_56 (ix := 71) (pc' := 122) (L' := [some (.inr (.inl 43)), some (.inl (.int x)), some (.inl (.int (du - ((R k) (sp al2.toNatClampNeg).toNatClampNeg)))), some (.inl (.int i)), some (.inl (.int al2)), some (.inl (.int i2)), A2]) rfl rfl rfl rfl ?_
      refine ex_iinc cg_56 (ix := 72) (pc' := 125) (L' := [some (.inr (.inl 43)), some (.inl (.int x)), some (.inl (.int (du - ((R k) (sp al2.toNatClampNeg).toNatClampNeg)))), some (.inl (.int (i + Int32.ofInt 1))), some (.inl (.int al2)), some (.inl (.int i2)), A2]) rfl rfl rfl rfl rfl ?_
      refine ex_goto cg_56 (ix := 73) (pc' := 15) rfl rfl ?_
      refine ih (k + 1) (by omega) _ (by rw [cx_addc (by omega) (by omega)]; omega) SS2 TS2 _ lx2 px2 _ _ _ hpp (by rw [cx_subc (by rw [hrv]; omega) (by rw [hrv]; omega), hrv]; omega) (fun i9 hi9 => ?_) hl5b hu3 (fun j i9 hj hi9 => ?_)
      · rw [hl2b i9 hi9, hSk1 i9, if_pos hi9]
      · show (px2 (4 * j + i9)).toInt = rpv ((TS2 j) i9)
        by_cases e : j = k
        · rw [e, hTk]; exact hP3 i9 (Nat.zero_le _) hi9
        · rw [hTj j (by omega), hn3 _ (by omega)]; exact hpx j i9 (by omega) hi9
theorem ct_pa {g fk pf pt pr : Int32} {mi cd sz sp th fo go la pl : Nat → Int32} {R L hd : Nat → Nat → Int32} {x : Int32} {gN H : Nat} {rk : Nat → (Nat → Nat) → Nat} (hsz : szH sz) (hsp : spH sp) (hmi : miH mi) (hx : x.toInt + 1 = (H : Int)) (hH : H ≤ 6) (hg : g.toInt = (gN : Int)) (hg4 : gN ≤ 4) (hR : ∀ j s : Nat, j < H → s < 70 → (R j s).toInt = ((rk (H - 1 - j) (cN s) : Nat) : Int)) (hkE : ∀ j c d, (∀ b, b < 4 → c b = d b) → rk j c = rk j d) (hr : ∀ j c, rk j c ≤ 100000) (hL : ∀ j f r : Nat, j ≤ H → f < 70 → szN f + r ≤ gN → (L j (5 * f + r)).toInt = ((LV (nbF mi) rk gN (H - j) f r : Nat) : Int)) (hpr : pr.toInt = ((LV (nbF mi) rk gN H 0 gN : Nat) : Int)) (hpl0 : plU pl) : cx_Ct 9 56 [.inr (.inl 43), .inl (.int x)] (h_ro g fk pf pt pr mi cd sz sp th fo go la pl R L hd) (fun v h2 => v = none ∧ ∃ lx px : Nat → Int32, h2 = h_ro g fk pf pt pr mi cd sz sp th fo go lx px R L hd ∧ plU px ∧ (∀ i : Nat, i < 4 → 0 ≤ (lx i).toInt ∧ (lx i).toInt ≤ 5) ∧ ∃ SS TS : Nat → Nat → Nat, planP (nbF mi) rk gN H SS TS H ∧ ∀ j i : Nat, j < H → i < gN → (px (4 * j + i)).toInt = rpv (TS j i)) := by
  have kc4 : (Int32.ofInt 4).toInt = 4 := by decide +kernel
  have kc0 : (Int32.ofInt 0).toInt = 0 := by decide +kernel
  have kcm9 : (Int32.ofInt (-9)).toInt = -9 := by decide +kernel
  have kc1 : (Int32.ofInt 1).toInt = 1 := by decide +kernel
  refine cx_Ct.of cg_56 (nL := 7) rfl rfl rfl ?_
  show cx_T 9 56 [43, 44, 45, 46, 47, 48, 49, 50, 51, 52, 53, 54, 55, 56, 57, 58, 59, 60, 61, 62, 63, 64, 65, 66, 67, 2, 5, 6, 7, 8, 9] 0 ([some (.inr (.inl 43)), some (.inl (.int x)), none, none, none, none, none], [], (h_ro g fk pf pt pr mi cd sz sp th fo go la pl R L hd)) _
  refine ex_aload_n cg_56 (ix := 0) (pc' := 1) rfl rfl rfl ?_
  refine ex_getfield cg_56 (ix := 1) (pc' := 4) rfl rfl rfl rfl rfl ?_
  refine ex_iconst cg_56 (ix := 2) (pc' := 5) rfl rfl ?_
  refine ex_fillI cg_56 (ix := 3) (pc' := 8) (h' := [(43, .inl (4, [.inr (.inl 2), .inr (.inl 44), .inr (.inl 45), .inr (.inl 46), .inr (.inl 47), .inr (.inl 48), .inr (.inl 49), .inr (.inl 50), .inr (.inl 57), .inr (.inl 58), .inr (.inl 66), .inr (.inl 67), .inl (.int g), .inl (.int fk), .inl (.int pf), .inl (.int pt), .inl (.int pr)])), (44, .inr (.inl (0, 4, mi))), (45, .inr (.inl (0, 70, cd))), (46, .inr (.inl (0, 70, sz))), (47, .inr (.inl (0, 625, sp))), (48, .inr (.inl (0, 280, th))), (49, .inr (.inl (2, 4900, fo))), (50, .inr (.inr (.inr (3, [51, 52, 53, 54, 55, 56])))), (51, .inr (.inl (0, 70, R 0))), (52, .inr (.inl (0, 70, R 1))), (53, .inr (.inl (0, 70, R 2))), (54, .inr (.inl (0, 70, R 3))), (55, .inr (.inl (0, 70, R 4))), (56, .inr (.inl (0, 70, R 5))), (57, .inr (.inl (0, 350, go))), (58, .inr (.inr (.inr (3, [59, 60, 61, 62, 63, 64, 65])))), (59, .inr (.inl (0, 350, L 0))), (60, .inr (.inl (0, 350, L 1))), (61, .inr (.inl (0, 350, L 2))), (62, .inr (.inl (0, 350, L 3))), (63, .inr (.inl (0, 350, L 4))), (64, .inr (.inl (0, 350, L 5))), (65, .inr (.inl (0, 350, L 6))), (66, .inr (.inl (0, 4, fun i => if i < 4 then (Int32.ofInt 4) else la i))), (67, .inr (.inl (0, 24, pl))), (2, .inl (8, [.inr (.inl 3), .inr (.inl 4), .inr (.inl 5), .inr (.inl 10)])), (5, .inr (.inr (.inr (3, [6, 7, 8, 9])))), (6, .inr (.inl (0, 16, hd 0))), (7, .inr (.inl (0, 16, hd 1))), (8, .inr (.inl (0, 16, hd 2))), (9, .inr (.inl (0, 16, hd 3)))]) rfl rfl (by first | decide | omega) rfl rfl rfl rfl rfl ?_
  refine ex_aload_n cg_56 (ix := 4) (pc' := 9) rfl rfl rfl ?_
  refine ex_getfield cg_56 (ix := 5) (pc' := 12) rfl rfl rfl rfl rfl ?_
  refine ex_istore_n cg_56 (ix := 6) (pc' := 13) (L' := [some (.inr (.inl 43)), some (.inl (.int x)), some (.inl (.int pr)), none, none, none, none]) rfl rfl rfl rfl ?_
  refine ex_iconst cg_56 (ix := 7) (pc' := 14) rfl rfl ?_
  refine ex_istore_n cg_56 (ix := 8) (pc' := 15) (L' := [some (.inr (.inl 43)), some (.inl (.int x)), some (.inl (.int pr)), some (.inl (.int (Int32.ofInt 0))), none, none, none]) rfl rfl rfl rfl ?_
  refine pa_loop (g := g) (fk := fk) (pf := pf) (pt := pt) (pr := pr) (mi := mi) (cd := cd) (sz := sz) (sp := sp) (th := th) (fo := fo) (go := go) (la := la) (pl := pl) (R := R) (L := L) (hd := hd) (x := x) (gN := gN) (H := H) (rk := rk) hsz hsp hmi hx hH hg hg4 hR hkE hr hL (P := fun v h2 => v = none ∧ ∃ lx px : Nat → Int32, h2 = h_ro g fk pf pt pr mi cd sz sp th fo go lx px R L hd ∧ plU px ∧ (∀ i : Nat, i < 4 → 0 ≤ (lx i).toInt ∧ (lx i).toInt ≤ 5) ∧ ∃ SS TS : Nat → Nat → Nat, planP (nbF mi) rk gN H SS TS H ∧ ∀ j i : Nat, j < H → i < gN → (px (4 * j + i)).toInt = rpv (TS j i)) (fun lx px h1 => ⟨rfl, lx, px, rfl, h1⟩) H 0 (by omega) (Int32.ofInt 0) (by decide +kernel) (fun _ _ => 0) (fun _ _ => 0) pr _ pl none none none ⟨fun _ => rfl, fun j hj => absurd hj (Nat.not_lt_zero j)⟩ ?_ (fun i9 h9 => ?_) (fun i9 h9 => ?_) hpl0 (fun j i9 hj => absurd hj (Nat.not_lt_zero j))
  · rw [(zsC_all (fun _ => rfl)).1, (zsC_all (fun _ => rfl)).2, spI_0]; exact hpr
  · show (if i9 < 4 then Int32.ofInt 4 else la i9).toInt = lr 0
    rw [if_pos (by omega)]
    exact kc4
  · show 0 ≤ (if i9 < 4 then Int32.ofInt 4 else la i9).toInt ∧ (if i9 < 4 then Int32.ofInt 4 else la i9).toInt ≤ 5
    rw [if_pos h9, kc4]
    omega
/-- the risks by how many hours are left -/
def rkE (hd : Nat → Nat → Int32) (e : Nat) : Nat → (Nat → Nat) → Nat := fun j => rkH hd (e - 1 - j)
theorem rkE_E {hd : Nat → Nat → Int32} {e : Nat} : ∀ j c d, (∀ b, b < 4 → c b = d b) → rkE hd e j c = rkE hd e j d := fun _ _ _ h => rkH_E h
theorem rkE_b {hd : Nat → Nat → Int32} {e : Nat} (h1 : 1 ≤ e) (h2 : e ≤ 16) (H : hdH hd) : ∀ j c, rkE hd e j c ≤ 100000 := fun _ _ => rkH_b (by omega) H
theorem lr_loop {g fk pf pt pr : Int32} {mi cd sz sp th fo go la pl : Nat → Int32} {R L hd : Nat → Nat → Int32} {a b : Int32} {aN e H gN : Nat} {P : Option cx_V → cx_H → Prop} (hth : thH th) (hcd : cdH cd) (hsz : szH sz) (hsp : spH sp) (hmi : miH mi) (hhd : hdH hd) (ha : a.toInt = (aN : Int)) (hb : b.toInt + 1 = (e : Int)) (hH : aN + H = e) (hH1 : 1 ≤ H) (hH6 : H ≤ 6) (he : e ≤ 16) (hg : g.toInt = (gN : Int)) (hg4 : gN ≤ 4) (hfo : tbH mi fo) (hP : ∀ (R2 : Nat → Nat → Int32) (go2 : Nat → Int32) (L2 : Nat → Nat → Int32) (i : Int32), (∀ j s : Nat, 0 ≤ j → j < H → s < 70 → (R2 j s).toInt = ((rkE hd e (H - 1 - j) (cN s) : Nat) : Int)) → (∀ j f r : Nat, 0 ≤ j → j ≤ H → f < 70 → szN f + r ≤ gN → (L2 j (5 * f + r)).toInt = ((LV (nbF mi) (rkE hd e) gN (H - j) f r : Nat) : Int)) → cx_T 10 45 [43, 44, 45, 46, 47, 48, 49, 50, 51, 52, 53, 54, 55, 56, 57, 58, 59, 60, 61, 62, 63, 64, 65, 66, 67, 2, 5, 6, 7, 8, 9] 66 ([some (.inr (.inl 43)), some (.inl (.int a)), some (.inl (.int b)), some (.inl (.int i))], [], [(43, .inl (4, [.inr (.inl 2), .inr (.inl 44), .inr (.inl 45), .inr (.inl 46), .inr (.inl 47), .inr (.inl 48), .inr (.inl 49), .inr (.inl 50), .inr (.inl 57), .inr (.inl 58), .inr (.inl 66), .inr (.inl 67), .inl (.int g), .inl (.int fk), .inl (.int pf), .inl (.int pt), .inl (.int pr)])), (44, .inr (.inl (0, 4, mi))), (45, .inr (.inl (0, 70, cd))), (46, .inr (.inl (0, 70, sz))), (47, .inr (.inl (0, 625, sp))), (48, .inr (.inl (0, 280, th))), (49, .inr (.inl (2, 4900, fo))), (50, .inr (.inr (.inr (3, [51, 52, 53, 54, 55, 56])))), (51, .inr (.inl (0, 70, R2 0))), (52, .inr (.inl (0, 70, R2 1))), (53, .inr (.inl (0, 70, R2 2))), (54, .inr (.inl (0, 70, R2 3))), (55, .inr (.inl (0, 70, R2 4))), (56, .inr (.inl (0, 70, R2 5))), (57, .inr (.inl (0, 350, go2))), (58, .inr (.inr (.inr (3, [59, 60, 61, 62, 63, 64, 65])))), (59, .inr (.inl (0, 350, L2 0))), (60, .inr (.inl (0, 350, L2 1))), (61, .inr (.inl (0, 350, L2 2))), (62, .inr (.inl (0, 350, L2 3))), (63, .inr (.inl (0, 350, L2 4))), (64, .inr (.inl (0, 350, L2 5))), (65, .inr (.inl (0, 350, L2 6))), (66, .inr (.inl (0, 4, la))), (67, .inr (.inl (0, 24, pl))), (2, .inl (8, [.inr (.inl 3), .inr (.inl 4), .inr (.inl 5), .inr (.inl 10)])), (5, .inr (.inr (.inr (3, [6, 7, 8, 9])))), (6, .inr (.inl (0, 16, hd 0))), (7, .inr (.inl (0, 16, hd 1))), (8, .inr (.inl (0, 16, hd 2))), (9, .inr (.inl (0, 16, hd 3)))]) P) :
    ∀ (lN : Nat) (i : Int32), i.toInt = (lN : Int) - 1 → lN ≤ H → ∀ (R2 : Nat → Nat → Int32) (go2 : Nat → Int32) (L2 : Nat → Nat → Int32), (∀ j s : Nat, lN ≤ j → j < H → s < 70 → (R2 j s).toInt = ((rkE hd e (H - 1 - j) (cN s) : Nat) : Int)) → (∀ j f r : Nat, lN ≤ j → j ≤ H → f < 70 → szN f + r ≤ gN → (L2 j (5 * f + r)).toInt = ((LV (nbF mi) (rkE hd e) gN (H - j) f r : Nat) : Int)) → cx_T 10 45 [43, 44, 45, 46, 47, 48, 49, 50, 51, 52, 53, 54, 55, 56, 57, 58, 59, 60, 61, 62, 63, 64, 65, 66, 67, 2, 5, 6, 7, 8, 9] 38 ([some (.inr (.inl 43)), some (.inl (.int a)), some (.inl (.int b)), some (.inl (.int i))], [], [(43, .inl (4, [.inr (.inl 2), .inr (.inl 44), .inr (.inl 45), .inr (.inl 46), .inr (.inl 47), .inr (.inl 48), .inr (.inl 49), .inr (.inl 50), .inr (.inl 57), .inr (.inl 58), .inr (.inl 66), .inr (.inl 67), .inl (.int g), .inl (.int fk), .inl (.int pf), .inl (.int pt), .inl (.int pr)])), (44, .inr (.inl (0, 4, mi))), (45, .inr (.inl (0, 70, cd))), (46, .inr (.inl (0, 70, sz))), (47, .inr (.inl (0, 625, sp))), (48, .inr (.inl (0, 280, th))), (49, .inr (.inl (2, 4900, fo))), (50, .inr (.inr (.inr (3, [51, 52, 53, 54, 55, 56])))), (51, .inr (.inl (0, 70, R2 0))), (52, .inr (.inl (0, 70, R2 1))), (53, .inr (.inl (0, 70, R2 2))), (54, .inr (.inl (0, 70, R2 3))), (55, .inr (.inl (0, 70, R2 4))), (56, .inr (.inl (0, 70, R2 5))), (57, .inr (.inl (0, 350, go2))), (58, .inr (.inr (.inr (3, [59, 60, 61, 62, 63, 64, 65])))), (59, .inr (.inl (0, 350, L2 0))), (60, .inr (.inl (0, 350, L2 1))), (61, .inr (.inl (0, 350, L2 2))), (62, .inr (.inl (0, 350, L2 3))), (63, .inr (.inl (0, 350, L2 4))), (64, .inr (.inl (0, 350, L2 5))), (65, .inr (.inl (0, 350, L2 6))), (66, .inr (.inl (0, 4, la))), (67, .inr (.inl (0, 24, pl))), (2, .inl (8, [.inr (.inl 3), .inr (.inl 4), .inr (.inl 5), .inr (.inl 10)])), (5, .inr (.inr (.inr (3, [6, 7, 8, 9])))), (6, .inr (.inl (0, 16, hd 0))), (7, .inr (.inl (0, 16, hd 1))), (8, .inr (.inl (0, 16, hd 2))), (9, .inr (.inl (0, 16, hd 3)))]) P := by
  have kcm1 : (Int32.ofInt (-1)).toInt = -1 := by decide +kernel
  have kc0 : (Int32.ofInt 0).toInt = 0 := by decide +kernel
  have kc1 : (Int32.ofInt 1).toInt = 1 := by decide +kernel
  intro lN
  induction lN with
  | zero =>
    intro i hi hlL R2 go2 L2 hr1 hl2
    refine ex_iload_n cg_45 (ix := 24) (pc' := 39) rfl rfl rfl ?_
    refine ex_if cg_45 (ix := 25) (t := 66) (pc' := 42) rfl rfl rfl (fun hb39 => ?_) (fun hb39 => ?_)
    · have hb39 : i.toInt < 0 := hb39
      exact hP R2 go2 L2 i hr1 hl2
    · have hb39 : ¬ (i.toInt < 0) := hb39
      exfalso; first | omega | exact absurd hb39 (by decide +kernel)
  | succ lN ih =>
    intro i hi hlL R2 go2 L2 hr1 hl2
    have hi : i.toInt = (lN : Int) := by omega
    have hai : (a + i).toInt = ((aN + lN : Nat) : Int) := by
      rw [cx_addc (by omega) (by omega)]
      omega
    refine ex_iload_n cg_45 (ix := 24) (pc' := 39) rfl rfl rfl ?_
    refine ex_if cg_45 (ix := 25) (t := 66) (pc' := 42) rfl rfl rfl (fun hb39 => ?_) (fun hb39 => ?_)
    · have hb39 : i.toInt < 0 := hb39
      exfalso; first | omega | exact absurd hb39 (by decide +kernel)
    · have hb39 : ¬ (i.toInt < 0) := hb39
      refine ex_aload_n cg_45 (ix := 26) (pc' := 43) rfl rfl rfl ?_
      refine ex_iload_n cg_45 (ix := 27) (pc' := 44) rfl rfl rfl ?_
      refine ex_iload_n cg_45 (ix := 28) (pc' := 45) rfl rfl rfl ?_
      refine ex_iload_n cg_45 (ix := 29) (pc' := 46) rfl rfl rfl ?_
      refine ex_iadd cg_45 (ix := 30) (pc' := 47) rfl rfl ?_
      refine ex_callV cg_45 (ix := 31) (pc' := 50) (As := [.inl (.int i), .inl (.int (a + i))]) (r := []) rfl rfl rfl (ct_wr (g := g) (fk := fk) (pf := pf) (pt := pt) (pr := pr) (mi := mi) (cd := cd) (sz := sz) (sp := sp) (th := th) (fo := fo) (go := go2) (la := la) (pl := pl) (R := R2) (L := L2) (hd := hd) (x := i) (y := a + i) (xN := lN) (hN := aN + lN) hth hhd hi (by omega) hai (by omega)) (by first | decide | omega) rfl rfl rfl ⟨rfl, rfl, rfl, rfl, rfl, rfl, rfl, rfl, rfl, rfl, rfl, rfl, rfl, rfl, rfl, rfl, rfl, rfl, rfl, rfl, rfl, rfl, rfl, rfl, rfl, rfl, rfl, rfl, rfl, rfl, rfl, trivial⟩ rfl rfl (fun v h2 hq => ?_)
      obtain ⟨rfl, R3, rfl, hw1, hw2⟩ := hq
      have hR3 : ∀ s : Nat, s < 70 → (R3 lN s).toInt = ((rkE hd e (H - 1 - lN) (cN s) : Nat) : Int) := fun s hs => by
        rw [hw2 s hs]
        unfold rkE
        rw [show e - 1 - (H - 1 - lN) = aN + lN by omega]
      show cx_T _ 45 _ 50 ([some (.inr (.inl 43)), some (.inl (.int a)), some (.inl (.int b)), some (.inl (.int i))], [], [(43, .inl (4, [.inr (.inl 2), .inr (.inl 44), .inr (.inl 45), .inr (.inl 46), .inr (.inl 47), .inr (.inl 48), .inr (.inl 49), .inr (.inl 50), .inr (.inl 57), .inr (.inl 58), .inr (.inl 66), .inr (.inl 67), .inl (.int g), .inl (.int fk), .inl (.int pf), .inl (.int pt), .inl (.int pr)])), (44, .inr (.inl (0, 4, mi))), (45, .inr (.inl (0, 70, cd))), (46, .inr (.inl (0, 70, sz))), (47, .inr (.inl (0, 625, sp))), (48, .inr (.inl (0, 280, th))), (49, .inr (.inl (2, 4900, fo))), (50, .inr (.inr (.inr (3, [51, 52, 53, 54, 55, 56])))), (51, .inr (.inl (0, 70, R3 0))), (52, .inr (.inl (0, 70, R3 1))), (53, .inr (.inl (0, 70, R3 2))), (54, .inr (.inl (0, 70, R3 3))), (55, .inr (.inl (0, 70, R3 4))), (56, .inr (.inl (0, 70, R3 5))), (57, .inr (.inl (0, 350, go2))), (58, .inr (.inr (.inr (3, [59, 60, 61, 62, 63, 64, 65])))), (59, .inr (.inl (0, 350, L2 0))), (60, .inr (.inl (0, 350, L2 1))), (61, .inr (.inl (0, 350, L2 2))), (62, .inr (.inl (0, 350, L2 3))), (63, .inr (.inl (0, 350, L2 4))), (64, .inr (.inl (0, 350, L2 5))), (65, .inr (.inl (0, 350, L2 6))), (66, .inr (.inl (0, 4, la))), (67, .inr (.inl (0, 24, pl))), (2, .inl (8, [.inr (.inl 3), .inr (.inl 4), .inr (.inl 5), .inr (.inl 10)])), (5, .inr (.inr (.inr (3, [6, 7, 8, 9])))), (6, .inr (.inl (0, 16, hd 0))), (7, .inr (.inl (0, 16, hd 1))), (8, .inr (.inl (0, 16, hd 2))), (9, .inr (.inl (0, 16, hd 3)))]) _
      refine ex_aload_n cg_45 (ix := 32) (pc' := 51) rfl rfl rfl ?_
      refine ex_iload_n cg_45 (ix := 33) (pc' := 52) rfl rfl rfl ?_
      refine ex_callV cg_45 (ix := 34) (pc' := 55) (As := [.inl (.int i)]) (r := []) rfl rfl rfl (ct_wg (g := g) (fk := fk) (pf := pf) (pt := pt) (pr := pr) (mi := mi) (cd := cd) (sz := sz) (sp := sp) (th := th) (fo := fo) (go := go2) (la := la) (pl := pl) (R := R3) (L := L2) (hd := hd) (x := i) (xN := lN) (gN := gN) (rkc := rkE hd e (H - 1 - lN)) (Lv := LV (nbF mi) (rkE hd e) gN (H - (lN + 1))) hcd hsz hsp hi (by omega) hg hg4 hR3 (rkE_E _) (rkE_b (by omega) he hhd _) (fun f r h1 h3 => hl2 (lN + 1) f r (Nat.le_refl _) (by omega) h1 h3) (fun f r => Nat.le_trans (LV_b (rkE_b (by omega) he hhd) (by omega)) (by omega))) (by first | decide | omega) rfl rfl rfl ⟨rfl, rfl, rfl, rfl, rfl, rfl, rfl, rfl, rfl, rfl, rfl, rfl, rfl, rfl, rfl, rfl, rfl, rfl, rfl, rfl, rfl, rfl, rfl, rfl, rfl, rfl, rfl, rfl, rfl, rfl, rfl, trivial⟩ rfl rfl (fun v h2 hq => ?_)
      obtain ⟨rfl, go3, rfl, hg3⟩ := hq
      show cx_T _ 45 _ 55 ([some (.inr (.inl 43)), some (.inl (.int a)), some (.inl (.int b)), some (.inl (.int i))], [], [(43, .inl (4, [.inr (.inl 2), .inr (.inl 44), .inr (.inl 45), .inr (.inl 46), .inr (.inl 47), .inr (.inl 48), .inr (.inl 49), .inr (.inl 50), .inr (.inl 57), .inr (.inl 58), .inr (.inl 66), .inr (.inl 67), .inl (.int g), .inl (.int fk), .inl (.int pf), .inl (.int pt), .inl (.int pr)])), (44, .inr (.inl (0, 4, mi))), (45, .inr (.inl (0, 70, cd))), (46, .inr (.inl (0, 70, sz))), (47, .inr (.inl (0, 625, sp))), (48, .inr (.inl (0, 280, th))), (49, .inr (.inl (2, 4900, fo))), (50, .inr (.inr (.inr (3, [51, 52, 53, 54, 55, 56])))), (51, .inr (.inl (0, 70, R3 0))), (52, .inr (.inl (0, 70, R3 1))), (53, .inr (.inl (0, 70, R3 2))), (54, .inr (.inl (0, 70, R3 3))), (55, .inr (.inl (0, 70, R3 4))), (56, .inr (.inl (0, 70, R3 5))), (57, .inr (.inl (0, 350, go3))), (58, .inr (.inr (.inr (3, [59, 60, 61, 62, 63, 64, 65])))), (59, .inr (.inl (0, 350, L2 0))), (60, .inr (.inl (0, 350, L2 1))), (61, .inr (.inl (0, 350, L2 2))), (62, .inr (.inl (0, 350, L2 3))), (63, .inr (.inl (0, 350, L2 4))), (64, .inr (.inl (0, 350, L2 5))), (65, .inr (.inl (0, 350, L2 6))), (66, .inr (.inl (0, 4, la))), (67, .inr (.inl (0, 24, pl))), (2, .inl (8, [.inr (.inl 3), .inr (.inl 4), .inr (.inl 5), .inr (.inl 10)])), (5, .inr (.inr (.inr (3, [6, 7, 8, 9])))), (6, .inr (.inl (0, 16, hd 0))), (7, .inr (.inl (0, 16, hd 1))), (8, .inr (.inl (0, 16, hd 2))), (9, .inr (.inl (0, 16, hd 3)))]) _
      refine ex_aload_n cg_45 (ix := 35) (pc' := 56) rfl rfl rfl ?_
      refine ex_iload_n cg_45 (ix := 36) (pc' := 57) rfl rfl rfl ?_
      refine ex_callV cg_45 (ix := 37) (pc' := 60) (As := [.inl (.int i)]) (r := []) rfl rfl rfl (ct_ws (g := g) (fk := fk) (pf := pf) (pt := pt) (pr := pr) (mi := mi) (cd := cd) (sz := sz) (sp := sp) (th := th) (fo := fo) (go := go3) (la := la) (pl := pl) (R := R3) (L := L2) (hd := hd) (x := i) (xN := lN) (gN := gN) (rkc := rkE hd e (H - 1 - lN)) (Lv := LV (nbF mi) (rkE hd e) gN (H - (lN + 1))) hsz hi (by omega) hg hg4 hfo hg3) (by first | decide | omega) rfl rfl rfl ⟨rfl, rfl, rfl, rfl, rfl, rfl, rfl, rfl, rfl, rfl, rfl, rfl, rfl, rfl, rfl, rfl, rfl, rfl, rfl, rfl, rfl, rfl, rfl, rfl, rfl, rfl, rfl, rfl, rfl, rfl, rfl, trivial⟩ rfl rfl (fun v h2 hq => ?_)
      obtain ⟨rfl, L3, rfl, hs1, hs2⟩ := hq
      show cx_T _ 45 _ 60 ([some (.inr (.inl 43)), some (.inl (.int a)), some (.inl (.int b)), some (.inl (.int i))], [], [(43, .inl (4, [.inr (.inl 2), .inr (.inl 44), .inr (.inl 45), .inr (.inl 46), .inr (.inl 47), .inr (.inl 48), .inr (.inl 49), .inr (.inl 50), .inr (.inl 57), .inr (.inl 58), .inr (.inl 66), .inr (.inl 67), .inl (.int g), .inl (.int fk), .inl (.int pf), .inl (.int pt), .inl (.int pr)])), (44, .inr (.inl (0, 4, mi))), (45, .inr (.inl (0, 70, cd))), (46, .inr (.inl (0, 70, sz))), (47, .inr (.inl (0, 625, sp))), (48, .inr (.inl (0, 280, th))), (49, .inr (.inl (2, 4900, fo))), (50, .inr (.inr (.inr (3, [51, 52, 53, 54, 55, 56])))), (51, .inr (.inl (0, 70, R3 0))), (52, .inr (.inl (0, 70, R3 1))), (53, .inr (.inl (0, 70, R3 2))), (54, .inr (.inl (0, 70, R3 3))), (55, .inr (.inl (0, 70, R3 4))), (56, .inr (.inl (0, 70, R3 5))), (57, .inr (.inl (0, 350, go3))), (58, .inr (.inr (.inr (3, [59, 60, 61, 62, 63, 64, 65])))), (59, .inr (.inl (0, 350, L3 0))), (60, .inr (.inl (0, 350, L3 1))), (61, .inr (.inl (0, 350, L3 2))), (62, .inr (.inl (0, 350, L3 3))), (63, .inr (.inl (0, 350, L3 4))), (64, .inr (.inl (0, 350, L3 5))), (65, .inr (.inl (0, 350, L3 6))), (66, .inr (.inl (0, 4, la))), (67, .inr (.inl (0, 24, pl))), (2, .inl (8, [.inr (.inl 3), .inr (.inl 4), .inr (.inl 5), .inr (.inl 10)])), (5, .inr (.inr (.inr (3, [6, 7, 8, 9])))), (6, .inr (.inl (0, 16, hd 0))), (7, .inr (.inl (0, 16, hd 1))), (8, .inr (.inl (0, 16, hd 2))), (9, .inr (.inl (0, 16, hd 3)))]) _
      refine ex_iinc cg_45 (ix := 38) (pc' := 63) (L' := [some (.inr (.inl 43)), some (.inl (.int a)), some (.inl (.int b)), some (.inl (.int (i + Int32.ofInt (-1))))]) rfl rfl rfl rfl rfl ?_
      refine ex_goto cg_45 (ix := 39) (pc' := 38) rfl rfl ?_
      refine ih _ (by rw [cx_addc (by omega) (by omega)]; omega) (by omega) R3 go3 L3 (fun j s h1 h3 h4 => ?_) (fun j f r h1 h3 h4 h5 => ?_)
      · by_cases q : j = lN
        · rw [q]; exact hR3 s h4
        · rw [hw1 j q]; exact hr1 j s (by omega) h3 h4
      · by_cases q : j = lN
        · rw [q, hs2 f r h4 h5, show H - lN = H - (lN + 1) + 1 by omega, LV_s, show H - (lN + 1) = H - 1 - lN by omega]
        · rw [hs1 j q]; exact hl2 j f r (by omega) h3 h4 h5
theorem ct_lr {g fk pf pt pr : Int32} {mi cd sz sp th fo go la pl : Nat → Int32} {R L hd : Nat → Nat → Int32} {a b : Int32} {aN e H gN : Nat} (hth : thH th) (hcd : cdH cd) (hsz : szH sz) (hsp : spH sp) (hmi : miH mi) (hhd : hdH hd) (ha : a.toInt = (aN : Int)) (hb : b.toInt + 1 = (e : Int)) (hH : aN + H = e) (hH1 : 1 ≤ H) (hH6 : H ≤ 6) (he : e ≤ 16) (hg : g.toInt = (gN : Int)) (hg4 : gN ≤ 4) (hfk : ¬ fk.toInt = 0 → tbH mi fo) (h00 : ∀ q : Nat, 1 ≤ q → q < 70 → fo q = Int32.ofInt 0) (hpl0 : plU pl) : cx_Ct 10 45 [.inr (.inl 43), .inl (.int a), .inl (.int b)] (h_ro g fk pf pt pr mi cd sz sp th fo go la pl R L hd) (fun v h2 => ∃ z : Int32, v = some (.inl (.int z)) ∧ ((pf.toInt = a.toInt ∧ pt.toInt = b.toInt ∧ z = pr ∧ h2 = h_ro g fk pf pt pr mi cd sz sp th fo go la pl R L hd) ∨ (¬ (pf.toInt = a.toInt ∧ pt.toInt = b.toInt) ∧ z.toInt = ((LV (nbF mi) (rkE hd e) gN H 0 gN : Nat) : Int) ∧ ∃ (fk2 : Int32) (fo2 go2 lx px : Nat → Int32) (R2 L2 : Nat → Nat → Int32), h2 = h_ro g fk2 a b z mi cd sz sp th fo2 go2 lx px R2 L2 hd ∧ (fk2 = fk ∨ fk2 = Int32.ofInt 1) ∧ ¬ fk2.toInt = 0 ∧ tbH mi fo2 ∧ plU px ∧ (∀ i : Nat, i < 4 → 0 ≤ (lx i).toInt ∧ (lx i).toInt ≤ 5) ∧ ∃ SS TS : Nat → Nat → Nat, planP (nbF mi) (rkE hd e) gN H SS TS H ∧ ∀ j i : Nat, j < H → i < gN → (px (4 * j + i)).toInt = rpv (TS j i)))) := by
  have kcm1 : (Int32.ofInt (-1)).toInt = -1 := by decide +kernel
  have kc0 : (Int32.ofInt 0).toInt = 0 := by decide +kernel
  have kc1 : (Int32.ofInt 1).toInt = 1 := by decide +kernel
  have hba : (b - a).toInt + 1 = (H : Int) := by
    rw [cx_subc (by omega) (by omega)]
    omega
  have hba1 : (b - a + Int32.ofInt 1).toInt = (H : Int) := by
    rw [cx_addc (by omega) (by omega)]
    omega
  refine cx_Ct.of cg_45 (nL := 4) rfl rfl rfl ?_
  show cx_T 10 45 [43, 44, 45, 46, 47, 48, 49, 50, 51, 52, 53, 54, 55, 56, 57, 58, 59, 60, 61, 62, 63, 64, 65, 66, 67, 2, 5, 6, 7, 8, 9] 0 ([some (.inr (.inl 43)), some (.inl (.int a)), some (.inl (.int b)), none], [], (h_ro g fk pf pt pr mi cd sz sp th fo go la pl R L hd)) _
  refine ex_aload_n cg_45 (ix := 0) (pc' := 1) rfl rfl rfl ?_
  refine ex_getfield cg_45 (ix := 1) (pc' := 4) rfl rfl rfl rfl rfl ?_
  refine ex_iload_n cg_45 (ix := 2) (pc' := 5) rfl rfl rfl ?_
  refine ex_icmp cg_45 (ix := 3) (t := 16) (pc' := 8) rfl rfl rfl (fun hb5 => ?_) (fun hb5 => ?_)
  · have hb5 : ¬ pf.toInt = a.toInt := hb5
    have hnc : ¬ (pf.toInt = a.toInt ∧ pt.toInt = b.toInt) := fun q => by
      first
      | exact hb5 q.1
      | exact hb13 q.2
      | omega
    refine ex_aload_n cg_45 (ix := 8) (pc' := 17) rfl rfl rfl ?_
    refine ex_callV cg_45 (ix := 9) (pc' := 20) (As := []) (r := []) rfl rfl rfl (ct_ff (g := g) (fk := fk) (pf := pf) (pt := pt) (pr := pr) (mi := mi) (cd := cd) (sz := sz) (sp := sp) (th := th) (fo := fo) hth hcd hsz hsp hmi hfk h00) (by first | decide | omega) rfl rfl rfl ⟨rfl, rfl, rfl, rfl, rfl, rfl, rfl, trivial⟩ rfl rfl (fun v h2 hq => ?_)
    obtain ⟨rfl, fo2, fk2, rfl, hfk2, hfk3, hfo2⟩ := hq
    show cx_T _ 45 _ 20 ([some (.inr (.inl 43)), some (.inl (.int a)), some (.inl (.int b)), none], [], [(43, .inl (4, [.inr (.inl 2), .inr (.inl 44), .inr (.inl 45), .inr (.inl 46), .inr (.inl 47), .inr (.inl 48), .inr (.inl 49), .inr (.inl 50), .inr (.inl 57), .inr (.inl 58), .inr (.inl 66), .inr (.inl 67), .inl (.int g), .inl (.int fk2), .inl (.int pf), .inl (.int pt), .inl (.int pr)])), (44, .inr (.inl (0, 4, mi))), (45, .inr (.inl (0, 70, cd))), (46, .inr (.inl (0, 70, sz))), (47, .inr (.inl (0, 625, sp))), (48, .inr (.inl (0, 280, th))), (49, .inr (.inl (2, 4900, fo2))), (50, .inr (.inr (.inr (3, [51, 52, 53, 54, 55, 56])))), (51, .inr (.inl (0, 70, R 0))), (52, .inr (.inl (0, 70, R 1))), (53, .inr (.inl (0, 70, R 2))), (54, .inr (.inl (0, 70, R 3))), (55, .inr (.inl (0, 70, R 4))), (56, .inr (.inl (0, 70, R 5))), (57, .inr (.inl (0, 350, go))), (58, .inr (.inr (.inr (3, [59, 60, 61, 62, 63, 64, 65])))), (59, .inr (.inl (0, 350, L 0))), (60, .inr (.inl (0, 350, L 1))), (61, .inr (.inl (0, 350, L 2))), (62, .inr (.inl (0, 350, L 3))), (63, .inr (.inl (0, 350, L 4))), (64, .inr (.inl (0, 350, L 5))), (65, .inr (.inl (0, 350, L 6))), (66, .inr (.inl (0, 4, la))), (67, .inr (.inl (0, 24, pl))), (2, .inl (8, [.inr (.inl 3), .inr (.inl 4), .inr (.inl 5), .inr (.inl 10)])), (5, .inr (.inr (.inr (3, [6, 7, 8, 9])))), (6, .inr (.inl (0, 16, hd 0))), (7, .inr (.inl (0, 16, hd 1))), (8, .inr (.inl (0, 16, hd 2))), (9, .inr (.inl (0, 16, hd 3)))]) _
    refine ex_aload_n cg_45 (ix := 10) (pc' := 21) rfl rfl rfl ?_
    refine ex_getfield cg_45 (ix := 11) (pc' := 24) rfl rfl rfl rfl rfl ?_
    refine ex_iload_n cg_45 (ix := 12) (pc' := 25) rfl rfl rfl ?_
    refine ex_iload_n cg_45 (ix := 13) (pc' := 26) rfl rfl rfl ?_
    refine ex_isub cg_45 (ix := 14) (pc' := 27) rfl rfl ?_
    refine ex_iconst cg_45 (ix := 15) (pc' := 28) rfl rfl ?_
    refine ex_iadd cg_45 (ix := 16) (pc' := 29) rfl rfl ?_
    refine ex_aaload cg_45 (ix := 17) (pc' := 30) (k1 := (59 + H)) rfl rfl (by omega) (ll_ix (by omega) hba1) rfl ?_
    refine ex_iconst cg_45 (ix := 18) (pc' := 31) rfl rfl ?_
    refine ex_fillI cg_45 (ix := 19) (pc' := 34) (h' := [(43, .inl (4, [.inr (.inl 2), .inr (.inl 44), .inr (.inl 45), .inr (.inl 46), .inr (.inl 47), .inr (.inl 48), .inr (.inl 49), .inr (.inl 50), .inr (.inl 57), .inr (.inl 58), .inr (.inl 66), .inr (.inl 67), .inl (.int g), .inl (.int fk2), .inl (.int pf), .inl (.int pt), .inl (.int pr)])), (44, .inr (.inl (0, 4, mi))), (45, .inr (.inl (0, 70, cd))), (46, .inr (.inl (0, 70, sz))), (47, .inr (.inl (0, 625, sp))), (48, .inr (.inl (0, 280, th))), (49, .inr (.inl (2, 4900, fo2))), (50, .inr (.inr (.inr (3, [51, 52, 53, 54, 55, 56])))), (51, .inr (.inl (0, 70, R 0))), (52, .inr (.inl (0, 70, R 1))), (53, .inr (.inl (0, 70, R 2))), (54, .inr (.inl (0, 70, R 3))), (55, .inr (.inl (0, 70, R 4))), (56, .inr (.inl (0, 70, R 5))), (57, .inr (.inl (0, 350, go))), (58, .inr (.inr (.inr (3, [59, 60, 61, 62, 63, 64, 65])))), (59, .inr (.inl (0, 350, (up2 L H (fun i => if i < 350 then (Int32.ofInt 0) else (L H) i)) 0))), (60, .inr (.inl (0, 350, (up2 L H (fun i => if i < 350 then (Int32.ofInt 0) else (L H) i)) 1))), (61, .inr (.inl (0, 350, (up2 L H (fun i => if i < 350 then (Int32.ofInt 0) else (L H) i)) 2))), (62, .inr (.inl (0, 350, (up2 L H (fun i => if i < 350 then (Int32.ofInt 0) else (L H) i)) 3))), (63, .inr (.inl (0, 350, (up2 L H (fun i => if i < 350 then (Int32.ofInt 0) else (L H) i)) 4))), (64, .inr (.inl (0, 350, (up2 L H (fun i => if i < 350 then (Int32.ofInt 0) else (L H) i)) 5))), (65, .inr (.inl (0, 350, (up2 L H (fun i => if i < 350 then (Int32.ofInt 0) else (L H) i)) 6))), (66, .inr (.inl (0, 4, la))), (67, .inr (.inl (0, 24, pl))), (2, .inl (8, [.inr (.inl 3), .inr (.inl 4), .inr (.inl 5), .inr (.inl 10)])), (5, .inr (.inr (.inr (3, [6, 7, 8, 9])))), (6, .inr (.inl (0, 16, hd 0))), (7, .inr (.inl (0, 16, hd 1))), (8, .inr (.inl (0, 16, hd 2))), (9, .inr (.inl (0, 16, hd 3)))]) rfl rfl (by first | decide | omega) rfl (ll_get (V := L) (by omega)) rfl (ll_set (V := L) (by omega)) rfl ?_
    refine ex_iload_n cg_45 (ix := 20) (pc' := 35) rfl rfl rfl ?_
    refine ex_iload_n cg_45 (ix := 21) (pc' := 36) rfl rfl rfl ?_
    refine ex_isub cg_45 (ix := 22) (pc' := 37) rfl rfl ?_
    refine ex_istore_n cg_45 (ix := 23) (pc' := 38) (L' := [some (.inr (.inl 43)), some (.inl (.int a)), some (.inl (.int b)), some (.inl (.int (b - a)))]) rfl rfl rfl rfl ?_
    refine lr_loop (g := g) (fk := fk2) (pf := pf) (pt := pt) (pr := pr) (mi := mi) (cd := cd) (sz := sz) (sp := sp) (th := th) (fo := fo2) (go := go) (la := la) (pl := pl) (R := R) (L := L) (hd := hd) (a := a) (b := b) (aN := aN) (e := e) (H := H) (gN := gN) hth hcd hsz hsp hmi hhd ha hb hH hH1 hH6 he hg hg4 hfo2 (P := fun v h2 => ∃ z : Int32, v = some (.inl (.int z)) ∧ ((pf.toInt = a.toInt ∧ pt.toInt = b.toInt ∧ z = pr ∧ h2 = h_ro g fk pf pt pr mi cd sz sp th fo go la pl R L hd) ∨ (¬ (pf.toInt = a.toInt ∧ pt.toInt = b.toInt) ∧ z.toInt = ((LV (nbF mi) (rkE hd e) gN H 0 gN : Nat) : Int) ∧ ∃ (fk2 : Int32) (fo2 go2 lx px : Nat → Int32) (R2 L2 : Nat → Nat → Int32), h2 = h_ro g fk2 a b z mi cd sz sp th fo2 go2 lx px R2 L2 hd ∧ (fk2 = fk ∨ fk2 = Int32.ofInt 1) ∧ ¬ fk2.toInt = 0 ∧ tbH mi fo2 ∧ plU px ∧ (∀ i : Nat, i < 4 → 0 ≤ (lx i).toInt ∧ (lx i).toInt ≤ 5) ∧ ∃ SS TS : Nat → Nat → Nat, planP (nbF mi) (rkE hd e) gN H SS TS H ∧ ∀ j i : Nat, j < H → i < gN → (px (4 * j + i)).toInt = rpv (TS j i)))) (fun R2 go2 L2 i hr1 hl2 => ?_) H (b - a) (by omega) (Nat.le_refl _) R go _ (fun j s h1 h3 => absurd h3 (by omega)) (fun j f r h1 h3 h4 h5 => ?_)
    · skip
      refine ex_aload_n cg_45 (ix := 40) (pc' := 67) rfl rfl rfl ?_
      refine ex_aload_n cg_45 (ix := 41) (pc' := 68) rfl rfl rfl ?_
      refine ex_getfield cg_45 (ix := 42) (pc' := 71) rfl rfl rfl rfl rfl ?_
      refine ex_iconst cg_45 (ix := 43) (pc' := 72) rfl rfl ?_
      refine ex_aaload cg_45 (ix := 44) (pc' := 73) (k1 := 59) rfl rfl (by decide +kernel) (by decide +kernel) rfl ?_
      refine ex_aload_n cg_45 (ix := 45) (pc' := 74) rfl rfl rfl ?_
      refine ex_getfield cg_45 (ix := 46) (pc' := 77) rfl rfl rfl rfl rfl ?_
      have hpr : (L2 0 g.toNatClampNeg).toInt = ((LV (nbF mi) (rkE hd e) gN H 0 gN : Nat) : Int) := by
        have q := hl2 0 0 gN (Nat.le_refl _) (Nat.zero_le _) (by omega) (by rw [szN_e]; show 0 + gN ≤ gN; omega)
        rw [Nat.mul_zero, Nat.zero_add, Nat.sub_zero] at q
        rw [cx_clamp hg]
        exact q
      refine ex_iaload cg_45 (ix := 47) (pc' := 78) rfl rfl (by omega) (by omega) rfl ?_
      refine ex_putfield cg_45 (ix := 48) (pc' := 81) (h' := [(43, .inl (4, [.inr (.inl 2), .inr (.inl 44), .inr (.inl 45), .inr (.inl 46), .inr (.inl 47), .inr (.inl 48), .inr (.inl 49), .inr (.inl 50), .inr (.inl 57), .inr (.inl 58), .inr (.inl 66), .inr (.inl 67), .inl (.int g), .inl (.int fk2), .inl (.int pf), .inl (.int pt), .inl (.int ((L2 0) g.toNatClampNeg))])), (44, .inr (.inl (0, 4, mi))), (45, .inr (.inl (0, 70, cd))), (46, .inr (.inl (0, 70, sz))), (47, .inr (.inl (0, 625, sp))), (48, .inr (.inl (0, 280, th))), (49, .inr (.inl (2, 4900, fo2))), (50, .inr (.inr (.inr (3, [51, 52, 53, 54, 55, 56])))), (51, .inr (.inl (0, 70, R2 0))), (52, .inr (.inl (0, 70, R2 1))), (53, .inr (.inl (0, 70, R2 2))), (54, .inr (.inl (0, 70, R2 3))), (55, .inr (.inl (0, 70, R2 4))), (56, .inr (.inl (0, 70, R2 5))), (57, .inr (.inl (0, 350, go2))), (58, .inr (.inr (.inr (3, [59, 60, 61, 62, 63, 64, 65])))), (59, .inr (.inl (0, 350, L2 0))), (60, .inr (.inl (0, 350, L2 1))), (61, .inr (.inl (0, 350, L2 2))), (62, .inr (.inl (0, 350, L2 3))), (63, .inr (.inl (0, 350, L2 4))), (64, .inr (.inl (0, 350, L2 5))), (65, .inr (.inl (0, 350, L2 6))), (66, .inr (.inl (0, 4, la))), (67, .inr (.inl (0, 24, pl))), (2, .inl (8, [.inr (.inl 3), .inr (.inl 4), .inr (.inl 5), .inr (.inl 10)])), (5, .inr (.inr (.inr (3, [6, 7, 8, 9])))), (6, .inr (.inl (0, 16, hd 0))), (7, .inr (.inl (0, 16, hd 1))), (8, .inr (.inl (0, 16, hd 2))), (9, .inr (.inl (0, 16, hd 3)))]) rfl rfl rfl rfl rfl rfl rfl rfl ?_
      refine ex_aload_n cg_45 (ix := 49) (pc' := 82) rfl rfl rfl ?_
      refine ex_iload_n cg_45 (ix := 50) (pc' := 83) rfl rfl rfl ?_
      refine ex_iload_n cg_45 (ix := 51) (pc' := 84) rfl rfl rfl ?_
      refine ex_isub cg_45 (ix := 52) (pc' := 85) rfl rfl ?_
      refine ex_callV cg_45 (ix := 53) (pc' := 88) (As := [.inl (.int (b - a))]) (r := []) rfl rfl rfl (ct_pa (g := g) (fk := fk2) (pf := pf) (pt := pt) (pr := L2 0 g.toNatClampNeg) (mi := mi) (cd := cd) (sz := sz) (sp := sp) (th := th) (fo := fo2) (go := go2) (la := la) (pl := pl) (R := R2) (L := L2) (hd := hd) (x := b - a) (gN := gN) (H := H) (rk := rkE hd e) hsz hsp hmi hba hH6 hg hg4 (fun j s h1 h3 => hr1 j s (Nat.zero_le _) h1 h3) rkE_E (rkE_b (by omega) he hhd) (fun j f r h1 h3 h4 => hl2 j f r (Nat.zero_le _) h1 h3 h4) hpr hpl0) (by first | decide | omega) rfl rfl rfl ⟨rfl, rfl, rfl, rfl, rfl, rfl, rfl, rfl, rfl, rfl, rfl, rfl, rfl, rfl, rfl, rfl, rfl, rfl, rfl, rfl, rfl, rfl, rfl, rfl, rfl, rfl, rfl, rfl, rfl, rfl, rfl, trivial⟩ rfl rfl (fun v h2 hq => ?_)
      obtain ⟨rfl, lx, px, rfl, hpx0, hl5, SS, TS, hpl2, hpx2⟩ := hq
      show cx_T _ 45 _ 88 ([some (.inr (.inl 43)), some (.inl (.int a)), some (.inl (.int b)), some (.inl (.int i))], [], [(43, .inl (4, [.inr (.inl 2), .inr (.inl 44), .inr (.inl 45), .inr (.inl 46), .inr (.inl 47), .inr (.inl 48), .inr (.inl 49), .inr (.inl 50), .inr (.inl 57), .inr (.inl 58), .inr (.inl 66), .inr (.inl 67), .inl (.int g), .inl (.int fk2), .inl (.int pf), .inl (.int pt), .inl (.int (L2 0 g.toNatClampNeg))])), (44, .inr (.inl (0, 4, mi))), (45, .inr (.inl (0, 70, cd))), (46, .inr (.inl (0, 70, sz))), (47, .inr (.inl (0, 625, sp))), (48, .inr (.inl (0, 280, th))), (49, .inr (.inl (2, 4900, fo2))), (50, .inr (.inr (.inr (3, [51, 52, 53, 54, 55, 56])))), (51, .inr (.inl (0, 70, R2 0))), (52, .inr (.inl (0, 70, R2 1))), (53, .inr (.inl (0, 70, R2 2))), (54, .inr (.inl (0, 70, R2 3))), (55, .inr (.inl (0, 70, R2 4))), (56, .inr (.inl (0, 70, R2 5))), (57, .inr (.inl (0, 350, go2))), (58, .inr (.inr (.inr (3, [59, 60, 61, 62, 63, 64, 65])))), (59, .inr (.inl (0, 350, L2 0))), (60, .inr (.inl (0, 350, L2 1))), (61, .inr (.inl (0, 350, L2 2))), (62, .inr (.inl (0, 350, L2 3))), (63, .inr (.inl (0, 350, L2 4))), (64, .inr (.inl (0, 350, L2 5))), (65, .inr (.inl (0, 350, L2 6))), (66, .inr (.inl (0, 4, lx))), (67, .inr (.inl (0, 24, px))), (2, .inl (8, [.inr (.inl 3), .inr (.inl 4), .inr (.inl 5), .inr (.inl 10)])), (5, .inr (.inr (.inr (3, [6, 7, 8, 9])))), (6, .inr (.inl (0, 16, hd 0))), (7, .inr (.inl (0, 16, hd 1))), (8, .inr (.inl (0, 16, hd 2))), (9, .inr (.inl (0, 16, hd 3)))]) _
      refine ex_aload_n cg_45 (ix := 54) (pc' := 89) rfl rfl rfl ?_
      refine ex_iload_n cg_45 (ix := 55) (pc' := 90) rfl rfl rfl ?_
      refine ex_putfield cg_45 (ix := 56) (pc' := 93) (h' := [(43, .inl (4, [.inr (.inl 2), .inr (.inl 44), .inr (.inl 45), .inr (.inl 46), .inr (.inl 47), .inr (.inl 48), .inr (.inl 49), .inr (.inl 50), .inr (.inl 57), .inr (.inl 58), .inr (.inl 66), .inr (.inl 67), .inl (.int g), .inl (.int fk2), .inl (.int a), .inl (.int pt), .inl (.int (L2 0 g.toNatClampNeg))])), (44, .inr (.inl (0, 4, mi))), (45, .inr (.inl (0, 70, cd))), (46, .inr (.inl (0, 70, sz))), (47, .inr (.inl (0, 625, sp))), (48, .inr (.inl (0, 280, th))), (49, .inr (.inl (2, 4900, fo2))), (50, .inr (.inr (.inr (3, [51, 52, 53, 54, 55, 56])))), (51, .inr (.inl (0, 70, R2 0))), (52, .inr (.inl (0, 70, R2 1))), (53, .inr (.inl (0, 70, R2 2))), (54, .inr (.inl (0, 70, R2 3))), (55, .inr (.inl (0, 70, R2 4))), (56, .inr (.inl (0, 70, R2 5))), (57, .inr (.inl (0, 350, go2))), (58, .inr (.inr (.inr (3, [59, 60, 61, 62, 63, 64, 65])))), (59, .inr (.inl (0, 350, L2 0))), (60, .inr (.inl (0, 350, L2 1))), (61, .inr (.inl (0, 350, L2 2))), (62, .inr (.inl (0, 350, L2 3))), (63, .inr (.inl (0, 350, L2 4))), (64, .inr (.inl (0, 350, L2 5))), (65, .inr (.inl (0, 350, L2 6))), (66, .inr (.inl (0, 4, lx))), (67, .inr (.inl (0, 24, px))), (2, .inl (8, [.inr (.inl 3), .inr (.inl 4), .inr (.inl 5), .inr (.inl 10)])), (5, .inr (.inr (.inr (3, [6, 7, 8, 9])))), (6, .inr (.inl (0, 16, hd 0))), (7, .inr (.inl (0, 16, hd 1))), (8, .inr (.inl (0, 16, hd 2))), (9, .inr (.inl (0, 16, hd 3)))]) rfl rfl rfl rfl rfl rfl rfl rfl ?_
      refine ex_aload_n cg_45 (ix := 57) (pc' := 94) rfl rfl rfl ?_
      refine ex_iload_n cg_45 (ix := 58) (pc' := 95) rfl rfl rfl ?_
      refine ex_putfield cg_45 (ix := 59) (pc' := 98) (h' := [(43, .inl (4, [.inr (.inl 2), .inr (.inl 44), .inr (.inl 45), .inr (.inl 46), .inr (.inl 47), .inr (.inl 48), .inr (.inl 49), .inr (.inl 50), .inr (.inl 57), .inr (.inl 58), .inr (.inl 66), .inr (.inl 67), .inl (.int g), .inl (.int fk2), .inl (.int a), .inl (.int b), .inl (.int (L2 0 g.toNatClampNeg))])), (44, .inr (.inl (0, 4, mi))), (45, .inr (.inl (0, 70, cd))), (46, .inr (.inl (0, 70, sz))), (47, .inr (.inl (0, 625, sp))), (48, .inr (.inl (0, 280, th))), (49, .inr (.inl (2, 4900, fo2))), (50, .inr (.inr (.inr (3, [51, 52, 53, 54, 55, 56])))), (51, .inr (.inl (0, 70, R2 0))), (52, .inr (.inl (0, 70, R2 1))), (53, .inr (.inl (0, 70, R2 2))), (54, .inr (.inl (0, 70, R2 3))), (55, .inr (.inl (0, 70, R2 4))), (56, .inr (.inl (0, 70, R2 5))), (57, .inr (.inl (0, 350, go2))), (58, .inr (.inr (.inr (3, [59, 60, 61, 62, 63, 64, 65])))), (59, .inr (.inl (0, 350, L2 0))), (60, .inr (.inl (0, 350, L2 1))), (61, .inr (.inl (0, 350, L2 2))), (62, .inr (.inl (0, 350, L2 3))), (63, .inr (.inl (0, 350, L2 4))), (64, .inr (.inl (0, 350, L2 5))), (65, .inr (.inl (0, 350, L2 6))), (66, .inr (.inl (0, 4, lx))), (67, .inr (.inl (0, 24, px))), (2, .inl (8, [.inr (.inl 3), .inr (.inl 4), .inr (.inl 5), .inr (.inl 10)])), (5, .inr (.inr (.inr (3, [6, 7, 8, 9])))), (6, .inr (.inl (0, 16, hd 0))), (7, .inr (.inl (0, 16, hd 1))), (8, .inr (.inl (0, 16, hd 2))), (9, .inr (.inl (0, 16, hd 3)))]) rfl rfl rfl rfl rfl rfl rfl rfl ?_
      refine ex_aload_n cg_45 (ix := 60) (pc' := 99) rfl rfl rfl ?_
      refine ex_getfield cg_45 (ix := 61) (pc' := 102) rfl rfl rfl rfl rfl ?_
      refine ex_ireturn cg_45 (ix := 62) rfl ?_
      refine ⟨_, rfl, Or.inr ⟨hnc, hpr, fk2, fo2, go2, lx, px, R2, L2, rfl, hfk2, hfk3, hfo2, hpx0, hl5, SS, TS, hpl2, hpx2⟩⟩
    · have ej : j = H := by omega
      have hr4 := (sp_sz h4).2.2.2
      rw [ej, up2_me, Nat.sub_self, LV]
      show (if 5 * f + r < 350 then Int32.ofInt 0 else L H (5 * f + r)).toInt = ((0 : Nat) : Int)
      rw [if_pos (by omega)]
      exact kc0
  · have hb5 : ¬ (¬ pf.toInt = a.toInt) := hb5
    refine ex_aload_n cg_45 (ix := 4) (pc' := 9) rfl rfl rfl ?_
    refine ex_getfield cg_45 (ix := 5) (pc' := 12) rfl rfl rfl rfl rfl ?_
    refine ex_iload_n cg_45 (ix := 6) (pc' := 13) rfl rfl rfl ?_
    refine ex_icmp cg_45 (ix := 7) (t := 98) (pc' := 16) rfl rfl rfl (fun hb13 => ?_) (fun hb13 => ?_)
    · have hb13 : pt.toInt = b.toInt := hb13
      refine ex_aload_n cg_45 (ix := 60) (pc' := 99) rfl rfl rfl ?_
      refine ex_getfield cg_45 (ix := 61) (pc' := 102) rfl rfl rfl rfl rfl ?_
      refine ex_ireturn cg_45 (ix := 62) rfl ?_
      exact ⟨pr, rfl, Or.inl ⟨by omega, by omega, rfl, rfl⟩⟩
    · have hb13 : ¬ (pt.toInt = b.toInt) := hb13
      have hnc : ¬ (pf.toInt = a.toInt ∧ pt.toInt = b.toInt) := fun q => by
        first
        | exact hb5 q.1
        | exact hb13 q.2
        | omega
      refine ex_aload_n cg_45 (ix := 8) (pc' := 17) rfl rfl rfl ?_
      refine ex_callV cg_45 (ix := 9) (pc' := 20) (As := []) (r := []) rfl rfl rfl (ct_ff (g := g) (fk := fk) (pf := pf) (pt := pt) (pr := pr) (mi := mi) (cd := cd) (sz := sz) (sp := sp) (th := th) (fo := fo) hth hcd hsz hsp hmi hfk h00) (by first | decide | omega) rfl rfl rfl ⟨rfl, rfl, rfl, rfl, rfl, rfl, rfl, trivial⟩ rfl rfl (fun v h2 hq => ?_)
      obtain ⟨rfl, fo2, fk2, rfl, hfk2, hfk3, hfo2⟩ := hq
      show cx_T _ 45 _ 20 ([some (.inr (.inl 43)), some (.inl (.int a)), some (.inl (.int b)), none], [], [(43, .inl (4, [.inr (.inl 2), .inr (.inl 44), .inr (.inl 45), .inr (.inl 46), .inr (.inl 47), .inr (.inl 48), .inr (.inl 49), .inr (.inl 50), .inr (.inl 57), .inr (.inl 58), .inr (.inl 66), .inr (.inl 67), .inl (.int g), .inl (.int fk2), .inl (.int pf), .inl (.int pt), .inl (.int pr)])), (44, .inr (.inl (0, 4, mi))), (45, .inr (.inl (0, 70, cd))), (46, .inr (.inl (0, 70, sz))), (47, .inr (.inl (0, 625, sp))), (48, .inr (.inl (0, 280, th))), (49, .inr (.inl (2, 4900, fo2))), (50, .inr (.inr (.inr (3, [51, 52, 53, 54, 55, 56])))), (51, .inr (.inl (0, 70, R 0))), (52, .inr (.inl (0, 70, R 1))), (53, .inr (.inl (0, 70, R 2))), (54, .inr (.inl (0, 70, R 3))), (55, .inr (.inl (0, 70, R 4))), (56, .inr (.inl (0, 70, R 5))), (57, .inr (.inl (0, 350, go))), (58, .inr (.inr (.inr (3, [59, 60, 61, 62, 63, 64, 65])))), (59, .inr (.inl (0, 350, L 0))), (60, .inr (.inl (0, 350, L 1))), (61, .inr (.inl (0, 350, L 2))), (62, .inr (.inl (0, 350, L 3))), (63, .inr (.inl (0, 350, L 4))), (64, .inr (.inl (0, 350, L 5))), (65, .inr (.inl (0, 350, L 6))), (66, .inr (.inl (0, 4, la))), (67, .inr (.inl (0, 24, pl))), (2, .inl (8, [.inr (.inl 3), .inr (.inl 4), .inr (.inl 5), .inr (.inl 10)])), (5, .inr (.inr (.inr (3, [6, 7, 8, 9])))), (6, .inr (.inl (0, 16, hd 0))), (7, .inr (.inl (0, 16, hd 1))), (8, .inr (.inl (0, 16, hd 2))), (9, .inr (.inl (0, 16, hd 3)))]) _
      refine ex_aload_n cg_45 (ix := 10) (pc' := 21) rfl rfl rfl ?_
      refine ex_getfield cg_45 (ix := 11) (pc' := 24) rfl rfl rfl rfl rfl ?_
      refine ex_iload_n cg_45 (ix := 12) (pc' := 25) rfl rfl rfl ?_
      refine ex_iload_n cg_45 (ix := 13) (pc' := 26) rfl rfl rfl ?_
      refine ex_isub cg_45 (ix := 14) (pc' := 27) rfl rfl ?_
      refine ex_iconst cg_45 (ix := 15) (pc' := 28) rfl rfl ?_
      refine ex_iadd cg_45 (ix := 16) (pc' := 29) rfl rfl ?_
      refine ex_aaload cg_45 (ix := 17) (pc' := 30) (k1 := (59 + H)) rfl rfl (by omega) (ll_ix (by omega) hba1) rfl ?_
      refine ex_iconst cg_45 (ix := 18) (pc' := 31) rfl rfl ?_
      refine ex_fillI cg_45 (ix := 19) (pc' := 34) (h' := [(43, .inl (4, [.inr (.inl 2), .inr (.inl 44), .inr (.inl 45), .inr (.inl 46), .inr (.inl 47), .inr (.inl 48), .inr (.inl 49), .inr (.inl 50), .inr (.inl 57), .inr (.inl 58), .inr (.inl 66), .inr (.inl 67), .inl (.int g), .inl (.int fk2), .inl (.int pf), .inl (.int pt), .inl (.int pr)])), (44, .inr (.inl (0, 4, mi))), (45, .inr (.inl (0, 70, cd))), (46, .inr (.inl (0, 70, sz))), (47, .inr (.inl (0, 625, sp))), (48, .inr (.inl (0, 280, th))), (49, .inr (.inl (2, 4900, fo2))), (50, .inr (.inr (.inr (3, [51, 52, 53, 54, 55, 56])))), (51, .inr (.inl (0, 70, R 0))), (52, .inr (.inl (0, 70, R 1))), (53, .inr (.inl (0, 70, R 2))), (54, .inr (.inl (0, 70, R 3))), (55, .inr (.inl (0, 70, R 4))), (56, .inr (.inl (0, 70, R 5))), (57, .inr (.inl (0, 350, go))), (58, .inr (.inr (.inr (3, [59, 60, 61, 62, 63, 64, 65])))), (59, .inr (.inl (0, 350, (up2 L H (fun i => if i < 350 then (Int32.ofInt 0) else (L H) i)) 0))), (60, .inr (.inl (0, 350, (up2 L H (fun i => if i < 350 then (Int32.ofInt 0) else (L H) i)) 1))), (61, .inr (.inl (0, 350, (up2 L H (fun i => if i < 350 then (Int32.ofInt 0) else (L H) i)) 2))), (62, .inr (.inl (0, 350, (up2 L H (fun i => if i < 350 then (Int32.ofInt 0) else (L H) i)) 3))), (63, .inr (.inl (0, 350, (up2 L H (fun i => if i < 350 then (Int32.ofInt 0) else (L H) i)) 4))), (64, .inr (.inl (0, 350, (up2 L H (fun i => if i < 350 then (Int32.ofInt 0) else (L H) i)) 5))), (65, .inr (.inl (0, 350, (up2 L H (fun i => if i < 350 then (Int32.ofInt 0) else (L H) i)) 6))), (66, .inr (.inl (0, 4, la))), (67, .inr (.inl (0, 24, pl))), (2, .inl (8, [.inr (.inl 3), .inr (.inl 4), .inr (.inl 5), .inr (.inl 10)])), (5, .inr (.inr (.inr (3, [6, 7, 8, 9])))), (6, .inr (.inl (0, 16, hd 0))), (7, .inr (.inl (0, 16, hd 1))), (8, .inr (.inl (0, 16, hd 2))), (9, .inr (.inl (0, 16, hd 3)))]) rfl rfl (by first | decide | omega) rfl (ll_get (V := L) (by omega)) rfl (ll_set (V := L) (by omega)) rfl ?_
      refine ex_iload_n cg_45 (ix := 20) (pc' := 35) rfl rfl rfl ?_
      refine ex_iload_n cg_45 (ix := 21) (pc' := 36) rfl rfl rfl ?_
      refine ex_isub cg_45 (ix := 22) (pc' := 37) rfl rfl ?_
      refine ex_istore_n cg_45 (ix := 23) (pc' := 38) (L' := [some (.inr (.inl 43)), some (.inl (.int a)), some (.inl (.int b)), some (.inl (.int (b - a)))]) rfl rfl rfl rfl ?_
      refine lr_loop (g := g) (fk := fk2) (pf := pf) (pt := pt) (pr := pr) (mi := mi) (cd := cd) (sz := sz) (sp := sp) (th := th) (fo := fo2) (go := go) (la := la) (pl := pl) (R := R) (L := L) (hd := hd) (a := a) (b := b) (aN := aN) (e := e) (H := H) (gN := gN) hth hcd hsz hsp hmi hhd ha hb hH hH1 hH6 he hg hg4 hfo2 (P := fun v h2 => ∃ z : Int32, v = some (.inl (.int z)) ∧ ((pf.toInt = a.toInt ∧ pt.toInt = b.toInt ∧ z = pr ∧ h2 = h_ro g fk pf pt pr mi cd sz sp th fo go la pl R L hd) ∨ (¬ (pf.toInt = a.toInt ∧ pt.toInt = b.toInt) ∧ z.toInt = ((LV (nbF mi) (rkE hd e) gN H 0 gN : Nat) : Int) ∧ ∃ (fk2 : Int32) (fo2 go2 lx px : Nat → Int32) (R2 L2 : Nat → Nat → Int32), h2 = h_ro g fk2 a b z mi cd sz sp th fo2 go2 lx px R2 L2 hd ∧ (fk2 = fk ∨ fk2 = Int32.ofInt 1) ∧ ¬ fk2.toInt = 0 ∧ tbH mi fo2 ∧ plU px ∧ (∀ i : Nat, i < 4 → 0 ≤ (lx i).toInt ∧ (lx i).toInt ≤ 5) ∧ ∃ SS TS : Nat → Nat → Nat, planP (nbF mi) (rkE hd e) gN H SS TS H ∧ ∀ j i : Nat, j < H → i < gN → (px (4 * j + i)).toInt = rpv (TS j i)))) (fun R2 go2 L2 i hr1 hl2 => ?_) H (b - a) (by omega) (Nat.le_refl _) R go _ (fun j s h1 h3 => absurd h3 (by omega)) (fun j f r h1 h3 h4 h5 => ?_)
      · skip
        refine ex_aload_n cg_45 (ix := 40) (pc' := 67) rfl rfl rfl ?_
        refine ex_aload_n cg_45 (ix := 41) (pc' := 68) rfl rfl rfl ?_
        refine ex_getfield cg_45 (ix := 42) (pc' := 71) rfl rfl rfl rfl rfl ?_
        refine ex_iconst cg_45 (ix := 43) (pc' := 72) rfl rfl ?_
        refine ex_aaload cg_45 (ix := 44) (pc' := 73) (k1 := 59) rfl rfl (by decide +kernel) (by decide +kernel) rfl ?_
        refine ex_aload_n cg_45 (ix := 45) (pc' := 74) rfl rfl rfl ?_
        refine ex_getfield cg_45 (ix := 46) (pc' := 77) rfl rfl rfl rfl rfl ?_
        have hpr : (L2 0 g.toNatClampNeg).toInt = ((LV (nbF mi) (rkE hd e) gN H 0 gN : Nat) : Int) := by
          have q := hl2 0 0 gN (Nat.le_refl _) (Nat.zero_le _) (by omega) (by rw [szN_e]; show 0 + gN ≤ gN; omega)
          rw [Nat.mul_zero, Nat.zero_add, Nat.sub_zero] at q
          rw [cx_clamp hg]
          exact q
        refine ex_iaload cg_45 (ix := 47) (pc' := 78) rfl rfl (by omega) (by omega) rfl ?_
        refine ex_putfield cg_45 (ix := 48) (pc' := 81) (h' := [(43, .inl (4, [.inr (.inl 2), .inr (.inl 44), .inr (.inl 45), .inr (.inl 46), .inr (.inl 47), .inr (.inl 48), .inr (.inl 49), .inr (.inl 50), .inr (.inl 57), .inr (.inl 58), .inr (.inl 66), .inr (.inl 67), .inl (.int g), .inl (.int fk2), .inl (.int pf), .inl (.int pt), .inl (.int ((L2 0) g.toNatClampNeg))])), (44, .inr (.inl (0, 4, mi))), (45, .inr (.inl (0, 70, cd))), (46, .inr (.inl (0, 70, sz))), (47, .inr (.inl (0, 625, sp))), (48, .inr (.inl (0, 280, th))), (49, .inr (.inl (2, 4900, fo2))), (50, .inr (.inr (.inr (3, [51, 52, 53, 54, 55, 56])))), (51, .inr (.inl (0, 70, R2 0))), (52, .inr (.inl (0, 70, R2 1))), (53, .inr (.inl (0, 70, R2 2))), (54, .inr (.inl (0, 70, R2 3))), (55, .inr (.inl (0, 70, R2 4))), (56, .inr (.inl (0, 70, R2 5))), (57, .inr (.inl (0, 350, go2))), (58, .inr (.inr (.inr (3, [59, 60, 61, 62, 63, 64, 65])))), (59, .inr (.inl (0, 350, L2 0))), (60, .inr (.inl (0, 350, L2 1))), (61, .inr (.inl (0, 350, L2 2))), (62, .inr (.inl (0, 350, L2 3))), (63, .inr (.inl (0, 350, L2 4))), (64, .inr (.inl (0, 350, L2 5))), (65, .inr (.inl (0, 350, L2 6))), (66, .inr (.inl (0, 4, la))), (67, .inr (.inl (0, 24, pl))), (2, .inl (8, [.inr (.inl 3), .inr (.inl 4), .inr (.inl 5), .inr (.inl 10)])), (5, .inr (.inr (.inr (3, [6, 7, 8, 9])))), (6, .inr (.inl (0, 16, hd 0))), (7, .inr (.inl (0, 16, hd 1))), (8, .inr (.inl (0, 16, hd 2))), (9, .inr (.inl (0, 16, hd 3)))]) rfl rfl rfl rfl rfl rfl rfl rfl ?_
        refine ex_aload_n cg_45 (ix := 49) (pc' := 82) rfl rfl rfl ?_
        refine ex_iload_n cg_45 (ix := 50) (pc' := 83) rfl rfl rfl ?_
        refine ex_iload_n cg_45 (ix := 51) (pc' := 84) rfl rfl rfl ?_
        refine ex_isub cg_45 (ix := 52) (pc' := 85) rfl rfl ?_
        refine ex_callV cg_45 (ix := 53) (pc' := 88) (As := [.inl (.int (b - a))]) (r := []) rfl rfl rfl (ct_pa (g := g) (fk := fk2) (pf := pf) (pt := pt) (pr := L2 0 g.toNatClampNeg) (mi := mi) (cd := cd) (sz := sz) (sp := sp) (th := th) (fo := fo2) (go := go2) (la := la) (pl := pl) (R := R2) (L := L2) (hd := hd) (x := b - a) (gN := gN) (H := H) (rk := rkE hd e) hsz hsp hmi hba hH6 hg hg4 (fun j s h1 h3 => hr1 j s (Nat.zero_le _) h1 h3) rkE_E (rkE_b (by omega) he hhd) (fun j f r h1 h3 h4 => hl2 j f r (Nat.zero_le _) h1 h3 h4) hpr hpl0) (by first | decide | omega) rfl rfl rfl ⟨rfl, rfl, rfl, rfl, rfl, rfl, rfl, rfl, rfl, rfl, rfl, rfl, rfl, rfl, rfl, rfl, rfl, rfl, rfl, rfl, rfl, rfl, rfl, rfl, rfl, rfl, rfl, rfl, rfl, rfl, rfl, trivial⟩ rfl rfl (fun v h2 hq => ?_)
        obtain ⟨rfl, lx, px, rfl, hpx0, hl5, SS, TS, hpl2, hpx2⟩ := hq
        show cx_T _ 45 _ 88 ([some (.inr (.inl 43)), some (.inl (.int a)), some (.inl (.int b)), some (.inl (.int i))], [], [(43, .inl (4, [.inr (.inl 2), .inr (.inl 44), .inr (.inl 45), .inr (.inl 46), .inr (.inl 47), .inr (.inl 48), .inr (.inl 49), .inr (.inl 50), .inr (.inl 57), .inr (.inl 58), .inr (.inl 66), .inr (.inl 67), .inl (.int g), .inl (.int fk2), .inl (.int pf), .inl (.int pt), .inl (.int (L2 0 g.toNatClampNeg))])), (44, .inr (.inl (0, 4, mi))), (45, .inr (.inl (0, 70, cd))), (46, .inr (.inl (0, 70, sz))), (47, .inr (.inl (0, 625, sp))), (48, .inr (.inl (0, 280, th))), (49, .inr (.inl (2, 4900, fo2))), (50, .inr (.inr (.inr (3, [51, 52, 53, 54, 55, 56])))), (51, .inr (.inl (0, 70, R2 0))), (52, .inr (.inl (0, 70, R2 1))), (53, .inr (.inl (0, 70, R2 2))), (54, .inr (.inl (0, 70, R2 3))), (55, .inr (.inl (0, 70, R2 4))), (56, .inr (.inl (0, 70, R2 5))), (57, .inr (.inl (0, 350, go2))), (58, .inr (.inr (.inr (3, [59, 60, 61, 62, 63, 64, 65])))), (59, .inr (.inl (0, 350, L2 0))), (60, .inr (.inl (0, 350, L2 1))), (61, .inr (.inl (0, 350, L2 2))), (62, .inr (.inl (0, 350, L2 3))), (63, .inr (.inl (0, 350, L2 4))), (64, .inr (.inl (0, 350, L2 5))), (65, .inr (.inl (0, 350, L2 6))), (66, .inr (.inl (0, 4, lx))), (67, .inr (.inl (0, 24, px))), (2, .inl (8, [.inr (.inl 3), .inr (.inl 4), .inr (.inl 5), .inr (.inl 10)])), (5, .inr (.inr (.inr (3, [6, 7, 8, 9])))), (6, .inr (.inl (0, 16, hd 0))), (7, .inr (.inl (0, 16, hd 1))), (8, .inr (.inl (0, 16, hd 2))), (9, .inr (.inl (0, 16, hd 3)))]) _
        refine ex_aload_n cg_45 (ix := 54) (pc' := 89) rfl rfl rfl ?_
        refine ex_iload_n cg_45 (ix := 55) (pc' := 90) rfl rfl rfl ?_
        refine ex_putfield cg_45 (ix := 56) (pc' := 93) (h' := [(43, .inl (4, [.inr (.inl 2), .inr (.inl 44), .inr (.inl 45), .inr (.inl 46), .inr (.inl 47), .inr (.inl 48), .inr (.inl 49), .inr (.inl 50), .inr (.inl 57), .inr (.inl 58), .inr (.inl 66), .inr (.inl 67), .inl (.int g), .inl (.int fk2), .inl (.int a), .inl (.int pt), .inl (.int (L2 0 g.toNatClampNeg))])), (44, .inr (.inl (0, 4, mi))), (45, .inr (.inl (0, 70, cd))), (46, .inr (.inl (0, 70, sz))), (47, .inr (.inl (0, 625, sp))), (48, .inr (.inl (0, 280, th))), (49, .inr (.inl (2, 4900, fo2))), (50, .inr (.inr (.inr (3, [51, 52, 53, 54, 55, 56])))), (51, .inr (.inl (0, 70, R2 0))), (52, .inr (.inl (0, 70, R2 1))), (53, .inr (.inl (0, 70, R2 2))), (54, .inr (.inl (0, 70, R2 3))), (55, .inr (.inl (0, 70, R2 4))), (56, .inr (.inl (0, 70, R2 5))), (57, .inr (.inl (0, 350, go2))), (58, .inr (.inr (.inr (3, [59, 60, 61, 62, 63, 64, 65])))), (59, .inr (.inl (0, 350, L2 0))), (60, .inr (.inl (0, 350, L2 1))), (61, .inr (.inl (0, 350, L2 2))), (62, .inr (.inl (0, 350, L2 3))), (63, .inr (.inl (0, 350, L2 4))), (64, .inr (.inl (0, 350, L2 5))), (65, .inr (.inl (0, 350, L2 6))), (66, .inr (.inl (0, 4, lx))), (67, .inr (.inl (0, 24, px))), (2, .inl (8, [.inr (.inl 3), .inr (.inl 4), .inr (.inl 5), .inr (.inl 10)])), (5, .inr (.inr (.inr (3, [6, 7, 8, 9])))), (6, .inr (.inl (0, 16, hd 0))), (7, .inr (.inl (0, 16, hd 1))), (8, .inr (.inl (0, 16, hd 2))), (9, .inr (.inl (0, 16, hd 3)))]) rfl rfl rfl rfl rfl rfl rfl rfl ?_
        refine ex_aload_n cg_45 (ix := 57) (pc' := 94) rfl rfl rfl ?_
        refine ex_iload_n cg_45 (ix := 58) (pc' := 95) rfl rfl rfl ?_
        refine ex_putfield cg_45 (ix := 59) (pc' := 98) (h' := [(43, .inl (4, [.inr (.inl 2), .inr (.inl 44), .inr (.inl 45), .inr (.inl 46), .inr (.inl 47), .inr (.inl 48), .inr (.inl 49), .inr (.inl 50), .inr (.inl 57), .inr (.inl 58), .inr (.inl 66), .inr (.inl 67), .inl (.int g), .inl (.int fk2), .inl (.int a), .inl (.int b), .inl (.int (L2 0 g.toNatClampNeg))])), (44, .inr (.inl (0, 4, mi))), (45, .inr (.inl (0, 70, cd))), (46, .inr (.inl (0, 70, sz))), (47, .inr (.inl (0, 625, sp))), (48, .inr (.inl (0, 280, th))), (49, .inr (.inl (2, 4900, fo2))), (50, .inr (.inr (.inr (3, [51, 52, 53, 54, 55, 56])))), (51, .inr (.inl (0, 70, R2 0))), (52, .inr (.inl (0, 70, R2 1))), (53, .inr (.inl (0, 70, R2 2))), (54, .inr (.inl (0, 70, R2 3))), (55, .inr (.inl (0, 70, R2 4))), (56, .inr (.inl (0, 70, R2 5))), (57, .inr (.inl (0, 350, go2))), (58, .inr (.inr (.inr (3, [59, 60, 61, 62, 63, 64, 65])))), (59, .inr (.inl (0, 350, L2 0))), (60, .inr (.inl (0, 350, L2 1))), (61, .inr (.inl (0, 350, L2 2))), (62, .inr (.inl (0, 350, L2 3))), (63, .inr (.inl (0, 350, L2 4))), (64, .inr (.inl (0, 350, L2 5))), (65, .inr (.inl (0, 350, L2 6))), (66, .inr (.inl (0, 4, lx))), (67, .inr (.inl (0, 24, px))), (2, .inl (8, [.inr (.inl 3), .inr (.inl 4), .inr (.inl 5), .inr (.inl 10)])), (5, .inr (.inr (.inr (3, [6, 7, 8, 9])))), (6, .inr (.inl (0, 16, hd 0))), (7, .inr (.inl (0, 16, hd 1))), (8, .inr (.inl (0, 16, hd 2))), (9, .inr (.inl (0, 16, hd 3)))]) rfl rfl rfl rfl rfl rfl rfl rfl ?_
        refine ex_aload_n cg_45 (ix := 60) (pc' := 99) rfl rfl rfl ?_
        refine ex_getfield cg_45 (ix := 61) (pc' := 102) rfl rfl rfl rfl rfl ?_
        refine ex_ireturn cg_45 (ix := 62) rfl ?_
        refine ⟨_, rfl, Or.inr ⟨hnc, hpr, fk2, fo2, go2, lx, px, R2, L2, rfl, hfk2, hfk3, hfo2, hpx0, hl5, SS, TS, hpl2, hpx2⟩⟩
      · have ej : j = H := by omega
        have hr4 := (sp_sz h4).2.2.2
        rw [ej, up2_me, Nat.sub_self, LV]
        show (if 5 * f + r < 350 then Int32.ofInt 0 else L H (5 * f + r)).toInt = ((0 : Nat) : Int)
        rw [if_pos (by omega)]
        exact kc0
end
