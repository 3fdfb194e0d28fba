noncomputable section
/-- the four digits of a code of states -/
def dS (C i : Nat) : Nat := if i = 0 then C / 729 else if i = 1 then C / 81 % 9 else if i = 2 then C / 9 % 9 else C % 9
theorem dS_0 {C : Nat} : dS C 0 = C / 729 := if_pos rfl
theorem dS_1 {C : Nat} : dS C 1 = C / 81 % 9 := (if_neg (by decide)).trans (if_pos rfl)
theorem dS_2 {C : Nat} : dS C 2 = C / 9 % 9 := (if_neg (by decide)).trans ((if_neg (by decide)).trans (if_pos rfl))
theorem dS_3 {C : Nat} : dS C 3 = C % 9 := (if_neg (by decide)).trans ((if_neg (by decide)).trans (if_neg (by decide)))
theorem dS_9 {C : Nat} (h : C < 6561) (i : Nat) : dS C i < 9 := by
  unfold dS
  split
  · omega
  · split
    · omega
    · split <;> omega
theorem dS_cd {w : Nat → Nat} (h : ∀ i, i < 4 → w i < 9) : cdS w < 6561 ∧ ∀ i, i < 4 → dS (cdS w) i = w i := by
  have h0 := h 0 (by omega)
  have h1 := h 1 (by omega)
  have h2 := h 2 (by omega)
  have h3 := h 3 (by omega)
  refine ⟨by unfold cdS; omega, fun i hi => ?_⟩
  rcases (show i = 0 ∨ i = 1 ∨ i = 2 ∨ i = 3 by omega) with rfl | rfl | rfl | rfl
  · rw [dS_0]; unfold cdS; omega
  · rw [dS_1]; unfold cdS; omega
  · rw [dS_2]; unfold cdS; omega
  · rw [dS_3]; unfold cdS; omega
theorem dgK_v {K : Nat} : dgK K 0 = K / 125 % 5 ∧ dgK K 1 = K / 25 % 5 ∧ dgK K 2 = K / 5 % 5 ∧ dgK K 3 = K % 5 := by
  unfold dgK
  rw [show 5 ^ (3 - 0) = 125 from rfl, show 5 ^ (3 - 1) = 25 from rfl, show 5 ^ (3 - 2) = 5 from rfl, show 5 ^ (3 - 3) = 1 from rfl, Nat.div_one]
  exact ⟨rfl, rfl, rfl, rfl⟩
theorem dgK_4 {K i : Nat} : dgK K i ≤ 4 := by
  unfold dgK
  omega
/-- every way has its number -/
theorem dgK_of {ts : Nat → Nat} (h : ∀ i, i < 4 → ts i ≤ 4) : ∃ K, K < 625 ∧ ∀ i, i < 4 → dgK K i = ts i := by
  have h0 := h 0 (by omega)
  have h1 := h 1 (by omega)
  have h2 := h 2 (by omega)
  have h3 := h 3 (by omega)
  obtain ⟨e0, e1, e2, e3⟩ := dgK_v (K := 125 * ts 0 + 25 * ts 1 + 5 * ts 2 + ts 3)
  refine ⟨125 * ts 0 + 25 * ts 1 + 5 * ts 2 + ts 3, by omega, fun i hi => ?_⟩
  rcases (show i = 0 ∨ i = 1 ∨ i = 2 ∨ i = 3 by omega) with rfl | rfl | rfl | rfl
  · rw [e0]; omega
  · rw [e1]; omega
  · rw [e2]; omega
  · rw [e3]; omega
theorem zsC_le {w : Nat → Nat} : ∀ {m : Nat}, zsC w m ≤ m
  | 0 => Nat.le_refl _
  | m + 1 => by
    have ih := zsC_le (w := w) (m := m)
    by_cases z : w m = 0
    · rw [zsC_z z]; omega
    · rw [zsC_n z]; omega
theorem zsC_up {w : Nat → Nat} {i : Nat} : ∀ {n : Nat}, (∀ k, i ≤ k → k < i + n → ¬ w k = 0) → zsC w (i + n) ≤ i
  | 0, _ => zsC_le
  | n + 1, h => by
    rw [show i + (n + 1) = (i + n) + 1 by omega, zsC_n (h (i + n) (by omega) (by omega))]
    exact zsC_up (fun k h1 h2 => h k h1 (by omega))
/-- in their order the rested are the first -/
theorem asc_z {w : Nat → Nat} {q : Nat} (ha : ascN w 4) (hq : q ≤ zsC w 4) : ∀ i, i < q → w i = 0 := fun i hi => by
  have h4 := zsC_le (w := w) (m := 4)
  refine Classical.byContradiction (fun z => ?_)
  have := zsC_up (w := w) (i := i) (n := 4 - i) (fun k h1 h2 => by
    have := ha i k h1 (by omega)
    omega)
  rw [show i + (4 - i) = 4 by omega] at this
  omega
theorem ok_T {nb : Nat → Nat → Prop} {G : Nat} {d t : Nat → Nat} : (∀ i, i < 4 → okG nb True G d t i) ↔ okB nb d t (4 - G) 4 := by
  constructor
  · intro h i hi
    rcases h i hi with h | ⟨h1, h2, h3⟩
    · exact Or.inl h
    · exact Or.inr ⟨Nat.le_of_not_lt (fun z => h1 (Or.inl ⟨trivial, z⟩)), h2, h3⟩
  · intro h i hi
    rcases h i hi with h | ⟨h1, h2, h3⟩
    · exact Or.inl h
    · refine Or.inr ⟨fun z => ?_, h2, h3⟩
      rcases z with ⟨_, z⟩ | ⟨z, _⟩
      · omega
      · exact z trivial
theorem ok_F {nb : Nat → Nat → Prop} {G : Nat} {d t : Nat → Nat} (hG : G ≤ 4) : (∀ i, i < 4 → okG nb False G d t i) ↔ (okAn nb d t G ∧ ∀ i, G ≤ i → i < 4 → t i = 4) := by
  constructor
  · intro h
    refine ⟨fun i hi => ?_, fun i h1 h2 => ?_⟩
    · rcases h i (by omega) with h | ⟨h1, h2, h3⟩
      · exact Or.inl h
      · exact Or.inr ⟨h2, h3⟩
    · rcases h i h2 with h | ⟨h3, _, _⟩
      · exact h
      · exact absurd (Or.inr ⟨fun z => z, h1⟩) h3
  · rintro ⟨h, h0⟩ i hi
    by_cases q : G ≤ i
    · exact Or.inl (h0 i q hi)
    · rcases h i (by omega) with h | ⟨h2, h3⟩
      · exact Or.inl h
      · refine Or.inr ⟨fun z => ?_, h2, h3⟩
        rcases z with ⟨z, _⟩ | ⟨_, z⟩
        · exact z
        · omega
/-- the risk of a way and all behind it -/
def totK (rkc : (Nat → Nat) → Nat) (Lv : Nat → Nat → Nat) (G : Nat) (d : Nat → Nat) (K : Nat) : Nat := rkc (cntV (dgK K) 4) + Lv (spI (fsC (fun i => nxs (d i) (dgK K i)) 4)) (zsC (fun i => nxs (d i) (dgK K i)) 4 - (4 - G))
theorem tot_on {rkc : (Nat → Nat) → Nat} {Lv : Nat → Nat → Nat} {G K : Nat} {d : Nat → Nat} (hk : ∀ c e : Nat → Nat, (∀ b, b < 4 → c b = e b) → rkc c = rkc e) (hG : G ≤ 4) : totK rkc Lv G d K = rkc (cadd (onC d (dgK K) 4) (frC d (dgK K) 4)) + Lv (spI (frC d (dgK K) 4)) (G - c4 (onC d (dgK K) 4) - c4 (frC d (dgK K) 4)) := by
  obtain ⟨e1, e2⟩ := nx_fs (st := d) (ts := dgK K) (y := fun i => nxs (d i) (dgK K i)) (m := 4) (fun _ _ => dgK_4) (fun _ _ => rfl)
  unfold totK
  rw [e1, hk (cntV (dgK K) 4) (cadd (onC d (dgK K) 4) (frC d (dgK K) 4)) (fun b hb => cntV_on hb (fun _ _ => dgK_4)), show zsC (fun i => nxs (d i) (dgK K i)) 4 - (4 - G) = G - c4 (onC d (dgK K) 4) - c4 (frC d (dgK K) 4) by omega]
/-- the least so far -/
def frI (V : Nat → Prop) (t : Nat → Nat) (k : Nat) (b : Int) : Prop := (b = -1 ∧ ∀ K, K < k → ¬ V K) ∨ ∃ K, K < k ∧ V K ∧ b = ((t K : Nat) : Int) ∧ ∀ K2, K2 < k → V K2 → t K ≤ t K2
theorem fr_no {V : Nat → Prop} {t : Nat → Nat} {k : Nat} {b : Int} (hn : ¬ V k) (h : frI V t k b) : frI V t (k + 1) b := by
  have up : ∀ K, K < k + 1 → V K → K < k := fun K h1 h2 => by
    by_cases q : K = k
    · rw [q] at h2
      exact absurd h2 hn
    · omega
  rcases h with ⟨h1, h2⟩ | ⟨K, h1, h2, h3, h4⟩
  · exact Or.inl ⟨h1, fun K q1 q2 => h2 K (up K q1 q2) q2⟩
  · exact Or.inr ⟨K, by omega, h2, h3, fun K2 q1 q2 => h4 K2 (up K2 q1 q2) q2⟩
theorem fr_yes {V : Nat → Prop} {t : Nat → Nat} {k : Nat} {b c : Int} (hv : V k) (hc : c = ((t k : Nat) : Int)) (h : frI V t k b) (hb : b < 0 ∨ c < b) : frI V t (k + 1) c := by
  refine Or.inr ⟨k, by omega, hv, hc, fun K q1 q2 => ?_⟩
  by_cases q : K = k
  · rw [q]; exact Nat.le_refl _
  · rcases h with ⟨h1, h2⟩ | ⟨K3, h1, h2, h3, h4⟩
    · exact absurd q2 (h2 K (by omega))
    · have := h4 K (by omega) q2
      omega
theorem fr_keep {V : Nat → Prop} {t : Nat → Nat} {k : Nat} {b c : Int} (hc : c = ((t k : Nat) : Int)) (h : frI V t k b) (hb : ¬ b < 0) (hb2 : b ≤ c) : frI V t (k + 1) b := by
  rcases h with ⟨h1, h2⟩ | ⟨K, h1, h2, h3, h4⟩
  · omega
  · refine Or.inr ⟨K, by omega, h2, h3, fun K2 q1 q2 => ?_⟩
    by_cases q : K2 = k
    · rw [q]; omega
    · exact h4 K2 (by omega) q2
/-- all ways gone through, the least is the least risk -/
theorem fr_end {nb : Nat → Nat → Prop} {rk : Nat → (Nat → Nat) → Nat} {G j : Nat} {d : Nat → Nat} {v : Int} (hk : ∀ j c d, (∀ b, b < 4 → c b = d b) → rk j c = rk j d) (hr : ∀ j c, rk j c ≤ 100000) (hj : j ≤ 90) (hG : G ≤ 4) (hd : ∀ i, d i < 9) (hq : ∀ i, i < 4 - G → d i = 0) (h : frI (fun K => ∀ i, i < 4 → okG nb True G d (dgK K) i) (totK (rk j) (LV nb rk G j) G d) 625 v) : v = ((LV nb rk G (j + 1) (spI (fsC d 4)) (zsC d 4 - (4 - G)) : Nat) : Int) := by
  obtain ⟨ts, t1, t2⟩ := LV_2 (nb := nb) (rk := rk) (G := G) (j := j) (q := 4 - G) (m := 4) (st := d) hk hr hj (Nat.le_refl _) hd hq (by omega)
  have ht4 : ∀ i, i < 4 → ts i ≤ 4 := fun i hi => by
    rcases t1 i hi with q | ⟨_, q, _⟩ <;> omega
  obtain ⟨K0, k1, k2⟩ := dgK_of ht4
  have hv0 : ∀ i, i < 4 → okG nb True G d (dgK K0) i := ok_T.mpr (fun i hi => by
    rw [k2 i hi]
    exact t1 i hi)
  have e0 : totK (rk j) (LV nb rk G j) G d K0 = LV nb rk G (j + 1) (spI (fsC d 4)) (zsC d 4 - (4 - G)) := by
    rw [tot_on (hk j) hG, t2, onC_E (ts2 := ts) k2, frC_E (ts2 := ts) k2]
  rcases h with ⟨h1, h2⟩ | ⟨K, h1, h2, h3, h4⟩
  · exact absurd hv0 (h2 K0 k1)
  · have i1 := h4 K0 k1 hv0
    have i2 := LV_1 (nb := nb) (rk := rk) (G := G) (j := j) (q := 4 - G) (m := 4) (st := d) (ts := dgK K) hk (Nat.le_refl _) hd hq (by omega) (ok_T.mp h2)
    rw [← tot_on (hk j) hG] at i2
    rw [h3]
    omega
/-- where those who are none stay, they are rested -/
theorem ok_z {nb : Nat → Nat → Prop} {G : Nat} {d t : Nat → Nat} (h : ∀ i, i < 4 → okG nb True G d t i) : ∀ i, i < 4 - G → nxs (d i) (t i) = 0 := fun i hi => by
  rcases h i (by omega) with q | ⟨q, _, _⟩
  · unfold nxs
    exact if_pos q
  · exact absurd (Or.inl ⟨trivial, hi⟩) q
theorem fk_loop {mi : Nat → Int32} {ml : Nat → Int64} {mm mh ro fo4 : Nat → Int32} {hd : Nat → Nat → Int32} {x y z : Int32} {hN aN C gN : Nat} {Lv : Nat → Nat → Nat} {P : Option cx_V → cx_H → Prop} (hmm : ∀ b : Nat, b < 4 → 0 ≤ (mm b).toInt ∧ (mm b).toInt ≤ 40) (hmh : ∀ b : Nat, b < 4 → (mh (16 * b + hN)).toInt = (hd b hN).toInt) (hhd : hdH hd) (hx : x.toInt = (hN : Int)) (hh : hN < 16) (hy : y.toInt = (aN : Int)) (ha6 : aN < 6) (hz : z.toInt = (C : Int)) (hC : C < 6561) (hg : (mi 8).toInt = (gN : Int)) (hg4 : gN ≤ 4) (hS : ¬ (mi 21).toInt = 0) (hLb : ∀ f r : Nat, Lv f r ≤ 1000000) (hro : (∀ w : Nat → Nat, ascN w 4 → (∀ i : Nat, i < 4 → w i < 9) → (∀ i : Nat, i < 4 - gN → w i = 0) → (ro (6561 * (aN + 1) + cdS w)).toInt = ((Lv (spI (fsC w 4)) (zsC w 4 - (4 - gN)) : Nat) : Int))) (hfo : ∀ i : Nat, i < 4 → (fo4 i).toInt = ((dS C i : Nat) : Int)) (hP : ∀ (b i : Int32) (th2 so2 ab2 : Nat → Int32) (A : Option cx_V), thU th2 → thU so2 → abU ab2 → ((∀ i : Nat, i < 4 - gN → dS C i = 0) → frI (fun K => ∀ i : Nat, i < 4 → okG (nbF mm) True gN (dS C) (dgK K) i) (totK (rkH hd hN) Lv gN (dS C)) 625 b.toInt) → cx_T 5 210 [119, 120, 124, 130, 131, 132, 133, 134] 124 ([some (.inr (.inl 119)), some (.inl (.int x)), some (.inl (.int y)), some (.inl (.int z)), some (.inl (.int b)), some (.inl (.int i)), A], [], [(119, .inl (11, vs_119 mi ml)), (120, .inr (.inl (0, 4, mm))), (124, .inr (.inl (0, 64, mh))), (130, .inr (.inl (0, 45927, ro))), (131, .inr (.inl (0, 4, fo4))), (132, .inr (.inl (0, 4, th2))), (133, .inr (.inl (0, 4, so2))), (134, .inr (.inl (0, 5, ab2)))]) P) :
    ∀ (m k : Nat), k + m = 625 → ∀ i : Int32, i.toInt = (k : Int) → ∀ (b : Int32) (th2 so2 ab2 : Nat → Int32) (A : Option cx_V), thU th2 → thU so2 → abU ab2 → ((∀ i : Nat, i < 4 - gN → dS C i = 0) → frI (fun K => ∀ i : Nat, i < 4 → okG (nbF mm) True gN (dS C) (dgK K) i) (totK (rkH hd hN) Lv gN (dS C)) k b.toInt) → cx_T 5 210 [119, 120, 124, 130, 131, 132, 133, 134] 53 ([some (.inr (.inl 119)), some (.inl (.int x)), some (.inl (.int y)), some (.inl (.int z)), some (.inl (.int b)), some (.inl (.int i)), A], [], [(119, .inl (11, vs_119 mi ml)), (120, .inr (.inl (0, 4, mm))), (124, .inr (.inl (0, 64, mh))), (130, .inr (.inl (0, 45927, ro))), (131, .inr (.inl (0, 4, fo4))), (132, .inr (.inl (0, 4, th2))), (133, .inr (.inl (0, 4, so2))), (134, .inr (.inl (0, 5, ab2)))]) P := by
  have kcm1 : (Int32.ofInt (-1)).toInt = -1 := by decide +kernel
  have kc0 : (Int32.ofInt 0).toInt = 0 := by decide +kernel
  have kc1 : (Int32.ofInt 1).toInt = 1 := by decide +kernel
  have kc2 : (Int32.ofInt 2).toInt = 2 := by decide +kernel
  have kc3 : (Int32.ofInt 3).toInt = 3 := by decide +kernel
  have kc9 : (Int32.ofInt 9).toInt = 9 := by decide +kernel
  have kc81 : (Int32.ofInt 81).toInt = 81 := by decide +kernel
  have kc625 : (Int32.ofInt 625).toInt = 625 := by decide +kernel
  have kc729 : (Int32.ofInt 729).toInt = 729 := by decide +kernel
  have kc6561 : (Int32.ofInt 6561).toInt = 6561 := by decide +kernel
  intro m
  induction m with
  | zero =>
    intro k hk i hi b th2 so2 ab2 A hth hso hab hinv
    have ek : k = 625 := by omega
    refine ex_iload cg_210 (ix := 36) (pc' := 55) rfl rfl rfl ?_
    refine ex_sipush cg_210 (ix := 37) (pc' := 58) rfl rfl rfl ?_
    refine ex_icmp cg_210 (ix := 38) (t := 124) (pc' := 61) rfl rfl rfl (fun hb58 => ?_) (fun hb58 => ?_)
    · have hb58 : (Int32.ofInt 625).toInt ≤ i.toInt := hb58
      rw [ek] at hinv
      exact hP b i th2 so2 ab2 A hth hso hab hinv
    · have hb58 : ¬ ((Int32.ofInt 625).toInt ≤ i.toInt) := hb58
      exfalso; first | omega | exact absurd hb58 (by decide +kernel)
  | succ m ih =>
    intro k hk i hi b th2 so2 ab2 A hth hso hab hinv
    have hik : i.toNatClampNeg = k := cx_clamp hi
    have hy1 : (y + Int32.ofInt 1).toInt = ((aN + 1 : Nat) : Int) := by
      rw [cx_addc (by omega) (by omega)]
      omega
    have hm0 : (Int32.ofInt 6561 * (y + Int32.ofInt 1)).toInt = 6561 * (y + Int32.ofInt 1).toInt := cx_mulk (by decide +kernel) (by omega) (by omega)
    have hm1 : (Int32.ofInt 6561 * (y + Int32.ofInt 1)).toInt = ((6561 * (aN + 1) : Nat) : Int) := by
      rw [hm0, hy1]
      omega
    refine ex_iload cg_210 (ix := 36) (pc' := 55) rfl rfl rfl ?_
    refine ex_sipush cg_210 (ix := 37) (pc' := 58) rfl rfl rfl ?_
    refine ex_icmp cg_210 (ix := 38) (t := 124) (pc' := 61) rfl rfl rfl (fun hb58 => ?_) (fun hb58 => ?_)
    · have hb58 : (Int32.ofInt 625).toInt ≤ i.toInt := hb58
      exfalso; first | omega | exact absurd hb58 (by decide +kernel)
    · have hb58 : ¬ ((Int32.ofInt 625).toInt ≤ i.toInt) := hb58
      refine ex_aload_n cg_210 (ix := 39) (pc' := 62) rfl rfl rfl ?_
      refine ex_iload cg_210 (ix := 40) (pc' := 64) rfl rfl rfl ?_
      refine ex_iload_n cg_210 (ix := 41) (pc' := 65) rfl rfl rfl ?_
      refine ex_callV cg_210 (ix := 42) (pc' := 68) (As := [.inl (.int i), .inl (.int x)]) (r := []) rfl rfl rfl (ct_rb (mi := mi) (ml := ml) (mm := mm) (mh := mh) (fo4 := fo4) (th4 := th2) (ab := ab2) (hd := hd) (x := i) (y := x) (K := k) (hN := hN) (gN := gN) (S := True) (d := dS C) hmm hmh hhd hfo (dS_9 hC) hi (by omega) hx hh hg hg4 ⟨fun _ => trivial, fun _ => hS⟩ hth) (by first | decide | omega) rfl rfl rfl ⟨rfl, rfl, rfl, rfl, rfl, rfl, trivial⟩ rfl rfl (fun v h2 hq => ?_)
      obtain ⟨rz, th3, ab3, rfl, rfl, hth3, hab3, hrz⟩ := hq
      show cx_T _ 210 _ 68 ([some (.inr (.inl 119)), some (.inl (.int x)), some (.inl (.int y)), some (.inl (.int z)), some (.inl (.int b)), some (.inl (.int i)), A], [.inl (.int rz)], [(119, .inl (11, vs_119 mi ml)), (120, .inr (.inl (0, 4, mm))), (124, .inr (.inl (0, 64, mh))), (130, .inr (.inl (0, 45927, ro))), (131, .inr (.inl (0, 4, fo4))), (132, .inr (.inl (0, 4, th3))), (133, .inr (.inl (0, 4, so2))), (134, .inr (.inl (0, 5, ab3)))]) _
      refine ex_istore cg_210 (ix := 43) (pc' := 70) (L' := [some (.inr (.inl 119)), some (.inl (.int x)), some (.inl (.int y)), some (.inl (.int z)), some (.inl (.int b)), some (.inl (.int i)), some (.inl (.int rz))]) rfl rfl rfl rfl ?_
      refine ex_iload cg_210 (ix := 44) (pc' := 72) rfl rfl rfl ?_
      refine ex_if cg_210 (ix := 45) (t := 118) (pc' := 75) rfl rfl rfl (fun hb72 => ?_) (fun hb72 => ?_)
      · have hb72 : rz.toInt < 0 := hb72
        refine ex_iinc cg_210 (ix := 69) (pc' := 121) (L' := [some (.inr (.inl 119)), some (.inl (.int x)), some (.inl (.int y)), some (.inl (.int z)), some (.inl (.int b)), some (.inl (.int (i + Int32.ofInt 1))), some (.inl (.int rz))]) rfl rfl rfl rfl rfl ?_
        refine ex_goto cg_210 (ix := 70) (pc' := 53) rfl rfl ?_
        refine ih (k + 1) (by omega) _ (by rw [cx_addc (by omega) (by omega)]; omega) _ th3 so2 ab3 _ hth3 hso hab3 (fun hc => ?_)
        rcases hrz with ⟨q1, q2⟩ | ⟨q1, q2, q3⟩
        · exact fr_no q2 (hinv hc)
        · exfalso
          omega
      · have hb72 : ¬ (rz.toInt < 0) := hb72
        rcases hrz with ⟨q1, q2⟩ | ⟨hv, hzr, hyv⟩
        · exfalso
          omega
        refine ex_iload cg_210 (ix := 46) (pc' := 77) rfl rfl rfl ?_
        refine ex_aload_n cg_210 (ix := 47) (pc' := 78) rfl rfl rfl ?_
        refine ex_getfield cg_210 (ix := 48) (pc' := 81) (v := .inr (.inl 130)) rfl rfl rfl rfl rfl ?_
        refine ex_sipush cg_210 (ix := 49) (pc' := 84) rfl rfl rfl ?_
        refine ex_iload_n cg_210 (ix := 50) (pc' := 85) rfl rfl rfl ?_
        refine ex_iconst cg_210 (ix := 51) (pc' := 86) rfl rfl ?_
        refine ex_iadd cg_210 (ix := 52) (pc' := 87) rfl rfl ?_
        refine ex_imul cg_210 (ix := 53) (pc' := 88) rfl rfl ?_
        refine ex_aload_n cg_210 (ix := 54) (pc' := 89) rfl rfl rfl ?_
        refine ex_callV cg_210 (ix := 55) (pc' := 92) (As := []) (r := [.inl (.int ((Int32.ofInt 6561) * (y + (Int32.ofInt 1)))), .inr (.inl 130), .inl (.int rz)]) rfl rfl rfl (ct_co (mi := mi) (ml := ml) (th4 := th3) (y := fun q => nxs (dS C q) (dgK k q)) (so := so2) hyv (fun q _ => nxs_9 dgK_4) hso) (by first | decide | omega) rfl rfl rfl ⟨rfl, rfl, rfl, trivial⟩ rfl rfl (fun v h2 hq => ?_)
        obtain ⟨zc, so3, w, rfl, rfl, hs3, hwa, hwc, hw9, hso3, hzc⟩ := hq
        show cx_T _ 210 _ 92 ([some (.inr (.inl 119)), some (.inl (.int x)), some (.inl (.int y)), some (.inl (.int z)), some (.inl (.int b)), some (.inl (.int i)), some (.inl (.int rz))], [.inl (.int zc), .inl (.int ((Int32.ofInt 6561) * (y + (Int32.ofInt 1)))), .inr (.inl 130), .inl (.int rz)], [(119, .inl (11, vs_119 mi ml)), (120, .inr (.inl (0, 4, mm))), (124, .inr (.inl (0, 64, mh))), (130, .inr (.inl (0, 45927, ro))), (131, .inr (.inl (0, 4, fo4))), (132, .inr (.inl (0, 4, th3))), (133, .inr (.inl (0, 4, so3))), (134, .inr (.inl (0, 5, ab3)))]) _
        refine ex_iadd cg_210 (ix := 56) (pc' := 93) rfl rfl ?_
        have hcw := (dS_cd hw9).1
        have hix : (Int32.ofInt 6561 * (y + Int32.ofInt 1) + zc).toInt = ((6561 * (aN + 1) + cdS w : Nat) : Int) := by
          rw [cx_addc (by rw [hm1]; omega) (by rw [hm1]; omega), hm1]
          omega
        refine ex_iaload cg_210 (ix := 57) (pc' := 94) rfl rfl (by omega) (by omega) rfl ?_
        refine ex_iadd cg_210 (ix := 58) (pc' := 95) rfl rfl ?_
        refine ex_istore cg_210 (ix := 59) (pc' := 97) (L' := [some (.inr (.inl 119)), some (.inl (.int x)), some (.inl (.int y)), some (.inl (.int z)), some (.inl (.int b)), some (.inl (.int i)), some (.inl (.int (rz + (ro (((Int32.ofInt 6561) * (y + (Int32.ofInt 1))) + zc).toNatClampNeg))))]) rfl rfl rfl rfl ?_
        have hkb := rkH_b (hd := hd) (h := hN) (c := cntV (dgK k) 4) hh hhd
        have htot : (∀ i : Nat, i < 4 - gN → dS C i = 0) → (rz + ro (Int32.ofInt 6561 * (y + Int32.ofInt 1) + zc).toNatClampNeg).toInt = ((totK (rkH hd hN) Lv gN (dS C) k : Nat) : Int) := fun hc => by
          obtain ⟨u1, u2⟩ := cnt_same hwc
          have u3 : 4 - gN ≤ zsC w 4 := by
            have := zsC_q (ok_z hv) (m := 4)
            rw [u1]
            omega
          have u4 := hro w hwa hw9 (asc_z hwa u3)
          rw [u1, u2] at u4
          have u5 := hLb (spI (fsC (fun q => nxs (dS C q) (dgK k q)) 4)) (zsC (fun q => nxs (dS C q) (dgK k q)) 4 - (4 - gN))
          rw [cx_clamp hix, cx_addc (by rw [u4]; omega) (by rw [u4]; omega), u4, hzr]
          unfold totK
          omega
        refine ex_iload cg_210 (ix := 60) (pc' := 99) rfl rfl rfl ?_
        refine ex_if cg_210 (ix := 61) (t := 109) (pc' := 102) rfl rfl rfl (fun hb99 => ?_) (fun hb99 => ?_)
        · have hb99 : b.toInt < 0 := hb99
          refine ex_iload cg_210 (ix := 65) (pc' := 111) rfl rfl rfl ?_
          refine ex_goto cg_210 (ix := 66) (pc' := 116) rfl rfl ?_
          refine ex_istore cg_210 (ix := 68) (pc' := 118) (L' := [some (.inr (.inl 119)), some (.inl (.int x)), some (.inl (.int y)), some (.inl (.int z)), some (.inl (.int (rz + (ro (((Int32.ofInt 6561) * (y + (Int32.ofInt 1))) + zc).toNatClampNeg)))), some (.inl (.int i)), some (.inl (.int (rz + (ro (((Int32.ofInt 6561) * (y + (Int32.ofInt 1))) + zc).toNatClampNeg))))]) rfl rfl rfl rfl ?_
          refine ex_iinc cg_210 (ix := 69) (pc' := 121) (L' := [some (.inr (.inl 119)), some (.inl (.int x)), some (.inl (.int y)), some (.inl (.int z)), some (.inl (.int (rz + (ro (((Int32.ofInt 6561) * (y + (Int32.ofInt 1))) + zc).toNatClampNeg)))), some (.inl (.int (i + Int32.ofInt 1))), some (.inl (.int (rz + (ro (((Int32.ofInt 6561) * (y + (Int32.ofInt 1))) + zc).toNatClampNeg))))]) rfl rfl rfl rfl rfl ?_
          refine ex_goto cg_210 (ix := 70) (pc' := 53) rfl rfl ?_
          refine ih (k + 1) (by omega) _ (by rw [cx_addc (by omega) (by omega)]; omega) _ th3 so3 ab3 _ hth3 hso3 hab3 (fun hc => ?_)
          exact fr_yes hv (htot hc) (hinv hc) (by first | exact Or.inl (by omega) | exact Or.inr (by omega))
        · have hb99 : ¬ (b.toInt < 0) := hb99
          refine ex_iload cg_210 (ix := 62) (pc' := 104) rfl rfl rfl ?_
          refine ex_iload cg_210 (ix := 63) (pc' := 106) rfl rfl rfl ?_
          refine ex_icmp cg_210 (ix := 64) (t := 114) (pc' := 109) rfl rfl rfl (fun hb106 => ?_) (fun hb106 => ?_)
          · have hb106 : b.toInt ≤ (rz + (ro (((Int32.ofInt 6561) * (y + (Int32.ofInt 1))) + zc).toNatClampNeg)).toInt := hb106
            refine ex_iload cg_210 (ix := 67) (pc' := 116) rfl rfl rfl ?_
            refine ex_istore cg_210 (ix := 68) (pc' := 118) (L' := [some (.inr (.inl 119)), some (.inl (.int x)), some (.inl (.int y)), some (.inl (.int z)), some (.inl (.int b)), some (.inl (.int i)), some (.inl (.int (rz + (ro (((Int32.ofInt 6561) * (y + (Int32.ofInt 1))) + zc).toNatClampNeg))))]) rfl rfl rfl rfl ?_
            refine ex_iinc cg_210 (ix := 69) (pc' := 121) (L' := [some (.inr (.inl 119)), some (.inl (.int x)), some (.inl (.int y)), some (.inl (.int z)), some (.inl (.int b)), some (.inl (.int (i + Int32.ofInt 1))), some (.inl (.int (rz + (ro (((Int32.ofInt 6561) * (y + (Int32.ofInt 1))) + zc).toNatClampNeg))))]) rfl rfl rfl rfl rfl ?_
            refine ex_goto cg_210 (ix := 70) (pc' := 53) rfl rfl ?_
            refine ih (k + 1) (by omega) _ (by rw [cx_addc (by omega) (by omega)]; omega) _ th3 so3 ab3 _ hth3 hso3 hab3 (fun hc => ?_)
            exact fr_keep (htot hc) (hinv hc) (by omega) (by omega)
          · have hb106 : ¬ (b.toInt ≤ (rz + (ro (((Int32.ofInt 6561) * (y + (Int32.ofInt 1))) + zc).toNatClampNeg)).toInt) := hb106
            refine ex_iload cg_210 (ix := 65) (pc' := 111) rfl rfl rfl ?_
            refine ex_goto cg_210 (ix := 66) (pc' := 116) rfl rfl ?_
            refine ex_istore cg_210 (ix := 68) (pc' := 118) (L' := [some (.inr (.inl 119)), some (.inl (.int x)), some (.inl (.int y)), some (.inl (.int z)), some (.inl (.int (rz + (ro (((Int32.ofInt 6561) * (y + (Int32.ofInt 1))) + zc).toNatClampNeg)))), some (.inl (.int i)), some (.inl (.int (rz + (ro (((Int32.ofInt 6561) * (y + (Int32.ofInt 1))) + zc).toNatClampNeg))))]) rfl rfl rfl rfl ?_
            refine ex_iinc cg_210 (ix := 69) (pc' := 121) (L' := [some (.inr (.inl 119)), some (.inl (.int x)), some (.inl (.int y)), some (.inl (.int z)), some (.inl (.int (rz + (ro (((Int32.ofInt 6561) * (y + (Int32.ofInt 1))) + zc).toNatClampNeg)))), some (.inl (.int (i + Int32.ofInt 1))), some (.inl (.int (rz + (ro (((Int32.ofInt 6561) * (y + (Int32.ofInt 1))) + zc).toNatClampNeg))))]) rfl rfl rfl rfl rfl ?_
            refine ex_goto cg_210 (ix := 70) (pc' := 53) rfl rfl ?_
            refine ih (k + 1) (by omega) _ (by rw [cx_addc (by omega) (by omega)]; omega) _ th3 so3 ab3 _ hth3 hso3 hab3 (fun hc => ?_)
            exact fr_yes hv (htot hc) (hinv hc) (by first | exact Or.inl (by omega) | exact Or.inr (by omega))
theorem ct_fr {mi : Nat → Int32} {ml : Nat → Int64} {mm mh ro fo4 : Nat → Int32} {hd : Nat → Nat → Int32} {x y z : Int32} {hN aN C gN : Nat} {Lv : Nat → Nat → Nat} {th4 so ab : Nat → Int32} (hmm : ∀ b : Nat, b < 4 → 0 ≤ (mm b).toInt ∧ (mm b).toInt ≤ 40) (hmh : ∀ b : Nat, b < 4 → (mh (16 * b + hN)).toInt = (hd b hN).toInt) (hhd : hdH hd) (hx : x.toInt = (hN : Int)) (hh : hN < 16) (hy : y.toInt = (aN : Int)) (ha6 : aN < 6) (hz : z.toInt = (C : Int)) (hC : C < 6561) (hg : (mi 8).toInt = (gN : Int)) (hg4 : gN ≤ 4) (hS : ¬ (mi 21).toInt = 0) (hLb : ∀ f r : Nat, Lv f r ≤ 1000000) (hro : (∀ w : Nat → Nat, ascN w 4 → (∀ i : Nat, i < 4 → w i < 9) → (∀ i : Nat, i < 4 - gN → w i = 0) → (ro (6561 * (aN + 1) + cdS w)).toInt = ((Lv (spI (fsC w 4)) (zsC w 4 - (4 - gN)) : Nat) : Int))) (hthU : thU th4) (hsoU : thU so) (habU : abU ab) : cx_Ct 5 210 [.inr (.inl 119), .inl (.int x), .inl (.int y), .inl (.int z)] ([(119, .inl (11, vs_119 mi ml)), (120, .inr (.inl (0, 4, mm))), (124, .inr (.inl (0, 64, mh))), (130, .inr (.inl (0, 45927, ro))), (131, .inr (.inl (0, 4, fo4))), (132, .inr (.inl (0, 4, th4))), (133, .inr (.inl (0, 4, so))), (134, .inr (.inl (0, 5, ab)))]) (fun v h2 => v = none ∧ ∃ (fo2 th2 so2 ab2 : Nat → Int32) (vz : Int32), h2 = [(119, .inl (11, vs_119 mi ml)), (120, .inr (.inl (0, 4, mm))), (124, .inr (.inl (0, 64, mh))), (130, .inr (.inl (0, 45927, (upd ro (6561 * aN + C) vz)))), (131, .inr (.inl (0, 4, fo2))), (132, .inr (.inl (0, 4, th2))), (133, .inr (.inl (0, 4, so2))), (134, .inr (.inl (0, 5, ab2)))] ∧ (∀ i : Nat, i < 4 → 0 ≤ (fo2 i).toInt ∧ (fo2 i).toInt ≤ 8) ∧ thU th2 ∧ thU so2 ∧ abU ab2 ∧ ((∀ i : Nat, i < 4 - gN → dS C i = 0) → frI (fun K => ∀ i : Nat, i < 4 → okG (nbF mm) True gN (dS C) (dgK K) i) (totK (rkH hd hN) Lv gN (dS C)) 625 vz.toInt)) := by
  have kcm1 : (Int32.ofInt (-1)).toInt = -1 := by decide +kernel
  have kc0 : (Int32.ofInt 0).toInt = 0 := by decide +kernel
  have kc1 : (Int32.ofInt 1).toInt = 1 := by decide +kernel
  have kc2 : (Int32.ofInt 2).toInt = 2 := by decide +kernel
  have kc3 : (Int32.ofInt 3).toInt = 3 := by decide +kernel
  have kc9 : (Int32.ofInt 9).toInt = 9 := by decide +kernel
  have kc81 : (Int32.ofInt 81).toInt = 81 := by decide +kernel
  have kc625 : (Int32.ofInt 625).toInt = 625 := by decide +kernel
  have kc729 : (Int32.ofInt 729).toInt = 729 := by decide +kernel
  have kc6561 : (Int32.ofInt 6561).toInt = 6561 := by decide +kernel
  have d729 : (z / Int32.ofInt 729).toInt = ((C / 729 : Nat) : Int) := by
    rw [(ro_dm (by omega) (by omega)).1, hz, kc729]
    omega
  have d81 : (z / Int32.ofInt 81).toInt = ((C / 81 : Nat) : Int) := by
    rw [(ro_dm (by omega) (by omega)).1, hz, kc81]
    omega
  have d9 : (z / Int32.ofInt 9).toInt = ((C / 9 : Nat) : Int) := by
    rw [(ro_dm (by omega) (by omega)).1, hz, kc9]
    omega
  have r81 : (z / Int32.ofInt 81 - z / Int32.ofInt 81 / Int32.ofInt 9 * Int32.ofInt 9).toInt = ((C / 81 % 9 : Nat) : Int) := by
    rw [(ro_dm (by omega) (by omega)).2, d81, kc9]
    omega
  have r9 : (z / Int32.ofInt 9 - z / Int32.ofInt 9 / Int32.ofInt 9 * Int32.ofInt 9).toInt = ((C / 9 % 9 : Nat) : Int) := by
    rw [(ro_dm (by omega) (by omega)).2, d9, kc9]
    omega
  have r1 : (z - z / Int32.ofInt 9 * Int32.ofInt 9).toInt = ((C % 9 : Nat) : Int) := by
    rw [(ro_dm (by omega) (by omega)).2, hz, kc9]
    omega
  have hm6 : (Int32.ofInt 6561 * y).toInt = 6561 * y.toInt := cx_mulk (by decide +kernel) (by omega) (by omega)
  have hix : (Int32.ofInt 6561 * y + z).toInt = ((6561 * aN + C : Nat) : Int) := by
    rw [cx_addc (by rw [hm6]; omega) (by rw [hm6]; omega), hm6]
    omega
  have q0 : (Int32.ofInt 0).toNatClampNeg = 0 := by decide +kernel
  have q1 : (Int32.ofInt 1).toNatClampNeg = 1 := by decide +kernel
  have q2 : (Int32.ofInt 2).toNatClampNeg = 2 := by decide +kernel
  have q3 : (Int32.ofInt 3).toNatClampNeg = 3 := by decide +kernel
  refine cx_Ct.of cg_210 (nL := 7) rfl rfl rfl ?_
  show cx_T 5 210 [119, 120, 124, 130, 131, 132, 133, 134] 0 ([some (.inr (.inl 119)), some (.inl (.int x)), some (.inl (.int y)), some (.inl (.int z)), none, none, none], [], ([(119, .inl (11, vs_119 mi ml)), (120, .inr (.inl (0, 4, mm))), (124, .inr (.inl (0, 64, mh))), (130, .inr (.inl (0, 45927, ro))), (131, .inr (.inl (0, 4, fo4))), (132, .inr (.inl (0, 4, th4))), (133, .inr (.inl (0, 4, so))), (134, .inr (.inl (0, 5, ab)))])) _
  refine ex_aload_n cg_210 (ix := 0) (pc' := 1) rfl rfl rfl ?_
  refine ex_getfield cg_210 (ix := 1) (pc' := 4) (v := .inr (.inl 131)) rfl rfl rfl rfl rfl ?_
  refine ex_iconst cg_210 (ix := 2) (pc' := 5) rfl rfl ?_
  refine ex_iload_n cg_210 (ix := 3) (pc' := 6) rfl rfl rfl ?_
  refine ex_sipush cg_210 (ix := 4) (pc' := 9) rfl rfl rfl ?_
  refine ex_idiv cg_210 (ix := 5) (pc' := 10) rfl (by decide +kernel) rfl ?_
  refine ex_iastore cg_210 (ix := 6) (pc' := 11) (h' := [(119, .inl (11, vs_119 mi ml)), (120, .inr (.inl (0, 4, mm))), (124, .inr (.inl (0, 64, mh))), (130, .inr (.inl (0, 45927, ro))), (131, .inr (.inl (0, 4, upd fo4 (Int32.ofInt 0).toNatClampNeg (z / (Int32.ofInt 729))))), (132, .inr (.inl (0, 4, th4))), (133, .inr (.inl (0, 4, so))), (134, .inr (.inl (0, 5, ab)))]) rfl rfl (by omega) (by omega) rfl rfl ?_
  refine ex_aload_n cg_210 (ix := 7) (pc' := 12) rfl rfl rfl ?_
  refine ex_getfield cg_210 (ix := 8) (pc' := 15) (v := .inr (.inl 131)) rfl rfl rfl rfl rfl ?_
  refine ex_iconst cg_210 (ix := 9) (pc' := 16) rfl rfl ?_
  refine ex_iload_n cg_210 (ix := 10) (pc' := 17) rfl rfl rfl ?_
  refine ex_bipush cg_210 (ix := 11) (pc' := 19) rfl rfl rfl ?_
  refine ex_idiv cg_210 (ix := 12) (pc' := 20) rfl (by decide +kernel) rfl ?_
  refine ex_bipush cg_210 (ix := 13) (pc' := 22) rfl rfl rfl ?_
  refine ex_irem cg_210 (ix := 14) (pc' := 23) rfl (by decide +kernel) rfl ?_
  refine ex_iastore cg_210 (ix := 15) (pc' := 24) (h' := [(119, .inl (11, vs_119 mi ml)), (120, .inr (.inl (0, 4, mm))), (124, .inr (.inl (0, 64, mh))), (130, .inr (.inl (0, 45927, ro))), (131, .inr (.inl (0, 4, upd (upd fo4 (Int32.ofInt 0).toNatClampNeg (z / (Int32.ofInt 729))) (Int32.ofInt 1).toNatClampNeg ((z / (Int32.ofInt 81)) - (z / (Int32.ofInt 81)) / (Int32.ofInt 9) * (Int32.ofInt 9))))), (132, .inr (.inl (0, 4, th4))), (133, .inr (.inl (0, 4, so))), (134, .inr (.inl (0, 5, ab)))]) rfl rfl (by omega) (by omega) rfl rfl ?_
  refine ex_aload_n cg_210 (ix := 16) (pc' := 25) rfl rfl rfl ?_
  refine ex_getfield cg_210 (ix := 17) (pc' := 28) (v := .inr (.inl 131)) rfl rfl rfl rfl rfl ?_
  refine ex_iconst cg_210 (ix := 18) (pc' := 29) rfl rfl ?_
  refine ex_iload_n cg_210 (ix := 19) (pc' := 30) rfl rfl rfl ?_
  refine ex_bipush cg_210 (ix := 20) (pc' := 32) rfl rfl rfl ?_
  refine ex_idiv cg_210 (ix := 21) (pc' := 33) rfl (by decide +kernel) rfl ?_
  refine ex_bipush cg_210 (ix := 22) (pc' := 35) rfl rfl rfl ?_
  refine ex_irem cg_210 (ix := 23) (pc' := 36) rfl (by decide +kernel) rfl ?_
  refine ex_iastore cg_210 (ix := 24) (pc' := 37) (h' := [(119, .inl (11, vs_119 mi ml)), (120, .inr (.inl (0, 4, mm))), (124, .inr (.inl (0, 64, mh))), (130, .inr (.inl (0, 45927, ro))), (131, .inr (.inl (0, 4, upd (upd (upd fo4 (Int32.ofInt 0).toNatClampNeg (z / (Int32.ofInt 729))) (Int32.ofInt 1).toNatClampNeg ((z / (Int32.ofInt 81)) - (z / (Int32.ofInt 81)) / (Int32.ofInt 9) * (Int32.ofInt 9))) (Int32.ofInt 2).toNatClampNeg ((z / (Int32.ofInt 9)) - (z / (Int32.ofInt 9)) / (Int32.ofInt 9) * (Int32.ofInt 9))))), (132, .inr (.inl (0, 4, th4))), (133, .inr (.inl (0, 4, so))), (134, .inr (.inl (0, 5, ab)))]) rfl rfl (by omega) (by omega) rfl rfl ?_
  refine ex_aload_n cg_210 (ix := 25) (pc' := 38) rfl rfl rfl ?_
  refine ex_getfield cg_210 (ix := 26) (pc' := 41) (v := .inr (.inl 131)) rfl rfl rfl rfl rfl ?_
  refine ex_iconst cg_210 (ix := 27) (pc' := 42) rfl rfl ?_
  refine ex_iload_n cg_210 (ix := 28) (pc' := 43) rfl rfl rfl ?_
  refine ex_bipush cg_210 (ix := 29) (pc' := 45) rfl rfl rfl ?_
  refine ex_irem cg_210 (ix := 30) (pc' := 46) rfl (by decide +kernel) rfl ?_
  refine ex_iastore cg_210 (ix := 31) (pc' := 47) (h' := [(119, .inl (11, vs_119 mi ml)), (120, .inr (.inl (0, 4, mm))), (124, .inr (.inl (0, 64, mh))), (130, .inr (.inl (0, 45927, ro))), (131, .inr (.inl (0, 4, upd (upd (upd (upd fo4 (Int32.ofInt 0).toNatClampNeg (z / (Int32.ofInt 729))) (Int32.ofInt 1).toNatClampNeg ((z / (Int32.ofInt 81)) - (z / (Int32.ofInt 81)) / (Int32.ofInt 9) * (Int32.ofInt 9))) (Int32.ofInt 2).toNatClampNeg ((z / (Int32.ofInt 9)) - (z / (Int32.ofInt 9)) / (Int32.ofInt 9) * (Int32.ofInt 9))) (Int32.ofInt 3).toNatClampNeg (z - z / (Int32.ofInt 9) * (Int32.ofInt 9))))), (132, .inr (.inl (0, 4, th4))), (133, .inr (.inl (0, 4, so))), (134, .inr (.inl (0, 5, ab)))]) rfl rfl (by omega) (by omega) rfl rfl ?_
  refine ex_iconst cg_210 (ix := 32) (pc' := 48) rfl rfl ?_
  refine ex_istore cg_210 (ix := 33) (pc' := 50) (L' := [some (.inr (.inl 119)), some (.inl (.int x)), some (.inl (.int y)), some (.inl (.int z)), some (.inl (.int (Int32.ofInt (-1)))), none, none]) rfl rfl rfl rfl ?_
  refine ex_iconst cg_210 (ix := 34) (pc' := 51) rfl rfl ?_
  refine ex_istore cg_210 (ix := 35) (pc' := 53) (L' := [some (.inr (.inl 119)), some (.inl (.int x)), some (.inl (.int y)), some (.inl (.int z)), some (.inl (.int (Int32.ofInt (-1)))), some (.inl (.int (Int32.ofInt 0))), none]) rfl rfl rfl rfl ?_
  generalize hF : upd (upd (upd (upd fo4 (Int32.ofInt 0).toNatClampNeg (z / (Int32.ofInt 729))) (Int32.ofInt 1).toNatClampNeg ((z / (Int32.ofInt 81)) - (z / (Int32.ofInt 81)) / (Int32.ofInt 9) * (Int32.ofInt 9))) (Int32.ofInt 2).toNatClampNeg ((z / (Int32.ofInt 9)) - (z / (Int32.ofInt 9)) / (Int32.ofInt 9) * (Int32.ofInt 9))) (Int32.ofInt 3).toNatClampNeg (z - z / (Int32.ofInt 9) * (Int32.ofInt 9)) = fo5
  have hfo : ∀ i9 : Nat, i9 < 4 → (fo5 i9).toInt = ((dS C i9 : Nat) : Int) := fun i9 h9 => by
    rw [← hF, q0, q1, q2, q3]
    show Int32.toInt (if i9 = 3 then _ else if i9 = 2 then _ else if i9 = 1 then _ else if i9 = 0 then _ else _) = _
    rcases (show i9 = 0 ∨ i9 = 1 ∨ i9 = 2 ∨ i9 = 3 by omega) with rfl | rfl | rfl | rfl
    · rw [if_neg (by decide), if_neg (by decide), if_neg (by decide), if_pos rfl, dS_0]; exact d729
    · rw [if_neg (by decide), if_neg (by decide), if_pos rfl, dS_1]; exact r81
    · rw [if_neg (by decide), if_pos rfl, dS_2]; exact r9
    · rw [if_pos rfl, dS_3]; exact r1
  refine fk_loop (mi := mi) (ml := ml) (mm := mm) (mh := mh) (ro := ro) (hd := hd) (x := x) (y := y) (z := z) (hN := hN) (aN := aN) (C := C) (gN := gN) (Lv := Lv) (fo4 := fo5) hmm hmh hhd hx hh hy ha6 hz hC hg hg4 hS hLb hro hfo (P := fun v h2 => v = none ∧ ∃ (fo2 th2 so2 ab2 : Nat → Int32) (vz : Int32), h2 = [(119, .inl (11, vs_119 mi ml)), (120, .inr (.inl (0, 4, mm))), (124, .inr (.inl (0, 64, mh))), (130, .inr (.inl (0, 45927, (upd ro (6561 * aN + C) vz)))), (131, .inr (.inl (0, 4, fo2))), (132, .inr (.inl (0, 4, th2))), (133, .inr (.inl (0, 4, so2))), (134, .inr (.inl (0, 5, ab2)))] ∧ (∀ i : Nat, i < 4 → 0 ≤ (fo2 i).toInt ∧ (fo2 i).toInt ≤ 8) ∧ thU th2 ∧ thU so2 ∧ abU ab2 ∧ ((∀ i : Nat, i < 4 - gN → dS C i = 0) → frI (fun K => ∀ i : Nat, i < 4 → okG (nbF mm) True gN (dS C) (dgK K) i) (totK (rkH hd hN) Lv gN (dS C)) 625 vz.toInt)) (fun b i th2 so2 ab2 A hth2 hso2 hab2 hinv => ?_) 625 0 (by omega) (Int32.ofInt 0) (by decide +kernel) (Int32.ofInt (-1)) th4 so ab none hthU hsoU habU (fun _ => Or.inl ⟨kcm1, fun K h => absurd h (Nat.not_lt_zero K)⟩)
  refine ex_aload_n cg_210 (ix := 71) (pc' := 125) rfl rfl rfl ?_
  refine ex_getfield cg_210 (ix := 72) (pc' := 128) (v := .inr (.inl 130)) rfl rfl rfl rfl rfl ?_
  refine ex_sipush cg_210 (ix := 73) (pc' := 131) rfl rfl rfl ?_
  refine ex_iload_n cg_210 (ix := 74) (pc' := 132) rfl rfl rfl ?_
  refine ex_imul cg_210 (ix := 75) (pc' := 133) rfl rfl ?_
  refine ex_iload_n cg_210 (ix := 76) (pc' := 134) rfl rfl rfl ?_
  refine ex_iadd cg_210 (ix := 77) (pc' := 135) rfl rfl ?_
  refine ex_iload cg_210 (ix := 78) (pc' := 137) rfl rfl rfl ?_
  refine ex_iastore cg_210 (ix := 79) (pc' := 138) (h' := [(119, .inl (11, vs_119 mi ml)), (120, .inr (.inl (0, 4, mm))), (124, .inr (.inl (0, 64, mh))), (130, .inr (.inl (0, 45927, upd ro (((Int32.ofInt 6561) * y) + z).toNatClampNeg b))), (131, .inr (.inl (0, 4, fo5))), (132, .inr (.inl (0, 4, th2))), (133, .inr (.inl (0, 4, so2))), (134, .inr (.inl (0, 5, ab2)))]) rfl rfl (by omega) (by omega) rfl rfl ?_
  refine ex_return_ cg_210 (ix := 80) rfl ?_
  refine ⟨rfl, fo5, th2, so2, ab2, b, by rw [cx_clamp hix], fun i9 h9 => ?_, hth2, hso2, hab2, hinv⟩
  have := dS_9 hC i9
  rw [hfo i9 h9]
  omega
end
