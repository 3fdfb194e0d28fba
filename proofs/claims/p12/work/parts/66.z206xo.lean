noncomputable section
/-- a guard's state behind an hour -/
def nxs (s t : Nat) : Nat := if t = 4 then 0 else if s = 0 then 1 + 2 * t else 2 + 2 * t
theorem nxs_9 {s t : Nat} (h : t ≤ 4) : nxs s t < 9 := by
  unfold nxs
  split
  · omega
  · split <;> omega
/-- the fresh of the first m guards: one behind another; how many at each beach; the rested -/
def frL (st : Nat → Nat) : Nat → List Nat
  | 0 => []
  | m + 1 => if st m % 2 = 1 then (st m - 1) / 2 :: frL st m else frL st m
def fsC (st : Nat → Nat) : Nat → Nat → Nat
  | 0 => fun _ => 0
  | m + 1 => if st m % 2 = 1 then cadd (ce ((st m - 1) / 2)) (fsC st m) else fsC st m
def zsC (st : Nat → Nat) : Nat → Nat
  | 0 => 0
  | m + 1 => if st m = 0 then zsC st m + 1 else zsC st m
theorem frL_o {st : Nat → Nat} {m : Nat} (h : st m % 2 = 1) : frL st (m + 1) = (st m - 1) / 2 :: frL st m := by
  rw [frL]
  exact if_pos h
theorem frL_e {st : Nat → Nat} {m : Nat} (h : ¬ st m % 2 = 1) : frL st (m + 1) = frL st m := by
  rw [frL]
  exact if_neg h
theorem fsC_o {st : Nat → Nat} {m : Nat} (h : st m % 2 = 1) : fsC st (m + 1) = cadd (ce ((st m - 1) / 2)) (fsC st m) := by
  rw [fsC]
  exact if_pos h
theorem fsC_e {st : Nat → Nat} {m : Nat} (h : ¬ st m % 2 = 1) : fsC st (m + 1) = fsC st m := by
  rw [fsC]
  exact if_neg h
theorem zsC_z {st : Nat → Nat} {m : Nat} (h : st m = 0) : zsC st (m + 1) = zsC st m + 1 := by
  rw [zsC]
  exact if_pos h
theorem zsC_n {st : Nat → Nat} {m : Nat} (h : ¬ st m = 0) : zsC st (m + 1) = zsC st m := by
  rw [zsC]
  exact if_neg h
theorem cho_cons {nb : Nat → Nat → Prop} {b : Nat} {l l2 : List Nat} (h : ∀ c, cho nb l c → cho nb l2 c) {c : Nat → Nat} (k : cho nb (b :: l) c) : cho nb (b :: l2) c := by
  rcases k with k | ⟨to, k1, k2, k3, k4⟩
  · exact Or.inl (h _ k)
  · exact Or.inr ⟨to, k1, k2, k3, h _ k4⟩
theorem cho_swap {nb : Nat → Nat → Prop} {a b : Nat} {l : List Nat} {c : Nat → Nat} (k : cho nb (a :: b :: l) c) : cho nb (b :: a :: l) c := by
  rcases k with k | ⟨t1, k1, k2, k3, k4⟩
  · rcases k with k | ⟨t2, m1, m2, m3, m4⟩
    · exact Or.inl (Or.inl k)
    · exact Or.inr ⟨t2, m1, m2, m3, Or.inl m4⟩
  · rcases k4 with k | ⟨t2, m1, m2, m3, m4⟩
    · exact Or.inl (Or.inr ⟨t1, k1, k2, k3, k⟩)
    · have m2 : 0 < (if t2 = t1 then c t2 - 1 else c t2) := m2
      refine Or.inr ⟨t2, m1, ?_, m3, Or.inr ⟨t1, k1, ?_, k3, cho_E (fun x _ => ?_) m4⟩⟩
      · by_cases q : t2 = t1
        · rw [if_pos q] at m2
          omega
        · rw [if_neg q] at m2
          exact m2
      · show 0 < (if t1 = t2 then c t1 - 1 else c t1)
        by_cases q : t1 = t2
        · rw [if_pos q]
          rw [if_pos q.symm, ← q] at m2
          omega
        · rw [if_neg q]; exact k2
      · show (if x = t2 then (if x = t1 then c x - 1 else c x) - 1 else (if x = t1 then c x - 1 else c x)) = (if x = t1 then (if x = t2 then c x - 1 else c x) - 1 else (if x = t2 then c x - 1 else c x))
        by_cases q1 : x = t1
        · by_cases q2 : x = t2
          · rw [if_pos q1, if_pos q2, if_pos q2, if_pos q1]
          · rw [if_neg q2, if_pos q1, if_pos q1, if_neg q2]
        · by_cases q2 : x = t2
          · rw [if_pos q2, if_neg q1, if_neg q1, if_pos q2]
          · rw [if_neg q2, if_neg q1, if_neg q1, if_neg q2]
theorem cho_perm {nb : Nat → Nat → Prop} {l l2 : List Nat} (h : l.Perm l2) : ∀ {c : Nat → Nat}, cho nb l c → cho nb l2 c := by
  induction h with
  | nil => exact fun k => k
  | cons x _ ih => exact fun k => cho_cons (fun _ => ih) k
  | swap x y l => exact fun k => cho_swap k
  | trans _ _ ih1 ih2 => exact fun k => ih2 (ih1 k)
theorem cnL_ce {b : Nat} {c : Nat → Nat} (hb : b < 4) : (b :: cnL c).Perm (cnL (cadd (ce b) c)) := by
  rcases (show b = 0 ∨ b = 1 ∨ b = 2 ∨ b = 3 by omega) with rfl | rfl | rfl | rfl
  · have d0 : cadd (ce 0) c 0 = c 0 + 1 := by
      unfold cadd ce
      rw [if_pos rfl]
      omega
    have d1 : cadd (ce 0) c 1 = c 1 := by
      unfold cadd ce
      rw [if_neg (by decide)]
      omega
    have d2 : cadd (ce 0) c 2 = c 2 := by
      unfold cadd ce
      rw [if_neg (by decide)]
      omega
    have d3 : cadd (ce 0) c 3 = c 3 := by
      unfold cadd ce
      rw [if_neg (by decide)]
      omega
    unfold cnL
    rw [d0, d1, d2, d3, List.replicate_succ]
    exact List.Perm.refl _
  · have d0 : cadd (ce 1) c 0 = c 0 := by
      unfold cadd ce
      rw [if_neg (by decide)]
      omega
    have d1 : cadd (ce 1) c 1 = c 1 + 1 := by
      unfold cadd ce
      rw [if_pos rfl]
      omega
    have d2 : cadd (ce 1) c 2 = c 2 := by
      unfold cadd ce
      rw [if_neg (by decide)]
      omega
    have d3 : cadd (ce 1) c 3 = c 3 := by
      unfold cadd ce
      rw [if_neg (by decide)]
      omega
    unfold cnL
    rw [d0, d1, d2, d3, List.replicate_succ]
    exact List.perm_middle.symm
  · have d0 : cadd (ce 2) c 0 = c 0 := by
      unfold cadd ce
      rw [if_neg (by decide)]
      omega
    have d1 : cadd (ce 2) c 1 = c 1 := by
      unfold cadd ce
      rw [if_neg (by decide)]
      omega
    have d2 : cadd (ce 2) c 2 = c 2 + 1 := by
      unfold cadd ce
      rw [if_pos rfl]
      omega
    have d3 : cadd (ce 2) c 3 = c 3 := by
      unfold cadd ce
      rw [if_neg (by decide)]
      omega
    unfold cnL
    rw [d0, d1, d2, d3, List.replicate_succ]
    exact (List.perm_middle.symm).trans ((List.perm_middle.symm).append_left _)
  · have d0 : cadd (ce 3) c 0 = c 0 := by
      unfold cadd ce
      rw [if_neg (by decide)]
      omega
    have d1 : cadd (ce 3) c 1 = c 1 := by
      unfold cadd ce
      rw [if_neg (by decide)]
      omega
    have d2 : cadd (ce 3) c 2 = c 2 := by
      unfold cadd ce
      rw [if_neg (by decide)]
      omega
    have d3 : cadd (ce 3) c 3 = c 3 + 1 := by
      unfold cadd ce
      rw [if_pos rfl]
      omega
    unfold cnL
    rw [d0, d1, d2, d3, List.replicate_succ]
    exact (List.perm_middle.symm).trans (((List.perm_middle.symm).trans ((List.perm_middle.symm).append_left _)).append_left _)
theorem frL_cho {nb : Nat → Nat → Prop} {st : Nat → Nat} (hs : ∀ i, st i < 9) : ∀ {m : Nat} {c : Nat → Nat}, cho nb (frL st m) c ↔ cho nb (cnL (fsC st m)) c
  | 0, c => Iff.rfl
  | m + 1, c => by
    have ih : ∀ c, cho nb (frL st m) c ↔ cho nb (cnL (fsC st m)) c := fun c => frL_cho hs
    have h9 := hs m
    by_cases q : st m % 2 = 1
    · rw [frL_o q, fsC_o q]
      have hp := cnL_ce (b := (st m - 1) / 2) (c := fsC st m) (by omega)
      exact ⟨fun k => cho_perm hp (cho_cons (fun c => (ih c).mp) k), fun k => cho_cons (fun c => (ih c).mpr) (cho_perm hp.symm k)⟩
    · rw [frL_e q, fsC_e q]
      exact ih c
theorem fsC_4 {st : Nat → Nat} (hs : ∀ i, st i < 9) : ∀ {m : Nat}, c4 (fsC st m) + zsC st m ≤ m
  | 0 => Nat.le_refl _
  | m + 1 => by
    have ih := fsC_4 hs (m := m)
    have h9 := hs m
    by_cases q : st m % 2 = 1
    · rw [fsC_o q, zsC_n (by omega), c4_ce (by omega)]
      omega
    · rw [fsC_e q]
      by_cases z : st m = 0
      · rw [zsC_z z]; omega
      · rw [zsC_n z]; omega
/-- a way of going, the first q being none -/
def okB (nb : Nat → Nat → Prop) (st ts : Nat → Nat) (q m : Nat) : Prop := ∀ i : Nat, i < m → ts i = 4 ∨ (q ≤ i ∧ ts i < 4 ∧ mgS nb (st i) (ts i))
theorem okB_A {nb : Nat → Nat → Prop} {st ts : Nat → Nat} {m : Nat} : okB nb st ts 0 m ↔ okAn nb st ts m := ⟨fun h i hi => (h i hi).elim Or.inl (fun z => Or.inr z.2), fun h i hi => (h i hi).elim Or.inl (fun z => Or.inr ⟨Nat.zero_le _, z⟩)⟩
/-- every way of going: those who go on may, and no more begin than have rested -/
theorem ts_cho {nb : Nat → Nat → Prop} {st ts : Nat → Nat} {q : Nat} (hq : ∀ i, i < q → st i = 0) : ∀ {m : Nat}, okB nb st ts q m → cho nb (frL st m) (onC st ts m) ∧ c4 (frC st ts m) + min q m ≤ zsC st m
  | 0, _ => ⟨fun _ _ => rfl, by show 0 + min q 0 ≤ 0; omega⟩
  | m + 1, h => by
    obtain ⟨i1, i2⟩ := ts_cho hq (m := m) (fun i hi => h i (by omega))
    rcases h m (by omega) with h4 | ⟨h1, h2, h3⟩
    · rw [onC_4 h4, frC_4 h4]
      refine ⟨?_, ?_⟩
      · by_cases o : st m % 2 = 1
        · rw [frL_o o]; exact Or.inl i1
        · rw [frL_e o]; exact i1
      · by_cases z : st m = 0
        · rw [zsC_z z]; omega
        · rw [zsC_n z]
          have : q ≤ m := Nat.le_of_not_lt (fun w => z (hq m w))
          omega
    · rcases h3 with h3 | ⟨h3, h5⟩
      · rw [onC_z h3, frC_y h2 h3, zsC_z h3, frL_e (by omega), c4_ce h2]
        exact ⟨i1, by omega⟩
      · have h30 : ¬ st m = 0 := by omega
        rw [onC_y h2 h30, frC_n h30, zsC_n h30, frL_o h3]
        refine ⟨Or.inr ⟨ts m, h2, ?_, h5, cho_E (fun x _ => ?_) i1⟩, by omega⟩
        · show 0 < (if ts m = ts m then 1 else 0) + onC st ts m (ts m)
          rw [if_pos rfl]; omega
        · show onC st ts m x = if x = ts m then (if x = ts m then 1 else 0) + onC st ts m x - 1 else (if x = ts m then 1 else 0) + onC st ts m x
          by_cases z : x = ts m
          · rw [if_pos z, if_pos z]; omega
          · rw [if_neg z, if_neg z]; omega
theorem zsC_q {w : Nat → Nat} {q : Nat} (h : ∀ i, i < q → w i = 0) : ∀ {m : Nat}, min q m ≤ zsC w m
  | 0 => by omega
  | m + 1 => by
    have ih := zsC_q h (m := m)
    by_cases z : w m = 0
    · rw [zsC_z z]; omega
    · rw [zsC_n z]
      have : ¬ m < q := fun k => z (h m k)
      omega
/-- and as many as may go on, and as have rested, can be sent so -/
theorem ex_ts {nb : Nat → Nat → Prop} {st : Nat → Nat} {q : Nat} (hq : ∀ i, i < q → st i = 0) : ∀ {m : Nat} {on fr : Nat → Nat}, cho nb (frL st m) on → c4 fr + min q m ≤ zsC st m → ∃ ts : Nat → Nat, okB nb st ts q m ∧ (∀ b, b < 4 → onC st ts m b = on b) ∧ ∀ b, b < 4 → frC st ts m b = fr b
  | 0, on, fr, hc, hf => by
    have hf : c4 fr + min q 0 ≤ 0 := hf
    have h0 := c4_0 (c := fr) (by omega)
    exact ⟨fun _ => 4, fun i hi => absurd hi (Nat.not_lt_zero i), fun b hb => (hc b hb).symm, fun b hb => (h0 b hb).symm⟩
  | m + 1, on, fr, hc, hf => by
    have rest : cho nb (frL st m) on → c4 fr + min q m ≤ zsC st m → ∃ ts : Nat → Nat, okB nb st ts q (m + 1) ∧ (∀ b, b < 4 → onC st ts (m + 1) b = on b) ∧ ∀ b, b < 4 → frC st ts (m + 1) b = fr b := fun k1 k2 => by
      obtain ⟨ts, g1, g2, g3⟩ := ex_ts hq k1 k2
      refine ⟨upt ts m 4, fun i hi => ?_, fun b hb => ?_, fun b hb => ?_⟩
      · by_cases e : i = m
        · rw [e, upt_me]; exact Or.inl rfl
        · rw [upt_ne e]; exact g1 i (by omega)
      · rw [onC_4 upt_me, onC_E (ts2 := ts) (fun i hi => upt_ne (by omega))]
        exact g2 b hb
      · rw [frC_4 upt_me, frC_E (ts2 := ts) (fun i hi => upt_ne (by omega))]
        exact g3 b hb
    by_cases o : st m % 2 = 1
    · have hqm : q ≤ m := Nat.le_of_not_lt (fun w => by have := hq m w; omega)
      rw [frL_o o] at hc
      rw [zsC_n (by omega)] at hf
      rcases hc with hc | ⟨to, k1, k2, k3, k4⟩
      · exact rest hc (by omega)
      · obtain ⟨ts, g1, g2, g3⟩ := ex_ts hq (fr := fr) k4 (by omega)
        refine ⟨upt ts m to, fun i hi => ?_, fun b hb => ?_, fun b hb => ?_⟩
        · by_cases e : i = m
          · rw [e, upt_me]; exact Or.inr ⟨hqm, k1, Or.inr ⟨o, k3⟩⟩
          · rw [upt_ne e]; exact g1 i (by omega)
        · rw [onC_y (by rw [upt_me]; exact k1) (by omega), upt_me, onC_E (ts2 := ts) (fun i hi => upt_ne (by omega))]
          show (if b = to then 1 else 0) + onC st ts m b = on b
          rw [g2 b hb]
          by_cases z : b = to
          · rw [if_pos z, if_pos z]
            rw [z]
            omega
          · rw [if_neg z, if_neg z]; omega
        · rw [frC_n (by omega), frC_E (ts2 := ts) (fun i hi => upt_ne (by omega))]
          exact g3 b hb
    · rw [frL_e o] at hc
      by_cases z0 : st m = 0
      · rw [zsC_z z0] at hf
        by_cases hr : c4 fr + min q m ≤ zsC st m
        · exact rest hc hr
        · have hqm : q ≤ m := by omega
          have hzq := zsC_q hq (m := m)
          obtain ⟨to, k1, k2⟩ := c4_p (c := fr) (by omega)
          have hd := c4_dec k1 k2
          obtain ⟨ts, g1, g2, g3⟩ := ex_ts hq (fr := fun x => if x = to then fr x - 1 else fr x) hc (by omega)
          refine ⟨upt ts m to, fun i hi => ?_, fun b hb => ?_, fun b hb => ?_⟩
          · by_cases e : i = m
            · rw [e, upt_me]; exact Or.inr ⟨hqm, k1, Or.inl z0⟩
            · rw [upt_ne e]; exact g1 i (by omega)
          · rw [onC_z z0, onC_E (ts2 := ts) (fun i hi => upt_ne (by omega))]
            exact g2 b hb
          · rw [frC_y (by rw [upt_me]; exact k1) z0, upt_me, frC_E (ts2 := ts) (fun i hi => upt_ne (by omega))]
            show (if b = to then 1 else 0) + frC st ts m b = fr b
            rw [g3 b hb]
            by_cases z : b = to
            · rw [if_pos z, if_pos z]
              rw [z]
              omega
            · rw [if_neg z, if_neg z]; omega
      · rw [zsC_n z0] at hf
        have hqm : q ≤ m := Nat.le_of_not_lt (fun w => z0 (hq m w))
        exact rest hc (by omega)
/-- the states behind: who is fresh, and how many have rested -/
theorem nx_fs {st ts y : Nat → Nat} : ∀ {m : Nat}, (∀ i, i < m → ts i ≤ 4) → (∀ i, i < m → y i = nxs (st i) (ts i)) → fsC y m = frC st ts m ∧ zsC y m + c4 (onC st ts m) + c4 (frC st ts m) = m
  | 0, _, _ => ⟨rfl, rfl⟩
  | m + 1, h, hy => by
    obtain ⟨i1, i2⟩ := nx_fs (st := st) (ts := ts) (y := y) (m := m) (fun i hi => h i (by omega)) (fun i hi => hy i (by omega))
    have h4 := h m (by omega)
    have hm := hy m (by omega)
    unfold nxs at hm
    by_cases q4 : ts m = 4
    · rw [if_pos q4] at hm
      rw [fsC_e (by omega), zsC_z hm, frC_4 q4, onC_4 q4, i1]
      exact ⟨rfl, by omega⟩
    · rw [if_neg q4] at hm
      by_cases z0 : st m = 0
      · rw [if_pos z0] at hm
        rw [fsC_o (by omega), zsC_n (by omega), frC_y (by omega) z0, onC_z z0, i1, hm, c4_ce (by omega), show (1 + 2 * ts m - 1) / 2 = ts m by omega]
        exact ⟨rfl, by omega⟩
      · rw [if_neg z0] at hm
        rw [fsC_e (by omega), zsC_n (by omega), frC_n z0, onC_y (by omega) z0, i1, c4_ce (by omega)]
        exact ⟨rfl, by omega⟩
/-- no way of going is less than the least -/
theorem LV_1 {nb : Nat → Nat → Prop} {rk : Nat → (Nat → Nat) → Nat} {G j q m : Nat} {st ts : Nat → Nat} (hk : ∀ j c d, (∀ b, b < 4 → c b = d b) → rk j c = rk j d) (hm : m ≤ 4) (hs : ∀ i, st i < 9) (hq : ∀ i, i < q → st i = 0) (hqm : q + G = m) (h : okB nb st ts q m) : LV nb rk G (j + 1) (spI (fsC st m)) (zsC st m - q) ≤ rk j (cadd (onC st ts m) (frC st ts m)) + LV nb rk G j (spI (frC st ts m)) (G - c4 (onC st ts m) - c4 (frC st ts m)) := by
  obtain ⟨h1, h2⟩ := ts_cho hq h
  have h3 := c4_of (st := st) (ts := ts) (m := m)
  have h4 := fsC_4 hs (m := m)
  obtain ⟨o1, o2, o3⟩ := spI_ok (c := onC st ts m) (by omega)
  obtain ⟨f1, f2, f3⟩ := spI_ok (c := frC st ts m) (by omega)
  obtain ⟨s1, s2, s3⟩ := spI_ok (c := fsC st m) (by omega)
  have i1 := LV_le (nb := nb) (rk := rk) (G := G) (j := j) (F := spI (fsC st m)) (r := zsC st m - q) o1 f1 (by
    rw [cnL_E s2]
    exact cho_E (fun b hb => (o2 b hb).symm) ((frL_cho hs).mp h1)) (by rw [f3]; omega)
  rw [hk j (fun b => cN (spI (onC st ts m)) b + cN (spI (frC st ts m)) b) (cadd (onC st ts m) (frC st ts m)) (fun b hb => by rw [o2 b hb, f2 b hb]; rfl), o3, f3] at i1
  exact i1
/-- and one is the least -/
theorem LV_2 {nb : Nat → Nat → Prop} {rk : Nat → (Nat → Nat) → Nat} {G j q m : Nat} {st : Nat → Nat} (hk : ∀ j c d, (∀ b, b < 4 → c b = d b) → rk j c = rk j d) (hr : ∀ j c, rk j c ≤ 100000) (hj : j ≤ 90) (hm : m ≤ 4) (hs : ∀ i, st i < 9) (hq : ∀ i, i < q → st i = 0) (hqm : q + G = m) : ∃ ts : Nat → Nat, okB nb st ts q m ∧ LV nb rk G (j + 1) (spI (fsC st m)) (zsC st m - q) = rk j (cadd (onC st ts m) (frC st ts m)) + LV nb rk G j (spI (frC st ts m)) (G - c4 (onC st ts m) - c4 (frC st ts m)) := by
  obtain ⟨on, fr, h1, h2, h3, h5, h6⟩ := LV_at (nb := nb) (rk := rk) (G := G) (j := j) (F := spI (fsC st m)) (r := zsC st m - q) hr hj
  have h4 := fsC_4 hs (m := m)
  obtain ⟨s1, s2, s3⟩ := spI_ok (c := fsC st m) (by omega)
  have f0 := c4_sz h2
  have o0 := c4_sz h1
  have hz : ∀ m, m ≤ q → zsC st m = m := fun m => by
    induction m with
    | zero => exact fun _ => rfl
    | succ m ih => exact fun h => by rw [zsC_z (hq m (by omega)), ih (by omega)]
  have hz2 : q ≤ zsC st m := by
    have e := hz q (Nat.le_refl _)
    have up : ∀ n, zsC st q ≤ zsC st (q + n) := fun n => by
      induction n with
      | zero => exact Nat.le_refl _
      | succ n ih =>
        rw [show q + (n + 1) = (q + n) + 1 by omega]
        by_cases z : st (q + n) = 0
        · rw [zsC_z z]; omega
        · rw [zsC_n z]; exact ih
    have := up G
    rw [hqm] at this
    omega
  rw [cnL_E s2] at h3
  obtain ⟨ts, g1, g2, g3⟩ := ex_ts hq (on := cN on) (fr := cN fr) ((frL_cho hs).mpr h3) (by omega)
  refine ⟨ts, g1, ?_⟩
  rw [h6, hk j (cadd (onC st ts m) (frC st ts m)) (fun b => cN on b + cN fr b) (fun b hb => by show onC st ts m b + frC st ts m b = _; rw [g2 b hb, g3 b hb]), c4_E g2, c4_E g3, spI_E g3, spI_c h2, f0, o0]
end
