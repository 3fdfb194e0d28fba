noncomputable section
/-- a guard's state as the class bears it: 4 rested, a beach if fresh there, 5 tired -/
def lr (s : Nat) : Int := if s = 0 then 4 else if s % 2 = 1 then (((s - 1) / 2 : Nat) : Int) else 5
/-- a place as the class bears it -/
def rpv (t : Nat) : Int := if t = 4 then -9 else (t : Int)
theorem lr_c {s : Nat} (h9 : s < 9) : (s = 0 ∧ lr s = 4) ∨ (s % 2 = 1 ∧ lr s = (((s - 1) / 2 : Nat) : Int)) ∨ (¬ s = 0 ∧ s % 2 = 0 ∧ lr s = 5) := by
  unfold lr
  by_cases q : s = 0
  · rw [if_pos q]; exact Or.inl ⟨q, rfl⟩
  · rw [if_neg q]
    by_cases q2 : s % 2 = 1
    · rw [if_pos q2]; exact Or.inr (Or.inl ⟨q2, rfl⟩)
    · rw [if_neg q2]; exact Or.inr (Or.inr ⟨q, by omega, rfl⟩)
def mgS (nb : Nat → Nat → Prop) (s t : Nat) : Prop := s = 0 ∨ (s % 2 = 1 ∧ nb ((s - 1) / 2) t)
/-- who go on, who begin, of the first m guards -/
def onC (st ts : Nat → Nat) : Nat → Nat → Nat
  | 0 => fun _ => 0
  | m + 1 => if ts m < 4 ∧ ¬ st m = 0 then cadd (ce (ts m)) (onC st ts m) else onC st ts m
def frC (st ts : Nat → Nat) : Nat → Nat → Nat
  | 0 => fun _ => 0
  | m + 1 => if ts m < 4 ∧ st m = 0 then cadd (ce (ts m)) (frC st ts m) else frC st ts m
theorem onC_E {st ts ts2 : Nat → Nat} : ∀ {m : Nat}, (∀ i, i < m → ts i = ts2 i) → onC st ts m = onC st ts2 m
  | 0, _ => rfl
  | m + 1, h => by rw [onC, onC, onC_E (fun i hi => h i (by omega)), h m (by omega)]
theorem frC_E {st ts ts2 : Nat → Nat} : ∀ {m : Nat}, (∀ i, i < m → ts i = ts2 i) → frC st ts m = frC st ts2 m
  | 0, _ => rfl
  | m + 1, h => by rw [frC, frC, frC_E (fun i hi => h i (by omega)), h m (by omega)]
theorem onC_4 {st ts : Nat → Nat} {m : Nat} (h : ts m = 4) : onC st ts (m + 1) = onC st ts m := by
  rw [onC]
  exact if_neg (fun z => absurd z.1 (by omega))
theorem onC_z {st ts : Nat → Nat} {m : Nat} (h : st m = 0) : onC st ts (m + 1) = onC st ts m := by
  rw [onC]
  exact if_neg (fun z => z.2 h)
theorem onC_y {st ts : Nat → Nat} {m : Nat} (h : ts m < 4) (h2 : ¬ st m = 0) : onC st ts (m + 1) = cadd (ce (ts m)) (onC st ts m) := by
  rw [onC]
  exact if_pos ⟨h, h2⟩
theorem frC_4 {st ts : Nat → Nat} {m : Nat} (h : ts m = 4) : frC st ts (m + 1) = frC st ts m := by
  rw [frC]
  exact if_neg (fun z => absurd z.1 (by omega))
theorem frC_n {st ts : Nat → Nat} {m : Nat} (h : ¬ st m = 0) : frC st ts (m + 1) = frC st ts m := by
  rw [frC]
  exact if_neg (fun z => h z.2)
theorem frC_y {st ts : Nat → Nat} {m : Nat} (h : ts m < 4) (h2 : st m = 0) : frC st ts (m + 1) = cadd (ce (ts m)) (frC st ts m) := by
  rw [frC]
  exact if_pos ⟨h, h2⟩
theorem onC_g {st ts : Nat → Nat} {m : Nat} (h : ¬ ts m < 4) : onC st ts (m + 1) = onC st ts m := by
  rw [onC]
  exact if_neg (fun z => h z.1)
theorem frC_g {st ts : Nat → Nat} {m : Nat} (h : ¬ ts m < 4) : frC st ts (m + 1) = frC st ts m := by
  rw [frC]
  exact if_neg (fun z => h z.1)
theorem c4_ce {b : Nat} {c : Nat → Nat} (hb : b < 4) : c4 (cadd (ce b) c) = c4 c + 1 := by
  unfold c4 cadd ce
  rcases (show b = 0 ∨ b = 1 ∨ b = 2 ∨ b = 3 by omega) with rfl | rfl | rfl | rfl
  · rw [if_pos rfl, if_neg (by decide), if_neg (by decide), if_neg (by decide)]; omega
  · rw [if_neg (by decide), if_pos rfl, if_neg (by decide), if_neg (by decide)]; omega
  · rw [if_neg (by decide), if_neg (by decide), if_pos rfl, if_neg (by decide)]; omega
  · rw [if_neg (by decide), if_neg (by decide), if_neg (by decide), if_pos rfl]; omega
theorem c4_of {st ts : Nat → Nat} : ∀ {m : Nat}, c4 (onC st ts m) + c4 (frC st ts m) ≤ m
  | 0 => Nat.le_refl _
  | m + 1 => by
    have ih := c4_of (st := st) (ts := ts) (m := m)
    by_cases q : ts m < 4
    · by_cases q2 : st m = 0
      · rw [onC_z q2, frC_y q q2, c4_ce q]
        omega
      · rw [onC_y q q2, frC_n q2, c4_ce q]
        omega
    · rw [onC_g q, frC_g q]
      omega
def cd5 (c : Nat → Nat) : Nat := c 0 + 5 * c 1 + 25 * c 2 + 125 * c 3
theorem cd5_ce {b : Nat} {c : Nat → Nat} (hb : b < 4) : cd5 (cadd (ce b) c) = cd5 c + p5 b := by
  unfold cd5 cadd ce
  rcases (show b = 0 ∨ b = 1 ∨ b = 2 ∨ b = 3 by omega) with rfl | rfl | rfl | rfl
  · have e : p5 0 = 1 := rfl
    rw [if_pos rfl, if_neg (by decide), if_neg (by decide), if_neg (by decide)]; omega
  · have e : p5 1 = 5 := rfl
    rw [if_neg (by decide), if_pos rfl, if_neg (by decide), if_neg (by decide)]; omega
  · have e : p5 2 = 25 := rfl
    rw [if_neg (by decide), if_neg (by decide), if_pos rfl, if_neg (by decide)]; omega
  · have e : p5 3 = 125 := rfl
    rw [if_neg (by decide), if_neg (by decide), if_neg (by decide), if_pos rfl]; omega
theorem cd5_le {c : Nat → Nat} : cd5 c ≤ 125 * c4 c := by
  unfold cd5 c4
  omega
theorem spI_cd {c : Nat → Nat} : spI c = spN (cd5 c) := rfl
theorem cd5_add {c d : Nat → Nat} : cd5 (cadd c d) = cd5 c + cd5 d := by
  unfold cd5 cadd
  omega
theorem c4_add {c d : Nat → Nat} : c4 (cadd c d) = c4 c + c4 d := by
  unfold c4 cadd
  omega
def okAn (nb : Nat → Nat → Prop) (st ts : Nat → Nat) (m : Nat) : Prop := ∀ i : Nat, i < m → ts i = 4 ∨ (ts i < 4 ∧ mgS nb (st i) (ts i))
def dg (G : Nat) (ts : Nat → Nat) (i : Nat) : Nat := if i < G then ts i else 4
def nmb (G : Nat) (ts : Nat → Nat) : Nat := 125 * dg G ts 0 + 25 * dg G ts 1 + 5 * dg G ts 2 + dg G ts 3
theorem nmb_lt {G g : Nat} {ts ts2 : Nat → Nat} (hG : G ≤ 4) (hg : g < G) (he : ∀ i, i < g → ts i = ts2 i) (hl : ts g < ts2 g) (h4 : ∀ i, i < G → ts i ≤ 4) : nmb G ts < nmb G ts2 := by
  have d4 : ∀ i, dg G ts i ≤ 4 := fun i => by
    unfold dg
    split
    · exact h4 i (by assumption)
    · exact Nat.le_refl _
  have dE : ∀ i, i < g → dg G ts i = dg G ts2 i := fun i hi => by
    unfold dg
    rw [if_pos (by omega), if_pos (by omega), he i hi]
  have dL : dg G ts g < dg G ts2 g := by
    unfold dg
    rw [if_pos hg, if_pos hg]; exact hl
  have a0 := d4 0
  have a1 := d4 1
  have a2 := d4 2
  have a3 := d4 3
  unfold nmb
  rcases (show g = 0 ∨ g = 1 ∨ g = 2 ∨ g = 3 by omega) with rfl | rfl | rfl | rfl
  · omega
  · have := dE 0 (by omega)
    omega
  · have := dE 0 (by omega)
    have := dE 1 (by omega)
    omega
  · have := dE 0 (by omega)
    have := dE 1 (by omega)
    have := dE 2 (by omega)
    omega
def vsT (nb : Nat → Nat → Prop) (OK : (Nat → Nat) → (Nat → Nat) → Prop) (st : Nat → Nat) (G g : Nat) (p ts : Nat → Nat) : Prop := (∀ i : Nat, i < g → ts i = p i) ∧ okAn nb st ts G ∧ OK (onC st ts G) (frC st ts G)
/-- the first way that keeps to what is due -/
def isF (nb : Nat → Nat → Prop) (OK : (Nat → Nat) → (Nat → Nat) → Prop) (st : Nat → Nat) (G g : Nat) (p ts : Nat → Nat) : Prop := vsT nb OK st G g p ts ∧ ∀ ts2 : Nat → Nat, vsT nb OK st G g p ts2 → nmb G ts ≤ nmb G ts2
def upt (p : Nat → Nat) (g k : Nat) : Nat → Nat := fun i => if i = g then k else p i
theorem upt_me {p : Nat → Nat} {g k : Nat} : upt p g k g = k := if_pos rfl
theorem upt_ne {p : Nat → Nat} {g k i : Nat} (h : ¬ i = g) : upt p g k i = p i := if_neg h
section PLC
variable {nb : Nat → Nat → Prop} {OK : (Nat → Nat) → (Nat → Nat) → Prop} {st p ts : Nat → Nat} {G g k : Nat}
theorem vs_up (h : vsT nb OK st G g p ts) : vsT nb OK st G (g + 1) (upt p g (ts g)) ts := ⟨fun i hi => by
  by_cases q : i = g
  · rw [q, upt_me]
  · rw [upt_ne q]; exact h.1 i (by omega), h.2⟩
theorem vs_dn (h : vsT nb OK st G (g + 1) (upt p g k) ts) : vsT nb OK st G g p ts ∧ ts g = k := ⟨⟨fun i hi => by
  rw [h.1 i (by omega), upt_ne (by omega)], h.2⟩, by rw [h.1 g (by omega), upt_me]⟩
/-- the first of those that begin with k, if none begins with less -/
theorem isF_up (hG : G ≤ 4) (hg : g < G) (h : isF nb OK st G (g + 1) (upt p g k) ts) (hk : ∀ ts2, vsT nb OK st G g p ts2 → k ≤ ts2 g) : isF nb OK st G g p ts := by
  obtain ⟨h1, h2⟩ := vs_dn h.1
  refine ⟨h1, fun ts2 hv => ?_⟩
  have h3 := hk ts2 hv
  by_cases q : ts2 g = k
  · have h4 := vs_up hv
    rw [q] at h4
    exact h.2 ts2 h4
  · refine Nat.le_of_lt (nmb_lt hG hg (fun i hi => by rw [h1.1 i hi, hv.1 i hi]) (by omega) (fun i hi => ?_))
    rcases h1.2.1 i hi with q2 | q2
    · omega
    · omega
theorem nx_no (hg : g < G) (hk4 : k < 4) (hk : ∀ ts2, vsT nb OK st G g p ts2 → k ≤ ts2 g) (hn : ¬ mgS nb (st g) k ∨ ∀ ts2, ¬ vsT nb OK st G (g + 1) (upt p g k) ts2) : ∀ ts2, vsT nb OK st G g p ts2 → k + 1 ≤ ts2 g := fun ts2 hv => by
  have h1 := hk ts2 hv
  by_cases q : ts2 g = k
  · exfalso
    rcases hn with hn | hn
    · rcases hv.2.1 g hg with z | z
      · omega
      · rw [q] at z
        exact hn z.2
    · have h4 := vs_up hv
      rw [q] at h4
      exact hn ts2 h4
  · omega
theorem nx_4 (hg : g < G) (hk : ∀ ts2, vsT nb OK st G g p ts2 → 4 ≤ ts2 g) (hn : ∀ ts2, ¬ vsT nb OK st G (g + 1) (upt p g 4) ts2) : ∀ ts2, ¬ vsT nb OK st G g p ts2 := fun ts2 hv => by
  have h1 := hk ts2 hv
  have h2 : ts2 g = 4 := by
    rcases hv.2.1 g hg with z | z <;> omega
  have h4 := vs_up hv
  rw [h2] at h4
  exact hn ts2 h4
theorem onC_up (hk : k < 4) : cd5 (onC st (upt p g k) (g + 1)) = (if st g = 0 then cd5 (onC st p g) else cd5 (onC st p g) + p5 k) ∧ cd5 (frC st (upt p g k) (g + 1)) = (if st g = 0 then cd5 (frC st p g) + p5 k else cd5 (frC st p g)) := by
  have e1 : onC st (upt p g k) g = onC st p g := onC_E (fun i hi => upt_ne (by omega))
  have e2 : frC st (upt p g k) g = frC st p g := frC_E (fun i hi => upt_ne (by omega))
  have hk2 : upt p g k g < 4 := by rw [upt_me]; exact hk
  by_cases q : st g = 0
  · rw [onC_z q, frC_y hk2 q, upt_me, e1, e2, if_pos q, if_pos q, cd5_ce hk]
    exact ⟨rfl, rfl⟩
  · rw [onC_y hk2 q, frC_n q, upt_me, e1, e2, if_neg q, if_neg q, cd5_ce hk]
    exact ⟨rfl, rfl⟩
theorem onC_up4 : cd5 (onC st (upt p g 4) (g + 1)) = cd5 (onC st p g) ∧ cd5 (frC st (upt p g 4) (g + 1)) = cd5 (frC st p g) := by
  have e1 : onC st (upt p g 4) g = onC st p g := onC_E (fun i hi => upt_ne (by omega))
  have e2 : frC st (upt p g 4) g = frC st p g := frC_E (fun i hi => upt_ne (by omega))
  rw [onC_4 upt_me, frC_4 upt_me, e1, e2]
  exact ⟨rfl, rfl⟩
theorem okA_up (h : okAn nb st p g) (hk : k = 4 ∨ (k < 4 ∧ mgS nb (st g) k)) : okAn nb st (upt p g k) (g + 1) := fun i hi => by
  by_cases q : i = g
  · rw [q, upt_me]; exact hk
  · rw [upt_ne q]; exact h i (by omega)
theorem vs_leaf (h : okAn nb st p G) : vsT nb OK st G G p ts ↔ (∀ i, i < G → ts i = p i) ∧ OK (onC st p G) (frC st p G) := by
  constructor
  · rintro ⟨h1, _, h3⟩
    rw [onC_E h1, frC_E h1] at h3
    exact ⟨h1, h3⟩
  · rintro ⟨h1, h3⟩
    refine ⟨h1, fun i hi => by rw [h1 i hi]; exact h i hi, ?_⟩
    rw [onC_E h1, frC_E h1]
    exact h3
theorem nmb_E {ts2 : Nat → Nat} (h : ∀ i, i < G → ts i = ts2 i) : nmb G ts = nmb G ts2 := by
  have e : ∀ i, dg G ts i = dg G ts2 i := fun i => by
    unfold dg
    split
    · exact h i (by assumption)
    · rfl
  unfold nmb
  rw [e, e, e, e]
end PLC
def stU (st : Nat → Nat) : Prop := ∀ i : Nat, i < 4 → st i < 9
def plU (pl : Nat → Int32) : Prop := ∀ j : Nat, j < 24 → ((pl j).toInt = -9 ∨ (0 ≤ (pl j).toInt ∧ (pl j).toInt ≤ 3))
theorem ct_mg {g fk pf pt pr : Int32} {mi : Nat → Int32} {x y : Int32} {sN bN : Nat} (hmi : miH mi) (hs9 : sN < 9) (hx : x.toInt = lr sN) (hy : y.toInt = (bN : Int)) (hb : bN < 4) : cx_Ct 3 58 [.inr (.inl 43), .inl (.int x), .inl (.int y)] ([(43, .inl (4, [.inr (.inl 2), .inr (.inl 44), .inr (.inl 45), .inr (.inl 46), .inr (.inl 47), .inr (.inl 48), .inr (.inl 49), .inr (.inl 50), .inr (.inl 57), .inr (.inl 58), .inr (.inl 66), .inr (.inl 67), .inl (.int g), .inl (.int fk), .inl (.int pf), .inl (.int pt), .inl (.int pr)])), (44, .inr (.inl (0, 4, mi)))]) (fun v h2 => ∃ z : Int32, v = some (.inl (.int z)) ∧ h2 = [(43, .inl (4, [.inr (.inl 2), .inr (.inl 44), .inr (.inl 45), .inr (.inl 46), .inr (.inl 47), .inr (.inl 48), .inr (.inl 49), .inr (.inl 50), .inr (.inl 57), .inr (.inl 58), .inr (.inl 66), .inr (.inl 67), .inl (.int g), .inl (.int fk), .inl (.int pf), .inl (.int pt), .inl (.int pr)])), (44, .inr (.inl (0, 4, mi)))] ∧ (z = Int32.ofInt 1 ∧ mgS (nbF mi) sN bN ∨ z = Int32.ofInt 0 ∧ ¬ mgS (nbF mi) sN bN)) := by
  have kc4 : (Int32.ofInt 4).toInt = 4 := by decide +kernel
  have kc5 : (Int32.ofInt 5).toInt = 5 := by decide +kernel
  have kc1 : (Int32.ofInt 1).toInt = 1 := by decide +kernel
  have kc0 : (Int32.ofInt 0).toInt = 0 := by decide +kernel
  have hc := lr_c hs9
  rw [← hx] at hc
  refine cx_Ct.of cg_58 (nL := 3) rfl rfl rfl ?_
  show cx_T 3 58 [43, 44] 0 ([some (.inr (.inl 43)), some (.inl (.int x)), some (.inl (.int y))], [], ([(43, .inl (4, [.inr (.inl 2), .inr (.inl 44), .inr (.inl 45), .inr (.inl 46), .inr (.inl 47), .inr (.inl 48), .inr (.inl 49), .inr (.inl 50), .inr (.inl 57), .inr (.inl 58), .inr (.inl 66), .inr (.inl 67), .inl (.int g), .inl (.int fk), .inl (.int pf), .inl (.int pt), .inl (.int pr)])), (44, .inr (.inl (0, 4, mi)))])) _
  refine ex_iload_n cg_58 (ix := 0) (pc' := 1) rfl rfl rfl ?_
  refine ex_iconst cg_58 (ix := 1) (pc' := 2) rfl rfl ?_
  refine ex_icmp cg_58 (ix := 2) (t := 19) (pc' := 5) rfl rfl rfl (fun hb2 => ?_) (fun hb2 => ?_)
  · have hb2 : x.toInt = (Int32.ofInt 4).toInt := hb2
    refine ex_iconst cg_58 (ix := 11) (pc' := 20) rfl rfl ?_
    refine ex_goto cg_58 (ix := 12) (pc' := 24) rfl rfl ?_
    refine ex_zreturn cg_58 (ix := 14) rfl (by first | exact Or.inl rfl | exact Or.inr rfl | (omega)) ?_
    exact ⟨_, rfl, rfl, Or.inl ⟨rfl, by
      first
      | exact Or.inl (by omega)
      | exact Or.inr ⟨by omega, hnr⟩⟩⟩
  · have hb2 : ¬ (x.toInt = (Int32.ofInt 4).toInt) := hb2
    refine ex_iload_n cg_58 (ix := 3) (pc' := 6) rfl rfl rfl ?_
    refine ex_iconst cg_58 (ix := 4) (pc' := 7) rfl rfl ?_
    refine ex_icmp cg_58 (ix := 5) (t := 23) (pc' := 10) rfl rfl rfl (fun hb7 => ?_) (fun hb7 => ?_)
    · have hb7 : x.toInt = (Int32.ofInt 5).toInt := hb7
      refine ex_iconst cg_58 (ix := 13) (pc' := 24) rfl rfl ?_
      refine ex_zreturn cg_58 (ix := 14) rfl (by first | exact Or.inl rfl | exact Or.inr rfl | (omega)) ?_
      exact ⟨_, rfl, rfl, Or.inr ⟨rfl, fun q => by
        unfold lr at hx
        rcases q with q | ⟨q1, q2⟩
        · rw [if_pos q] at hx
          omega
        · rw [if_neg (by omega), if_pos q1] at hx
          first
          | omega
          | exact hnr q2⟩⟩
    · have hb7 : ¬ (x.toInt = (Int32.ofInt 5).toInt) := hb7
      refine ex_aload_n cg_58 (ix := 6) (pc' := 11) rfl rfl rfl ?_
      refine ex_iload_n cg_58 (ix := 7) (pc' := 12) rfl rfl rfl ?_
      refine ex_iload_n cg_58 (ix := 8) (pc' := 13) rfl rfl rfl ?_
      refine ex_callV cg_58 (ix := 9) (pc' := 16) (As := [.inl (.int x), .inl (.int y)]) (r := []) rfl rfl rfl (ct_nr (g := g) (fk := fk) (pf := pf) (pt := pt) (pr := pr) (mi := mi) (x := x) (y := y) (bN := (sN - 1) / 2) (tN := bN) hmi (by omega) (by omega) hy hb) (by first | decide | omega) rfl rfl rfl ⟨rfl, rfl, trivial⟩ rfl rfl (fun v h2 hq => ?_)
      obtain ⟨z2, rfl, rfl, hz2⟩ := hq
      rcases hz2 with ⟨rfl, hnr⟩ | ⟨rfl, hnr⟩
      · show cx_T _ 58 _ 16 ([some (.inr (.inl 43)), some (.inl (.int x)), some (.inl (.int y))], [.inl (.int (Int32.ofInt 1))], [(43, .inl (4, [.inr (.inl 2), .inr (.inl 44), .inr (.inl 45), .inr (.inl 46), .inr (.inl 47), .inr (.inl 48), .inr (.inl 49), .inr (.inl 50), .inr (.inl 57), .inr (.inl 58), .inr (.inl 66), .inr (.inl 67), .inl (.int g), .inl (.int fk), .inl (.int pf), .inl (.int pt), .inl (.int pr)])), (44, .inr (.inl (0, 4, mi)))]) _
        refine ex_if cg_58 (ix := 10) (t := 23) (pc' := 19) rfl rfl rfl (fun hb16 => ?_) (fun hb16 => ?_)
        · have hb16 : (Int32.ofInt 1).toInt = 0 := hb16
          exfalso; first | omega | exact absurd hb16 (by decide +kernel)
        · have hb16 : ¬ ((Int32.ofInt 1).toInt = 0) := hb16
          refine ex_iconst cg_58 (ix := 11) (pc' := 20) rfl rfl ?_
          refine ex_goto cg_58 (ix := 12) (pc' := 24) rfl rfl ?_
          refine ex_zreturn cg_58 (ix := 14) rfl (by first | exact Or.inl rfl | exact Or.inr rfl | (omega)) ?_
          exact ⟨_, rfl, rfl, Or.inl ⟨rfl, by
            first
            | exact Or.inl (by omega)
            | exact Or.inr ⟨by omega, hnr⟩⟩⟩
      · show cx_T _ 58 _ 16 ([some (.inr (.inl 43)), some (.inl (.int x)), some (.inl (.int y))], [.inl (.int (Int32.ofInt 0))], [(43, .inl (4, [.inr (.inl 2), .inr (.inl 44), .inr (.inl 45), .inr (.inl 46), .inr (.inl 47), .inr (.inl 48), .inr (.inl 49), .inr (.inl 50), .inr (.inl 57), .inr (.inl 58), .inr (.inl 66), .inr (.inl 67), .inl (.int g), .inl (.int fk), .inl (.int pf), .inl (.int pt), .inl (.int pr)])), (44, .inr (.inl (0, 4, mi)))]) _
        refine ex_if cg_58 (ix := 10) (t := 23) (pc' := 19) rfl rfl rfl (fun hb16 => ?_) (fun hb16 => ?_)
        · have hb16 : (Int32.ofInt 0).toInt = 0 := hb16
          refine ex_iconst cg_58 (ix := 13) (pc' := 24) rfl rfl ?_
          refine ex_zreturn cg_58 (ix := 14) rfl (by first | exact Or.inl rfl | exact Or.inr rfl | (omega)) ?_
          exact ⟨_, rfl, rfl, Or.inr ⟨rfl, fun q => by
            unfold lr at hx
            rcases q with q | ⟨q1, q2⟩
            · rw [if_pos q] at hx
              omega
            · rw [if_neg (by omega), if_pos q1] at hx
              first
              | omega
              | exact hnr q2⟩⟩
        · have hb16 : ¬ ((Int32.ofInt 0).toInt = 0) := hb16
          exfalso; first | omega | exact absurd hb16 (by decide +kernel)
/-- what is due, kept to -/
def okD (rkc : (Nat → Nat) → Nat) (Lv : Nat → Nat → Nat) (G D : Nat) (on fr : Nat → Nat) : Prop := rkc (cadd on fr) + Lv (spI fr) (G - c4 on - c4 fr) = D
def PFC (g fk pf pt pr : Int32) (mi cd sz sp th fo go la : Nat → Int32) (R L hd : Nat → Nat → Int32) (x du : Int32) (xN gN D : Nat) (rkc : (Nat → Nat) → Nat) (Lv : Nat → Nat → Nat) (st : Nat → Nat) (m : Nat) : Prop := ∀ (pl : Nat → Int32) (y oc fc : Int32) (gd : Nat) (pp : Nat → Nat), plU pl → y.toInt = (gd : Int) → gd + m = gN → okAn (nbF mi) st pp gd → oc.toInt = ((cd5 (onC st pp gd) : Nat) : Int) → fc.toInt = ((cd5 (frC st pp gd) : Nat) : Int) → cx_Ct (4 + m) 59 [.inr (.inl 43), .inl (.int x), .inl (.int y), .inl (.int oc), .inl (.int fc), .inl (.int du)] (h_ro g fk pf pt pr mi cd sz sp th fo go la pl R L hd) (fun v h2 => ∃ (z : Int32) (pl2 : Nat → Int32), v = some (.inl (.int z)) ∧ h2 = h_ro g fk pf pt pr mi cd sz sp th fo go la pl2 R L hd ∧ plU pl2 ∧ (∀ j : Nat, ¬ (4 * xN + gd ≤ j ∧ j < 4 * xN + gN) → pl2 j = pl j) ∧ ((z = Int32.ofInt 1 ∧ ∃ ts : Nat → Nat, isF (nbF mi) (okD rkc Lv gN D) st gN gd pp ts ∧ ∀ i : Nat, gd ≤ i → i < gN → (pl2 (4 * xN + i)).toInt = rpv (ts i)) ∨ (z = Int32.ofInt 0 ∧ ∀ ts : Nat → Nat, ¬ vsT (nbF mi) (okD rkc Lv gN D) st gN gd pp ts)))
theorem pf_leaf {g fk pf pt pr : Int32} {mi cd sz sp th fo go la : Nat → Int32} {R L hd : Nat → Nat → Int32} {x du : Int32} {xN gN D : Nat} {rkc : (Nat → Nat) → Nat} {Lv : Nat → Nat → Nat} {st : Nat → Nat} (hsz : szH sz) (hsp : spH sp) (hmi : miH mi) (hx : x.toInt = (xN : Int)) (hx6 : xN < 6) (hg : g.toInt = (gN : Int)) (hg4 : gN ≤ 4) (hdu : du.toInt = (D : Int)) (hR : ∀ s : Nat, s < 70 → (R xN s).toInt = ((rkc (cN s) : Nat) : Int)) (hkc : ∀ c e : Nat → Nat, (∀ b, b < 4 → c b = e b) → rkc c = rkc e) (hkb : ∀ c : Nat → Nat, rkc c ≤ 100000) (hL : ∀ f r : Nat, f < 70 → szN f + r ≤ gN → (L (xN + 1) (5 * f + r)).toInt = ((Lv f r : Nat) : Int)) (hLb : ∀ f r : Nat, Lv f r ≤ 1000000) (hst : stU st) (hla : ∀ i : Nat, i < gN → (la i).toInt = lr (st i)) : PFC g fk pf pt pr mi cd sz sp th fo go la R L hd x du xN gN D rkc Lv st 0 := by
  intro pl y oc fc gd pp hpl hy hgm hok hoc hfc
  have egd : gN = gd := by omega
  subst egd
  have kcm9 : (Int32.ofInt (-9)).toInt = -9 := by decide +kernel
  have kc0 : (Int32.ofInt 0).toInt = 0 := by decide +kernel
  have kc1 : (Int32.ofInt 1).toInt = 1 := by decide +kernel
  have kc4 : (Int32.ofInt 4).toInt = 4 := by decide +kernel
  have kc5 : (Int32.ofInt 5).toInt = 5 := by decide +kernel
  have c0 := c4_of (st := st) (ts := pp) (m := gN)
  have on4 := cd5_le (c := onC st pp gN)
  have fr4 := cd5_le (c := frC st pp gN)
  obtain ⟨on1, on2, on3⟩ := spI_ok (c := onC st pp gN) (by omega)
  obtain ⟨fr1, fr2, fr3⟩ := spI_ok (c := frC st pp gN) (by omega)
  obtain ⟨al1, al2, al3⟩ := spI_ok (c := cadd (onC st pp gN) (frC st pp gN)) (by rw [c4_add]; omega)
  have hso : (sp oc.toNatClampNeg).toInt = ((spI (onC st pp gN) : Nat) : Int) := by
    rw [cx_clamp hoc]
    exact hsp _ (by omega)
  have hsf : (sp fc.toNatClampNeg).toInt = ((spI (frC st pp gN) : Nat) : Int) := by
    rw [cx_clamp hfc]
    exact hsp _ (by omega)
  have hzo : (sz (sp oc.toNatClampNeg).toNatClampNeg).toInt = ((c4 (onC st pp gN) : Nat) : Int) := by
    rw [cx_clamp hso, hsz _ on1, on3]
  have hzf : (sz (sp fc.toNatClampNeg).toNatClampNeg).toInt = ((c4 (frC st pp gN) : Nat) : Int) := by
    rw [cx_clamp hsf, hsz _ fr1, fr3]
  have hof : (oc + fc).toInt = ((cd5 (cadd (onC st pp gN) (frC st pp gN)) : Nat) : Int) := by
    rw [cx_addc (by omega) (by omega), cd5_add]
    omega
  have hal : cd5 (cadd (onC st pp gN) (frC st pp gN)) < 625 := by
    rw [cd5_add]
    omega
  have hsa : (sp (oc + fc).toNatClampNeg).toInt = ((spI (cadd (onC st pp gN) (frC st pp gN)) : Nat) : Int) := by
    rw [cx_clamp hof]
    exact hsp _ hal
  have hra : (R xN (sp (oc + fc).toNatClampNeg).toNatClampNeg).toInt = ((rkc (cadd (onC st pp gN) (frC st pp gN)) : Nat) : Int) := by
    rw [cx_clamp hsa, hR _ al1, hkc _ _ al2]
  have hx1 : (x + Int32.ofInt 1).toInt = ((xN + 1 : Nat) : Int) := by
    rw [cx_addc (by omega) (by omega)]
    omega
  have hg1 : (g - sz (sp oc.toNatClampNeg).toNatClampNeg).toInt = g.toInt - ((c4 (onC st pp gN) : Nat) : Int) := by
    rw [cx_subc (by omega) (by omega), hzo]
  have hg2 : (g - sz (sp oc.toNatClampNeg).toNatClampNeg - sz (sp fc.toNatClampNeg).toNatClampNeg).toInt = ((gN - c4 (onC st pp gN) - c4 (frC st pp gN) : Nat) : Int) := by
    rw [cx_subc (by omega) (by omega), hg1, hzf]
    omega
  have hs5 : (sp fc.toNatClampNeg * Int32.ofInt 5).toInt = 5 * (sp fc.toNatClampNeg).toInt := cx_mulk2 kc5 (by omega) (by omega)
  have hli : (sp fc.toNatClampNeg * Int32.ofInt 5 + (g - sz (sp oc.toNatClampNeg).toNatClampNeg - sz (sp fc.toNatClampNeg).toNatClampNeg)).toInt = ((5 * spI (frC st pp gN) + (gN - c4 (onC st pp gN) - c4 (frC st pp gN)) : Nat) : Int) := by
    rw [cx_addc (by omega) (by omega), hs5]
    omega
  have hlv : (L (xN + 1) (sp fc.toNatClampNeg * Int32.ofInt 5 + (g - sz (sp oc.toNatClampNeg).toNatClampNeg - sz (sp fc.toNatClampNeg).toNatClampNeg)).toNatClampNeg).toInt = ((Lv (spI (frC st pp gN)) (gN - c4 (onC st pp gN) - c4 (frC st pp gN)) : Nat) : Int) := by
    rw [cx_clamp hli]
    exact hL _ _ fr1 (by rw [fr3]; omega)
  have hkb1 := hkb (cadd (onC st pp gN) (frC st pp gN))
  have hlb1 := hLb (spI (frC st pp gN)) (gN - c4 (onC st pp gN) - c4 (frC st pp gN))
  have hsum : (R xN (sp (oc + fc).toNatClampNeg).toNatClampNeg + L (xN + 1) (sp fc.toNatClampNeg * Int32.ofInt 5 + (g - sz (sp oc.toNatClampNeg).toNatClampNeg - sz (sp fc.toNatClampNeg).toNatClampNeg)).toNatClampNeg).toInt = ((rkc (cadd (onC st pp gN) (frC st pp gN)) + Lv (spI (frC st pp gN)) (gN - c4 (onC st pp gN) - c4 (frC st pp gN)) : Nat) : Int) := by
    rw [cx_addc (by omega) (by omega), hra, hlv]
    omega
  refine cx_Ct.of cg_59 (nL := 10) rfl rfl rfl ?_
  show cx_T 4 59 [43, 44, 45, 46, 47, 48, 49, 50, 51, 52, 53, 54, 55, 56, 57, 58, 59, 60, 61, 62, 63, 64, 65, 66, 67, 2, 5, 6, 7, 8, 9] 0 ([some (.inr (.inl 43)), some (.inl (.int x)), some (.inl (.int y)), some (.inl (.int oc)), some (.inl (.int fc)), some (.inl (.int du)), none, none, none, none], [], (h_ro g fk pf pt pr mi cd sz sp th fo go la pl R L hd)) _
  refine ex_iload_n cg_59 (ix := 0) (pc' := 1) rfl rfl rfl ?_
  refine ex_aload_n cg_59 (ix := 1) (pc' := 2) rfl rfl rfl ?_
  refine ex_getfield cg_59 (ix := 2) (pc' := 5) rfl rfl rfl rfl rfl ?_
  refine ex_icmp cg_59 (ix := 3) (t := 91) (pc' := 8) rfl rfl rfl (fun hb5 => ?_) (fun hb5 => ?_)
  · have hb5 : y.toInt < g.toInt := hb5
    exfalso; first | omega | exact absurd hb5 (by decide +kernel)
  · have hb5 : ¬ (y.toInt < g.toInt) := hb5
    refine ex_aload_n cg_59 (ix := 4) (pc' := 9) rfl rfl rfl ?_
    refine ex_getfield cg_59 (ix := 5) (pc' := 12) rfl rfl rfl rfl rfl ?_
    refine ex_iload_n cg_59 (ix := 6) (pc' := 13) rfl rfl rfl ?_
    refine ex_iaload cg_59 (ix := 7) (pc' := 14) rfl rfl (by omega) (by omega) rfl ?_
    refine ex_istore cg_59 (ix := 8) (pc' := 16) (L' := [some (.inr (.inl 43)), some (.inl (.int x)), some (.inl (.int y)), some (.inl (.int oc)), some (.inl (.int fc)), some (.inl (.int du)), some (.inl (.int (sp oc.toNatClampNeg))), none, none, none]) rfl rfl rfl rfl ?_
    refine ex_aload_n cg_59 (ix := 9) (pc' := 17) rfl rfl rfl ?_
    refine ex_getfield cg_59 (ix := 10) (pc' := 20) rfl rfl rfl rfl rfl ?_
    refine ex_iload cg_59 (ix := 11) (pc' := 22) rfl rfl rfl ?_
    refine ex_iaload cg_59 (ix := 12) (pc' := 23) rfl rfl (by omega) (by omega) rfl ?_
    refine ex_istore cg_59 (ix := 13) (pc' := 25) (L' := [some (.inr (.inl 43)), some (.inl (.int x)), some (.inl (.int y)), some (.inl (.int oc)), some (.inl (.int fc)), some (.inl (.int du)), some (.inl (.int (sp oc.toNatClampNeg))), some (.inl (.int (sp fc.toNatClampNeg))), none, none]) rfl rfl rfl rfl ?_
    refine ex_aload_n cg_59 (ix := 14) (pc' := 26) rfl rfl rfl ?_
    refine ex_getfield cg_59 (ix := 15) (pc' := 29) rfl rfl rfl rfl rfl ?_
    refine ex_aload_n cg_59 (ix := 16) (pc' := 30) rfl rfl rfl ?_
    refine ex_getfield cg_59 (ix := 17) (pc' := 33) rfl rfl rfl rfl rfl ?_
    refine ex_iload cg_59 (ix := 18) (pc' := 35) rfl rfl rfl ?_
    refine ex_iaload cg_59 (ix := 19) (pc' := 36) rfl rfl (by omega) (by omega) rfl ?_
    refine ex_isub cg_59 (ix := 20) (pc' := 37) rfl rfl ?_
    refine ex_aload_n cg_59 (ix := 21) (pc' := 38) rfl rfl rfl ?_
    refine ex_getfield cg_59 (ix := 22) (pc' := 41) rfl rfl rfl rfl rfl ?_
    refine ex_iload cg_59 (ix := 23) (pc' := 43) rfl rfl rfl ?_
    refine ex_iaload cg_59 (ix := 24) (pc' := 44) rfl rfl (by omega) (by omega) rfl ?_
    refine ex_isub cg_59 (ix := 25) (pc' := 45) rfl rfl ?_
    refine ex_istore cg_59 (ix := 26) (pc' := 47) (L' := [some (.inr (.inl 43)), some (.inl (.int x)), some (.inl (.int y)), some (.inl (.int oc)), some (.inl (.int fc)), some (.inl (.int du)), some (.inl (.int (sp oc.toNatClampNeg))), some (.inl (.int (sp fc.toNatClampNeg))), some (.inl (.int ((g - (sz (sp oc.toNatClampNeg).toNatClampNeg)) - (sz (sp fc.toNatClampNeg).toNatClampNeg)))), none]) rfl rfl rfl rfl ?_
    refine ex_aload_n cg_59 (ix := 27) (pc' := 48) rfl rfl rfl ?_
    refine ex_getfield cg_59 (ix := 28) (pc' := 51) rfl rfl rfl rfl rfl ?_
    refine ex_iload_n cg_59 (ix := 29) (pc' := 52) rfl rfl rfl ?_
    refine ex_aaload cg_59 (ix := 30) (pc' := 53) (k1 := (51 + xN)) rfl rfl (by omega) (rr_ix hx6 hx) rfl ?_
    refine ex_aload_n cg_59 (ix := 31) (pc' := 54) rfl rfl rfl ?_
    refine ex_getfield cg_59 (ix := 32) (pc' := 57) rfl rfl rfl rfl rfl ?_
    refine ex_iload_n cg_59 (ix := 33) (pc' := 58) rfl rfl rfl ?_
    refine ex_iload cg_59 (ix := 34) (pc' := 60) rfl rfl rfl ?_
    refine ex_iadd cg_59 (ix := 35) (pc' := 61) rfl rfl ?_
    refine ex_iaload cg_59 (ix := 36) (pc' := 62) rfl rfl (by omega) (by omega) rfl ?_
    refine ex_iaload cg_59 (ix := 37) (pc' := 63) rfl (rr_get (V := R) (by omega)) (by omega) (by omega) rfl ?_
    refine ex_aload_n cg_59 (ix := 38) (pc' := 64) rfl rfl rfl ?_
    refine ex_getfield cg_59 (ix := 39) (pc' := 67) rfl rfl rfl rfl rfl ?_
    refine ex_iload_n cg_59 (ix := 40) (pc' := 68) rfl rfl rfl ?_
    refine ex_iconst cg_59 (ix := 41) (pc' := 69) rfl rfl ?_
    refine ex_iadd cg_59 (ix := 42) (pc' := 70) rfl rfl ?_
    refine ex_aaload cg_59 (ix := 43) (pc' := 71) (k1 := (59 + (xN + 1))) rfl rfl (by omega) (ll_ix (by omega) hx1) rfl ?_
    refine ex_iload cg_59 (ix := 44) (pc' := 73) rfl rfl rfl ?_
    refine ex_iconst cg_59 (ix := 45) (pc' := 74) rfl rfl ?_
    refine ex_imul cg_59 (ix := 46) (pc' := 75) rfl rfl ?_
    refine ex_iload cg_59 (ix := 47) (pc' := 77) rfl rfl rfl ?_
    refine ex_iadd cg_59 (ix := 48) (pc' := 78) rfl rfl ?_
    refine ex_iaload cg_59 (ix := 49) (pc' := 79) rfl (ll_get (V := L) (by omega)) (by omega) (by omega) rfl ?_
    refine ex_iadd cg_59 (ix := 50) (pc' := 80) rfl rfl ?_
    refine ex_iload cg_59 (ix := 51) (pc' := 82) rfl rfl rfl ?_
    refine ex_icmp cg_59 (ix := 52) (t := 89) (pc' := 85) rfl rfl rfl (fun hb82 => ?_) (fun hb82 => ?_)
    · have hb82 : ¬ (((R xN) (sp (oc + fc).toNatClampNeg).toNatClampNeg) + ((L (xN + 1)) (((sp fc.toNatClampNeg) * (Int32.ofInt 5)) + ((g - (sz (sp oc.toNatClampNeg).toNatClampNeg)) - (sz (sp fc.toNatClampNeg).toNatClampNeg))).toNatClampNeg)).toInt = du.toInt := hb82
      refine ex_iconst cg_59 (ix := 55) (pc' := 90) rfl rfl ?_
      refine ex_zreturn cg_59 (ix := 56) rfl (by first | exact Or.inl rfl | exact Or.inr rfl | (omega)) ?_
      refine ⟨_, pl, rfl, rfl, hpl, fun _ _ => rfl, Or.inr ⟨rfl, fun ts h3 => ?_⟩⟩
      have hD := ((vs_leaf hok).mp h3).2
      unfold okD at hD
      rw [hsum, hdu] at hb82
      omega
    · have hb82 : ¬ (¬ (((R xN) (sp (oc + fc).toNatClampNeg).toNatClampNeg) + ((L (xN + 1)) (((sp fc.toNatClampNeg) * (Int32.ofInt 5)) + ((g - (sz (sp oc.toNatClampNeg).toNatClampNeg)) - (sz (sp fc.toNatClampNeg).toNatClampNeg))).toNatClampNeg)).toInt = du.toInt) := hb82
      refine ex_iconst cg_59 (ix := 53) (pc' := 86) rfl rfl ?_
      refine ex_goto cg_59 (ix := 54) (pc' := 90) rfl rfl ?_
      refine ex_zreturn cg_59 (ix := 56) rfl (by first | exact Or.inl rfl | exact Or.inr rfl | (omega)) ?_
      have hD : okD rkc Lv gN D (onC st pp gN) (frC st pp gN) := by
        unfold okD
        rw [hsum, hdu] at hb82
        omega
      exact ⟨_, pl, rfl, rfl, hpl, fun _ _ => rfl, Or.inl ⟨rfl, pp, ⟨(vs_leaf hok).mpr ⟨fun _ _ => rfl, hD⟩, fun ts2 h3 => Nat.le_of_eq (nmb_E (fun i hi => (((vs_leaf hok).mp h3).1 i hi).symm))⟩, fun i h1 h3 => absurd h1 (by omega)⟩⟩
theorem pf_loop {g fk pf pt pr : Int32} {mi cd sz sp th fo go la : Nat → Int32} {R L hd : Nat → Nat → Int32} {x du : Int32} {xN gN D : Nat} {rkc : (Nat → Nat) → Nat} {Lv : Nat → Nat → Nat} {st : Nat → Nat} {y oc fc rv : Int32} {gd mm : Nat} {pp : Nat → Nat} {pl : Nat → Int32} {P : Option cx_V → cx_H → Prop} (hsz : szH sz) (hsp : spH sp) (hmi : miH mi) (hx : x.toInt = (xN : Int)) (hx6 : xN < 6) (hg : g.toInt = (gN : Int)) (hg4 : gN ≤ 4) (hdu : du.toInt = (D : Int)) (hR : ∀ s : Nat, s < 70 → (R xN s).toInt = ((rkc (cN s) : Nat) : Int)) (hkc : ∀ c e : Nat → Nat, (∀ b, b < 4 → c b = e b) → rkc c = rkc e) (hkb : ∀ c : Nat → Nat, rkc c ≤ 100000) (hL : ∀ f r : Nat, f < 70 → szN f + r ≤ gN → (L (xN + 1) (5 * f + r)).toInt = ((Lv f r : Nat) : Int)) (hLb : ∀ f r : Nat, Lv f r ≤ 1000000) (hst : stU st) (hla : ∀ i : Nat, i < gN → (la i).toInt = lr (st i)) (hrec : PFC g fk pf pt pr mi cd sz sp th fo go la R L hd x du xN gN D rkc Lv st mm) (hy : y.toInt = (gd : Int)) (hgm : gd + (mm + 1) = gN) (hok : okAn (nbF mi) st pp gd) (hoc : oc.toInt = ((cd5 (onC st pp gd) : Nat) : Int)) (hfc : fc.toInt = ((cd5 (frC st pp gd) : Nat) : Int)) (hrv : rv.toInt = 0 ↔ ¬ st gd = 0) (hP : ∀ (z : Int32) (pl2 : Nat → Int32), (plU pl2 ∧ (∀ j : Nat, ¬ (4 * xN + gd ≤ j ∧ j < 4 * xN + gN) → pl2 j = pl j) ∧ ((z = Int32.ofInt 1 ∧ ∃ ts : Nat → Nat, isF (nbF mi) (okD rkc Lv gN D) st gN gd pp ts ∧ ∀ i : Nat, gd ≤ i → i < gN → (pl2 (4 * xN + i)).toInt = rpv (ts i)) ∨ (z = Int32.ofInt 0 ∧ ∀ ts : Nat → Nat, ¬ vsT (nbF mi) (okD rkc Lv gN D) st gN gd pp ts))) → P (some (.inl (.int z))) ([(43, .inl (4, [.inr (.inl 2), .inr (.inl 44), .inr (.inl 45), .inr (.inl 46), .inr (.inl 47), .inr (.inl 48), .inr (.inl 49), .inr (.inl 50), .inr (.inl 57), .inr (.inl 58), .inr (.inl 66), .inr (.inl 67), .inl (.int g), .inl (.int fk), .inl (.int pf), .inl (.int pt), .inl (.int pr)])), (44, .inr (.inl (0, 4, mi))), (45, .inr (.inl (0, 70, cd))), (46, .inr (.inl (0, 70, sz))), (47, .inr (.inl (0, 625, sp))), (48, .inr (.inl (0, 280, th))), (49, .inr (.inl (2, 4900, fo))), (50, .inr (.inr (.inr (3, [51, 52, 53, 54, 55, 56])))), (51, .inr (.inl (0, 70, R 0))), (52, .inr (.inl (0, 70, R 1))), (53, .inr (.inl (0, 70, R 2))), (54, .inr (.inl (0, 70, R 3))), (55, .inr (.inl (0, 70, R 4))), (56, .inr (.inl (0, 70, R 5))), (57, .inr (.inl (0, 350, go))), (58, .inr (.inr (.inr (3, [59, 60, 61, 62, 63, 64, 65])))), (59, .inr (.inl (0, 350, L 0))), (60, .inr (.inl (0, 350, L 1))), (61, .inr (.inl (0, 350, L 2))), (62, .inr (.inl (0, 350, L 3))), (63, .inr (.inl (0, 350, L 4))), (64, .inr (.inl (0, 350, L 5))), (65, .inr (.inl (0, 350, L 6))), (66, .inr (.inl (0, 4, la))), (67, .inr (.inl (0, 24, pl2))), (2, .inl (8, [.inr (.inl 3), .inr (.inl 4), .inr (.inl 5), .inr (.inl 10)])), (5, .inr (.inr (.inr (3, [6, 7, 8, 9])))), (6, .inr (.inl (0, 16, hd 0))), (7, .inr (.inl (0, 16, hd 1))), (8, .inr (.inl (0, 16, hd 2))), (9, .inr (.inl (0, 16, hd 3)))])) :
    ∀ (m k : Nat), k + m = 4 → ∀ i : Int32, i.toInt = (k : Int) → ∀ (pl2 : Nat → Int32) (A : Option cx_V), plU pl2 → (∀ j : Nat, ¬ (4 * xN + gd ≤ j ∧ j < 4 * xN + gN) → pl2 j = pl j) → (∀ ts2, vsT (nbF mi) (okD rkc Lv gN D) st gN gd pp ts2 → k ≤ ts2 gd) → cx_T (4 + (mm + 1)) 59 [43, 44, 45, 46, 47, 48, 49, 50, 51, 52, 53, 54, 55, 56, 57, 58, 59, 60, 61, 62, 63, 64, 65, 66, 67, 2, 5, 6, 7, 8, 9] 118 ([some (.inr (.inl 43)), some (.inl (.int x)), some (.inl (.int y)), some (.inl (.int oc)), some (.inl (.int fc)), some (.inl (.int du)), some (.inl (.int (x * Int32.ofInt 4 + y))), some (.inl (.int rv)), some (.inl (.int i)), A], [], [(43, .inl (4, [.inr (.inl 2), .inr (.inl 44), .inr (.inl 45), .inr (.inl 46), .inr (.inl 47), .inr (.inl 48), .inr (.inl 49), .inr (.inl 50), .inr (.inl 57), .inr (.inl 58), .inr (.inl 66), .inr (.inl 67), .inl (.int g), .inl (.int fk), .inl (.int pf), .inl (.int pt), .inl (.int pr)])), (44, .inr (.inl (0, 4, mi))), (45, .inr (.inl (0, 70, cd))), (46, .inr (.inl (0, 70, sz))), (47, .inr (.inl (0, 625, sp))), (48, .inr (.inl (0, 280, th))), (49, .inr (.inl (2, 4900, fo))), (50, .inr (.inr (.inr (3, [51, 52, 53, 54, 55, 56])))), (51, .inr (.inl (0, 70, R 0))), (52, .inr (.inl (0, 70, R 1))), (53, .inr (.inl (0, 70, R 2))), (54, .inr (.inl (0, 70, R 3))), (55, .inr (.inl (0, 70, R 4))), (56, .inr (.inl (0, 70, R 5))), (57, .inr (.inl (0, 350, go))), (58, .inr (.inr (.inr (3, [59, 60, 61, 62, 63, 64, 65])))), (59, .inr (.inl (0, 350, L 0))), (60, .inr (.inl (0, 350, L 1))), (61, .inr (.inl (0, 350, L 2))), (62, .inr (.inl (0, 350, L 3))), (63, .inr (.inl (0, 350, L 4))), (64, .inr (.inl (0, 350, L 5))), (65, .inr (.inl (0, 350, L 6))), (66, .inr (.inl (0, 4, la))), (67, .inr (.inl (0, 24, pl2))), (2, .inl (8, [.inr (.inl 3), .inr (.inl 4), .inr (.inl 5), .inr (.inl 10)])), (5, .inr (.inr (.inr (3, [6, 7, 8, 9])))), (6, .inr (.inl (0, 16, hd 0))), (7, .inr (.inl (0, 16, hd 1))), (8, .inr (.inl (0, 16, hd 2))), (9, .inr (.inl (0, 16, hd 3)))]) P := by
  have kcm9 : (Int32.ofInt (-9)).toInt = -9 := by decide +kernel
  have kc0 : (Int32.ofInt 0).toInt = 0 := by decide +kernel
  have kc1 : (Int32.ofInt 1).toInt = 1 := by decide +kernel
  have kc4 : (Int32.ofInt 4).toInt = 4 := by decide +kernel
  have kc5 : (Int32.ofInt 5).toInt = 5 := by decide +kernel
  intro m
  induction m with
  | zero =>
    intro k hk i hi pl2 A hpl hn2 hk0
    have ek : k = 4 := by omega
    have hx4 : (x * Int32.ofInt 4).toInt = 4 * x.toInt := cx_mulk2 kc4 (by omega) (by omega)
    have hat : (x * Int32.ofInt 4 + y).toInt = ((4 * xN + gd : Nat) : Int) := by
      rw [cx_addc (by omega) (by omega), hx4]
      omega
    have hatc := cx_clamp hat
    have hy1 : (y + Int32.ofInt 1).toInt = ((gd + 1 : Nat) : Int) := by
      rw [cx_addc (by omega) (by omega)]
      omega
    have hyc := cx_clamp hy
    have hlay : (la y.toNatClampNeg).toInt = lr (st gd) := by
      rw [hyc]
      exact hla gd (by omega)
    have c0 := c4_of (st := st) (ts := pp) (m := gd)
    have on4 := cd5_le (c := onC st pp gd)
    have fr4 := cd5_le (c := frC st pp gd)
    refine ex_iload cg_59 (ix := 75) (pc' := 120) rfl rfl rfl ?_
    refine ex_iconst cg_59 (ix := 76) (pc' := 121) rfl rfl ?_
    refine ex_icmp cg_59 (ix := 77) (t := 205) (pc' := 124) rfl rfl rfl (fun hb121 => ?_) (fun hb121 => ?_)
    · have hb121 : (Int32.ofInt 4).toInt ≤ i.toInt := hb121
      refine ex_aload_n cg_59 (ix := 121) (pc' := 206) rfl rfl rfl ?_
      refine ex_getfield cg_59 (ix := 122) (pc' := 209) rfl rfl rfl rfl rfl ?_
      refine ex_iload cg_59 (ix := 123) (pc' := 211) rfl rfl rfl ?_
      refine ex_bipush cg_59 (ix := 124) (pc' := 213) rfl rfl rfl ?_
      refine ex_iastore cg_59 (ix := 125) (pc' := 214) (h' := [(43, .inl (4, [.inr (.inl 2), .inr (.inl 44), .inr (.inl 45), .inr (.inl 46), .inr (.inl 47), .inr (.inl 48), .inr (.inl 49), .inr (.inl 50), .inr (.inl 57), .inr (.inl 58), .inr (.inl 66), .inr (.inl 67), .inl (.int g), .inl (.int fk), .inl (.int pf), .inl (.int pt), .inl (.int pr)])), (44, .inr (.inl (0, 4, mi))), (45, .inr (.inl (0, 70, cd))), (46, .inr (.inl (0, 70, sz))), (47, .inr (.inl (0, 625, sp))), (48, .inr (.inl (0, 280, th))), (49, .inr (.inl (2, 4900, fo))), (50, .inr (.inr (.inr (3, [51, 52, 53, 54, 55, 56])))), (51, .inr (.inl (0, 70, R 0))), (52, .inr (.inl (0, 70, R 1))), (53, .inr (.inl (0, 70, R 2))), (54, .inr (.inl (0, 70, R 3))), (55, .inr (.inl (0, 70, R 4))), (56, .inr (.inl (0, 70, R 5))), (57, .inr (.inl (0, 350, go))), (58, .inr (.inr (.inr (3, [59, 60, 61, 62, 63, 64, 65])))), (59, .inr (.inl (0, 350, L 0))), (60, .inr (.inl (0, 350, L 1))), (61, .inr (.inl (0, 350, L 2))), (62, .inr (.inl (0, 350, L 3))), (63, .inr (.inl (0, 350, L 4))), (64, .inr (.inl (0, 350, L 5))), (65, .inr (.inl (0, 350, L 6))), (66, .inr (.inl (0, 4, la))), (67, .inr (.inl (0, 24, upd pl2 (x * Int32.ofInt 4 + y).toNatClampNeg (Int32.ofInt (-9))))), (2, .inl (8, [.inr (.inl 3), .inr (.inl 4), .inr (.inl 5), .inr (.inl 10)])), (5, .inr (.inr (.inr (3, [6, 7, 8, 9])))), (6, .inr (.inl (0, 16, hd 0))), (7, .inr (.inl (0, 16, hd 1))), (8, .inr (.inl (0, 16, hd 2))), (9, .inr (.inl (0, 16, hd 3)))]) rfl rfl (by omega) (by omega) rfl rfl ?_
      have hpl2 : plU (upd pl2 (x * Int32.ofInt 4 + y).toNatClampNeg (Int32.ofInt (-9))) := fun j hj => by
        unfold upd
        split
        · exact Or.inl kcm9
        · exact hpl j hj
      refine ex_aload_n cg_59 (ix := 126) (pc' := 215) rfl rfl rfl ?_
      refine ex_iload_n cg_59 (ix := 127) (pc' := 216) rfl rfl rfl ?_
      refine ex_iload_n cg_59 (ix := 128) (pc' := 217) rfl rfl rfl ?_
      refine ex_iconst cg_59 (ix := 129) (pc' := 218) rfl rfl ?_
      refine ex_iadd cg_59 (ix := 130) (pc' := 219) rfl rfl ?_
      refine ex_iload_n cg_59 (ix := 131) (pc' := 220) rfl rfl rfl ?_
      refine ex_iload cg_59 (ix := 132) (pc' := 222) rfl rfl rfl ?_
      refine ex_iload cg_59 (ix := 133) (pc' := 224) rfl rfl rfl ?_
      refine ex_callV cg_59 (ix := 134) (pc' := 227) (As := [.inl (.int x), .inl (.int (y + (Int32.ofInt 1))), .inl (.int oc), .inl (.int fc), .inl (.int du)]) (r := []) rfl rfl rfl (hrec (upd pl2 (x * Int32.ofInt 4 + y).toNatClampNeg (Int32.ofInt (-9))) (y + (Int32.ofInt 1)) (oc) (fc) (gd + 1) (upt pp gd 4) hpl2 hy1 (by omega) (okA_up hok (Or.inl rfl)) (by rw [onC_up4.1]; exact hoc) (by rw [onC_up4.2]; exact hfc)) (by first | decide | omega) rfl rfl rfl ⟨rfl, rfl, rfl, rfl, rfl, rfl, rfl, rfl, rfl, rfl, rfl, rfl, rfl, rfl, rfl, rfl, rfl, rfl, rfl, rfl, rfl, rfl, rfl, rfl, rfl, rfl, rfl, rfl, rfl, rfl, rfl, trivial⟩ rfl rfl (fun v h2 hq => ?_)
      skip
      obtain ⟨z3, pl3, rfl, rfl, hu3, hn3, hr3⟩ := hq
      rcases hr3 with ⟨rfl, ts, hF, hP3⟩ | ⟨rfl, hno⟩
      · show cx_T _ 59 _ 227 ([some (.inr (.inl 43)), some (.inl (.int x)), some (.inl (.int y)), some (.inl (.int oc)), some (.inl (.int fc)), some (.inl (.int du)), some (.inl (.int (x * Int32.ofInt 4 + y))), some (.inl (.int rv)), some (.inl (.int i)), A], [.inl (.int (Int32.ofInt 1))], [(43, .inl (4, [.inr (.inl 2), .inr (.inl 44), .inr (.inl 45), .inr (.inl 46), .inr (.inl 47), .inr (.inl 48), .inr (.inl 49), .inr (.inl 50), .inr (.inl 57), .inr (.inl 58), .inr (.inl 66), .inr (.inl 67), .inl (.int g), .inl (.int fk), .inl (.int pf), .inl (.int pt), .inl (.int pr)])), (44, .inr (.inl (0, 4, mi))), (45, .inr (.inl (0, 70, cd))), (46, .inr (.inl (0, 70, sz))), (47, .inr (.inl (0, 625, sp))), (48, .inr (.inl (0, 280, th))), (49, .inr (.inl (2, 4900, fo))), (50, .inr (.inr (.inr (3, [51, 52, 53, 54, 55, 56])))), (51, .inr (.inl (0, 70, R 0))), (52, .inr (.inl (0, 70, R 1))), (53, .inr (.inl (0, 70, R 2))), (54, .inr (.inl (0, 70, R 3))), (55, .inr (.inl (0, 70, R 4))), (56, .inr (.inl (0, 70, R 5))), (57, .inr (.inl (0, 350, go))), (58, .inr (.inr (.inr (3, [59, 60, 61, 62, 63, 64, 65])))), (59, .inr (.inl (0, 350, L 0))), (60, .inr (.inl (0, 350, L 1))), (61, .inr (.inl (0, 350, L 2))), (62, .inr (.inl (0, 350, L 3))), (63, .inr (.inl (0, 350, L 4))), (64, .inr (.inl (0, 350, L 5))), (65, .inr (.inl (0, 350, L 6))), (66, .inr (.inl (0, 4, la))), (67, .inr (.inl (0, 24, pl3))), (2, .inl (8, [.inr (.inl 3), .inr (.inl 4), .inr (.inl 5), .inr (.inl 10)])), (5, .inr (.inr (.inr (3, [6, 7, 8, 9])))), (6, .inr (.inl (0, 16, hd 0))), (7, .inr (.inl (0, 16, hd 1))), (8, .inr (.inl (0, 16, hd 2))), (9, .inr (.inl (0, 16, hd 3)))]) _
        refine ex_zreturn cg_59 (ix := 135) rfl (by first | exact Or.inl rfl | exact Or.inr rfl | (omega)) ?_
        refine hP _ pl3 ⟨hu3, (fun j hj => by
          rw [hn3 j (by omega), hatc]
          unfold upd
          rw [if_neg (by omega)]; exact hn2 j hj), Or.inl ⟨rfl, ts, ?_, fun i2 h1 h3 => ?_⟩⟩
        · first
          | exact isF_up hg4 (by omega) hF hk0
          | (rw [ek] at hk0; exact isF_up hg4 (by omega) hF hk0)
        · by_cases e : i2 = gd
          · rw [e, hn3 _ (by omega), hatc]
            unfold upd
            rw [if_pos rfl, (vs_dn hF.1).2]
            unfold rpv
            first
            | (rw [if_neg (by omega)]; exact hi)
            | (rw [if_pos rfl]; exact kcm9)
          · exact hP3 i2 (by omega) h3
      · show cx_T _ 59 _ 227 ([some (.inr (.inl 43)), some (.inl (.int x)), some (.inl (.int y)), some (.inl (.int oc)), some (.inl (.int fc)), some (.inl (.int du)), some (.inl (.int (x * Int32.ofInt 4 + y))), some (.inl (.int rv)), some (.inl (.int i)), A], [.inl (.int (Int32.ofInt 0))], [(43, .inl (4, [.inr (.inl 2), .inr (.inl 44), .inr (.inl 45), .inr (.inl 46), .inr (.inl 47), .inr (.inl 48), .inr (.inl 49), .inr (.inl 50), .inr (.inl 57), .inr (.inl 58), .inr (.inl 66), .inr (.inl 67), .inl (.int g), .inl (.int fk), .inl (.int pf), .inl (.int pt), .inl (.int pr)])), (44, .inr (.inl (0, 4, mi))), (45, .inr (.inl (0, 70, cd))), (46, .inr (.inl (0, 70, sz))), (47, .inr (.inl (0, 625, sp))), (48, .inr (.inl (0, 280, th))), (49, .inr (.inl (2, 4900, fo))), (50, .inr (.inr (.inr (3, [51, 52, 53, 54, 55, 56])))), (51, .inr (.inl (0, 70, R 0))), (52, .inr (.inl (0, 70, R 1))), (53, .inr (.inl (0, 70, R 2))), (54, .inr (.inl (0, 70, R 3))), (55, .inr (.inl (0, 70, R 4))), (56, .inr (.inl (0, 70, R 5))), (57, .inr (.inl (0, 350, go))), (58, .inr (.inr (.inr (3, [59, 60, 61, 62, 63, 64, 65])))), (59, .inr (.inl (0, 350, L 0))), (60, .inr (.inl (0, 350, L 1))), (61, .inr (.inl (0, 350, L 2))), (62, .inr (.inl (0, 350, L 3))), (63, .inr (.inl (0, 350, L 4))), (64, .inr (.inl (0, 350, L 5))), (65, .inr (.inl (0, 350, L 6))), (66, .inr (.inl (0, 4, la))), (67, .inr (.inl (0, 24, pl3))), (2, .inl (8, [.inr (.inl 3), .inr (.inl 4), .inr (.inl 5), .inr (.inl 10)])), (5, .inr (.inr (.inr (3, [6, 7, 8, 9])))), (6, .inr (.inl (0, 16, hd 0))), (7, .inr (.inl (0, 16, hd 1))), (8, .inr (.inl (0, 16, hd 2))), (9, .inr (.inl (0, 16, hd 3)))]) _
        refine ex_zreturn cg_59 (ix := 135) rfl (by first | exact Or.inl rfl | exact Or.inr rfl | (omega)) ?_
        refine hP _ pl3 ⟨hu3, (fun j hj => by
          rw [hn3 j (by omega), hatc]
          unfold upd
          rw [if_neg (by omega)]; exact hn2 j hj), Or.inr ⟨rfl, ?_⟩⟩
        rw [ek] at hk0
        exact nx_4 (by omega) hk0 hno
    · have hb121 : ¬ ((Int32.ofInt 4).toInt ≤ i.toInt) := hb121
      exfalso; first | omega | exact absurd hb121 (by decide +kernel)
  | succ m ih =>
    intro k hk i hi pl2 A hpl hn2 hk0
    have hik : i.toNatClampNeg = k := cx_clamp hi
    have hx4 : (x * Int32.ofInt 4).toInt = 4 * x.toInt := cx_mulk2 kc4 (by omega) (by omega)
    have hat : (x * Int32.ofInt 4 + y).toInt = ((4 * xN + gd : Nat) : Int) := by
      rw [cx_addc (by omega) (by omega), hx4]
      omega
    have hatc := cx_clamp hat
    have hy1 : (y + Int32.ofInt 1).toInt = ((gd + 1 : Nat) : Int) := by
      rw [cx_addc (by omega) (by omega)]
      omega
    have hyc := cx_clamp hy
    have hlay : (la y.toNatClampNeg).toInt = lr (st gd) := by
      rw [hyc]
      exact hla gd (by omega)
    have c0 := c4_of (st := st) (ts := pp) (m := gd)
    have on4 := cd5_le (c := onC st pp gd)
    have fr4 := cd5_le (c := frC st pp gd)
    refine ex_iload cg_59 (ix := 75) (pc' := 120) rfl rfl rfl ?_
    refine ex_iconst cg_59 (ix := 76) (pc' := 121) rfl rfl ?_
    refine ex_icmp cg_59 (ix := 77) (t := 205) (pc' := 124) rfl rfl rfl (fun hb121 => ?_) (fun hb121 => ?_)
    · have hb121 : (Int32.ofInt 4).toInt ≤ i.toInt := hb121
      exfalso; first | omega | exact absurd hb121 (by decide +kernel)
    · have hb121 : ¬ ((Int32.ofInt 4).toInt ≤ i.toInt) := hb121
      refine ex_aload_n cg_59 (ix := 78) (pc' := 125) rfl rfl rfl ?_
      refine ex_aload_n cg_59 (ix := 79) (pc' := 126) rfl rfl rfl ?_
      refine ex_getfield cg_59 (ix := 80) (pc' := 129) rfl rfl rfl rfl rfl ?_
      refine ex_iload_n cg_59 (ix := 81) (pc' := 130) rfl rfl rfl ?_
      refine ex_iaload cg_59 (ix := 82) (pc' := 131) rfl rfl (by omega) (by omega) rfl ?_
      refine ex_iload cg_59 (ix := 83) (pc' := 133) rfl rfl rfl ?_
      refine ex_callV cg_59 (ix := 84) (pc' := 136) (As := [.inl (.int (la y.toNatClampNeg)), .inl (.int i)]) (r := []) rfl rfl rfl (ct_mg (g := g) (fk := fk) (pf := pf) (pt := pt) (pr := pr) (mi := mi) (x := la y.toNatClampNeg) (y := i) (sN := st gd) (bN := k) hmi (hst gd (by omega)) hlay hi (by omega)) (by first | decide | omega) rfl rfl rfl ⟨rfl, rfl, trivial⟩ rfl rfl (fun v h2 hq => ?_)
      obtain ⟨z2, rfl, rfl, hz2⟩ := hq
      rcases hz2 with ⟨rfl, hmg⟩ | ⟨rfl, hmg⟩
      · show cx_T _ 59 _ 136 ([some (.inr (.inl 43)), some (.inl (.int x)), some (.inl (.int y)), some (.inl (.int oc)), some (.inl (.int fc)), some (.inl (.int du)), some (.inl (.int (x * Int32.ofInt 4 + y))), some (.inl (.int rv)), some (.inl (.int i)), A], [.inl (.int (Int32.ofInt 1))], [(43, .inl (4, [.inr (.inl 2), .inr (.inl 44), .inr (.inl 45), .inr (.inl 46), .inr (.inl 47), .inr (.inl 48), .inr (.inl 49), .inr (.inl 50), .inr (.inl 57), .inr (.inl 58), .inr (.inl 66), .inr (.inl 67), .inl (.int g), .inl (.int fk), .inl (.int pf), .inl (.int pt), .inl (.int pr)])), (44, .inr (.inl (0, 4, mi))), (45, .inr (.inl (0, 70, cd))), (46, .inr (.inl (0, 70, sz))), (47, .inr (.inl (0, 625, sp))), (48, .inr (.inl (0, 280, th))), (49, .inr (.inl (2, 4900, fo))), (50, .inr (.inr (.inr (3, [51, 52, 53, 54, 55, 56])))), (51, .inr (.inl (0, 70, R 0))), (52, .inr (.inl (0, 70, R 1))), (53, .inr (.inl (0, 70, R 2))), (54, .inr (.inl (0, 70, R 3))), (55, .inr (.inl (0, 70, R 4))), (56, .inr (.inl (0, 70, R 5))), (57, .inr (.inl (0, 350, go))), (58, .inr (.inr (.inr (3, [59, 60, 61, 62, 63, 64, 65])))), (59, .inr (.inl (0, 350, L 0))), (60, .inr (.inl (0, 350, L 1))), (61, .inr (.inl (0, 350, L 2))), (62, .inr (.inl (0, 350, L 3))), (63, .inr (.inl (0, 350, L 4))), (64, .inr (.inl (0, 350, L 5))), (65, .inr (.inl (0, 350, L 6))), (66, .inr (.inl (0, 4, la))), (67, .inr (.inl (0, 24, pl2))), (2, .inl (8, [.inr (.inl 3), .inr (.inl 4), .inr (.inl 5), .inr (.inl 10)])), (5, .inr (.inr (.inr (3, [6, 7, 8, 9])))), (6, .inr (.inl (0, 16, hd 0))), (7, .inr (.inl (0, 16, hd 1))), (8, .inr (.inl (0, 16, hd 2))), (9, .inr (.inl (0, 16, hd 3)))]) _
        refine ex_if cg_59 (ix := 85) (t := 199) (pc' := 139) rfl rfl rfl (fun hb136 => ?_) (fun hb136 => ?_)
        · have hb136 : (Int32.ofInt 1).toInt = 0 := hb136
          exfalso; first | omega | exact absurd hb136 (by decide +kernel)
        · have hb136 : ¬ ((Int32.ofInt 1).toInt = 0) := hb136
          refine ex_getstatic cg_59 (ix := 86) (pc' := 142) rfl rfl rfl ?_
          refine ex_iload cg_59 (ix := 87) (pc' := 144) rfl rfl rfl ?_
          refine ex_sload cg_59 (ix := 88) (pc' := 145) rfl (by omega) (by omega) rfl ?_
          refine ex_istore cg_59 (ix := 89) (pc' := 147) (L' := [some (.inr (.inl 43)), some (.inl (.int x)), some (.inl (.int y)), some (.inl (.int oc)), some (.inl (.int fc)), some (.inl (.int du)), some (.inl (.int (x * Int32.ofInt 4 + y))), some (.inl (.int rv)), some (.inl (.int i)), some (.inl (.int (cOne i.toNatClampNeg)))]) rfl rfl rfl rfl ?_
          refine ex_aload_n cg_59 (ix := 90) (pc' := 148) rfl rfl rfl ?_
          refine ex_getfield cg_59 (ix := 91) (pc' := 151) rfl rfl rfl rfl rfl ?_
          refine ex_iload cg_59 (ix := 92) (pc' := 153) rfl rfl rfl ?_
          refine ex_iload cg_59 (ix := 93) (pc' := 155) rfl rfl rfl ?_
          refine ex_iastore cg_59 (ix := 94) (pc' := 156) (h' := [(43, .inl (4, [.inr (.inl 2), .inr (.inl 44), .inr (.inl 45), .inr (.inl 46), .inr (.inl 47), .inr (.inl 48), .inr (.inl 49), .inr (.inl 50), .inr (.inl 57), .inr (.inl 58), .inr (.inl 66), .inr (.inl 67), .inl (.int g), .inl (.int fk), .inl (.int pf), .inl (.int pt), .inl (.int pr)])), (44, .inr (.inl (0, 4, mi))), (45, .inr (.inl (0, 70, cd))), (46, .inr (.inl (0, 70, sz))), (47, .inr (.inl (0, 625, sp))), (48, .inr (.inl (0, 280, th))), (49, .inr (.inl (2, 4900, fo))), (50, .inr (.inr (.inr (3, [51, 52, 53, 54, 55, 56])))), (51, .inr (.inl (0, 70, R 0))), (52, .inr (.inl (0, 70, R 1))), (53, .inr (.inl (0, 70, R 2))), (54, .inr (.inl (0, 70, R 3))), (55, .inr (.inl (0, 70, R 4))), (56, .inr (.inl (0, 70, R 5))), (57, .inr (.inl (0, 350, go))), (58, .inr (.inr (.inr (3, [59, 60, 61, 62, 63, 64, 65])))), (59, .inr (.inl (0, 350, L 0))), (60, .inr (.inl (0, 350, L 1))), (61, .inr (.inl (0, 350, L 2))), (62, .inr (.inl (0, 350, L 3))), (63, .inr (.inl (0, 350, L 4))), (64, .inr (.inl (0, 350, L 5))), (65, .inr (.inl (0, 350, L 6))), (66, .inr (.inl (0, 4, la))), (67, .inr (.inl (0, 24, upd pl2 (x * Int32.ofInt 4 + y).toNatClampNeg i))), (2, .inl (8, [.inr (.inl 3), .inr (.inl 4), .inr (.inl 5), .inr (.inl 10)])), (5, .inr (.inr (.inr (3, [6, 7, 8, 9])))), (6, .inr (.inl (0, 16, hd 0))), (7, .inr (.inl (0, 16, hd 1))), (8, .inr (.inl (0, 16, hd 2))), (9, .inr (.inl (0, 16, hd 3)))]) rfl rfl (by omega) (by omega) rfl rfl ?_
          have hpl2 : plU (upd pl2 (x * Int32.ofInt 4 + y).toNatClampNeg i) := fun j hj => by
            unfold upd
            split
            · exact Or.inr ⟨by omega, by omega⟩
            · exact hpl j hj
          have hone : (cOne i.toNatClampNeg).toInt = ((p5 k : Nat) : Int) := by
            rw [hik]
            exact cOne_v (by omega)
          have hp5 : p5 k ≤ 125 := by
            rcases (show k = 0 ∨ k = 1 ∨ k = 2 ∨ k = 3 by omega) with rfl | rfl | rfl | rfl <;> decide
          have hcu := onC_up (st := st) (p := pp) (g := gd) (k := k) (by omega)
          have hoa : (oc + cOne i.toNatClampNeg).toInt = ((cd5 (onC st pp gd) + p5 k : Nat) : Int) := by
            rw [cx_addc (by omega) (by omega)]
            omega
          have hfa : (fc + cOne i.toNatClampNeg).toInt = ((cd5 (frC st pp gd) + p5 k : Nat) : Int) := by
            rw [cx_addc (by omega) (by omega)]
            omega
          refine ex_aload_n cg_59 (ix := 95) (pc' := 157) rfl rfl rfl ?_
          refine ex_iload_n cg_59 (ix := 96) (pc' := 158) rfl rfl rfl ?_
          refine ex_iload_n cg_59 (ix := 97) (pc' := 159) rfl rfl rfl ?_
          refine ex_iconst cg_59 (ix := 98) (pc' := 160) rfl rfl ?_
          refine ex_iadd cg_59 (ix := 99) (pc' := 161) rfl rfl ?_
          refine ex_iload cg_59 (ix := 100) (pc' := 163) rfl rfl rfl ?_
          refine ex_if cg_59 (ix := 101) (t := 170) (pc' := 166) rfl rfl rfl (fun hb163 => ?_) (fun hb163 => ?_)
          · have hb163 : rv.toInt = 0 := hb163
            refine ex_iload_n cg_59 (ix := 104) (pc' := 171) rfl rfl rfl ?_
            refine ex_iload cg_59 (ix := 105) (pc' := 173) rfl rfl rfl ?_
            refine ex_iadd cg_59 (ix := 106) (pc' := 174) rfl rfl ?_
            refine ex_iload cg_59 (ix := 107) (pc' := 176) rfl rfl rfl ?_
            refine ex_if cg_59 (ix := 108) (t := 187) (pc' := 179) rfl rfl rfl (fun hb176 => ?_) (fun hb176 => ?_)
            · have hb176 : rv.toInt = 0 := hb176
              refine ex_iload cg_59 (ix := 113) (pc' := 189) rfl rfl rfl ?_
              refine ex_iload cg_59 (ix := 114) (pc' := 191) rfl rfl rfl ?_
              refine ex_callV cg_59 (ix := 115) (pc' := 194) (As := [.inl (.int x), .inl (.int (y + (Int32.ofInt 1))), .inl (.int (oc + (cOne i.toNatClampNeg))), .inl (.int fc), .inl (.int du)]) (r := []) rfl rfl rfl (hrec (upd pl2 (x * Int32.ofInt 4 + y).toNatClampNeg i) (y + (Int32.ofInt 1)) (oc + (cOne i.toNatClampNeg)) (fc) (gd + 1) (upt pp gd k) hpl2 hy1 (by omega) (okA_up hok (Or.inr ⟨by omega, hmg⟩)) (by rw [hcu.1]; split <;> omega) (by rw [hcu.2]; split <;> omega)) (by first | decide | omega) rfl rfl rfl ⟨rfl, rfl, rfl, rfl, rfl, rfl, rfl, rfl, rfl, rfl, rfl, rfl, rfl, rfl, rfl, rfl, rfl, rfl, rfl, rfl, rfl, rfl, rfl, rfl, rfl, rfl, rfl, rfl, rfl, rfl, rfl, trivial⟩ rfl rfl (fun v h2 hq => ?_)
              skip
              obtain ⟨z3, pl3, rfl, rfl, hu3, hn3, hr3⟩ := hq
              rcases hr3 with ⟨rfl, ts, hF, hP3⟩ | ⟨rfl, hno⟩
              · show cx_T _ 59 _ 194 ([some (.inr (.inl 43)), some (.inl (.int x)), some (.inl (.int y)), some (.inl (.int oc)), some (.inl (.int fc)), some (.inl (.int du)), some (.inl (.int (x * Int32.ofInt 4 + y))), some (.inl (.int rv)), some (.inl (.int i)), some (.inl (.int (cOne i.toNatClampNeg)))], [.inl (.int (Int32.ofInt 1))], [(43, .inl (4, [.inr (.inl 2), .inr (.inl 44), .inr (.inl 45), .inr (.inl 46), .inr (.inl 47), .inr (.inl 48), .inr (.inl 49), .inr (.inl 50), .inr (.inl 57), .inr (.inl 58), .inr (.inl 66), .inr (.inl 67), .inl (.int g), .inl (.int fk), .inl (.int pf), .inl (.int pt), .inl (.int pr)])), (44, .inr (.inl (0, 4, mi))), (45, .inr (.inl (0, 70, cd))), (46, .inr (.inl (0, 70, sz))), (47, .inr (.inl (0, 625, sp))), (48, .inr (.inl (0, 280, th))), (49, .inr (.inl (2, 4900, fo))), (50, .inr (.inr (.inr (3, [51, 52, 53, 54, 55, 56])))), (51, .inr (.inl (0, 70, R 0))), (52, .inr (.inl (0, 70, R 1))), (53, .inr (.inl (0, 70, R 2))), (54, .inr (.inl (0, 70, R 3))), (55, .inr (.inl (0, 70, R 4))), (56, .inr (.inl (0, 70, R 5))), (57, .inr (.inl (0, 350, go))), (58, .inr (.inr (.inr (3, [59, 60, 61, 62, 63, 64, 65])))), (59, .inr (.inl (0, 350, L 0))), (60, .inr (.inl (0, 350, L 1))), (61, .inr (.inl (0, 350, L 2))), (62, .inr (.inl (0, 350, L 3))), (63, .inr (.inl (0, 350, L 4))), (64, .inr (.inl (0, 350, L 5))), (65, .inr (.inl (0, 350, L 6))), (66, .inr (.inl (0, 4, la))), (67, .inr (.inl (0, 24, pl3))), (2, .inl (8, [.inr (.inl 3), .inr (.inl 4), .inr (.inl 5), .inr (.inl 10)])), (5, .inr (.inr (.inr (3, [6, 7, 8, 9])))), (6, .inr (.inl (0, 16, hd 0))), (7, .inr (.inl (0, 16, hd 1))), (8, .inr (.inl (0, 16, hd 2))), (9, .inr (.inl (0, 16, hd 3)))]) _
                refine ex_if cg_59 (ix := 116) (t := 199) (pc' := 197) rfl rfl rfl (fun hb194 => ?_) (fun hb194 => ?_)
                · have hb194 : (Int32.ofInt 1).toInt = 0 := hb194
                  exfalso; first | omega | exact absurd hb194 (by decide +kernel)
                · have hb194 : ¬ ((Int32.ofInt 1).toInt = 0) := hb194
                  refine ex_iconst cg_59 (ix := 117) (pc' := 198) rfl rfl ?_
                  refine ex_zreturn cg_59 (ix := 118) rfl (by first | exact Or.inl rfl | exact Or.inr rfl | (omega)) ?_
                  refine hP _ pl3 ⟨hu3, (fun j hj => by
                    rw [hn3 j (by omega), hatc]
                    unfold upd
                    rw [if_neg (by omega)]; exact hn2 j hj), Or.inl ⟨rfl, ts, ?_, fun i2 h1 h3 => ?_⟩⟩
                  · first
                    | exact isF_up hg4 (by omega) hF hk0
                    | (rw [ek] at hk0; exact isF_up hg4 (by omega) hF hk0)
                  · by_cases e : i2 = gd
                    · rw [e, hn3 _ (by omega), hatc]
                      unfold upd
                      rw [if_pos rfl, (vs_dn hF.1).2]
                      unfold rpv
                      first
                      | (rw [if_neg (by omega)]; exact hi)
                      | (rw [if_pos rfl]; exact kcm9)
                    · exact hP3 i2 (by omega) h3
              · show cx_T _ 59 _ 194 ([some (.inr (.inl 43)), some (.inl (.int x)), some (.inl (.int y)), some (.inl (.int oc)), some (.inl (.int fc)), some (.inl (.int du)), some (.inl (.int (x * Int32.ofInt 4 + y))), some (.inl (.int rv)), some (.inl (.int i)), some (.inl (.int (cOne i.toNatClampNeg)))], [.inl (.int (Int32.ofInt 0))], [(43, .inl (4, [.inr (.inl 2), .inr (.inl 44), .inr (.inl 45), .inr (.inl 46), .inr (.inl 47), .inr (.inl 48), .inr (.inl 49), .inr (.inl 50), .inr (.inl 57), .inr (.inl 58), .inr (.inl 66), .inr (.inl 67), .inl (.int g), .inl (.int fk), .inl (.int pf), .inl (.int pt), .inl (.int pr)])), (44, .inr (.inl (0, 4, mi))), (45, .inr (.inl (0, 70, cd))), (46, .inr (.inl (0, 70, sz))), (47, .inr (.inl (0, 625, sp))), (48, .inr (.inl (0, 280, th))), (49, .inr (.inl (2, 4900, fo))), (50, .inr (.inr (.inr (3, [51, 52, 53, 54, 55, 56])))), (51, .inr (.inl (0, 70, R 0))), (52, .inr (.inl (0, 70, R 1))), (53, .inr (.inl (0, 70, R 2))), (54, .inr (.inl (0, 70, R 3))), (55, .inr (.inl (0, 70, R 4))), (56, .inr (.inl (0, 70, R 5))), (57, .inr (.inl (0, 350, go))), (58, .inr (.inr (.inr (3, [59, 60, 61, 62, 63, 64, 65])))), (59, .inr (.inl (0, 350, L 0))), (60, .inr (.inl (0, 350, L 1))), (61, .inr (.inl (0, 350, L 2))), (62, .inr (.inl (0, 350, L 3))), (63, .inr (.inl (0, 350, L 4))), (64, .inr (.inl (0, 350, L 5))), (65, .inr (.inl (0, 350, L 6))), (66, .inr (.inl (0, 4, la))), (67, .inr (.inl (0, 24, pl3))), (2, .inl (8, [.inr (.inl 3), .inr (.inl 4), .inr (.inl 5), .inr (.inl 10)])), (5, .inr (.inr (.inr (3, [6, 7, 8, 9])))), (6, .inr (.inl (0, 16, hd 0))), (7, .inr (.inl (0, 16, hd 1))), (8, .inr (.inl (0, 16, hd 2))), (9, .inr (.inl (0, 16, hd 3)))]) _
                refine ex_if cg_59 (ix := 116) (t := 199) (pc' := 197) rfl rfl rfl (fun hb194 => ?_) (fun hb194 => ?_)
                · have hb194 : (Int32.ofInt 0).toInt = 0 := hb194
                  refine ex_iinc cg_59 (ix := 119) (pc' := 202) (L' := [some (.inr (.inl 43)), some (.inl (.int x)), some (.inl (.int y)), some (.inl (.int oc)), some (.inl (.int fc)), some (.inl (.int du)), some (.inl (.int (x * Int32.ofInt 4 + y))), some (.inl (.int rv)), some (.inl (.int (i + Int32.ofInt 1))), some (.inl (.int (cOne i.toNatClampNeg)))]) rfl rfl rfl rfl rfl ?_
                  refine ex_goto cg_59 (ix := 120) (pc' := 118) rfl rfl ?_
                  exact ih (k + 1) (by omega) _ (by rw [cx_addc (by omega) (by omega)]; omega) pl3 _ hu3 (fun j hj => by
                    rw [hn3 j (by omega), hatc]
                    unfold upd
                    rw [if_neg (by omega)]; exact hn2 j hj) (nx_no (by omega) (by omega) hk0 (Or.inr hno))
                · have hb194 : ¬ ((Int32.ofInt 0).toInt = 0) := hb194
                  exfalso; first | omega | exact absurd hb194 (by decide +kernel)
            · have hb176 : ¬ (rv.toInt = 0) := hb176
              exfalso; first | omega | exact absurd hb176 (by decide +kernel)
          · have hb163 : ¬ (rv.toInt = 0) := hb163
            refine ex_iload_n cg_59 (ix := 102) (pc' := 167) rfl rfl rfl ?_
            refine ex_goto cg_59 (ix := 103) (pc' := 174) rfl rfl ?_
            refine ex_iload cg_59 (ix := 107) (pc' := 176) rfl rfl rfl ?_
            refine ex_if cg_59 (ix := 108) (t := 187) (pc' := 179) rfl rfl rfl (fun hb176 => ?_) (fun hb176 => ?_)
            · have hb176 : rv.toInt = 0 := hb176
              exfalso; first | omega | exact absurd hb176 (by decide +kernel)
            · have hb176 : ¬ (rv.toInt = 0) := hb176
              refine ex_iload cg_59 (ix := 109) (pc' := 181) rfl rfl rfl ?_
              refine ex_iload cg_59 (ix := 110) (pc' := 183) rfl rfl rfl ?_
              refine ex_iadd cg_59 (ix := 111) (pc' := 184) rfl rfl ?_
              refine ex_goto cg_59 (ix := 112) (pc' := 189) rfl rfl ?_
              refine ex_iload cg_59 (ix := 114) (pc' := 191) rfl rfl rfl ?_
              refine ex_callV cg_59 (ix := 115) (pc' := 194) (As := [.inl (.int x), .inl (.int (y + (Int32.ofInt 1))), .inl (.int oc), .inl (.int (fc + (cOne i.toNatClampNeg))), .inl (.int du)]) (r := []) rfl rfl rfl (hrec (upd pl2 (x * Int32.ofInt 4 + y).toNatClampNeg i) (y + (Int32.ofInt 1)) (oc) (fc + (cOne i.toNatClampNeg)) (gd + 1) (upt pp gd k) hpl2 hy1 (by omega) (okA_up hok (Or.inr ⟨by omega, hmg⟩)) (by rw [hcu.1]; split <;> omega) (by rw [hcu.2]; split <;> omega)) (by first | decide | omega) rfl rfl rfl ⟨rfl, rfl, rfl, rfl, rfl, rfl, rfl, rfl, rfl, rfl, rfl, rfl, rfl, rfl, rfl, rfl, rfl, rfl, rfl, rfl, rfl, rfl, rfl, rfl, rfl, rfl, rfl, rfl, rfl, rfl, rfl, trivial⟩ rfl rfl (fun v h2 hq => ?_)
              skip
              obtain ⟨z3, pl3, rfl, rfl, hu3, hn3, hr3⟩ := hq
              rcases hr3 with ⟨rfl, ts, hF, hP3⟩ | ⟨rfl, hno⟩
              · show cx_T _ 59 _ 194 ([some (.inr (.inl 43)), some (.inl (.int x)), some (.inl (.int y)), some (.inl (.int oc)), some (.inl (.int fc)), some (.inl (.int du)), some (.inl (.int (x * Int32.ofInt 4 + y))), some (.inl (.int rv)), some (.inl (.int i)), some (.inl (.int (cOne i.toNatClampNeg)))], [.inl (.int (Int32.ofInt 1))], [(43, .inl (4, [.inr (.inl 2), .inr (.inl 44), .inr (.inl 45), .inr (.inl 46), .inr (.inl 47), .inr (.inl 48), .inr (.inl 49), .inr (.inl 50), .inr (.inl 57), .inr (.inl 58), .inr (.inl 66), .inr (.inl 67), .inl (.int g), .inl (.int fk), .inl (.int pf), .inl (.int pt), .inl (.int pr)])), (44, .inr (.inl (0, 4, mi))), (45, .inr (.inl (0, 70, cd))), (46, .inr (.inl (0, 70, sz))), (47, .inr (.inl (0, 625, sp))), (48, .inr (.inl (0, 280, th))), (49, .inr (.inl (2, 4900, fo))), (50, .inr (.inr (.inr (3, [51, 52, 53, 54, 55, 56])))), (51, .inr (.inl (0, 70, R 0))), (52, .inr (.inl (0, 70, R 1))), (53, .inr (.inl (0, 70, R 2))), (54, .inr (.inl (0, 70, R 3))), (55, .inr (.inl (0, 70, R 4))), (56, .inr (.inl (0, 70, R 5))), (57, .inr (.inl (0, 350, go))), (58, .inr (.inr (.inr (3, [59, 60, 61, 62, 63, 64, 65])))), (59, .inr (.inl (0, 350, L 0))), (60, .inr (.inl (0, 350, L 1))), (61, .inr (.inl (0, 350, L 2))), (62, .inr (.inl (0, 350, L 3))), (63, .inr (.inl (0, 350, L 4))), (64, .inr (.inl (0, 350, L 5))), (65, .inr (.inl (0, 350, L 6))), (66, .inr (.inl (0, 4, la))), (67, .inr (.inl (0, 24, pl3))), (2, .inl (8, [.inr (.inl 3), .inr (.inl 4), .inr (.inl 5), .inr (.inl 10)])), (5, .inr (.inr (.inr (3, [6, 7, 8, 9])))), (6, .inr (.inl (0, 16, hd 0))), (7, .inr (.inl (0, 16, hd 1))), (8, .inr (.inl (0, 16, hd 2))), (9, .inr (.inl (0, 16, hd 3)))]) _
                refine ex_if cg_59 (ix := 116) (t := 199) (pc' := 197) rfl rfl rfl (fun hb194 => ?_) (fun hb194 => ?_)
                · have hb194 : (Int32.ofInt 1).toInt = 0 := hb194
                  exfalso; first | omega | exact absurd hb194 (by decide +kernel)
                · have hb194 : ¬ ((Int32.ofInt 1).toInt = 0) := hb194
                  refine ex_iconst cg_59 (ix := 117) (pc' := 198) rfl rfl ?_
                  refine ex_zreturn cg_59 (ix := 118) rfl (by first | exact Or.inl rfl | exact Or.inr rfl | (omega)) ?_
                  refine hP _ pl3 ⟨hu3, (fun j hj => by
                    rw [hn3 j (by omega), hatc]
                    unfold upd
                    rw [if_neg (by omega)]; exact hn2 j hj), Or.inl ⟨rfl, ts, ?_, fun i2 h1 h3 => ?_⟩⟩
                  · first
                    | exact isF_up hg4 (by omega) hF hk0
                    | (rw [ek] at hk0; exact isF_up hg4 (by omega) hF hk0)
                  · by_cases e : i2 = gd
                    · rw [e, hn3 _ (by omega), hatc]
                      unfold upd
                      rw [if_pos rfl, (vs_dn hF.1).2]
                      unfold rpv
                      first
                      | (rw [if_neg (by omega)]; exact hi)
                      | (rw [if_pos rfl]; exact kcm9)
                    · exact hP3 i2 (by omega) h3
              · show cx_T _ 59 _ 194 ([some (.inr (.inl 43)), some (.inl (.int x)), some (.inl (.int y)), some (.inl (.int oc)), some (.inl (.int fc)), some (.inl (.int du)), some (.inl (.int (x * Int32.ofInt 4 + y))), some (.inl (.int rv)), some (.inl (.int i)), some (.inl (.int (cOne i.toNatClampNeg)))], [.inl (.int (Int32.ofInt 0))], [(43, .inl (4, [.inr (.inl 2), .inr (.inl 44), .inr (.inl 45), .inr (.inl 46), .inr (.inl 47), .inr (.inl 48), .inr (.inl 49), .inr (.inl 50), .inr (.inl 57), .inr (.inl 58), .inr (.inl 66), .inr (.inl 67), .inl (.int g), .inl (.int fk), .inl (.int pf), .inl (.int pt), .inl (.int pr)])), (44, .inr (.inl (0, 4, mi))), (45, .inr (.inl (0, 70, cd))), (46, .inr (.inl (0, 70, sz))), (47, .inr (.inl (0, 625, sp))), (48, .inr (.inl (0, 280, th))), (49, .inr (.inl (2, 4900, fo))), (50, .inr (.inr (.inr (3, [51, 52, 53, 54, 55, 56])))), (51, .inr (.inl (0, 70, R 0))), (52, .inr (.inl (0, 70, R 1))), (53, .inr (.inl (0, 70, R 2))), (54, .inr (.inl (0, 70, R 3))), (55, .inr (.inl (0, 70, R 4))), (56, .inr (.inl (0, 70, R 5))), (57, .inr (.inl (0, 350, go))), (58, .inr (.inr (.inr (3, [59, 60, 61, 62, 63, 64, 65])))), (59, .inr (.inl (0, 350, L 0))), (60, .inr (.inl (0, 350, L 1))), (61, .inr (.inl (0, 350, L 2))), (62, .inr (.inl (0, 350, L 3))), (63, .inr (.inl (0, 350, L 4))), (64, .inr (.inl (0, 350, L 5))), (65, .inr (.inl (0, 350, L 6))), (66, .inr (.inl (0, 4, la))), (67, .inr (.inl (0, 24, pl3))), (2, .inl (8, [.inr (.inl 3), .inr (.inl 4), .inr (.inl 5), .inr (.inl 10)])), (5, .inr (.inr (.inr (3, [6, 7, 8, 9])))), (6, .inr (.inl (0, 16, hd 0))), (7, .inr (.inl (0, 16, hd 1))), (8, .inr (.inl (0, 16, hd 2))), (9, .inr (.inl (0, 16, hd 3)))]) _
                refine ex_if cg_59 (ix := 116) (t := 199) (pc' := 197) rfl rfl rfl (fun hb194 => ?_) (fun hb194 => ?_)
                · have hb194 : (Int32.ofInt 0).toInt = 0 := hb194
                  refine ex_iinc cg_59 (ix := 119) (pc' := 202) (L' := [some (.inr (.inl 43)), some (.inl (.int x)), some (.inl (.int y)), some (.inl (.int oc)), some (.inl (.int fc)), some (.inl (.int du)), some (.inl (.int (x * Int32.ofInt 4 + y))), some (.inl (.int rv)), some (.inl (.int (i + Int32.ofInt 1))), some (.inl (.int (cOne i.toNatClampNeg)))]) rfl rfl rfl rfl rfl ?_
                  refine ex_goto cg_59 (ix := 120) (pc' := 118) rfl rfl ?_
                  exact ih (k + 1) (by omega) _ (by rw [cx_addc (by omega) (by omega)]; omega) pl3 _ hu3 (fun j hj => by
                    rw [hn3 j (by omega), hatc]
                    unfold upd
                    rw [if_neg (by omega)]; exact hn2 j hj) (nx_no (by omega) (by omega) hk0 (Or.inr hno))
                · have hb194 : ¬ ((Int32.ofInt 0).toInt = 0) := hb194
                  exfalso; first | omega | exact absurd hb194 (by decide +kernel)
      · show cx_T _ 59 _ 136 ([some (.inr (.inl 43)), some (.inl (.int x)), some (.inl (.int y)), some (.inl (.int oc)), some (.inl (.int fc)), some (.inl (.int du)), some (.inl (.int (x * Int32.ofInt 4 + y))), some (.inl (.int rv)), some (.inl (.int i)), A], [.inl (.int (Int32.ofInt 0))], [(43, .inl (4, [.inr (.inl 2), .inr (.inl 44), .inr (.inl 45), .inr (.inl 46), .inr (.inl 47), .inr (.inl 48), .inr (.inl 49), .inr (.inl 50), .inr (.inl 57), .inr (.inl 58), .inr (.inl 66), .inr (.inl 67), .inl (.int g), .inl (.int fk), .inl (.int pf), .inl (.int pt), .inl (.int pr)])), (44, .inr (.inl (0, 4, mi))), (45, .inr (.inl (0, 70, cd))), (46, .inr (.inl (0, 70, sz))), (47, .inr (.inl (0, 625, sp))), (48, .inr (.inl (0, 280, th))), (49, .inr (.inl (2, 4900, fo))), (50, .inr (.inr (.inr (3, [51, 52, 53, 54, 55, 56])))), (51, .inr (.inl (0, 70, R 0))), (52, .inr (.inl (0, 70, R 1))), (53, .inr (.inl (0, 70, R 2))), (54, .inr (.inl (0, 70, R 3))), (55, .inr (.inl (0, 70, R 4))), (56, .inr (.inl (0, 70, R 5))), (57, .inr (.inl (0, 350, go))), (58, .inr (.inr (.inr (3, [59, 60, 61, 62, 63, 64, 65])))), (59, .inr (.inl (0, 350, L 0))), (60, .inr (.inl (0, 350, L 1))), (61, .inr (.inl (0, 350, L 2))), (62, .inr (.inl (0, 350, L 3))), (63, .inr (.inl (0, 350, L 4))), (64, .inr (.inl (0, 350, L 5))), (65, .inr (.inl (0, 350, L 6))), (66, .inr (.inl (0, 4, la))), (67, .inr (.inl (0, 24, pl2))), (2, .inl (8, [.inr (.inl 3), .inr (.inl 4), .inr (.inl 5), .inr (.inl 10)])), (5, .inr (.inr (.inr (3, [6, 7, 8, 9])))), (6, .inr (.inl (0, 16, hd 0))), (7, .inr (.inl (0, 16, hd 1))), (8, .inr (.inl (0, 16, hd 2))), (9, .inr (.inl (0, 16, hd 3)))]) _
        refine ex_if cg_59 (ix := 85) (t := 199) (pc' := 139) rfl rfl rfl (fun hb136 => ?_) (fun hb136 => ?_)
        · have hb136 : (Int32.ofInt 0).toInt = 0 := hb136
          refine ex_iinc cg_59 (ix := 119) (pc' := 202) (L' := [some (.inr (.inl 43)), some (.inl (.int x)), some (.inl (.int y)), some (.inl (.int oc)), some (.inl (.int fc)), some (.inl (.int du)), some (.inl (.int (x * Int32.ofInt 4 + y))), some (.inl (.int rv)), some (.inl (.int (i + Int32.ofInt 1))), A]) rfl rfl rfl rfl rfl ?_
          refine ex_goto cg_59 (ix := 120) (pc' := 118) rfl rfl ?_
          exact ih (k + 1) (by omega) _ (by rw [cx_addc (by omega) (by omega)]; omega) pl2 _ hpl hn2 (nx_no (by omega) (by omega) hk0 (Or.inl hmg))
        · have hb136 : ¬ ((Int32.ofInt 0).toInt = 0) := hb136
          exfalso; first | omega | exact absurd hb136 (by decide +kernel)
theorem pf_succ {g fk pf pt pr : Int32} {mi cd sz sp th fo go la : Nat → Int32} {R L hd : Nat → Nat → Int32} {x du : Int32} {xN gN D : Nat} {rkc : (Nat → Nat) → Nat} {Lv : Nat → Nat → Nat} {st : Nat → Nat} {m : Nat} (hsz : szH sz) (hsp : spH sp) (hmi : miH mi) (hx : x.toInt = (xN : Int)) (hx6 : xN < 6) (hg : g.toInt = (gN : Int)) (hg4 : gN ≤ 4) (hdu : du.toInt = (D : Int)) (hR : ∀ s : Nat, s < 70 → (R xN s).toInt = ((rkc (cN s) : Nat) : Int)) (hkc : ∀ c e : Nat → Nat, (∀ b, b < 4 → c b = e b) → rkc c = rkc e) (hkb : ∀ c : Nat → Nat, rkc c ≤ 100000) (hL : ∀ f r : Nat, f < 70 → szN f + r ≤ gN → (L (xN + 1) (5 * f + r)).toInt = ((Lv f r : Nat) : Int)) (hLb : ∀ f r : Nat, Lv f r ≤ 1000000) (hst : stU st) (hla : ∀ i : Nat, i < gN → (la i).toInt = lr (st i)) (hrec : PFC g fk pf pt pr mi cd sz sp th fo go la R L hd x du xN gN D rkc Lv st m) : PFC g fk pf pt pr mi cd sz sp th fo go la R L hd x du xN gN D rkc Lv st (m + 1) := by
  intro pl y oc fc gd pp hpl hy hgm hok hoc hfc
  have kcm9 : (Int32.ofInt (-9)).toInt = -9 := by decide +kernel
  have kc0 : (Int32.ofInt 0).toInt = 0 := by decide +kernel
  have kc1 : (Int32.ofInt 1).toInt = 1 := by decide +kernel
  have kc4 : (Int32.ofInt 4).toInt = 4 := by decide +kernel
  have kc5 : (Int32.ofInt 5).toInt = 5 := by decide +kernel
  have hlay : (la y.toNatClampNeg).toInt = lr (st gd) := by
    rw [cx_clamp hy]
    exact hla gd (by omega)
  refine cx_Ct.of cg_59 (nL := 10) rfl rfl rfl ?_
  show cx_T (4 + (m + 1)) 59 [43, 44, 45, 46, 47, 48, 49, 50, 51, 52, 53, 54, 55, 56, 57, 58, 59, 60, 61, 62, 63, 64, 65, 66, 67, 2, 5, 6, 7, 8, 9] 0 ([some (.inr (.inl 43)), some (.inl (.int x)), some (.inl (.int y)), some (.inl (.int oc)), some (.inl (.int fc)), some (.inl (.int du)), none, none, none, none], [], (h_ro g fk pf pt pr mi cd sz sp th fo go la pl R L hd)) _
  refine ex_iload_n cg_59 (ix := 0) (pc' := 1) rfl rfl rfl ?_
  refine ex_aload_n cg_59 (ix := 1) (pc' := 2) rfl rfl rfl ?_
  refine ex_getfield cg_59 (ix := 2) (pc' := 5) rfl rfl rfl rfl rfl ?_
  refine ex_icmp cg_59 (ix := 3) (t := 91) (pc' := 8) rfl rfl rfl (fun hb5 => ?_) (fun hb5 => ?_)
  · have hb5 : y.toInt < g.toInt := hb5
    refine ex_iload_n cg_59 (ix := 57) (pc' := 92) rfl rfl rfl ?_
    refine ex_iconst cg_59 (ix := 58) (pc' := 93) rfl rfl ?_
    refine ex_imul cg_59 (ix := 59) (pc' := 94) rfl rfl ?_
    refine ex_iload_n cg_59 (ix := 60) (pc' := 95) rfl rfl rfl ?_
    refine ex_iadd cg_59 (ix := 61) (pc' := 96) rfl rfl ?_
    refine ex_istore cg_59 (ix := 62) (pc' := 98) (L' := [some (.inr (.inl 43)), some (.inl (.int x)), some (.inl (.int y)), some (.inl (.int oc)), some (.inl (.int fc)), some (.inl (.int du)), some (.inl (.int ((x * (Int32.ofInt 4)) + y))), none, none, none]) rfl rfl rfl rfl ?_
    refine ex_aload_n cg_59 (ix := 63) (pc' := 99) rfl rfl rfl ?_
    refine ex_getfield cg_59 (ix := 64) (pc' := 102) rfl rfl rfl rfl rfl ?_
    refine ex_iload_n cg_59 (ix := 65) (pc' := 103) rfl rfl rfl ?_
    refine ex_iaload cg_59 (ix := 66) (pc' := 104) rfl rfl (by omega) (by omega) rfl ?_
    refine ex_iconst cg_59 (ix := 67) (pc' := 105) rfl rfl ?_
    refine ex_icmp cg_59 (ix := 68) (t := 112) (pc' := 108) rfl rfl rfl (fun hb105 => ?_) (fun hb105 => ?_)
    · have hb105 : ¬ (la y.toNatClampNeg).toInt = (Int32.ofInt 4).toInt := hb105
      have hs0 : ¬ st gd = 0 := fun q => by
        unfold lr at hlay
        rw [if_pos q] at hlay
        omega
      refine ex_iconst cg_59 (ix := 71) (pc' := 113) rfl rfl ?_
      refine ex_istore cg_59 (ix := 72) (pc' := 115) (L' := [some (.inr (.inl 43)), some (.inl (.int x)), some (.inl (.int y)), some (.inl (.int oc)), some (.inl (.int fc)), some (.inl (.int du)), some (.inl (.int ((x * (Int32.ofInt 4)) + y))), some (.inl (.int (Int32.ofInt 0))), none, none]) rfl rfl rfl rfl ?_
      refine ex_iconst cg_59 (ix := 73) (pc' := 116) rfl rfl ?_
      refine ex_istore cg_59 (ix := 74) (pc' := 118) (L' := [some (.inr (.inl 43)), some (.inl (.int x)), some (.inl (.int y)), some (.inl (.int oc)), some (.inl (.int fc)), some (.inl (.int du)), some (.inl (.int ((x * (Int32.ofInt 4)) + y))), some (.inl (.int (Int32.ofInt 0))), some (.inl (.int (Int32.ofInt 0))), none]) rfl rfl rfl rfl ?_
      exact pf_loop (g := g) (fk := fk) (pf := pf) (pt := pt) (pr := pr) (mi := mi) (cd := cd) (sz := sz) (sp := sp) (th := th) (fo := fo) (go := go) (la := la) (pl := pl) (R := R) (L := L) (hd := hd) (x := x) (du := du) (xN := xN) (gN := gN) (D := D) (rkc := rkc) (Lv := Lv) (st := st) (y := y) (oc := oc) (fc := fc) (rv := Int32.ofInt 0) (gd := gd) (mm := m) (pp := pp) hsz hsp hmi hx hx6 hg hg4 hdu hR hkc hkb hL hLb hst hla hrec hy hgm hok hoc hfc (⟨fun _ => hs0, fun _ => by decide +kernel⟩) (P := fun v h2 => ∃ (z : Int32) (pl2 : Nat → Int32), v = some (.inl (.int z)) ∧ h2 = h_ro g fk pf pt pr mi cd sz sp th fo go la pl2 R L hd ∧ plU pl2 ∧ (∀ j : Nat, ¬ (4 * xN + gd ≤ j ∧ j < 4 * xN + gN) → pl2 j = pl j) ∧ ((z = Int32.ofInt 1 ∧ ∃ ts : Nat → Nat, isF (nbF mi) (okD rkc Lv gN D) st gN gd pp ts ∧ ∀ i : Nat, gd ≤ i → i < gN → (pl2 (4 * xN + i)).toInt = rpv (ts i)) ∨ (z = Int32.ofInt 0 ∧ ∀ ts : Nat → Nat, ¬ vsT (nbF mi) (okD rkc Lv gN D) st gN gd pp ts))) (fun z pl2 h1 => ⟨z, pl2, rfl, rfl, h1⟩) 4 0 (by omega) (Int32.ofInt 0) (by decide +kernel) pl none hpl (fun _ _ => rfl) (fun _ _ => Nat.zero_le _)
    · have hb105 : ¬ (¬ (la y.toNatClampNeg).toInt = (Int32.ofInt 4).toInt) := hb105
      have hs0 : st gd = 0 := by
        unfold lr at hlay
        split at hlay
        · assumption
        · split at hlay
          · have := hst gd (by omega)
            omega
          · omega
      refine ex_iconst cg_59 (ix := 69) (pc' := 109) rfl rfl ?_
      refine ex_goto cg_59 (ix := 70) (pc' := 113) rfl rfl ?_
      refine ex_istore cg_59 (ix := 72) (pc' := 115) (L' := [some (.inr (.inl 43)), some (.inl (.int x)), some (.inl (.int y)), some (.inl (.int oc)), some (.inl (.int fc)), some (.inl (.int du)), some (.inl (.int ((x * (Int32.ofInt 4)) + y))), some (.inl (.int (Int32.ofInt 1))), none, none]) rfl rfl rfl rfl ?_
      refine ex_iconst cg_59 (ix := 73) (pc' := 116) rfl rfl ?_
      refine ex_istore cg_59 (ix := 74) (pc' := 118) (L' := [some (.inr (.inl 43)), some (.inl (.int x)), some (.inl (.int y)), some (.inl (.int oc)), some (.inl (.int fc)), some (.inl (.int du)), some (.inl (.int ((x * (Int32.ofInt 4)) + y))), some (.inl (.int (Int32.ofInt 1))), some (.inl (.int (Int32.ofInt 0))), none]) rfl rfl rfl rfl ?_
      exact pf_loop (g := g) (fk := fk) (pf := pf) (pt := pt) (pr := pr) (mi := mi) (cd := cd) (sz := sz) (sp := sp) (th := th) (fo := fo) (go := go) (la := la) (pl := pl) (R := R) (L := L) (hd := hd) (x := x) (du := du) (xN := xN) (gN := gN) (D := D) (rkc := rkc) (Lv := Lv) (st := st) (y := y) (oc := oc) (fc := fc) (rv := Int32.ofInt 1) (gd := gd) (mm := m) (pp := pp) hsz hsp hmi hx hx6 hg hg4 hdu hR hkc hkb hL hLb hst hla hrec hy hgm hok hoc hfc (⟨fun q => absurd q (by decide +kernel), fun q => absurd hs0 q⟩) (P := fun v h2 => ∃ (z : Int32) (pl2 : Nat → Int32), v = some (.inl (.int z)) ∧ h2 = h_ro g fk pf pt pr mi cd sz sp th fo go la pl2 R L hd ∧ plU pl2 ∧ (∀ j : Nat, ¬ (4 * xN + gd ≤ j ∧ j < 4 * xN + gN) → pl2 j = pl j) ∧ ((z = Int32.ofInt 1 ∧ ∃ ts : Nat → Nat, isF (nbF mi) (okD rkc Lv gN D) st gN gd pp ts ∧ ∀ i : Nat, gd ≤ i → i < gN → (pl2 (4 * xN + i)).toInt = rpv (ts i)) ∨ (z = Int32.ofInt 0 ∧ ∀ ts : Nat → Nat, ¬ vsT (nbF mi) (okD rkc Lv gN D) st gN gd pp ts))) (fun z pl2 h1 => ⟨z, pl2, rfl, rfl, h1⟩) 4 0 (by omega) (Int32.ofInt 0) (by decide +kernel) pl none hpl (fun _ _ => rfl) (fun _ _ => Nat.zero_le _)
  · have hb5 : ¬ (y.toInt < g.toInt) := hb5
    exfalso; first | omega | exact absurd hb5 (by decide +kernel)
theorem ct_pf {g fk pf pt pr : Int32} {mi cd sz sp th fo go la : Nat → Int32} {R L hd : Nat → Nat → Int32} {x du : Int32} {xN gN D : Nat} {rkc : (Nat → Nat) → Nat} {Lv : Nat → Nat → Nat} {st : Nat → Nat} (hsz : szH sz) (hsp : spH sp) (hmi : miH mi) (hx : x.toInt = (xN : Int)) (hx6 : xN < 6) (hg : g.toInt = (gN : Int)) (hg4 : gN ≤ 4) (hdu : du.toInt = (D : Int)) (hR : ∀ s : Nat, s < 70 → (R xN s).toInt = ((rkc (cN s) : Nat) : Int)) (hkc : ∀ c e : Nat → Nat, (∀ b, b < 4 → c b = e b) → rkc c = rkc e) (hkb : ∀ c : Nat → Nat, rkc c ≤ 100000) (hL : ∀ f r : Nat, f < 70 → szN f + r ≤ gN → (L (xN + 1) (5 * f + r)).toInt = ((Lv f r : Nat) : Int)) (hLb : ∀ f r : Nat, Lv f r ≤ 1000000) (hst : stU st) (hla : ∀ i : Nat, i < gN → (la i).toInt = lr (st i)) : ∀ m : Nat, PFC g fk pf pt pr mi cd sz sp th fo go la R L hd x du xN gN D rkc Lv st m
  | 0 => pf_leaf (g := g) (fk := fk) (pf := pf) (pt := pt) (pr := pr) (mi := mi) (cd := cd) (sz := sz) (sp := sp) (th := th) (fo := fo) (go := go) (la := la) (R := R) (L := L) (hd := hd) (x := x) (du := du) (xN := xN) (gN := gN) (D := D) (rkc := rkc) (Lv := Lv) (st := st) hsz hsp hmi hx hx6 hg hg4 hdu hR hkc hkb hL hLb hst hla
  | m + 1 => pf_succ (g := g) (fk := fk) (pf := pf) (pt := pt) (pr := pr) (mi := mi) (cd := cd) (sz := sz) (sp := sp) (th := th) (fo := fo) (go := go) (la := la) (R := R) (L := L) (hd := hd) (x := x) (du := du) (xN := xN) (gN := gN) (D := D) (rkc := rkc) (Lv := Lv) (st := st) hsz hsp hmi hx hx6 hg hg4 hdu hR hkc hkb hL hLb hst hla (ct_pf (g := g) (fk := fk) (pf := pf) (pt := pt) (pr := pr) (mi := mi) (cd := cd) (sz := sz) (sp := sp) (th := th) (fo := fo) (go := go) (la := la) (R := R) (L := L) (hd := hd) (x := x) (du := du) (xN := xN) (gN := gN) (D := D) (rkc := rkc) (Lv := Lv) (st := st) hsz hsp hmi hx hx6 hg hg4 hdu hR hkc hkb hL hLb hst hla m)
end
