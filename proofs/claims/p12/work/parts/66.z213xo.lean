noncomputable section
/-- hours that a roster may be of -/
def spN2 (x y : Int32) : Prop := (0 ≤ x.toInt ∧ x.toInt < 16) ∧ (0 ≤ y.toInt ∧ y.toInt < 16) ∧ x.toInt ≤ y.toInt
def spR (x y : Int32) : Prop := spN2 x y ∧ ¬ 5 < y.toInt - x.toInt
def eR (y : Int32) : Nat := (y.toInt + 1).toNat
def hR (x y : Int32) : Nat := (y.toInt + 1 - x.toInt).toNat
/-- what a roster answers -/
def rosA (nb : Nat → Nat → Prop) (hd : Nat → Nat → Int32) (G : Nat) (x y z : Int32) : Prop := (¬ spN2 x y ∧ z.toInt = -1) ∨ (spN2 x y ∧ 5 < y.toInt - x.toInt ∧ z.toInt = -6) ∨ (spR x y ∧ z.toInt = ((LV nb (rkE hd (eR y)) G (hR x y) 0 G : Nat) : Int))
/-- and where a guard is -/
def atN (G : Nat) (x y g w : Int32) : Prop := spN2 x y ∧ (x.toInt ≤ w.toInt ∧ w.toInt ≤ y.toInt) ∧ 0 ≤ g.toInt ∧ g.toInt < (G : Int)
def rosB (nb : Nat → Nat → Prop) (hd : Nat → Nat → Int32) (G : Nat) (x y g w z : Int32) : Prop := (¬ atN G x y g w ∧ z.toInt = -1) ∨ (atN G x y g w ∧ 5 < y.toInt - x.toInt ∧ z.toInt = -6) ∨ (atN G x y g w ∧ spR x y ∧ ∃ SS TS : Nat → Nat → Nat, planP nb (rkE hd (eR y)) G (hR x y) SS TS ((w.toInt - x.toInt).toNat + 1) ∧ z.toInt = rpv (TS (w.toInt - x.toInt).toNat g.toNatClampNeg))
/-- the reference's tables, as told -/
def rosM (nb : Nat → Nat → Prop) (hd : Nat → Nat → Int32) (G : Nat) (f t : Int32) (ro : Nat → Int32) : Prop := f.toInt = -1 ∨ (spR f t ∧ ∀ q : Nat, q ≤ hR f t → roL nb (rkE hd (eR t)) G (hR f t) ro q 6561)
theorem sp_n {x y : Int32} (h : spR x y) : x.toInt = ((x.toInt.toNat : Nat) : Int) ∧ y.toInt + 1 = ((eR y : Nat) : Int) ∧ x.toInt.toNat + hR x y = eR y ∧ 1 ≤ hR x y ∧ hR x y ≤ 6 ∧ eR y ≤ 16 := by
  obtain ⟨⟨h1, h2, h3⟩, h4⟩ := h
  unfold eR hR
  omega
/-- those who are none stay rested: the last ones count nothing -/
theorem fs_ext {st : Nat → Nat} {G : Nat} : ∀ {n : Nat}, (∀ i, G ≤ i → i < G + n → st i = 0) → fsC st (G + n) = fsC st G ∧ zsC st (G + n) = zsC st G + n
  | 0, _ => ⟨rfl, rfl⟩
  | n + 1, h => by
    obtain ⟨h1, h2⟩ := fs_ext (n := n) (fun i q1 q2 => h i q1 (by omega))
    have h0 := h (G + n) (by omega) (by omega)
    rw [show G + (n + 1) = (G + n) + 1 by omega, fsC_e (by rw [h0]; decide), zsC_z h0, h1, h2]
    exact ⟨rfl, by omega⟩
theorem on_ext {st ts : Nat → Nat} {G : Nat} : ∀ {n : Nat}, (∀ i, G ≤ i → i < G + n → ts i = 4) → onC st ts (G + n) = onC st ts G ∧ frC st ts (G + n) = frC st ts G
  | 0, _ => ⟨rfl, rfl⟩
  | n + 1, h => by
    obtain ⟨h1, h2⟩ := on_ext (n := n) (fun i q1 q2 => h i q1 (by omega))
    have h0 := h (G + n) (by omega) (by omega)
    rw [show G + (n + 1) = (G + n) + 1 by omega, onC_4 h0, frC_4 h0]
    exact ⟨h1, h2⟩
theorem fs_4 {st : Nat → Nat} {G : Nat} (hG : G ≤ 4) (h : ∀ i, G ≤ i → st i = 0) : fsC st 4 = fsC st G ∧ zsC st 4 - (4 - G) = zsC st G ∧ 4 - G ≤ zsC st 4 := by
  obtain ⟨h1, h2⟩ := fs_ext (st := st) (G := G) (n := 4 - G) (fun i q _ => h i q)
  rw [show G + (4 - G) = 4 by omega] at h1 h2
  exact ⟨h1, by omega, by omega⟩
/-- a way's number fits what is due -/
def mtK (nb : Nat → Nat → Prop) (rkc : (Nat → Nat) → Nat) (Lv : Nat → Nat → Nat) (G D : Nat) (st : Nat → Nat) (K : Nat) : Prop := (∀ i : Nat, i < 4 → okG nb False G st (dgK K) i) ∧ totK rkc Lv G st K = D
theorem mt_vs {nb : Nat → Nat → Prop} {rkc : (Nat → Nat) → Nat} {Lv : Nat → Nat → Nat} {G D K : Nat} {st : Nat → Nat} (hk : ∀ c e : Nat → Nat, (∀ b, b < 4 → c b = e b) → rkc c = rkc e) (hG : G ≤ 4) (h : mtK nb rkc Lv G D st K) : vsT nb (okD rkc Lv G D) st G 0 (fun _ => 0) (dgK K) := by
  obtain ⟨h1, h2⟩ := h
  obtain ⟨h3, h4⟩ := (ok_F hG).mp h1
  obtain ⟨e1, e2⟩ := on_ext (st := st) (ts := dgK K) (G := G) (n := 4 - G) (fun i q1 q2 => h4 i q1 (by omega))
  rw [show G + (4 - G) = 4 by omega] at e1 e2
  rw [tot_on hk hG, e1, e2] at h2
  exact ⟨fun i hi => absurd hi (Nat.not_lt_zero i), h3, h2⟩
theorem vs_mt {nb : Nat → Nat → Prop} {rkc : (Nat → Nat) → Nat} {Lv : Nat → Nat → Nat} {G D : Nat} {st ts : Nat → Nat} (hk : ∀ c e : Nat → Nat, (∀ b, b < 4 → c b = e b) → rkc c = rkc e) (hG : G ≤ 4) (h : vsT nb (okD rkc Lv G D) st G 0 (fun _ => 0) ts) : ∃ K, K < 625 ∧ mtK nb rkc Lv G D st K ∧ nmb G ts = K := by
  obtain ⟨-, h2, h3⟩ := h
  have h4 : ∀ i, i < 4 → (if i < G then ts i else 4) ≤ 4 := fun i _ => by
    split
    · rcases h2 i (by assumption) with q | q <;> omega
    · exact Nat.le_refl _
  obtain ⟨K, k1, k2⟩ := dgK_of h4
  have kE : ∀ i, i < G → dgK K i = ts i := fun i hi => by rw [k2 i (by omega), if_pos hi]
  have k4 : ∀ i, G ≤ i → i < 4 → dgK K i = 4 := fun i h1 h2 => by rw [k2 i h2, if_neg (by omega)]
  obtain ⟨e1, e2⟩ := on_ext (st := st) (ts := dgK K) (G := G) (n := 4 - G) (fun i q1 q2 => k4 i q1 (by omega))
  rw [show G + (4 - G) = 4 by omega] at e1 e2
  refine ⟨K, k1, ⟨(ok_F hG).mpr ⟨fun i hi => by rw [kE i hi]; exact h2 i hi, k4⟩, ?_⟩, ?_⟩
  · rw [tot_on hk hG, e1, e2, onC_E (ts2 := ts) kE, frC_E (ts2 := ts) kE]
    exact h3
  · obtain ⟨d0, d1, d2, d3⟩ := dgK_v (K := K)
    have dE : ∀ i, i < 4 → dg G ts i = dgK K i := fun i hi => by
      rw [k2 i hi]
      rfl
    unfold nmb
    rw [dE 0 (by omega), dE 1 (by omega), dE 2 (by omega), dE 3 (by omega), d0, d1, d2, d3]
    omega
theorem mt_first {nb : Nat → Nat → Prop} {rkc : (Nat → Nat) → Nat} {Lv : Nat → Nat → Nat} {G D K : Nat} {st : Nat → Nat} (hk : ∀ c e : Nat → Nat, (∀ b, b < 4 → c b = e b) → rkc c = rkc e) (hG : G ≤ 4) (hK : K < 625) (h : mtK nb rkc Lv G D st K) (hn : ∀ K2, K2 < K → ¬ mtK nb rkc Lv G D st K2) : isF nb (okD rkc Lv G D) st G 0 (fun _ => 0) (dgK K) := by
  refine ⟨mt_vs hk hG h, fun ts2 hv => ?_⟩
  obtain ⟨K2, k1, k2, k3⟩ := vs_mt hk hG hv
  have h4 := ((ok_F hG).mp h.1).2
  obtain ⟨d0, d1, d2, d3⟩ := dgK_v (K := K)
  have dE : ∀ i, i < 4 → dg G (dgK K) i = dgK K i := fun i hi => by
    unfold dg
    by_cases q : i < G
    · rw [if_pos q]
    · rw [if_neg q, h4 i (by omega) hi]
  have e : nmb G (dgK K) = K := by
    unfold nmb
    rw [dE 0 (by omega), dE 1 (by omega), dE 2 (by omega), dE 3 (by omega), d0, d1, d2, d3]
    omega
  rw [e, k3]
  exact Nat.le_of_not_lt (fun z => hn K2 z k2)
/-- one plan alone -/
theorem nmb_inj {G : Nat} {ts ts2 : Nat → Nat} (hG : G ≤ 4) (h1 : ∀ i, i < G → ts i ≤ 4) (h2 : ∀ i, i < G → ts2 i ≤ 4) (h : nmb G ts = nmb G ts2) : ∀ i, i < G → ts i = ts2 i := by
  have b1 : ∀ i, dg G ts i ≤ 4 := fun i => by
    unfold dg
    split
    · exact h1 i (by assumption)
    · exact Nat.le_refl _
  have b2 : ∀ i, dg G ts2 i ≤ 4 := fun i => by
    unfold dg
    split
    · exact h2 i (by assumption)
    · exact Nat.le_refl _
  have a0 := b1 0
  have a1 := b1 1
  have a2 := b1 2
  have a3 := b1 3
  have c0 := b2 0
  have c1 := b2 1
  have c2 := b2 2
  have c3 := b2 3
  unfold nmb at h
  have hd : ∀ i, i < 4 → dg G ts i = dg G ts2 i := fun i hi => by
    rcases (show i = 0 ∨ i = 1 ∨ i = 2 ∨ i = 3 by omega) with rfl | rfl | rfl | rfl <;> omega
  intro i hi
  have := hd i (by omega)
  unfold dg at this
  rw [if_pos hi, if_pos hi] at this
  exact this
theorem plan_1 {nb : Nat → Nat → Prop} {rk : Nat → (Nat → Nat) → Nat} {G H : Nat} {SS TS S2 T2 : Nat → Nat → Nat} {n m : Nat} (hG : G ≤ 4) (h1 : planP nb rk G H SS TS n) (h2 : planP nb rk G H S2 T2 m) : ∀ j : Nat, j < n → j < m → SS j = S2 j ∧ ∀ i, i < G → TS j i = T2 j i := by
  have key : ∀ j : Nat, j < n → j < m → SS j = S2 j → ∀ i, i < G → TS j i = T2 j i := fun j q1 q2 e => by
    have f1 := (h1.2 j q1).1
    have f2 := (h2.2 j q2).1
    rw [← e] at f2
    exact nmb_inj hG (isF_4 f1) (isF_4 f2) (Nat.le_antisymm (f1.2 _ f2.1) (f2.2 _ f1.1))
  intro j
  induction j with
  | zero =>
    intro q1 q2
    have e : SS 0 = S2 0 := funext (fun i => by rw [h1.1 i, h2.1 i])
    exact ⟨e, key 0 q1 q2 e⟩
  | succ j ih =>
    intro q1 q2
    obtain ⟨i1, i2⟩ := ih (by omega) (by omega)
    have e : SS (j + 1) = S2 (j + 1) := funext (fun i => by
      rw [(h1.2 j (by omega)).2 i, (h2.2 j (by omega)).2 i]
      by_cases q : i < G
      · rw [if_pos q, if_pos q, i1, i2 i q]
      · rw [if_neg q, if_neg q])
    exact ⟨e, key (j + 1) q1 q2 e⟩
/-- the same answers -/
theorem rosA_E {nb : Nat → Nat → Prop} {hd : Nat → Nat → Int32} {G : Nat} {x y z z2 : Int32} (h1 : rosA nb hd G x y z) (h2 : rosA nb hd G x y z2) : z = z2 := by
  apply cx_i32
  rcases h1 with ⟨p, q⟩ | ⟨p, p2, q⟩ | ⟨p, q⟩ <;> rcases h2 with ⟨u, v⟩ | ⟨u, u2, v⟩ | ⟨u, v⟩
  · rw [q, v]
  · exact absurd u p
  · exact absurd u.1 p
  · exact absurd p u
  · rw [q, v]
  · exact absurd p2 u.2
  · exact absurd p.1 u
  · exact absurd u2 p.2
  · rw [q, v]
theorem rosB_E {nb : Nat → Nat → Prop} {hd : Nat → Nat → Int32} {G : Nat} {x y g w z z2 : Int32} (hG : G ≤ 4) (h1 : rosB nb hd G x y g w z) (h2 : rosB nb hd G x y g w z2) : z = z2 := by
  apply cx_i32
  rcases h1 with ⟨p, q⟩ | ⟨p, p2, q⟩ | ⟨p, p2, SS, TS, q1, q2⟩ <;> rcases h2 with ⟨u, v⟩ | ⟨u, u2, v⟩ | ⟨u, u2, S2, T2, v1, v2⟩
  · rw [q, v]
  · exact absurd u p
  · exact absurd u p
  · exact absurd p u
  · rw [q, v]
  · exact absurd p2 u2.2
  · exact absurd p u
  · exact absurd u2 p2.2
  · have hg := p.2.2
    have hgc := ab_clamp (x := g) hg.1
    rw [q2, v2, (plan_1 hG q1 v1 (w.toInt - x.toInt).toNat (Nat.lt_succ_self _) (Nat.lt_succ_self _)).2 g.toNatClampNeg (by omega)]
theorem ct_wro {x y : Int32} : cx_Ct 4 212 [.inl (.int x), .inl (.int y)] [] (fun v h2 => ∃ z : Int32, v = some (.inl (.int z)) ∧ h2 = [] ∧ ((¬ spN2 x y ∧ z.toInt = -1) ∨ (spN2 x y ∧ 5 < y.toInt - x.toInt ∧ z.toInt = -6) ∨ (spR x y ∧ z.toInt = 0))) := by
  have kcm1 : (Int32.ofInt (-1)).toInt = -1 := by decide +kernel
  have kc5 : (Int32.ofInt 5).toInt = 5 := by decide +kernel
  have kcm6 : (Int32.ofInt (-6)).toInt = -6 := by decide +kernel
  have kc0 : (Int32.ofInt 0).toInt = 0 := by decide +kernel
  refine cx_Ct.of cg_212 (nL := 2) rfl rfl rfl ?_
  show cx_T 4 212 [] 0 ([some (.inl (.int x)), some (.inl (.int y))], [], []) _
  refine ex_iload_n cg_212 (ix := 0) (pc' := 1) rfl rfl rfl ?_
  refine ex_callS cg_212 (ix := 1) (pc' := 4) (As := [.inl (.int x)]) (r := []) rfl rfl rfl (ct_mhour (x := x)) (by first | decide | omega) rfl rfl trivial rfl rfl (fun v h2 hq => ?_)
  obtain ⟨zia, rfl, rfl, hzia⟩ := hq
  rcases hzia with ⟨hia, rfl⟩ | ⟨hia, rfl⟩
  · show cx_T _ 212 _ 4 ([some (.inl (.int x)), some (.inl (.int y))], [.inl (.int (Int32.ofInt 1))], []) _
    refine ex_if cg_212 (ix := 2) (t := 19) (pc' := 7) rfl rfl rfl (fun hb4 => ?_) (fun hb4 => ?_)
    · have hb4 : (Int32.ofInt 1).toInt = 0 := hb4
      exfalso; first | omega | exact absurd hb4 (by decide +kernel)
    · have hb4 : ¬ ((Int32.ofInt 1).toInt = 0) := hb4
      refine ex_iload_n cg_212 (ix := 3) (pc' := 8) rfl rfl rfl ?_
      refine ex_callS cg_212 (ix := 4) (pc' := 11) (As := [.inl (.int y)]) (r := []) rfl rfl rfl (ct_mhour (x := y)) (by first | decide | omega) rfl rfl trivial rfl rfl (fun v h2 hq => ?_)
      obtain ⟨zib, rfl, rfl, hzib⟩ := hq
      rcases hzib with ⟨hib, rfl⟩ | ⟨hib, rfl⟩
      · show cx_T _ 212 _ 11 ([some (.inl (.int x)), some (.inl (.int y))], [.inl (.int (Int32.ofInt 1))], []) _
        refine ex_if cg_212 (ix := 5) (t := 19) (pc' := 14) rfl rfl rfl (fun hb11 => ?_) (fun hb11 => ?_)
        · have hb11 : (Int32.ofInt 1).toInt = 0 := hb11
          exfalso; first | omega | exact absurd hb11 (by decide +kernel)
        · have hb11 : ¬ ((Int32.ofInt 1).toInt = 0) := hb11
          refine ex_iload_n cg_212 (ix := 6) (pc' := 15) rfl rfl rfl ?_
          refine ex_iload_n cg_212 (ix := 7) (pc' := 16) rfl rfl rfl ?_
          refine ex_icmp cg_212 (ix := 8) (t := 23) (pc' := 19) rfl rfl rfl (fun hb16 => ?_) (fun hb16 => ?_)
          · have hb16 : x.toInt ≤ y.toInt := hb16
            refine ex_iload_n cg_212 (ix := 11) (pc' := 24) rfl rfl rfl ?_
            have hyx : (y - x).toInt = y.toInt - x.toInt := cx_subc (by omega) (by omega)
            refine ex_iload_n cg_212 (ix := 12) (pc' := 25) rfl rfl rfl ?_
            refine ex_isub cg_212 (ix := 13) (pc' := 26) rfl rfl ?_
            refine ex_iconst cg_212 (ix := 14) (pc' := 27) rfl rfl ?_
            refine ex_icmp cg_212 (ix := 15) (t := 35) (pc' := 30) rfl rfl rfl (fun hb27 => ?_) (fun hb27 => ?_)
            · have hb27 : (y - x).toInt ≤ (Int32.ofInt 5).toInt := hb27
              refine ex_iconst cg_212 (ix := 18) (pc' := 36) rfl rfl ?_
              refine ex_ireturn cg_212 (ix := 19) rfl ?_
              exact ⟨_, rfl, rfl, Or.inr (Or.inr ⟨⟨⟨hia, hib, by omega⟩, by omega⟩, kc0⟩)⟩
            · have hb27 : ¬ ((y - x).toInt ≤ (Int32.ofInt 5).toInt) := hb27
              refine ex_bipush cg_212 (ix := 16) (pc' := 32) rfl rfl rfl ?_
              refine ex_goto cg_212 (ix := 17) (pc' := 36) rfl rfl ?_
              refine ex_ireturn cg_212 (ix := 19) rfl ?_
              exact ⟨_, rfl, rfl, Or.inr (Or.inl ⟨⟨hia, hib, by omega⟩, by omega, kcm6⟩)⟩
          · have hb16 : ¬ (x.toInt ≤ y.toInt) := hb16
            refine ex_iconst cg_212 (ix := 9) (pc' := 20) rfl rfl ?_
            refine ex_goto cg_212 (ix := 10) (pc' := 36) rfl rfl ?_
            refine ex_ireturn cg_212 (ix := 19) rfl ?_
            exact ⟨_, rfl, rfl, Or.inl ⟨fun q => by
              obtain ⟨q1, q2, q3⟩ := q
              first
              | omega
              | exact hia q1
              | exact hib q2, kcm1⟩⟩
      · show cx_T _ 212 _ 11 ([some (.inl (.int x)), some (.inl (.int y))], [.inl (.int (Int32.ofInt 0))], []) _
        refine ex_if cg_212 (ix := 5) (t := 19) (pc' := 14) rfl rfl rfl (fun hb11 => ?_) (fun hb11 => ?_)
        · have hb11 : (Int32.ofInt 0).toInt = 0 := hb11
          refine ex_iconst cg_212 (ix := 9) (pc' := 20) rfl rfl ?_
          refine ex_goto cg_212 (ix := 10) (pc' := 36) rfl rfl ?_
          refine ex_ireturn cg_212 (ix := 19) rfl ?_
          exact ⟨_, rfl, rfl, Or.inl ⟨fun q => by
            obtain ⟨q1, q2, q3⟩ := q
            first
            | omega
            | exact hia q1
            | exact hib q2, kcm1⟩⟩
        · have hb11 : ¬ ((Int32.ofInt 0).toInt = 0) := hb11
          exfalso; first | omega | exact absurd hb11 (by decide +kernel)
  · show cx_T _ 212 _ 4 ([some (.inl (.int x)), some (.inl (.int y))], [.inl (.int (Int32.ofInt 0))], []) _
    refine ex_if cg_212 (ix := 2) (t := 19) (pc' := 7) rfl rfl rfl (fun hb4 => ?_) (fun hb4 => ?_)
    · have hb4 : (Int32.ofInt 0).toInt = 0 := hb4
      refine ex_iconst cg_212 (ix := 9) (pc' := 20) rfl rfl ?_
      refine ex_goto cg_212 (ix := 10) (pc' := 36) rfl rfl ?_
      refine ex_ireturn cg_212 (ix := 19) rfl ?_
      exact ⟨_, rfl, rfl, Or.inl ⟨fun q => by
        obtain ⟨q1, q2, q3⟩ := q
        first
        | omega
        | exact hia q1
        | exact hib q2, kcm1⟩⟩
    · have hb4 : ¬ ((Int32.ofInt 0).toInt = 0) := hb4
      exfalso; first | omega | exact absurd hb4 (by decide +kernel)
theorem ct_mro {mi : Nat → Int32} {ml : Nat → Int64} {mm mh ro fo4 th4 so ab r : Nat → Int32} {hd : Nat → Nat → Int32} {x y : Int32} {gN : Nat} (hmm : ∀ b : Nat, b < 4 → 0 ≤ (mm b).toInt ∧ (mm b).toInt ≤ 40) (hmh : ∀ b h : Nat, b < 4 → h < 16 → (mh (16 * b + h)).toInt = (hd b h).toInt) (hhd : hdH hd) (hg : (mi 8).toInt = (gN : Int)) (hg4 : gN ≤ 4) (hfoU : ∀ i : Nat, i < 4 → 0 ≤ (fo4 i).toInt ∧ (fo4 i).toInt ≤ 8) (hthU : thU th4) (hsoU : thU so) (habU : abU ab) (hrm : rosM (nbF mm) hd gN (mi 22) (mi 23) ro) : cx_Ct 7 213 [.inr (.inl 119), .inl (.int x), .inl (.int y)] ([(119, .inl (11, vs_119 mi ml)), (126, .inr (.inl (0, 7, r))), (120, .inr (.inl (0, 4, mm))), (124, .inr (.inl (0, 64, mh))), (130, .inr (.inl (0, 45927, ro))), (131, .inr (.inl (0, 4, fo4))), (132, .inr (.inl (0, 4, th4))), (133, .inr (.inl (0, 4, so))), (134, .inr (.inl (0, 5, ab)))]) (fun v h2 => ∃ (z : Int32) (mi2 r2 ro2 fo2 th2 so2 ab2 : Nat → Int32), v = some (.inl (.int z)) ∧ h2 = [(119, .inl (11, vs_119 mi2 ml)), (126, .inr (.inl (0, 7, r2))), (120, .inr (.inl (0, 4, mm))), (124, .inr (.inl (0, 64, mh))), (130, .inr (.inl (0, 45927, ro2))), (131, .inr (.inl (0, 4, fo2))), (132, .inr (.inl (0, 4, th2))), (133, .inr (.inl (0, 4, so2))), (134, .inr (.inl (0, 5, ab2)))] ∧ ((∀ i : Nat, i < 4 → 0 ≤ (fo2 i).toInt ∧ (fo2 i).toInt ≤ 8) ∧ thU th2 ∧ thU so2 ∧ abU ab2) ∧ ((∀ i : Nat, (Nat.beq i 0 || (Nat.beq i 21 || (Nat.beq i 22 || Nat.beq i 23))) = false → mi2 i = mi i) ∧ ((mi2 21 = mi 21) ∨ (mi2 21).toInt = 0 ∨ (mi2 21).toInt = 1)) ∧ rosM (nbF mm) hd gN (mi2 22) (mi2 23) ro2 ∧ rosA (nbF mm) hd gN x y z) := by
  have kcm1 : (Int32.ofInt (-1)).toInt = -1 := by decide +kernel
  have kc0 : (Int32.ofInt 0).toInt = 0 := by decide +kernel
  have kc1 : (Int32.ofInt 1).toInt = 1 := by decide +kernel
  refine cx_Ct.of cg_213 (nL := 4) rfl rfl rfl ?_
  show cx_T 7 213 [119, 126, 120, 124, 130, 131, 132, 133, 134] 0 ([some (.inr (.inl 119)), some (.inl (.int x)), some (.inl (.int y)), none], [], ([(119, .inl (11, vs_119 mi ml)), (126, .inr (.inl (0, 7, r))), (120, .inr (.inl (0, 4, mm))), (124, .inr (.inl (0, 64, mh))), (130, .inr (.inl (0, 45927, ro))), (131, .inr (.inl (0, 4, fo4))), (132, .inr (.inl (0, 4, th4))), (133, .inr (.inl (0, 4, so))), (134, .inr (.inl (0, 5, ab)))])) _
  refine ex_aload_n cg_213 (ix := 0) (pc' := 1) rfl rfl rfl ?_
  refine ex_iconst cg_213 (ix := 1) (pc' := 2) rfl rfl ?_
  refine ex_putfield cg_213 (ix := 2) (pc' := 5) (h' := [(119, .inl (11, vs_119 (upi mi 0 (Int32.ofInt 0)) ml)), (126, .inr (.inl (0, 7, r))), (120, .inr (.inl (0, 4, mm))), (124, .inr (.inl (0, 64, mh))), (130, .inr (.inl (0, 45927, ro))), (131, .inr (.inl (0, 4, fo4))), (132, .inr (.inl (0, 4, th4))), (133, .inr (.inl (0, 4, so))), (134, .inr (.inl (0, 5, ab)))]) rfl rfl rfl rfl rfl rfl rfl rfl ?_
  refine ex_iload_n cg_213 (ix := 3) (pc' := 6) rfl rfl rfl ?_
  refine ex_iload_n cg_213 (ix := 4) (pc' := 7) rfl rfl rfl ?_
  refine ex_callS cg_213 (ix := 5) (pc' := 10) (As := [.inl (.int x), .inl (.int y)]) (r := []) rfl rfl rfl (ct_wro (x := x) (y := y)) (by first | decide | omega) rfl rfl trivial rfl rfl (fun v h2 hq => ?_)
  obtain ⟨wz, rfl, rfl, hwz⟩ := hq
  show cx_T _ 213 _ 10 ([some (.inr (.inl 119)), some (.inl (.int x)), some (.inl (.int y)), none], [.inl (.int wz)], [(119, .inl (11, vs_119 (upi mi 0 (Int32.ofInt 0)) ml)), (126, .inr (.inl (0, 7, r))), (120, .inr (.inl (0, 4, mm))), (124, .inr (.inl (0, 64, mh))), (130, .inr (.inl (0, 45927, ro))), (131, .inr (.inl (0, 4, fo4))), (132, .inr (.inl (0, 4, th4))), (133, .inr (.inl (0, 4, so))), (134, .inr (.inl (0, 5, ab)))]) _
  refine ex_istore_n cg_213 (ix := 6) (pc' := 11) (L' := [some (.inr (.inl 119)), some (.inl (.int x)), some (.inl (.int y)), some (.inl (.int wz))]) rfl rfl rfl rfl ?_
  refine ex_iload_n cg_213 (ix := 7) (pc' := 12) rfl rfl rfl ?_
  refine ex_if cg_213 (ix := 8) (t := 21) (pc' := 15) rfl rfl rfl (fun hb12 => ?_) (fun hb12 => ?_)
  · have hb12 : 0 ≤ wz.toInt := hb12
    have hsp : spR x y := by
      rcases hwz with ⟨_, q⟩ | ⟨_, _, q⟩ | ⟨q, _⟩
      · exfalso
        omega
      · exfalso
        omega
      · exact q
    obtain ⟨hs1, hs2, hs3, hs4, hs5, hs6⟩ := sp_n hsp
    have w0 : ∀ i : Nat, i < 4 → (fun _ => 0 : Nat → Nat) i < 9 := fun i _ => by show 0 < 9; omega
    have hans : ∀ (f t : Int32) (rr : Nat → Int32), spR f t → (∀ q : Nat, q ≤ hR f t → roL (nbF mm) (rkE hd (eR t)) gN (hR f t) rr q 6561) → (rr (Int32.ofInt 0).toNatClampNeg).toInt = ((LV (nbF mm) (rkE hd (eR t)) gN (hR f t) 0 gN : Nat) : Int) := fun f t rr _ h9 => by
      have h8 := h9 0 (Nat.zero_le _) (fun _ => 0) (fun _ _ _ _ => Nat.le_refl _) w0 (fun _ _ => rfl) (fun _ => rfl) (by decide)
      obtain ⟨e1, e2⟩ := zsC_all (st := fun _ => 0) (fun _ => rfl) (m := 4)
      rw [e1, e2, spI_0, show (4 - (4 - gN)) = gN by omega, Nat.sub_zero] at h8
      exact h8
    refine ex_aload_n cg_213 (ix := 13) (pc' := 22) rfl rfl rfl ?_
    refine ex_iload_n cg_213 (ix := 14) (pc' := 23) rfl rfl rfl ?_
    refine ex_iload_n cg_213 (ix := 15) (pc' := 24) rfl rfl rfl ?_
    refine ex_callV cg_213 (ix := 16) (pc' := 27) (As := [.inl (.int x), .inl (.int y)]) (r := []) rfl rfl rfl (ct_fro (mi := upi mi 0 (Int32.ofInt 0)) (ml := ml) (mm := mm) (mh := mh) (hd := hd) (ro := ro) (fo4 := fo4) (th4 := th4) (so := so) (ab := ab) (x := x) (y := y) (sN := x.toInt.toNat) (e := eR y) (H := hR x y) (gN := gN) hmm hmh hhd hs1 hs2 hs3 hs4 hs5 hs6 hg hg4 hfoU hthU hsoU habU) (by first | decide | omega) rfl rfl rfl ⟨rfl, rfl, rfl, rfl, rfl, rfl, rfl, rfl, trivial⟩ rfl rfl (fun v h2 hq => ?_)
    obtain ⟨rfl, hq⟩ := hq
    rcases hq with ⟨hc1, hc2, rfl⟩ | ⟨hnc, ro2, fo2, th2, so2, ab2, rfl, hfo2, hth2, hso2, hab2, hrq⟩
    · show cx_T _ 213 _ 27 ([some (.inr (.inl 119)), some (.inl (.int x)), some (.inl (.int y)), some (.inl (.int wz))], [], [(119, .inl (11, vs_119 (upi mi 0 (Int32.ofInt 0)) ml)), (126, .inr (.inl (0, 7, r))), (120, .inr (.inl (0, 4, mm))), (124, .inr (.inl (0, 64, mh))), (130, .inr (.inl (0, 45927, ro))), (131, .inr (.inl (0, 4, fo4))), (132, .inr (.inl (0, 4, th4))), (133, .inr (.inl (0, 4, so))), (134, .inr (.inl (0, 5, ab)))]) _
      refine ex_aload_n cg_213 (ix := 17) (pc' := 28) rfl rfl rfl ?_
      refine ex_getfield cg_213 (ix := 18) (pc' := 31) (v := .inr (.inl 130)) rfl rfl rfl rfl rfl ?_
      refine ex_iconst cg_213 (ix := 19) (pc' := 32) rfl rfl ?_
      refine ex_iaload cg_213 (ix := 20) (pc' := 33) rfl rfl (by decide +kernel) (by decide +kernel) rfl ?_
      refine ex_ireturn cg_213 (ix := 21) rfl ?_
      refine ⟨_, upi mi 0 (Int32.ofInt 0), r, ro, fo4, th4, so, ab, rfl, rfl, ⟨hfoU, hthU, hsoU, habU⟩, ⟨fun i hi => ?_, Or.inl rfl⟩, hrm, Or.inr (Or.inr ⟨hsp, ?_⟩)⟩
      · simp only [Bool.or_eq_false_iff] at hi
        obtain ⟨u0, u1, u2, u3⟩ := hi
        simp only [upi, u0, u1, u2, u3, cond_false]
      · have hc1 : mi 22 = x := hc1
        have hc2 : mi 23 = y := hc2
        rcases hrm with q | ⟨q1, q2⟩
        · exfalso
          rw [hc1] at q
          have := hsp.1.1.1
          omega
        · rw [hc1, hc2] at q1 q2
          exact hans x y ro q1 q2
    · show cx_T _ 213 _ 27 ([some (.inr (.inl 119)), some (.inl (.int x)), some (.inl (.int y)), some (.inl (.int wz))], [], [(119, .inl (11, vs_119 (upi (upi (upi (upi mi 0 (Int32.ofInt 0)) 21 (Int32.ofInt 1)) 22 x) 23 y) ml)), (126, .inr (.inl (0, 7, r))), (120, .inr (.inl (0, 4, mm))), (124, .inr (.inl (0, 64, mh))), (130, .inr (.inl (0, 45927, ro2))), (131, .inr (.inl (0, 4, fo2))), (132, .inr (.inl (0, 4, th2))), (133, .inr (.inl (0, 4, so2))), (134, .inr (.inl (0, 5, ab2)))]) _
      refine ex_aload_n cg_213 (ix := 17) (pc' := 28) rfl rfl rfl ?_
      refine ex_getfield cg_213 (ix := 18) (pc' := 31) (v := .inr (.inl 130)) rfl rfl rfl rfl rfl ?_
      refine ex_iconst cg_213 (ix := 19) (pc' := 32) rfl rfl ?_
      refine ex_iaload cg_213 (ix := 20) (pc' := 33) rfl rfl (by decide +kernel) (by decide +kernel) rfl ?_
      refine ex_ireturn cg_213 (ix := 21) rfl ?_
      refine ⟨_, (upi (upi (upi (upi mi 0 (Int32.ofInt 0)) 21 (Int32.ofInt 1)) 22 x) 23 y), r, ro2, fo2, th2, so2, ab2, rfl, rfl, ⟨hfo2, hth2, hso2, hab2⟩, ⟨fun i hi => ?_, Or.inr (Or.inr kc1)⟩, Or.inr ⟨hsp, hrq⟩, Or.inr (Or.inr ⟨hsp, hans x y ro2 hsp hrq⟩)⟩
      simp only [Bool.or_eq_false_iff] at hi
      obtain ⟨u0, u1, u2, u3⟩ := hi
      simp only [upi, u0, u1, u2, u3, cond_false]
  · have hb12 : ¬ (0 ≤ wz.toInt) := hb12
    have hw9 : -6 ≤ wz.toInt ∧ wz.toInt ≤ -1 := by
      rcases hwz with ⟨_, q⟩ | ⟨_, _, q⟩ | ⟨_, q⟩ <;> omega
    refine ex_aload_n cg_213 (ix := 9) (pc' := 16) rfl rfl rfl ?_
    refine ex_iload_n cg_213 (ix := 10) (pc' := 17) rfl rfl rfl ?_
    refine ex_callV cg_213 (ix := 11) (pc' := 20) (As := [.inl (.int wz)]) (r := []) rfl rfl rfl (ct_mref (x := wz) (mi := upi mi 0 (Int32.ofInt 0)) (ml := ml) (r := r) (by omega) (by omega)) (by first | decide | omega) rfl rfl rfl ⟨rfl, rfl, trivial⟩ rfl rfl (fun v h2 hq => ?_)
    obtain ⟨rfl, r2, rfl⟩ := hq
    show cx_T _ 213 _ 20 ([some (.inr (.inl 119)), some (.inl (.int x)), some (.inl (.int y)), some (.inl (.int wz))], [.inl (.int wz)], [(119, .inl (11, vs_119 (upi mi 0 (Int32.ofInt 0)) ml)), (126, .inr (.inl (0, 7, r2))), (120, .inr (.inl (0, 4, mm))), (124, .inr (.inl (0, 64, mh))), (130, .inr (.inl (0, 45927, ro))), (131, .inr (.inl (0, 4, fo4))), (132, .inr (.inl (0, 4, th4))), (133, .inr (.inl (0, 4, so))), (134, .inr (.inl (0, 5, ab)))]) _
    refine ex_ireturn cg_213 (ix := 12) rfl ?_
    refine ⟨wz, upi mi 0 (Int32.ofInt 0), r2, ro, fo4, th4, so, ab, rfl, rfl, ⟨hfoU, hthU, hsoU, habU⟩, ⟨fun i hi => ?_, Or.inl rfl⟩, hrm, ?_⟩
    · simp only [Bool.or_eq_false_iff] at hi
      obtain ⟨u0, u1, u2, u3⟩ := hi
      simp only [upi, u0, u1, u2, u3, cond_false]
    · rcases hwz with q | q | ⟨q1, q2⟩
      · exact Or.inl q
      · exact Or.inr (Or.inl q)
      · exfalso
        omega
end
