noncomputable section
/-- a row of longs, whole -/
theorem sg_tcL {ad : List Nat} {tS N : Nat} {cs : Nat → ClassId} {U : List ab_Iv} {e : va_E} (h : ab_tc ad tS (ab_tys cs) (1, N, .inl U) e) : ∃ g : Nat → Int64, e = .inl (cs 1, N, .inr (.inl g)) ∧ ∀ i, i < N → ab_inU U (g i).toInt := by
  match e, h with
  | .inr (ci, fs), ⟨_, _, tvs, h3, _⟩ => cases h3
  | .inl (cA, N', .inl f), ⟨_, _, h3, _⟩ => cases h3
  | .inl (cA, N', .inr (.inl f)), ⟨h1, h2, _, h4⟩ =>
    have e1 : cA = cs 1 := by
      have h5 : some (cs 1, FieldType.long) = some (cA, FieldType.long) := h2
      cases h5
      rfl
    have e2 : N' = N := h1
    subst e1; subst e2
    rcases h4 with ⟨U', h6, h7⟩ | ⟨vs, h6, _⟩
    · cases h6
      exact ⟨f, rfl, h7⟩
    · cases h6
  | .inl (cA, N', .inr (.inr (.inr (.inr f)))), ⟨_, ⟨t, h2⟩, _⟩ =>
    have h5 : some (cs 1, FieldType.long) = some (cA, FieldType.array t) := h2
    cases h5
  | .inl (cA, N', .inr (.inr (.inl f))), h => exact h.elim
  | .inl (cA, N', .inr (.inr (.inr (.inl f)))), h => exact h.elim
theorem lk_rp (n : Nat) (v : ab_Iv) (r : List ab_Iv) : ab_rp n v r = List.replicate n v ++ r := by
  induction n with
  | zero => rfl
  | succ n ih =>
    show v :: ab_rp n v r = _
    rw [ih, List.replicate_succ]
    rfl
/-- 32 longs, the k-th at least 1 -/
def lk_pk (B : Int) (k : Nat) : ab_TC := (1, 32, .inr (.inl (ab_rp k (.ofNat 0, B) ((.ofNat 1, B) :: ab_rp (31 - k) (.ofNat 0, B) []))))
def lk_z : ab_TC := (1, 32, .inl [(.ofNat 0, .ofNat 0)])
theorem lk_pk_of {ad : List Nat} {tS k : Nat} {cs : Nat → ClassId} {B : Int} {f : Nat → Int64} (h : ∀ i, i < 32 → 0 ≤ (f i).toInt ∧ (f i).toInt ≤ B) (hk : k < 32) (h1 : 1 ≤ (f k).toInt) : ab_tc ad tS (ab_tys cs) (lk_pk B k) (.inl (cs 1, 32, .inr (.inl f))) := by
  refine ⟨rfl, rfl, rfl, Or.inr ⟨_, rfl, ?_, fun i v hv => ?_⟩⟩
  · rw [lk_rp, lk_rp]
    simp
    omega
  · rw [lk_rp, lk_rp, List.append_nil] at hv
    by_cases c1 : i < k
    · rw [List.getElem?_append_left (by simpa using c1), List.getElem?_replicate, if_pos c1] at hv
      cases hv
      exact h i (by omega)
    · rw [List.getElem?_append_right (by simpa using c1), List.length_replicate] at hv
      by_cases c2 : i = k
      · subst c2
        rw [Nat.sub_self] at hv
        cases hv
        exact ⟨h1, (h i hk).2⟩
      · obtain ⟨r, hr⟩ : ∃ r, i - k = r + 1 := ⟨i - k - 1, by omega⟩
        rw [hr, List.getElem?_cons_succ, List.getElem?_replicate] at hv
        by_cases c3 : r < 31 - k
        · rw [if_pos c3] at hv
          cases hv
          exact h i (by omega)
        · rw [if_neg c3] at hv
          cases hv
theorem lk_all {f : Nat → Bool} {n k : Nat} (h : (List.range n).all f = true) (hk : k < n) : f k = true := List.all_eq_true.mp h k (List.mem_range.mpr hk)
def lk_pre (pk : ab_TC) (x : ab_An) : ab_An := (x.1, x.2.1, x.2.2.1, (144, pk) :: x.2.2.2.1, x.2.2.2.2)
def lk_S (pk : ab_TC) (S : ab_Sm) : ab_Sm := (S.1, (144, pk) :: S.2.1, S.2.2.1, S.2.2.2)
theorem lk_CO {l : Launch} {Z : ab_Ms} {d d' : Nat} {D : va_G} {cl : List vw_C} {cs : Nat → ClassId} {tS : Nat} {M : Nat → Bool} {O : ab_Cf} (h : ab_CO l Z d D cl cs tS M O) (hd : d ≤ d') : ab_CO l Z d' D cl cs tS M O := fun j n e hp as outs ho ρ ws vs h1 h2 h3 => by
  obtain ⟨x, hx, hc⟩ := h j n e hp as outs ho ρ ws vs h1 h2 h3
  exact ⟨x, by omega, hc⟩
theorem lk_hcd {anns outs : List ab_An} {a : ab_An} (hm : anns.all (fun a => !sg_nil a.2.2.2.2.2) = true) (h : a ∈ anns ++ outs) : (a ∈ anns ∧ a.2.2.2.2.2 ≠ []) ∨ a ∈ outs := by
  rcases List.mem_append.mp h with h | h
  · refine Or.inl ⟨h, fun q => ?_⟩
    have := List.all_eq_true.mp hm a h
    rw [q] at this
    cases this
  · exact Or.inr h
/-- two ways through a method: up to places where one cell is still as it was, and from there with what is known of it -/
theorem lk_two {l : Launch} {D : va_G} {cs : Nat → ClassId} {tS j d0 f1 f2 : Nat} {m1 : List Nat} {O1 O2 O3 : ab_Cf} {S : ab_Sm} {pk : ab_TC} {anns1 outs1 anns2 : List ab_An} {pcs1 pcs2 : List Nat} {cand1 cand2 : Nat → ab_St → List ab_An} {sp1 sp2 : Nat → List (Nat × Int)}
    (hGl : ab_Gl l ZZ wFF D vwCl cs tS) (hG : ab_GOK ZZ MtF wFF bFF vwCl BdF j) (h1 : 1 ≤ d0)
    (CO1 : ab_CO l ZZ d0 D vwCl cs tS (fun k => ab_mem k m1) O1) (CO2 : ab_CO l ZZ d0 D vwCl cs tS (fun k => ab_mem k S.2.2.2) O2) (CO3 : ab_CO l ZZ d0 D vwCl cs tS (fun k => ab_mem k S.2.2.2) O3)
    (hM : m1.all (fun k => ab_mem k S.2.2.2) = true) (h144 : ab_mem 144 m1 = false)
    (hcd1 : ∀ pc st a, a ∈ cand1 pc st → (a ∈ anns1 ∧ a.2.2.2.2.2 ≠ []) ∨ a ∈ outs1) (hcd2 : ∀ pc st a, a ∈ cand2 pc st → (a ∈ anns2 ∧ a.2.2.2.2.2 ≠ []) ∨ a ∈ ([] : List ab_An))
    (c0 : ab_chk0 (BdF j).1 (ab_step (BdF j).2.1 MtF O1 (ZZ.2.2.1 j) (fun k => ab_mem k m1) (BdF j).2.2) (ZZ.2.2.2.1 j) (ZZ.2.2.1 j) S pcs1 cand1 sp1 f1 = true)
    (c1 : ∀ a ∈ anns1, sg_chk (BdF j).1 (ab_step (BdF j).2.1 MtF O1 (ZZ.2.2.1 j) (fun k => ab_mem k m1) (BdF j).2.2) (ZZ.2.2.2.1 j) (ZZ.2.2.1 j) S.1 S.2.2.1 pcs1 cand1 sp1 f1 a = true)
    (cx : ∀ x ∈ outs1, sg_chk (BdF j).1 (ab_step (BdF j).2.1 MtF O2 (ZZ.2.2.1 j) (fun k => ab_mem k S.2.2.2) (BdF j).2.2) (ZZ.2.2.2.1 j) (ZZ.2.2.1 j) S.1 S.2.2.1 pcs2 cand2 sp2 f2 (lk_pre pk x) = true)
    (c2 : ∀ a ∈ anns2, sg_chk (BdF j).1 (ab_step (BdF j).2.1 MtF O3 (ZZ.2.2.1 j) (fun k => ab_mem k S.2.2.2) (BdF j).2.2) (ZZ.2.2.2.1 j) (ZZ.2.2.1 j) S.1 S.2.2.1 pcs2 cand2 sp2 f2 a = true) : ab_SOK l ZZ (d0 + 1) D vwCl cs tS j (lk_S pk S) := by
  intro ws vs htl hth
  have hpk := hth (144, pk) List.mem_cons_self
  have hthU : ab_th tS (ab_tys cs) S.2.1 ws := fun q hq => hth q (List.mem_cons_of_mem _ hq)
  have hMM : ∀ k, ab_mem k m1 = true → ab_mem k S.2.2.2 = true := fun k hk => List.all_eq_true.mp hM k (ab_mem_iff.mp hk)
  refine ⟨d0 + 1, Nat.le_refl _, ab_Ct_of hG.1 (fun p ev s m below meth c A X => ?_)⟩
  have hP : ∀ rv u, ab_gr (fun k => ab_mem k S.2.2.2) ws u → (∃ po ∈ S.2.2.1, ab_ag po.1 vs ∧ ab_rtv (u.map (·.1)) tS po.2.1 rv ∧ ab_th tS (ab_tys cs) po.2.2 u) → ab_PS tS (ab_tys cs) vs ws (lk_S pk S) rv u := fun rv u g1 g2 => ⟨g1, g2⟩
  have hP1 : ∀ rv u, ab_gr (fun k => ab_mem k m1) ws u → (∃ po ∈ S.2.2.1, ab_ag po.1 vs ∧ ab_rtv (u.map (·.1)) tS po.2.1 rv ∧ ab_th tS (ab_tys cs) po.2.2 u) → ab_PS tS (ab_tys cs) vs ws (lk_S pk S) rv u := fun rv u g1 g2 => ⟨g1.weaken hMM, g2⟩
  have htl' : ab_tl (ws.map (·.1)) tS S.1 vs := htl
  have ph2 := sg_loop (ev := ev) (below := below) hGl hG h1 CO3 X htl' hP (anns := anns2) (outs := []) hcd2 c2 (fun a ha => absurd ha List.not_mem_nil)
  have hX : ∀ x ∈ outs1, ∀ ls stk u, ab_Se (fun k => ab_mem k m1) tS (ab_tys cs) (ZZ.2.2.1 j) ws vs x ls stk u → ab_W p l ev (ab_rm (d0 + 1) 0 0) s m vs.toArray below meth c D vwCl A (MQ below (ab_Qc D vwCl cs A (ab_PS tS (ab_tys cs) vs ws (lk_S pk S))) vs.toArray s 0 0 A) 0 0 x.1 ls stk u := fun x hx ls stk u hse => by
    have hse2 : ab_Se (fun k => ab_mem k S.2.2.2) tS (ab_tys cs) (ZZ.2.2.1 j) ws vs (lk_pre pk x) ls stk u := by
      refine sg_re hse ws (hse.1.weaken hMM) rfl rfl (fun q hq => ?_) rfl
      rcases List.mem_cons.mp hq with rfl | hq
      · obtain ⟨a, e, g1, g2⟩ := hpk
        exact ⟨a, e, (hse.1.2.1 144 (List.getElem?_eq_some_iff.mp g1).1 h144).trans g1, by rw [hse.1.ad]; exact g2⟩
      · exact hse.2.2.2.2.2.1 q hq
    exact sg_ok hGl hG h1 CO2 X htl' hP (cx x hx) hse2 (fun a' pc st ha' ls' stk' u' _ hse' => by
      rcases hcd2 pc st a' ha' with ⟨g, -⟩ | g
      · exact ph2 a' g ls' stk' u' hse'
      · exact absurd g List.not_mem_nil)
  have ph1 := sg_loop (ev := ev) (below := below) hGl hG h1 CO1 X htl' hP1 (anns := anns1) (outs := outs1) hcd1 c1 hX
  exact sg_ent (S := S) hGl hG h1 CO1 X htl' hthU hP1 c0 (fun a' pc st ha' ls' stk' u' hse' => by
    rcases hcd1 pc st a' ha' with ⟨g, -⟩ | g
    · exact ph1 a' g ls' stk' u' hse'
    · exact hX a' g ls' stk' u' hse')
theorem lk_cases {l : Launch} {D : va_G} {cs : Nat → ClassId} {tS j d B : Nat} {S : ab_Sm} (hmem : (144, ((1, 32, .inl [(.ofNat 0, .ofNat B)]) : ab_TC)) ∈ S.2.1) (hz : ab_SOK l ZZ d D vwCl cs tS j (lk_S lk_z S)) (hk : ∀ k, k < 32 → ab_SOK l ZZ d D vwCl cs tS j (lk_S (lk_pk (.ofNat B) k) S)) : ab_SOK l ZZ d D vwCl cs tS j S := by
  intro ws vs htl hth
  obtain ⟨a, e, hw, ht⟩ := hth _ hmem
  obtain ⟨f, rfl, hf⟩ := sg_tcL ht
  have hf2 : ∀ i, i < 32 → 0 ≤ (f i).toInt ∧ (f i).toInt ≤ (B : Int) := fun i hi => by
    obtain ⟨v, hv, g1, g2⟩ := hf i hi
    have ev : v = (.ofNat 0, .ofNat B) := by simpa using hv
    subst ev
    exact ⟨g1, g2⟩
  by_cases h : ∃ k, k < 32 ∧ 1 ≤ (f k).toInt
  · obtain ⟨k, h1, h2⟩ := h
    exact hk k h1 ws vs htl (fun q hq => by
      rcases List.mem_cons.mp hq with rfl | hq
      · exact ⟨a, _, hw, lk_pk_of hf2 h1 h2⟩
      · exact hth q hq)
  · exact hz ws vs htl (fun q hq => by
      rcases List.mem_cons.mp hq with rfl | hq
      · refine ⟨a, _, hw, rfl, rfl, rfl, Or.inl ⟨_, rfl, fun i hi => ⟨(.ofNat 0, .ofNat 0), by simp, ?_⟩⟩⟩
        have h1 := hf2 i hi
        have h2 : ¬ 1 ≤ (f i).toInt := fun q => h ⟨i, hi, q⟩
        show (0 : Int) ≤ _ ∧ _ ≤ (0 : Int)
        omega
      · exact hth q hq)
def lkc_0 : ab_TC := (11, 68, .inr (.inr (.inr (.inr [none, none, none, none, none, none, none, none, none, none, none, none, none, none, none, none, none, none, none, none, none, none, none, none, none, none, none, none, none, none, none, none, none, none, none, none, none, none, none, some (.inr (.inl [144])), none, none, none, none, none, none, none, none, none, none, none, none, none, none, none, none, none, none, none, none, none, none, none, none, none, none, none, none]))))
def lk_apS (B k : Nat) : ab_Sm := ([gr_R], [(119, lkc_0), (144, lk_pk (.ofNat B) k)], [([], some (some (.inl (true, .ofNat 1, .ofNat (Nat.mul 32 B)))), [])], [])
def lk_apA (B k i : Nat) : ab_An := (4, [gr_R, some (.inl (true, (bif Nat.ble i k then .ofNat 0 else .ofNat 1), .ofNat (Nat.mul i B))), none, gr_i i i], [], [(119, lkc_0), (144, lk_pk (.ofNat B) k)], [], [(.ofNat 0, .ofNat 0, 0), (.ofNat 32, .negSucc 0, 3)])
def lk_apR (B k : Nat) : List (Nat × Int × Int × ab_An) := (List.range 33).map (fun i => (4, .ofNat i, .ofNat i, lk_apA B k i))
def lk_apN (B k : Nat) : List ab_An := (lk_apR B k).map (fun r => r.2.2.2)
abbrev lk_apT : Instr → Nat → Nat → Option zF := (fun i => zdc i (BdF 227).2.1 MtF (zOO (ab_SLl []) (fun k => ab_mem k []) BdF ZZ MtF (fun k => ab_mem k []) 2000 0) (ZZ.2.2.1 227) (fun k => ab_mem k []) (BdF 227).2.2)
def lk_ap0 (B k : Nat) : Bool := zchk0 (BdF 227).1 lk_apT (ZZ.2.2.2.1 227) (ZZ.2.2.1 227) (lk_apS B k) [4] (ab_cd (fun _ => 3) (lk_apR B k)) (fun _ => []) 2000
def lk_ap1 (B k : Nat) (a : ab_An) : Bool := zchk1 (BdF 227).1 lk_apT (ZZ.2.2.2.1 227) (ZZ.2.2.1 227) (lk_apS B k) [4] (ab_cd (fun _ => 3) (lk_apR B k)) (fun _ => []) 2000 a
theorem lk_a0_4 : (List.range 32).all (lk_ap0 20736000000) = true := by decide +kernel
theorem lk_a1_4_0 : (lk_apN 20736000000 0).all (lk_ap1 20736000000 0) = true := by decide +kernel
theorem lk_a1_4_1 : (lk_apN 20736000000 1).all (lk_ap1 20736000000 1) = true := by decide +kernel
theorem lk_a1_4_2 : (lk_apN 20736000000 2).all (lk_ap1 20736000000 2) = true := by decide +kernel
theorem lk_a1_4_3 : (lk_apN 20736000000 3).all (lk_ap1 20736000000 3) = true := by decide +kernel
theorem lk_a1_4_4 : (lk_apN 20736000000 4).all (lk_ap1 20736000000 4) = true := by decide +kernel
theorem lk_a1_4_5 : (lk_apN 20736000000 5).all (lk_ap1 20736000000 5) = true := by decide +kernel
theorem lk_a1_4_6 : (lk_apN 20736000000 6).all (lk_ap1 20736000000 6) = true := by decide +kernel
theorem lk_a1_4_7 : (lk_apN 20736000000 7).all (lk_ap1 20736000000 7) = true := by decide +kernel
theorem lk_a1_4_8 : (lk_apN 20736000000 8).all (lk_ap1 20736000000 8) = true := by decide +kernel
theorem lk_a1_4_9 : (lk_apN 20736000000 9).all (lk_ap1 20736000000 9) = true := by decide +kernel
theorem lk_a1_4_10 : (lk_apN 20736000000 10).all (lk_ap1 20736000000 10) = true := by decide +kernel
theorem lk_a1_4_11 : (lk_apN 20736000000 11).all (lk_ap1 20736000000 11) = true := by decide +kernel
theorem lk_a1_4_12 : (lk_apN 20736000000 12).all (lk_ap1 20736000000 12) = true := by decide +kernel
theorem lk_a1_4_13 : (lk_apN 20736000000 13).all (lk_ap1 20736000000 13) = true := by decide +kernel
theorem lk_a1_4_14 : (lk_apN 20736000000 14).all (lk_ap1 20736000000 14) = true := by decide +kernel
theorem lk_a1_4_15 : (lk_apN 20736000000 15).all (lk_ap1 20736000000 15) = true := by decide +kernel
theorem lk_a1_4_16 : (lk_apN 20736000000 16).all (lk_ap1 20736000000 16) = true := by decide +kernel
theorem lk_a1_4_17 : (lk_apN 20736000000 17).all (lk_ap1 20736000000 17) = true := by decide +kernel
theorem lk_a1_4_18 : (lk_apN 20736000000 18).all (lk_ap1 20736000000 18) = true := by decide +kernel
theorem lk_a1_4_19 : (lk_apN 20736000000 19).all (lk_ap1 20736000000 19) = true := by decide +kernel
theorem lk_a1_4_20 : (lk_apN 20736000000 20).all (lk_ap1 20736000000 20) = true := by decide +kernel
theorem lk_a1_4_21 : (lk_apN 20736000000 21).all (lk_ap1 20736000000 21) = true := by decide +kernel
theorem lk_a1_4_22 : (lk_apN 20736000000 22).all (lk_ap1 20736000000 22) = true := by decide +kernel
theorem lk_a1_4_23 : (lk_apN 20736000000 23).all (lk_ap1 20736000000 23) = true := by decide +kernel
theorem lk_a1_4_24 : (lk_apN 20736000000 24).all (lk_ap1 20736000000 24) = true := by decide +kernel
theorem lk_a1_4_25 : (lk_apN 20736000000 25).all (lk_ap1 20736000000 25) = true := by decide +kernel
theorem lk_a1_4_26 : (lk_apN 20736000000 26).all (lk_ap1 20736000000 26) = true := by decide +kernel
theorem lk_a1_4_27 : (lk_apN 20736000000 27).all (lk_ap1 20736000000 27) = true := by decide +kernel
theorem lk_a1_4_28 : (lk_apN 20736000000 28).all (lk_ap1 20736000000 28) = true := by decide +kernel
theorem lk_a1_4_29 : (lk_apN 20736000000 29).all (lk_ap1 20736000000 29) = true := by decide +kernel
theorem lk_a1_4_30 : (lk_apN 20736000000 30).all (lk_ap1 20736000000 30) = true := by decide +kernel
theorem lk_a1_4_31 : (lk_apN 20736000000 31).all (lk_ap1 20736000000 31) = true := by decide +kernel
theorem lk_a1_4 : ∀ k ∈ List.range 32, (lk_apN 20736000000 k).all (lk_ap1 20736000000 k) = true := (List.forall_mem_cons.mpr ⟨lk_a1_4_0, (List.forall_mem_cons.mpr ⟨lk_a1_4_1, (List.forall_mem_cons.mpr ⟨lk_a1_4_2, (List.forall_mem_cons.mpr ⟨lk_a1_4_3, (List.forall_mem_cons.mpr ⟨lk_a1_4_4, (List.forall_mem_cons.mpr ⟨lk_a1_4_5, (List.forall_mem_cons.mpr ⟨lk_a1_4_6, (List.forall_mem_cons.mpr ⟨lk_a1_4_7, (List.forall_mem_cons.mpr ⟨lk_a1_4_8, (List.forall_mem_cons.mpr ⟨lk_a1_4_9, (List.forall_mem_cons.mpr ⟨lk_a1_4_10, (List.forall_mem_cons.mpr ⟨lk_a1_4_11, (List.forall_mem_cons.mpr ⟨lk_a1_4_12, (List.forall_mem_cons.mpr ⟨lk_a1_4_13, (List.forall_mem_cons.mpr ⟨lk_a1_4_14, (List.forall_mem_cons.mpr ⟨lk_a1_4_15, (List.forall_mem_cons.mpr ⟨lk_a1_4_16, (List.forall_mem_cons.mpr ⟨lk_a1_4_17, (List.forall_mem_cons.mpr ⟨lk_a1_4_18, (List.forall_mem_cons.mpr ⟨lk_a1_4_19, (List.forall_mem_cons.mpr ⟨lk_a1_4_20, (List.forall_mem_cons.mpr ⟨lk_a1_4_21, (List.forall_mem_cons.mpr ⟨lk_a1_4_22, (List.forall_mem_cons.mpr ⟨lk_a1_4_23, (List.forall_mem_cons.mpr ⟨lk_a1_4_24, (List.forall_mem_cons.mpr ⟨lk_a1_4_25, (List.forall_mem_cons.mpr ⟨lk_a1_4_26, (List.forall_mem_cons.mpr ⟨lk_a1_4_27, (List.forall_mem_cons.mpr ⟨lk_a1_4_28, (List.forall_mem_cons.mpr ⟨lk_a1_4_29, (List.forall_mem_cons.mpr ⟨lk_a1_4_30, (List.forall_mem_cons.mpr ⟨lk_a1_4_31, (fun _ h => absurd h List.not_mem_nil)⟩)⟩)⟩)⟩)⟩)⟩)⟩)⟩)⟩)⟩)⟩)⟩)⟩)⟩)⟩)⟩)⟩)⟩)⟩)⟩)⟩)⟩)⟩)⟩)⟩)⟩)⟩)⟩)⟩)⟩)⟩)⟩)
theorem lk_a0_6 : (List.range 32).all (lk_ap0 2985984000000) = true := by decide +kernel
theorem lk_a1_6_0 : (lk_apN 2985984000000 0).all (lk_ap1 2985984000000 0) = true := by decide +kernel
theorem lk_a1_6_1 : (lk_apN 2985984000000 1).all (lk_ap1 2985984000000 1) = true := by decide +kernel
theorem lk_a1_6_2 : (lk_apN 2985984000000 2).all (lk_ap1 2985984000000 2) = true := by decide +kernel
theorem lk_a1_6_3 : (lk_apN 2985984000000 3).all (lk_ap1 2985984000000 3) = true := by decide +kernel
theorem lk_a1_6_4 : (lk_apN 2985984000000 4).all (lk_ap1 2985984000000 4) = true := by decide +kernel
theorem lk_a1_6_5 : (lk_apN 2985984000000 5).all (lk_ap1 2985984000000 5) = true := by decide +kernel
theorem lk_a1_6_6 : (lk_apN 2985984000000 6).all (lk_ap1 2985984000000 6) = true := by decide +kernel
theorem lk_a1_6_7 : (lk_apN 2985984000000 7).all (lk_ap1 2985984000000 7) = true := by decide +kernel
theorem lk_a1_6_8 : (lk_apN 2985984000000 8).all (lk_ap1 2985984000000 8) = true := by decide +kernel
theorem lk_a1_6_9 : (lk_apN 2985984000000 9).all (lk_ap1 2985984000000 9) = true := by decide +kernel
theorem lk_a1_6_10 : (lk_apN 2985984000000 10).all (lk_ap1 2985984000000 10) = true := by decide +kernel
theorem lk_a1_6_11 : (lk_apN 2985984000000 11).all (lk_ap1 2985984000000 11) = true := by decide +kernel
theorem lk_a1_6_12 : (lk_apN 2985984000000 12).all (lk_ap1 2985984000000 12) = true := by decide +kernel
theorem lk_a1_6_13 : (lk_apN 2985984000000 13).all (lk_ap1 2985984000000 13) = true := by decide +kernel
theorem lk_a1_6_14 : (lk_apN 2985984000000 14).all (lk_ap1 2985984000000 14) = true := by decide +kernel
theorem lk_a1_6_15 : (lk_apN 2985984000000 15).all (lk_ap1 2985984000000 15) = true := by decide +kernel
theorem lk_a1_6_16 : (lk_apN 2985984000000 16).all (lk_ap1 2985984000000 16) = true := by decide +kernel
theorem lk_a1_6_17 : (lk_apN 2985984000000 17).all (lk_ap1 2985984000000 17) = true := by decide +kernel
theorem lk_a1_6_18 : (lk_apN 2985984000000 18).all (lk_ap1 2985984000000 18) = true := by decide +kernel
theorem lk_a1_6_19 : (lk_apN 2985984000000 19).all (lk_ap1 2985984000000 19) = true := by decide +kernel
theorem lk_a1_6_20 : (lk_apN 2985984000000 20).all (lk_ap1 2985984000000 20) = true := by decide +kernel
theorem lk_a1_6_21 : (lk_apN 2985984000000 21).all (lk_ap1 2985984000000 21) = true := by decide +kernel
theorem lk_a1_6_22 : (lk_apN 2985984000000 22).all (lk_ap1 2985984000000 22) = true := by decide +kernel
theorem lk_a1_6_23 : (lk_apN 2985984000000 23).all (lk_ap1 2985984000000 23) = true := by decide +kernel
theorem lk_a1_6_24 : (lk_apN 2985984000000 24).all (lk_ap1 2985984000000 24) = true := by decide +kernel
theorem lk_a1_6_25 : (lk_apN 2985984000000 25).all (lk_ap1 2985984000000 25) = true := by decide +kernel
theorem lk_a1_6_26 : (lk_apN 2985984000000 26).all (lk_ap1 2985984000000 26) = true := by decide +kernel
theorem lk_a1_6_27 : (lk_apN 2985984000000 27).all (lk_ap1 2985984000000 27) = true := by decide +kernel
theorem lk_a1_6_28 : (lk_apN 2985984000000 28).all (lk_ap1 2985984000000 28) = true := by decide +kernel
theorem lk_a1_6_29 : (lk_apN 2985984000000 29).all (lk_ap1 2985984000000 29) = true := by decide +kernel
theorem lk_a1_6_30 : (lk_apN 2985984000000 30).all (lk_ap1 2985984000000 30) = true := by decide +kernel
theorem lk_a1_6_31 : (lk_apN 2985984000000 31).all (lk_ap1 2985984000000 31) = true := by decide +kernel
theorem lk_a1_6 : ∀ k ∈ List.range 32, (lk_apN 2985984000000 k).all (lk_ap1 2985984000000 k) = true := (List.forall_mem_cons.mpr ⟨lk_a1_6_0, (List.forall_mem_cons.mpr ⟨lk_a1_6_1, (List.forall_mem_cons.mpr ⟨lk_a1_6_2, (List.forall_mem_cons.mpr ⟨lk_a1_6_3, (List.forall_mem_cons.mpr ⟨lk_a1_6_4, (List.forall_mem_cons.mpr ⟨lk_a1_6_5, (List.forall_mem_cons.mpr ⟨lk_a1_6_6, (List.forall_mem_cons.mpr ⟨lk_a1_6_7, (List.forall_mem_cons.mpr ⟨lk_a1_6_8, (List.forall_mem_cons.mpr ⟨lk_a1_6_9, (List.forall_mem_cons.mpr ⟨lk_a1_6_10, (List.forall_mem_cons.mpr ⟨lk_a1_6_11, (List.forall_mem_cons.mpr ⟨lk_a1_6_12, (List.forall_mem_cons.mpr ⟨lk_a1_6_13, (List.forall_mem_cons.mpr ⟨lk_a1_6_14, (List.forall_mem_cons.mpr ⟨lk_a1_6_15, (List.forall_mem_cons.mpr ⟨lk_a1_6_16, (List.forall_mem_cons.mpr ⟨lk_a1_6_17, (List.forall_mem_cons.mpr ⟨lk_a1_6_18, (List.forall_mem_cons.mpr ⟨lk_a1_6_19, (List.forall_mem_cons.mpr ⟨lk_a1_6_20, (List.forall_mem_cons.mpr ⟨lk_a1_6_21, (List.forall_mem_cons.mpr ⟨lk_a1_6_22, (List.forall_mem_cons.mpr ⟨lk_a1_6_23, (List.forall_mem_cons.mpr ⟨lk_a1_6_24, (List.forall_mem_cons.mpr ⟨lk_a1_6_25, (List.forall_mem_cons.mpr ⟨lk_a1_6_26, (List.forall_mem_cons.mpr ⟨lk_a1_6_27, (List.forall_mem_cons.mpr ⟨lk_a1_6_28, (List.forall_mem_cons.mpr ⟨lk_a1_6_29, (List.forall_mem_cons.mpr ⟨lk_a1_6_30, (List.forall_mem_cons.mpr ⟨lk_a1_6_31, (fun _ h => absurd h List.not_mem_nil)⟩)⟩)⟩)⟩)⟩)⟩)⟩)⟩)⟩)⟩)⟩)⟩)⟩)⟩)⟩)⟩)⟩)⟩)⟩)⟩)⟩)⟩)⟩)⟩)⟩)⟩)⟩)⟩)⟩)⟩)⟩)⟩)
theorem lk_a0_8 : (List.range 32).all (lk_ap0 429981696000000) = true := by decide +kernel
theorem lk_a1_8_0 : (lk_apN 429981696000000 0).all (lk_ap1 429981696000000 0) = true := by decide +kernel
theorem lk_a1_8_1 : (lk_apN 429981696000000 1).all (lk_ap1 429981696000000 1) = true := by decide +kernel
theorem lk_a1_8_2 : (lk_apN 429981696000000 2).all (lk_ap1 429981696000000 2) = true := by decide +kernel
theorem lk_a1_8_3 : (lk_apN 429981696000000 3).all (lk_ap1 429981696000000 3) = true := by decide +kernel
theorem lk_a1_8_4 : (lk_apN 429981696000000 4).all (lk_ap1 429981696000000 4) = true := by decide +kernel
theorem lk_a1_8_5 : (lk_apN 429981696000000 5).all (lk_ap1 429981696000000 5) = true := by decide +kernel
theorem lk_a1_8_6 : (lk_apN 429981696000000 6).all (lk_ap1 429981696000000 6) = true := by decide +kernel
theorem lk_a1_8_7 : (lk_apN 429981696000000 7).all (lk_ap1 429981696000000 7) = true := by decide +kernel
theorem lk_a1_8_8 : (lk_apN 429981696000000 8).all (lk_ap1 429981696000000 8) = true := by decide +kernel
theorem lk_a1_8_9 : (lk_apN 429981696000000 9).all (lk_ap1 429981696000000 9) = true := by decide +kernel
theorem lk_a1_8_10 : (lk_apN 429981696000000 10).all (lk_ap1 429981696000000 10) = true := by decide +kernel
theorem lk_a1_8_11 : (lk_apN 429981696000000 11).all (lk_ap1 429981696000000 11) = true := by decide +kernel
theorem lk_a1_8_12 : (lk_apN 429981696000000 12).all (lk_ap1 429981696000000 12) = true := by decide +kernel
theorem lk_a1_8_13 : (lk_apN 429981696000000 13).all (lk_ap1 429981696000000 13) = true := by decide +kernel
theorem lk_a1_8_14 : (lk_apN 429981696000000 14).all (lk_ap1 429981696000000 14) = true := by decide +kernel
theorem lk_a1_8_15 : (lk_apN 429981696000000 15).all (lk_ap1 429981696000000 15) = true := by decide +kernel
theorem lk_a1_8_16 : (lk_apN 429981696000000 16).all (lk_ap1 429981696000000 16) = true := by decide +kernel
theorem lk_a1_8_17 : (lk_apN 429981696000000 17).all (lk_ap1 429981696000000 17) = true := by decide +kernel
theorem lk_a1_8_18 : (lk_apN 429981696000000 18).all (lk_ap1 429981696000000 18) = true := by decide +kernel
theorem lk_a1_8_19 : (lk_apN 429981696000000 19).all (lk_ap1 429981696000000 19) = true := by decide +kernel
theorem lk_a1_8_20 : (lk_apN 429981696000000 20).all (lk_ap1 429981696000000 20) = true := by decide +kernel
theorem lk_a1_8_21 : (lk_apN 429981696000000 21).all (lk_ap1 429981696000000 21) = true := by decide +kernel
theorem lk_a1_8_22 : (lk_apN 429981696000000 22).all (lk_ap1 429981696000000 22) = true := by decide +kernel
theorem lk_a1_8_23 : (lk_apN 429981696000000 23).all (lk_ap1 429981696000000 23) = true := by decide +kernel
theorem lk_a1_8_24 : (lk_apN 429981696000000 24).all (lk_ap1 429981696000000 24) = true := by decide +kernel
theorem lk_a1_8_25 : (lk_apN 429981696000000 25).all (lk_ap1 429981696000000 25) = true := by decide +kernel
theorem lk_a1_8_26 : (lk_apN 429981696000000 26).all (lk_ap1 429981696000000 26) = true := by decide +kernel
theorem lk_a1_8_27 : (lk_apN 429981696000000 27).all (lk_ap1 429981696000000 27) = true := by decide +kernel
theorem lk_a1_8_28 : (lk_apN 429981696000000 28).all (lk_ap1 429981696000000 28) = true := by decide +kernel
theorem lk_a1_8_29 : (lk_apN 429981696000000 29).all (lk_ap1 429981696000000 29) = true := by decide +kernel
theorem lk_a1_8_30 : (lk_apN 429981696000000 30).all (lk_ap1 429981696000000 30) = true := by decide +kernel
theorem lk_a1_8_31 : (lk_apN 429981696000000 31).all (lk_ap1 429981696000000 31) = true := by decide +kernel
theorem lk_a1_8 : ∀ k ∈ List.range 32, (lk_apN 429981696000000 k).all (lk_ap1 429981696000000 k) = true := (List.forall_mem_cons.mpr ⟨lk_a1_8_0, (List.forall_mem_cons.mpr ⟨lk_a1_8_1, (List.forall_mem_cons.mpr ⟨lk_a1_8_2, (List.forall_mem_cons.mpr ⟨lk_a1_8_3, (List.forall_mem_cons.mpr ⟨lk_a1_8_4, (List.forall_mem_cons.mpr ⟨lk_a1_8_5, (List.forall_mem_cons.mpr ⟨lk_a1_8_6, (List.forall_mem_cons.mpr ⟨lk_a1_8_7, (List.forall_mem_cons.mpr ⟨lk_a1_8_8, (List.forall_mem_cons.mpr ⟨lk_a1_8_9, (List.forall_mem_cons.mpr ⟨lk_a1_8_10, (List.forall_mem_cons.mpr ⟨lk_a1_8_11, (List.forall_mem_cons.mpr ⟨lk_a1_8_12, (List.forall_mem_cons.mpr ⟨lk_a1_8_13, (List.forall_mem_cons.mpr ⟨lk_a1_8_14, (List.forall_mem_cons.mpr ⟨lk_a1_8_15, (List.forall_mem_cons.mpr ⟨lk_a1_8_16, (List.forall_mem_cons.mpr ⟨lk_a1_8_17, (List.forall_mem_cons.mpr ⟨lk_a1_8_18, (List.forall_mem_cons.mpr ⟨lk_a1_8_19, (List.forall_mem_cons.mpr ⟨lk_a1_8_20, (List.forall_mem_cons.mpr ⟨lk_a1_8_21, (List.forall_mem_cons.mpr ⟨lk_a1_8_22, (List.forall_mem_cons.mpr ⟨lk_a1_8_23, (List.forall_mem_cons.mpr ⟨lk_a1_8_24, (List.forall_mem_cons.mpr ⟨lk_a1_8_25, (List.forall_mem_cons.mpr ⟨lk_a1_8_26, (List.forall_mem_cons.mpr ⟨lk_a1_8_27, (List.forall_mem_cons.mpr ⟨lk_a1_8_28, (List.forall_mem_cons.mpr ⟨lk_a1_8_29, (List.forall_mem_cons.mpr ⟨lk_a1_8_30, (List.forall_mem_cons.mpr ⟨lk_a1_8_31, (fun _ h => absurd h List.not_mem_nil)⟩)⟩)⟩)⟩)⟩)⟩)⟩)⟩)⟩)⟩)⟩)⟩)⟩)⟩)⟩)⟩)⟩)⟩)⟩)⟩)⟩)⟩)⟩)⟩)⟩)⟩)⟩)⟩)⟩)⟩)⟩)⟩)
end
