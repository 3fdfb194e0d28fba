noncomputable section
def cx_subP (h1 h : cx_H) : Prop := match h1 with
  | [] => True
  | q :: r => cx_hg h q.1 = some q.2 ∧ cx_subP r h
theorem cx_subP_in {h : cx_H} : ∀ {h1 : cx_H}, cx_subP h1 h → ∀ k c, (k, c) ∈ h1 → cx_hg h k = some c
  | [], _, k, c, hm => by cases hm
  | q :: r, hs, k, c, hm => by
    rcases List.mem_cons.mp hm with e | hm
    · rw [← e] at hs
      exact hs.1
    · exact cx_subP_in hs.2 k c hm
/-- cells behind a call -/
def cx_ov (h h2 : cx_H) : cx_H := @List.rec (Nat × cx_C) (fun _ => cx_H) [] (fun q _ ih => (match cx_hg h2 q.1 with
  | some c => (q.1, c)
  | none => q) :: ih) h
theorem cx_ov_cons {h h2 : cx_H} {q : Nat × cx_C} : cx_ov (q :: h) h2 = (match cx_hg h2 q.1 with
  | some c => (q.1, c)
  | none => q) :: cx_ov h h2 := rfl
theorem cx_ov_key {h2 : cx_H} : ∀ {h : cx_H}, (cx_ov h h2).map (·.1) = h.map (·.1)
  | [] => rfl
  | q :: h => by
    rw [cx_ov_cons, List.map_cons, List.map_cons, cx_ov_key]
    cases cx_hg h2 q.1 with
    | none => rfl
    | some c => rfl
theorem cx_ov_get {h2 : cx_H} {k : Nat} : ∀ {h : cx_H} {c : cx_C}, cx_hg (cx_ov h h2) k = some c → (cx_hg h2 k = some c) ∨ (cx_hg h2 k = none ∧ cx_hg h k = some c)
  | [], c, h0 => by cases h0
  | q :: h, c, h0 => by
    rw [cx_ov_cons, cx_hg_cons] at h0
    rw [cx_hg_cons]
    have e0 : (match cx_hg h2 q.1 with
      | some c => (q.1, c)
      | none => q).1 = q.1 := by
      cases cx_hg h2 q.1 with
      | none => rfl
      | some c => rfl
    rw [e0] at h0
    cases hb : Nat.beq q.1 k with
    | false =>
      rw [hb] at h0
      exact cx_ov_get h0
    | true =>
      rw [hb] at h0
      have e1 : q.1 = k := Nat.eq_of_beq_eq_true hb
      rw [← e1]
      have h0 : (match cx_hg h2 q.1 with
        | some c => (q.1, c)
        | none => q).2 = c := Option.some.inj h0
      cases hg : cx_hg h2 q.1 with
      | none =>
        rw [hg] at h0
        exact Or.inr ⟨rfl, congrArg some h0⟩
      | some c2 =>
        rw [hg] at h0
        exact Or.inl (congrArg some h0)
theorem cx_heap_sub {tS : Nat} {cs : Nat → ClassId} {h h1 : cx_H} {ws : va_W} (H : cx_heap tS cs h ws) (hs : cx_subP h1 h) : cx_heap tS cs h1 ws := fun k c hk => H k c (cx_subP_in hs k c (cx_hg_mem hk))
theorem cx_heap_ov {tS : Nat} {cs : Nat → ClassId} {h h1 h2 : cx_H} {ws ws' : va_W} (H : cx_heap tS cs h ws) (hk : h2.map (·.1) = h1.map (·.1)) (hf : cx_fr (h1.map (·.1)) ws ws') (H2 : cx_heap tS cs h2 ws') : cx_heap tS cs (cx_ov h h2) ws' := by
  intro k c hc
  rcases cx_ov_get hc with q | ⟨q1, q2⟩
  · exact H2 k c q
  · obtain ⟨a, e, g1, g2⟩ := H k c q2
    have g3 := hf.2 k (by rw [← hk]; exact cx_hg_none q1)
    exact ⟨a, e, g3.trans g1, by rw [hf.1]; exact g2⟩
theorem cx_sub_key {h h1 : cx_H} (hs : cx_subP h1 h) : ∀ k ∈ h1.map (·.1), k ∈ h.map (·.1) := fun k hk => by
  obtain ⟨q, h2, e⟩ := List.mem_map.mp hk
  rw [← e]
  exact cx_hg_key (cx_subP_in hs q.1 q.2 h2)
section CXK
variable {d j : Nat} {ks : List Nat} {pc pc' : Nat} {tb : List (Nat × Instr × Nat)} {T : ab_Tb} {rt : Option FieldType} {L : List (Option cx_V)} {r st : List cx_V} {h h1 h' : cx_H} {P P1 : Option cx_V → cx_H → Prop} {ix d0 q n : Nat}
theorem cx_after {tS nL : Nat} {cs : Nat → ClassId} {w0 ws ws' : va_W} {ls : Array Slot} {stk : List Value} {rv : Option Value} (hk : h.map (·.1) = ks) (hf : cx_fr ks w0 ws) (hh : cx_heap tS cs h ws) (hL : cx_loc (ws.map (·.1)) tS nL L ls) (hr : cx_all (cx_val (ws.map (·.1)) tS) r stk) (hs : cx_subP h1 h) (hpo : cx_Po tS cs (h1.map (·.1)) ws P1 rv ws') : ∃ v h2, P1 v h2 ∧ (cx_ov h h2).map (·.1) = ks ∧ cx_fr ks w0 ws' ∧ cx_sat tS cs nL (L, v.toList ++ r, cx_ov h h2) ls (rv.toList ++ stk) ws' := by
  obtain ⟨v, h2, p1, p2, p3, p4, p5⟩ := hpo
  refine ⟨v, h2, p1, by rw [cx_ov_key]; exact hk, hf.sub p3 (by rw [← hk]; exact cx_sub_key hs), cx_heap_ov hh p2 p3 p4, by rw [p3.1]; exact hL, ?_⟩
  have hr2 : cx_all (cx_val (ws'.map (·.1)) tS) r stk := by rw [p3.1]; exact hr
  match v, rv, p5 with
  | none, none, _ => exact hr2
  | some v, some x, p5 => exact ⟨p5, hr2⟩
theorem ex_callV (G : cx_G j tb T rt) {cp ci k0 : Nat} {As : List cx_V} (hi : tb[ix]? = some (pc, .invokevirtual cp, 3)) (hT : T.2.2.2.2 cp = some (.inr q)) (hM : MtF q = (n, ci, false)) (C : cx_Ct d0 q (.inr (.inl k0) :: As) h1 P1) (hd0 : d0 + 1 ≤ d) (hn : As.length = n) {vs : List cx_V} (hrc : cx_hg h k0 = some (.inl (ci, vs))) (hr : Nat.ble r.length 4 = true) (hs : cx_subP h1 h) (hst : st = As.reverse ++ .inr (.inl k0) :: r) (hp : pc' = pc + 3)
    (k : ∀ v h2, P1 v h2 → cx_T d j ks pc' (L, v.toList ++ r, cx_ov h h2) P) : cx_T d j ks pc (L, st, h) P := by
  subst hp
  subst hst
  intro p l e s m args below meth c D A cs tS w0 X hk ls stk ws hf S H locs hP hD hS
  obtain ⟨m1, m2, rfl, hm1, hm2⟩ := cx_all_split S.2.2
  obtain ⟨x0, m3, rfl, hx0, hm3⟩ := cx_top hm2
  have hx1 := hx0
  obtain ⟨b, hb1, rfl⟩ := hx1
  have hargs : cx_all (cx_val (ws.map (·.1)) tS) (.inr (.inl k0) :: As) (.ref b :: m1.reverse) := ⟨hx0, by have := cx_all_rev hm1; rw [List.reverse_reverse] at this; exact this⟩
  obtain ⟨d', hd', Ct⟩ := C l D cs tS ws _ (cx_heap_sub S.1 hs) hargs
  obtain ⟨a2, e2, hw, hcell⟩ := S.1 _ _ hrc
  have ea := ab_ad_get hb1 hw
  subst ea
  obtain ⟨fs, rfl, -⟩ := hcell
  obtain ⟨hx, hbc, hml, hown, hts, hK, hA, hZ, hTs, hrt, hlocks, hname⟩ := id X
  have hsub : ∀ w ∈ ZZ.2.2.2.2, w ∈ ab_wM ZZ j := fun w hw => List.mem_cons_of_mem _ hw
  have hB : ∀ w ∈ ZZ.2.2.2.2, w.before args s = true := fun w hw => hts w (hsub w hw)
  obtain ⟨s1, s2, s3, s4, s5, s6, s7⟩ := G.2.2.1.2.1 cp q hT
  rw [hM] at s4 s7
  obtain ⟨t1, t2, Tb, N, t3⟩ := s7 rfl
  have hcB : CallB (ab_rm d 0 0) s args (ZZ.1 j).cls cp (ZZ.1 q) (ZZ.2.1 q) (ZZ.2.2.1 q) (ZZ.2.2.2.1 q) (ab_wM ZZ q) (ab_rm d' 0 0) 0 0 n := callB_of n hts (ab_goodB (ab_Gl_ok (l := l) (D := D) (cs := cs) (tS := tS)).1 s3 rfl) rfl rfl rfl (hB _ s2) (hB _ s1) s4 ⟨by show d' + 1 ≤ d; omega, by show 8 + (ZZ.2.2.1 q + 11) + 40 * d' ≤ 40 * d; omega⟩
  have hl3 : m3.length = r.length := (cx_all_len hm3).symm
  have hcat : (m3.map fun v => v.category).sum ≤ 8 := by
    have := ab_catsum m3
    have := Nat.le_of_ble_eq_true hr
    omega
  have hl1 : m1.reverse.length = n := by
    have := cx_all_len hm1
    rw [List.length_reverse] at this
    rw [List.length_reverse]
    omega
  rw [show m1 ++ Value.ref a2 :: m3 = m1.reverse.reverse ++ Value.ref a2 :: m3 by rw [List.reverse_reverse]]
  refine ab_callV ⟨hx, hbc, hml, hown, hts⟩ Ct ⟨hcB, hB _ t1, hB _ t2⟩ (va_recv hK hP t3 hw) hP hD hS hA hK hZ hTs hl1 S.2.1.1 hcat (G.2.1 _ _ _ (List.mem_of_getElem? hi)) ⟨Nat.le_refl _, Nat.le_refl _⟩ (fun rv ws' H1 locs1 hpo hP1 hD1 hS1 => ?_)
  obtain ⟨v, h2, p1, p2, p3, p4⟩ := cx_after hk hf S.1 S.2.1 hm3 hs hpo
  exact k v h2 p1 p l e s m args below meth c D A cs tS w0 X p2 ls _ ws' p3 p4 H1 locs1 hP1 hD1 hS1
theorem ex_callS (G : cx_G j tb T rt) {cp ci : Nat} {As : List cx_V} (hi : tb[ix]? = some (pc, .invokestatic cp, 3)) (hT : T.2.2.2.2 cp = some (.inr q)) (hM : MtF q = (n, ci, true)) (C : cx_Ct d0 q As h1 P1) (hd0 : d0 + 1 ≤ d) (hn : As.length = n) (hr : Nat.ble r.length 4 = true) (hs : cx_subP h1 h) (hst : st = As.reverse ++ r) (hp : pc' = pc + 3)
    (k : ∀ v h2, P1 v h2 → cx_T d j ks pc' (L, v.toList ++ r, cx_ov h h2) P) : cx_T d j ks pc (L, st, h) P := by
  subst hp
  subst hst
  intro p l e s m args below meth c D A cs tS w0 X hk ls stk ws hf S H locs hP hD hS
  obtain ⟨m1, m3, rfl, hm1, hm3⟩ := cx_all_split S.2.2
  have hargs : cx_all (cx_val (ws.map (·.1)) tS) As m1.reverse := by have := cx_all_rev hm1; rw [List.reverse_reverse] at this; exact this
  obtain ⟨d', hd', Ct⟩ := C l D cs tS ws _ (cx_heap_sub S.1 hs) hargs
  obtain ⟨hx, hbc, hml, hown, hts, hK, hA, hZ, hTs, hrt, hlocks, hname⟩ := id X
  have hsub : ∀ w ∈ ZZ.2.2.2.2, w ∈ ab_wM ZZ j := fun w hw => List.mem_cons_of_mem _ hw
  have hB : ∀ w ∈ ZZ.2.2.2.2, w.before args s = true := fun w hw => hts w (hsub w hw)
  obtain ⟨s1, s2, s3, s4, s5, s6, s7⟩ := G.2.2.1.2.1 cp q hT
  rw [hM] at s4 s6
  have hcB : CallB (ab_rm d 0 0) s args (ZZ.1 j).cls cp (ZZ.1 q) (ZZ.2.1 q) (ZZ.2.2.1 q) (ZZ.2.2.2.1 q) (ab_wM ZZ q) (ab_rm d' 0 0) 0 0 n := callB_of n hts (ab_goodB (ab_Gl_ok (l := l) (D := D) (cs := cs) (tS := tS)).1 s3 rfl) rfl rfl rfl (hB _ s2) (hB _ s1) s4 ⟨by show d' + 1 ≤ d; omega, by show 8 + (ZZ.2.2.1 q + 11) + 40 * d' ≤ 40 * d; omega⟩
  have hl3 : m3.length = r.length := (cx_all_len hm3).symm
  have hcat : (m3.map fun v => v.category).sum ≤ 8 := by
    have := ab_catsum m3
    have := Nat.le_of_ble_eq_true hr
    omega
  have hl1 : m1.reverse.length = n := by
    have := cx_all_len hm1
    rw [List.length_reverse] at this
    rw [List.length_reverse]
    omega
  rw [show m1 ++ m3 = m1.reverse.reverse ++ m3 by rw [List.reverse_reverse]]
  refine ab_callS ⟨hx, hbc, hml, hown, hts⟩ Ct ⟨hcB, hB _ (s6 rfl)⟩ hP hD hS hA hK hZ hTs hl1 S.2.1.1 hcat (G.2.1 _ _ _ (List.mem_of_getElem? hi)) ⟨Nat.le_refl _, Nat.le_refl _⟩ (fun rv ws' H1 locs1 hpo hP1 hD1 hS1 => ?_)
  obtain ⟨v, h2, p1, p2, p3, p4⟩ := cx_after hk hf S.1 S.2.1 hm3 hs hpo
  exact k v h2 p1 p l e s m args below meth c D A cs tS w0 X p2 ls _ ws' p3 p4 H1 locs1 hP1 hD1 hS1

theorem ex_max (G : cx_G j tb T rt) {cp : Nat} {x y : Int32} (hi : tb[ix]? = some (pc, .invokestatic cp, 3)) (hT : T.2.2.2.2 cp = some (.inl 1)) (hd2 : 2 ≤ d) (hrl : Nat.ble r.length 4 = true) (hp : pc' = pc + 3) (k : cx_T d j ks pc' (L, .inl (.int (if x < y then y else x)) :: r, h) P) : cx_T d j ks pc (L, .inl (.int y) :: .inl (.int x) :: r, h) P := by
  subst hp
  intro p l e s m args below meth c D A cs tS w0 X hk ls stk ws hf S H locs hP hD hS
  obtain ⟨y1, stk1, rfl, hv1, S1⟩ := cx_top S.2.2
  obtain ⟨x1, stk2, rfl, hv2, S2⟩ := cx_top S1
  have hv1 : y1 = .int y := hv1
  have hv2 : x1 = .int x := hv2
  subst hv1
  subst hv2
  obtain ⟨hx, hbc, hml, hown, hts, hK, hA, hZ, hTs, hrt, hlocks, hname⟩ := id X
  have hB : ∀ w ∈ ZZ.2.2.2.2, w.before args s = true := fun w hw => hts w (List.mem_cons_of_mem _ hw)
  have hloc : 80 ≤ (ab_rm d 0 0).locals := by show 80 ≤ 40 * d; omega
  have hfr : 2 ≤ (ab_rm d 0 0).frames := hd2
  obtain ⟨j1, j2, j3, j4⟩ := G.2.2.1.2.2 cp 1 hT
  have hcat : (stk2.map fun v => v.category).sum ≤ 8 := by
    have := ab_catsum stk2
    have := Nat.le_of_ble_eq_true hrl
    have := cx_all_len S2
    omega
  exact va_mmax hx hbc (by rw [hml, S.2.1.1]) hown (hB _ j1) (hB _ j2) (hB _ j3) (hB _ j4) (by omega) (by omega) (Nat.le_refl _) (Nat.le_refl _) (G.2.1 _ _ _ (List.mem_of_getElem? hi)) (k p l e s m args below meth c D A cs tS w0 X hk ls (.int (if x < y then y else x) :: stk2) (ws) (hf) ⟨S.1, S.2.1, rfl, S2⟩ H locs hP hD hS)
theorem ex_min (G : cx_G j tb T rt) {cp : Nat} {x y : Int32} (hi : tb[ix]? = some (pc, .invokestatic cp, 3)) (hT : T.2.2.2.2 cp = some (.inl 2)) (hd2 : 2 ≤ d) (hrl : Nat.ble r.length 4 = true) (hp : pc' = pc + 3) (k : cx_T d j ks pc' (L, .inl (.int (if y < x then y else x)) :: r, h) P) : cx_T d j ks pc (L, .inl (.int y) :: .inl (.int x) :: r, h) P := by
  subst hp
  intro p l e s m args below meth c D A cs tS w0 X hk ls stk ws hf S H locs hP hD hS
  obtain ⟨y1, stk1, rfl, hv1, S1⟩ := cx_top S.2.2
  obtain ⟨x1, stk2, rfl, hv2, S2⟩ := cx_top S1
  have hv1 : y1 = .int y := hv1
  have hv2 : x1 = .int x := hv2
  subst hv1
  subst hv2
  obtain ⟨hx, hbc, hml, hown, hts, hK, hA, hZ, hTs, hrt, hlocks, hname⟩ := id X
  have hB : ∀ w ∈ ZZ.2.2.2.2, w.before args s = true := fun w hw => hts w (List.mem_cons_of_mem _ hw)
  have hloc : 80 ≤ (ab_rm d 0 0).locals := by show 80 ≤ 40 * d; omega
  have hfr : 2 ≤ (ab_rm d 0 0).frames := hd2
  obtain ⟨j1, j2, j3, j4⟩ := G.2.2.1.2.2 cp 2 hT
  have hcat : (stk2.map fun v => v.category).sum ≤ 8 := by
    have := ab_catsum stk2
    have := Nat.le_of_ble_eq_true hrl
    have := cx_all_len S2
    omega
  exact va_mmin hx hbc (by rw [hml, S.2.1.1]) hown (hB _ j1) (hB _ j2) (hB _ j3) (hB _ j4) (by omega) (by omega) (Nat.le_refl _) (Nat.le_refl _) (G.2.1 _ _ _ (List.mem_of_getElem? hi)) (k p l e s m args below meth c D A cs tS w0 X hk ls (.int (if y < x then y else x) :: stk2) (ws) (hf) ⟨S.1, S.2.1, rfl, S2⟩ H locs hP hD hS)
theorem ex_abs (G : cx_G j tb T rt) {cp : Nat} {x : Int32} (hi : tb[ix]? = some (pc, .invokestatic cp, 3)) (hT : T.2.2.2.2 cp = some (.inl 3)) (hd2 : 2 ≤ d) (hrl : Nat.ble r.length 4 = true) (hp : pc' = pc + 3) (k : cx_T d j ks pc' (L, .inl (.int (if 0 ≤ x then x else 0 - x)) :: r, h) P) : cx_T d j ks pc (L, .inl (.int x) :: r, h) P := by
  subst hp
  intro p l e s m args below meth c D A cs tS w0 X hk ls stk ws hf S H locs hP hD hS
  obtain ⟨x1, stk2, rfl, hv2, S2⟩ := cx_top S.2.2
  have hv2 : x1 = .int x := hv2
  subst hv2
  obtain ⟨hx, hbc, hml, hown, hts, hK, hA, hZ, hTs, hrt, hlocks, hname⟩ := id X
  have hB : ∀ w ∈ ZZ.2.2.2.2, w.before args s = true := fun w hw => hts w (List.mem_cons_of_mem _ hw)
  have hloc : 80 ≤ (ab_rm d 0 0).locals := by show 80 ≤ 40 * d; omega
  have hfr : 2 ≤ (ab_rm d 0 0).frames := hd2
  obtain ⟨j1, j2, j3, j4⟩ := G.2.2.1.2.2 cp 3 hT
  have hcat : (stk2.map fun v => v.category).sum ≤ 8 := by
    have := ab_catsum stk2
    have := Nat.le_of_ble_eq_true hrl
    have := cx_all_len S2
    omega
  exact va_mabs hx hbc (by rw [hml, S.2.1.1]) hown (hB _ j1) (hB _ j2) (hB _ j3) (hB _ j4) (by omega) (by omega) (Nat.le_refl _) (Nat.le_refl _) (G.2.1 _ _ _ (List.mem_of_getElem? hi)) (k p l e s m args below meth c D A cs tS w0 X hk ls (.int (if 0 ≤ x then x else 0 - x) :: stk2) (ws) (hf) ⟨S.1, S.2.1, rfl, S2⟩ H locs hP hD hS)
theorem ex_fillI (G : cx_G j tb T rt) {cp k0 N : Nat} {f : Nat → Int32} {x : Int32} (hi : tb[ix]? = some (pc, .invokestatic cp, 3)) (hT : T.2.2.2.2 cp = some (.inl 6)) (hd2 : 2 ≤ d) (hrl : Nat.ble r.length 4 = true) (hc : cx_hg h k0 = some (.inr (.inl (0, N, f)))) (hN : Nat.ble N 1000000 = true) (hh : cx_hs h k0 (.inr (.inl (0, N, fun i => if i < N then x else f i))) = h') (hp : pc' = pc + 3) (k : cx_T d j ks pc' (L, r, h') P) : cx_T d j ks pc (L, .inl (.int x) :: .inr (.inl k0) :: r, h) P := by
  subst hp
  subst hh
  intro p l e s m args below meth c D A cs tS w0 X hk ls stk ws hf S H locs hP hD hS
  obtain ⟨y1, stk1, rfl, hv1, S1⟩ := cx_top S.2.2
  have hv1 : y1 = .int x := hv1
  subst hv1
  obtain ⟨x1, stk2, rfl, hv, S2⟩ := cx_top S1
  obtain ⟨a, ha, e1⟩ := hv
  subst e1
  obtain ⟨a2, e2, hw, hcell⟩ := S.1 _ _ hc
  have ea := ab_ad_get ha hw
  subst ea
  obtain ⟨-, e3⟩ := hcell
  subst e3
  obtain ⟨hx, hbc, hml, hown, hts, hK, hA, hZ, hTs, hrt, hlocks, hname⟩ := id X
  have hB : ∀ w ∈ ZZ.2.2.2.2, w.before args s = true := fun w hw => hts w (List.mem_cons_of_mem _ hw)
  have hloc : 80 ≤ (ab_rm d 0 0).locals := by show 80 ≤ 40 * d; omega
  have hfr : 2 ≤ (ab_rm d 0 0).frames := hd2
  obtain ⟨j1, j2, j3, j4, j5⟩ := G.2.2.1.2.2 cp 6 hT
  have Gl := ab_Gl_ok (l := l) (D := D) (cs := cs) (tS := tS)
  have hcat : (stk2.map fun v => v.category).sum ≤ 8 := by
    have := ab_catsum stk2
    have := Nat.le_of_ble_eq_true hrl
    have := cx_all_len S2
    omega
  refine ab_callS (As := [.ref a2, .int x]) ⟨hx, hbc, hml, hown, hts⟩ (Gl.2.1 ws k0 N a2 f x hw (Nat.le_of_ble_eq_true hN)) ⟨callB_of 2 hts (by rw [j4]; exact ab_goodB Gl.1 j5 rfl) j4 rfl rfl (hB _ j3) (hB _ j1) (by decide +kernel) ⟨hfr, by show 8 + (4 + 11) + 40 * 1 ≤ _; omega⟩, hB _ j2⟩ hP hD hS hA hK hZ hTs rfl S.2.1.1 hcat (G.2.1 _ _ _ (List.mem_of_getElem? hi)) ⟨Nat.le_refl _, Nat.le_refl _⟩ (fun rv ws' H1 locs1 hp1 hP1 hD1 hS1 => ?_)
  obtain ⟨rfl, rfl⟩ := hp1
  exact (k p l e s m args below meth c D A cs tS w0 X (by rw [cx_hs_key]; exact hk) ls (stk2) (_) (hf.set hw (by rw [← hk]; exact cx_hg_key hc)) (cx_sat_set S.2.1 S2 hw (cx_heap_set S.1 hw hc ⟨Or.inl rfl, rfl⟩)) H1 locs1 hP1 hD1 hS1)
theorem ex_fillL (G : cx_G j tb T rt) {cp k0 N : Nat} {f : Nat → Int64} {x : Int64} (hi : tb[ix]? = some (pc, .invokestatic cp, 3)) (hT : T.2.2.2.2 cp = some (.inl 7)) (hd2 : 2 ≤ d) (hrl : Nat.ble r.length 4 = true) (hc : cx_hg h k0 = some (.inr (.inr (.inl (N, f))))) (hN : Nat.ble N 1000000 = true) (hh : cx_hs h k0 (.inr (.inr (.inl (N, fun i => if i < N then x else f i)))) = h') (hp : pc' = pc + 3) (k : cx_T d j ks pc' (L, r, h') P) : cx_T d j ks pc (L, .inl (.long x) :: .inr (.inl k0) :: r, h) P := by
  subst hp
  subst hh
  intro p l e s m args below meth c D A cs tS w0 X hk ls stk ws hf S H locs hP hD hS
  obtain ⟨y1, stk1, rfl, hv1, S1⟩ := cx_top S.2.2
  have hv1 : y1 = .long x := hv1
  subst hv1
  obtain ⟨x1, stk2, rfl, hv, S2⟩ := cx_top S1
  obtain ⟨a, ha, e1⟩ := hv
  subst e1
  obtain ⟨a2, e2, hw, hcell⟩ := S.1 _ _ hc
  have ea := ab_ad_get ha hw
  subst ea
  have e3 := hcell
  subst e3
  obtain ⟨hx, hbc, hml, hown, hts, hK, hA, hZ, hTs, hrt, hlocks, hname⟩ := id X
  have hB : ∀ w ∈ ZZ.2.2.2.2, w.before args s = true := fun w hw => hts w (List.mem_cons_of_mem _ hw)
  have hloc : 80 ≤ (ab_rm d 0 0).locals := by show 80 ≤ 40 * d; omega
  have hfr : 2 ≤ (ab_rm d 0 0).frames := hd2
  obtain ⟨j1, j2, j3, j4, j5⟩ := G.2.2.1.2.2 cp 7 hT
  have Gl := ab_Gl_ok (l := l) (D := D) (cs := cs) (tS := tS)
  have hcat : (stk2.map fun v => v.category).sum ≤ 8 := by
    have := ab_catsum stk2
    have := Nat.le_of_ble_eq_true hrl
    have := cx_all_len S2
    omega
  refine ab_callS (As := [.ref a2, .long x]) ⟨hx, hbc, hml, hown, hts⟩ (Gl.2.2 ws k0 N a2 f x hw (Nat.le_of_ble_eq_true hN)) ⟨callB_of 2 hts (by rw [j4]; exact ab_goodB Gl.1 j5 rfl) j4 rfl rfl (hB _ j3) (hB _ j1) (by decide +kernel) ⟨hfr, by show 8 + (5 + 11) + 40 * 1 ≤ _; omega⟩, hB _ j2⟩ hP hD hS hA hK hZ hTs rfl S.2.1.1 hcat (G.2.1 _ _ _ (List.mem_of_getElem? hi)) ⟨Nat.le_refl _, Nat.le_refl _⟩ (fun rv ws' H1 locs1 hp1 hP1 hD1 hS1 => ?_)
  obtain ⟨rfl, rfl⟩ := hp1
  exact (k p l e s m args below meth c D A cs tS w0 X (by rw [cx_hs_key]; exact hk) ls (stk2) (_) (hf.set hw (by rw [← hk]; exact cx_hg_key hc)) (cx_sat_set S.2.1 S2 hw (cx_heap_set S.1 hw hc rfl)) H1 locs1 hP1 hD1 hS1)
theorem ex_copyI (G : cx_G j tb T rt) {cp k0 k1 N0 N1 : Nat} {f g : Nat → Int32} {i : Int32} (hi : tb[ix]? = some (pc, .invokestatic cp, 3)) (hT : T.2.2.2.2 cp = some (.inl 4)) (hd2 : 2 ≤ d) (hrl : Nat.ble r.length 4 = true) (hc0 : cx_hg h k0 = some (.inr (.inl (0, N0, f)))) (hc : cx_hg h k1 = some (.inr (.inl (0, N1, g)))) (i0 : 0 ≤ i.toInt) (i1 : i.toInt ≤ N0) (i2 : i.toInt ≤ N1) (hh : cx_hs h k1 (.inr (.inl (0, N1, va_cpy f g 0 0 i.toNatClampNeg))) = h') (hp : pc' = pc + 3) (k : cx_T d j ks pc' (L, r, h') P) : cx_T d j ks pc (L, .inl (.int i) :: .inl (.int 0) :: .inr (.inl k1) :: .inl (.int 0) :: .inr (.inl k0) :: r, h) P := by
  subst hp
  subst hh
  intro p l e s m args below meth c D A cs tS w0 X hk ls stk ws hf S H locs hP hD hS
  obtain ⟨y1, stk1, rfl, hv1, S1⟩ := cx_top S.2.2
  have hv1 : y1 = .int i := hv1
  subst hv1
  obtain ⟨y2, stk3, rfl, hv2, S3⟩ := cx_top S1
  have hv2 : y2 = .int 0 := hv2
  subst hv2
  obtain ⟨y3, stk4, rfl, hv, S4⟩ := cx_top S3
  obtain ⟨a, ha, e1⟩ := hv
  subst e1
  obtain ⟨a2, e2, hw, hcell⟩ := S.1 _ _ hc
  have ea := ab_ad_get ha hw
  subst ea
  obtain ⟨-, e3⟩ := hcell
  subst e3
  obtain ⟨y4, stk5, rfl, hv4, S5⟩ := cx_top S4
  have hv4 : y4 = .int 0 := hv4
  subst hv4
  obtain ⟨y5, stk2, rfl, hv5, S2⟩ := cx_top S5
  obtain ⟨b, hb1, e4⟩ := hv5
  subst e4
  obtain ⟨b2, e5, hw0, hcell0⟩ := S.1 _ _ hc0
  have eb := ab_ad_get hb1 hw0
  subst eb
  obtain ⟨-, e6⟩ := hcell0
  subst e6
  obtain ⟨hx, hbc, hml, hown, hts, hK, hA, hZ, hTs, hrt, hlocks, hname⟩ := id X
  have hB : ∀ w ∈ ZZ.2.2.2.2, w.before args s = true := fun w hw => hts w (List.mem_cons_of_mem _ hw)
  have hloc : 80 ≤ (ab_rm d 0 0).locals := by show 80 ≤ 40 * d; omega
  have hfr : 2 ≤ (ab_rm d 0 0).frames := hd2
  obtain ⟨j1, j2, j3, j4⟩ := G.2.2.1.2.2 cp 4 hT
  have z0 : (0 : Int32).toNatClampNeg = 0 := by decide
  have zn : ¬ (0 : Int32) < 0 := by decide
  have hnw : nativeFrameWords "java/lang/System" "arraycopy" 5 = 7 := by decide
  have hcat : (stk2.map fun v => v.category).sum ≤ 8 := by
    have := ab_catsum stk2
    have := Nat.le_of_ble_eq_true hrl
    have := cx_all_len S2
    omega
  have hcl := ab_clamp i0
  have hi0 : ¬ i < 0 := by rw [Int32.lt_iff_toInt_lt]; simp; omega
  refine va_copyi hx hbc (by rw [hml, S.2.1.1]) hown (hB _ j1) (hB _ j2) (hB _ j3) (hB _ j4) hK hP hD hS k0 k1 0 0 hw0 hw (ty := .int) rfl rfl rfl zn zn hi0 (by show (0 : Int32).toNatClampNeg + i.toNatClampNeg ≤ N0; rw [z0]; omega) (by show (0 : Int32).toNatClampNeg + i.toNatClampNeg ≤ N1; rw [z0]; omega) (fun _ _ => rfl) (by omega) (by rw [hnw]; omega) (G.2.1 _ _ _ (List.mem_of_getElem? hi)) ?_
  rw [z0]
  exact fun H1 locs1 hP1 hD1 hS1 => (k p l e s m args below meth c D A cs tS w0 X (by rw [cx_hs_key]; exact hk) ls (stk2) (_) (hf.set hw (by rw [← hk]; exact cx_hg_key hc)) (cx_sat_set S.2.1 S2 hw (cx_heap_set S.1 hw hc ⟨Or.inl rfl, rfl⟩)) H1 locs1 hP1 hD1 hS1)
theorem ex_copyL (G : cx_G j tb T rt) {cp k0 k1 N0 N1 : Nat} {f g : Nat → Int64} {i : Int32} (hi : tb[ix]? = some (pc, .invokestatic cp, 3)) (hT : T.2.2.2.2 cp = some (.inl 4)) (hd2 : 2 ≤ d) (hrl : Nat.ble r.length 4 = true) (hc0 : cx_hg h k0 = some (.inr (.inr (.inl (N0, f))))) (hc : cx_hg h k1 = some (.inr (.inr (.inl (N1, g))))) (i0 : 0 ≤ i.toInt) (i1 : i.toInt ≤ N0) (i2 : i.toInt ≤ N1) (hh : cx_hs h k1 (.inr (.inr (.inl (N1, va_cpy f g 0 0 i.toNatClampNeg)))) = h') (hp : pc' = pc + 3) (k : cx_T d j ks pc' (L, r, h') P) : cx_T d j ks pc (L, .inl (.int i) :: .inl (.int 0) :: .inr (.inl k1) :: .inl (.int 0) :: .inr (.inl k0) :: r, h) P := by
  subst hp
  subst hh
  intro p l e s m args below meth c D A cs tS w0 X hk ls stk ws hf S H locs hP hD hS
  obtain ⟨y1, stk1, rfl, hv1, S1⟩ := cx_top S.2.2
  have hv1 : y1 = .int i := hv1
  subst hv1
  obtain ⟨y2, stk3, rfl, hv2, S3⟩ := cx_top S1
  have hv2 : y2 = .int 0 := hv2
  subst hv2
  obtain ⟨y3, stk4, rfl, hv, S4⟩ := cx_top S3
  obtain ⟨a, ha, e1⟩ := hv
  subst e1
  obtain ⟨a2, e2, hw, hcell⟩ := S.1 _ _ hc
  have ea := ab_ad_get ha hw
  subst ea
  have e3 := hcell
  subst e3
  obtain ⟨y4, stk5, rfl, hv4, S5⟩ := cx_top S4
  have hv4 : y4 = .int 0 := hv4
  subst hv4
  obtain ⟨y5, stk2, rfl, hv5, S2⟩ := cx_top S5
  obtain ⟨b, hb1, e4⟩ := hv5
  subst e4
  obtain ⟨b2, e5, hw0, hcell0⟩ := S.1 _ _ hc0
  have eb := ab_ad_get hb1 hw0
  subst eb
  have e6 := hcell0
  subst e6
  obtain ⟨hx, hbc, hml, hown, hts, hK, hA, hZ, hTs, hrt, hlocks, hname⟩ := id X
  have hB : ∀ w ∈ ZZ.2.2.2.2, w.before args s = true := fun w hw => hts w (List.mem_cons_of_mem _ hw)
  have hloc : 80 ≤ (ab_rm d 0 0).locals := by show 80 ≤ 40 * d; omega
  have hfr : 2 ≤ (ab_rm d 0 0).frames := hd2
  obtain ⟨j1, j2, j3, j4⟩ := G.2.2.1.2.2 cp 4 hT
  have z0 : (0 : Int32).toNatClampNeg = 0 := by decide
  have zn : ¬ (0 : Int32) < 0 := by decide
  have hnw : nativeFrameWords "java/lang/System" "arraycopy" 5 = 7 := by decide
  have hcat : (stk2.map fun v => v.category).sum ≤ 8 := by
    have := ab_catsum stk2
    have := Nat.le_of_ble_eq_true hrl
    have := cx_all_len S2
    omega
  have hcl := ab_clamp i0
  have hi0 : ¬ i < 0 := by rw [Int32.lt_iff_toInt_lt]; simp; omega
  refine va_copyl hx hbc (by rw [hml, S.2.1.1]) hown (hB _ j1) (hB _ j2) (hB _ j3) (hB _ j4) hK hP hD hS k0 k1 1 1 hw0 hw (ty := .long) rfl rfl rfl zn zn hi0 (by show (0 : Int32).toNatClampNeg + i.toNatClampNeg ≤ N0; rw [z0]; omega) (by show (0 : Int32).toNatClampNeg + i.toNatClampNeg ≤ N1; rw [z0]; omega) (fun _ _ => rfl) (by omega) (by rw [hnw]; omega) (G.2.1 _ _ _ (List.mem_of_getElem? hi)) ?_
  rw [z0]
  exact fun H1 locs1 hP1 hD1 hS1 => (k p l e s m args below meth c D A cs tS w0 X (by rw [cx_hs_key]; exact hk) ls (stk2) (_) (hf.set hw (by rw [← hk]; exact cx_hg_key hc)) (cx_sat_set S.2.1 S2 hw (cx_heap_set S.1 hw hc rfl)) H1 locs1 hP1 hD1 hS1)
end CXK
end
