noncomputable section
theorem ab_Ct_mono {l : Launch} {y : MethodName} {wy : List Cond} {rm : Room} {mc ms : Nat} {D : va_G} {cl : List vw_C} {cs : Nat → ClassId} {tS : Nat} {vs : List Value} {ws : va_W} {P P' : Option Value → va_W → Prop} (h : ab_Ct l y wy rm mc ms D cl cs tS vs ws P) (hP : ∀ rv ws', P rv ws' → P' rv ws') : ab_Ct l y wy rm mc ms D cl cs tS vs ws P' := by
  intro sz p e ha hc hk s m args below hf happ hpre hK
  obtain ⟨n, o, h1, h2, h3, ⟨⟨⟨rv, ws', q1, q2, q3⟩, q4⟩, q5⟩⟩ := h sz p e ha hc hk s m args below hf happ hpre hK
  exact ⟨n, o, h1, h2, h3, ⟨⟨rv, ws', q1, hP _ _ q2, q3⟩, q4⟩, q5⟩
abbrev ab_Pt : Type := List (Option ab_Iv) × Option ab_TV × ab_TH
abbrev ab_Sm : Type := List ab_TV × ab_TH × List ab_Pt × List Nat
def ab_ag : List (Option ab_Iv) → List Value → Prop
  | some v :: r, x :: xs => (∃ y : Int32, x = .int y ∧ v.1 ≤ y.toInt ∧ y.toInt ≤ v.2) ∧ ab_ag r xs
  | none :: r, _ :: xs => ab_ag r xs
  | _, _ => True
def ab_rtv (ad : List Nat) (tS : Nat) (t : Option ab_TV) (rv : Option Value) : Prop := match t, rv with
  | none, none => True
  | some v, some x => ab_tv ad tS v x
  | _, _ => False
def ab_PS (tS : Nat) (tys : List (ClassId × FieldType)) (vs : List Value) (ws : va_W) (S : ab_Sm) (rv : Option Value) (ws' : va_W) : Prop := ab_gr (fun k => ab_mem k S.2.2.2) ws ws' ∧ ∃ po ∈ S.2.2.1, ab_ag po.1 vs ∧ ab_rtv (ws'.map (·.1)) tS po.2.1 rv ∧ ab_th tS tys po.2.2 ws'
def ab_SOK (l : Launch) (Z : ab_Ms) (d : Nat) (D : va_G) (cl : List vw_C) (cs : Nat → ClassId) (tS : Nat) (j : Nat) (S : ab_Sm) : Prop := ∀ (ws : va_W) (vs : List Value), ab_tl (ws.map (·.1)) tS S.1 vs → ab_th tS (ab_tys cs) S.2.1 ws → ∃ d', d' ≤ d ∧ ab_Ct l (Z.1 j) (ab_wM Z j) (ab_rm d' 0 0) 0 0 D cl cs tS vs ws (ab_PS tS (ab_tys cs) vs ws S)
def ab_rfn (e : ab_En) : List ab_SV → List (Option ab_Iv) → Option ab_En
  | v :: vs, some w :: r => (match ab_num e false v with
    | some x => bif ab_le (ab_max w.1 x.2.1) (ab_min w.2 x.2.2.1) then ab_rfn (ab_cutE x.1 x.2 (ab_max w.1 x.2.1, ab_min w.2 x.2.2.1) e) vs r else none
    | none => ab_rfn e vs r)
  | _ :: vs, none :: r => ab_rfn e vs r
  | _, _ => some e
theorem ab_rfn_ok {ρ : Nat → Value} {n : Nat} {ad : List Nat} {tS : Nat} : ∀ {as : List ab_SV} {iv : List (Option ab_Iv)} {xs : List Value} {e : ab_En}, ab_env ρ n e → ab_all2 (ab_val ρ n ad tS) as xs → ab_ag iv xs → ∃ e', ab_rfn e as iv = some e' ∧ ab_env ρ n e'
  | [], iv, xs, e, he, _, _ => ⟨e, by cases iv <;> rfl, he⟩
  | v :: vs, [], xs, e, he, _, _ => ⟨e, rfl, he⟩
  | v :: vs, none :: r, [], e, he, h, _ => h.elim
  | v :: vs, some w :: r, [], e, he, h, _ => h.elim
  | v :: vs, none :: r, x :: xs, e, he, h, k => ab_rfn_ok (as := vs) he h.2 k
  | v :: vs, some w :: r, x :: xs, e, he, h, k => by
    obtain ⟨⟨y, hy, y1, y2⟩, k2⟩ := k
    rw [ab_rfn]
    split
    · rename_i q hq
      obtain ⟨z, hz, hz2, hz3, hz4⟩ := ab_inQ_of he hq h.1
      have e1 : z = y := by rw [hy] at hz; cases hz; rfl
      subst e1
      have l1 := hz4.1
      have l2 := hz4.2.1
      rw [show ab_le (ab_max w.1 q.2.1) (ab_min w.2 q.2.2.1) = true by rw [ab_le_iff, ab_max_eq, ab_min_eq]; omega]
      exact ab_rfn_ok (as := vs) (ab_cutE_ok he hz3 hz2 hz4 (by rw [ab_max_eq]; simp only; omega) (by rw [ab_min_eq]; simp only; omega)) h.2 k2
    · exact ab_rfn_ok (as := vs) he h.2 k2
def ab_hk (k : Nat) : ab_TH → Bool
  | [] => false
  | q :: r => Nat.beq q.1 k || ab_hk k r
/-- fields that a call leaves alone keep what is known of them -/
def ab_z1 (md : List Nat) (k f : Nat) (v o : ab_SV) : ab_SV := match o with
  | none => v
  | some w => bif ab_mem (ab_fc k f) md then v else some w
def ab_zf (md : List Nat) (k : Nat) : Nat → List ab_SV → List ab_SV → List ab_SV
  | f, v :: vs, o :: os => ab_z1 md k f v o :: ab_zf md k (f + 1) vs os
  | _, vs, _ => vs
theorem ab_zf_ok {P : ab_SV → Value → Prop} {md : List Nat} {k : Nat} : ∀ {vs os : List ab_SV} {xs ys : List Value} {f : Nat}, ab_all2 P vs xs → ab_all2 P os ys → (∀ i, ab_mem (ab_fc k (f + i)) md = false → xs[i]? = ys[i]?) → ab_all2 P (ab_zf md k f vs os) xs
  | [], os, xs, ys, f, h, _, _ => by cases os <;> exact h
  | v :: vs, [], xs, ys, f, h, _, _ => h
  | v :: vs, o :: os, [], ys, f, h, _, _ => h.elim
  | v :: vs, o :: os, x :: xs, [], f, _, g, _ => g.elim
  | v :: vs, o :: os, x :: xs, y :: ys, f, h, g, hf => by
    refine (show ab_all2 P (ab_z1 md k f v o :: ab_zf md k (f + 1) vs os) (x :: xs) from ⟨?_, ab_zf_ok (f := f + 1) h.2 g.2 (fun i hi => ?_)⟩)
    · match o, g with
      | none, _ => exact h.1
      | some w, g =>
        unfold ab_z1
        cases hm : ab_mem (ab_fc k f) md with
        | true => exact h.1
        | false =>
          have := hf 0 (by rw [Nat.add_zero]; exact hm)
          simp at this
          subst this
          exact g.1
    · have := hf (i + 1) (by rw [show f + (i + 1) = f + 1 + i by omega]; exact hi)
      simpa using this
def ab_mgC (md : List Nat) (h : ab_AH) (k : Nat) (c : ab_AC) : ab_AC := match c, ab_hg h k with
  | (t, N, .inr (.inr (.inr (.inr svs)))), some (_, _, .inr (.inr (.inr (.inr old)))) => (t, N, .inr (.inr (.inr (.inr (ab_zf md k 0 svs old)))))
  | c, _ => c
def ab_mg (md : List Nat) (h : ab_AH) : ab_AH → ab_AH
  | [] => []
  | q :: r => (q.1, ab_mgC md h q.1 q.2) :: ab_mg md h r
theorem ab_mg_get {md : List Nat} {h : ab_AH} {k : Nat} : ∀ {E : ab_AH}, ab_hg (ab_mg md h E) k = (match ab_hg E k with
    | some c => some (ab_mgC md h k c)
    | none => none)
  | [] => rfl
  | q :: r => by
    rw [ab_mg, ab_hg_cons, show ab_hg (q :: r) k = _ from ab_hg_cons (k := q.1) (c := q.2)]
    by_cases e : q.1 = k
    · rw [if_pos e, if_pos e, e]
    · rw [if_neg e, if_neg e]; exact ab_mg_get
/-- the outcome of one post -/
def ab_po1 (md : List Nat) (n : Nat) (e : ab_En) (h : ab_AH) (as : List ab_SV) (po : ab_Pt) : Option ab_Oc := match ab_rfn e as po.1 with
  | none => none
  | some e1 => (match ab_inH po.2.2 n e1 with
    | (E, n1, e2) => (match po.2.1 with
      | none => some (n1, e2, ab_mg md h E ++ h, none)
      | some tv => (match ab_inV tv n1 e2 with
        | (v, n2, e3) => some (n2, e3, ab_mg md h E ++ h, some v))))
/-- no cell's number is a field's sign -/
def ab_lth (h : ab_AH) : Bool := @List.rec (Nat × ab_AC) (fun _ => Bool) true (fun q _ ih => @Bool.rec (fun _ => Bool) ih false (Nat.ble 1000 q.1)) h
theorem ab_lth_ok : ∀ {h : ab_AH}, ab_lth h = true → ∀ {k : Nat} {c : ab_AC}, ab_hg h k = some c → k < 1000
  | [], _, k, c, hc => by cases hc
  | q :: r, hl, k, c, hc => by
    have hl2 : @Bool.rec (fun _ => Bool) (ab_lth r) false (Nat.ble 1000 q.1) = true := hl
    rw [show ab_hg (q :: r) k = _ from ab_hg_cons (k := q.1) (c := q.2)] at hc
    cases hb : Nat.ble 1000 q.1 with
    | true => rw [hb] at hl2; cases hl2
    | false =>
      rw [hb] at hl2
      by_cases e : q.1 = k
      · subst e
        have : ¬ (1000 ≤ q.1) := fun h => by rw [Nat.ble_eq_true_of_le h] at hb; cases hb
        omega
      · rw [if_neg e] at hc
        exact ab_lth_ok hl2 hc
def ab_apO (S : ab_Sm) (M : Nat → Bool) (n : Nat) (e : ab_En) (h : ab_AH) (as : List ab_SV) : Option (List ab_Oc) :=
  bif ab_leVs e as S.1 && (ab_leH e h S.2.1 && ((ab_lth h && S.2.2.2.all M) && S.2.2.1.all (fun po => S.2.2.2.all (fun k => Nat.ble 1000 k || ab_hk k po.2.2)))) then some (S.2.2.1.filterMap (ab_po1 S.2.2.2 n e h as)) else none
theorem ab_hg_app {E h : ab_AH} {k : Nat} : ab_hg (E ++ h) k = match ab_hg E k with
  | some c => some c
  | none => ab_hg h k := by
  induction E with
  | nil => rfl
  | cons q r ih =>
    rw [List.cons_append, ab_hg_cons, ab_hg_cons]
    by_cases e : q.1 = k
    · rw [if_pos e, if_pos e]
    · rw [if_neg e, if_neg e]; exact ih
theorem ab_inH_none : ∀ {t : ab_TH} {n : Nat} {e : ab_En} {k : Nat}, ab_hg (ab_inH t n e).1 k = none → ab_hk k t = false
  | [], n, e, k, _ => rfl
  | q :: r, n, e, k, h => by
    have h2 : ab_hg ((q.1, (ab_inC q.2 n e).1) :: (ab_inH r (ab_inC q.2 n e).2.1 (ab_inC q.2 n e).2.2).1) k = none := h
    rw [ab_hg_cons] at h2
    by_cases e1 : q.1 = k
    · rw [if_pos e1] at h2; cases h2
    · rw [if_neg e1] at h2
      rw [ab_hk, ab_inH_none h2]
      cases hb : Nat.beq q.1 k with
      | true => exact absurd (Nat.eq_of_beq_eq_true hb) e1
      | false => rfl
theorem ab_acok_ad {ρ : Nat → Value} {n : Nat} {ad more : List Nat} {tS : Nat} {tys : List (ClassId × FieldType)} {c : ab_AC} {e : va_E} (k : ab_acok ρ n ad tS tys c e) : ab_acok ρ n (ad ++ more) tS tys c e := by
  match e, k with
  | .inr (ci, fs), ⟨h1, h2, svs, h3, h4⟩ => exact ⟨h1, h2, svs, h3, ab_stk_ad h4⟩
  | .inl (cA, N, .inl f), k => exact k
  | .inl (cA, N, .inr (.inl f)), k => exact k
  | .inl (cA, N, .inr (.inr (.inr (.inr f)))), ⟨h1, h2, ks, h3, h4, h5⟩ =>
    refine ⟨h1, h2, ks, h3, h4, fun i k hk => ?_⟩
    obtain ⟨a, ha, hf⟩ := h5 i k hk
    have hl : k < ad.length := (List.getElem?_eq_some_iff.mp ha).1
    exact ⟨a, by rw [List.getElem?_append_left hl]; exact ha, hf⟩
  | .inl (cA, N, .inr (.inr (.inl f))), k => exact k.elim
  | .inl (cA, N, .inr (.inr (.inr (.inl f)))), k => exact k.elim
/-- a summary that fits, as a call -/
theorem ab_apO_ok {l : Launch} {Z : ab_Ms} {d : Nat} {D : va_G} {cl : List vw_C} {cs : Nat → ClassId} {tS j n : Nat} {S : ab_Sm} {M : Nat → Bool} {e : ab_En} {h : ab_AH} {as : List ab_SV} {outs : List ab_Oc} (hS : ab_SOK l Z d D cl cs tS j S) (ho : ab_apO S M n e h as = some outs) {ρ : Nat → Value} {ws : va_W} {vs : List Value} (he : ab_env ρ n e) (hh : ab_heap ρ n tS (ab_tys cs) h ws) (hv : ab_all2 (ab_val ρ n (ws.map (·.1)) tS) as vs) :
    ∃ d', d' ≤ d ∧ ab_Ct l (Z.1 j) (ab_wM Z j) (ab_rm d' 0 0) 0 0 D cl cs tS vs ws (ab_Po M tS (ab_tys cs) ρ n ws outs) := by
  unfold ab_apO at ho
  cases hb : (ab_leVs e as S.1 && (ab_leH e h S.2.1 && ((ab_lth h && S.2.2.2.all M) && S.2.2.1.all (fun po => S.2.2.2.all (fun k => Nat.ble 1000 k || ab_hk k po.2.2))))) with
  | false => rw [hb] at ho; simp at ho
  | true =>
    rw [hb] at ho
    simp only [cond_true] at ho
    cases ho
    rw [Bool.and_eq_true, Bool.and_eq_true, Bool.and_eq_true, Bool.and_eq_true] at hb
    obtain ⟨b1, b2, ⟨b5, b3⟩, b4⟩ := hb
    obtain ⟨d', hd', Ct⟩ := hS ws vs (ab_leVs_ok he b1 hv) (ab_leH_ok he b2 hh)
    refine ⟨d', hd', ab_Ct_mono Ct (fun rv ws' hp => ?_)⟩
    obtain ⟨hg, po, hpo, ha, hr, ht⟩ := hp
    obtain ⟨e1, he1, he1'⟩ := ab_rfn_ok he hv ha
    obtain ⟨ρ1, x1, x2, x3⟩ := ab_inH_ok he1' ht
    have hgM : ab_gr M ws ws' := hg.weaken (fun k hk => List.all_eq_true.mp b3 k (ab_mem_iff.mp hk))
    obtain ⟨⟨more, hm, -⟩, hun, hfr⟩ := id hg
    have hheap : ∀ (ρ2 : Nat → Value) (n2 : Nat), ab_ext ρ1 ρ2 (ab_inH po.2.2 n e1).2.1 n2 → ab_heap ρ2 n2 tS (ab_tys cs) (ab_mg S.2.2.2 h (ab_inH po.2.2 n e1).1 ++ h) ws' := by
      intro ρ2 n2 hx k c hc
      rw [ab_hg_app, ab_mg_get] at hc
      cases hE : ab_hg (ab_inH po.2.2 n e1).1 k with
      | some c' =>
        rw [hE] at hc
        have e3 : ab_mgC S.2.2.2 h k c' = c := Option.some.inj hc
        obtain ⟨a, x, g1, g2⟩ := x3 k c' hE
        have g3 := ab_acok_ext hx g2
        refine ⟨a, x, g1, ?_⟩
        rw [← e3]
        unfold ab_mgC
        split
        · rename_i t N svs t' N' old hold
          obtain ⟨a0, x0, q1, q2⟩ := hh k _ hold
          obtain ⟨fs0, rfl, r2, r3⟩ := ab_acok_obj q2
          obtain ⟨e', v1, fs', v2, v3⟩ := hfr k a0 _ q1
          have v4 : a0 = a ∧ e' = x := by
            rw [v1] at g1
            cases g1
            exact ⟨rfl, rfl⟩
          obtain ⟨rfl, rfl⟩ := v4
          subst v2
          obtain ⟨fs1, w1, w2, w3⟩ := ab_acok_obj g3
          cases w1
          refine ⟨g3.1, w2, _, rfl, ab_zf_ok w3 (ys := fs0) ?_ (fun i hi => v3 i (by rw [Nat.zero_add] at hi; exact hi))⟩
          rw [hm]
          exact ab_stk_ad (ab_stk_ext (x1.trans hx) r3)
        · exact g3
      | none =>
        rw [hE] at hc
        have hnone := hE
        obtain ⟨a, x, g1, g2⟩ := hh k c hc
        have hlt : k < ws.length := (List.getElem?_eq_some_iff.mp g1).1
        have hk9 := ab_lth_ok b5 hc
        have hkM : ab_mem k S.2.2.2 = false := by
          cases hq : ab_mem k S.2.2.2 with
          | false => rfl
          | true =>
            have g3 := List.all_eq_true.mp (List.all_eq_true.mp b4 po hpo) k (ab_mem_iff.mp hq)
            rw [ab_inH_none hnone, Bool.or_false] at g3
            have := Nat.le_of_ble_eq_true g3
            omega
        refine ⟨a, x, by rw [hun k hlt hkM]; exact g1, ?_⟩
        rw [hm]
        exact ab_acok_ad (ab_acok_ext (x1.trans hx) g2)
    obtain ⟨iv, tr, th⟩ := po
    match tr, rv, hr with
    | none, none, _ =>
      refine ⟨((ab_inH th n e1).2.1, (ab_inH th n e1).2.2, ab_mg S.2.2.2 h (ab_inH th n e1).1 ++ h, none), List.mem_filterMap.mpr ⟨_, hpo, ?_⟩, ρ1, x1, x2, hheap _ _ ab_ext.refl, hgM, trivial⟩
      unfold ab_po1
      rw [he1]
    | some tv, some x, hr =>
      obtain ⟨ρ2, y1, y2, y3⟩ := ab_inV_ok x2 hr
      refine ⟨((ab_inV tv (ab_inH th n e1).2.1 (ab_inH th n e1).2.2).2.1, (ab_inV tv (ab_inH th n e1).2.1 (ab_inH th n e1).2.2).2.2, ab_mg S.2.2.2 h (ab_inH th n e1).1 ++ h, some (ab_inV tv (ab_inH th n e1).2.1 (ab_inH th n e1).2.2).1), List.mem_filterMap.mpr ⟨_, hpo, ?_⟩, ρ2, x1.trans y1, y2, hheap _ _ y1, hgM, y3⟩
      unfold ab_po1
      rw [he1]
    | none, some x, hr => exact hr.elim
    | some tv, none, hr => exact hr.elim
end
