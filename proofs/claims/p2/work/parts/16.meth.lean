theorem ab_Ct_mono {l : Launch} {y : MethodName} {wy : List Cond} {rm : Room} {mc ms : Nat} {D : va_G} {cl : List vw_C} {cs : Nat → ClassId} {tS : Nat} {vs : List Value} {ws : va_W} {P P' : Option Value → va_W → Prop} (h : ab_Ct l y wy rm mc ms D cl cs tS vs ws P) (hP : ∀ rv ws', P rv ws' → P' rv ws') : ab_Ct l y wy rm mc ms D cl cs tS vs ws P' := by
  intro sz p e ha hc hk s m args below hf happ hpre hK
  obtain ⟨n, o, h1, h2, h3, ⟨⟨⟨rv, ws', q1, q2, q3⟩, q4⟩, q5⟩⟩ := h sz p e ha hc hk s m args below hf happ hpre hK
  exact ⟨n, o, h1, h2, h3, ⟨⟨rv, ws', q1, hP _ _ q2, q3⟩, q4⟩, q5⟩
abbrev ab_Pt : Type := List (Option ab_Iv) × Option ab_TV × ab_TH
abbrev ab_Sm : Type := List ab_TV × ab_TH × List ab_Pt × List Nat
def ab_ag : List (Option ab_Iv) → List Value → Prop
  | some v :: r, x :: xs => (∃ y : Int32, x = .int y ∧ v.1 ≤ y.toInt ∧ y.toInt ≤ v.2) ∧ ab_ag r xs
  | none :: r, _ :: xs => ab_ag r xs
  | _, _ => True
def ab_rtv (ad : List Nat) (tS : Nat) (t : Option ab_TV) (rv : Option Value) : Prop := match t, rv with
  | none, none => True
  | some v, some x => ab_tv ad tS v x
  | _, _ => False
def ab_PS (tS : Nat) (tys : List (ClassId × FieldType)) (vs : List Value) (ws : va_W) (S : ab_Sm) (rv : Option Value) (ws' : va_W) : Prop := ab_gr (fun k => ab_mem k S.2.2.2) ws ws' ∧ ∃ po ∈ S.2.2.1, ab_ag po.1 vs ∧ ab_rtv (ws'.map (·.1)) tS po.2.1 rv ∧ ab_th tS tys po.2.2 ws'
def ab_SOK (l : Launch) (Z : ab_Ms) (d : Nat) (D : va_G) (cl : List vw_C) (cs : Nat → ClassId) (tS : Nat) (j : Nat) (S : ab_Sm) : Prop := ∀ (ws : va_W) (vs : List Value), ab_tl (ws.map (·.1)) tS S.1 vs → ab_th tS (ab_tys cs) S.2.1 ws → ∃ d', d' ≤ d ∧ ab_Ct l (Z.1 j) (ab_wM Z j) (ab_rm d' 0 0) 0 0 D cl cs tS vs ws (ab_PS tS (ab_tys cs) vs ws S)
def ab_rfn (e : ab_En) : List ab_SV → List (Option ab_Iv) → Option ab_En
  | v :: vs, some w :: r => (match ab_num e false v with
    | some x => bif ab_le (ab_max w.1 x.2.1) (ab_min w.2 x.2.2.1) then ab_rfn (ab_cutE x.1 x.2 (ab_max w.1 x.2.1, ab_min w.2 x.2.2.1) e) vs r else none
    | none => ab_rfn e vs r)
  | _ :: vs, none :: r => ab_rfn e vs r
  | _, _ => some e
theorem ab_rfn_ok {ρ : Nat → Value} {n : Nat} {ad : List Nat} {tS : Nat} : ∀ {as : List ab_SV} {iv : List (Option ab_Iv)} {xs : List Value} {e : ab_En}, ab_env ρ n e → ab_all2 (ab_val ρ n ad tS) as xs → ab_ag iv xs → ∃ e', ab_rfn e as iv = some e' ∧ ab_env ρ n e'
  | [], iv, xs, e, he, _, _ => ⟨e, by cases iv <;> rfl, he⟩
  | v :: vs, [], xs, e, he, _, _ => ⟨e, rfl, he⟩
  | v :: vs, none :: r, [], e, he, h, _ => h.elim
  | v :: vs, some w :: r, [], e, he, h, _ => h.elim
  | v :: vs, none :: r, x :: xs, e, he, h, k => ab_rfn_ok (as := vs) he h.2 k
  | v :: vs, some w :: r, x :: xs, e, he, h, k => by
    obtain ⟨⟨y, hy, y1, y2⟩, k2⟩ := k
    rw [ab_rfn]
    split
    · rename_i q hq
      obtain ⟨z, hz, hz2, hz3, hz4⟩ := ab_inQ_of he hq h.1
      have e1 : z = y := by rw [hy] at hz; cases hz; rfl
      subst e1
      have l1 := hz4.1
      have l2 := hz4.2.1
      rw [show ab_le (ab_max w.1 q.2.1) (ab_min w.2 q.2.2.1) = true by rw [ab_le_iff, ab_max_eq, ab_min_eq]; omega]
      exact ab_rfn_ok (as := vs) (ab_cutE_ok he hz3 hz2 hz4 (by rw [ab_max_eq]; simp only; omega) (by rw [ab_min_eq]; simp only; omega)) h.2 k2
    · exact ab_rfn_ok (as := vs) he h.2 k2
def ab_hk (k : Nat) : ab_TH → Bool
  | [] => false
  | q :: r => Nat.beq q.1 k || ab_hk k r
/-- the outcome of one post -/
def ab_po1 (n : Nat) (e : ab_En) (h : ab_AH) (as : List ab_SV) (po : ab_Pt) : Option ab_Oc := match ab_rfn e as po.1 with
  | none => none
  | some e1 => (match ab_inH po.2.2 n e1 with
    | (E, n1, e2) => (match po.2.1 with
      | none => some (n1, e2, E ++ h, none)
      | some tv => (match ab_inV tv n1 e2 with
        | (v, n2, e3) => some (n2, e3, E ++ h, some v))))
def ab_apO (S : ab_Sm) (M : Nat → Bool) (n : Nat) (e : ab_En) (h : ab_AH) (as : List ab_SV) : Option (List ab_Oc) :=
  bif ab_leVs e as S.1 && (ab_leH e h S.2.1 && (S.2.2.2.all M && S.2.2.1.all (fun po => S.2.2.2.all (fun k => ab_hk k po.2.2)))) then some (S.2.2.1.filterMap (ab_po1 n e h as)) else none
theorem ab_hg_app {E h : ab_AH} {k : Nat} : ab_hg (E ++ h) k = match ab_hg E k with
  | some c => some c
  | none => ab_hg h k := by
  induction E with
  | nil => rfl
  | cons q r ih =>
    rw [List.cons_append, ab_hg_cons, ab_hg_cons]
    by_cases e : q.1 = k
    · rw [if_pos e, if_pos e]
    · rw [if_neg e, if_neg e]; exact ih
theorem ab_inH_none : ∀ {t : ab_TH} {n : Nat} {e : ab_En} {k : Nat}, ab_hg (ab_inH t n e).1 k = none → ab_hk k t = false
  | [], n, e, k, _ => rfl
  | q :: r, n, e, k, h => by
    have h2 : ab_hg ((q.1, (ab_inC q.2 n e).1) :: (ab_inH r (ab_inC q.2 n e).2.1 (ab_inC q.2 n e).2.2).1) k = none := h
    rw [ab_hg_cons] at h2
    by_cases e1 : q.1 = k
    · rw [if_pos e1] at h2; cases h2
    · rw [if_neg e1] at h2
      rw [ab_hk, ab_inH_none h2]
      cases hb : Nat.beq q.1 k with
      | true => exact absurd (Nat.eq_of_beq_eq_true hb) e1
      | false => rfl
theorem ab_acok_ad {ρ : Nat → Value} {n : Nat} {ad more : List Nat} {tS : Nat} {tys : List (ClassId × FieldType)} {c : ab_AC} {e : va_E} (k : ab_acok ρ n ad tS tys c e) : ab_acok ρ n (ad ++ more) tS tys c e := by
  match e, k with
  | .inr (ci, fs), ⟨h1, h2, svs, h3, h4⟩ => exact ⟨h1, h2, svs, h3, ab_stk_ad h4⟩
  | .inl (cA, N, .inl f), k => exact k
  | .inl (cA, N, .inr (.inl f)), k => exact k
  | .inl (cA, N, .inr (.inr (.inr (.inr f)))), ⟨h1, h2, ks, h3, h4, h5⟩ =>
    refine ⟨h1, h2, ks, h3, h4, fun i k hk => ?_⟩
    obtain ⟨a, ha, hf⟩ := h5 i k hk
    have hl : k < ad.length := (List.getElem?_eq_some_iff.mp ha).1
    exact ⟨a, by rw [List.getElem?_append_left hl]; exact ha, hf⟩
  | .inl (cA, N, .inr (.inr (.inl f))), k => exact k.elim
  | .inl (cA, N, .inr (.inr (.inr (.inl f)))), k => exact k.elim
/-- a summary that fits, as a call -/
theorem ab_apO_ok {l : Launch} {Z : ab_Ms} {d : Nat} {D : va_G} {cl : List vw_C} {cs : Nat → ClassId} {tS j n : Nat} {S : ab_Sm} {M : Nat → Bool} {e : ab_En} {h : ab_AH} {as : List ab_SV} {outs : List ab_Oc} (hS : ab_SOK l Z d D cl cs tS j S) (ho : ab_apO S M n e h as = some outs) {ρ : Nat → Value} {ws : va_W} {vs : List Value} (he : ab_env ρ n e) (hh : ab_heap ρ n tS (ab_tys cs) h ws) (hv : ab_all2 (ab_val ρ n (ws.map (·.1)) tS) as vs) :
    ∃ d', d' ≤ d ∧ ab_Ct l (Z.1 j) (ab_wM Z j) (ab_rm d' 0 0) 0 0 D cl cs tS vs ws (ab_Po M tS (ab_tys cs) ρ n ws outs) := by
  unfold ab_apO at ho
  cases hb : (ab_leVs e as S.1 && (ab_leH e h S.2.1 && (S.2.2.2.all M && S.2.2.1.all (fun po => S.2.2.2.all (fun k => ab_hk k po.2.2))))) with
  | false => rw [hb] at ho; simp at ho
  | true =>
    rw [hb] at ho
    simp only [cond_true] at ho
    cases ho
    rw [Bool.and_eq_true, Bool.and_eq_true, Bool.and_eq_true] at hb
    obtain ⟨b1, b2, b3, b4⟩ := hb
    obtain ⟨d', hd', Ct⟩ := hS ws vs (ab_leVs_ok he b1 hv) (ab_leH_ok he b2 hh)
    refine ⟨d', hd', ab_Ct_mono Ct (fun rv ws' hp => ?_)⟩
    obtain ⟨hg, po, hpo, ha, hr, ht⟩ := hp
    obtain ⟨e1, he1, he1'⟩ := ab_rfn_ok he hv ha
    obtain ⟨ρ1, x1, x2, x3⟩ := ab_inH_ok he1' ht
    have hgM : ab_gr M ws ws' := hg.weaken (fun k hk => List.all_eq_true.mp b3 k (ab_mem_iff.mp hk))
    obtain ⟨⟨more, hm⟩, hun⟩ := id hg
    have hheap : ∀ (ρ2 : Nat → Value) (n2 : Nat), ab_ext ρ1 ρ2 (ab_inH po.2.2 n e1).2.1 n2 → ab_heap ρ2 n2 tS (ab_tys cs) ((ab_inH po.2.2 n e1).1 ++ h) ws' := by
      intro ρ2 n2 hx k c hc
      rw [ab_hg_app] at hc
      split at hc
      · rename_i c' hc'
        have e3 : c' = c := Option.some.inj hc
        rw [e3] at hc'
        obtain ⟨a, x, g1, g2⟩ := x3 k c hc'
        exact ⟨a, x, g1, ab_acok_ext hx g2⟩
      · rename_i hnone
        obtain ⟨a, x, g1, g2⟩ := hh k c hc
        have hkM : ab_mem k S.2.2.2 = false := by
          cases hq : ab_mem k S.2.2.2 with
          | false => rfl
          | true =>
            have g3 := List.all_eq_true.mp (List.all_eq_true.mp b4 po hpo) k (ab_mem_iff.mp hq)
            rw [ab_inH_none hnone] at g3
            cases g3
        have hlt : k < ws.length := (List.getElem?_eq_some_iff.mp g1).1
        refine ⟨a, x, by rw [hun k hlt hkM]; exact g1, ?_⟩
        rw [hm]
        exact ab_acok_ad (ab_acok_ext (x1.trans hx) g2)
    obtain ⟨iv, tr, th⟩ := po
    match tr, rv, hr with
    | none, none, _ =>
      refine ⟨((ab_inH th n e1).2.1, (ab_inH th n e1).2.2, (ab_inH th n e1).1 ++ h, none), List.mem_filterMap.mpr ⟨_, hpo, ?_⟩, ρ1, x1, x2, hheap _ _ ab_ext.refl, hgM, trivial⟩
      unfold ab_po1
      rw [he1]
    | some tv, some x, hr =>
      obtain ⟨ρ2, y1, y2, y3⟩ := ab_inV_ok x2 hr
      refine ⟨((ab_inV tv (ab_inH th n e1).2.1 (ab_inH th n e1).2.2).2.1, (ab_inV tv (ab_inH th n e1).2.1 (ab_inH th n e1).2.2).2.2, (ab_inH th n e1).1 ++ h, some (ab_inV tv (ab_inH th n e1).2.1 (ab_inH th n e1).2.2).1), List.mem_filterMap.mpr ⟨_, hpo, ?_⟩, ρ2, x1.trans y1, y2, hheap _ _ y1, hgM, y3⟩
      unfold ab_po1
      rw [he1]
    | none, some x, hr => exact hr.elim
    | some tv, none, hr => exact hr.elim
