noncomputable section
def tr_tv (t u : ab_TV) : Bool := match t, u with
  | _, none => true
  | some (.inl p), some (.inl q) => (bif p.1 then q.1 else !q.1) && (ab_le q.2.1 p.2.1 && ab_le p.2.2 q.2.2)
  | some (.inr (.inl ks)), some (.inr (.inl js)) => ks.all (fun k => ab_mem k js)
  | some (.inr (.inr _)), some (.inr (.inr _)) => true
  | _, _ => false
theorem tr_tv_ok {ad : List Nat} {tS : Nat} {t u : ab_TV} {x : Value} (h : tr_tv t u = true) (hx : ab_tv ad tS t x) : ab_tv ad tS u x := by
  match t, u, h, hx with
  | _, none, _, _ => trivial
  | some (.inl (true, lo, hi)), some (.inl (b, lo', hi')), h, ⟨y, hy, h1, h2⟩ =>
    simp only [tr_tv, cond_true, Bool.and_eq_true, ab_le_iff] at h
    obtain ⟨g1, g2, g3⟩ := h
    subst g1
    exact ⟨y, hy, Int.le_trans g2 h1, Int.le_trans h2 g3⟩
  | some (.inl (false, lo, hi)), some (.inl (b, lo', hi')), h, ⟨y, hy, h1, h2⟩ =>
    simp only [tr_tv, cond_false, Bool.and_eq_true, ab_le_iff, Bool.not_eq_true'] at h
    obtain ⟨g1, g2, g3⟩ := h
    subst g1
    exact ⟨y, hy, Int.le_trans g2 h1, Int.le_trans h2 g3⟩
  | some (.inr (.inl ks)), some (.inr (.inl js)), h, ⟨k, a, h1, h2, h3⟩ =>
    exact ⟨k, a, ab_mem_iff.mp (List.all_eq_true.mp h k h1), h2, h3⟩
  | some (.inr (.inr _)), some (.inr (.inr _)), _, hx => exact hx
  | none, some _, h, _ => simp [tr_tv] at h
  | some (.inl _), some (.inr _), h, _ => simp [tr_tv] at h
  | some (.inr _), some (.inl _), h, _ => simp [tr_tv] at h
  | some (.inr (.inl _)), some (.inr (.inr _)), h, _ => simp [tr_tv] at h
  | some (.inr (.inr _)), some (.inr (.inl _)), h, _ => simp [tr_tv] at h
/-- fields: the old ones where M leaves them, the new ones elsewhere -/
def tr_fs (M : Nat → Bool) (k : Nat) : Nat → List ab_TV → List ab_TV → List ab_TV → Bool
  | _, [], [], [] => true
  | f, o :: os, p :: ps, u :: us => (bif M (ab_fc k f) then tr_tv p u else tr_tv o u) && tr_fs M k (f + 1) os ps us
  | _, _, _, _ => false
theorem tr_fs_ok {ad : List Nat} {tS k : Nat} {M : Nat → Bool} : ∀ {os ps us : List ab_TV} {xs ys : List Value} {f : Nat}, ab_tl ad tS os xs → ab_tl ad tS ps ys → (∀ i, M (ab_fc k (f + i)) = false → ys[i]? = xs[i]?) → tr_fs M k f os ps us = true → ab_tl ad tS us ys
  | [], [], [], [], [], f, _, _, _, _ => trivial
  | o :: os, p :: ps, u :: us, x :: xs, y :: ys, f, ho, hp, hk, h => by
    rw [tr_fs, Bool.and_eq_true] at h
    refine ⟨?_, tr_fs_ok ho.2 hp.2 (fun i hi => ?_) h.2⟩
    · cases hM : M (ab_fc k f) with
      | true =>
        rw [hM] at h
        exact tr_tv_ok h.1 hp.1
      | false =>
        rw [hM] at h
        have h0 := hk 0 (by rw [Nat.add_zero]; exact hM)
        have e0 : y = x := by simpa using h0
        rw [e0]
        exact tr_tv_ok h.1 ho.1
    · have h1 := hk (i + 1) (by rw [show f + (i + 1) = f + 1 + i by omega]; exact hi)
      simpa using h1
  | [], _ :: _, _, _, _, _, _, _, _, h => by cases ‹List ab_TV› <;> simp [tr_fs] at h
  | _ :: _, [], _, _, _, _, _, _, _, h => by cases ‹List ab_TV› <;> simp [tr_fs] at h
  | [], [], _ :: _, _, _, _, _, _, _, h => by simp [tr_fs] at h
  | _ :: _, _ :: _, [], _, _, _, _, _, _, h => by simp [tr_fs] at h
  | [], [], [], _ :: _, _, _, ho, _, _, _ => ho.elim
  | [], [], [], [], _ :: _, _, _, hp, _, _ => hp.elim
  | _ :: _, _ :: _, _ :: _, [], _, _, ho, _, _, _ => ho.elim
  | _ :: _, _ :: _, _ :: _, _ :: _, [], _, _, hp, _, _ => hp.elim
def tr_tvs : List ab_TV → List ab_TV → Bool
  | [], [] => true
  | t :: ts, u :: us => tr_tv t u && tr_tvs ts us
  | _, _ => false
theorem tr_tvs_ok {ad : List Nat} {tS : Nat} : ∀ {ts us : List ab_TV} {xs : List Value}, tr_tvs ts us = true → ab_tl ad tS ts xs → ab_tl ad tS us xs
  | [], [], [], _, _ => trivial
  | t :: ts, u :: us, x :: xs, h, hx => by
    rw [tr_tvs, Bool.and_eq_true] at h
    exact ⟨tr_tv_ok h.1 hx.1, tr_tvs_ok h.2 hx.2⟩
  | [], _ :: _, _, h, _ => by simp [tr_tvs] at h
  | _ :: _, [], _, h, _ => by simp [tr_tvs] at h
  | [], [], _ :: _, _, hx => hx.elim
  | _ :: _, _ :: _, [], _, hx => hx.elim
theorem tr_tvs_len : ∀ {ts us : List ab_TV}, tr_tvs ts us = true → us.length = ts.length
  | [], [], _ => rfl
  | t :: ts, u :: us, h => by
    rw [tr_tvs, Bool.and_eq_true] at h
    simp [tr_tvs_len h.2]
  | [], _ :: _, h => by simp [tr_tvs] at h
  | _ :: _, [], h => by simp [tr_tvs] at h
def tr_ivs : List ab_Iv → List ab_Iv → Bool
  | [], [] => true
  | v :: vs, w :: ws => (ab_le w.1 v.1 && ab_le v.2 w.2) && tr_ivs vs ws
  | _, _ => false
theorem tr_ivs_ok : ∀ {vs ws : List ab_Iv}, tr_ivs vs ws = true → ws.length = vs.length ∧ ∀ (i : Nat) (w : ab_Iv), ws[i]? = some w → ∃ v, vs[i]? = some v ∧ w.1 ≤ v.1 ∧ v.2 ≤ w.2
  | [], [], _ => ⟨rfl, fun i w h => by simp at h⟩
  | v :: vs, w :: ws, h => by
    rw [tr_ivs, Bool.and_eq_true, Bool.and_eq_true, ab_le_iff, ab_le_iff] at h
    obtain ⟨h1, h2⟩ := tr_ivs_ok h.2
    refine ⟨by simp [h1], fun i u hu => ?_⟩
    match i, hu with
    | 0, hu =>
      have e : w = u := by simpa using hu
      subst e
      exact ⟨v, rfl, h.1⟩
    | i + 1, hu =>
      obtain ⟨x, hx, hy⟩ := h2 i u (by simpa using hu)
      exact ⟨x, by simpa using hx, hy⟩
  | [], _ :: _, h => by simp [tr_ivs] at h
  | _ :: _, [], h => by simp [tr_ivs] at h
def tr_ints : List Int → List Int → Bool
  | [], [] => true
  | a :: as, b :: bs => (ab_le a b && ab_le b a) && tr_ints as bs
  | _, _ => false
theorem tr_ints_ok : ∀ {a b : List Int}, tr_ints a b = true → a = b
  | [], [], _ => rfl
  | a :: as, b :: bs, h => by
    rw [tr_ints, Bool.and_eq_true, Bool.and_eq_true, ab_le_iff, ab_le_iff] at h
    have e1 : a = b := Int.le_antisymm h.1.1 h.1.2
    rw [e1, tr_ints_ok h.2]
  | [], _ :: _, h => by simp [tr_ints] at h
  | _ :: _, [], h => by simp [tr_ints] at h
def tr_U (U V : List ab_Iv) : Bool := U.all (fun v => V.any (fun w => ab_le w.1 v.1 && ab_le v.2 w.2))
theorem tr_U_ok {U V : List ab_Iv} {x : Int} (h : tr_U U V = true) (hx : ab_inU U x) : ab_inU V x := by
  obtain ⟨v, hv, h1, h2⟩ := hx
  obtain ⟨w, hw, h3⟩ := List.any_eq_true.mp (List.all_eq_true.mp h v hv)
  rw [Bool.and_eq_true, ab_le_iff, ab_le_iff] at h3
  exact ⟨w, hw, Int.le_trans h3.1 h1, Int.le_trans h2 h3.2⟩
def tr_k (c d : ab_TK) : Bool := match c, d with
  | .inl U, .inl V => tr_U U V
  | .inr (.inl vs), .inr (.inl us) => tr_ivs vs us
  | .inr (.inr (.inl a)), .inr (.inr (.inl b)) => tr_ints a b
  | .inr (.inr (.inr (.inl ks))), .inr (.inr (.inr (.inl js))) => lw_ids ks js
  | .inr (.inr (.inr (.inr ts))), .inr (.inr (.inr (.inr us))) => tr_tvs ts us
  | _, _ => false
def tr_ac (c d : ab_TC) : Bool := (Nat.beq c.1 d.1 && Nat.beq c.2.1 d.2.1) && tr_k c.2.2 d.2.2
theorem tr_ac_ok {ad : List Nat} {tS : Nat} {tys : List (ClassId × FieldType)} {c d : ab_TC} {e : va_E} (h : tr_ac c d = true) (he : ab_tc ad tS tys c e) : ab_tc ad tS tys d e := by
  obtain ⟨t, N, K⟩ := c
  obtain ⟨t', N', K'⟩ := d
  unfold tr_ac at h
  rw [Bool.and_eq_true, Bool.and_eq_true] at h
  obtain ⟨⟨h1, h2⟩, h3⟩ := h
  have e1 : t = t' := Nat.eq_of_beq_eq_true h1
  have e2 : N = N' := Nat.eq_of_beq_eq_true h2
  subst e1; subst e2
  have h3 : tr_k K K' = true := h3
  match e, he with
  | .inr (ci, fs), ⟨g1, g2, tvs, g3, g4⟩ =>
    have g3 : K = _ := g3
    subst g3
    match K', h3 with
    | .inr (.inr (.inr (.inr us))), h3 => exact ⟨g1, g2, us, rfl, tr_tvs_ok h3 g4⟩
    | .inl _, h3 => simp [tr_k] at h3
    | .inr (.inl _), h3 => simp [tr_k] at h3
    | .inr (.inr (.inl _)), h3 => simp [tr_k] at h3
    | .inr (.inr (.inr (.inl _))), h3 => simp [tr_k] at h3
  | .inl (cA, M, .inl f), ⟨g1, g2, g3, g4⟩ =>
    refine ⟨g1, g2, g3, ?_⟩
    rcases g4 with ⟨U, q, g5⟩ | ⟨vs, q, g5, g6⟩ | ⟨ks, q, g5, g6⟩
    · have q : K = _ := q
      subst q
      match K', h3 with
      | .inl V, h3 => exact Or.inl ⟨V, rfl, fun i hi => tr_U_ok h3 (g5 i hi)⟩
      | .inr _, h3 => simp [tr_k] at h3
    · have q : K = _ := q
      subst q
      match K', h3 with
      | .inr (.inl us), h3 =>
        obtain ⟨k1, k2⟩ := tr_ivs_ok h3
        refine Or.inr (Or.inl ⟨us, rfl, by rw [k1]; exact g5, fun i u hu => ?_⟩)
        obtain ⟨v, hv, h4, h5⟩ := k2 i u hu
        have h6 := g6 i v hv
        exact ⟨Int.le_trans h4 h6.1, Int.le_trans h6.2 h5⟩
      | .inl _, h3 => simp [tr_k] at h3
      | .inr (.inr _), h3 => simp [tr_k] at h3
    · have q : K = _ := q
      subst q
      match K', h3 with
      | .inr (.inr (.inl b)), h3 =>
        have e3 := tr_ints_ok h3
        subst e3
        exact Or.inr (Or.inr ⟨_, rfl, g5, g6⟩)
      | .inl _, h3 => simp [tr_k] at h3
      | .inr (.inl _), h3 => simp [tr_k] at h3
      | .inr (.inr (.inr _)), h3 => simp [tr_k] at h3
  | .inl (cA, M, .inr (.inl f)), ⟨g1, g2, g3, g4⟩ =>
    refine ⟨g1, g2, g3, ?_⟩
    rcases g4 with ⟨U, q, g5⟩ | ⟨vs, q, g5, g6⟩
    · have q : K = _ := q
      subst q
      match K', h3 with
      | .inl V, h3 => exact Or.inl ⟨V, rfl, fun i hi => tr_U_ok h3 (g5 i hi)⟩
      | .inr _, h3 => simp [tr_k] at h3
    · have q : K = _ := q
      subst q
      match K', h3 with
      | .inr (.inl us), h3 =>
        obtain ⟨k1, k2⟩ := tr_ivs_ok h3
        refine Or.inr ⟨us, rfl, by rw [k1]; exact g5, fun i u hu => ?_⟩
        obtain ⟨v, hv, h4, h5⟩ := k2 i u hu
        have h6 := g6 i v hv
        exact ⟨Int.le_trans h4 h6.1, Int.le_trans h6.2 h5⟩
      | .inl _, h3 => simp [tr_k] at h3
      | .inr (.inr _), h3 => simp [tr_k] at h3
  | .inl (cA, M, .inr (.inr (.inr (.inr f)))), ⟨g1, g2, ks, g3, g4, g5⟩ =>
    have g3 : K = _ := g3
    subst g3
    match K', h3 with
    | .inr (.inr (.inr (.inl js))), h3 =>
      have e3 := lw_ids_ok h3
      subst e3
      exact ⟨g1, g2, _, rfl, g4, g5⟩
    | .inl _, h3 => simp [tr_k] at h3
    | .inr (.inl _), h3 => simp [tr_k] at h3
    | .inr (.inr (.inl _)), h3 => simp [tr_k] at h3
    | .inr (.inr (.inr (.inr _))), h3 => simp [tr_k] at h3
  | .inl (cA, M, .inr (.inr (.inl f))), he => exact he.elim
  | .inl (cA, M, .inr (.inr (.inr (.inl f)))), he => exact he.elim
def tr_get (th : ab_TH) (k : Nat) : Option ab_TC := @List.rec (Nat × ab_TC) (fun _ => Option ab_TC) none (fun q _ ih => @Bool.rec (fun _ => Option ab_TC) ih (some q.2) (Nat.beq q.1 k)) th
theorem tr_get_mem {k : Nat} {c : ab_TC} : ∀ {th : ab_TH}, tr_get th k = some c → (k, c) ∈ th
  | [], h => by cases h
  | q :: r, h => by
    have h2 : @Bool.rec (fun _ => Option ab_TC) (tr_get r k) (some q.2) (Nat.beq q.1 k) = some c := h
    cases hb : Nat.beq q.1 k with
    | true =>
      rw [hb] at h2
      have e1 : q.1 = k := Nat.eq_of_beq_eq_true hb
      have e2 : q.2 = c := Option.some.inj h2
      rw [← e1, ← e2]
      exact List.mem_cons_self
    | false =>
      rw [hb] at h2
      exact List.mem_cons_of_mem _ (tr_get_mem h2)
/-- one list of cells gives another -/
def tr_2 (th tu : ab_TH) : Bool := tu.all (fun q => match tr_get th q.1 with
  | some o => tr_ac o q.2
  | none => false)
theorem tr_2_ok {tS : Nat} {tys : List (ClassId × FieldType)} {th tu : ab_TH} {ws : va_W} (h : tr_2 th tu = true) (hw : ab_th tS tys th ws) : ab_th tS tys tu ws := fun q hq => by
  have h2 := List.all_eq_true.mp h q hq
  split at h2
  · rename_i o ho
    obtain ⟨a, e, g1, g2⟩ := hw _ (tr_get_mem ho)
    exact ⟨a, e, g1, tr_ac_ok h2 g2⟩
  · cases h2
def tr_1 (M : Nat → Bool) (th po : ab_TH) (q : Nat × ab_TC) : Bool := match tr_get th q.1 with
  | none => false
  | some o => bif M q.1 then (match tr_get po q.1 with
    | none => false
    | some c => (match o.2.2, c.2.2, q.2.2.2 with
      | .inr (.inr (.inr (.inr os))), .inr (.inr (.inr (.inr ps))), .inr (.inr (.inr (.inr us))) => (Nat.beq c.1 q.2.1 && Nat.beq c.2.1 q.2.2.1) && tr_fs M q.1 0 os ps us
      | _, _, _ => tr_ac c q.2)) else tr_ac o q.2
theorem tr_1_ok {tS : Nat} {cs : Nat → ClassId} {M : Nat → Bool} {th po : ab_TH} {q : Nat × ab_TC} {ws ws' : va_W} (hw : ab_th tS (ab_tys cs) th ws) (hg : ab_gr M ws ws') (hp : ab_th tS (ab_tys cs) po ws') (h : tr_1 M th po q = true) : ∃ a e, ws'[q.1]? = some (a, e) ∧ ab_tc (ws'.map (·.1)) tS (ab_tys cs) q.2 e := by
  obtain ⟨k, t, N, K⟩ := q
  unfold tr_1 at h
  split at h
  · cases h
  · rename_i o ho
    obtain ⟨a, e, g1, g2⟩ := hw _ (tr_get_mem ho)
    have hlt : k < ws.length := (List.getElem?_eq_some_iff.mp g1).1
    cases hM : M k with
    | false =>
      have hM' : M (k, t, N, K).1 = false := hM
      rw [hM'] at h
      simp only [cond_false] at h
      exact ⟨a, e, (hg.2.1 k hlt hM).trans g1, by rw [hg.ad]; exact tr_ac_ok h g2⟩
    | true =>
      have hM' : M (k, t, N, K).1 = true := hM
      rw [hM'] at h
      simp only [cond_true] at h
      split at h
      · cases h
      · rename_i c hc
        obtain ⟨a', e', g3, g4⟩ := hp _ (tr_get_mem hc)
        split at h
        · rename_i os ps us h1 h2
          obtain ⟨ot, oN, oK⟩ := o
          obtain ⟨ct, cN, cK⟩ := c
          have h1 : oK = _ := h1
          have h2 : cK = _ := h2
          subst h1; subst h2
          rw [Bool.and_eq_true, Bool.and_eq_true] at h
          obtain ⟨⟨b1, b2⟩, b3⟩ := h
          have e1 : ct = t := Nat.eq_of_beq_eq_true b1
          have e2 : cN = N := Nat.eq_of_beq_eq_true b2
          subst e1; subst e2
          obtain ⟨fs, rfl, -, l1⟩ := sg_tcO g2
          obtain ⟨fs', rfl, l2, l3⟩ := sg_tcO g4
          obtain ⟨e2, k1, fs2, k2, k3⟩ := hg.2.2 k a _ g1
          have k4 := k1.symm.trans g3
          cases k4
          cases k2
          refine ⟨a, _, g3, rfl, l2, us, rfl, tr_fs_ok (f := 0) (M := M) (k := k) (by rw [hg.ad]; exact l1) l3 (fun i hi => k3 i (by rw [Nat.zero_add] at hi; exact hi)) b3⟩
        · exact ⟨a', e', g3, tr_ac_ok h g4⟩
/-- one interval for all turned into one for each -/
def tr_ue (c d : ab_TC) : Bool := match c, d with
  | (t, N, .inl U), (t2, N2, .inr (.inl vs)) => (Nat.beq t t2 && Nat.beq N N2) && (Nat.beq vs.length N && vs.all (fun v => U.all (fun u => ab_le v.1 u.1 && ab_le u.2 v.2)))
  | _, _ => false
theorem tr_ue_ok {ad : List Nat} {tS : Nat} {tys : List (ClassId × FieldType)} {c d : ab_TC} {e : va_E} (h : tr_ue c d = true) (he : ab_tc ad tS tys c e) : ab_tc ad tS tys d e := by
  unfold tr_ue at h
  split at h
  · rename_i t N U t2 N2 vs
    simp only [Bool.and_eq_true] at h
    obtain ⟨⟨h1, h2⟩, h3, h4⟩ := h
    have e1 : t = t2 := Nat.eq_of_beq_eq_true h1
    have e2 : N = N2 := Nat.eq_of_beq_eq_true h2
    subst e1; subst e2
    have e3 : vs.length = N := Nat.eq_of_beq_eq_true h3
    have key : ∀ (x : Int), ab_inU U x → ∀ (i : Nat) (v : ab_Iv), vs[i]? = some v → v.1 ≤ x ∧ x ≤ v.2 := fun x hx i v hv => by
      obtain ⟨u, hu, g1, g2⟩ := hx
      have h5 := List.all_eq_true.mp (List.all_eq_true.mp h4 v (List.mem_of_getElem? hv)) u hu
      rw [Bool.and_eq_true, ab_le_iff, ab_le_iff] at h5
      exact ⟨Int.le_trans h5.1 g1, Int.le_trans g2 h5.2⟩
    match e, he with
    | .inr (ci, fs), ⟨_, _, tvs, q, _⟩ => cases q
    | .inl (cA, M, .inl f), ⟨g1, g2, g3, g4⟩ =>
      have g1 : M = N := g1
      rcases g4 with ⟨V, q, g5⟩ | ⟨us, q, _⟩ | ⟨ks, q, _⟩
      · cases q
        exact ⟨g1, g2, g3, Or.inr (Or.inl ⟨vs, rfl, e3.trans g1.symm, fun i v hv => key _ (g5 i (by have := (List.getElem?_eq_some_iff.mp hv).1; omega)) i v hv⟩)⟩
      · cases q
      · cases q
    | .inl (cA, M, .inr (.inl f)), ⟨g1, g2, g3, g4⟩ =>
      have g1 : M = N := g1
      rcases g4 with ⟨V, q, g5⟩ | ⟨us, q, _⟩
      · cases q
        exact ⟨g1, g2, g3, Or.inr ⟨vs, rfl, e3.trans g1.symm, fun i v hv => key _ (g5 i (by have := (List.getElem?_eq_some_iff.mp hv).1; omega)) i v hv⟩⟩
      · cases q
    | .inl (cA, M, .inr (.inr (.inr (.inr f)))), ⟨_, _, ks, q, _⟩ => cases q
    | .inl (cA, M, .inr (.inr (.inl f))), he => exact he.elim
    | .inl (cA, M, .inr (.inr (.inr (.inl f)))), he => exact he.elim
  · cases h
def tr_3 (th tu : ab_TH) : Bool := tu.all (fun q => match tr_get th q.1 with
  | some c => tr_ac c q.2 || tr_ue c q.2
  | none => false)
theorem tr_3_ok {tS : Nat} {tys : List (ClassId × FieldType)} {th tu : ab_TH} {ws : va_W} (h : tr_3 th tu = true) (hw : ab_th tS tys th ws) : ab_th tS tys tu ws := fun q hq => by
  have h1 := List.all_eq_true.mp h q hq
  split at h1
  · rename_i c hc
    obtain ⟨a, e, g1, g2⟩ := hw _ (tr_get_mem hc)
    rw [Bool.or_eq_true] at h1
    rcases h1 with h1 | h1
    · exact ⟨a, e, g1, tr_ac_ok h1 g2⟩
    · exact ⟨a, e, g1, tr_ue_ok h1 g2⟩
  · cases h1
section LTR
variable {p : Program} {l : Launch} {e : Env} {s : State} {m : MethodId} {below : List Frame} {meth : Method} {c : Code} {D : va_G} {A : Nat → Prop} {Q : State → Prop}
variable {tS b L cells slots i0 d0 : Nat} {xs : Nat → Int32} {cs : Nat → ClassId} {M : Nat → Bool} {iv : Int32} {T : ab_Tb} {O : ab_Cf}
theorem lw_go3 (F : lw_F p s m meth c A D cs tS b L xs) (hcs : cells ≤ 601024 ∧ slots ≤ 7293033) (hMO : ab_MOK ZZ MtF wFF bFF vwCl T R_law) (hnj : ∀ ix k, T.2.2.2.2 ix ≠ some (.inl k)) (CO : ab_CO l ZZ d0 D vwCl cs tS M O) (hd0 : d0 ≤ 1000) (hiv : iv.toInt = (i0 : Int)) (hL : i0 + 6 ≤ L) (hL2 : L ≤ 3072) {tb : List (Nat × Instr × Nat)} (htb : ∀ pc i len, (pc, i, len) ∈ tb → decode code pc = .ok (i, len))
    {ws : va_W} {ls : Array Slot} {st : ab_St} {ρ : Nat → Value} {fuel pc : Nat} {ths : List ab_TH} (rel : Bool)
    (hF : rel = false → rl_fr M RP = true) (hX : XS.all (fun k => !M k) = true) (hc : lw_run tb (lw_stp tb (ab_step T MtF O 8 M false) (fun _ _ => none)) (lw_ter rel ths) fuel pc st = true) (hEQ : rx_EQ ws) (hi : lw_I iv i0 b xs M ws ρ st.1 ws) (S : ab_sat ρ tS (ab_tys cs) 8 st ls [] ws) (hlen : ws.length = 165)
    (K : ∀ (ls' : Array Slot) (ws' : va_W), lw_Lc b iv ws' ls' → ab_gr M ws ws' → (∃ th ∈ ths, ab_th tS (ab_tys cs) th ws') → rx_EQ ws' → ws'.length = 165 → ab_W p l e room_1 s m #[Value.ref b] below meth c D vwCl A Q cells slots 1810 ls' [] ws') : ab_W p l e room_1 s m #[Value.ref b] below meth c D vwCl A Q cells slots pc ls [] ws := by
  have hrun := lw_run_ok (P := fun pc st => ab_Ok p l e room_1 s m #[Value.ref b] below meth c D vwCl A Q (lw_I iv i0 b xs M ws) tS (ab_tys cs) 8 cells slots pc st) htb (lw_stp_ok F hcs hMO hnj CO hd0 hiv hL hL2 htb (fun _ _ _ _ h => by cases h)) (fun st ht => ?_) fuel pc st hc
  · exact hrun ρ ls [] ws hi S
  · intro ρ ls stk w hi S
    obtain ⟨n, en, hp, Lc, sk⟩ := st
    unfold lw_ter at ht
    split at ht
    · rename_i hsk
      have hsk2 : sk = [] := hsk
      subst hsk2
      simp only [Bool.and_eq_true] at ht
      obtain ⟨⟨⟨t1, t2⟩, ⟨t3, t4⟩, t5⟩, t6, t7⟩ := ht
      obtain ⟨⟨i1, i2, i3, i4⟩, i5⟩ := hi
      obtain ⟨th, hth, t8⟩ := List.any_eq_true.mp t7
      have hstk : stk = [] := by
        match stk, S with
        | [], _ => rfl
        | _ :: _, S => exact S.2.2.2.elim
      subst hstk
      have hloc := S.2.2.1.2.2.2
      obtain ⟨v0, w0, x0⟩ := hloc 0 _ (lw_sv_ok t1)
      obtain ⟨v1, w1, x1⟩ := hloc 1 _ (lw_rf_ok t2)
      obtain ⟨v2, w2, x2⟩ := hloc 2 _ (lw_rf_ok t3)
      obtain ⟨v3, w3, x3⟩ := hloc 3 _ (lw_rf_ok t4)
      obtain ⟨v4, w4, x4⟩ := hloc 4 _ (lw_sv_ok t5)
      have x0 : v0 = ρ 7 := x0.2
      have x4 : v4 = ρ 0 := x4.2
      rw [x0, i3] at w0
      rw [x4, i1] at w4
      obtain ⟨a1, y1, rfl⟩ := lw_one x1
      obtain ⟨a2, y2, rfl⟩ := lw_one x2
      obtain ⟨a3, y3, rfl⟩ := lw_one x3
      refine K ls w ⟨S.2.2.1.1, S.2.2.1.2.1, w0, ⟨a1, y1, w1⟩, ⟨a2, y2, w2⟩, ⟨a3, y3, w3⟩, w4⟩ i5 ⟨th, hth, ab_leH_ok S.1 t8 S.2.1⟩ ?_ (by rw [i5.leq]; exact hlen)
      cases hm : rel with
      | true =>
        rw [hm] at t6
        exact ⟨rl_ck_ok S.1 S.2.1 (by simpa using t6), XQ_fr hX i5 hEQ.2⟩
      | false => exact ⟨rl_fr_ok (hF hm) i5 hEQ.1, XQ_fr hX i5 hEQ.2⟩
    · cases ht
end LTR
/-- a turn, from a place within it to its end -/
def lw_TQ (pc0 : Nat) (th : ab_TH) : Prop := ∀ (p : Program) (l : Launch) (e : Env) (s : State) (m : MethodId) (below : List Frame) (meth : Method) (c : Code) (D : va_G) (A : Nat → Prop) (Q : State → Prop) (cs : Nat → ClassId) (tS b L i0 cells slots : Nat) (xs : Nat → Int32) (iv : Int32) (ws : va_W) (ls : Array Slot), lw_F p s m meth c A D cs tS b L xs → (cells ≤ 601024 ∧ slots ≤ 7293033) → iv.toInt = (i0 : Int) → i0 + 6 ≤ L → L ≤ 3072 → lw_Lc b iv ws ls → ab_th tS (ab_tys cs) th ws → rx_EQ ws → ws.length = 165 →
  (∀ (ls' : Array Slot) (ws' : va_W), lw_Lc b iv ws' ls' → (∃ th ∈ lw_THs, ab_th tS (ab_tys cs) th ws') → rx_EQ ws' → ws'.length = 165 → ab_W p l e room_1 s m #[Value.ref b] below meth c D vwCl A Q cells slots 1810 ls' [] ws') → ab_W p l e room_1 s m #[Value.ref b] below meth c D vwCl A Q cells slots pc0 ls [] ws
theorem tr_p_ok {tS : Nat} {cs : Nat → ClassId} {md : List Nat} {th po : ab_TH} {ws ws' : va_W} (hw : ab_th tS (ab_tys cs) th ws) (hg : ab_gr (fun k => ab_mem k md) ws ws') (hp : ab_th tS (ab_tys cs) po ws') {th' : ab_TH} (h : th'.all (tr_1 (fun k => ab_mem k md) th po) = true) : ab_th tS (ab_tys cs) th' ws' := fun q hq => tr_1_ok hw hg hp (List.all_eq_true.mp h q hq)
def lw_st (rel : Bool) (tu : ab_TH) : ab_St := bif rel then lw_sr tu else lw_sg tu
/-- a turn by its own cells alone -/
theorem lw_tr {pc0 DS dp fuel : Nat} {th tu : ab_TH} {md : List Nat} {pos : List ab_TH} {q : List (Nat × ab_Sm)} {il : List Nat} {tb : List (Nat × Instr × Nat)} {sp : List (Nat × Int × List (Nat × Int × Int))} (rel : Bool) (hq : ∀ {l : Launch} {D : va_G} {cs : Nat → ClassId} {tS : Nat}, ∀ w ∈ q, ab_SOK l ZZ DS D vwCl cs tS w.1 w.2) (hil : ∀ k ∈ il, ab_GOK ZZ MtF wFF bFF vwCl BdF k) (h1 : 1 ≤ DS) (h2 : DS + dp ≤ 1000) (htb : ∀ pc i len, (pc, i, len) ∈ tb → decode code pc = .ok (i, len))
    (hc : ∀ st ∈ rl_spl sp (lw_st rel tu), lw_run tb (lw_stp tb (ab_step TbL MtF (ab_OO (ab_SLl q) (fun k => ab_mem k il) BdF ZZ MtF (fun k => ab_mem k md) 2000 dp) 8 (fun k => ab_mem k md) false) (fun _ _ => none)) (lw_ter rel pos) fuel pc0 st = true) (hM : rel = false → rl_fr (fun k => ab_mem k md) RP = true) (hX : XS.all (fun k => !ab_mem k md) = true) (hs : tr_3 th tu = true) (hp : ∀ po ∈ pos, ∃ th' ∈ lw_THs, th'.all (tr_1 (fun k => ab_mem k md) th po) = true) : lw_TQ pc0 th := by
  intro p l e s m below meth c D A Q cs tS b L i0 cells slots xs iv ws ls F hcs hiv hL hL2 hl hth hEQ hlen K
  have hS : ∃ ρ, lw_I iv i0 b xs (fun k => ab_mem k md) ws ρ (lw_st rel tu).1 ws ∧ ab_sat ρ tS (ab_tys cs) 8 (lw_st rel tu) ls [] ws := by
    cases rel with
    | true => exact lw_sr_ok hiv (by omega) hl (tr_3_ok hs hth) hEQ.1
    | false => exact lw_sg_ok hiv (by omega) hl (tr_3_ok hs hth)
  obtain ⟨ρ, hi, S⟩ := hS
  obtain ⟨st', m1, m2, m3⟩ := rl_spl_ok (sp := sp) S
  refine lw_go3 F hcs MOKL lw_nj (ab_OO_ok ab_Gl_ok (fun k hk => hil k (ab_mem_iff.mp hk)) (ab_SLl_ok (P := fun k S => ab_SOK l ZZ DS D vwCl cs tS k S) hq) h1 dp) h2 hiv hL hL2 htb rel hM hX (hc st' m1) hEQ (by rw [m2]; exact hi) m3 hlen (fun ls' ws' a1 a2 a3 a4 a5 => ?_)
  obtain ⟨po, hpo, hpw⟩ := a3
  obtain ⟨th', hm, hch⟩ := hp po hpo
  exact K ls' ws' a1 ⟨th', hm, tr_p_ok hth a2 hpw hch⟩ a4 a5
/-- a turn that asks nothing of what parts the lists -/
theorem lw_trI {pc0 DS dp fuel : Nat} {tu : ab_TH} {md : List Nat} {pos : List ab_TH} {q : List (Nat × ab_Sm)} {il : List Nat} {tb : List (Nat × Instr × Nat)} {sp : List (Nat × Int × List (Nat × Int × Int))} (rel : Bool) (hq : ∀ {l : Launch} {D : va_G} {cs : Nat → ClassId} {tS : Nat}, ∀ w ∈ q, ab_SOK l ZZ DS D vwCl cs tS w.1 w.2) (hil : ∀ k ∈ il, ab_GOK ZZ MtF wFF bFF vwCl BdF k) (h1 : 1 ≤ DS) (h2 : DS + dp ≤ 1000) (htb : ∀ pc i len, (pc, i, len) ∈ tb → decode code pc = .ok (i, len))
    (hc : ∀ st ∈ rl_spl sp (lw_st rel tu), lw_run tb (lw_stp tb (ab_step TbL MtF (ab_OO (ab_SLl q) (fun k => ab_mem k il) BdF ZZ MtF (fun k => ab_mem k md) 2000 dp) 8 (fun k => ab_mem k md) false) (fun _ _ => none)) (lw_ter rel pos) fuel pc0 st = true) (hM : rel = false → rl_fr (fun k => ab_mem k md) RP = true) (hX : XS.all (fun k => !ab_mem k md) = true) (hs : lw_THs.all (fun th => tr_3 th tu) = true) (hp : lw_THs.all (fun th => pos.all (fun po => th.all (tr_1 (fun k => ab_mem k md) th po))) = true) : ∀ th ∈ lw_THs, lw_TQ pc0 th := fun th hm =>
  lw_tr rel hq hil h1 h2 htb hc hM hX (List.all_eq_true.mp hs th hm) (fun po hpo => ⟨th, hm, List.all_eq_true.mp (List.all_eq_true.mp hp th hm) po hpo⟩)
end
