noncomputable section
abbrev ab_TV : Type := Option ((Bool × Int × Int) ⊕ (List Nat ⊕ Unit))
abbrev ab_TK : Type := List ab_Iv ⊕ (List ab_Iv ⊕ (List Int ⊕ (List Nat ⊕ List ab_TV)))
abbrev ab_TC : Type := Nat × Nat × ab_TK
abbrev ab_TH : Type := List (Nat × ab_TC)
def ab_tv (ad : List Nat) (tS : Nat) (v : ab_TV) (x : Value) : Prop := match v with
  | none => True
  | some (.inl (true, lo, hi)) => ∃ y : Int64, x = .long y ∧ lo ≤ y.toInt ∧ y.toInt ≤ hi
  | some (.inl (false, lo, hi)) => ∃ y : Int32, x = .int y ∧ lo ≤ y.toInt ∧ y.toInt ≤ hi
  | some (.inr (.inl ks)) => ∃ k a : Nat, k ∈ ks ∧ ad[k]? = some a ∧ x = .ref a
  | some (.inr (.inr _)) => x = .ref tS
def ab_tl (ad : List Nat) (tS : Nat) : List ab_TV → List Value → Prop
  | [], [] => True
  | a :: as, b :: bs => ab_tv ad tS a b ∧ ab_tl ad tS as bs
  | _, _ => False
def ab_tc (ad : List Nat) (tS : Nat) (tys : List (ClassId × FieldType)) (c : ab_TC) (e : va_E) : Prop := match e with
  | .inr (ci, fs) => ci = c.1 ∧ fs.length = c.2.1 ∧ ∃ tvs, c.2.2 = .inr (.inr (.inr (.inr tvs))) ∧ ab_tl ad tS tvs fs
  | .inl (cA, N, .inl f) => N = c.2.1 ∧ (∃ ty, tys[c.1]? = some (cA, ty) ∧ (ty = .int ∨ ty = .boolean)) ∧ Nat.beq c.1 1 = false ∧ ((∃ U, c.2.2 = .inl U ∧ ∀ i, i < N → ab_inU U (f i).toInt) ∨ (∃ vs : List ab_Iv, c.2.2 = .inr (.inl vs) ∧ vs.length = N ∧ ∀ i (v : ab_Iv), vs[i]? = some v → v.1 ≤ (f i).toInt ∧ (f i).toInt ≤ v.2) ∨ ∃ cs, c.2.2 = .inr (.inr (.inl cs)) ∧ cs.length = N ∧ ∀ i k, cs[i]? = some k → (f i).toInt = k)
  | .inl (cA, N, .inr (.inl f)) => N = c.2.1 ∧ tys[c.1]? = some (cA, .long) ∧ Nat.beq c.1 1 = true ∧ ((∃ U, c.2.2 = .inl U ∧ ∀ i, i < N → ab_inU U (f i).toInt) ∨ (∃ vs : List ab_Iv, c.2.2 = .inr (.inl vs) ∧ vs.length = N ∧ ∀ i (v : ab_Iv), vs[i]? = some v → v.1 ≤ (f i).toInt ∧ (f i).toInt ≤ v.2))
  | .inl (cA, N, .inr (.inr (.inr (.inr f)))) => N = c.2.1 ∧ (∃ t, tys[c.1]? = some (cA, .array t)) ∧ ∃ ks, c.2.2 = .inr (.inr (.inr (.inl ks))) ∧ ks.length = N ∧ ∀ i k, ks[i]? = some k → ∃ a, ad[k]? = some a ∧ f i = some a
  | _ => False
def ab_th (tS : Nat) (tys : List (ClassId × FieldType)) (h : ab_TH) (ws : va_W) : Prop := ∀ q ∈ h, ∃ a e, ws[q.1]? = some (a, e) ∧ ab_tc (ws.map (·.1)) tS tys q.2 e
/-- numbers for what is known by its interval alone -/
def ab_inV (v : ab_TV) (n : Nat) (e : ab_En) : ab_SV × Nat × ab_En := match v with
  | none => (none, n, e)
  | some (.inl q) => (some (.inl n), n + 1, (n, q.1, q.2.1, q.2.2, n, .ofNat 0) :: e)
  | some (.inr x) => (some (.inr x), n, e)
def ab_inVs : List ab_TV → Nat → ab_En → List ab_SV × Nat × ab_En
  | [], n, e => ([], n, e)
  | v :: r, n, e => match ab_inV v n e with
    | (a, n1, e1) => match ab_inVs r n1 e1 with
      | (as, n2, e2) => (a :: as, n2, e2)
def ab_inIs (lg : Bool) : List ab_Iv → Nat → ab_En → List Nat × Nat × ab_En
  | [], n, e => ([], n, e)
  | v :: r, n, e => match ab_inIs lg r (n + 1) ((n, lg, v.1, v.2, n, .ofNat 0) :: e) with
    | (as, n2, e2) => (n :: as, n2, e2)
def ab_inC (c : ab_TC) (n : Nat) (e : ab_En) : ab_AC × Nat × ab_En := match c with
  | (t, N, .inl U) => ((t, N, .inl U), n, e)
  | (t, N, .inr (.inl vs)) => (match ab_inIs (Nat.beq t 1) vs n e with
    | (ids, n1, e1) => ((t, N, .inr (.inl ids)), n1, e1))
  | (t, N, .inr (.inr (.inl cs))) => ((t, N, .inr (.inr (.inl cs))), n, e)
  | (t, N, .inr (.inr (.inr (.inl ks)))) => ((t, N, .inr (.inr (.inr (.inl ks)))), n, e)
  | (t, N, .inr (.inr (.inr (.inr tvs)))) => (match ab_inVs tvs n e with
    | (svs, n1, e1) => ((t, N, .inr (.inr (.inr (.inr svs)))), n1, e1))
def ab_inH : ab_TH → Nat → ab_En → ab_AH × Nat × ab_En
  | [], n, e => ([], n, e)
  | q :: r, n, e => match ab_inC q.2 n e with
    | (c, n1, e1) => match ab_inH r n1 e1 with
      | (h, n2, e2) => ((q.1, c) :: h, n2, e2)
/-- a new number with a value in its interval -/
theorem ab_inV_ok {ρ : Nat → Value} {n : Nat} {e : ab_En} {ad : List Nat} {tS : Nat} {v : ab_TV} {x : Value} (he : ab_env ρ n e) (h : ab_tv ad tS v x) : ∃ ρ', ab_ext ρ ρ' n (ab_inV v n e).2.1 ∧ ab_env ρ' (ab_inV v n e).2.1 (ab_inV v n e).2.2 ∧ ab_val ρ' (ab_inV v n e).2.1 ad tS (ab_inV v n e).1 x := by
  match v, h with
  | none, _ => exact ⟨ρ, ab_ext.refl, he, trivial⟩
  | some (.inl (true, lo, hi)), ⟨y, hy, h1, h2⟩ =>
    refine ⟨ab_up ρ n x, ab_ext.up x, ?_, ⟨Nat.lt_succ_self _, ab_up_self.symm⟩⟩
    intro q hq
    rcases List.mem_cons.mp hq with rfl | hq
    · exact ⟨Nat.lt_succ_self _, Nat.lt_succ_self _, Or.inl ⟨rfl, y, by rw [ab_up_self]; exact hy, h1, h2⟩⟩
    · exact ab_evok_ext (ab_ext.up x) (he q hq)
  | some (.inl (false, lo, hi)), ⟨y, hy, h1, h2⟩ =>
    refine ⟨ab_up ρ n x, ab_ext.up x, ?_, ⟨Nat.lt_succ_self _, ab_up_self.symm⟩⟩
    intro q hq
    rcases List.mem_cons.mp hq with rfl | hq
    · exact ⟨Nat.lt_succ_self _, Nat.lt_succ_self _, Or.inr ⟨rfl, y, by rw [ab_up_self]; exact hy, h1, h2, y, by show ab_up ρ n x n = _; rw [ab_up_self]; exact hy, by simp⟩⟩
    · exact ab_evok_ext (ab_ext.up x) (he q hq)
  | some (.inr (.inl ks)), h => exact ⟨ρ, ab_ext.refl, he, h⟩
  | some (.inr (.inr _)), h => exact ⟨ρ, ab_ext.refl, he, h⟩
theorem ab_inVs_ok {ad : List Nat} {tS : Nat} : ∀ {vs : List ab_TV} {xs : List Value} {ρ : Nat → Value} {n : Nat} {e : ab_En}, ab_env ρ n e → ab_tl ad tS vs xs → ∃ ρ', ab_ext ρ ρ' n (ab_inVs vs n e).2.1 ∧ ab_env ρ' (ab_inVs vs n e).2.1 (ab_inVs vs n e).2.2 ∧ ab_all2 (ab_val ρ' (ab_inVs vs n e).2.1 ad tS) (ab_inVs vs n e).1 xs
  | [], [], ρ, n, e, he, _ => ⟨ρ, ab_ext.refl, he, trivial⟩
  | v :: r, x :: xs, ρ, n, e, he, h => by
    obtain ⟨ρ1, h1, h2, h3⟩ := ab_inV_ok he h.1
    obtain ⟨ρ2, g1, g2, g3⟩ := ab_inVs_ok h2 h.2
    exact ⟨ρ2, h1.trans g1, g2, ab_val_ext g1 h3, g3⟩
  | [], _ :: _, _, _, _, _, h => h.elim
  | _ :: _, [], _, _, _, _, h => h.elim
theorem ab_inIs_int {f : Nat → Int32} : ∀ {vs : List ab_Iv} {ρ : Nat → Value} {n : Nat} {e : ab_En} (b : Nat), ab_env ρ n e → (∀ i (v : ab_Iv), vs[i]? = some v → v.1 ≤ (f (b + i)).toInt ∧ (f (b + i)).toInt ≤ v.2) → ∃ ρ', ab_ext ρ ρ' n (ab_inIs false vs n e).2.1 ∧ ab_env ρ' (ab_inIs false vs n e).2.1 (ab_inIs false vs n e).2.2 ∧ (ab_inIs false vs n e).1.length = vs.length ∧ ∀ i k, (ab_inIs false vs n e).1[i]? = some k → k < (ab_inIs false vs n e).2.1 ∧ ρ' k = .int (f (b + i))
  | [], ρ, n, e, b, he, _ => ⟨ρ, ab_ext.refl, he, rfl, fun i k hk => by simp [ab_inIs] at hk⟩
  | v :: r, ρ, n, e, b, he, h => by
    have h0 := h 0 v rfl
    simp only [Nat.add_zero] at h0
    obtain ⟨ρ1, h1, h2, h3⟩ := ab_inV_ok (ad := []) (tS := 0) (v := some (.inl (false, v.1, v.2))) (x := .int (f b)) he ⟨f b, rfl, h0.1, h0.2⟩
    obtain ⟨ρ2, g1, g2, g3, g4⟩ := ab_inIs_int (f := f) (b + 1) h2 (fun i w hw => by
      have h5 := h (i + 1) w (by simpa using hw)
      rw [show b + (i + 1) = b + 1 + i by omega] at h5
      exact h5)
    refine ⟨ρ2, h1.trans g1, g2, by show (ab_inIs false r _ _).1.length + 1 = r.length + 1; rw [← g3]; rfl, fun i k hk => ?_⟩
    match i, hk with
    | 0, hk =>
      have e1 : k = n := by
        have : some n = some k := hk
        simpa using this.symm
      subst e1
      exact ⟨Nat.lt_of_lt_of_le h3.1 g1.1, by rw [g1.2 k h3.1]; exact h3.2.symm⟩
    | i + 1, hk =>
      have h6 := g4 i k (show (ab_inIs false r (n + 1) ((n, false, v.1, v.2, n, .ofNat 0) :: e)).1[i]? = some k from hk)
      rw [show b + (i + 1) = b + 1 + i by omega]
      exact h6
theorem ab_inIs_long {f : Nat → Int64} : ∀ {vs : List ab_Iv} {ρ : Nat → Value} {n : Nat} {e : ab_En} (b : Nat), ab_env ρ n e → (∀ i (v : ab_Iv), vs[i]? = some v → v.1 ≤ (f (b + i)).toInt ∧ (f (b + i)).toInt ≤ v.2) → ∃ ρ', ab_ext ρ ρ' n (ab_inIs true vs n e).2.1 ∧ ab_env ρ' (ab_inIs true vs n e).2.1 (ab_inIs true vs n e).2.2 ∧ (ab_inIs true vs n e).1.length = vs.length ∧ ∀ i k, (ab_inIs true vs n e).1[i]? = some k → k < (ab_inIs true vs n e).2.1 ∧ ρ' k = .long (f (b + i))
  | [], ρ, n, e, b, he, _ => ⟨ρ, ab_ext.refl, he, rfl, fun i k hk => by simp [ab_inIs] at hk⟩
  | v :: r, ρ, n, e, b, he, h => by
    have h0 := h 0 v rfl
    simp only [Nat.add_zero] at h0
    obtain ⟨ρ1, h1, h2, h3⟩ := ab_inV_ok (ad := []) (tS := 0) (v := some (.inl (true, v.1, v.2))) (x := .long (f b)) he ⟨f b, rfl, h0.1, h0.2⟩
    obtain ⟨ρ2, g1, g2, g3, g4⟩ := ab_inIs_long (f := f) (b + 1) h2 (fun i w hw => by
      have h5 := h (i + 1) w (by simpa using hw)
      rw [show b + (i + 1) = b + 1 + i by omega] at h5
      exact h5)
    refine ⟨ρ2, h1.trans g1, g2, by show (ab_inIs true r _ _).1.length + 1 = r.length + 1; rw [← g3]; rfl, fun i k hk => ?_⟩
    match i, hk with
    | 0, hk =>
      have e1 : k = n := by
        have : some n = some k := hk
        simpa using this.symm
      subst e1
      exact ⟨Nat.lt_of_lt_of_le h3.1 g1.1, by rw [g1.2 k h3.1]; exact h3.2.symm⟩
    | i + 1, hk =>
      have h6 := g4 i k (show (ab_inIs true r (n + 1) ((n, true, v.1, v.2, n, .ofNat 0) :: e)).1[i]? = some k from hk)
      rw [show b + (i + 1) = b + 1 + i by omega]
      exact h6
theorem ab_inC_ok {ρ : Nat → Value} {n : Nat} {e : ab_En} {ad : List Nat} {tS : Nat} {tys : List (ClassId × FieldType)} {c : ab_TC} {x : va_E} (he : ab_env ρ n e) (h : ab_tc ad tS tys c x) : ∃ ρ', ab_ext ρ ρ' n (ab_inC c n e).2.1 ∧ ab_env ρ' (ab_inC c n e).2.1 (ab_inC c n e).2.2 ∧ ab_acok ρ' (ab_inC c n e).2.1 ad tS tys (ab_inC c n e).1 x := by
  obtain ⟨t, N, K⟩ := c
  match x, h with
  | .inr (ci, fs), ⟨h1, h2, tvs, h3, h4⟩ =>
    simp only at h1 h2 h3
    subst h3
    obtain ⟨ρ', g1, g2, g3⟩ := ab_inVs_ok he h4
    exact ⟨ρ', g1, g2, h1, h2, _, rfl, g3⟩
  | .inl (cA, N', .inl f), ⟨h1, h2, hb, h3⟩ =>
    simp only at h1 h2 h3 hb
    rcases h3 with ⟨U, q, h4⟩ | ⟨vs, q, h4, h5⟩ | ⟨cs, q, h4, h5⟩
    · subst q
      exact ⟨ρ, ab_ext.refl, he, h1, h2, Or.inl ⟨U, rfl, h4⟩⟩
    · subst q
      obtain ⟨ρ', g1, g2, g3, g4⟩ := ab_inIs_int (f := f) 0 he (fun i v hv => by rw [Nat.zero_add]; exact h5 i v hv)
      have e1 : ab_inC (t, N, .inr (.inl vs)) n e = ((t, N, .inr (.inl (ab_inIs false vs n e).1)), (ab_inIs false vs n e).2.1, (ab_inIs false vs n e).2.2) := by
        simp only [ab_inC]
        rw [hb]
      rw [e1]
      exact ⟨ρ', g1, g2, h1, h2, Or.inr (Or.inl ⟨_, rfl, by rw [g3]; exact h4, fun i k hk => by have := g4 i k hk; rw [Nat.zero_add] at this; exact this⟩)⟩
    · subst q
      exact ⟨ρ, ab_ext.refl, he, h1, h2, Or.inr (Or.inr ⟨cs, rfl, h4, h5⟩)⟩
  | .inl (cA, N', .inr (.inl f)), ⟨h1, h2, hb, h3⟩ =>
    simp only at h1 h2 h3 hb
    rcases h3 with ⟨U, q, h4⟩ | ⟨vs, q, h4, h5⟩
    · subst q
      exact ⟨ρ, ab_ext.refl, he, h1, h2, Or.inl ⟨U, rfl, h4⟩⟩
    · subst q
      obtain ⟨ρ', g1, g2, g3, g4⟩ := ab_inIs_long (f := f) 0 he (fun i v hv => by rw [Nat.zero_add]; exact h5 i v hv)
      have e1 : ab_inC (t, N, .inr (.inl vs)) n e = ((t, N, .inr (.inl (ab_inIs true vs n e).1)), (ab_inIs true vs n e).2.1, (ab_inIs true vs n e).2.2) := by
        simp only [ab_inC]
        rw [hb]
      rw [e1]
      exact ⟨ρ', g1, g2, h1, h2, Or.inr ⟨_, rfl, by rw [g3]; exact h4, fun i k hk => by have := g4 i k hk; rw [Nat.zero_add] at this; exact this⟩⟩
  | .inl (cA, N', .inr (.inr (.inr (.inr f)))), ⟨h1, h2, ks, h3, h4⟩ =>
    simp only at h3
    subst h3
    exact ⟨ρ, ab_ext.refl, he, h1, h2, ks, rfl, h4⟩
  | .inl (cA, N', .inr (.inr (.inl f))), k => exact k.elim
  | .inl (cA, N', .inr (.inr (.inr (.inl f)))), k => exact k.elim
/-- the heap, beside an older one -/
theorem ab_inH_ok {tS : Nat} {tys : List (ClassId × FieldType)} {ws : va_W} : ∀ {h : ab_TH} {ρ : Nat → Value} {n : Nat} {e : ab_En}, ab_env ρ n e → ab_th tS tys h ws → ∃ ρ', ab_ext ρ ρ' n (ab_inH h n e).2.1 ∧ ab_env ρ' (ab_inH h n e).2.1 (ab_inH h n e).2.2 ∧ ∀ k c, ab_hg (ab_inH h n e).1 k = some c → ∃ a x, ws[k]? = some (a, x) ∧ ab_acok ρ' (ab_inH h n e).2.1 (ws.map (·.1)) tS tys c x
  | [], ρ, n, e, he, _ => ⟨ρ, ab_ext.refl, he, fun k c hc => by simp [ab_inH, ab_hg_nil] at hc⟩
  | q :: r, ρ, n, e, he, h => by
    obtain ⟨a, x, hw, hc⟩ := h q List.mem_cons_self
    obtain ⟨ρ1, h1, h2, h3⟩ := ab_inC_ok he hc
    obtain ⟨ρ2, g1, g2, g3⟩ := ab_inH_ok (h := r) h2 (fun w hw => h w (List.mem_cons_of_mem _ hw))
    refine ⟨ρ2, h1.trans g1, g2, fun k c hk => ?_⟩
    have hk2 : ab_hg ((q.1, (ab_inC q.2 n e).1) :: (ab_inH r (ab_inC q.2 n e).2.1 (ab_inC q.2 n e).2.2).1) k = some c := hk
    rw [ab_hg_cons] at hk2
    by_cases e1 : q.1 = k
    · rw [if_pos e1] at hk2
      cases hk2
      exact ⟨a, x, by rw [← e1]; exact hw, ab_acok_ext g1 h3⟩
    · rw [if_neg e1] at hk2
      exact g3 k c hk2
def ab_leV (e : ab_En) (v : ab_SV) (t : ab_TV) : Bool := match t with
  | none => true
  | some (.inl q) => (match ab_num e q.1 v with
    | some x => ab_le q.2.1 x.2.1 && ab_le x.2.2.1 q.2.2
    | none => false)
  | some (.inr (.inl ks)) => (match v with
    | some (.inr (.inl js)) => js.all (fun j => ks.contains j)
    | _ => false)
  | some (.inr (.inr _)) => (match v with
    | some (.inr (.inr _)) => true
    | _ => false)
def ab_leVs (e : ab_En) : List ab_SV → List ab_TV → Bool
  | [], [] => true
  | v :: vs, t :: ts => ab_leV e v t && ab_leVs e vs ts
  | _, _ => false
theorem ab_leV_ok {ρ : Nat → Value} {n : Nat} {e : ab_En} {ad : List Nat} {tS : Nat} {v : ab_SV} {t : ab_TV} {x : Value} (he : ab_env ρ n e) (h : ab_leV e v t = true) (hv : ab_val ρ n ad tS v x) : ab_tv ad tS t x := by
  match t, h with
  | none, _ => trivial
  | some (.inl (true, lo, hi)), h =>
    simp only [ab_leV] at h
    split at h
    · rename_i q hq
      rw [Bool.and_eq_true, ab_le_iff, ab_le_iff] at h
      obtain ⟨-, -, -, y, hy, -, h1, h2⟩ := ab_numL he hq hv
      exact ⟨y, hy, by omega, by omega⟩
    · cases h
  | some (.inl (false, lo, hi)), h =>
    simp only [ab_leV] at h
    split at h
    · rename_i q hq
      rw [Bool.and_eq_true, ab_le_iff, ab_le_iff] at h
      obtain ⟨y, hy, -, -, h1, h2, -⟩ := ab_inQ_of he hq hv
      exact ⟨y, hy, by omega, by omega⟩
    · cases h
  | some (.inr (.inl ks)), h =>
    simp only [ab_leV] at h
    split at h
    · rename_i js
      obtain ⟨k, a, h1, h2, h3⟩ := hv
      have h4 := List.all_eq_true.mp h k h1
      exact ⟨k, a, by simpa using h4, h2, h3⟩
    · cases h
  | some (.inr (.inr _)), h =>
    simp only [ab_leV] at h
    split at h
    · exact hv
    · cases h
theorem ab_leVs_ok {ρ : Nat → Value} {n : Nat} {e : ab_En} {ad : List Nat} {tS : Nat} (he : ab_env ρ n e) : ∀ {vs : List ab_SV} {ts : List ab_TV} {xs : List Value}, ab_leVs e vs ts = true → ab_all2 (ab_val ρ n ad tS) vs xs → ab_tl ad tS ts xs
  | [], [], [], _, _ => trivial
  | v :: vs, t :: ts, x :: xs, h, k => by
    simp only [ab_leVs, Bool.and_eq_true] at h
    exact ⟨ab_leV_ok he h.1 k.1, ab_leVs_ok he h.2 k.2⟩
  | [], t :: ts, _, h, _ => by simp [ab_leVs] at h
  | v :: vs, [], _, h, _ => by simp [ab_leVs] at h
  | [], [], _ :: _, _, k => k.elim
  | _ :: _, _ :: _, [], _, k => k.elim
def ab_ivIn (U : List ab_Iv) (v : ab_Iv) : Bool := U.any (fun w => ab_le w.1 v.1 && ab_le v.2 w.2)
theorem ab_ivIn_ok {U : List ab_Iv} {v : ab_Iv} {x : Int} (h : ab_ivIn U v = true) (h1 : v.1 ≤ x) (h2 : x ≤ v.2) : ab_inU U x := by
  obtain ⟨w, hw, h3⟩ := List.any_eq_true.mp h
  rw [Bool.and_eq_true, ab_le_iff, ab_le_iff] at h3
  exact ⟨w, hw, by omega, by omega⟩
def ab_idIn (e : ab_En) (lg : Bool) (U : List ab_Iv) (i : Nat) : Bool := match ab_num e lg (some (.inl i)) with
  | some x => ab_ivIn U (x.2.1, x.2.2.1)
  | none => false
def ab_idsLe (e : ab_En) (lg : Bool) : List Nat → List ab_Iv → Bool
  | [], [] => true
  | i :: is, v :: vs => ab_idIn e lg [v] i && ab_idsLe e lg is vs
  | _, _ => false
def ab_csLe : List Int → List ab_Iv → Bool
  | [], [] => true
  | i :: is, v :: vs => (ab_le v.1 i && ab_le i v.2) && ab_csLe is vs
  | _, _ => false
def ab_csEq : List Int → List Int → Bool
  | [], [] => true
  | i :: is, v :: vs => (ab_le v i && ab_le i v) && ab_csEq is vs
  | _, _ => false
def ab_leK (e : ab_En) (lg : Bool) (N : Nat) (k : ab_AK) (t : ab_TK) : Bool := match k, t with
  | .inl U, .inl U' => U.all (ab_ivIn U')
  | .inl U, .inr (.inl vs) => Nat.beq vs.length N && vs.all (fun v => U.all (fun u => ab_le v.1 u.1 && ab_le u.2 v.2))
  | .inr (.inl ids), .inl U' => ids.all (ab_idIn e lg U')
  | .inr (.inr (.inl cs)), .inl U' => cs.all (fun v => ab_ivIn U' (v, v))
  | .inr (.inl ids), .inr (.inl vs) => ab_idsLe e lg ids vs
  | .inr (.inr (.inl cs)), .inr (.inl vs) => ab_csLe cs vs
  | .inr (.inr (.inl cs)), .inr (.inr (.inl ds)) => ab_csEq cs ds
  | .inr (.inr (.inr (.inl ks))), .inr (.inr (.inr (.inl js))) => ks == js
  | .inr (.inr (.inr (.inr svs))), .inr (.inr (.inr (.inr tvs))) => ab_leVs e svs tvs
  | _, _ => false
def ab_leC (e : ab_En) (c : ab_AC) (t : ab_TC) : Bool := Nat.beq c.1 t.1 && (Nat.beq c.2.1 t.2.1 && ab_leK e (Nat.beq c.1 1) c.2.1 c.2.2 t.2.2)
def ab_leH (e : ab_En) (h : ab_AH) (t : ab_TH) : Bool := t.all (fun q => match ab_hg h q.1 with
  | some c => ab_leC e c q.2
  | none => false)
theorem ab_idsLe_get {e : ab_En} {lg : Bool} : ∀ {is : List Nat} {vs : List ab_Iv}, ab_idsLe e lg is vs = true → is.length = vs.length ∧ ∀ (i : Nat) (v : ab_Iv), vs[i]? = some v → ∃ k : Nat, is[i]? = some k ∧ ab_idIn e lg [v] k = true
  | [], [], _ => ⟨rfl, fun i v h => by simp at h⟩
  | j :: is, w :: vs, h => by
    simp only [ab_idsLe, Bool.and_eq_true] at h
    obtain ⟨h1, h2⟩ := ab_idsLe_get h.2
    refine ⟨by simp [h1], fun i v hv => ?_⟩
    match i, hv with
    | 0, hv => simp at hv; subst hv; exact ⟨j, rfl, h.1⟩
    | i + 1, hv => exact h2 i v (by simpa using hv)
  | [], _ :: _, h => by simp [ab_idsLe] at h
  | _ :: _, [], h => by simp [ab_idsLe] at h
theorem ab_csLe_get : ∀ {is : List Int} {vs : List ab_Iv}, ab_csLe is vs = true → is.length = vs.length ∧ ∀ (i : Nat) (v : ab_Iv), vs[i]? = some v → ∃ k : Int, is[i]? = some k ∧ v.1 ≤ k ∧ k ≤ v.2
  | [], [], _ => ⟨rfl, fun i v h => by simp at h⟩
  | j :: is, w :: vs, h => by
    simp only [ab_csLe, Bool.and_eq_true, ab_le_iff] at h
    obtain ⟨h1, h2⟩ := ab_csLe_get h.2
    refine ⟨by simp [h1], fun i v hv => ?_⟩
    match i, hv with
    | 0, hv => simp at hv; subst hv; exact ⟨j, rfl, h.1.1, h.1.2⟩
    | i + 1, hv => exact h2 i v (by simpa using hv)
  | [], _ :: _, h => by simp [ab_csLe] at h
  | _ :: _, [], h => by simp [ab_csLe] at h
theorem ab_csEq_eq : ∀ {is vs : List Int}, ab_csEq is vs = true → is = vs
  | [], [], _ => rfl
  | j :: is, w :: vs, h => by
    simp only [ab_csEq, Bool.and_eq_true, ab_le_iff] at h
    rw [ab_csEq_eq h.2, show j = w by omega]
  | [], _ :: _, h => by simp [ab_csEq] at h
  | _ :: _, [], h => by simp [ab_csEq] at h
theorem ab_idIn_int {ρ : Nat → Value} {n : Nat} {e : ab_En} {U : List ab_Iv} {i : Nat} {x : Int32} (he : ab_env ρ n e) (h : ab_idIn e false U i = true) (hi : i < n) (hx : ρ i = .int x) : ab_inU U x.toInt := by
  unfold ab_idIn at h
  split at h
  · rename_i q hq
    obtain ⟨y, hy, -, -, h1, h2, -⟩ := ab_inQ_of (ad := []) (tS := 0) he hq (x := ρ i) ⟨hi, rfl⟩
    rw [hx] at hy
    cases hy
    exact ab_ivIn_ok h h1 h2
  · cases h
theorem ab_idIn_long {ρ : Nat → Value} {n : Nat} {e : ab_En} {U : List ab_Iv} {i : Nat} {x : Int64} (he : ab_env ρ n e) (h : ab_idIn e true U i = true) (hi : i < n) (hx : ρ i = .long x) : ab_inU U x.toInt := by
  unfold ab_idIn at h
  split at h
  · rename_i q hq
    obtain ⟨-, -, -, y, hy, -, h1, h2⟩ := ab_numL (ad := []) (tS := 0) he hq (x := ρ i) ⟨hi, rfl⟩
    rw [hx] at hy
    cases hy
    exact ab_ivIn_ok h h1 h2
  · cases h
theorem ab_inU1 {v : ab_Iv} {x : Int} (h : ab_inU [v] x) : v.1 ≤ x ∧ x ≤ v.2 := by
  obtain ⟨w, hw, h1, h2⟩ := h
  simp at hw
  subst hw
  exact ⟨h1, h2⟩
theorem ab_inU_le {U V : List ab_Iv} {x : Int} (h : U.all (ab_ivIn V) = true) (hx : ab_inU U x) : ab_inU V x := by
  obtain ⟨w, hw, h1, h2⟩ := hx
  exact ab_ivIn_ok (List.all_eq_true.mp h w hw) h1 h2
theorem ab_leC_ok {ρ : Nat → Value} {n : Nat} {e : ab_En} {ad : List Nat} {tS : Nat} {cs : Nat → ClassId} {c : ab_AC} {t : ab_TC} {x : va_E} (he : ab_env ρ n e) (h : ab_leC e c t = true) (hc : ab_acok ρ n ad tS (ab_tys cs) c x) : ab_tc ad tS (ab_tys cs) t x := by
  obtain ⟨c1, c2, K⟩ := c
  obtain ⟨t1, t2, J⟩ := t
  unfold ab_leC at h
  rw [Bool.and_eq_true, Bool.and_eq_true] at h
  obtain ⟨h1, h2, h3⟩ := h
  have e1 : c1 = t1 := Nat.eq_of_beq_eq_true h1
  have e2 : c2 = t2 := Nat.eq_of_beq_eq_true h2
  subst e1; subst e2
  simp only at h3
  match x, hc with
  | .inr (ci, fs), ⟨a1, a2, svs, a3, a4⟩ =>
    simp only at a3
    subst a3
    match J, h3 with
    | .inr (.inr (.inr (.inr tvs))), h3 => exact ⟨a1, a2, tvs, rfl, ab_leVs_ok he h3 a4⟩
    | .inl _, h3 => simp [ab_leK] at h3
    | .inr (.inl _), h3 => simp [ab_leK] at h3
    | .inr (.inr (.inl _)), h3 => simp [ab_leK] at h3
    | .inr (.inr (.inr (.inl _))), h3 => simp [ab_leK] at h3
  | .inl (cA, N, .inl f), ⟨a1, a2, a3⟩ =>
    have hb : Nat.beq c1 1 = false := by
      obtain ⟨ty, q1, q2⟩ := a2
      simp only at q1
      cases hb : Nat.beq c1 1 with
      | false => rfl
      | true =>
        have e3 : c1 = 1 := Nat.eq_of_beq_eq_true hb
        subst e3
        simp [ab_tys] at q1
        rcases q2 with q2 | q2 <;> rw [← q1.2] at q2 <;> cases q2
    rw [hb] at h3
    refine ⟨a1, a2, hb, ?_⟩
    simp only at a1
    rcases a3 with ⟨U, q, a4⟩ | ⟨ids, q, a4, a5⟩ | ⟨cv, q, a4, a5⟩
    · simp only at q; subst q
      match J, h3 with
      | .inl V, h3 => exact Or.inl ⟨V, rfl, fun i hi => ab_inU_le h3 (a4 i hi)⟩
      | .inr (.inl vs), h3 =>
        rw [ab_leK, Bool.and_eq_true] at h3
        have hlen : vs.length = c2 := Nat.eq_of_beq_eq_true h3.1
        refine Or.inr (Or.inl ⟨vs, rfl, by omega, fun i v hv => ?_⟩)
        have hi : i < vs.length := (List.getElem?_eq_some_iff.mp hv).1
        obtain ⟨u, hu, u1, u2⟩ := a4 i (by omega)
        have h4 := List.all_eq_true.mp (List.all_eq_true.mp h3.2 v (List.mem_of_getElem? hv)) u hu
        rw [Bool.and_eq_true, ab_le_iff, ab_le_iff] at h4
        omega
      | .inr (.inr (.inl _)), h3 => simp [ab_leK] at h3
      | .inr (.inr (.inr (.inl _))), h3 => simp [ab_leK] at h3
      | .inr (.inr (.inr (.inr _))), h3 => simp [ab_leK] at h3
    · simp only at q; subst q
      match J, h3 with
      | .inl V, h3 =>
        refine Or.inl ⟨V, rfl, fun i hi => ?_⟩
        obtain ⟨k, hk⟩ : ∃ k, ids[i]? = some k := ⟨ids[i]'(by omega), by simp⟩
        exact ab_idIn_int he (List.all_eq_true.mp h3 k (List.mem_of_getElem? hk)) (a5 i k hk).1 (a5 i k hk).2
      | .inr (.inl vs), h3 =>
        obtain ⟨g1, g2⟩ := ab_idsLe_get h3
        refine Or.inr (Or.inl ⟨vs, rfl, by omega, fun i v hv => ?_⟩)
        obtain ⟨k, hk, hk2⟩ := g2 i v hv
        exact ab_inU1 (ab_idIn_int he hk2 (a5 i k hk).1 (a5 i k hk).2)
      | .inr (.inr (.inl _)), h3 => simp [ab_leK] at h3
      | .inr (.inr (.inr (.inl _))), h3 => simp [ab_leK] at h3
      | .inr (.inr (.inr (.inr _))), h3 => simp [ab_leK] at h3
    · simp only at q; subst q
      match J, h3 with
      | .inl V, h3 =>
        refine Or.inl ⟨V, rfl, fun i hi => ?_⟩
        obtain ⟨k, hk⟩ : ∃ k, cv[i]? = some k := ⟨cv[i]'(by omega), by simp⟩
        have e4 := a5 i k hk
        exact ab_ivIn_ok (List.all_eq_true.mp h3 k (List.mem_of_getElem? hk)) (by simp only; omega) (by simp only; omega)
      | .inr (.inl vs), h3 =>
        obtain ⟨g1, g2⟩ := ab_csLe_get h3
        refine Or.inr (Or.inl ⟨vs, rfl, by omega, fun i v hv => ?_⟩)
        obtain ⟨k, hk, k1, k2⟩ := g2 i v hv
        have e4 := a5 i k hk
        omega
      | .inr (.inr (.inl ds)), h3 =>
        have e3 := ab_csEq_eq h3
        subst e3
        exact Or.inr (Or.inr ⟨cv, rfl, a4, a5⟩)
      | .inr (.inr (.inr (.inl _))), h3 => simp [ab_leK] at h3
      | .inr (.inr (.inr (.inr _))), h3 => simp [ab_leK] at h3
  | .inl (cA, N, .inr (.inl f)), ⟨a1, a2, a3⟩ =>
    have hb : Nat.beq c1 1 = true := by
      simp only at a2
      match c1, a2 with
      | 0, a2 => simp [ab_tys] at a2
      | 1, a2 => rfl
      | 2, a2 => simp [ab_tys] at a2
      | 3, a2 => simp [ab_tys] at a2
      | 4, a2 => simp [ab_tys] at a2
      | k + 5, a2 => simp [ab_tys] at a2
    rw [hb] at h3
    refine ⟨a1, a2, hb, ?_⟩
    simp only at a1
    rcases a3 with ⟨U, q, a4⟩ | ⟨ids, q, a4, a5⟩
    · simp only at q; subst q
      match J, h3 with
      | .inl V, h3 => exact Or.inl ⟨V, rfl, fun i hi => ab_inU_le h3 (a4 i hi)⟩
      | .inr (.inl vs), h3 =>
        rw [ab_leK, Bool.and_eq_true] at h3
        have hlen : vs.length = c2 := Nat.eq_of_beq_eq_true h3.1
        refine Or.inr ⟨vs, rfl, by omega, fun i v hv => ?_⟩
        have hi : i < vs.length := (List.getElem?_eq_some_iff.mp hv).1
        obtain ⟨u, hu, u1, u2⟩ := a4 i (by omega)
        have h4 := List.all_eq_true.mp (List.all_eq_true.mp h3.2 v (List.mem_of_getElem? hv)) u hu
        rw [Bool.and_eq_true, ab_le_iff, ab_le_iff] at h4
        omega
      | .inr (.inr (.inl _)), h3 => simp [ab_leK] at h3
      | .inr (.inr (.inr (.inl _))), h3 => simp [ab_leK] at h3
      | .inr (.inr (.inr (.inr _))), h3 => simp [ab_leK] at h3
    · simp only at q; subst q
      match J, h3 with
      | .inl V, h3 =>
        refine Or.inl ⟨V, rfl, fun i hi => ?_⟩
        obtain ⟨k, hk⟩ : ∃ k, ids[i]? = some k := ⟨ids[i]'(by omega), by simp⟩
        exact ab_idIn_long he (List.all_eq_true.mp h3 k (List.mem_of_getElem? hk)) (a5 i k hk).1 (a5 i k hk).2
      | .inr (.inl vs), h3 =>
        obtain ⟨g1, g2⟩ := ab_idsLe_get h3
        refine Or.inr ⟨vs, rfl, by omega, fun i v hv => ?_⟩
        obtain ⟨k, hk, hk2⟩ := g2 i v hv
        exact ab_inU1 (ab_idIn_long he hk2 (a5 i k hk).1 (a5 i k hk).2)
      | .inr (.inr (.inl _)), h3 => simp [ab_leK] at h3
      | .inr (.inr (.inr (.inl _))), h3 => simp [ab_leK] at h3
      | .inr (.inr (.inr (.inr _))), h3 => simp [ab_leK] at h3
  | .inl (cA, N, .inr (.inr (.inr (.inr f)))), ⟨a1, a2, ks, a3, a4⟩ =>
    simp only at a3
    subst a3
    match J, h3 with
    | .inr (.inr (.inr (.inl js))), h3 =>
      have e3 : ks = js := by simpa [ab_leK] using h3
      subst e3
      exact ⟨a1, a2, ks, rfl, a4⟩
    | .inl _, h3 => simp [ab_leK] at h3
    | .inr (.inl _), h3 => simp [ab_leK] at h3
    | .inr (.inr (.inl _)), h3 => simp [ab_leK] at h3
    | .inr (.inr (.inr (.inr _))), h3 => simp [ab_leK] at h3
  | .inl (cA, N', .inr (.inr (.inl f))), k => exact k.elim
  | .inl (cA, N', .inr (.inr (.inr (.inl f)))), k => exact k.elim
theorem ab_leH_ok {ρ : Nat → Value} {n : Nat} {e : ab_En} {tS : Nat} {cs : Nat → ClassId} {h : ab_AH} {t : ab_TH} {ws : va_W} (he : ab_env ρ n e) (hl : ab_leH e h t = true) (hh : ab_heap ρ n tS (ab_tys cs) h ws) : ab_th tS (ab_tys cs) t ws := by
  intro q hq
  have h1 := List.all_eq_true.mp hl q hq
  split at h1
  · rename_i c hc
    obtain ⟨a, x, h2, h3⟩ := hh q.1 c hc
    exact ⟨a, x, h2, ab_leC_ok he h1 h3⟩
  · cases h1
end
