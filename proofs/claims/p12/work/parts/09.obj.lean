noncomputable section
def ab_gf (ci f : Nat) (st : ab_St) : Option ab_St := match st with
  | (n, e, h, L, some (.inr (.inl [k])) :: r) => (match ab_hg h k with
    | some (ci', _, .inr (.inr (.inr (.inr svs)))) => bif Nat.beq ci' ci then (match svs[f]? with
      | some v => some (n, e, h, L, v :: r)
      | none => none) else none
    | _ => none)
  | _ => none
def ab_bool (e : ab_En) (v : ab_SV) : Bool := match ab_num e false v with
  | some x => ab_0le x.2.1 && ab_le x.2.2.1 (.ofNat 1)
  | none => false
def ab_tyok (ty : FieldType) (e : ab_En) (v : ab_SV) : Bool := match ty with
  | .int => ab_ldv 0 e v
  | .long => ab_ldv 1 e v
  | .boolean => ab_bool e v
  | .object _ => ab_ldv 2 e v
  | .array _ => ab_ldv 2 e v
  | _ => false
def ab_pf (ci f : Nat) (ty : FieldType) (M : Nat → Bool) (st : ab_St) : Option ab_St := match st with
  | (n, e, h, L, v :: some (.inr (.inl [k])) :: r) => (match ab_hg h k with
    | some (ci', N, .inr (.inr (.inr (.inr svs)))) => bif Nat.beq ci' ci && ((M k && M (ab_fc k f)) && (ab_tyok ty e v && Nat.blt f svs.length)) then some (n, e, (k, ci', N, .inr (.inr (.inr (.inr (svs.set f v))))) :: h, L, r) else none
    | _ => none)
  | _ => none
theorem ab_bool_ok {ρ : Nat → Value} {n : Nat} {ad : List Nat} {tS : Nat} {e : ab_En} {v : ab_SV} {x : Value} (he : ab_env ρ n e) (h : ab_bool e v = true) (hv : ab_val ρ n ad tS v x) : x = .int 0 ∨ x = .int 1 := by
  unfold ab_bool at h
  split at h
  · rename_i q hq
    unfold ab_0le at h
    rw [Bool.and_eq_true, ab_le_iff, ab_le_iff, ab_of0, ab_of1] at h
    obtain ⟨y, rfl, -, -, h2⟩ := ab_inQ_of he hq hv
    have h3 := h2.1
    have h4 := h2.2.1
    rcases (show y.toInt = 0 ∨ y.toInt = 1 by omega) with q | q
    · left
      rw [show y = 0 from Int32.toInt_inj.mp (by rw [q]; decide)]
    · right
      rw [show y = 1 from Int32.toInt_inj.mp (by rw [q]; decide)]
  · cases h
theorem ab_tyok_ok {ρ : Nat → Value} {n : Nat} {ad : List Nat} {tS : Nat} {e : ab_En} {ty : FieldType} {v : ab_SV} {x : Value} (he : ab_env ρ n e) (h : ab_tyok ty e v = true) (hv : ab_val ρ n ad tS v x) : narrow ty x = x ∧ fits ty x = true := by
  match ty, h with
  | .int, h =>
    obtain ⟨⟨y, rfl⟩, -⟩ := ab_ldv_ok he h hv
    exact ⟨rfl, rfl⟩
  | .long, h =>
    obtain ⟨⟨y, rfl⟩, -⟩ := ab_ldv_ok he h hv
    exact ⟨rfl, rfl⟩
  | .boolean, h =>
    rcases ab_bool_ok he h hv with rfl | rfl
    · exact ⟨rfl, rfl⟩
    · exact ⟨rfl, rfl⟩
  | .object _, h =>
    obtain ⟨⟨y, rfl⟩, -⟩ := ab_ldv_ok he h hv
    exact ⟨rfl, rfl⟩
  | .array _, h =>
    obtain ⟨⟨y, rfl⟩, -⟩ := ab_ldv_ok he h hv
    exact ⟨rfl, rfl⟩
  | .byte, h => cases h
  | .char, h => cases h
  | .short, h => cases h
  | .float, h => cases h
  | .double, h => cases h
def ab_dup (st : ab_St) : Option ab_St := match st with
  | (n, e, h, L, a :: r) => bif ab_ldv 0 e a || ab_ldv 2 e a then some (n, e, h, L, a :: a :: r) else none
  | _ => none
def ab_dup2 (st : ab_St) : Option ab_St := match st with
  | (n, e, h, L, a :: r) => bif ab_ldv 1 e a then some (n, e, h, L, a :: a :: r) else (match r with
    | b :: r' => bif (ab_ldv 0 e a || ab_ldv 2 e a) && (ab_ldv 0 e b || ab_ldv 2 e b) then some (n, e, h, L, a :: b :: a :: b :: r') else none
    | _ => none)
  | _ => none
def ab_pop (st : ab_St) : Option ab_St := match st with
  | (n, e, h, L, a :: r) => bif ab_ldv 0 e a || ab_ldv 2 e a then some (n, e, h, L, r) else none
  | _ => none
theorem ab_cat1 {ρ : Nat → Value} {n : Nat} {ad : List Nat} {tS : Nat} {e : ab_En} {v : ab_SV} {x : Value} (he : ab_env ρ n e) (h : (ab_ldv 0 e v || ab_ldv 2 e v) = true) (hv : ab_val ρ n ad tS v x) : x.category = 1 := by
  rw [Bool.or_eq_true] at h
  rcases h with h | h
  · obtain ⟨⟨y, rfl⟩, -⟩ := ab_ldv_ok he h hv
    rfl
  · obtain ⟨⟨y, rfl⟩, -⟩ := ab_ldv_ok he h hv
    rfl
def ab_i2l (st : ab_St) : Option ab_St := match st with
  | (n, e, h, L, a :: r) => (match ab_num e false a with
    | some x => some (ab_push true (x.2.1, x.2.2.1, n, .ofNat 0) n e h L r)
    | none => none)
  | _ => none
def ab_l2i (st : ab_St) : Option ab_St := match st with
  | (n, e, h, L, a :: r) => (match ab_num e true a with
    | some x => some (ab_push false (ab_own n x.2.1 x.2.2.1) n e h L r)
    | none => none)
  | _ => none
def ab_ineg (st : ab_St) : Option ab_St := match st with
  | (n, e, h, L, a :: r) => (match ab_num e false a with
    | some x => some (ab_push false (ab_negQ n x.2) n e h L r)
    | none => none)
  | _ => none
def ab_absQ (n : Nat) (x : ab_Q) : ab_Q := bif ab_le x.1 ab_m31 then ab_full n else ab_own n (bif ab_0le x.1 then x.1 else bif ab_le x.2.1 (.ofNat 0) then Int.neg x.2.1 else .ofNat 0) (ab_max x.2.1 (Int.neg x.1))
def ab_iabs (st : ab_St) : Option ab_St := match st with
  | (n, e, h, L, a :: r) => (match ab_num e false a with
    | some x => bif Nat.ble r.length 8 then some (ab_push false (ab_absQ n x.2) n e h L r) else none
    | none => none)
  | _ => none
def ab_binR (f : Nat → ab_Q → ab_Q → Option ab_Q) (st : ab_St) : Option ab_St := bif Nat.ble st.2.2.2.2.length 10 then ab_bin f st else none
def ab_maxQ (n : Nat) (x y : ab_Q) : Option ab_Q := some (ab_own n (ab_max x.1 y.1) (ab_max x.2.1 y.2.1))
def ab_minQ (n : Nat) (x y : ab_Q) : Option ab_Q := some (ab_own n (ab_min x.1 y.1) (ab_min x.2.1 y.2.1))
def ab_cutL (i : Nat) (q : ab_Q) (v : ab_Iv) (e : ab_En) : ab_En := (i, true, v.1, v.2, q.2.2.1, q.2.2.2) :: e
def ab_lcmp (st : ab_St) : Option (List ab_St) := match st with
  | (n, e, h, L, a :: b :: r) => (match ab_num e true a, ab_num e true b with
    | some y, some x => some ((ab_rel .lt x.2.1 x.2.2.1 y.2.1 y.2.2.1).map (fun w => ab_push false (.negSucc 0, .negSucc 0, n, .ofNat 0) n (ab_cutL x.1 x.2 w.1 (ab_cutL y.1 y.2 w.2 e)) h L r)
      ++ ((ab_rel .eq x.2.1 x.2.2.1 y.2.1 y.2.2.1).map (fun w => ab_push false (.ofNat 0, .ofNat 0, n, .ofNat 0) n (ab_cutL x.1 x.2 w.1 (ab_cutL y.1 y.2 w.2 e)) h L r)
      ++ (ab_rel .gt x.2.1 x.2.2.1 y.2.1 y.2.2.1).map (fun w => ab_push false (.ofNat 1, .ofNat 1, n, .ofNat 0) n (ab_cutL x.1 x.2 w.1 (ab_cutL y.1 y.2 w.2 e)) h L r)))
    | _, _ => none)
  | _ => none
theorem ab_cutL_ok {ρ : Nat → Value} {n i : Nat} {q : ab_Q} {v : ab_Iv} {e : ab_En} {x : Int64} (he : ab_env ρ n e) (hi : i < n) (hq : q.2.2.1 < n) (hx : ρ i = .long x) (h1 : v.1 ≤ x.toInt) (h2 : x.toInt ≤ v.2) : ab_env ρ n (ab_cutL i q v e) := by
  intro w hw
  rcases List.mem_cons.mp hw with rfl | hw
  · exact ⟨hi, hq, Or.inl ⟨rfl, x, hx, h1, h2⟩⟩
  · exact he w hw
section ABO
variable {p : Program} {l : Launch} {e : Env} {R : Room} {s : State} {m : MethodId} {args : Array Value} {below : List Frame} {meth : Method} {c : Code} {D : va_G} {cl : List vw_C} {A : Nat → Prop} {Q : State → Prop}
variable {I : (Nat → Value) → Nat → va_W → Prop} {tS : Nat} {tys : List (ClassId × FieldType)} {nL cells slots pc pc' : Nat} {st st' : ab_St} {cc : ByteArray} {sl : List ab_St}
theorem ab_s_gf {ci f : Nat}
    (row : ∀ (q0 a : Nat) (fs : List Value) (v : Value) (ws : va_W) (H : Heap) (locs : List Loc) (ls : Array Slot) (rest : List Value), va_P D cl ws H → ws[q0]? = some (a, .inr (ci, fs)) → fs[f]? = some v → W p l e R s m args below meth c H locs cells slots Q (F0 m pc' ls (v :: rest)) → W p l e R s m args below meth c H locs cells slots Q (F0 m pc ls (.ref a :: rest)))
    (h : ab_gf ci f st = some st') (k : ab_Ok p l e R s m args below meth c D cl A Q I tS tys nL cells slots pc' st') : ab_Ok p l e R s m args below meth c D cl A Q I tS tys nL cells slots pc st := by
  unfold ab_gf at h
  split at h
  · rename_i n en hp L kk r
    split at h
    · rename_i ci' N svs hc
      cases hb : Nat.beq ci' ci with
      | false => rw [hb] at h; simp at h
      | true =>
        rw [hb] at h
        simp only [cond_true] at h
        split at h
        · rename_i v hv
          cases h
          have hci : ci' = ci := Nat.eq_of_beq_eq_true hb
          subst hci
          intro ρ ls stk ws hi S H locs hP hD hS
          obtain ⟨vb, stk2, rfl, hvb, S2⟩ := ab_sat_top S
          obtain ⟨k1, aa, hk1, had, rfl⟩ := hvb
          have hk2 : k1 = kk := by simpa using hk1
          subst hk2
          obtain ⟨a2, e2, hw, hac⟩ := S.2.1 _ _ hc
          have ea := ab_ad_get had hw
          subst ea
          obtain ⟨fs, rfl, hl, ha2⟩ := ab_acok_obj hac
          obtain ⟨x, hx, hx2⟩ := ab_all2_get ha2 hv
          exact row _ _ fs x ws H locs ls stk2 hP hw hx (k ρ ls (x :: stk2) ws hi ⟨S2.1, S2.2.1, S2.2.2.1, hx2, S2.2.2.2⟩ H locs hP hD hS)
        · cases h
    · cases h
  · cases h
theorem ab_s_pf {ci f : Nat} {ty : FieldType} {M : Nat → Bool} (hM : ab_IM I M)
    (row : ∀ (q0 a : Nat) (fs : List Value) (v : Value) (ws : va_W) (H : Heap) (locs : List Loc) (ls : Array Slot) (rest : List Value), va_P D cl ws H → va_D A ws → va_S A s.heap H locs → ws[q0]? = some (a, .inr (ci, fs)) → f < fs.length → narrow ty v = v → fits ty v = true → (∀ (H1 : Heap) (locs1 : List Loc), va_P D cl (ws.set q0 (a, .inr (ci, fs.set f v))) H1 → va_D A (ws.set q0 (a, .inr (ci, fs.set f v))) → va_S A s.heap H1 locs1 → W p l e R s m args below meth c H1 locs1 cells slots Q (F0 m pc' ls rest)) → W p l e R s m args below meth c H locs cells slots Q (F0 m pc ls (v :: .ref a :: rest)))
    (h : ab_pf ci f ty M st = some st') (k : ab_Ok p l e R s m args below meth c D cl A Q I tS tys nL cells slots pc' st') : ab_Ok p l e R s m args below meth c D cl A Q I tS tys nL cells slots pc st := by
  unfold ab_pf at h
  split at h
  · rename_i n en hp L v kk r
    split at h
    · rename_i ci' N svs hc
      cases hb : (Nat.beq ci' ci && ((M kk && M (ab_fc kk f)) && (ab_tyok ty en v && Nat.blt f svs.length))) with
      | false => rw [hb] at h; simp at h
      | true =>
        rw [hb] at h
        simp only [cond_true] at h
        cases h
        rw [Bool.and_eq_true, Bool.and_eq_true, Bool.and_eq_true, Bool.and_eq_true] at hb
        obtain ⟨hb1, ⟨hb2, hb5⟩, hb3, hb4⟩ := hb
        have hci : ci' = ci := Nat.eq_of_beq_eq_true hb1
        subst hci
        have hf : f < svs.length := by simpa [Nat.blt_eq] using hb4
        intro ρ ls stk ws hi S H locs hP hD hS
        obtain ⟨va, stk1, rfl, hva, S1⟩ := ab_sat_top S
        obtain ⟨vb, stk2, rfl, hvb, S2⟩ := ab_sat_top S1
        obtain ⟨k1, aa, hk1, had, rfl⟩ := hvb
        have hk2 : k1 = kk := by simpa using hk1
        subst hk2
        obtain ⟨a2, e2, hw, hac⟩ := S.2.1 _ _ hc
        have ea := ab_ad_get had hw
        subst ea
        obtain ⟨fs, rfl, hl, ha2⟩ := ab_acok_obj hac
        have hlen := ab_all2_len ha2
        obtain ⟨t1, t2⟩ := ab_tyok_ok S.1 hb3 hva
        refine row _ _ fs va ws H locs ls stk2 hP hD hS hw (by omega) t1 t2 (fun H1 locs1 hP1 hD1 hS1 => ?_)
        refine k ρ ls stk2 _ (hM _ _ _ _ _ _ _ hi hw hb2 ⟨_, rfl, fun g hg => by rw [List.getElem?_set_ne (fun q => by subst q; rw [hb5] at hg; cases hg)]⟩) (ab_sat_world S2 hw ?_) H1 locs1 hP1 hD1 hS1
        exact ab_heap_set S.2.1 hw ⟨rfl, by rw [List.length_set]; exact hl, _, rfl, ab_all2_set ha2 f hva⟩
    · cases h
  · cases h
theorem ab_s_dup (row : ∀ (v : Value) (H : Heap) (locs : List Loc) (ls : Array Slot) (rest : List Value), v.category = 1 → W p l e R s m args below meth c H locs cells slots Q (F0 m pc' ls (v :: v :: rest)) → W p l e R s m args below meth c H locs cells slots Q (F0 m pc ls (v :: rest)))
    (h : ab_dup st = some st') (k : ab_Ok p l e R s m args below meth c D cl A Q I tS tys nL cells slots pc' st') : ab_Ok p l e R s m args below meth c D cl A Q I tS tys nL cells slots pc st := by
  match st, h with
  | (n, en, hp, L, []), h => simp [ab_dup] at h
  | (n, en, hp, L, a :: r), h =>
    simp only [ab_dup] at h
    cases hb : (ab_ldv 0 en a || ab_ldv 2 en a) with
    | false => rw [hb] at h; simp at h
    | true =>
      rw [hb] at h
      simp only [cond_true] at h
      cases h
      intro ρ ls stk ws hi S H locs hP hD hS
      obtain ⟨va, stk1, rfl, hva, S1⟩ := ab_sat_top S
      exact row _ _ _ _ _ (ab_cat1 S.1 hb hva) (k ρ ls (va :: va :: stk1) ws hi ⟨S1.1, S1.2.1, S1.2.2.1, hva, hva, S1.2.2.2⟩ H locs hP hD hS)
theorem ab_s_pop (row : ∀ (v : Value) (H : Heap) (locs : List Loc) (ls : Array Slot) (rest : List Value), v.category = 1 → W p l e R s m args below meth c H locs cells slots Q (F0 m pc' ls rest) → W p l e R s m args below meth c H locs cells slots Q (F0 m pc ls (v :: rest)))
    (h : ab_pop st = some st') (k : ab_Ok p l e R s m args below meth c D cl A Q I tS tys nL cells slots pc' st') : ab_Ok p l e R s m args below meth c D cl A Q I tS tys nL cells slots pc st := by
  match st, h with
  | (n, en, hp, L, []), h => simp [ab_pop] at h
  | (n, en, hp, L, a :: r), h =>
    simp only [ab_pop] at h
    cases hb : (ab_ldv 0 en a || ab_ldv 2 en a) with
    | false => rw [hb] at h; simp at h
    | true =>
      rw [hb] at h
      simp only [cond_true] at h
      cases h
      intro ρ ls stk ws hi S H locs hP hD hS
      obtain ⟨va, stk1, rfl, hva, S1⟩ := ab_sat_top S
      exact row _ _ _ _ _ (ab_cat1 S.1 hb hva) (k ρ ls stk1 ws hi S1 H locs hP hD hS)
theorem ab_s_dup2 (row1 : ∀ (v : Int64) (H : Heap) (locs : List Loc) (ls : Array Slot) (rest : List Value), W p l e R s m args below meth c H locs cells slots Q (F0 m pc' ls (.long v :: .long v :: rest)) → W p l e R s m args below meth c H locs cells slots Q (F0 m pc ls (.long v :: rest)))
    (row2 : ∀ (v w : Value) (H : Heap) (locs : List Loc) (ls : Array Slot) (rest : List Value), v.category = 1 → w.category = 1 → W p l e R s m args below meth c H locs cells slots Q (F0 m pc' ls (v :: w :: v :: w :: rest)) → W p l e R s m args below meth c H locs cells slots Q (F0 m pc ls (v :: w :: rest)))
    (h : ab_dup2 st = some st') (k : ab_Ok p l e R s m args below meth c D cl A Q I tS tys nL cells slots pc' st') : ab_Ok p l e R s m args below meth c D cl A Q I tS tys nL cells slots pc st := by
  match st, h with
  | (n, en, hp, L, []), h => simp [ab_dup2] at h
  | (n, en, hp, L, a :: r), h =>
    simp only [ab_dup2] at h
    cases hb : ab_ldv 1 en a with
    | true =>
      rw [hb] at h
      simp only [cond_true] at h
      cases h
      intro ρ ls stk ws hi S H locs hP hD hS
      obtain ⟨va, stk1, rfl, hva, S1⟩ := ab_sat_top S
      obtain ⟨⟨y, rfl⟩, -⟩ := ab_ldv_ok S.1 hb hva
      exact row1 _ _ _ _ _ (k ρ ls (.long y :: .long y :: stk1) ws hi ⟨S1.1, S1.2.1, S1.2.2.1, hva, hva, S1.2.2.2⟩ H locs hP hD hS)
    | false =>
      rw [hb] at h
      simp only [cond_false] at h
      match r, h with
      | [], h => simp at h
      | b :: r, h =>
        simp only at h
        cases hb2 : ((ab_ldv 0 en a || ab_ldv 2 en a) && (ab_ldv 0 en b || ab_ldv 2 en b)) with
        | false => rw [hb2] at h; simp at h
        | true =>
          rw [hb2] at h
          simp only [cond_true] at h
          cases h
          rw [Bool.and_eq_true] at hb2
          intro ρ ls stk ws hi S H locs hP hD hS
          obtain ⟨va, stk1, rfl, hva, S1⟩ := ab_sat_top S
          obtain ⟨vb, stk2, rfl, hvb, S2⟩ := ab_sat_top S1
          exact row2 _ _ _ _ _ _ (ab_cat1 S.1 hb2.1 hva) (ab_cat1 S.1 hb2.2 hvb) (k ρ ls (va :: vb :: va :: vb :: stk2) ws hi ⟨S2.1, S2.2.1, S2.2.2.1, hva, hvb, hva, hvb, S2.2.2.2⟩ H locs hP hD hS)
theorem ab_s_i2l (hI : ab_IE I) (row : ∀ (x : Int32) (H : Heap) (locs : List Loc) (ls : Array Slot) (rest : List Value), W p l e R s m args below meth c H locs cells slots Q (F0 m pc' ls (.long x.toInt64 :: rest)) → W p l e R s m args below meth c H locs cells slots Q (F0 m pc ls (.int x :: rest)))
    (h : ab_i2l st = some st') (k : ab_Ok p l e R s m args below meth c D cl A Q I tS tys nL cells slots pc' st') : ab_Ok p l e R s m args below meth c D cl A Q I tS tys nL cells slots pc st := by
  match st, h with
  | (n, en, hp, L, []), h => simp [ab_i2l] at h
  | (n, en, hp, L, a :: r), h =>
    simp only [ab_i2l] at h
    split at h
    · rename_i x hx
      cases h
      intro ρ ls stk ws hi S H locs hP hD hS
      obtain ⟨va, stk1, rfl, hva, S1⟩ := ab_sat_top S
      obtain ⟨y, rfl, -, -, hq⟩ := ab_inQ_of S.1 hx hva
      have e1 : y.toInt64.toInt = y.toInt := Int32.toInt_toInt64 y
      exact row _ _ _ _ _ (k _ ls (.long y.toInt64 :: stk1) ws (hI _ _ _ _ _ hi (ab_ext.up (.long y.toInt64))) (ab_sat_pushL S1 (by rw [e1]; exact hq.1) (by rw [e1]; exact hq.2.1)) H locs hP hD hS)
    · cases h
theorem ab_s_l2i (hI : ab_IE I) (row : ∀ (x : Int64) (H : Heap) (locs : List Loc) (ls : Array Slot) (rest : List Value), W p l e R s m args below meth c H locs cells slots Q (F0 m pc' ls (.int x.toInt32 :: rest)) → W p l e R s m args below meth c H locs cells slots Q (F0 m pc ls (.long x :: rest)))
    (h : ab_l2i st = some st') (k : ab_Ok p l e R s m args below meth c D cl A Q I tS tys nL cells slots pc' st') : ab_Ok p l e R s m args below meth c D cl A Q I tS tys nL cells slots pc st := by
  match st, h with
  | (n, en, hp, L, []), h => simp [ab_l2i] at h
  | (n, en, hp, L, a :: r), h =>
    simp only [ab_l2i] at h
    split at h
    · rename_i x hx
      cases h
      intro ρ ls stk ws hi S H locs hP hD hS
      obtain ⟨va, stk1, rfl, hva, S1⟩ := ab_sat_top S
      obtain ⟨-, -, -, y, rfl, -, hq1, hq2⟩ := ab_numL S.1 hx hva
      have hk : ab_okQ ρ n y.toInt32 (ab_own n x.2.1 x.2.2.1) := ab_own_ok (fun l1 l2 => by
        have e1 : y.toInt32.toInt = y.toInt := by rw [Int64.toInt_toInt32]; exact ab_bm (by omega) (by omega)
        rw [e1]; exact ⟨hq1, hq2⟩)
      exact row _ _ _ _ _ (k _ ls (.int y.toInt32 :: stk1) ws (hI _ _ _ _ _ hi (ab_ext.up (.int y.toInt32))) (ab_sat_pushI S1 hk.1 hk.2.1 hk.2.2) H locs hP hD hS)
    · cases h
theorem ab_s_ineg (hI : ab_IE I) (row : ∀ (x : Int32) (H : Heap) (locs : List Loc) (ls : Array Slot) (rest : List Value), W p l e R s m args below meth c H locs cells slots Q (F0 m pc' ls (.int (-x) :: rest)) → W p l e R s m args below meth c H locs cells slots Q (F0 m pc ls (.int x :: rest)))
    (h : ab_ineg st = some st') (k : ab_Ok p l e R s m args below meth c D cl A Q I tS tys nL cells slots pc' st') : ab_Ok p l e R s m args below meth c D cl A Q I tS tys nL cells slots pc st := by
  match st, h with
  | (n, en, hp, L, []), h => simp [ab_ineg] at h
  | (n, en, hp, L, a :: r), h =>
    simp only [ab_ineg] at h
    split at h
    · rename_i x hx
      cases h
      intro ρ ls stk ws hi S H locs hP hD hS
      obtain ⟨va, stk1, rfl, hva, S1⟩ := ab_sat_top S
      obtain ⟨y, rfl, -, -, hq⟩ := ab_inQ_of S.1 hx hva
      have hk := ab_negQ_ok (n := n) hq
      exact row _ _ _ _ _ (k _ ls (.int (-y) :: stk1) ws (hI _ _ _ _ _ hi (ab_ext.up (.int (-y)))) (ab_sat_pushI S1 hk.1 hk.2.1 hk.2.2) H locs hP hD hS)
    · cases h
theorem ab_absQ_ok {ρ : Nat → Value} {n : Nat} {x : Int32} {a : ab_Q} (hx : ab_inQ ρ n x a) : ab_okQ ρ n (if 0 ≤ x then x else 0 - x) (ab_absQ n a) := by
  unfold ab_absQ
  obtain ⟨x1, x2, -⟩ := hx
  have z : (0 : Int32).toInt = 0 := by decide
  cases h0 : ab_le a.1 ab_m31 with
  | true => exact ab_full_ok
  | false =>
    rw [ab_le_f, ab_m31_eq] at h0
    refine ab_own_ok (fun l1 l2 => ?_)
    simp only [ab_max_eq, ab_negE] at l1 l2 ⊢
    have l3 := ab_lo32 x
    by_cases hp : 0 ≤ x
    · rw [if_pos hp]
      rw [Int32.le_iff_toInt_le, z] at hp
      refine ⟨?_, by omega⟩
      cases h1 : ab_0le a.1 with
      | true => exact x1
      | false =>
        cases h2 : ab_le a.2.1 (.ofNat 0) with
        | true => rw [ab_le_iff, ab_of0] at h2; simp only [cond_true, cond_false, ab_negE]; omega
        | false => exact hp
    · rw [if_neg hp]
      rw [Int32.le_iff_toInt_le, z] at hp
      have e1 : (0 - x).toInt = -x.toInt := by rw [Int32.toInt_sub, z]; rw [ab_bm (by omega) (by omega)]; omega
      rw [e1]
      refine ⟨?_, by omega⟩
      cases h1 : ab_0le a.1 with
      | true => unfold ab_0le at h1; rw [ab_le_iff, ab_of0] at h1; omega
      | false =>
        cases h2 : ab_le a.2.1 (.ofNat 0) with
        | true => simp only [cond_true, cond_false, ab_negE]; omega
        | false => simp only [cond_false, ab_of0]; omega
theorem ab_s_iabs (hI : ab_IE I) (row : ∀ (x : Int32) (H : Heap) (locs : List Loc) (ls : Array Slot) (rest : List Value), ls.size = nL → rest.length ≤ 8 → W p l e R s m args below meth c H locs cells slots Q (F0 m pc' ls (.int (if 0 ≤ x then x else 0 - x) :: rest)) → W p l e R s m args below meth c H locs cells slots Q (F0 m pc ls (.int x :: rest)))
    (h : ab_iabs st = some st') (k : ab_Ok p l e R s m args below meth c D cl A Q I tS tys nL cells slots pc' st') : ab_Ok p l e R s m args below meth c D cl A Q I tS tys nL cells slots pc st := by
  match st, h with
  | (n, en, hp, L, []), h => simp [ab_iabs] at h
  | (n, en, hp, L, a :: r), h =>
    simp only [ab_iabs] at h
    split at h
    · rename_i x hx
      cases hb : Nat.ble r.length 8 with
      | false => rw [hb] at h; simp at h
      | true =>
        rw [hb] at h
        simp only [cond_true] at h
        cases h
        intro ρ ls stk ws hi S H locs hP hD hS
        obtain ⟨va, stk1, rfl, hva, S1⟩ := ab_sat_top S
        obtain ⟨y, rfl, -, -, hq⟩ := ab_inQ_of S.1 hx hva
        have hk := ab_absQ_ok (n := n) hq
        have hl : r.length = stk1.length := ab_all2_len S1.2.2.2
        exact row _ _ _ _ _ S.2.2.1.1 (by have := Nat.le_of_ble_eq_true hb; omega) (k _ ls (.int _ :: stk1) ws (hI _ _ _ _ _ hi (ab_ext.up (.int _))) (ab_sat_pushI S1 hk.1 hk.2.1 hk.2.2) H locs hP hD hS)
    · cases h
theorem ab_maxQ_ok {ρ : Nat → Value} {n : Nat} {x y : Int32} {a b q : ab_Q} (hx : ab_inQ ρ n x a) (hy : ab_inQ ρ n y b) (h : ab_maxQ n a b = some q) : True ∧ ab_okQ ρ n (if x < y then y else x) q := by
  unfold ab_maxQ at h
  cases h
  refine ⟨trivial, ab_own_ok (fun _ _ => ?_)⟩
  obtain ⟨x1, x2, -⟩ := hx
  obtain ⟨y1, y2, -⟩ := hy
  rw [ab_max_eq, ab_max_eq]
  by_cases q : x < y
  · rw [if_pos q]; rw [Int32.lt_iff_toInt_lt] at q; omega
  · rw [if_neg q]; rw [Int32.lt_iff_toInt_lt] at q; omega
theorem ab_minQ_ok {ρ : Nat → Value} {n : Nat} {x y : Int32} {a b q : ab_Q} (hx : ab_inQ ρ n x a) (hy : ab_inQ ρ n y b) (h : ab_minQ n a b = some q) : True ∧ ab_okQ ρ n (if y < x then y else x) q := by
  unfold ab_minQ at h
  cases h
  refine ⟨trivial, ab_own_ok (fun _ _ => ?_)⟩
  obtain ⟨x1, x2, -⟩ := hx
  obtain ⟨y1, y2, -⟩ := hy
  rw [ab_min_eq, ab_min_eq]
  by_cases q : y < x
  · rw [if_pos q]; rw [Int32.lt_iff_toInt_lt] at q; omega
  · rw [if_neg q]; rw [Int32.lt_iff_toInt_lt] at q; omega
theorem ab_s_binR (hI : ab_IE I) (f : Nat → ab_Q → ab_Q → Option ab_Q) (op : Int32 → Int32 → Int32) (hf : ∀ ρ n x y a b q, ab_inQ ρ n x a → ab_inQ ρ n y b → f n a b = some q → True ∧ ab_okQ ρ n (op x y) q)
    (row : ∀ (x y : Int32) (H : Heap) (locs : List Loc) (ls : Array Slot) (rest : List Value), ls.size = nL → rest.length ≤ 8 → W p l e R s m args below meth c H locs cells slots Q (F0 m pc' ls (.int (op x y) :: rest)) → W p l e R s m args below meth c H locs cells slots Q (F0 m pc ls (.int y :: .int x :: rest)))
    (h : ab_binR f st = some st') (k : ab_Ok p l e R s m args below meth c D cl A Q I tS tys nL cells slots pc' st') : ab_Ok p l e R s m args below meth c D cl A Q I tS tys nL cells slots pc st := by
  unfold ab_binR at h
  cases hb : Nat.ble st.2.2.2.2.length 10 with
  | false => rw [hb] at h; simp at h
  | true =>
    rw [hb] at h
    simp only [cond_true] at h
    have hb2 := Nat.le_of_ble_eq_true hb
    match st, h, hb2 with
    | (n, en, hp, L, a :: b :: r), h, hb2 =>
      simp only [ab_bin] at h
      split at h
      · rename_i y x hy hx
        split at h
        · rename_i q hq
          cases h
          intro ρ ls stk ws hi S H locs hP hD hS
          obtain ⟨va, stk1, rfl, hva, S1⟩ := ab_sat_top S
          obtain ⟨vb, stk2, rfl, hvb, S2⟩ := ab_sat_top S1
          obtain ⟨y1, rfl, -, -, hy2⟩ := ab_inQ_of S.1 hy hva
          obtain ⟨x1, rfl, -, -, hx2⟩ := ab_inQ_of S.1 hx hvb
          obtain ⟨-, hq1, hq2, hq3⟩ := hf _ _ _ _ _ _ _ hx2 hy2 hq
          obtain ⟨lo, hi', bb, o⟩ := q
          have hl : r.length = stk2.length := ab_all2_len S2.2.2.2
          simp only [List.length_cons] at hb2
          exact row _ _ _ _ _ _ S.2.2.1.1 (by omega) (k _ _ _ _ (hI _ _ _ _ _ hi (ab_ext.up _)) (ab_sat_pushI S2 hq1 hq2 hq3) H locs hP hD hS)
        · cases h
      · cases h
    | (n, en, hp, L, []), h, _ => simp [ab_bin] at h
    | (n, en, hp, L, [a]), h, _ => simp [ab_bin] at h
theorem ab_s_lcmp (hI : ab_IE I) (row : ∀ (x y : Int64) (H : Heap) (locs : List Loc) (ls : Array Slot) (rest : List Value), W p l e R s m args below meth c H locs cells slots Q (F0 m pc' ls (.int (lg_cmp x y) :: rest)) → W p l e R s m args below meth c H locs cells slots Q (F0 m pc ls (.long y :: .long x :: rest)))
    (h : ab_lcmp st = some sl) (k : ∀ w ∈ sl, ab_Ok p l e R s m args below meth c D cl A Q I tS tys nL cells slots pc' w) : ab_Ok p l e R s m args below meth c D cl A Q I tS tys nL cells slots pc st := by
  match st, h with
  | (n, en, hp, L, []), h => simp [ab_lcmp] at h
  | (n, en, hp, L, [a]), h => simp [ab_lcmp] at h
  | (n, en, hp, L, a :: b :: r), h =>
    simp only [ab_lcmp] at h
    split at h
    · rename_i y x hyy hxx
      cases h
      intro ρ ls stk ws hi S H locs hP hD hS
      obtain ⟨va, stk1, rfl, hva, S1⟩ := ab_sat_top S
      obtain ⟨vb, stk2, rfl, hvb, S2⟩ := ab_sat_top S1
      obtain ⟨hylt, -, hyb, y1, rfl, hyρ, hy1, hy2⟩ := ab_numL S.1 hyy hva
      obtain ⟨hxlt, -, hxb, x1, rfl, hxρ, hx1, hx2⟩ := ab_numL S.1 hxx hvb
      refine row _ _ _ _ _ _ ?_
      rcases (show x1.toInt < y1.toInt ∨ x1.toInt = y1.toInt ∨ y1.toInt < x1.toInt by omega) with q | q | q
      · obtain ⟨w, hw, w1, w2, w3, w4⟩ := ab_rel_ok (c := .lt) hx1 hx2 hy1 hy2 q
        have e1 : lg_cmp x1 y1 = -1 := by
          unfold lg_cmp
          rw [if_neg (by rw [gt_iff_lt, Int64.lt_iff_toInt_lt]; omega), if_neg (by rw [← Int64.toInt_inj]; omega)]
        rw [e1]
        have S3 : ab_sat ρ tS tys nL (n, ab_cutL x.1 x.2 w.1 (ab_cutL y.1 y.2 w.2 en), hp, L, r) ls stk2 ws := ⟨ab_cutL_ok (ab_cutL_ok S.1 hylt hyb hyρ w3 w4) hxlt hxb hxρ w1 w2, S2.2⟩
        exact k _ (List.mem_append_left _ (List.mem_map.mpr ⟨w, hw, rfl⟩)) _ ls (.int (-1) :: stk2) ws (hI _ _ _ _ _ hi (ab_ext.up (.int (-1)))) (ab_sat_pushI S3 (by decide) (by decide) (Or.inl ⟨rfl, rfl⟩)) H locs hP hD hS
      · obtain ⟨w, hw, w1, w2, w3, w4⟩ := ab_rel_ok (c := .eq) hx1 hx2 hy1 hy2 q
        have e1 : lg_cmp x1 y1 = 0 := by
          unfold lg_cmp
          rw [if_neg (by rw [gt_iff_lt, Int64.lt_iff_toInt_lt]; omega), if_pos (by rw [← Int64.toInt_inj]; omega)]
        rw [e1]
        have S3 : ab_sat ρ tS tys nL (n, ab_cutL x.1 x.2 w.1 (ab_cutL y.1 y.2 w.2 en), hp, L, r) ls stk2 ws := ⟨ab_cutL_ok (ab_cutL_ok S.1 hylt hyb hyρ w3 w4) hxlt hxb hxρ w1 w2, S2.2⟩
        exact k _ (List.mem_append_right _ (List.mem_append_left _ (List.mem_map.mpr ⟨w, hw, rfl⟩))) _ ls (.int 0 :: stk2) ws (hI _ _ _ _ _ hi (ab_ext.up (.int 0))) (ab_sat_pushI S3 (by decide) (by decide) (Or.inl ⟨rfl, rfl⟩)) H locs hP hD hS
      · obtain ⟨w, hw, w1, w2, w3, w4⟩ := ab_rel_ok (c := .gt) hx1 hx2 hy1 hy2 q
        have e1 : lg_cmp x1 y1 = 1 := by
          unfold lg_cmp
          rw [if_pos (by rw [gt_iff_lt, Int64.lt_iff_toInt_lt]; omega)]
        rw [e1]
        have S3 : ab_sat ρ tS tys nL (n, ab_cutL x.1 x.2 w.1 (ab_cutL y.1 y.2 w.2 en), hp, L, r) ls stk2 ws := ⟨ab_cutL_ok (ab_cutL_ok S.1 hylt hyb hyρ w3 w4) hxlt hxb hxρ w1 w2, S2.2⟩
        exact k _ (List.mem_append_right _ (List.mem_append_right _ (List.mem_map.mpr ⟨w, hw, rfl⟩))) _ ls (.int 1 :: stk2) ws (hI _ _ _ _ _ hi (ab_ext.up (.int 1))) (ab_sat_pushI S3 (by decide) (by decide) (Or.inl ⟨rfl, rfl⟩)) H locs hP hD hS
    · cases h
end ABO
end
