noncomputable section
def ab_ch (c : Jvm.ClassFile.Cond) (x y : Int) : Prop := match c with
  | .eq => x = y
  | .ne => ¬ x = y
  | .lt => x < y
  | .ge => y ≤ x
  | .gt => y < x
  | .le => x ≤ y
def ab_not (c : Jvm.ClassFile.Cond) : Jvm.ClassFile.Cond := match c with
  | .eq => .ne
  | .ne => .eq
  | .lt => .ge
  | .ge => .lt
  | .gt => .le
  | .le => .gt
theorem ab_not_ch {c : Jvm.ClassFile.Cond} {x y : Int} (h : ¬ ab_ch c x y) : ab_ch (ab_not c) x y := by
  cases c <;> simp only [ab_ch, ab_not] at h ⊢ <;> omega
def ab_iv1 (l h : Int) : List ab_Iv := bif ab_le l h then [(l, h)] else []
theorem ab_iv1_in {l h x : Int} (h1 : l ≤ x) (h2 : x ≤ h) : (l, h) ∈ ab_iv1 l h := by
  unfold ab_iv1
  rw [show ab_le l h = true from ab_le_iff.mpr (by omega)]
  exact List.mem_cons_self
def ab_rel1 (a h l d : Int) (p : ab_Iv × ab_Iv) : List (ab_Iv × ab_Iv) := bif ab_le a h && ab_le l d then [p] else []
def ab_rel (c : Jvm.ClassFile.Cond) (a b l d : Int) : List (ab_Iv × ab_Iv) := match c with
  | .lt => ab_rel1 a (ab_min b (Int.sub d (.ofNat 1))) (ab_max l (Int.add a (.ofNat 1))) d ((a, ab_min b (Int.sub d (.ofNat 1))), (ab_max l (Int.add a (.ofNat 1)), d))
  | .gt => ab_rel1 (ab_max a (Int.add l (.ofNat 1))) b l (ab_min d (Int.sub b (.ofNat 1))) ((ab_max a (Int.add l (.ofNat 1)), b), (l, ab_min d (Int.sub b (.ofNat 1))))
  | .ge => ab_rel1 (ab_max a l) b l (ab_min d b) ((ab_max a l, b), (l, ab_min d b))
  | .le => ab_rel1 a (ab_min b d) (ab_max l a) d ((a, ab_min b d), (ab_max l a, d))
  | .eq => ab_rel1 (ab_max a l) (ab_min b d) (ab_max a l) (ab_min b d) ((ab_max a l, ab_min b d), (ab_max a l, ab_min b d))
  | .ne => bif ab_le d l then ((ab_iv1 a (ab_min b (Int.sub l (.ofNat 1)))) ++ ab_iv1 (ab_max a (Int.add l (.ofNat 1))) b).map (fun v => (v, (l, d)))
    else bif ab_le b a then ((ab_iv1 l (ab_min d (Int.sub a (.ofNat 1)))) ++ ab_iv1 (ab_max l (Int.add a (.ofNat 1))) d).map (fun v => ((a, b), v))
    else [((a, b), (l, d))]
theorem ab_rel1_in {a h l d x y : Int} {p : ab_Iv × ab_Iv} (h1 : a ≤ x) (h2 : x ≤ h) (h3 : l ≤ y) (h4 : y ≤ d) : p ∈ ab_rel1 a h l d p := by
  unfold ab_rel1
  rw [show (ab_le a h && ab_le l d) = true by rw [Bool.and_eq_true, ab_le_iff, ab_le_iff]; omega]
  exact List.mem_cons_self
theorem ab_rel_ok {c : Jvm.ClassFile.Cond} {a b l d x y : Int} (h1 : a ≤ x) (h2 : x ≤ b) (h3 : l ≤ y) (h4 : y ≤ d) (h : ab_ch c x y) : ∃ p ∈ ab_rel c a b l d, p.1.1 ≤ x ∧ x ≤ p.1.2 ∧ p.2.1 ≤ y ∧ y ≤ p.2.2 := by
  cases c with
  | lt =>
    simp only [ab_ch] at h
    unfold ab_rel
    simp only [ab_min_eq, ab_max_eq, ab_addE, ab_subE, ab_of1]
    exact ⟨_, ab_rel1_in (x := x) (y := y) (by omega) (by omega) (by omega) (by omega), by simp only; omega, by simp only; omega, by simp only; omega, by simp only; omega⟩
  | gt =>
    simp only [ab_ch] at h
    unfold ab_rel
    simp only [ab_min_eq, ab_max_eq, ab_addE, ab_subE, ab_of1]
    exact ⟨_, ab_rel1_in (x := x) (y := y) (by omega) (by omega) (by omega) (by omega), by simp only; omega, by simp only; omega, by simp only; omega, by simp only; omega⟩
  | ge =>
    simp only [ab_ch] at h
    unfold ab_rel
    simp only [ab_min_eq, ab_max_eq, ab_addE, ab_subE, ab_of1]
    exact ⟨_, ab_rel1_in (x := x) (y := y) (by omega) (by omega) (by omega) (by omega), by simp only; omega, by simp only; omega, by simp only; omega, by simp only; omega⟩
  | le =>
    simp only [ab_ch] at h
    unfold ab_rel
    simp only [ab_min_eq, ab_max_eq, ab_addE, ab_subE, ab_of1]
    exact ⟨_, ab_rel1_in (x := x) (y := y) (by omega) (by omega) (by omega) (by omega), by simp only; omega, by simp only; omega, by simp only; omega, by simp only; omega⟩
  | eq =>
    simp only [ab_ch] at h
    unfold ab_rel
    simp only [ab_min_eq, ab_max_eq, ab_addE, ab_subE, ab_of1]
    exact ⟨_, ab_rel1_in (x := x) (y := y) (by omega) (by omega) (by omega) (by omega), by simp only; omega, by simp only; omega, by simp only; omega, by simp only; omega⟩
  | ne =>
    simp only [ab_ch] at h
    unfold ab_rel
    simp only [ab_min_eq, ab_max_eq, ab_addE, ab_subE, ab_of1]
    cases k1 : ab_le d l with
    | true =>
      rw [ab_le_iff] at k1
      simp only [cond_true]
      rcases Int.lt_or_gt_of_ne h with q | q
      · exact ⟨_, List.mem_map.mpr ⟨_, List.mem_append_left _ (ab_iv1_in (x := x) (by omega) (by omega)), rfl⟩, by simp only; omega, by simp only; omega, by simp only; omega, by simp only; omega⟩
      · exact ⟨_, List.mem_map.mpr ⟨_, List.mem_append_right _ (ab_iv1_in (x := x) (by omega) (by omega)), rfl⟩, by simp only; omega, by simp only; omega, by simp only; omega, by simp only; omega⟩
    | false =>
      simp only [cond_false]
      cases k2 : ab_le b a with
      | true =>
        rw [ab_le_iff] at k2
        simp only [cond_true]
        rcases Int.lt_or_gt_of_ne h with q | q
        · exact ⟨_, List.mem_map.mpr ⟨_, List.mem_append_right _ (ab_iv1_in (x := y) (by omega) (by omega)), rfl⟩, by simp only; omega, by simp only; omega, by simp only; omega, by simp only; omega⟩
        · exact ⟨_, List.mem_map.mpr ⟨_, List.mem_append_left _ (ab_iv1_in (x := y) (by omega) (by omega)), rfl⟩, by simp only; omega, by simp only; omega, by simp only; omega, by simp only; omega⟩
      | false => exact ⟨_, List.mem_cons_self, h1, h2, h3, h4⟩
section ABW
variable (p : Program) (l : Launch) (e : Env) (R : Room) (s : State) (m : MethodId) (args : Array Value) (below : List Frame) (meth : Method) (c : Code) (D : va_G) (cl : List vw_C) (A : Nat → Prop) (Q : State → Prop)
/-- the machine goes on well from any heap that holds this world -/
def ab_W (cells slots pc : Nat) (ls : Array Slot) (stk : List Value) (ws : va_W) : Prop := ∀ (H : Heap) (locs : List Loc), va_P D cl ws H → va_D A ws → va_S A s.heap H locs → W p l e R s m args below meth c H locs cells slots Q (F0 m pc ls stk)
/-- well from every state that this abstract one stands for -/
def ab_Ok (I : (Nat → Value) → Nat → va_W → Prop) (tS : Nat) (tys : List (ClassId × FieldType)) (nL : Nat) (cells slots pc : Nat) (st : ab_St) : Prop := ∀ (ρ : Nat → Value) (ls : Array Slot) (stk : List Value) (ws : va_W), I ρ st.1 ws → ab_sat ρ tS tys nL st ls stk ws → ab_W p l e R s m args below meth c D cl A Q cells slots pc ls stk ws
end ABW
def ab_IE (I : (Nat → Value) → Nat → va_W → Prop) : Prop := ∀ ρ n ws ρ' n', I ρ n ws → ab_ext ρ ρ' n n' → I ρ' n' ws
/-- the sign of a field -/
def ab_fc (k f : Nat) : Nat := Nat.add 1000 (Nat.add (Nat.mul 64 k) f)
/-- an object stays one, and its fields change only where M lets it -/
def ab_fr (M : Nat → Bool) (k : Nat) (e e' : va_E) : Prop := match e with
  | .inr (ci, fs) => ∃ fs', e' = .inr (ci, fs') ∧ ∀ f, M (ab_fc k f) = false → fs'[f]? = fs[f]?
  | .inl _ => True
theorem ab_fr.refl {M : Nat → Bool} {k : Nat} {e : va_E} : ab_fr M k e e := by
  match e with
  | .inr (ci, fs) => exact ⟨fs, rfl, fun _ _ => rfl⟩
  | .inl _ => trivial
theorem ab_fr.trans {M : Nat → Bool} {k : Nat} {e e' e2 : va_E} (h : ab_fr M k e e') (g : ab_fr M k e' e2) : ab_fr M k e e2 := by
  match e, h with
  | .inr (ci, fs), ⟨fs', he, h2⟩ =>
    subst he
    obtain ⟨fs2, g1, g2⟩ := g
    exact ⟨fs2, g1, fun f hf => by rw [g2 f hf, h2 f hf]⟩
  | .inl _, _ => trivial
theorem ab_fr.weaken {M M' : Nat → Bool} {k : Nat} {e e' : va_E} (h : ab_fr M k e e') (hM : ∀ k, M k = true → M' k = true) : ab_fr M' k e e' := by
  match e, h with
  | .inr (ci, fs), ⟨fs', he, h2⟩ =>
    exact ⟨fs', he, fun f hf => h2 f (by
      cases hq : M (ab_fc k f) with
      | false => rfl
      | true => rw [hM _ hq] at hf; cases hf)⟩
  | .inl _, _ => trivial
def ab_IM (I : (Nat → Value) → Nat → va_W → Prop) (M : Nat → Bool) : Prop := ∀ ρ n ws k a e e', I ρ n ws → ws[k]? = some (a, e) → M k = true → ab_fr M k e e' → I ρ n (ws.set k (a, e'))
theorem ab_inQ_of {ρ : Nat → Value} {n : Nat} {e : ab_En} {v : ab_SV} {i : Nat} {q : ab_Q} {ad : List Nat} {tS : Nat} {x : Value} (he : ab_env ρ n e) (h : ab_num e false v = some (i, q)) (hv : ab_val ρ n ad tS v x) : ∃ y : Int32, x = .int y ∧ ρ i = .int y ∧ i < n ∧ ab_inQ ρ n y q := by
  obtain ⟨h1, h2, h3, y, h4, h5, h6, h7, h8⟩ := ab_numI he h hv
  exact ⟨y, h4, h5, h1, h6, h7, h3, h8⟩
/-- two ints off the stack, one on it -/
def ab_bin (f : Nat → ab_Q → ab_Q → Option ab_Q) (st : ab_St) : Option ab_St := match st with
  | (n, e, h, L, a :: b :: r) => match ab_num e false a, ab_num e false b with
    | some y, some x => match f n x.2 y.2 with
      | some q => some (ab_push false q n e h L r)
      | none => none
    | _, _ => none
  | _ => none
def ab_binL (f : Nat → ab_Q → ab_Q → Option ab_Q) (st : ab_St) : Option ab_St := match st with
  | (n, e, h, L, a :: b :: r) => match ab_num e true a, ab_num e true b with
    | some y, some x => match f n x.2 y.2 with
      | some q => some (ab_push true q n e h L r)
      | none => none
    | _, _ => none
  | _ => none
section ABI
variable {p : Program} {l : Launch} {e : Env} {R : Room} {s : State} {m : MethodId} {args : Array Value} {below : List Frame} {meth : Method} {c : Code} {D : va_G} {cl : List vw_C} {A : Nat → Prop} {Q : State → Prop}
variable {I : (Nat → Value) → Nat → va_W → Prop} {tS : Nat} {tys : List (ClassId × FieldType)} {nL cells slots pc pc' : Nat} {st st' : ab_St}
theorem ab_s_bin (hI : ab_IE I) (f : Nat → ab_Q → ab_Q → Option ab_Q) (op : Int32 → Int32 → Int32) (P : Int32 → Int32 → Prop) (hf : ∀ ρ n x y a b q, ab_inQ ρ n x a → ab_inQ ρ n y b → f n a b = some q → P x y ∧ ab_okQ ρ n (op x y) q)
    (row : ∀ (x y : Int32) (H : Heap) (locs : List Loc) (ls : Array Slot) (rest : List Value), P x y → W p l e R s m args below meth c H locs cells slots Q (F0 m pc' ls (.int (op x y) :: rest)) → W p l e R s m args below meth c H locs cells slots Q (F0 m pc ls (.int y :: .int x :: rest)))
    (h : ab_bin f st = some st') (k : ab_Ok p l e R s m args below meth c D cl A Q I tS tys nL cells slots pc' st') : ab_Ok p l e R s m args below meth c D cl A Q I tS tys nL cells slots pc st := by
  match st, h with
  | (n, en, hp, L, a :: b :: r), h =>
    simp only [ab_bin] at h
    split at h
    · rename_i y x hy hx
      split at h
      · rename_i q hq
        cases h
        intro ρ ls stk ws hi S H locs hP hD hS
        obtain ⟨va, stk1, rfl, hva, S1⟩ := ab_sat_top S
        obtain ⟨vb, stk2, rfl, hvb, S2⟩ := ab_sat_top S1
        obtain ⟨y1, rfl, -, -, hy2⟩ := ab_inQ_of S.1 hy hva
        obtain ⟨x1, rfl, -, -, hx2⟩ := ab_inQ_of S.1 hx hvb
        obtain ⟨hp1, hq1, hq2, hq3⟩ := hf _ _ _ _ _ _ _ hx2 hy2 hq
        obtain ⟨lo, hi', bb, o⟩ := q
        exact row _ _ _ _ _ _ hp1 (k _ _ _ _ (hI _ _ _ _ _ hi (ab_ext.up _)) (ab_sat_pushI S2 hq1 hq2 hq3) H locs hP hD hS)
      · cases h
    · cases h
  | (n, en, hp, L, []), h => simp [ab_bin] at h
  | (n, en, hp, L, [a]), h => simp [ab_bin] at h
theorem ab_s_binL (hI : ab_IE I) (f : Nat → ab_Q → ab_Q → Option ab_Q) (op : Int64 → Int64 → Int64) (P : Int64 → Int64 → Prop) (hf : ∀ n x y (a b q : ab_Q), a.1 ≤ x.toInt → x.toInt ≤ a.2.1 → b.1 ≤ y.toInt → y.toInt ≤ b.2.1 → f n a b = some q → P x y ∧ ab_okL n (op x y) q)
    (row : ∀ (x y : Int64) (H : Heap) (locs : List Loc) (ls : Array Slot) (rest : List Value), P x y → W p l e R s m args below meth c H locs cells slots Q (F0 m pc' ls (.long (op x y) :: rest)) → W p l e R s m args below meth c H locs cells slots Q (F0 m pc ls (.long y :: .long x :: rest)))
    (h : ab_binL f st = some st') (k : ab_Ok p l e R s m args below meth c D cl A Q I tS tys nL cells slots pc' st') : ab_Ok p l e R s m args below meth c D cl A Q I tS tys nL cells slots pc st := by
  match st, h with
  | (n, en, hp, L, a :: b :: r), h =>
    simp only [ab_binL] at h
    split at h
    · rename_i y x hy hx
      split at h
      · rename_i q hq
        cases h
        intro ρ ls stk ws hi S H locs hP hD hS
        obtain ⟨va, stk1, rfl, hva, S1⟩ := ab_sat_top S
        obtain ⟨vb, stk2, rfl, hvb, S2⟩ := ab_sat_top S1
        obtain ⟨-, -, -, y1, rfl, -, hy2, hy3⟩ := ab_numL S.1 hy hva
        obtain ⟨-, -, -, x1, rfl, -, hx2, hx3⟩ := ab_numL S.1 hx hvb
        obtain ⟨hp1, hq1, hq2, hq3⟩ := hf n _ _ _ _ _ hx2 hx3 hy2 hy3 hq
        obtain ⟨lo, hi', bb, o⟩ := q
        simp only at hq3
        subst hq3
        exact row _ _ _ _ _ _ hp1 (k _ _ _ _ (hI _ _ _ _ _ hi (ab_ext.up _)) (ab_sat_pushL S2 hq1 hq2) H locs hP hD hS)
      · cases h
    · cases h
  | (n, en, hp, L, []), h => simp [ab_binL] at h
  | (n, en, hp, L, [a]), h => simp [ab_binL] at h
/-- a constant on the stack -/
def ab_kI (v : Int) (st : ab_St) : ab_St := ab_push false (v, v, st.1, .ofNat 0) st.1 st.2.1 st.2.2.1 st.2.2.2.1 st.2.2.2.2
def ab_kL (v : Int) (st : ab_St) : ab_St := ab_push true (v, v, st.1, .ofNat 0) st.1 st.2.1 st.2.2.1 st.2.2.2.1 st.2.2.2.2
theorem ab_s_kI (hI : ab_IE I) (v : Int32) {z : Int} (hz : v.toInt = z)
    (row : ∀ (H : Heap) (locs : List Loc) (ls : Array Slot) (rest : List Value), W p l e R s m args below meth c H locs cells slots Q (F0 m pc' ls (.int v :: rest)) → W p l e R s m args below meth c H locs cells slots Q (F0 m pc ls rest))
    (k : ab_Ok p l e R s m args below meth c D cl A Q I tS tys nL cells slots pc' (ab_kI z st)) : ab_Ok p l e R s m args below meth c D cl A Q I tS tys nL cells slots pc st := by
  intro ρ ls stk ws hi S H locs hP hD hS
  obtain ⟨n, en, hp, L, r⟩ := st
  exact row _ _ _ _ (k _ _ _ _ (hI _ _ _ _ _ hi (ab_ext.up (.int v))) (ab_sat_pushI S (by omega) (by omega) (Or.inl ⟨rfl, rfl⟩)) H locs hP hD hS)
theorem ab_s_kL (hI : ab_IE I) (v : Int64) {z : Int} (hz : v.toInt = z)
    (row : ∀ (H : Heap) (locs : List Loc) (ls : Array Slot) (rest : List Value), W p l e R s m args below meth c H locs cells slots Q (F0 m pc' ls (.long v :: rest)) → W p l e R s m args below meth c H locs cells slots Q (F0 m pc ls rest))
    (k : ab_Ok p l e R s m args below meth c D cl A Q I tS tys nL cells slots pc' (ab_kL z st)) : ab_Ok p l e R s m args below meth c D cl A Q I tS tys nL cells slots pc st := by
  intro ρ ls stk ws hi S H locs hP hD hS
  obtain ⟨n, en, hp, L, r⟩ := st
  exact row _ _ _ _ (k _ _ _ _ (hI _ _ _ _ _ hi (ab_ext.up (.long v))) (ab_sat_pushL S (by omega) (by omega)) H locs hP hD hS)
/-- a local on the stack: lg 0 an int, 1 a long, 2 a reference -/
def ab_ldv (kind : Nat) (e : ab_En) (v : ab_SV) : Bool := match kind, v with
  | 0, some (.inl i) => (match ab_eg e i with
    | some q => !q.1
    | none => false)
  | 1, some (.inl i) => (match ab_eg e i with
    | some q => q.1
    | none => false)
  | 2, some (.inr _) => true
  | _, _ => false
theorem ab_ldv_none {kind : Nat} {e : ab_En} : ab_ldv kind e none = false := by
  match kind with
  | 0 => rfl
  | 1 => rfl
  | 2 => rfl
  | k + 3 => rfl
def ab_load (kind i : Nat) (st : ab_St) : Option ab_St := match st.2.2.2.1[i]? with
  | some v => bif ab_ldv kind st.2.1 v then some (st.1, st.2.1, st.2.2.1, st.2.2.2.1, v :: st.2.2.2.2) else none
  | none => none
def ab_kind (kind : Nat) (x : Value) : Prop := match kind with
  | 0 => ∃ y : Int32, x = .int y
  | 1 => ∃ y : Int64, x = .long y
  | _ => ∃ a : Nat, x = .ref a
theorem ab_ldv_ok {ρ : Nat → Value} {n : Nat} {ad : List Nat} {kind : Nat} {e : ab_En} {v : ab_SV} {x : Value} (he : ab_env ρ n e) (h : ab_ldv kind e v = true) (hv : ab_val ρ n ad tS v x) : ab_kind kind x ∧ ∃ w, v = some w := by
  unfold ab_ldv at h
  split at h
  · rename_i i
    split at h
    · rename_i q hq
      have h2 := he _ (ab_eg_mem hq)
      rcases h2.2.2 with ⟨b, -⟩ | ⟨-, y, b1, -⟩
      · rw [b] at h; cases h
      · exact ⟨⟨y, by rw [hv.2]; exact b1⟩, _, rfl⟩
    · cases h
  · rename_i i
    split at h
    · rename_i q hq
      have h2 := he _ (ab_eg_mem hq)
      rcases h2.2.2 with ⟨-, y, b1, -⟩ | ⟨b, -⟩
      · exact ⟨⟨y, by rw [hv.2]; exact b1⟩, _, rfl⟩
      · rw [b] at h; cases h
    · cases h
  · rename_i w
    match w, hv with
    | .inl ks, hv =>
      obtain ⟨k, a, -, -, h3⟩ := hv
      exact ⟨⟨a, h3⟩, _, rfl⟩
    | .inr _, hv => exact ⟨⟨tS, hv⟩, _, rfl⟩
  · cases h
theorem ab_s_load {kind i : Nat}
    (row : ∀ (x : Value) (H : Heap) (locs : List Loc) (ls : Array Slot) (rest : List Value), ab_kind kind x → ls[i]? = some (Slot.val x) → W p l e R s m args below meth c H locs cells slots Q (F0 m pc' ls (x :: rest)) → W p l e R s m args below meth c H locs cells slots Q (F0 m pc ls rest))
    (h : ab_load kind i st = some st') (k : ab_Ok p l e R s m args below meth c D cl A Q I tS tys nL cells slots pc' st') : ab_Ok p l e R s m args below meth c D cl A Q I tS tys nL cells slots pc st := by
  obtain ⟨n, en, hp, L, r⟩ := st
  simp only [ab_load] at h
  split at h
  · rename_i v hv
    cases hb : ab_ldv kind en v with
    | false => rw [hb] at h; simp at h
    | true =>
      rw [hb] at h
      simp only [cond_true] at h
      cases h
      intro ρ ls stk ws hi S H locs hP hD hS
      match v, hb, hv with
      | none, hb, hv =>
        rw [ab_ldv_none] at hb
        cases hb
      | some w, hb, hv =>
        obtain ⟨x, hx, hx2⟩ := S.2.2.1.2.2.2 i w hv
        obtain ⟨hk, -⟩ := ab_ldv_ok S.1 hb hx2
        exact row x _ _ _ _ hk hx (k ρ ls (x :: stk) ws hi ⟨S.1, S.2.1, S.2.2.1, hx2, S.2.2.2⟩ H locs hP hD hS)
  · cases h
/-- the top of the stack into a local of one slot -/
def ab_store (kind i nL : Nat) (st : ab_St) : Option ab_St := match st with
  | (n, e, h, L, a :: r) => bif ab_ldv kind e a && Nat.blt i nL then some (n, e, h, (ab_clr e L i).set i a, r) else none
  | _ => none
def ab_storeL (i nL : Nat) (st : ab_St) : Option ab_St := match st with
  | (n, e, h, L, a :: r) => bif ab_ldv 1 e a && Nat.blt (i + 1) nL then some (n, e, h, ((ab_clr e L i).set i a).set (i + 1) none, r) else none
  | _ => none
theorem ab_s_store {kind i : Nat}
    (row : ∀ (x : Value) (H : Heap) (locs : List Loc) (ls : Array Slot) (rest : List Value), ab_kind kind x → i < nL → lv_has ls nL (ab_knowns ls) → (∀ ls' : Array Slot, lv_has ls' nL ((i, x) :: (ab_knowns ls).filter (fun q => !(q.1 == i) && !(q.1 + 1 == i && q.2.category == 2))) → W p l e R s m args below meth c H locs cells slots Q (F0 m pc' ls' rest)) → W p l e R s m args below meth c H locs cells slots Q (F0 m pc ls (x :: rest)))
    (h : ab_store kind i nL st = some st') (k : ab_Ok p l e R s m args below meth c D cl A Q I tS tys nL cells slots pc' st') : ab_Ok p l e R s m args below meth c D cl A Q I tS tys nL cells slots pc st := by
  match st, h with
  | (n, en, hp, L, []), h => simp [ab_store] at h
  | (n, en, hp, L, a :: r), h =>
    simp only [ab_store] at h
    cases hb : (ab_ldv kind en a && Nat.blt i nL) with
    | false => rw [hb] at h; simp at h
    | true =>
      rw [hb] at h
      simp only [cond_true] at h
      cases h
      rw [Bool.and_eq_true] at hb
      intro ρ ls stk ws hi S H locs hP hD hS
      obtain ⟨va, stk1, rfl, hva, S1⟩ := ab_sat_top S
      have hlt : i < nL := by simpa [Nat.blt_eq] using hb.2
      have hw := ab_knowns_has (ls := ls) S.2.2.1.2.1
      have hsz : ls.size = nL := S.2.2.1.1
      rw [hsz] at hw
      refine row va _ _ _ _ (ab_ldv_ok S.1 hb.1 hva).1 hlt hw (fun ls' h' => ?_)
      exact k ρ _ _ _ hi ⟨S1.1, S1.2.1, ab_loc_st1 S.1 S.2.2.1 hva hlt h', S1.2.2.2⟩ H locs hP hD hS
theorem ab_s_storeL {i : Nat}
    (row : ∀ (x : Int64) (H : Heap) (locs : List Loc) (ls : Array Slot) (rest : List Value), i + 1 < nL → lv_has ls nL (ab_knowns ls) → (∀ ls' : Array Slot, lv_has ls' nL ((i, Value.long x) :: (ab_knowns ls).filter (fun q => !(q.1 == i) && (!(q.1 == i + 1) && !(q.1 + 1 == i && q.2.category == 2)))) → W p l e R s m args below meth c H locs cells slots Q (F0 m pc' ls' rest)) → W p l e R s m args below meth c H locs cells slots Q (F0 m pc ls (.long x :: rest)))
    (h : ab_storeL i nL st = some st') (k : ab_Ok p l e R s m args below meth c D cl A Q I tS tys nL cells slots pc' st') : ab_Ok p l e R s m args below meth c D cl A Q I tS tys nL cells slots pc st := by
  match st, h with
  | (n, en, hp, L, []), h => simp [ab_storeL] at h
  | (n, en, hp, L, a :: r), h =>
    simp only [ab_storeL] at h
    cases hb : (ab_ldv 1 en a && Nat.blt (i + 1) nL) with
    | false => rw [hb] at h; simp at h
    | true =>
      rw [hb] at h
      simp only [cond_true] at h
      cases h
      rw [Bool.and_eq_true] at hb
      intro ρ ls stk ws hi S H locs hP hD hS
      obtain ⟨va, stk1, rfl, hva, S1⟩ := ab_sat_top S
      have hlt : i + 1 < nL := by simpa [Nat.blt_eq] using hb.2
      have hw := ab_knowns_has (ls := ls) S.2.2.1.2.1
      have hsz : ls.size = nL := S.2.2.1.1
      rw [hsz] at hw
      obtain ⟨⟨x, rfl⟩, -⟩ := ab_ldv_ok S.1 hb.1 hva
      refine row x _ _ _ _ hlt hw (fun ls' h' => ?_)
      exact k ρ _ _ _ hi ⟨S1.1, S1.2.1, ab_loc_st2 S.1 S.2.2.1 hva hlt h', S1.2.2.2⟩ H locs hP hD hS
/-- iinc -/
def ab_inc (i : Nat) (z : Int) (nL : Nat) (st : ab_St) : Option ab_St := match st with
  | (n, e, h, L, r) => match L[i]? with
    | some v => (match ab_num e false v with
      | some x => (match ab_addQ n x.2 (z, z, n, .ofNat 0) with
        | some q => bif Nat.blt i nL && ab_i32 z z then some (n + 1, (n, false, q) :: e, h, (ab_clr e L i).set i (some (.inl n)), r) else none
        | none => none)
      | none => none)
    | none => none
theorem ab_s_inc (hI : ab_IE I) {i : Nat} {z : Int}
    (row : ∀ (x : Int32) (H : Heap) (locs : List Loc) (ls : Array Slot) (rest : List Value) (k : Nat), (ab_knowns ls)[k]? = some (i, .int x) → i < nL → lv_has ls nL (ab_knowns ls) → (∀ ls' : Array Slot, lv_has ls' nL ((i, Value.int (x + Int32.ofInt z)) :: (ab_knowns ls).filter (fun q => !(q.1 == i) && !(q.1 + 1 == i && q.2.category == 2))) → W p l e R s m args below meth c H locs cells slots Q (F0 m pc' ls' rest)) → W p l e R s m args below meth c H locs cells slots Q (F0 m pc ls rest))
    (h : ab_inc i z nL st = some st') (k : ab_Ok p l e R s m args below meth c D cl A Q I tS tys nL cells slots pc' st') : ab_Ok p l e R s m args below meth c D cl A Q I tS tys nL cells slots pc st := by
  obtain ⟨n, en, hp, L, r⟩ := st
  simp only [ab_inc] at h
  split at h
  · rename_i v hv
    split at h
    · rename_i xx hxx
      split at h
      · rename_i q hq
        cases hb : (Nat.blt i nL && ab_i32 z z) with
        | false => rw [hb] at h; simp at h
        | true =>
          rw [hb] at h
          simp only [cond_true] at h
          cases h
          rw [Bool.and_eq_true, ab_i32_iff] at hb
          have hlt : i < nL := by simpa [Nat.blt_eq] using hb.1
          intro ρ ls stk ws hi S H locs hP hD hS
          obtain ⟨j, x⟩ := xx
          obtain ⟨hv1, -⟩ := ab_num_spec hxx
          subst hv1
          obtain ⟨y, hy, hy2⟩ := S.2.2.1.2.2.2 i _ hv
          obtain ⟨y1, rfl, -, -, hy3⟩ := ab_inQ_of S.1 hxx hy2
          obtain ⟨kk, hkk⟩ := List.getElem?_of_mem (ab_knowns_in hy)
          have hw := ab_knowns_has (ls := ls) S.2.2.1.2.1
          have hsz : ls.size = nL := S.2.2.1.1
          rw [hsz] at hw
          have hz : (Int32.ofInt z).toInt = z := by rw [Int32.toInt_ofInt]; exact ab_bm hb.2.1 hb.2.2
          have E := @ab_ext.up ρ n (.int (Int32.ofInt z))
          have hyE : ab_inQ (ab_up ρ n (.int (Int32.ofInt z))) (n + 1) y1 x := by
            obtain ⟨a1, a2, a3, zz, a4, a5⟩ := hy3
            exact ⟨a1, a2, Nat.lt_succ_of_lt a3, zz, by rw [ab_up_lt a3]; exact a4, a5⟩
          have hzE : ab_inQ (ab_up ρ n (.int (Int32.ofInt z))) (n + 1) (Int32.ofInt z) (z, z, n, .ofNat 0) := ⟨by simp only; omega, by simp only; omega, Nat.lt_succ_self _, _, ab_up_self, by simp only [ab_of0]; omega⟩
          have hr : ab_okQ ρ n (y1 + Int32.ofInt z) q := by
            unfold ab_addQ at hq
            cases hq
            simp only [ab_addE]
            cases hc : ab_i32 (x.1 + z) (x.2.1 + z) with
            | false => exact ab_full_ok
            | true =>
              rw [ab_i32_iff] at hc
              obtain ⟨x1, x2, x3, zx, x4, x5⟩ := hy3
              have e : (y1 + Int32.ofInt z).toInt = y1.toInt + z := by rw [Int32.toInt_add, hz]; exact ab_bm (by omega) (by omega)
              rw [show ab_le z z = true from ab_le_iff.mpr (Int.le_refl _)]
              exact ⟨by simp only [cond_true]; omega, by simp only [cond_true]; omega, Or.inr ⟨x3, zx, x4, by simp only [cond_true]; omega⟩⟩
          refine row y1 _ _ _ _ kk hkk hlt hw (fun ls' h' => ?_)
          obtain ⟨lo, hi', bb, o⟩ := q
          have S0 := ab_sat_pushI S hr.1 hr.2.1 hr.2.2
          refine k _ _ _ _ (hI _ _ _ _ _ hi (ab_ext.up (.int (y1 + Int32.ofInt z)))) ⟨S0.1, S0.2.1, ?_, S0.2.2.2.2⟩ H locs hP hD hS
          have hE := ab_env_ext (@ab_ext.up ρ n (.int (y1 + Int32.ofInt z))) S.1
          exact ab_loc_st1 hE S0.2.2.1 (v := some (.inl n)) ⟨Nat.lt_succ_self _, ab_up_self.symm⟩ hlt h'
      · cases h
    · cases h
  · cases h
end ABI
end
