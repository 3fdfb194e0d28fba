noncomputable section
def ab_ext (ρ ρ' : Nat → Value) (n n' : Nat) : Prop := n ≤ n' ∧ ∀ i, i < n → ρ' i = ρ i
theorem ab_ext.refl {ρ : Nat → Value} {n : Nat} : ab_ext ρ ρ n n := ⟨Nat.le_refl _, fun _ _ => rfl⟩
theorem ab_ext.trans {ρ ρ' ρ2 : Nat → Value} {n n' n2 : Nat} (h : ab_ext ρ ρ' n n') (k : ab_ext ρ' ρ2 n' n2) : ab_ext ρ ρ2 n n2 :=
  ⟨Nat.le_trans h.1 k.1, fun i hi => by rw [k.2 i (Nat.lt_of_lt_of_le hi h.1), h.2 i hi]⟩
theorem ab_ext.up {ρ : Nat → Value} {n : Nat} (x : Value) : ab_ext ρ (ab_up ρ n x) n (n + 1) := ⟨Nat.le_succ _, fun _ hi => ab_up_lt hi⟩
theorem ab_val_ext {ρ ρ' : Nat → Value} {n n' : Nat} (h : ab_ext ρ ρ' n n') {ad : List Nat} {tS : Nat} {v : ab_SV} {x : Value} (k : ab_val ρ n ad tS v x) : ab_val ρ' n' ad tS v x := by
  match v, k with
  | none, _ => trivial
  | some (.inl i), k => exact ⟨Nat.lt_of_lt_of_le k.1 h.1, by rw [h.2 i k.1]; exact k.2⟩
  | some (.inr (.inl ks)), k => exact k
  | some (.inr (.inr _)), k => exact k
theorem ab_evok_ext {ρ ρ' : Nat → Value} {n n' : Nat} (h : ab_ext ρ ρ' n n') {q : Nat × ab_EV} (k : ab_evok ρ n q) : ab_evok ρ' n' q := by
  obtain ⟨h1, h2, h3⟩ := k
  refine ⟨Nat.lt_of_lt_of_le h1 h.1, Nat.lt_of_lt_of_le h2 h.1, ?_⟩
  rw [h.2 _ h1, h.2 _ h2]
  exact h3
theorem ab_env_ext {ρ ρ' : Nat → Value} {n n' : Nat} (h : ab_ext ρ ρ' n n') {e : ab_En} (k : ab_env ρ n e) : ab_env ρ' n' e := fun q hq => ab_evok_ext h (k q hq)
theorem ab_acok_ext {ρ ρ' : Nat → Value} {n n' : Nat} (h : ab_ext ρ ρ' n n') {ad : List Nat} {tS : Nat} {tys : List (ClassId × FieldType)} {c : ab_AC} {e : va_E} (k : ab_acok ρ n ad tS tys c e) : ab_acok ρ' n' ad tS tys c e := by
  match e, k with
  | .inr (ci, fs), ⟨h1, h2, svs, h3, h4⟩ => exact ⟨h1, h2, svs, h3, ab_all2_mono (fun _ _ q => ab_val_ext h q) h4⟩
  | .inl (cA, N, .inl f), ⟨h1, h2, h3⟩ =>
    refine ⟨h1, h2, ?_⟩
    rcases h3 with h3 | ⟨ids, h3, h4, h5⟩ | h3
    · exact Or.inl h3
    · exact Or.inr (Or.inl ⟨ids, h3, h4, fun i k hk => ⟨Nat.lt_of_lt_of_le (h5 i k hk).1 h.1, by rw [h.2 k (h5 i k hk).1]; exact (h5 i k hk).2⟩⟩)
    · exact Or.inr (Or.inr h3)
  | .inl (cA, N, .inr (.inl f)), ⟨h1, h2, h3⟩ =>
    refine ⟨h1, h2, ?_⟩
    rcases h3 with h3 | ⟨ids, h3, h4, h5⟩
    · exact Or.inl h3
    · exact Or.inr ⟨ids, h3, h4, fun i k hk => ⟨Nat.lt_of_lt_of_le (h5 i k hk).1 h.1, by rw [h.2 k (h5 i k hk).1]; exact (h5 i k hk).2⟩⟩
  | .inl (cA, N, .inr (.inr (.inr (.inr f)))), k => exact k
  | .inl (cA, N, .inr (.inr (.inl f))), k => exact k.elim
  | .inl (cA, N, .inr (.inr (.inr (.inl f)))), k => exact k.elim
theorem ab_heap_ext {ρ ρ' : Nat → Value} {n n' : Nat} (h : ab_ext ρ ρ' n n') {tS : Nat} {tys : List (ClassId × FieldType)} {hp : ab_AH} {ws : va_W} (k : ab_heap ρ n tS tys hp ws) : ab_heap ρ' n' tS tys hp ws := fun i c hc => by
  obtain ⟨a, e, h1, h2⟩ := k i c hc
  exact ⟨a, e, h1, ab_acok_ext h h2⟩
theorem ab_loc_ext {ρ ρ' : Nat → Value} {n n' : Nat} (h : ab_ext ρ ρ' n n') {ad : List Nat} {tS nL : Nat} {L : List ab_SV} {ls : Array Slot} (k : ab_loc ρ n ad tS nL L ls) : ab_loc ρ' n' ad tS nL L ls :=
  ⟨k.1, k.2.1, k.2.2.1, fun i v hv => by
    obtain ⟨x, h1, h2⟩ := k.2.2.2 i v hv
    exact ⟨x, h1, ab_val_ext h h2⟩⟩
theorem ab_stk_ext {ρ ρ' : Nat → Value} {n n' : Nat} (h : ab_ext ρ ρ' n n') {ad : List Nat} {tS : Nat} {L : List ab_SV} {st : List Value} (k : ab_all2 (ab_val ρ n ad tS) L st) : ab_all2 (ab_val ρ' n' ad tS) L st := ab_all2_mono (fun _ _ q => ab_val_ext h q) k
/-- a number of a known kind -/
theorem ab_numI {ρ : Nat → Value} {n : Nat} {e : ab_En} {v : ab_SV} {i : Nat} {q : ab_Q} {ad : List Nat} {tS : Nat} {x : Value} (he : ab_env ρ n e) (h : ab_num e false v = some (i, q)) (hv : ab_val ρ n ad tS v x) :
    i < n ∧ v = some (.inl i) ∧ q.2.2.1 < n ∧ ∃ y : Int32, x = .int y ∧ ρ i = .int y ∧ q.1 ≤ y.toInt ∧ y.toInt ≤ q.2.1 ∧ ∃ z : Int32, ρ q.2.2.1 = .int z ∧ y.toInt = z.toInt + q.2.2.2 := by
  obtain ⟨h1, h2⟩ := ab_num_spec h
  subst h1
  have h3 := he _ h2
  obtain ⟨a1, a2, a3⟩ := h3
  rcases a3 with ⟨b, -⟩ | ⟨-, y, b1, b2, b3, b4⟩
  · cases b
  · exact ⟨a1, rfl, a2, y, by rw [hv.2]; exact b1, b1, b2, b3, b4⟩
theorem ab_numL {ρ : Nat → Value} {n : Nat} {e : ab_En} {v : ab_SV} {i : Nat} {q : ab_Q} {ad : List Nat} {tS : Nat} {x : Value} (he : ab_env ρ n e) (h : ab_num e true v = some (i, q)) (hv : ab_val ρ n ad tS v x) :
    i < n ∧ v = some (.inl i) ∧ q.2.2.1 < n ∧ ∃ y : Int64, x = .long y ∧ ρ i = .long y ∧ q.1 ≤ y.toInt ∧ y.toInt ≤ q.2.1 := by
  obtain ⟨h1, h2⟩ := ab_num_spec h
  subst h1
  have h3 := he _ h2
  obtain ⟨a1, a2, a3⟩ := h3
  rcases a3 with ⟨-, y, b1, b2, b3⟩ | ⟨b, -⟩
  · exact ⟨a1, rfl, a2, y, by rw [hv.2]; exact b1, b1, b2, b3⟩
  · cases b
/-- the stack with a new number on it -/
def ab_push (lg : Bool) (q : ab_Q) (n : Nat) (e : ab_En) (h : ab_AH) (L r : List ab_SV) : ab_St := (n + 1, (n, lg, q) :: e, h, L, some (.inl n) :: r)
theorem ab_sat_pushI {ρ : Nat → Value} {tS nL n : Nat} {tys : List (ClassId × FieldType)} {e : ab_En} {h : ab_AH} {L r : List ab_SV} {ls : Array Slot} {stk : List Value} {ws : va_W} (S : ab_sat ρ tS tys nL (n, e, h, L, r) ls stk ws) {y : Int32} {lo hi o : Int} {b : Nat} (h1 : lo ≤ y.toInt) (h2 : y.toInt ≤ hi)
    (hb : (b = n ∧ o = 0) ∨ (b < n ∧ ∃ z : Int32, ρ b = .int z ∧ y.toInt = z.toInt + o)) :
    ab_sat (ab_up ρ n (.int y)) tS tys nL (ab_push false (lo, hi, b, o) n e h L r) ls (.int y :: stk) ws := by
  obtain ⟨a1, a2, a3, a4⟩ := S
  have E := @ab_ext.up ρ n (.int y)
  refine ⟨?_, ab_heap_ext E a2, ab_loc_ext E a3, ⟨⟨Nat.lt_succ_self _, ab_up_self.symm⟩, ab_stk_ext E a4⟩⟩
  intro q hq
  rcases List.mem_cons.mp hq with rfl | hq
  · refine ⟨Nat.lt_succ_self _, ?_, Or.inr ⟨rfl, y, ab_up_self, h1, h2, ?_⟩⟩
    · rcases hb with ⟨rfl, -⟩ | ⟨hb, -⟩
      · exact Nat.lt_succ_self _
      · exact Nat.lt_succ_of_lt hb
    · rcases hb with ⟨rfl, rfl⟩ | ⟨hb, z, hz, hy⟩
      · exact ⟨y, ab_up_self, by simp⟩
      · exact ⟨z, by show ab_up ρ n _ b = _; rw [ab_up_lt hb]; exact hz, hy⟩
  · exact ab_evok_ext E (a1 q hq)
theorem ab_sat_pushL {ρ : Nat → Value} {tS nL n : Nat} {tys : List (ClassId × FieldType)} {e : ab_En} {h : ab_AH} {L r : List ab_SV} {ls : Array Slot} {stk : List Value} {ws : va_W} (S : ab_sat ρ tS tys nL (n, e, h, L, r) ls stk ws) {y : Int64} {lo hi o : Int} (h1 : lo ≤ y.toInt) (h2 : y.toInt ≤ hi) :
    ab_sat (ab_up ρ n (.long y)) tS tys nL (ab_push true (lo, hi, n, o) n e h L r) ls (.long y :: stk) ws := by
  obtain ⟨a1, a2, a3, a4⟩ := S
  have E := @ab_ext.up ρ n (.long y)
  refine ⟨?_, ab_heap_ext E a2, ab_loc_ext E a3, ⟨⟨Nat.lt_succ_self _, ab_up_self.symm⟩, ab_stk_ext E a4⟩⟩
  intro q hq
  rcases List.mem_cons.mp hq with rfl | hq
  · exact ⟨Nat.lt_succ_self _, Nat.lt_succ_self _, Or.inl ⟨rfl, y, ab_up_self, h1, h2⟩⟩
  · exact ab_evok_ext E (a1 q hq)
/-- a number becomes better known -/
def ab_cut (i : Nat) (lg : Bool) (q : ab_Q) (st : ab_St) : ab_St := (st.1, (i, lg, q) :: st.2.1, st.2.2)
theorem ab_sat_cut {ρ : Nat → Value} {tS nL : Nat} {tys : List (ClassId × FieldType)} {st : ab_St} {ls : Array Slot} {stk : List Value} {ws : va_W} (S : ab_sat ρ tS tys nL st ls stk ws) {i : Nat} {lg : Bool} {q : ab_Q} (h : ab_evok ρ st.1 (i, lg, q)) : ab_sat ρ tS tys nL (ab_cut i lg q st) ls stk ws := by
  obtain ⟨a1, a2, a3, a4⟩ := S
  refine ⟨fun w hw => ?_, a2, a3, a4⟩
  rcases List.mem_cons.mp hw with rfl | hw
  · exact h
  · exact a1 w hw
theorem ab_sat_rest {ρ : Nat → Value} {tS nL n : Nat} {tys : List (ClassId × FieldType)} {e : ab_En} {h : ab_AH} {L r : List ab_SV} {ls : Array Slot} {stk : List Value} {ws : va_W} {v : ab_SV} {x : Value} (S : ab_sat ρ tS tys nL (n, e, h, L, v :: r) ls (x :: stk) ws) : ab_sat ρ tS tys nL (n, e, h, L, r) ls stk ws := ⟨S.1, S.2.1, S.2.2.1, S.2.2.2.2⟩
theorem ab_sat_top {ρ : Nat → Value} {tS nL n : Nat} {tys : List (ClassId × FieldType)} {e : ab_En} {h : ab_AH} {L r : List ab_SV} {ls : Array Slot} {stk : List Value} {ws : va_W} {v : ab_SV} (S : ab_sat ρ tS tys nL (n, e, h, L, v :: r) ls stk ws) : ∃ x stk', stk = x :: stk' ∧ ab_val ρ n (ws.map (·.1)) tS v x ∧ ab_sat ρ tS tys nL (n, e, h, L, r) ls stk' ws := by
  match stk, S with
  | [], S => exact S.2.2.2.elim
  | x :: t, S => exact ⟨x, t, rfl, S.2.2.2.1, ab_sat_rest S⟩
/-- the locals behind a store -/
def ab_knowns (ls : Array Slot) : List (Nat × Value) := (List.range ls.size).filterMap (fun i => match ls[i]? with
  | some (Slot.val v) => some (i, v)
  | _ => none)
theorem ab_knowns_in {ls : Array Slot} {i : Nat} {v : Value} (h : ls[i]? = some (Slot.val v)) : (i, v) ∈ ab_knowns ls := by
  refine List.mem_filterMap.mpr ⟨i, List.mem_range.mpr (lv_lt h), ?_⟩
  rw [h]
theorem ab_knowns_has {ls : Array Slot} (hw : lv_wf ls) : lv_has ls ls.size (ab_knowns ls) := by
  refine ⟨rfl, hw, fun q hq => ?_⟩
  obtain ⟨i, -, hi⟩ := List.mem_filterMap.mp hq
  split at hi
  · rename_i v hv
    simp at hi
    subst hi
    exact hv
  · simp at hi
def ab_isL (e : ab_En) (v : ab_SV) : Bool := match v with
  | some (.inl i) => match ab_eg e i with
    | some q => q.1
    | none => true
  | _ => false
/-- the value behind this slot, if it is a long, is gone -/
def ab_clr (e : ab_En) (L : List ab_SV) (i : Nat) : List ab_SV := match i with
  | 0 => L
  | j + 1 => match L[j]? with
    | some v => bif ab_isL e v then L.set j none else L
    | none => L
theorem ab_clr_len {e : ab_En} {L : List ab_SV} {i : Nat} : (ab_clr e L i).length = L.length := by
  unfold ab_clr
  split
  · rfl
  · split
    · cases ab_isL e _ <;> simp
    · rfl
theorem ab_clr_get {ρ : Nat → Value} {n : Nat} {ad : List Nat} {tS : Nat} {e : ab_En} (he : ab_env ρ n e) {L : List ab_SV} {i j : Nat} {v : Nat ⊕ (List Nat ⊕ Unit)} (h : (ab_clr e L i)[j]? = some (some v)) : L[j]? = some (some v) ∧ ∀ x, ab_val ρ n ad tS (some v) x → ¬ (j + 1 = i ∧ x.category = 2) := by
  unfold ab_clr at h
  split at h
  · exact ⟨h, fun x _ q => by omega⟩
  · rename_i k
    split at h
    · rename_i w hw
      cases hb : ab_isL e w with
      | true =>
        rw [hb] at h
        simp only [cond_true] at h
        by_cases hk : j = k
        · subst hk
          have hlt : j < L.length := (List.getElem?_eq_some_iff.mp hw).1
          rw [List.getElem?_set_self hlt] at h
          cases h
        · rw [List.getElem?_set_ne (fun q => hk q.symm)] at h
          exact ⟨h, fun x _ q => by omega⟩
      | false =>
        rw [hb] at h
        simp only [cond_false] at h
        refine ⟨h, fun x hx q => ?_⟩
        have hk : j = k := by omega
        subst hk
        rw [hw] at h
        cases h
        match v, hb, hx with
        | .inl i, hb, hx =>
          unfold ab_isL at hb
          simp only at hb
          split at hb
          · rename_i ev hev
            have h2 := he _ (ab_eg_mem hev)
            rcases h2.2.2 with ⟨b, -⟩ | ⟨-, y, b1, -⟩
            · rw [hb] at b; cases b
            · have b2 : ρ i = .int y := b1
              rw [hx.2, b2] at q
              exact absurd q.2 (by simp [Value.category])
          · cases hb
        | .inr (.inl ks), hb, hx =>
          obtain ⟨k, a, -, -, h3⟩ := hx
          rw [h3] at q
          exact absurd q.2 (by simp [Value.category])
        | .inr (.inr _), hb, hx =>
          have h3 : x = .ref tS := hx
          rw [h3] at q
          exact absurd q.2 (by simp [Value.category])
    · rename_i hn
      exact ⟨h, fun x _ q => by
        have : j < L.length := (List.getElem?_eq_some_iff.mp h).1
        have h2 : L.length ≤ k := by simpa using hn
        omega⟩
theorem ab_loc_st1 {ρ : Nat → Value} {n : Nat} {ad : List Nat} {tS nL : Nat} {e : ab_En} (he : ab_env ρ n e) {L : List ab_SV} {ls ls' : Array Slot} (h : ab_loc ρ n ad tS nL L ls) {i : Nat} {v : ab_SV} {x : Value} (hv : ab_val ρ n ad tS v x) (hi : i < nL)
    (h' : lv_has ls' nL ((i, x) :: (ab_knowns ls).filter (fun q => !(q.1 == i) && !(q.1 + 1 == i && q.2.category == 2)))) : ab_loc ρ n ad tS nL ((ab_clr e L i).set i v) ls' := by
  refine ⟨h'.1, h'.2.1, by rw [List.length_set, ab_clr_len]; exact h.2.2.1, fun j w hw => ?_⟩
  by_cases hj : j = i
  · subst hj
    have hl : j < (ab_clr e L j).length := by rw [ab_clr_len, h.2.2.1]; exact hi
    rw [List.getElem?_set_self hl] at hw
    cases hw
    exact ⟨x, h'.2.2 _ List.mem_cons_self, hv⟩
  · rw [List.getElem?_set_ne (fun q => hj q.symm)] at hw
    obtain ⟨h1, h2⟩ := ab_clr_get (ad := ad) (tS := tS) he hw
    obtain ⟨y, h3, h4⟩ := h.2.2.2 j w h1
    refine ⟨y, h'.2.2 (j, y) (List.mem_cons_of_mem _ (List.mem_filter.mpr ⟨ab_knowns_in h3, ?_⟩)), h4⟩
    have h5 := h2 y h4
    simp only [Bool.and_eq_true, Bool.not_eq_true', beq_eq_false_iff_ne, ne_eq, Bool.and_eq_false_iff]
    refine ⟨hj, ?_⟩
    by_cases h6 : j + 1 = i
    · right; exact fun q => h5 ⟨h6, q⟩
    · left; exact h6
theorem ab_loc_st2 {ρ : Nat → Value} {n : Nat} {ad : List Nat} {tS nL : Nat} {e : ab_En} (he : ab_env ρ n e) {L : List ab_SV} {ls ls' : Array Slot} (h : ab_loc ρ n ad tS nL L ls) {i : Nat} {v : ab_SV} {x : Value} (hv : ab_val ρ n ad tS v x) (hi : i + 1 < nL)
    (h' : lv_has ls' nL ((i, x) :: (ab_knowns ls).filter (fun q => !(q.1 == i) && (!(q.1 == i + 1) && !(q.1 + 1 == i && q.2.category == 2))))) : ab_loc ρ n ad tS nL (((ab_clr e L i).set i v).set (i + 1) none) ls' := by
  refine ⟨h'.1, h'.2.1, by rw [List.length_set, List.length_set, ab_clr_len]; exact h.2.2.1, fun j w hw => ?_⟩
  by_cases hj1 : j = i + 1
  · subst hj1
    have hl : i + 1 < ((ab_clr e L i).set i v).length := by rw [List.length_set, ab_clr_len, h.2.2.1]; exact hi
    rw [List.getElem?_set_self hl] at hw
    cases hw
  · rw [List.getElem?_set_ne (fun q => hj1 q.symm)] at hw
    by_cases hj : j = i
    · subst hj
      have hl : j < (ab_clr e L j).length := by rw [ab_clr_len, h.2.2.1]; omega
      rw [List.getElem?_set_self hl] at hw
      cases hw
      exact ⟨x, h'.2.2 _ List.mem_cons_self, hv⟩
    · rw [List.getElem?_set_ne (fun q => hj q.symm)] at hw
      obtain ⟨h1, h2⟩ := ab_clr_get (ad := ad) (tS := tS) he hw
      obtain ⟨y, h3, h4⟩ := h.2.2.2 j w h1
      refine ⟨y, h'.2.2 (j, y) (List.mem_cons_of_mem _ (List.mem_filter.mpr ⟨ab_knowns_in h3, ?_⟩)), h4⟩
      have h5 := h2 y h4
      simp only [Bool.and_eq_true, Bool.not_eq_true', beq_eq_false_iff_ne, ne_eq, Bool.and_eq_false_iff]
      refine ⟨hj, hj1, ?_⟩
      by_cases h6 : j + 1 = i
      · right; exact fun q => h5 ⟨h6, q⟩
      · left; exact h6
theorem ab_ad_set {ws : va_W} {k a : Nat} {e e' : va_E} (h : ws[k]? = some (a, e)) : (ws.set k (a, e')).map (·.1) = ws.map (·.1) := by
  apply List.ext_getElem?
  intro i
  rw [List.getElem?_map, List.getElem?_map]
  by_cases hi : i = k
  · subst hi
    have hl : i < ws.length := (List.getElem?_eq_some_iff.mp h).1
    rw [List.getElem?_set_self hl, h]
    rfl
  · rw [List.getElem?_set_ne (fun q => hi q.symm)]
theorem ab_heap_set {ρ : Nat → Value} {n tS : Nat} {tys : List (ClassId × FieldType)} {h : ab_AH} {ws : va_W} (H : ab_heap ρ n tS tys h ws) {k a : Nat} {e e' : va_E} {c : ab_AC} (hk : ws[k]? = some (a, e)) (hc : ab_acok ρ n (ws.map (·.1)) tS tys c e') : ab_heap ρ n tS tys ((k, c) :: h) (ws.set k (a, e')) := by
  intro j d hd
  rw [ab_ad_set hk]
  rw [ab_hg_cons] at hd
  by_cases hj : k = j
  · subst hj
    rw [if_pos rfl] at hd
    cases hd
    have hl : k < ws.length := (List.getElem?_eq_some_iff.mp hk).1
    exact ⟨a, e', List.getElem?_set_self hl, hc⟩
  · rw [if_neg hj] at hd
    obtain ⟨b, f, h1, h2⟩ := H j d hd
    exact ⟨b, f, by rw [List.getElem?_set_ne hj]; exact h1, h2⟩
end
