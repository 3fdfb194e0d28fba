noncomputable section
abbrev ab_Iv : Type := Int × Int
abbrev ab_SV : Type := Option (Nat ⊕ (List Nat ⊕ Unit))
abbrev ab_EV : Type := Bool × Int × Int × Nat × Int
abbrev ab_AK : Type := List ab_Iv ⊕ (List Nat ⊕ (List Int ⊕ (List Nat ⊕ List ab_SV)))
abbrev ab_AC : Type := Nat × Nat × ab_AK
abbrev ab_AH : Type := List (Nat × ab_AC)
abbrev ab_En : Type := List (Nat × ab_EV)
abbrev ab_St : Type := Nat × ab_En × ab_AH × List ab_SV × List ab_SV
abbrev ab_Q : Type := Int × Int × Nat × Int
def ab_le (a b : Int) : Bool := @Int.rec (fun _ => Bool) (fun m => @Int.rec (fun _ => Bool) (fun n => Nat.ble m n) (fun _ => false) b) (fun m => @Int.rec (fun _ => Bool) (fun _ => true) (fun n => Nat.ble n m) b) a
theorem ab_le_iff {a b : Int} : ab_le a b = true ↔ a ≤ b := by
  match a, b with
  | .ofNat m, .ofNat n =>
    show Nat.ble m n = true ↔ _
    rw [Nat.ble_eq]
    exact Int.ofNat_le.symm
  | .ofNat m, .negSucc n =>
    show false = true ↔ _
    refine ⟨fun h => (by cases h), fun h => ?_⟩
    have h1 : (Int.ofNat m) = (m : Int) := rfl
    rw [h1, Int.negSucc_eq] at h
    omega
  | .negSucc m, .ofNat n =>
    show true = true ↔ _
    refine ⟨fun _ => ?_, fun _ => rfl⟩
    have h1 : (Int.ofNat n) = (n : Int) := rfl
    rw [h1, Int.negSucc_eq]
    omega
  | .negSucc m, .negSucc n =>
    show Nat.ble n m = true ↔ _
    rw [Nat.ble_eq, Int.negSucc_eq, Int.negSucc_eq]
    omega
theorem ab_le_f {a b : Int} : ab_le a b = false ↔ b < a := by
  have h := @ab_le_iff a b
  cases h2 : ab_le a b with
  | true => simp [h2] at h; simp; omega
  | false => simp [h2] at h; simp; omega
def ab_min (a b : Int) : Int := bif ab_le a b then a else b
def ab_max (a b : Int) : Int := bif ab_le a b then b else a
theorem ab_min_eq (a b : Int) : ab_min a b = min a b := by
  unfold ab_min
  cases h : ab_le a b with
  | true => rw [ab_le_iff] at h; simp; omega
  | false => rw [ab_le_f] at h; simp; omega
theorem ab_max_eq (a b : Int) : ab_max a b = max a b := by
  unfold ab_max
  cases h : ab_le a b with
  | true => rw [ab_le_iff] at h; simp; omega
  | false => rw [ab_le_f] at h; simp; omega
def ab_m31 : Int := .negSucc 2147483647
def ab_p31 : Int := .ofNat 2147483647
def ab_m63 : Int := .negSucc 9223372036854775807
def ab_p63 : Int := .ofNat 9223372036854775807
theorem ab_m31_eq : ab_m31 = -2147483648 := rfl
theorem ab_p31_eq : ab_p31 = 2147483647 := rfl
theorem ab_m63_eq : ab_m63 = -9223372036854775808 := rfl
theorem ab_p63_eq : ab_p63 = 9223372036854775807 := rfl
def ab_i32 (lo hi : Int) : Bool := ab_le ab_m31 lo && ab_le hi ab_p31
def ab_i64 (lo hi : Int) : Bool := ab_le ab_m63 lo && ab_le hi ab_p63
theorem ab_i32_iff {lo hi : Int} : ab_i32 lo hi = true ↔ -2147483648 ≤ lo ∧ hi ≤ 2147483647 := by
  unfold ab_i32
  rw [Bool.and_eq_true, ab_le_iff, ab_le_iff, ab_m31_eq, ab_p31_eq]
theorem ab_i64_iff {lo hi : Int} : ab_i64 lo hi = true ↔ -9223372036854775808 ≤ lo ∧ hi ≤ 9223372036854775807 := by
  unfold ab_i64
  rw [Bool.and_eq_true, ab_le_iff, ab_le_iff, ab_m63_eq, ab_p63_eq]
def ab_eg (e : ab_En) (i : Nat) : Option ab_EV := @List.rec (Nat × ab_EV) (fun _ => Option ab_EV) none (fun q _ ih => @Bool.rec (fun _ => Option ab_EV) ih (some q.2) (Nat.beq q.1 i)) e
theorem ab_eg_cons {q : Nat × ab_EV} {r : ab_En} {i : Nat} : ab_eg (q :: r) i = bif Nat.beq q.1 i then some q.2 else ab_eg r i := by
  show @Bool.rec (fun _ => Option ab_EV) (ab_eg r i) (some q.2) (Nat.beq q.1 i) = _
  cases Nat.beq q.1 i <;> rfl
theorem ab_eg_mem {e : ab_En} {i : Nat} {v : ab_EV} (h : ab_eg e i = some v) : (i, v) ∈ e := by
  induction e with
  | nil => cases h
  | cons q r ih =>
    rw [ab_eg_cons] at h
    cases hb : Nat.beq q.1 i with
    | true =>
      rw [hb] at h
      simp at h
      have h1 : q.1 = i := Nat.eq_of_beq_eq_true hb
      subst h; subst h1
      exact List.mem_cons_self
    | false =>
      rw [hb] at h
      simp at h
      exact List.mem_cons_of_mem _ (ih h)
def ab_hg (h : ab_AH) (i : Nat) : Option ab_AC := @List.rec (Nat × ab_AC) (fun _ => Option ab_AC) none (fun q _ ih => @Bool.rec (fun _ => Option ab_AC) ih (some q.2) (Nat.beq q.1 i)) h
theorem ab_hg_nil {i : Nat} : ab_hg [] i = none := rfl
theorem ab_hg_cons {h : ab_AH} {k j : Nat} {c : ab_AC} : ab_hg ((k, c) :: h) j = if k = j then some c else ab_hg h j := by
  show @Bool.rec (fun _ => Option ab_AC) (ab_hg h j) (some c) (Nat.beq k j) = _
  cases hb : Nat.beq k j with
  | true => rw [if_pos (Nat.eq_of_beq_eq_true hb)]
  | false =>
    rw [if_neg (fun q => by subst q; simp [Nat.beq_refl] at hb)]
def ab_num (e : ab_En) (lg : Bool) (v : ab_SV) : Option (Nat × ab_Q) := match v with
  | some (.inl i) => match ab_eg e i with
    | some q => bif (q.1 == lg) then some (i, q.2) else none
    | none => none
  | _ => none
theorem ab_num_spec {e : ab_En} {lg : Bool} {v : ab_SV} {i : Nat} {q : ab_Q} (h : ab_num e lg v = some (i, q)) : v = some (.inl i) ∧ (i, lg, q) ∈ e := by
  unfold ab_num at h
  split at h
  · rename_i j
    split at h
    · rename_i w hw
      cases hc : (w.1 == lg) with
      | true =>
        rw [hc] at h
        simp at h
        obtain ⟨h1, h2⟩ := h
        subst h1
        have h3 := ab_eg_mem hw
        have h4 : w.1 = lg := by simpa using hc
        subst h4; subst h2
        exact ⟨rfl, h3⟩
      | false => rw [hc] at h; simp at h
    · simp at h
  · simp at h
def ab_val (ρ : Nat → Value) (n : Nat) (ad : List Nat) (tS : Nat) (v : ab_SV) (x : Value) : Prop := match v with
  | none => True
  | some (.inl i) => i < n ∧ x = ρ i
  | some (.inr (.inl ks)) => ∃ k a : Nat, k ∈ ks ∧ ad[k]? = some a ∧ x = .ref a
  | some (.inr (.inr _)) => x = .ref tS
def ab_evok (ρ : Nat → Value) (n : Nat) (q : Nat × ab_EV) : Prop :=
  q.1 < n ∧ q.2.2.2.2.1 < n ∧ ((q.2.1 = true ∧ ∃ x : Int64, ρ q.1 = .long x ∧ q.2.2.1 ≤ x.toInt ∧ x.toInt ≤ q.2.2.2.1) ∨
  (q.2.1 = false ∧ ∃ x : Int32, ρ q.1 = .int x ∧ q.2.2.1 ≤ x.toInt ∧ x.toInt ≤ q.2.2.2.1 ∧ ∃ y : Int32, ρ q.2.2.2.2.1 = .int y ∧ x.toInt = y.toInt + q.2.2.2.2.2))
def ab_env (ρ : Nat → Value) (n : Nat) (e : ab_En) : Prop := ∀ q ∈ e, ab_evok ρ n q
def ab_all2 (P : ab_SV → Value → Prop) : List ab_SV → List Value → Prop
  | [], [] => True
  | a :: as, b :: bs => P a b ∧ ab_all2 P as bs
  | _, _ => False
theorem ab_all2_mono {P Q : ab_SV → Value → Prop} (h : ∀ a b, P a b → Q a b) : ∀ {l : List ab_SV} {m : List Value}, ab_all2 P l m → ab_all2 Q l m
  | [], [], _ => trivial
  | _ :: _, _ :: _, k => ⟨h _ _ k.1, ab_all2_mono h k.2⟩
  | [], _ :: _, k => k.elim
  | _ :: _, [], k => k.elim
theorem ab_all2_len {P : ab_SV → Value → Prop} : ∀ {l : List ab_SV} {m : List Value}, ab_all2 P l m → l.length = m.length
  | [], [], _ => rfl
  | _ :: _, _ :: _, k => by simp [ab_all2_len k.2]
  | [], _ :: _, k => k.elim
  | _ :: _, [], k => k.elim
theorem ab_all2_get {P : ab_SV → Value → Prop} : ∀ {l : List ab_SV} {m : List Value}, ab_all2 P l m → ∀ {i : Nat} {v : ab_SV}, l[i]? = some v → ∃ x, m[i]? = some x ∧ P v x
  | [], [], _, i, v, h => by simp at h
  | a :: as, b :: bs, k, 0, v, h => by simp at h; subst h; exact ⟨b, rfl, k.1⟩
  | a :: as, b :: bs, k, i + 1, v, h => by
    have h2 : as[i]? = some v := by simpa using h
    obtain ⟨x, hx, hp⟩ := ab_all2_get k.2 h2
    exact ⟨x, by simpa using hx, hp⟩
  | [], _ :: _, k, _, _, _ => k.elim
  | _ :: _, [], k, _, _, _ => k.elim
theorem ab_all2_set {P : ab_SV → Value → Prop} : ∀ {l : List ab_SV} {m : List Value}, ab_all2 P l m → ∀ (i : Nat) {v : ab_SV} {x : Value}, P v x → ab_all2 P (l.set i v) (m.set i x)
  | [], [], k, i, v, x, h => by simpa using k
  | a :: as, b :: bs, k, 0, v, x, h => ⟨h, k.2⟩
  | a :: as, b :: bs, k, i + 1, v, x, h => ⟨k.1, ab_all2_set k.2 i h⟩
  | [], _ :: _, k, _, _, _, _ => k.elim
  | _ :: _, [], k, _, _, _, _ => k.elim
theorem ab_all2_app {P : ab_SV → Value → Prop} : ∀ {l l2 : List ab_SV} {m m2 : List Value}, ab_all2 P l m → ab_all2 P l2 m2 → ab_all2 P (l ++ l2) (m ++ m2)
  | [], _, [], _, _, h => h
  | _ :: _, _, _ :: _, _, k, h => ⟨k.1, ab_all2_app k.2 h⟩
  | [], _, _ :: _, _, k, _ => k.elim
  | _ :: _, _, [], _, k, _ => k.elim
theorem ab_all2_rev {P : ab_SV → Value → Prop} : ∀ {l : List ab_SV} {m : List Value}, ab_all2 P l m → ab_all2 P l.reverse m.reverse
  | [], [], _ => trivial
  | a :: as, b :: bs, k => by
    rw [List.reverse_cons, List.reverse_cons]
    exact ab_all2_app (ab_all2_rev k.2) ⟨k.1, trivial⟩
  | [], _ :: _, k => k.elim
  | _ :: _, [], k => k.elim
theorem ab_all2_split {P : ab_SV → Value → Prop} : ∀ {l l2 : List ab_SV} {m : List Value}, ab_all2 P (l ++ l2) m → ∃ m1 m2, m = m1 ++ m2 ∧ ab_all2 P l m1 ∧ ab_all2 P l2 m2
  | [], l2, m, k => ⟨[], m, rfl, trivial, k⟩
  | a :: as, l2, [], k => k.elim
  | a :: as, l2, b :: bs, k => by
    obtain ⟨m1, m2, e, h1, h2⟩ := ab_all2_split (l := as) k.2
    exact ⟨b :: m1, m2, by rw [e]; rfl, ⟨k.1, h1⟩, h2⟩
def ab_inU (U : List ab_Iv) (x : Int) : Prop := ∃ v ∈ U, v.1 ≤ x ∧ x ≤ v.2
def ab_acok (ρ : Nat → Value) (n : Nat) (ad : List Nat) (tS : Nat) (tys : List (ClassId × FieldType)) (c : ab_AC) (e : va_E) : Prop := match e with
  | .inr (ci, fs) => ci = c.1 ∧ fs.length = c.2.1 ∧ ∃ svs, c.2.2 = .inr (.inr (.inr (.inr svs))) ∧ ab_all2 (ab_val ρ n ad tS) svs fs
  | .inl (cA, N, .inl f) => N = c.2.1 ∧ (∃ ty, tys[c.1]? = some (cA, ty) ∧ (ty = .int ∨ ty = .boolean)) ∧ ((∃ U, c.2.2 = .inl U ∧ ∀ i, i < N → ab_inU U (f i).toInt) ∨ (∃ ids, c.2.2 = .inr (.inl ids) ∧ ids.length = N ∧ ∀ i k, ids[i]? = some k → k < n ∧ ρ k = .int (f i)) ∨ ∃ cs, c.2.2 = .inr (.inr (.inl cs)) ∧ cs.length = N ∧ ∀ i k, cs[i]? = some k → (f i).toInt = k)
  | .inl (cA, N, .inr (.inl f)) => N = c.2.1 ∧ tys[c.1]? = some (cA, .long) ∧ ((∃ U, c.2.2 = .inl U ∧ ∀ i, i < N → ab_inU U (f i).toInt) ∨ (∃ ids, c.2.2 = .inr (.inl ids) ∧ ids.length = N ∧ ∀ i k, ids[i]? = some k → k < n ∧ ρ k = .long (f i)))
  | .inl (cA, N, .inr (.inr (.inr (.inr f)))) => N = c.2.1 ∧ (∃ t, tys[c.1]? = some (cA, .array t)) ∧ ∃ ks, c.2.2 = .inr (.inr (.inr (.inl ks))) ∧ ks.length = N ∧ ∀ i k, ks[i]? = some k → ∃ a, ad[k]? = some a ∧ f i = some a
  | _ => False
def ab_heap (ρ : Nat → Value) (n : Nat) (tS : Nat) (tys : List (ClassId × FieldType)) (h : ab_AH) (ws : va_W) : Prop :=
  ∀ k c, ab_hg h k = some c → ∃ a e, ws[k]? = some (a, e) ∧ ab_acok ρ n (ws.map (·.1)) tS tys c e
def ab_loc (ρ : Nat → Value) (n : Nat) (ad : List Nat) (tS : Nat) (nL : Nat) (L : List ab_SV) (ls : Array Slot) : Prop :=
  ls.size = nL ∧ lv_wf ls ∧ L.length = nL ∧ ∀ (i : Nat) v, L[i]? = some (some v) → ∃ x : Value, ls[i]? = some (Slot.val x) ∧ ab_val ρ n ad tS (some v) x
def ab_sat (ρ : Nat → Value) (tS : Nat) (tys : List (ClassId × FieldType)) (nL : Nat) (st : ab_St) (ls : Array Slot) (stk : List Value) (ws : va_W) : Prop :=
  ab_env ρ st.1 st.2.1 ∧ ab_heap ρ st.1 tS tys st.2.2.1 ws ∧ ab_loc ρ st.1 (ws.map (·.1)) tS nL st.2.2.2.1 ls ∧ ab_all2 (ab_val ρ st.1 (ws.map (·.1)) tS) st.2.2.2.2 stk
def ab_up (ρ : Nat → Value) (n : Nat) (x : Value) : Nat → Value := fun i => if i = n then x else ρ i
theorem ab_up_lt {ρ : Nat → Value} {n i : Nat} {x : Value} (h : i < n) : ab_up ρ n x i = ρ i := if_neg (Nat.ne_of_lt h)
theorem ab_up_self {ρ : Nat → Value} {n : Nat} {x : Value} : ab_up ρ n x n = x := if_pos rfl
end
