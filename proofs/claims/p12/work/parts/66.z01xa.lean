noncomputable section
/-- values known exactly: a number; a cell by its place; the static row -/
abbrev cx_V : Type := Value ⊕ (Nat ⊕ Unit)
/-- a cell known exactly: an object; a row of ints or booleans; a row of longs; a row of rows -/
abbrev cx_C : Type := (Nat × List cx_V) ⊕ ((Nat × Nat × (Nat → Int32)) ⊕ ((Nat × (Nat → Int64)) ⊕ (Nat × List Nat)))
abbrev cx_H : Type := List (Nat × cx_C)
abbrev cx_S : Type := List (Option cx_V) × List cx_V × cx_H
def cx_val (ad : List Nat) (tS : Nat) (v : cx_V) (x : Value) : Prop := match v with
  | .inl w => x = w
  | .inr (.inl k) => ∃ a : Nat, ad[k]? = some a ∧ x = .ref a
  | .inr (.inr _) => x = .ref tS
def cx_all (P : cx_V → Value → Prop) : List cx_V → List Value → Prop
  | [], [] => True
  | a :: as, b :: bs => P a b ∧ cx_all P as bs
  | _, _ => False
theorem cx_all_mono {P Q : cx_V → Value → Prop} (h : ∀ a b, P a b → Q a b) : ∀ {l : List cx_V} {m : List Value}, cx_all P l m → cx_all Q l m
  | [], [], _ => trivial
  | _ :: _, _ :: _, k => ⟨h _ _ k.1, cx_all_mono h k.2⟩
  | [], _ :: _, k => k.elim
  | _ :: _, [], k => k.elim
theorem cx_all_len {P : cx_V → Value → Prop} : ∀ {l : List cx_V} {m : List Value}, cx_all P l m → l.length = m.length
  | [], [], _ => rfl
  | _ :: _, _ :: _, k => by simp [cx_all_len k.2]
  | [], _ :: _, k => k.elim
  | _ :: _, [], k => k.elim
theorem cx_all_get {P : cx_V → Value → Prop} : ∀ {l : List cx_V} {m : List Value}, cx_all P l m → ∀ {i : Nat} {v : cx_V}, l[i]? = some v → ∃ x, m[i]? = some x ∧ P v x
  | [], [], _, i, v, h => by simp at h
  | a :: as, b :: bs, k, 0, v, h => by simp at h; subst h; exact ⟨b, rfl, k.1⟩
  | a :: as, b :: bs, k, i + 1, v, h => by
    have h2 : as[i]? = some v := by simpa using h
    obtain ⟨x, hx, hp⟩ := cx_all_get k.2 h2
    exact ⟨x, by simpa using hx, hp⟩
  | [], _ :: _, k, _, _, _ => k.elim
  | _ :: _, [], k, _, _, _ => k.elim
theorem cx_all_set {P : cx_V → Value → Prop} : ∀ {l : List cx_V} {m : List Value}, cx_all P l m → ∀ (i : Nat) {v : cx_V} {x : Value}, P v x → cx_all P (l.set i v) (m.set i x)
  | [], [], k, i, v, x, h => by simpa using k
  | a :: as, b :: bs, k, 0, v, x, h => ⟨h, k.2⟩
  | a :: as, b :: bs, k, i + 1, v, x, h => ⟨k.1, cx_all_set k.2 i h⟩
  | [], _ :: _, k, _, _, _, _ => k.elim
  | _ :: _, [], k, _, _, _, _ => k.elim
theorem cx_all_app {P : cx_V → Value → Prop} : ∀ {l l2 : List cx_V} {m m2 : List Value}, cx_all P l m → cx_all P l2 m2 → cx_all P (l ++ l2) (m ++ m2)
  | [], _, [], _, _, h => h
  | _ :: _, _, _ :: _, _, k, h => ⟨k.1, cx_all_app k.2 h⟩
  | [], _, _ :: _, _, k, _ => k.elim
  | _ :: _, _, [], _, k, _ => k.elim
theorem cx_all_rev {P : cx_V → Value → Prop} : ∀ {l : List cx_V} {m : List Value}, cx_all P l m → cx_all P l.reverse m.reverse
  | [], [], _ => trivial
  | a :: as, b :: bs, k => by
    rw [List.reverse_cons, List.reverse_cons]
    exact cx_all_app (cx_all_rev k.2) ⟨k.1, trivial⟩
  | [], _ :: _, k => k.elim
  | _ :: _, [], k => k.elim
theorem cx_all_split {P : cx_V → Value → Prop} : ∀ {l l2 : List cx_V} {m : List Value}, cx_all P (l ++ l2) m → ∃ m1 m2, m = m1 ++ m2 ∧ cx_all P l m1 ∧ cx_all P l2 m2
  | [], l2, m, k => ⟨[], m, rfl, trivial, k⟩
  | a :: as, l2, [], k => k.elim
  | a :: as, l2, b :: bs, k => by
    obtain ⟨m1, m2, e, h1, h2⟩ := cx_all_split (l := as) k.2
    exact ⟨b :: m1, m2, by rw [e]; rfl, ⟨k.1, h1⟩, h2⟩
theorem cx_top {P : cx_V → Value → Prop} {v : cx_V} {r : List cx_V} {stk : List Value} (h : cx_all P (v :: r) stk) : ∃ x stk', stk = x :: stk' ∧ P v x ∧ cx_all P r stk' := by
  match stk, h with
  | x :: t, h => exact ⟨x, t, rfl, h.1, h.2⟩
  | [], h => exact h.elim
theorem cx_nil {P : cx_V → Value → Prop} {stk : List Value} (h : cx_all P [] stk) : stk = [] := by
  match stk, h with
  | [], _ => rfl
  | _ :: _, h => exact h.elim
def cx_hg (h : cx_H) (k : Nat) : Option cx_C := @List.rec (Nat × cx_C) (fun _ => Option cx_C) none (fun q _ ih => @Bool.rec (fun _ => Option cx_C) ih (some q.2) (Nat.beq q.1 k)) h
theorem cx_hg_cons {h : cx_H} {q : Nat × cx_C} {j : Nat} : cx_hg (q :: h) j = bif Nat.beq q.1 j then some q.2 else cx_hg h j := by
  show @Bool.rec (fun _ => Option cx_C) (cx_hg h j) (some q.2) (Nat.beq q.1 j) = _
  cases Nat.beq q.1 j <;> rfl
def cx_hs (h : cx_H) (k : Nat) (c : cx_C) : cx_H := @List.rec (Nat × cx_C) (fun _ => cx_H) [] (fun q r ih => @Bool.rec (fun _ => cx_H) (q :: ih) ((q.1, c) :: r) (Nat.beq q.1 k)) h
theorem cx_hs_cons {h : cx_H} {q : Nat × cx_C} {k : Nat} {c : cx_C} : cx_hs (q :: h) k c = bif Nat.beq q.1 k then (q.1, c) :: h else q :: cx_hs h k c := by
  show @Bool.rec (fun _ => cx_H) (q :: cx_hs h k c) ((q.1, c) :: h) (Nat.beq q.1 k) = _
  cases Nat.beq q.1 k <;> rfl
theorem cx_hs_key {k : Nat} {c : cx_C} : ∀ {h : cx_H}, (cx_hs h k c).map (·.1) = h.map (·.1)
  | [] => rfl
  | q :: h => by
    rw [cx_hs_cons]
    cases Nat.beq q.1 k with
    | true => rfl
    | false =>
      show q.1 :: (cx_hs h k c).map (·.1) = q.1 :: h.map (·.1)
      rw [cx_hs_key]
theorem cx_hs_self {k : Nat} {c c0 : cx_C} : ∀ {h : cx_H}, cx_hg h k = some c0 → cx_hg (cx_hs h k c) k = some c
  | [], h0 => by cases h0
  | q :: h, h0 => by
    rw [cx_hg_cons] at h0
    rw [cx_hs_cons]
    cases hb : Nat.beq q.1 k with
    | true =>
      show cx_hg ((q.1, c) :: h) k = some c
      rw [cx_hg_cons]
      show (bif Nat.beq q.1 k then some c else cx_hg h k) = some c
      rw [hb]
      rfl
    | false =>
      rw [hb] at h0
      show cx_hg (q :: cx_hs h k c) k = some c
      rw [cx_hg_cons, hb]
      exact cx_hs_self h0
theorem cx_hs_ne {k j : Nat} {c : cx_C} (hne : ¬ k = j) : ∀ {h : cx_H}, cx_hg (cx_hs h k c) j = cx_hg h j
  | [] => rfl
  | q :: h => by
    rw [cx_hs_cons, cx_hg_cons]
    cases hb : Nat.beq q.1 k with
    | true =>
      have e1 : q.1 = k := Nat.eq_of_beq_eq_true hb
      show cx_hg ((q.1, c) :: h) j = _
      rw [cx_hg_cons]
      show (bif Nat.beq q.1 j then some c else cx_hg h j) = _
      have e2 : Nat.beq q.1 j = false := by
        cases hj : Nat.beq q.1 j with
        | false => rfl
        | true => exact absurd (e1.symm.trans (Nat.eq_of_beq_eq_true hj)) hne
      rw [e2]
      rfl
    | false =>
      show cx_hg (q :: cx_hs h k c) j = _
      rw [cx_hg_cons, cx_hs_ne hne]
theorem cx_hg_mem {k : Nat} {c : cx_C} : ∀ {h : cx_H}, cx_hg h k = some c → (k, c) ∈ h
  | [], h0 => by cases h0
  | q :: h, h0 => by
    rw [cx_hg_cons] at h0
    cases hb : Nat.beq q.1 k with
    | true =>
      rw [hb] at h0
      have e1 : q.1 = k := Nat.eq_of_beq_eq_true hb
      have e2 : q.2 = c := Option.some.inj h0
      rw [← e1, ← e2]
      exact List.mem_cons_self
    | false =>
      rw [hb] at h0
      exact List.mem_cons_of_mem _ (cx_hg_mem h0)
theorem cx_hg_key {h : cx_H} {k : Nat} {c : cx_C} (h0 : cx_hg h k = some c) : k ∈ h.map (·.1) := List.mem_map.mpr ⟨_, cx_hg_mem h0, rfl⟩
theorem cx_hg_none {k : Nat} : ∀ {h : cx_H}, cx_hg h k = none → k ∉ h.map (·.1)
  | [], _ => by simp
  | q :: h, h0 => by
    rw [cx_hg_cons] at h0
    cases hb : Nat.beq q.1 k with
    | true => rw [hb] at h0; cases h0
    | false =>
      rw [hb] at h0
      intro hm
      rcases List.mem_cons.mp hm with e | hm
      · rw [e, Nat.beq_refl] at hb
        cases hb
      · exact cx_hg_none h0 hm
def cx_cell (ad : List Nat) (tS : Nat) (cs : Nat → ClassId) (c : cx_C) (e : va_E) : Prop := match c with
  | .inl q => ∃ fs, e = .inr (q.1, fs) ∧ cx_all (cx_val ad tS) q.2 fs
  | .inr (.inl q) => (q.1 = 0 ∨ q.1 = 2) ∧ e = .inl (cs q.1, q.2.1, .inl q.2.2)
  | .inr (.inr (.inl q)) => e = .inl (cs 1, q.1, .inr (.inl q.2))
  | .inr (.inr (.inr q)) => ∃ (f : Nat → Option Nat) (ty : FieldType), e = .inl (cs q.1, q.2.length, .inr (.inr (.inr (.inr f)))) ∧ (ab_tys cs)[q.1]? = some (cs q.1, .array ty) ∧ ∀ (i k : Nat), q.2[i]? = some k → ∃ a : Nat, ad[k]? = some a ∧ f i = some a
def cx_heap (tS : Nat) (cs : Nat → ClassId) (h : cx_H) (ws : va_W) : Prop := ∀ k c, cx_hg h k = some c → ∃ a e, ws[k]? = some (a, e) ∧ cx_cell (ws.map (·.1)) tS cs c e
theorem cx_heap_set {tS : Nat} {cs : Nat → ClassId} {h : cx_H} {ws : va_W} (H : cx_heap tS cs h ws) {k a : Nat} {e e' : va_E} {c c0 : cx_C} (hk : ws[k]? = some (a, e)) (h0 : cx_hg h k = some c0) (hc : cx_cell (ws.map (·.1)) tS cs c e') : cx_heap tS cs (cx_hs h k c) (ws.set k (a, e')) := by
  intro j cj hj
  rw [ab_ad_set hk]
  by_cases q : k = j
  · subst q
    rw [cx_hs_self h0] at hj
    cases hj
    exact ⟨a, e', by rw [List.getElem?_set_self (List.getElem?_eq_some_iff.mp hk).1], hc⟩
  · rw [cx_hs_ne q] at hj
    obtain ⟨a2, e2, h1, h2⟩ := H j cj hj
    exact ⟨a2, e2, by rw [List.getElem?_set_ne q]; exact h1, h2⟩
/-- only these cells change -/
def cx_fr (ks : List Nat) (w0 w : va_W) : Prop := w.map (·.1) = w0.map (·.1) ∧ ∀ k, k ∉ ks → w[k]? = w0[k]?
theorem cx_fr.refl {ks : List Nat} {w : va_W} : cx_fr ks w w := ⟨rfl, fun _ _ => rfl⟩
theorem cx_fr.set {ks : List Nat} {w0 w : va_W} (h : cx_fr ks w0 w) {k a : Nat} {e e' : va_E} (hk : w[k]? = some (a, e)) (hm : k ∈ ks) : cx_fr ks w0 (w.set k (a, e')) :=
  ⟨by rw [ab_ad_set hk]; exact h.1, fun j hj => by
    rw [List.getElem?_set_ne (show ¬ k = j from fun q => hj (by rw [← q]; exact hm))]
    exact h.2 j hj⟩
theorem cx_fr.sub {ks k1 : List Nat} {w0 w w1 : va_W} (h : cx_fr ks w0 w) (g : cx_fr k1 w w1) (hs : ∀ k ∈ k1, k ∈ ks) : cx_fr ks w0 w1 :=
  ⟨g.1.trans h.1, fun j hj => (g.2 j (fun q => hj (hs j q))).trans (h.2 j hj)⟩
def cx_loc (ad : List Nat) (tS nL : Nat) (L : List (Option cx_V)) (ls : Array Slot) : Prop :=
  ls.size = nL ∧ lv_wf ls ∧ L.length = nL ∧ ∀ (i : Nat) v, L[i]? = some (some v) → ∃ x : Value, ls[i]? = some (Slot.val x) ∧ cx_val ad tS v x
def cx_k1 (v : Option (Option cx_V)) : Bool := match v with
  | some (some (.inl (.int _))) => true
  | some (some (.inr _)) => true
  | _ => false
/-- a store takes the half of a long away -/
def cx_clr (L : List (Option cx_V)) (i : Nat) : List (Option cx_V) := match i with
  | 0 => L
  | j + 1 => bif cx_k1 L[j]? then L else L.set j none
theorem cx_clr_len {L : List (Option cx_V)} {i : Nat} : (cx_clr L i).length = L.length := by
  cases i with
  | zero => rfl
  | succ j =>
    show (bif cx_k1 L[j]? then L else L.set j none).length = L.length
    cases cx_k1 L[j]? with
    | true => rfl
    | false => simp
theorem cx_cat1 {ad : List Nat} {tS : Nat} {v : cx_V} {x : Value} (h : cx_k1 (some (some v)) = true) (hv : cx_val ad tS v x) : x.category = 1 := by
  match v, h, hv with
  | .inl (.int y), _, hv =>
    have hv : x = .int y := hv
    rw [hv]; rfl
  | .inr (.inl k), _, ⟨a, _, hx⟩ => rw [hx]; rfl
  | .inr (.inr _), _, hv =>
    have hv : x = .ref tS := hv
    rw [hv]; rfl
theorem cx_clr_get {ad : List Nat} {tS : Nat} {L : List (Option cx_V)} {i j : Nat} {v : cx_V} (h : (cx_clr L i)[j]? = some (some v)) : L[j]? = some (some v) ∧ ∀ x, cx_val ad tS v x → ¬ (j + 1 = i ∧ x.category = 2) := by
  cases i with
  | zero => exact ⟨h, fun x _ q => by omega⟩
  | succ i =>
    have h : (bif cx_k1 L[i]? then L else L.set i none)[j]? = some (some v) := h
    cases hb : cx_k1 L[i]? with
    | true =>
      rw [hb] at h
      have h3 : L[j]? = some (some v) := h
      refine ⟨h3, fun x hx q => ?_⟩
      have e1 : i = j := by omega
      rw [e1, h3] at hb
      have := cx_cat1 hb hx
      omega
    | false =>
      rw [hb] at h
      have h : (L.set i none)[j]? = some (some v) := h
      by_cases e1 : i = j
      · subst e1
        by_cases hl : i < L.length
        · rw [List.getElem?_set_self hl] at h
          cases h
        · rw [List.getElem?_eq_none (by simpa using hl)] at h
          cases h
      · rw [List.getElem?_set_ne e1] at h
        exact ⟨h, fun x _ q => by omega⟩
theorem cx_loc_st1 {ad : List Nat} {tS nL : Nat} {L : List (Option cx_V)} {ls ls' : Array Slot} (h : cx_loc ad tS nL L ls) {i : Nat} {v : cx_V} {x : Value} (hv : cx_val ad tS v x) (hi : i < nL)
    (h' : lv_has ls' nL ((i, x) :: (ab_knowns ls).filter (fun q => !(q.1 == i) && !(q.1 + 1 == i && q.2.category == 2)))) : cx_loc ad tS nL ((cx_clr L i).set i (some v)) ls' := by
  refine ⟨h'.1, h'.2.1, by rw [List.length_set, cx_clr_len]; exact h.2.2.1, fun j w hw => ?_⟩
  by_cases hj : j = i
  · subst hj
    have hl : j < (cx_clr L j).length := by rw [cx_clr_len, h.2.2.1]; exact hi
    rw [List.getElem?_set_self hl] at hw
    cases hw
    exact ⟨x, h'.2.2 _ List.mem_cons_self, hv⟩
  · rw [List.getElem?_set_ne (fun q => hj q.symm)] at hw
    obtain ⟨h1, h2⟩ := cx_clr_get (ad := ad) (tS := tS) hw
    obtain ⟨y, h3, h4⟩ := h.2.2.2 j w h1
    refine ⟨y, h'.2.2 (j, y) (List.mem_cons_of_mem _ (List.mem_filter.mpr ⟨ab_knowns_in h3, ?_⟩)), h4⟩
    have h5 := h2 y h4
    simp only [Bool.and_eq_true, Bool.not_eq_true', beq_eq_false_iff_ne, ne_eq, Bool.and_eq_false_iff]
    refine ⟨hj, ?_⟩
    by_cases h6 : j + 1 = i
    · right; exact fun q => h5 ⟨h6, q⟩
    · left; exact h6
theorem cx_loc_st2 {ad : List Nat} {tS nL : Nat} {L : List (Option cx_V)} {ls ls' : Array Slot} (h : cx_loc ad tS nL L ls) {i : Nat} {v : cx_V} {x : Value} (hv : cx_val ad tS v x) (hi : i + 1 < nL)
    (h' : lv_has ls' nL ((i, x) :: (ab_knowns ls).filter (fun q => !(q.1 == i) && (!(q.1 == i + 1) && !(q.1 + 1 == i && q.2.category == 2))))) : cx_loc ad tS nL (((cx_clr L i).set i (some v)).set (i + 1) none) ls' := by
  refine ⟨h'.1, h'.2.1, by rw [List.length_set, List.length_set, cx_clr_len]; exact h.2.2.1, fun j w hw => ?_⟩
  by_cases hj1 : j = i + 1
  · subst hj1
    have hl : i + 1 < ((cx_clr L i).set i (some v)).length := by rw [List.length_set, cx_clr_len, h.2.2.1]; exact hi
    rw [List.getElem?_set_self hl] at hw
    cases hw
  · rw [List.getElem?_set_ne (fun q => hj1 q.symm)] at hw
    by_cases hj : j = i
    · subst hj
      have hl : j < (cx_clr L j).length := by rw [cx_clr_len, h.2.2.1]; omega
      rw [List.getElem?_set_self hl] at hw
      cases hw
      exact ⟨x, h'.2.2 _ List.mem_cons_self, hv⟩
    · rw [List.getElem?_set_ne (fun q => hj q.symm)] at hw
      obtain ⟨h1, h2⟩ := cx_clr_get (ad := ad) (tS := tS) hw
      obtain ⟨y, h3, h4⟩ := h.2.2.2 j w h1
      refine ⟨y, h'.2.2 (j, y) (List.mem_cons_of_mem _ (List.mem_filter.mpr ⟨ab_knowns_in h3, ?_⟩)), h4⟩
      have h5 := h2 y h4
      simp only [Bool.and_eq_true, Bool.not_eq_true', beq_eq_false_iff_ne, ne_eq, Bool.and_eq_false_iff]
      refine ⟨hj, hj1, ?_⟩
      by_cases h6 : j + 1 = i
      · right; exact fun q => h5 ⟨h6, q⟩
      · left; exact h6
/-- arguments as locals -/
def cx_lay : List cx_V → List (Option cx_V)
  | [] => []
  | v :: r => match v with
    | .inl (.long _) => some v :: none :: cx_lay r
    | _ => some v :: cx_lay r
def cx_kn (v : cx_V) : Bool := match v with
  | .inl (.int _) => true
  | .inl (.long _) => true
  | .inr _ => true
  | _ => false
theorem cx_lay_ok {ad : List Nat} {tS : Nat} : ∀ {as : List cx_V} {vs : List Value}, cx_all (cx_val ad tS) as vs → as.all cx_kn = true → (cx_lay as).length = (lg_sl vs).length ∧ ∀ (i : Nat) v, (cx_lay as)[i]? = some (some v) → ∃ x : Value, (lg_sl vs)[i]? = some (Slot.val x) ∧ cx_val ad tS v x
  | [], [], _, _ => ⟨rfl, fun i v h => by simp [cx_lay] at h⟩
  | a :: as, x :: xs, h, hk => by
    rw [List.all_cons, Bool.and_eq_true] at hk
    obtain ⟨h1, h2⟩ := cx_lay_ok h.2 hk.2
    have one : cx_k1 (some (some a)) = true → cx_lay (a :: as) = some a :: cx_lay as → (cx_lay (a :: as)).length = (lg_sl (x :: xs)).length ∧ ∀ (i : Nat) v, (cx_lay (a :: as))[i]? = some (some v) → ∃ y : Value, (lg_sl (x :: xs))[i]? = some (Slot.val y) ∧ cx_val ad tS v y := fun q e1 => by
      have hcat := cx_cat1 q h.1
      have e2 : lg_sl (x :: xs) = Slot.val x :: lg_sl xs := by
        show (if x.category = 2 then [Slot.val x, Slot.second] else [Slot.val x]) ++ lg_sl xs = _
        rw [if_neg (by omega)]
        rfl
      rw [e1, e2]
      refine ⟨by simp [h1], fun i v hv => ?_⟩
      match i, hv with
      | 0, hv => simp at hv; subst hv; exact ⟨_, rfl, h.1⟩
      | i + 1, hv =>
        obtain ⟨w, w1, w2⟩ := h2 i v (by simpa using hv)
        exact ⟨w, by simpa using w1, w2⟩
    match a, h, hk, one with
    | .inl (.long y), h, hk, _ =>
      have hx : x = .long y := h.1
      subst hx
      have e1 : cx_lay (.inl (.long y) :: as) = some (.inl (.long y)) :: none :: cx_lay as := rfl
      have e2 : lg_sl (Value.long y :: xs) = Slot.val (.long y) :: Slot.second :: lg_sl xs := rfl
      rw [e1, e2]
      refine ⟨by simp [h1], fun i v hv => ?_⟩
      match i, hv with
      | 0, hv => simp at hv; subst hv; exact ⟨_, rfl, rfl⟩
      | 1, hv => simp at hv
      | i + 2, hv =>
        obtain ⟨w, w1, w2⟩ := h2 i v (by simpa using hv)
        exact ⟨w, by simpa using w1, w2⟩
    | .inl (.int y), h, hk, one => exact one rfl rfl
    | .inr y, h, hk, one => exact one rfl rfl
  | [], _ :: _, h, _ => h.elim
  | _ :: _, [], h, _ => h.elim
def cx_nones : Nat → List (Option cx_V)
  | 0 => []
  | k + 1 => none :: cx_nones k
theorem cx_nones_len : ∀ k, (cx_nones k).length = k
  | 0 => rfl
  | k + 1 => by simp [cx_nones, cx_nones_len k]
theorem cx_nones_get : ∀ {k i : Nat} {v : Option cx_V}, (cx_nones k)[i]? = some v → v = none
  | 0, i, v, h => by simp [cx_nones] at h
  | k + 1, 0, v, h => by simp [cx_nones] at h; exact h.symm
  | k + 1, i + 1, v, h => cx_nones_get (k := k) (i := i) (by simpa [cx_nones] using h)
def cx_ent (as : List cx_V) (nL : Nat) : List (Option cx_V) := cx_lay as ++ cx_nones (nL - (cx_lay as).length)
theorem cx_ent_ok {ad : List Nat} {tS nL : Nat} {as : List cx_V} {vs : List Value} (h : cx_all (cx_val ad tS) as vs) (hk : as.all cx_kn = true) (hl : (cx_lay as).length ≤ nL) : cx_loc ad tS nL (cx_ent as nL) ((lg_sl vs ++ List.replicate (nL - (lg_sl vs).length) Slot.unset).toArray) := by
  obtain ⟨h1, h2⟩ := cx_lay_ok h hk
  have hv := lv_entry vs (n := nL) (by omega)
  refine ⟨hv.1, hv.2.1, ?_, fun i v hiv => ?_⟩
  · unfold cx_ent
    rw [List.length_append, cx_nones_len]
    omega
  · unfold cx_ent at hiv
    by_cases hlt : i < (cx_lay as).length
    · rw [List.getElem?_append_left hlt] at hiv
      obtain ⟨x, x1, x2⟩ := h2 i v hiv
      refine ⟨x, ?_, x2⟩
      rw [List.getElem?_toArray, List.getElem?_append_left (by omega)]
      exact x1
    · rw [List.getElem?_append_right (by omega)] at hiv
      cases cx_nones_get hiv
def cx_sat (tS : Nat) (cs : Nat → ClassId) (nL : Nat) (S : cx_S) (ls : Array Slot) (stk : List Value) (ws : va_W) : Prop := cx_heap tS cs S.2.2 ws ∧ cx_loc (ws.map (·.1)) tS nL S.1 ls ∧ cx_all (cx_val (ws.map (·.1)) tS) S.2.1 stk
theorem cx_sat_set {tS nL : Nat} {cs : Nat → ClassId} {L : List (Option cx_V)} {r : List cx_V} {h' : cx_H} {ls : Array Slot} {stk : List Value} {ws : va_W} {k a : Nat} {e e' : va_E} (hL : cx_loc (ws.map (·.1)) tS nL L ls) (hr : cx_all (cx_val (ws.map (·.1)) tS) r stk) (hw : ws[k]? = some (a, e)) (hh : cx_heap tS cs h' (ws.set k (a, e'))) : cx_sat tS cs nL (L, r, h') ls stk (ws.set k (a, e')) :=
  ⟨hh, by rw [ab_ad_set hw]; exact hL, by rw [ab_ad_set hw]; exact hr⟩
def cx_rv (P : cx_V → Value → Prop) (v : Option cx_V) (x : Option Value) : Prop := match v, x with
  | none, none => True
  | some v, some x => P v x
  | _, _ => False
/-- what holds behind a method -/
def cx_Po (tS : Nat) (cs : Nat → ClassId) (ks : List Nat) (w0 : va_W) (P : Option cx_V → cx_H → Prop) (rv : Option Value) (ws' : va_W) : Prop := ∃ r h', P r h' ∧ h'.map (·.1) = ks ∧ cx_fr ks w0 ws' ∧ cx_heap tS cs h' ws' ∧ cx_rv (cx_val (ws'.map (·.1)) tS) r rv
end
