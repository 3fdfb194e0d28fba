noncomputable section
/-! The roster: guards by how many are fresh at each beach, how many have rested, and the others. -/
def bP (p : Prop) : Bool := @decide p (Classical.propDecidable p)
theorem bP_iff {p : Prop} : bP p = true ↔ p := by
  unfold bP
  exact @decide_eq_true_iff p (Classical.propDecidable p)
/-- the least of those that are so: Z if none is less -/
def mnZ (Z : Nat) (ok : Nat → Bool) (G : Nat → Nat) : Nat → Nat
  | 0 => Z
  | k + 1 => if ok k = true then min (mnZ Z ok G k) (G k) else mnZ Z ok G k
theorem mnZ_b {Z : Nat} {ok : Nat → Bool} {G : Nat → Nat} : ∀ {k : Nat}, mnZ Z ok G k ≤ Z
  | 0 => Nat.le_refl _
  | k + 1 => by
    have := mnZ_b (Z := Z) (ok := ok) (G := G) (k := k)
    rw [mnZ]
    split <;> omega
theorem mnZ_le {Z : Nat} {ok : Nat → Bool} {G : Nat → Nat} : ∀ {k c : Nat}, c < k → ok c = true → mnZ Z ok G k ≤ G c
  | 0, c, h, _ => absurd h (Nat.not_lt_zero c)
  | k + 1, c, h, h2 => by
    rw [mnZ]
    by_cases q : c = k
    · rw [q] at h2 ⊢
      rw [if_pos h2]
      omega
    · have := mnZ_le (Z := Z) (ok := ok) (G := G) (k := k) (c := c) (by omega) h2
      split <;> omega
theorem mnZ_or {Z : Nat} {ok : Nat → Bool} {G : Nat → Nat} : ∀ {k : Nat}, mnZ Z ok G k = Z ∨ ∃ c, c < k ∧ ok c = true ∧ mnZ Z ok G k = G c
  | 0 => Or.inl rfl
  | k + 1 => by
    have ih := mnZ_or (Z := Z) (ok := ok) (G := G) (k := k)
    rw [mnZ]
    by_cases q : ok k = true
    · rw [if_pos q]
      by_cases q2 : mnZ Z ok G k ≤ G k
      · rw [Nat.min_eq_left q2]
        rcases ih with h | ⟨c, h1, h2, h3⟩
        · exact Or.inl h
        · exact Or.inr ⟨c, by omega, h2, h3⟩
      · rw [Nat.min_eq_right (by omega)]
        exact Or.inr ⟨k, by omega, q, rfl⟩
    · rw [if_neg q]
      rcases ih with h | ⟨c, h1, h2, h3⟩
      · exact Or.inl h
      · exact Or.inr ⟨c, by omega, h2, h3⟩
theorem mnZ_eq {Z : Nat} {ok : Nat → Bool} {G : Nat → Nat} {k v : Nat} (h1 : ∃ c, c < k ∧ ok c = true ∧ G c = v) (h2 : ∀ c, c < k → ok c = true → v ≤ G c) (hZ : v ≤ Z) : mnZ Z ok G k = v := by
  obtain ⟨c, c1, c2, c3⟩ := h1
  have u := mnZ_le (Z := Z) (G := G) c1 c2
  rcases mnZ_or (Z := Z) (ok := ok) (G := G) (k := k) with h | ⟨d, d1, d2, d3⟩
  · omega
  · have := h2 d d1 d2
    omega
theorem mnZ_at {Z : Nat} {ok : Nat → Bool} {G : Nat → Nat} {k : Nat} (h : ∃ c, c < k ∧ ok c = true ∧ G c ≤ Z) : ∃ c, c < k ∧ ok c = true ∧ mnZ Z ok G k = G c := by
  rcases mnZ_or (Z := Z) (ok := ok) (G := G) (k := k) with q | q
  · obtain ⟨c, c1, c2, c3⟩ := h
    have u := mnZ_le (Z := Z) (G := G) c1 c2
    exact ⟨c, c1, c2, by omega⟩
  · exact q
/-! the spreads -/
def rThL : List Nat := [0, 0, 0, 0, 0, 0, 0, 1, 0, 0, 1, 0, 0, 1, 0, 0, 1, 0, 0, 0, 0, 0, 0, 2, 0, 0, 1, 1, 0, 0, 2, 0, 0, 1, 0, 1, 0, 1, 1, 0, 0, 2, 0, 0, 1, 0, 0, 1, 1, 0, 1, 0, 1, 1, 0, 0, 2, 0, 0, 0, 0, 0, 0, 3, 0, 0, 1, 2, 0, 0, 2, 1, 0, 0, 3, 0, 0, 1, 0, 2, 0, 1, 1, 1, 0, 1, 2, 0, 0, 2, 0, 1, 0, 2, 1, 0, 0, 3, 0, 0, 1, 0, 0, 2, 1, 0, 1, 1, 1, 0, 2, 0, 1, 1, 0, 1, 1, 1, 1, 0, 1, 2, 0, 0, 2, 0, 0, 1, 2, 0, 1, 0, 2, 1, 0, 0, 3, 0, 0, 0, 0, 0, 0, 4, 0, 0, 1, 3, 0, 0, 2, 2, 0, 0, 3, 1, 0, 0, 4, 0, 0, 1, 0, 3, 0, 1, 1, 2, 0, 1, 2, 1, 0, 1, 3, 0, 0, 2, 0, 2, 0, 2, 1, 1, 0, 2, 2, 0, 0, 3, 0, 1, 0, 3, 1, 0, 0, 4, 0, 0, 1, 0, 0, 3, 1, 0, 1, 2, 1, 0, 2, 1, 1, 0, 3, 0, 1, 1, 0, 2, 1, 1, 1, 1, 1, 1, 2, 0, 1, 2, 0, 1, 1, 2, 1, 0, 1, 3, 0, 0, 2, 0, 0, 2, 2, 0, 1, 1, 2, 0, 2, 0, 2, 1, 0, 1, 2, 1, 1, 0, 2, 2, 0, 0, 3, 0, 0, 1, 3, 0, 1, 0, 3, 1, 0, 0, 4, 0, 0, 0]
def rSzL : List Nat := [0, 1, 1, 1, 1, 2, 2, 2, 2, 2, 2, 2, 2, 2, 2, 3, 3, 3, 3, 3, 3, 3, 3, 3, 3, 3, 3, 3, 3, 3, 3, 3, 3, 3, 3, 4, 4, 4, 4, 4, 4, 4, 4, 4, 4, 4, 4, 4, 4, 4, 4, 4, 4, 4, 4, 4, 4, 4, 4, 4, 4, 4, 4, 4, 4, 4, 4, 4, 4, 4]
def rCdL : List Nat := [0, 125, 25, 5, 1, 250, 150, 50, 130, 30, 10, 126, 26, 6, 2, 375, 275, 175, 75, 255, 155, 55, 135, 35, 15, 251, 151, 51, 131, 31, 11, 127, 27, 7, 3, 500, 400, 300, 200, 100, 380, 280, 180, 80, 260, 160, 60, 140, 40, 20, 376, 276, 176, 76, 256, 156, 56, 136, 36, 16, 252, 152, 52, 132, 32, 12, 128, 28, 8, 4]
def rSpL : List Nat := [0, 4, 14, 34, 69, 3, 13, 33, 68, 0, 10, 30, 65, 0, 0, 24, 59, 0, 0, 0, 49, 0, 0, 0, 0, 2, 12, 32, 67, 0, 9, 29, 64, 0, 0, 23, 58, 0, 0, 0, 48, 0, 0, 0, 0, 0, 0, 0, 0, 0, 7, 27, 62, 0, 0, 21, 56, 0, 0, 0, 46, 0, 0, 0, 0, 0, 0, 0, 0, 0, 0, 0, 0, 0, 0, 18, 53, 0, 0, 0, 43, 0, 0, 0, 0, 0, 0, 0, 0, 0, 0, 0, 0, 0, 0, 0, 0, 0, 0, 0, 39, 0, 0, 0, 0, 0, 0, 0, 0, 0, 0, 0, 0, 0, 0, 0, 0, 0, 0, 0, 0, 0, 0, 0, 0, 1, 11, 31, 66, 0, 8, 28, 63, 0, 0, 22, 57, 0, 0, 0, 47, 0, 0, 0, 0, 0, 0, 0, 0, 0, 6, 26, 61, 0, 0, 20, 55, 0, 0, 0, 45, 0, 0, 0, 0, 0, 0, 0, 0, 0, 0, 0, 0, 0, 0, 17, 52, 0, 0, 0, 42, 0, 0, 0, 0, 0, 0, 0, 0, 0, 0, 0, 0, 0, 0, 0, 0, 0, 0, 0, 38, 0, 0, 0, 0, 0, 0, 0, 0, 0, 0, 0, 0, 0, 0, 0, 0, 0, 0, 0, 0, 0, 0, 0, 0, 0, 0, 0, 0, 0, 0, 0, 0, 0, 0, 0, 0, 0, 0, 0, 0, 0, 0, 0, 0, 0, 0, 0, 0, 0, 5, 25, 60, 0, 0, 19, 54, 0, 0, 0, 44, 0, 0, 0, 0, 0, 0, 0, 0, 0, 0, 0, 0, 0, 0, 16, 51, 0, 0, 0, 41, 0, 0, 0, 0, 0, 0, 0, 0, 0, 0, 0, 0, 0, 0, 0, 0, 0, 0, 0, 37, 0, 0, 0, 0, 0, 0, 0, 0, 0, 0, 0, 0, 0, 0, 0, 0, 0, 0, 0, 0, 0, 0, 0, 0, 0, 0, 0, 0, 0, 0, 0, 0, 0, 0, 0, 0, 0, 0, 0, 0, 0, 0, 0, 0, 0, 0, 0, 0, 0, 0, 0, 0, 0, 0, 0, 0, 0, 0, 0, 0, 0, 0, 0, 0, 0, 0, 0, 0, 0, 0, 0, 0, 0, 0, 15, 50, 0, 0, 0, 40, 0, 0, 0, 0, 0, 0, 0, 0, 0, 0, 0, 0, 0, 0, 0, 0, 0, 0, 0, 36, 0, 0, 0, 0, 0, 0, 0, 0, 0, 0, 0, 0, 0, 0, 0, 0, 0, 0, 0, 0, 0, 0, 0, 0, 0, 0, 0, 0, 0, 0, 0, 0, 0, 0, 0, 0, 0, 0, 0, 0, 0, 0, 0, 0, 0, 0, 0, 0, 0, 0, 0, 0, 0, 0, 0, 0, 0, 0, 0, 0, 0, 0, 0, 0, 0, 0, 0, 0, 0, 0, 0, 0, 0, 0, 0, 0, 0, 0, 0, 0, 0, 0, 0, 0, 0, 0, 0, 0, 0, 0, 0, 0, 0, 0, 0, 0, 0, 0, 0, 35, 0, 0, 0, 0, 0, 0, 0, 0, 0, 0, 0, 0, 0, 0, 0, 0, 0, 0, 0, 0, 0, 0, 0, 0, 0, 0, 0, 0, 0, 0, 0, 0, 0, 0, 0, 0, 0, 0, 0, 0, 0, 0, 0, 0, 0, 0, 0, 0, 0, 0, 0, 0, 0, 0, 0, 0, 0, 0, 0, 0, 0, 0, 0, 0, 0, 0, 0, 0, 0, 0, 0, 0, 0, 0, 0, 0, 0, 0, 0, 0, 0, 0, 0, 0, 0, 0, 0, 0, 0, 0, 0, 0, 0, 0, 0, 0, 0, 0, 0, 0, 0, 0, 0, 0, 0, 0, 0, 0, 0, 0, 0, 0, 0, 0, 0, 0, 0, 0, 0, 0, 0, 0, 0, 0]
/-- how many of a spread's guards are at a beach (the numbers themselves are looked up by name alone: cN_e) -/
def cNl (i b : Nat) : Nat := rThL.getD (4 * i + b) 0
def szNl (i : Nat) : Nat := rSzL.getD i 0
def cdNl (i : Nat) : Nat := rCdL.getD i 0
def spNl (c : Nat) : Nat := rSpL.getD c 0
theorem xcN : ∃ f : Nat → Nat → Nat, f = cNl := ⟨_, rfl⟩
theorem xszN : ∃ f : Nat → Nat, f = szNl := ⟨_, rfl⟩
theorem xcdN : ∃ f : Nat → Nat, f = cdNl := ⟨_, rfl⟩
theorem xspN : ∃ f : Nat → Nat, f = spNl := ⟨_, rfl⟩
def cN : Nat → Nat → Nat := Classical.choose xcN
def szN : Nat → Nat := Classical.choose xszN
def cdN : Nat → Nat := Classical.choose xcdN
def spN : Nat → Nat := Classical.choose xspN
theorem cN_e : cN = cNl := Classical.choose_spec xcN
theorem szN_e : szN = szNl := Classical.choose_spec xszN
theorem cdN_e : cdN = cdNl := Classical.choose_spec xcdN
theorem spN_e : spN = spNl := Classical.choose_spec xspN
def p5 (b : Nat) : Nat := 5 ^ b
def spC1 (i : Nat) : Bool := Nat.beq (szNl i) (cNl i 0 + cNl i 1 + cNl i 2 + cNl i 3) && (Nat.beq (cdNl i) (cNl i 0 + 5 * cNl i 1 + 25 * cNl i 2 + 125 * cNl i 3) && (Nat.beq (spNl (cdNl i)) i && Nat.ble (szNl i) 4))
theorem spC1_ok : (List.range 70).all spC1 = true := by decide +kernel
theorem sp_sz {i : Nat} (h : i < 70) : szN i = cN i 0 + cN i 1 + cN i 2 + cN i 3 ∧ cdN i = cN i 0 + 5 * cN i 1 + 25 * cN i 2 + 125 * cN i 3 ∧ spN (cdN i) = i ∧ szN i ≤ 4 := by
  rw [cN_e, szN_e, cdN_e, spN_e]
  have h1 := List.all_eq_true.mp spC1_ok i (List.mem_range.mpr h)
  unfold spC1 at h1
  rw [Bool.and_eq_true, Bool.and_eq_true, Bool.and_eq_true] at h1
  exact ⟨Nat.eq_of_beq_eq_true h1.1, Nat.eq_of_beq_eq_true h1.2.1, Nat.eq_of_beq_eq_true h1.2.2.1, Nat.le_of_ble_eq_true h1.2.2.2⟩
def spC2 (c : Nat) : Bool := !Nat.ble (c % 5 + c / 5 % 5 + c / 25 % 5 + c / 125) 4 || (Nat.blt (spNl c) 70 && (Nat.beq (cNl (spNl c) 0) (c % 5) && (Nat.beq (cNl (spNl c) 1) (c / 5 % 5) && (Nat.beq (cNl (spNl c) 2) (c / 25 % 5) && Nat.beq (cNl (spNl c) 3) (c / 125)))))
theorem spC2_ok : (List.range 625).all spC2 = true := by decide +kernel
/-- every few guards at beaches are a spread -/
theorem sp_ex {n0 n1 n2 n3 : Nat} (h : n0 + n1 + n2 + n3 ≤ 4) : spN (n0 + 5 * n1 + 25 * n2 + 125 * n3) < 70 ∧ cN (spN (n0 + 5 * n1 + 25 * n2 + 125 * n3)) 0 = n0 ∧ cN (spN (n0 + 5 * n1 + 25 * n2 + 125 * n3)) 1 = n1 ∧ cN (spN (n0 + 5 * n1 + 25 * n2 + 125 * n3)) 2 = n2 ∧ cN (spN (n0 + 5 * n1 + 25 * n2 + 125 * n3)) 3 = n3 := by
  rw [spN_e, cN_e]
  have h1 := List.all_eq_true.mp spC2_ok (n0 + 5 * n1 + 25 * n2 + 125 * n3) (List.mem_range.mpr (by omega))
  unfold spC2 at h1
  rw [Bool.or_eq_true] at h1
  rcases h1 with h1 | h1
  · exfalso
    have e0 : (n0 + 5 * n1 + 25 * n2 + 125 * n3) % 5 = n0 := by omega
    have e1 : (n0 + 5 * n1 + 25 * n2 + 125 * n3) / 5 % 5 = n1 := by omega
    have e2 : (n0 + 5 * n1 + 25 * n2 + 125 * n3) / 25 % 5 = n2 := by omega
    have e3 : (n0 + 5 * n1 + 25 * n2 + 125 * n3) / 125 = n3 := by omega
    have : Nat.ble ((n0 + 5 * n1 + 25 * n2 + 125 * n3) % 5 + (n0 + 5 * n1 + 25 * n2 + 125 * n3) / 5 % 5 + (n0 + 5 * n1 + 25 * n2 + 125 * n3) / 25 % 5 + (n0 + 5 * n1 + 25 * n2 + 125 * n3) / 125) 4 = true := Nat.ble_eq_true_of_le (by rw [e0, e1, e2, e3]; exact h)
    rw [this] at h1
    cases h1
  · rw [Bool.and_eq_true, Bool.and_eq_true, Bool.and_eq_true, Bool.and_eq_true] at h1
    obtain ⟨g1, g2, g3, g4, g5⟩ := h1
    refine ⟨Nat.le_of_ble_eq_true g1, ?_, ?_, ?_, ?_⟩
    · rw [Nat.eq_of_beq_eq_true g2]; omega
    · rw [Nat.eq_of_beq_eq_true g3]; omega
    · rw [Nat.eq_of_beq_eq_true g4]; omega
    · rw [Nat.eq_of_beq_eq_true g5]; omega
/-! where guards may go -/
/-- how many: at beaches 0 to 3 -/
def c4 (c : Nat → Nat) : Nat := c 0 + c 1 + c 2 + c 3
def ce (b : Nat) : Nat → Nat := fun x => if x = b then 1 else 0
def cadd (c d : Nat → Nat) : Nat → Nat := fun x => c x + d x
/-- whether fresh guards at these beaches, one behind another, may go on to be so -/
def cho (nb : Nat → Nat → Prop) : List Nat → (Nat → Nat) → Prop
  | [], c => ∀ b, b < 4 → c b = 0
  | b :: l, c => cho nb l c ∨ ∃ to, to < 4 ∧ 0 < c to ∧ nb b to ∧ cho nb l (fun x => if x = to then c x - 1 else c x)
theorem cho_E {nb : Nat → Nat → Prop} : ∀ {l : List Nat} {c d : Nat → Nat}, (∀ b, b < 4 → c b = d b) → cho nb l c → cho nb l d
  | [], c, d, h, k => fun b hb => by rw [← h b hb]; exact k b hb
  | b :: l, c, d, h, k => by
    rcases k with k | ⟨to, k1, k2, k3, k4⟩
    · exact Or.inl (cho_E h k)
    · refine Or.inr ⟨to, k1, by rw [← h to k1]; exact k2, k3, cho_E (fun x hx => ?_) k4⟩
      show (if x = to then c x - 1 else c x) = if x = to then d x - 1 else d x
      rw [h x hx]
theorem c4_dec {c : Nat → Nat} {to : Nat} (h : to < 4) (h2 : 0 < c to) : c4 (fun x => if x = to then c x - 1 else c x) + 1 = c4 c := by
  show (if 0 = to then c 0 - 1 else c 0) + (if 1 = to then c 1 - 1 else c 1) + (if 2 = to then c 2 - 1 else c 2) + (if 3 = to then c 3 - 1 else c 3) + 1 = c 0 + c 1 + c 2 + c 3
  rcases (show to = 0 ∨ to = 1 ∨ to = 2 ∨ to = 3 by omega) with rfl | rfl | rfl | rfl
  · rw [if_pos rfl, if_neg (by decide), if_neg (by decide), if_neg (by decide)]; omega
  · rw [if_neg (by decide), if_pos rfl, if_neg (by decide), if_neg (by decide)]; omega
  · rw [if_neg (by decide), if_neg (by decide), if_pos rfl, if_neg (by decide)]; omega
  · rw [if_neg (by decide), if_neg (by decide), if_neg (by decide), if_pos rfl]; omega
theorem cho_len {nb : Nat → Nat → Prop} : ∀ {l : List Nat} {c : Nat → Nat}, cho nb l c → c4 c ≤ l.length
  | [], c, h => by
    unfold c4
    rw [h 0 (by omega), h 1 (by omega), h 2 (by omega), h 3 (by omega)]
    exact Nat.le_refl _
  | b :: l, c, h => by
    rw [List.length_cons]
    rcases h with h | ⟨to, h1, h2, h3, h4⟩
    · have := cho_len h; omega
    · have := cho_len h4
      have := c4_dec h1 h2
      omega
/-- a guard's state by where it is sent (4: to rest): 0 rested, 1 + 2 b fresh at b, else tired -/
def gs1 (nb : Nat → Nat → Prop) (s to s2 : Nat) : Prop := (to = 4 ∧ s2 = 0) ∨ (to < 4 ∧ s = 0 ∧ s2 = 1 + 2 * to) ∨ (to < 4 ∧ s % 2 = 1 ∧ nb ((s - 1) / 2) to ∧ s2 = 2 + 2 * to)
/-- guards one behind another; the first q of them are none -/
def gsL (nb : Nat → Nat → Prop) : Nat → List Nat → List Nat → List Nat → Prop
  | _, [], [], [] => True
  | q, s :: l, t :: ts, y :: ys => gs1 nb s t y ∧ (0 < q → t = 4) ∧ gsL nb (q - 1) l ts ys
  | _, _, _, _ => False
/-- the beaches of the fresh -/
def frB : List Nat → List Nat
  | [] => []
  | s :: l => if s % 2 = 1 then (s - 1) / 2 :: frB l else frB l
def zrB : List Nat → Nat
  | [] => 0
  | s :: l => if s = 0 then zrB l + 1 else zrB l
/-- how many of a list at a beach -/
def cnB (l : List Nat) (b : Nat) : Nat := match l with
  | [] => 0
  | x :: r => (if x = b then 1 else 0) + cnB r b
/-- the first q are 0 -/
def zq : Nat → List Nat → Prop
  | 0, _ => True
  | _ + 1, [] => True
  | q + 1, s :: l => s = 0 ∧ zq q l
theorem gs_on {nb : Nat → Nat → Prop} : ∀ {l ts ys : List Nat} {q : Nat}, (∀ s ∈ l, s < 9) → zq q l → gsL nb q l ts ys → ∃ on fr : Nat → Nat, (∀ b, b < 4 → cnB ts b = on b + fr b) ∧ cho nb (frB l) on ∧ (∀ b, b < 4 → cnB (frB ys) b = fr b) ∧ c4 fr + q ≤ zrB l + (q - l.length) ∧ zrB ys + c4 on + c4 fr = l.length ∧ (∀ y ∈ ys, y < 9) ∧ ys.length = l.length ∧ (frB ys).length = c4 fr
  | [], [], [], q, _, _, _ => ⟨fun _ => 0, fun _ => 0, fun _ _ => rfl, fun _ _ => rfl, fun _ _ => rfl, by show 0 + q ≤ 0 + (q - 0); omega, rfl, fun _ h => absurd h List.not_mem_nil, rfl, rfl⟩
  | [], [], _ :: _, _, _, _, h => h.elim
  | [], _ :: _, _, _, _, _, h => h.elim
  | _ :: _, [], _, _, _, _, h => h.elim
  | _ :: _, _ :: _, [], _, _, _, h => h.elim
  | s :: l, t :: ts, y :: ys, q, h9, hz, ⟨g1, g2, g3⟩ => by
    have hz1 : zq (q - 1) l := by
      cases q with
      | zero => exact trivial
      | succ q => exact hz.2
    obtain ⟨on, fr, e1, e2, e3, e4, e5, e6, e7, e8⟩ := gs_on (fun x hx => h9 x (List.mem_cons_of_mem _ hx)) hz1 g3
    have hs := h9 s List.mem_cons_self
    have hlen : (s :: l).length = l.length + 1 := rfl
    have c0 : ∀ (c : Nat → Nat) (b : Nat), b < 4 → c4 (cadd (ce b) c) = c4 c + 1 := fun c b hb => by
      unfold c4 cadd ce
      rcases (show b = 0 ∨ b = 1 ∨ b = 2 ∨ b = 3 by omega) with rfl | rfl | rfl | rfl
      · rw [if_pos rfl, if_neg (by decide), if_neg (by decide), if_neg (by decide)]; omega
      · rw [if_neg (by decide), if_pos rfl, if_neg (by decide), if_neg (by decide)]; omega
      · rw [if_neg (by decide), if_neg (by decide), if_pos rfl, if_neg (by decide)]; omega
      · rw [if_neg (by decide), if_neg (by decide), if_neg (by decide), if_pos rfl]; omega
    rcases g1 with ⟨rfl, rfl⟩ | ⟨p1, rfl, rfl⟩ | ⟨p1, p2, p3, rfl⟩
    · -- to rest
      refine ⟨on, fr, fun b hb => ?_, ?_, fun b hb => by rw [frB, if_neg (by decide)]; exact e3 b hb, ?_, ?_, ?_, by rw [List.length_cons, List.length_cons, e7], by rw [frB, if_neg (by decide)]; exact e8⟩
      · show (if 4 = b then 1 else 0) + cnB ts b = _
        rw [if_neg (by omega), e1 b hb]; omega
      · rw [frB]
        by_cases o : s % 2 = 1
        · rw [if_pos o]; exact Or.inl e2
        · rw [if_neg o]; exact e2
      · rw [zrB, hlen]
        by_cases o : s = 0
        · rw [if_pos o]; omega
        · rw [if_neg o]
          have hq0 : q = 0 := by
            cases q with
            | zero => rfl
            | succ q => exact absurd hz.1 o
          omega
      · show (if (0 : Nat) = 0 then zrB ys + 1 else zrB ys) + _ + _ = _
        rw [if_pos rfl, hlen]; omega
      · intro x hx
        rcases List.mem_cons.mp hx with rfl | hx
        · omega
        · exact e6 x hx
    · -- rested, to a beach
      have hq0 : q = 0 := by
        cases q with
        | zero => rfl
        | succ q => exact absurd (g2 (by omega)) (by omega)
      subst hq0
      refine ⟨on, cadd (ce t) fr, fun b hb => ?_, ?_, fun b hb => ?_, ?_, ?_, ?_, by rw [List.length_cons, List.length_cons, e7], ?_⟩
      · show (if t = b then 1 else 0) + cnB ts b = on b + ((if b = t then 1 else 0) + fr b)
        rw [e1 b hb]
        by_cases z : t = b
        · rw [if_pos z, if_pos z.symm]; omega
        · rw [if_neg z, if_neg (fun w => z w.symm)]; omega
      · rw [frB, if_neg (by omega)]; exact e2
      · rw [frB, if_pos (by omega), show (1 + 2 * t - 1) / 2 = t by omega]
        show (if t = b then 1 else 0) + cnB (frB ys) b = (if b = t then 1 else 0) + fr b
        rw [e3 b hb]
        by_cases z : t = b
        · rw [if_pos z, if_pos z.symm]
        · rw [if_neg z, if_neg (fun w => z w.symm)]
      · rw [zrB, if_pos rfl, c0 _ _ p1, hlen]
        have e4 : c4 fr + 0 ≤ zrB l + (0 - l.length) := e4
        omega
      · rw [zrB, if_neg (by omega), c0 _ _ p1, hlen]; omega
      · intro x hx
        rcases List.mem_cons.mp hx with rfl | hx
        · omega
        · exact e6 x hx
      · rw [frB, if_pos (by omega), List.length_cons, e8, c0 _ _ p1]
    · -- fresh, on
      have hq0 : q = 0 := by
        cases q with
        | zero => rfl
        | succ q => exact absurd (g2 (by omega)) (by omega)
      subst hq0
      refine ⟨cadd (ce t) on, fr, fun b hb => ?_, ?_, fun b hb => ?_, ?_, ?_, ?_, by rw [List.length_cons, List.length_cons, e7], ?_⟩
      · show (if t = b then 1 else 0) + cnB ts b = ((if b = t then 1 else 0) + on b) + fr b
        rw [e1 b hb]
        by_cases z : t = b
        · rw [if_pos z, if_pos z.symm]; omega
        · rw [if_neg z, if_neg (fun w => z w.symm)]; omega
      · rw [frB, if_pos p2]
        refine Or.inr ⟨t, p1, ?_, p3, cho_E (fun x _ => ?_) e2⟩
        · show 0 < (if t = t then 1 else 0) + on t
          rw [if_pos rfl]; omega
        · show on x = if x = t then (if x = t then 1 else 0) + on x - 1 else (if x = t then 1 else 0) + on x
          by_cases z : x = t
          · rw [if_pos z, if_pos z]; omega
          · rw [if_neg z, if_neg z]; omega
      · rw [frB, if_neg (by omega)]; exact e3 b hb
      · rw [zrB, if_neg (by omega), hlen]
        have e4 : c4 fr + 0 ≤ zrB l + (0 - l.length) := e4
        omega
      · rw [zrB, if_neg (by omega), c0 _ _ p1, hlen]; omega
      · intro x hx
        rcases List.mem_cons.mp hx with rfl | hx
        · omega
        · exact e6 x hx
      · rw [frB, if_neg (by omega)]; exact e8
theorem c4_0 {c : Nat → Nat} (h : c4 c = 0) : ∀ b, b < 4 → c b = 0 := fun b hb => by
  unfold c4 at h
  rcases (show b = 0 ∨ b = 1 ∨ b = 2 ∨ b = 3 by omega) with rfl | rfl | rfl | rfl <;> omega
theorem c4_p {c : Nat → Nat} (h : ¬ c4 c = 0) : ∃ b, b < 4 ∧ 0 < c b := by
  unfold c4 at h
  by_cases h0 : 0 < c 0
  · exact ⟨0, by omega, h0⟩
  · by_cases h1 : 0 < c 1
    · exact ⟨1, by omega, h1⟩
    · by_cases h2 : 0 < c 2
      · exact ⟨2, by omega, h2⟩
      · exact ⟨3, by omega, by omega⟩
theorem cnB_c {t : Nat} {ts : List Nat} {b : Nat} : cnB (t :: ts) b = (if t = b then 1 else 0) + cnB ts b := rfl
/-- and the other way: who goes on and who begins, as may be -/
theorem gs_of {nb : Nat → Nat → Prop} : ∀ {l : List Nat} {q : Nat} {on fr : Nat → Nat}, (∀ s ∈ l, s < 9) → zq q l → cho nb (frB l) on → c4 fr + q ≤ zrB l + (q - l.length) → ∃ ts ys : List Nat, gsL nb q l ts ys ∧ (∀ b, b < 4 → cnB ts b = on b + fr b) ∧ (∀ b, b < 4 → cnB (frB ys) b = fr b) ∧ zrB ys + c4 on + c4 fr = l.length ∧ (∀ t ∈ ts, t ≤ 4)
  | [], q, on, fr, _, _, hc, hf => by
    have h0 : c4 fr = 0 := by
      have hf : c4 fr + q ≤ 0 + (q - 0) := hf
      omega
    have h1 : c4 on = 0 := by
      have := cho_len hc
      have h2 : (frB []).length = 0 := rfl
      omega
    refine ⟨[], [], trivial, fun b hb => ?_, fun b hb => ?_, ?_, fun _ h => absurd h List.not_mem_nil⟩
    · rw [c4_0 h0 b hb, c4_0 h1 b hb]; rfl
    · rw [c4_0 h0 b hb]; rfl
    · rw [h0, h1]; rfl
  | s :: l, q, on, fr, h9, hz, hc, hf => by
    have hz1 : zq (q - 1) l := by
      cases q with
      | zero => exact trivial
      | succ q => exact hz.2
    have h9l : ∀ x ∈ l, x < 9 := fun x hx => h9 x (List.mem_cons_of_mem _ hx)
    have hs := h9 s List.mem_cons_self
    have hlen : (s :: l).length = l.length + 1 := rfl
    -- to rest
    have rest : cho nb (frB l) on → c4 fr + (q - 1) ≤ zrB l + ((q - 1) - l.length) → ∃ ts ys : List Nat, gsL nb q (s :: l) ts ys ∧ (∀ b, b < 4 → cnB ts b = on b + fr b) ∧ (∀ b, b < 4 → cnB (frB ys) b = fr b) ∧ zrB ys + c4 on + c4 fr = (s :: l).length ∧ (∀ t ∈ ts, t ≤ 4) := fun k1 k2 => by
      obtain ⟨ts, ys, g1, g2, g3, g4, g5⟩ := gs_of h9l hz1 k1 k2
      refine ⟨4 :: ts, 0 :: ys, ⟨Or.inl ⟨rfl, rfl⟩, fun _ => rfl, g1⟩, fun b hb => ?_, fun b hb => ?_, ?_, fun t ht => ?_⟩
      · rw [cnB_c, if_neg (by omega), g2 b hb]; omega
      · rw [frB, if_neg (by decide)]; exact g3 b hb
      · rw [zrB, if_pos rfl, hlen]; omega
      · rcases List.mem_cons.mp ht with rfl | ht
        · exact Nat.le_refl _
        · exact g5 t ht
    by_cases o : s % 2 = 1
    · have hq0 : q = 0 := by
        cases q with
        | zero => rfl
        | succ q =>
          have := hz.1
          omega
      subst hq0
      rw [frB, if_pos o] at hc
      rw [zrB, if_neg (by omega)] at hf
      rcases hc with hc | ⟨to, k1, k2, k3, k4⟩
      · exact rest hc (by show c4 fr + 0 ≤ zrB l + (0 - l.length); omega)
      · have hd := c4_dec k1 k2
        obtain ⟨ts, ys, g1, g2, g3, g4, g5⟩ := gs_of (q := 0) (fr := fr) h9l trivial k4 (by omega)
        refine ⟨to :: ts, (2 + 2 * to) :: ys, ⟨Or.inr (Or.inr ⟨k1, o, k3, rfl⟩), fun z => absurd z (Nat.lt_irrefl _), g1⟩, fun b hb => ?_, fun b hb => ?_, ?_, fun t ht => ?_⟩
        · rw [cnB_c, g2 b hb]
          by_cases z : to = b
          · subst z
            rw [if_pos rfl, if_pos rfl]; omega
          · rw [if_neg z, if_neg (fun w => z w.symm)]; omega
        · rw [frB, if_neg (by omega)]; exact g3 b hb
        · rw [zrB, if_neg (by omega), hlen]; omega
        · rcases List.mem_cons.mp ht with rfl | ht
          · omega
          · exact g5 t ht
    · rw [frB, if_neg o] at hc
      by_cases hs0 : s = 0
      · rw [zrB, if_pos hs0, hlen] at hf
        by_cases hq : 0 < q
        · exact rest hc (by omega)
        · have hq0 : q = 0 := by omega
          subst hq0
          by_cases hf0 : c4 fr = 0
          · exact rest hc (by omega)
          · obtain ⟨to, k1, k2⟩ := c4_p hf0
            have hd := c4_dec k1 k2
            obtain ⟨ts, ys, g1, g2, g3, g4, g5⟩ := gs_of (q := 0) (fr := fun x => if x = to then fr x - 1 else fr x) h9l trivial hc (by omega)
            refine ⟨to :: ts, (1 + 2 * to) :: ys, ⟨Or.inr (Or.inl ⟨k1, hs0, rfl⟩), fun z => absurd z (Nat.lt_irrefl _), g1⟩, fun b hb => ?_, fun b hb => ?_, ?_, fun t ht => ?_⟩
            · rw [cnB_c, g2 b hb]
              by_cases z : to = b
              · subst z
                rw [if_pos rfl, if_pos rfl]; omega
              · rw [if_neg z, if_neg (fun w => z w.symm)]; omega
            · rw [frB, if_pos (by omega), show (1 + 2 * to - 1) / 2 = to by omega, cnB_c, g3 b hb]
              by_cases z : to = b
              · subst z
                rw [if_pos rfl, if_pos rfl]; omega
              · rw [if_neg z, if_neg (fun w => z w.symm)]; omega
            · rw [zrB, if_neg (by omega), hlen]; omega
            · rcases List.mem_cons.mp ht with rfl | ht
              · omega
              · exact g5 t ht
      · have hq0 : q = 0 := by
          cases q with
          | zero => rfl
          | succ q => exact absurd hz.1 hs0
        subst hq0
        rw [zrB, if_neg hs0] at hf
        exact rest hc (by omega)
/-- guards in the order of their states -/
def asc : List Nat → Prop
  | [] => True
  | x :: l => (∀ y ∈ l, x ≤ y) ∧ asc l
/-- the beaches in their order, as many of each as c says -/
def cnL (c : Nat → Nat) : List Nat := List.replicate (c 0) 0 ++ (List.replicate (c 1) 1 ++ (List.replicate (c 2) 2 ++ List.replicate (c 3) 3))
theorem cnL_E {c d : Nat → Nat} (h : ∀ b, b < 4 → c b = d b) : cnL c = cnL d := by
  unfold cnL
  rw [h 0 (by omega), h 1 (by omega), h 2 (by omega), h 3 (by omega)]
theorem cnB_0 : ∀ {l : List Nat} {b : Nat}, (∀ y ∈ l, b < y) → cnB l b = 0
  | [], _, _ => rfl
  | x :: l, b, h => by
    have := h x List.mem_cons_self
    rw [cnB_c, if_neg (by omega), cnB_0 (fun y hy => h y (List.mem_cons_of_mem _ hy))]
theorem asc_cnL : ∀ {l : List Nat}, asc l → (∀ y ∈ l, y < 4) → cnL (cnB l) = l
  | [], _, _ => rfl
  | x :: l, ha, h4 => by
    have ih := asc_cnL ha.2 (fun y hy => h4 y (List.mem_cons_of_mem _ hy))
    have hx := h4 x List.mem_cons_self
    have z : ∀ b, b < x → cnB l b = 0 := fun b hb => cnB_0 (fun y hy => Nat.lt_of_lt_of_le hb (ha.1 y hy))
    rcases (show x = 0 ∨ x = 1 ∨ x = 2 ∨ x = 3 by omega) with rfl | rfl | rfl | rfl
    · have e : cnL (cnB (0 :: l)) = 0 :: cnL (cnB l) := by
        unfold cnL
        rw [cnB_c, cnB_c, cnB_c, cnB_c, if_pos rfl, if_neg (by decide), if_neg (by decide), if_neg (by decide), Nat.add_comm 1, Nat.zero_add, Nat.zero_add, Nat.zero_add, List.replicate_succ]
        rfl
      rw [e, ih]
    · have e : cnL (cnB (1 :: l)) = 1 :: cnL (cnB l) := by
        unfold cnL
        rw [cnB_c, cnB_c, cnB_c, cnB_c, if_neg (by decide), if_pos rfl, if_neg (by decide), if_neg (by decide), Nat.add_comm 1, Nat.zero_add, Nat.zero_add, Nat.zero_add, List.replicate_succ, z 0 (by omega)]
        rfl
      rw [e, ih]
    · have e : cnL (cnB (2 :: l)) = 2 :: cnL (cnB l) := by
        unfold cnL
        rw [cnB_c, cnB_c, cnB_c, cnB_c, if_neg (by decide), if_neg (by decide), if_pos rfl, if_neg (by decide), Nat.add_comm 1, Nat.zero_add, Nat.zero_add, Nat.zero_add, List.replicate_succ, z 0 (by omega), z 1 (by omega)]
        rfl
      rw [e, ih]
    · have e : cnL (cnB (3 :: l)) = 3 :: cnL (cnB l) := by
        unfold cnL
        rw [cnB_c, cnB_c, cnB_c, cnB_c, if_neg (by decide), if_neg (by decide), if_neg (by decide), if_pos rfl, Nat.add_comm 1, Nat.zero_add, Nat.zero_add, Nat.zero_add, List.replicate_succ, z 0 (by omega), z 1 (by omega), z 2 (by omega)]
        rfl
      rw [e, ih]
theorem frB_mem : ∀ {l : List Nat} {b : Nat}, b ∈ frB l → ∃ s ∈ l, s % 2 = 1 ∧ b = (s - 1) / 2
  | [], b, h => absurd h List.not_mem_nil
  | s :: l, b, h => by
    rw [frB] at h
    by_cases o : s % 2 = 1
    · rw [if_pos o] at h
      rcases List.mem_cons.mp h with h | h
      · exact ⟨s, List.mem_cons_self, o, h⟩
      · obtain ⟨x, x1, x2⟩ := frB_mem h
        exact ⟨x, List.mem_cons_of_mem _ x1, x2⟩
    · rw [if_neg o] at h
      obtain ⟨x, x1, x2⟩ := frB_mem h
      exact ⟨x, List.mem_cons_of_mem _ x1, x2⟩
theorem asc_frB : ∀ {l : List Nat}, asc l → asc (frB l)
  | [], _ => trivial
  | s :: l, h => by
    have ih := asc_frB h.2
    rw [frB]
    by_cases o : s % 2 = 1
    · rw [if_pos o]
      refine ⟨fun y hy => ?_, ih⟩
      obtain ⟨x, x1, x2, x3⟩ := frB_mem hy
      have := h.1 x x1
      omega
    · rw [if_neg o]; exact ih
/-- the fresh of sorted guards are their spread's -/
theorem frB_cnL {l : List Nat} (ha : asc l) (h9 : ∀ s ∈ l, s < 9) : cnL (cnB (frB l)) = frB l := asc_cnL (asc_frB ha) (fun y hy => by
  obtain ⟨x, x1, x2, x3⟩ := frB_mem hy
  have := h9 x x1
  omega)
/-- the spread of so many at beaches -/
def spI (c : Nat → Nat) : Nat := spN (c 0 + 5 * c 1 + 25 * c 2 + 125 * c 3)
theorem spI_ok {c : Nat → Nat} (h : c4 c ≤ 4) : spI c < 70 ∧ (∀ b, b < 4 → cN (spI c) b = c b) ∧ szN (spI c) = c4 c := by
  obtain ⟨h1, h2, h3, h4, h5⟩ := sp_ex h
  refine ⟨h1, fun b hb => ?_, ?_⟩
  · rcases (show b = 0 ∨ b = 1 ∨ b = 2 ∨ b = 3 by omega) with rfl | rfl | rfl | rfl
    · exact h2
    · exact h3
    · exact h4
    · exact h5
  · refine (sp_sz h1).1.trans ?_
    rw [h2, h3, h4, h5]
    rfl
theorem spI_E {c d : Nat → Nat} (h : ∀ b, b < 4 → c b = d b) : spI c = spI d := by
  unfold spI
  rw [h 0 (by omega), h 1 (by omega), h 2 (by omega), h 3 (by omega)]
theorem spI_c {i : Nat} (h : i < 70) : spI (cN i) = i := by
  unfold spI
  rw [← (sp_sz h).2.1]
  exact (sp_sz h).2.2.1
theorem c4_E {c d : Nat → Nat} (h : ∀ b, b < 4 → c b = d b) : c4 c = c4 d := by
  unfold c4
  rw [h 0 (by omega), h 1 (by omega), h 2 (by omega), h 3 (by omega)]
theorem c4_sz {i : Nat} (h : i < 70) : c4 (cN i) = szN i := (sp_sz h).1.symm
/-- the least risk of j hours by the spread of the fresh and by how many have rested -/
def LV (nb : Nat → Nat → Prop) (rk : Nat → (Nat → Nat) → Nat) (G : Nat) : Nat → Nat → Nat → Nat
  | 0, _, _ => 0
  | j + 1, F, r => mnZ 1000000000 (fun on => bP (cho nb (cnL (cN F)) (cN on))) (fun on => mnZ 1000000000 (fun fr => Nat.ble (szN fr) r) (fun fr => rk j (fun b => cN on b + cN fr b) + LV nb rk G j fr (G - szN on - szN fr)) 70) 70
theorem LV_b {nb : Nat → Nat → Prop} {rk : Nat → (Nat → Nat) → Nat} {G : Nat} (hr : ∀ j c, rk j c ≤ 100000) : ∀ {j F r : Nat}, j ≤ 100 → LV nb rk G j F r ≤ 100000 * j
  | 0, _, _, _ => Nat.le_refl _
  | j + 1, F, r, hj => by
    have c0 : ∀ b, b < 4 → cN 0 b = 0 := fun b hb => by
      rw [cN_e]
      rcases (show b = 0 ∨ b = 1 ∨ b = 2 ∨ b = 3 by omega) with rfl | rfl | rfl | rfl <;> rfl
    have i1 : mnZ 1000000000 (fun fr => Nat.ble (szN fr) r) (fun fr => rk j (fun b => cN 0 b + cN fr b) + LV nb rk G j fr (G - szN 0 - szN fr)) 70 ≤ rk j (fun b => cN 0 b + cN 0 b) + LV nb rk G j 0 (G - szN 0 - szN 0) := mnZ_le (G := fun fr => rk j (fun b => cN 0 b + cN fr b) + LV nb rk G j fr (G - szN 0 - szN fr)) (by decide) (Nat.ble_eq_true_of_le (show szN 0 ≤ r by rw [szN_e]; exact Nat.zero_le _))
    have h0 : ∀ l : List Nat, cho nb l (cN 0) := fun l => by
      induction l with
      | nil => exact c0
      | cons b l ih => exact Or.inl ih
    have i2 := mnZ_le (Z := 1000000000) (k := 70) (c := 0) (ok := fun on => bP (cho nb (cnL (cN F)) (cN on))) (G := fun on => mnZ 1000000000 (fun fr => Nat.ble (szN fr) r) (fun fr => rk j (fun b => cN on b + cN fr b) + LV nb rk G j fr (G - szN on - szN fr)) 70) (by decide) (bP_iff.mpr (h0 _))
    have i3 := LV_b hr (nb := nb) (G := G) (j := j) (F := 0) (r := G - szN 0 - szN 0) (by omega)
    have i4 := hr j (fun b => cN 0 b + cN 0 b)
    rw [LV]
    exact Nat.le_trans i2 (Nat.le_trans i1 (by omega))
theorem LV_le {nb : Nat → Nat → Prop} {rk : Nat → (Nat → Nat) → Nat} {G j F r on fr : Nat} (h1 : on < 70) (h2 : fr < 70) (h3 : cho nb (cnL (cN F)) (cN on)) (h4 : szN fr ≤ r) : LV nb rk G (j + 1) F r ≤ rk j (fun b => cN on b + cN fr b) + LV nb rk G j fr (G - szN on - szN fr) := by
  have i1 := mnZ_le (Z := 1000000000) (ok := fun fr => Nat.ble (szN fr) r) (G := fun fr => rk j (fun b => cN on b + cN fr b) + LV nb rk G j fr (G - szN on - szN fr)) h2 (Nat.ble_eq_true_of_le h4)
  have i2 := mnZ_le (Z := 1000000000) (ok := fun on => bP (cho nb (cnL (cN F)) (cN on))) (G := fun on => mnZ 1000000000 (fun fr => Nat.ble (szN fr) r) (fun fr => rk j (fun b => cN on b + cN fr b) + LV nb rk G j fr (G - szN on - szN fr)) 70) h1 (bP_iff.mpr h3)
  rw [LV]
  exact Nat.le_trans i2 i1
theorem LV_at {nb : Nat → Nat → Prop} {rk : Nat → (Nat → Nat) → Nat} {G j F r : Nat} (hr : ∀ j c, rk j c ≤ 100000) (hj : j ≤ 90) : ∃ on fr, on < 70 ∧ fr < 70 ∧ cho nb (cnL (cN F)) (cN on) ∧ szN fr ≤ r ∧ LV nb rk G (j + 1) F r = rk j (fun b => cN on b + cN fr b) + LV nb rk G j fr (G - szN on - szN fr) := by
  have hb := LV_b hr (nb := nb) (G := G) (j := j + 1) (F := F) (r := r) (by omega)
  have e : LV nb rk G (j + 1) F r = mnZ 1000000000 (fun on => bP (cho nb (cnL (cN F)) (cN on))) (fun on => mnZ 1000000000 (fun fr => Nat.ble (szN fr) r) (fun fr => rk j (fun b => cN on b + cN fr b) + LV nb rk G j fr (G - szN on - szN fr)) 70) 70 := by rw [LV]
  rcases mnZ_or (Z := 1000000000) (k := 70) (ok := fun on => bP (cho nb (cnL (cN F)) (cN on))) (G := fun on => mnZ 1000000000 (fun fr => Nat.ble (szN fr) r) (fun fr => rk j (fun b => cN on b + cN fr b) + LV nb rk G j fr (G - szN on - szN fr)) 70) with q | ⟨on, o1, o2, o3⟩
  · exfalso
    rw [e, q] at hb
    omega
  · have o3 : mnZ 1000000000 (fun on => bP (cho nb (cnL (cN F)) (cN on))) (fun on => mnZ 1000000000 (fun fr => Nat.ble (szN fr) r) (fun fr => rk j (fun b => cN on b + cN fr b) + LV nb rk G j fr (G - szN on - szN fr)) 70) 70 = mnZ 1000000000 (fun fr => Nat.ble (szN fr) r) (fun fr => rk j (fun b => cN on b + cN fr b) + LV nb rk G j fr (G - szN on - szN fr)) 70 := o3
    rcases mnZ_or (Z := 1000000000) (k := 70) (ok := fun fr => Nat.ble (szN fr) r) (G := fun fr => rk j (fun b => cN on b + cN fr b) + LV nb rk G j fr (G - szN on - szN fr)) with q | ⟨fr, f1, f2, f3⟩
    · exfalso
      rw [e, o3, q] at hb
      omega
    · exact ⟨on, fr, o1, f1, bP_iff.mp o2, Nat.le_of_ble_eq_true f2, by rw [e, o3, f3]⟩
theorem zq_zr : ∀ {q : Nat} {l : List Nat}, zq q l → q ≤ l.length → q ≤ zrB l
  | 0, _, _, _ => Nat.zero_le _
  | q + 1, [], _, h => by
    have h : q + 1 ≤ 0 := h
    omega
  | q + 1, s :: l, h, h2 => by
    have h2 : q + 1 ≤ l.length + 1 := h2
    have := zq_zr h.2 (by omega)
    rw [zrB, if_pos h.1]
    omega
theorem gs_zq {nb : Nat → Nat → Prop} : ∀ {l ts ys : List Nat} {q : Nat}, gsL nb q l ts ys → zq q ys
  | [], [], [], q, _ => by cases q <;> exact trivial
  | [], [], _ :: _, _, h => h.elim
  | [], _ :: _, _, _, h => h.elim
  | _ :: _, [], _, _, h => h.elim
  | _ :: _, _ :: _, [], _, h => h.elim
  | s :: l, t :: ts, y :: ys, 0, _ => trivial
  | s :: l, t :: ts, y :: ys, q + 1, ⟨g1, g2, g3⟩ => by
    refine ⟨?_, gs_zq g3⟩
    have ht := g2 (by omega)
    rcases g1 with ⟨_, g⟩ | ⟨g, _⟩ | ⟨g, _⟩
    · exact g
    · omega
    · omega
/-- a look at four guards in their order: their spread, and how many have rested -/
def lF (l : List Nat) : Nat := spI (cnB (frB l))
/-- no way of going is less than the least -/
theorem LV_P1 {nb : Nat → Nat → Prop} {rk : Nat → (Nat → Nat) → Nat} {G j : Nat} {s ts ys : List Nat} (hk : ∀ j c d, (∀ b, b < 4 → c b = d b) → rk j c = rk j d) (hG : G ≤ 4) (h9 : ∀ x ∈ s, x < 9) (h4 : s.length = 4) (ha : asc s) (hz : zq (4 - G) s) (hg : gsL nb (4 - G) s ts ys) : LV nb rk G (j + 1) (lF s) (zrB s - (4 - G)) ≤ rk j (cnB ts) + LV nb rk G j (lF ys) (zrB ys - (4 - G)) := by
  obtain ⟨on, fr, e1, e2, e3, e4, e5, e6, e7, e8⟩ := gs_on h9 hz hg
  have z1 := zq_zr (gs_zq hg) (by omega)
  obtain ⟨o1, o2, o3⟩ := spI_ok (c := on) (by omega)
  obtain ⟨f1, f2, f3⟩ := spI_ok (c := fr) (by omega)
  have hl : c4 (cnB (frB s)) ≤ 4 := by
    have h1 : ∀ l : List Nat, c4 (cnB l) ≤ l.length := fun l => by
      induction l with
      | nil => exact Nat.le_refl _
      | cons x l ih =>
        have : c4 (cnB (x :: l)) ≤ c4 (cnB l) + 1 := by
          unfold c4
          rw [cnB_c, cnB_c, cnB_c, cnB_c]
          split <;> split <;> split <;> split <;> omega
        rw [List.length_cons]
        omega
    have h2 : ∀ l : List Nat, (frB l).length ≤ l.length := fun l => by
      induction l with
      | nil => exact Nat.le_refl _
      | cons x l ih =>
        rw [frB]
        split
        · rw [List.length_cons, List.length_cons]; omega
        · rw [List.length_cons]; omega
    have := h1 (frB s)
    have := h2 s
    omega
  obtain ⟨s1, s2, -⟩ := spI_ok hl
  have i1 := LV_le (nb := nb) (rk := rk) (G := G) (j := j) (F := lF s) (r := zrB s - (4 - G)) o1 f1 (by
    unfold lF
    rw [cnL_E s2, frB_cnL ha h9]
    exact cho_E (fun b hb => (o2 b hb).symm) e2) (by rw [f3]; omega)
  rw [hk j (fun b => cN (spI on) b + cN (spI fr) b) (cnB ts) (fun b hb => by rw [e1 b hb, o2 b hb, f2 b hb]), o3, f3] at i1
  have e9 : lF ys = spI fr := spI_E e3
  rw [e9, show zrB ys - (4 - G) = G - c4 on - c4 fr by omega]
  exact i1
/-- and one is the least -/
theorem LV_P2 {nb : Nat → Nat → Prop} {rk : Nat → (Nat → Nat) → Nat} {G j : Nat} {s : List Nat} (hk : ∀ j c d, (∀ b, b < 4 → c b = d b) → rk j c = rk j d) (hr : ∀ j c, rk j c ≤ 100000) (hj : j ≤ 90) (hG : G ≤ 4) (h9 : ∀ x ∈ s, x < 9) (h4 : s.length = 4) (ha : asc s) (hz : zq (4 - G) s) (hl : c4 (cnB (frB s)) ≤ 4) : ∃ ts ys : List Nat, gsL nb (4 - G) s ts ys ∧ (∀ t ∈ ts, t ≤ 4) ∧ LV nb rk G (j + 1) (lF s) (zrB s - (4 - G)) = rk j (cnB ts) + LV nb rk G j (lF ys) (zrB ys - (4 - G)) := by
  obtain ⟨on, fr, h1, h2, h3, h5, h6⟩ := LV_at (nb := nb) (rk := rk) (G := G) (j := j) (F := lF s) (r := zrB s - (4 - G)) hr hj
  obtain ⟨s1, s2, -⟩ := spI_ok hl
  have z0 := zq_zr hz (by omega)
  have f0 := c4_sz h2
  have o0 := c4_sz h1
  have hc : cho nb (frB s) (cN on) := by
    unfold lF at h3
    rw [cnL_E s2, frB_cnL ha h9] at h3
    exact h3
  obtain ⟨ts, ys, g1, g2, g3, g4, g5⟩ := gs_of (q := 4 - G) (on := cN on) (fr := cN fr) h9 hz hc (by omega)
  refine ⟨ts, ys, g1, g5, ?_⟩
  have z1 := zq_zr (gs_zq g1) (by
    obtain ⟨_, _, _, _, _, _, _, _, e7, _⟩ := gs_on h9 hz g1
    omega)
  rw [h6, hk j (cnB ts) (fun b => cN on b + cN fr b) g2]
  have e9 : lF ys = fr := (spI_E g3).trans (spI_c h2)
  rw [e9, show zrB ys - (4 - G) = G - szN on - szN fr by omega]
end
