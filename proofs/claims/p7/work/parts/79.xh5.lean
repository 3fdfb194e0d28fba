noncomputable section
theorem cg_88 : cx_G 88 tb_88 TbX7 (some .int) := cx_G.of gok_88
theorem cg_87 : cx_G 87 tb_87 TbX7 (some .int) := cx_G.of gok_87
theorem cg_133 : cx_G 133 tb_133 TbX10 (some .int) := cx_G.of gok_133
theorem cg_196 : cx_G 196 tb_196 TbX11 none := cx_G.of gok_196
theorem cg_197 : cx_G 197 tb_197 TbX11 (some .int) := cx_G.of gok_197
/-- the row of safe cells that ends ahead of a cell -/
def bkN (S : Nat → Bool) : Nat → Nat
  | 0 => 0
  | c + 1 => if S c = true then bkN S c + 1 else 0
/-- the row of safe cells that begins 24 - m -/
def frN (S : Nat → Bool) : Nat → Nat
  | 0 => 0
  | m + 1 => if S (24 - (m + 1)) = true then frN S m + 1 else 0
theorem bk_le {S : Nat → Bool} : ∀ c : Nat, bkN S c ≤ c
  | 0 => Nat.le_refl _
  | c + 1 => by
    have := bk_le (S := S) c
    rw [bkN]
    split <;> omega
theorem fr_le {S : Nat → Bool} : ∀ c : Nat, frN S c ≤ c
  | 0 => Nat.le_refl _
  | c + 1 => by
    have := fr_le (S := S) c
    rw [frN]
    split <;> omega
theorem bk_iff {S : Nat → Bool} : ∀ c k : Nat, k ≤ bkN S c ↔ k ≤ c ∧ ∀ j : Nat, c < j + k + 1 → j < c → S j = true
  | 0, k => by
    rw [bkN]
    exact ⟨fun h => ⟨h, fun j _ h2 => absurd h2 (Nat.not_lt_zero j)⟩, fun h => h.1⟩
  | c + 1, k => by
    have ih := bk_iff (S := S) c
    rw [bkN]
    by_cases q : S c = true
    · rw [if_pos q]
      cases k with
      | zero => exact ⟨fun _ => ⟨by omega, fun j h1 h2 => absurd h1 (by omega)⟩, fun _ => by omega⟩
      | succ k =>
        constructor
        · intro h
          obtain ⟨h1, h2⟩ := (ih k).mp (by omega)
          refine ⟨by omega, fun j h3 h4 => ?_⟩
          by_cases e : j = c
          · rw [e]; exact q
          · exact h2 j (by omega) (by omega)
        · rintro ⟨h1, h2⟩
          have := (ih k).mpr ⟨by omega, fun j h3 h4 => h2 j (by omega) (by omega)⟩
          omega
    · rw [if_neg q]
      constructor
      · intro h
        exact ⟨by omega, fun j h1 h2 => absurd h1 (by omega)⟩
      · rintro ⟨h1, h2⟩
        by_cases e : k = 0
        · omega
        · exact absurd (h2 c (by omega) (by omega)) q
theorem fr_iff {S : Nat → Bool} : ∀ m k : Nat, m ≤ 24 → (k ≤ frN S m ↔ k ≤ m ∧ ∀ j : Nat, 24 ≤ j + m → j + m < 24 + k → S j = true)
  | 0, k, _ => by
    rw [frN]
    exact ⟨fun h => ⟨h, fun j h1 h2 => absurd h2 (by omega)⟩, fun h => h.1⟩
  | m + 1, k, hm => by
    have ih := fun k => fr_iff (S := S) m k (by omega)
    rw [frN]
    by_cases q : S (24 - (m + 1)) = true
    · rw [if_pos q]
      cases k with
      | zero => exact ⟨fun _ => ⟨by omega, fun j h1 h2 => absurd h2 (by omega)⟩, fun _ => by omega⟩
      | succ k =>
        constructor
        · intro h
          obtain ⟨h1, h2⟩ := (ih k).mp (by omega)
          refine ⟨by omega, fun j h3 h4 => ?_⟩
          by_cases e : j = 24 - (m + 1)
          · rw [e]; exact q
          · exact h2 j (by omega) (by omega)
        · rintro ⟨h1, h2⟩
          have := (ih k).mpr ⟨by omega, fun j h3 h4 => h2 j (by omega) (by omega)⟩
          omega
    · rw [if_neg q]
      constructor
      · intro h
        exact ⟨by omega, fun j h1 h2 => absurd h2 (by omega)⟩
      · rintro ⟨h1, h2⟩
        by_cases e : k = 0
        · omega
        · exact absurd (h2 (24 - (m + 1)) (by omega) (by omega)) q
/-- the same row of k, by its end and by its start -/
theorem bk_fr {S : Nat → Bool} {c k : Nat} (hk : k ≤ c) (hc : c ≤ 24) : k ≤ bkN S c ↔ k ≤ frN S (24 - (c - k)) := by
  rw [bk_iff, fr_iff _ _ (by omega)]
  constructor
  · rintro ⟨h1, h2⟩
    exact ⟨by omega, fun j h3 h4 => h2 j (by omega) (by omega)⟩
  · rintro ⟨h1, h2⟩
    exact ⟨by omega, fun j h3 h4 => h2 j (by omega) (by omega)⟩
/-- the longest row, by ends -/
def MX (S : Nat → Bool) (M : Nat) : Prop := (∀ y : Nat, y ≤ 24 → bkN S y ≤ M) ∧ ∃ y : Nat, y ≤ 24 ∧ bkN S y = M
/-- the longest row, by starts: its first start -/
def FX (S : Nat → Bool) (b M : Nat) : Prop := b < 24 ∧ frN S (24 - b) = M ∧ (∀ x : Nat, x < 24 → frN S (24 - x) ≤ M) ∧ ∀ x : Nat, x < b → frN S (24 - x) < M
theorem MF {S : Nat → Bool} {M b N : Nat} (h : MX S M) (g : FX S b N) : M = N := by
  obtain ⟨h1, y, h2, h3⟩ := h
  obtain ⟨g1, g2, g3, g4⟩ := g
  have hy := bk_le (S := S) y
  have e1 : M ≤ N := by
    have := (bk_fr (S := S) (c := y) (k := M) (by omega) h2).mp (by omega)
    by_cases q : y - M < 24
    · have := g3 (y - M) q; omega
    · have := fr_le (S := S) (24 - (y - M)); omega
  have hb := fr_le (S := S) (24 - b)
  have e2 : N ≤ M := by
    have := (bk_fr (S := S) (c := b + N) (k := N) (by omega) (by omega)).mpr (by rw [show b + N - N = b by omega, g2]; exact Nat.le_refl _)
    have := h1 (b + N) (by omega)
    omega
  omega
theorem MFs {S : Nat → Bool} {M b c : Nat} (h : MX S M) (g : FX S b M) (hM : 0 < M) (hc : c < 24) (h1 : bkN S (c + 1) = M) (h2 : ∀ y : Nat, y < c → ¬ bkN S (y + 1) = M) : c + 1 = b + M := by
  obtain ⟨g1, g2, g3, g4⟩ := g
  have hb := fr_le (S := S) (24 - b)
  have hk := bk_le (S := S) (c + 1)
  have e1 : M ≤ bkN S (b + M) := (bk_fr (S := S) (c := b + M) (k := M) (by omega) (by omega)).mpr (by rw [show b + M - M = b by omega, g2]; exact Nat.le_refl _)
  have e2 := h.1 (b + M) (by omega)
  have e3 : ¬ b + M - 1 < c := fun q => h2 (b + M - 1) q (by rw [show b + M - 1 + 1 = b + M by omega]; omega)
  have e4 := (bk_fr (S := S) (c := c + 1) (k := M) (by omega) (by omega)).mp (by omega)
  have e5 : ¬ c + 1 - M < b := fun q => by have := g4 (c + 1 - M) q; omega
  omega
/-- the cells that are quite safe -/
def sfS (f t s : Nat → Int32) (h : Nat) (c : Nat) : Bool := decide (sfV f c (td_lo (td_a t h).toInt (td_b t h (16 - h)).toInt) (td_hi (td_a t h).toInt (td_b t h (16 - h)).toInt) (sw_x s h).toInt (sw_l s h).toInt = 2)
/-- what longest answers -/
def lgA (S : Nat → Bool) (w z : Int32) : Prop := ∃ M : Nat, MX S M ∧ ((w.toInt = 1 ∧ z.toInt = (M : Int)) ∨ (w.toInt = 0 ∧ M = 0 ∧ z.toInt = -9) ∨ (w.toInt = 0 ∧ 0 < M ∧ ∃ c : Nat, c < 24 ∧ bkN S (c + 1) = M ∧ (∀ y : Nat, y < c → ¬ bkN S (y + 1) = M) ∧ z.toInt = (c : Int) - (M : Int) + 1))
def lgM (S : Nat → Bool) (w z : Int32) : Prop := ∃ b M : Nat, FX S b M ∧ ((w.toInt = 1 ∧ z.toInt = (M : Int)) ∨ (w.toInt = 0 ∧ M = 0 ∧ z.toInt = -9) ∨ (w.toInt = 0 ∧ 0 < M ∧ z.toInt = (b : Int)))
theorem lgE {S : Nat → Bool} {w z z2 : Int32} (h1 : lgA S w z) (h2 : lgM S w z2) : z = z2 := by
  apply cx_i32
  obtain ⟨M, h, h1⟩ := h1
  obtain ⟨b, N, g, h2⟩ := h2
  have e := MF h g
  subst e
  rcases h1 with h1 | h1 | ⟨a1, a2, c, a3, a4, a5, a6⟩ <;> rcases h2 with h2 | h2 | h2
  · omega
  · omega
  · omega
  · omega
  · omega
  · omega
  · omega
  · omega
  · have := MFs h g a2 a3 a4 a5
    omega
theorem ll_loop {b x : Int32} {k1 hN : Nat} {f t s : Nat → Int32} {F : Nat → Nat → Int32} {P : Option cx_V → cx_H → Prop} (hb0 : 0 ≤ b.toInt) (hk1 : [17, 18, 19, 20][b.toNatClampNeg]? = some k1) (hk2 : cx_hg (h_sh F) k1 = some (.inr (.inl (0, 24, f)))) (hf : bkU f) (hx : x.toInt = (hN : Int)) (hh : hN < 16) (ht : ∀ i : Nat, i < 16 → tdU (t i).toInt) (hP : ∀ m : Int32, (∀ y : Nat, y ≤ 24 → ((bkN (sfS f t s hN) y : Nat) : Int) ≤ m.toInt) → (∃ y : Nat, y ≤ 24 ∧ m.toInt = ((bkN (sfS f t s hN) y : Nat) : Int)) → P (some (.inl (.int m))) ([(15, .inl (7, [.inr (.inl 2), .inr (.inl 16)])), (16, .inr (.inr (.inr (3, [17, 18, 19, 20])))), (17, .inr (.inl (0, 24, F 0))), (18, .inr (.inl (0, 24, F 1))), (19, .inr (.inl (0, 24, F 2))), (20, .inr (.inl (0, 24, F 3))), (2, .inl (8, [.inr (.inl 3), .inr (.inl 4), .inr (.inl 5), .inr (.inl 10)])), (3, .inr (.inl (0, 16, t))), (4, .inr (.inl (0, 16, s)))])) :
    ∀ (m k : Nat), k + m = 24 → ∀ i : Int32, i.toInt = (k : Int) → ∀ (n m : Int32), n.toInt = ((bkN (sfS f t s hN) k : Nat) : Int) → (∀ y : Nat, y ≤ k → ((bkN (sfS f t s hN) y : Nat) : Int) ≤ m.toInt) → (∃ y : Nat, y ≤ k ∧ m.toInt = ((bkN (sfS f t s hN) y : Nat) : Int)) → cx_T 6 88 [15, 16, 17, 18, 19, 20, 2, 3, 4] 8 ([some (.inr (.inl 15)), some (.inl (.int b)), some (.inl (.int x)), some (.inl (.int n)), some (.inl (.int m)), some (.inl (.int i))], [], [(15, .inl (7, [.inr (.inl 2), .inr (.inl 16)])), (16, .inr (.inr (.inr (3, [17, 18, 19, 20])))), (17, .inr (.inl (0, 24, F 0))), (18, .inr (.inl (0, 24, F 1))), (19, .inr (.inl (0, 24, F 2))), (20, .inr (.inl (0, 24, F 3))), (2, .inl (8, [.inr (.inl 3), .inr (.inl 4), .inr (.inl 5), .inr (.inl 10)])), (3, .inr (.inl (0, 16, t))), (4, .inr (.inl (0, 16, s)))]) P := by
  have kc0 : (Int32.ofInt 0).toInt = 0 := by decide +kernel
  have kc1 : (Int32.ofInt 1).toInt = 1 := by decide +kernel
  have kc2 : (Int32.ofInt 2).toInt = 2 := by decide +kernel
  have kc24 : (Int32.ofInt 24).toInt = 24 := by decide +kernel
  intro m
  induction m with
  | zero =>
    intro k hk i hi n m hn h1 h2
    have ek : k = 24 := by omega
    refine ex_iload cg_88 (ix := 6) (pc' := 10) rfl rfl rfl ?_
    refine ex_bipush cg_88 (ix := 7) (pc' := 12) rfl rfl rfl ?_
    refine ex_icmp cg_88 (ix := 8) (t := 49) (pc' := 15) rfl rfl rfl (fun hb12 => ?_) (fun hb12 => ?_)
    · have hb12 : (Int32.ofInt 24).toInt ≤ i.toInt := hb12
      refine ex_iload cg_88 (ix := 28) (pc' := 51) rfl rfl rfl ?_
      refine ex_ireturn cg_88 (ix := 29) rfl ?_
      rw [ek] at h1 h2
      exact hP m h1 h2
    · have hb12 : ¬ ((Int32.ofInt 24).toInt ≤ i.toInt) := hb12
      exfalso; first | omega | exact absurd hb12 (by decide +kernel)
  | succ m ih =>
    intro k hk i hi n m hn h1 h2
    have hik : i.toNatClampNeg = k := cx_clamp hi
    have hbk := bk_le (S := (sfS f t s hN)) k
    refine ex_iload cg_88 (ix := 6) (pc' := 10) rfl rfl rfl ?_
    refine ex_bipush cg_88 (ix := 7) (pc' := 12) rfl rfl rfl ?_
    refine ex_icmp cg_88 (ix := 8) (t := 49) (pc' := 15) rfl rfl rfl (fun hb12 => ?_) (fun hb12 => ?_)
    · have hb12 : (Int32.ofInt 24).toInt ≤ i.toInt := hb12
      exfalso; first | omega | exact absurd hb12 (by decide +kernel)
    · have hb12 : ¬ ((Int32.ofInt 24).toInt ≤ i.toInt) := hb12
      refine ex_aload_n cg_88 (ix := 9) (pc' := 16) rfl rfl rfl ?_
      refine ex_iload_n cg_88 (ix := 10) (pc' := 17) rfl rfl rfl ?_
      refine ex_iload cg_88 (ix := 11) (pc' := 19) rfl rfl rfl ?_
      refine ex_iload_n cg_88 (ix := 12) (pc' := 20) rfl rfl rfl ?_
      refine ex_callV cg_88 (ix := 13) (pc' := 23) (As := [.inl (.int b), .inl (.int i), .inl (.int x)]) (r := []) rfl rfl rfl (ct_sf_ (b := b) (c := i) (x := x) (cN := k) (k1 := k1) (hN := hN) (f := f) (t := t) (s := s) (F := F) hb0 hk1 hk2 hf hi (by omega) hx hh ht) (by first | decide | omega) rfl rfl rfl ⟨rfl, rfl, rfl, rfl, rfl, rfl, rfl, rfl, rfl, trivial⟩ rfl rfl (fun v h2 hq => ?_)
      obtain ⟨z, rfl, rfl, hz⟩ := hq
      show cx_T _ 88 _ 23 ([some (.inr (.inl 15)), some (.inl (.int b)), some (.inl (.int x)), some (.inl (.int n)), some (.inl (.int m)), some (.inl (.int i))], [.inl (.int z)], [(15, .inl (7, [.inr (.inl 2), .inr (.inl 16)])), (16, .inr (.inr (.inr (3, [17, 18, 19, 20])))), (17, .inr (.inl (0, 24, F 0))), (18, .inr (.inl (0, 24, F 1))), (19, .inr (.inl (0, 24, F 2))), (20, .inr (.inl (0, 24, F 3))), (2, .inl (8, [.inr (.inl 3), .inr (.inl 4), .inr (.inl 5), .inr (.inl 10)])), (3, .inr (.inl (0, 16, t))), (4, .inr (.inl (0, 16, s)))]) _
      refine ex_iconst cg_88 (ix := 14) (pc' := 24) rfl rfl ?_
      refine ex_icmp cg_88 (ix := 15) (t := 33) (pc' := 27) rfl rfl rfl (fun hb24 => ?_) (fun hb24 => ?_)
      · have hb24 : ¬ z.toInt = (Int32.ofInt 2).toInt := hb24
        refine ex_iconst cg_88 (ix := 20) (pc' := 34) rfl rfl ?_
        refine ex_istore_n cg_88 (ix := 21) (pc' := 35) (L' := [some (.inr (.inl 15)), some (.inl (.int b)), some (.inl (.int x)), some (.inl (.int (Int32.ofInt 0))), some (.inl (.int m)), some (.inl (.int i))]) rfl rfl rfl rfl ?_
        refine ex_iload cg_88 (ix := 22) (pc' := 37) rfl rfl rfl ?_
        refine ex_iload_n cg_88 (ix := 23) (pc' := 38) rfl rfl rfl ?_
        refine ex_max cg_88 (ix := 24) (pc' := 41) rfl rfl (by first | decide | omega) rfl rfl ?_
        refine ex_istore cg_88 (ix := 25) (pc' := 43) (L' := [some (.inr (.inl 15)), some (.inl (.int b)), some (.inl (.int x)), some (.inl (.int (Int32.ofInt 0))), some (.inl (.int (if m < (Int32.ofInt 0) then (Int32.ofInt 0) else m))), some (.inl (.int i))]) rfl rfl rfl rfl ?_
        refine ex_iinc cg_88 (ix := 26) (pc' := 46) (L' := [some (.inr (.inl 15)), some (.inl (.int b)), some (.inl (.int x)), some (.inl (.int (Int32.ofInt 0))), some (.inl (.int (if m < (Int32.ofInt 0) then (Int32.ofInt 0) else m))), some (.inl (.int (i + Int32.ofInt 1)))]) rfl rfl rfl rfl rfl ?_
        refine ex_goto cg_88 (ix := 27) (pc' := 8) rfl rfl ?_
        have hSk : ¬ sfS f t s hN k = true := by
          unfold sfS
          rw [decide_eq_true_iff]
          omega
        have hn2 : (Int32.ofInt 0).toInt = ((bkN (sfS f t s hN) (k + 1) : Nat) : Int) := by
          rw [bkN, if_neg hSk]
          exact kc0
        refine ih (k + 1) (by omega) _ (by rw [cx_addc (by omega) (by omega)]; omega) _ _ hn2 (fun y hy => ?_) ?_
        · rw [cx_imax]
          by_cases q : y ≤ k
          · have := h1 y q; omega
          · rw [show y = k + 1 by omega, ← hn2]; omega
        · rw [cx_imax]
          obtain ⟨y, hy, e⟩ := h2
          by_cases q : m.toInt < (Int32.ofInt 0).toInt
          · exact ⟨k + 1, Nat.le_refl _, by omega⟩
          · exact ⟨y, by omega, by omega⟩
      · have hb24 : ¬ (¬ z.toInt = (Int32.ofInt 2).toInt) := hb24
        refine ex_iload_n cg_88 (ix := 16) (pc' := 28) rfl rfl rfl ?_
        refine ex_iconst cg_88 (ix := 17) (pc' := 29) rfl rfl ?_
        refine ex_iadd cg_88 (ix := 18) (pc' := 30) rfl rfl ?_
        refine ex_goto cg_88 (ix := 19) (pc' := 34) rfl rfl ?_
        refine ex_istore_n cg_88 (ix := 21) (pc' := 35) (L' := [some (.inr (.inl 15)), some (.inl (.int b)), some (.inl (.int x)), some (.inl (.int (n + (Int32.ofInt 1)))), some (.inl (.int m)), some (.inl (.int i))]) rfl rfl rfl rfl ?_
        refine ex_iload cg_88 (ix := 22) (pc' := 37) rfl rfl rfl ?_
        refine ex_iload_n cg_88 (ix := 23) (pc' := 38) rfl rfl rfl ?_
        refine ex_max cg_88 (ix := 24) (pc' := 41) rfl rfl (by first | decide | omega) rfl rfl ?_
        refine ex_istore cg_88 (ix := 25) (pc' := 43) (L' := [some (.inr (.inl 15)), some (.inl (.int b)), some (.inl (.int x)), some (.inl (.int (n + (Int32.ofInt 1)))), some (.inl (.int (if m < (n + (Int32.ofInt 1)) then (n + (Int32.ofInt 1)) else m))), some (.inl (.int i))]) rfl rfl rfl rfl ?_
        refine ex_iinc cg_88 (ix := 26) (pc' := 46) (L' := [some (.inr (.inl 15)), some (.inl (.int b)), some (.inl (.int x)), some (.inl (.int (n + (Int32.ofInt 1)))), some (.inl (.int (if m < (n + (Int32.ofInt 1)) then (n + (Int32.ofInt 1)) else m))), some (.inl (.int (i + Int32.ofInt 1)))]) rfl rfl rfl rfl rfl ?_
        refine ex_goto cg_88 (ix := 27) (pc' := 8) rfl rfl ?_
        have hSk : sfS f t s hN k = true := by
          unfold sfS
          rw [decide_eq_true_iff]
          omega
        have hn2 : (n + (Int32.ofInt 1)).toInt = ((bkN (sfS f t s hN) (k + 1) : Nat) : Int) := by
          rw [bkN, if_pos hSk, cx_addc (by omega) (by omega)]
          omega
        refine ih (k + 1) (by omega) _ (by rw [cx_addc (by omega) (by omega)]; omega) _ _ hn2 (fun y hy => ?_) ?_
        · rw [cx_imax]
          by_cases q : y ≤ k
          · have := h1 y q; omega
          · rw [show y = k + 1 by omega, ← hn2]; omega
        · rw [cx_imax]
          obtain ⟨y, hy, e⟩ := h2
          by_cases q : m.toInt < (n + (Int32.ofInt 1)).toInt
          · exact ⟨k + 1, Nat.le_refl _, by omega⟩
          · exact ⟨y, by omega, by omega⟩
theorem ct_ll {b x : Int32} {k1 hN : Nat} {f t s : Nat → Int32} {F : Nat → Nat → Int32} (hb0 : 0 ≤ b.toInt) (hk1 : [17, 18, 19, 20][b.toNatClampNeg]? = some k1) (hk2 : cx_hg (h_sh F) k1 = some (.inr (.inl (0, 24, f)))) (hf : bkU f) (hx : x.toInt = (hN : Int)) (hh : hN < 16) (ht : ∀ i : Nat, i < 16 → tdU (t i).toInt) : cx_Ct 6 88 [.inr (.inl 15), .inl (.int b), .inl (.int x)] (h_sf F t s) (fun v h2 => ∃ m : Int32, v = some (.inl (.int m)) ∧ h2 = h_sf F t s ∧ (∀ y : Nat, y ≤ 24 → ((bkN (sfS f t s hN) y : Nat) : Int) ≤ m.toInt) ∧ ∃ y : Nat, y ≤ 24 ∧ m.toInt = ((bkN (sfS f t s hN) y : Nat) : Int)) := by
  have kc0 : (Int32.ofInt 0).toInt = 0 := by decide +kernel
  have kc1 : (Int32.ofInt 1).toInt = 1 := by decide +kernel
  have kc2 : (Int32.ofInt 2).toInt = 2 := by decide +kernel
  have kc24 : (Int32.ofInt 24).toInt = 24 := by decide +kernel
  refine cx_Ct.of cg_88 (nL := 6) rfl rfl rfl ?_
  show cx_T 6 88 [15, 16, 17, 18, 19, 20, 2, 3, 4] 0 ([some (.inr (.inl 15)), some (.inl (.int b)), some (.inl (.int x)), none, none, none], [], h_sf F t s) _
  refine ex_iconst cg_88 (ix := 0) (pc' := 1) rfl rfl ?_
  refine ex_istore_n cg_88 (ix := 1) (pc' := 2) (L' := [some (.inr (.inl 15)), some (.inl (.int b)), some (.inl (.int x)), some (.inl (.int (Int32.ofInt 0))), none, none]) rfl rfl rfl rfl ?_
  refine ex_iconst cg_88 (ix := 2) (pc' := 3) rfl rfl ?_
  refine ex_istore cg_88 (ix := 3) (pc' := 5) (L' := [some (.inr (.inl 15)), some (.inl (.int b)), some (.inl (.int x)), some (.inl (.int (Int32.ofInt 0))), some (.inl (.int (Int32.ofInt 0))), none]) rfl rfl rfl rfl ?_
  refine ex_iconst cg_88 (ix := 4) (pc' := 6) rfl rfl ?_
  refine ex_istore cg_88 (ix := 5) (pc' := 8) (L' := [some (.inr (.inl 15)), some (.inl (.int b)), some (.inl (.int x)), some (.inl (.int (Int32.ofInt 0))), some (.inl (.int (Int32.ofInt 0))), some (.inl (.int (Int32.ofInt 0)))]) rfl rfl rfl rfl ?_
  exact ll_loop (b := b) (x := x) (k1 := k1) (hN := hN) (f := f) (t := t) (s := s) (F := F) hb0 hk1 hk2 hf hx hh ht (P := fun v h2 => ∃ m : Int32, v = some (.inl (.int m)) ∧ h2 = h_sf F t s ∧ (∀ y : Nat, y ≤ 24 → ((bkN (sfS f t s hN) y : Nat) : Int) ≤ m.toInt) ∧ ∃ y : Nat, y ≤ 24 ∧ m.toInt = ((bkN (sfS f t s hN) y : Nat) : Int)) (fun m h1 h3 => ⟨m, rfl, rfl, h1, h3⟩) 24 0 (by omega) (Int32.ofInt 0) (by decide +kernel) (Int32.ofInt 0) (Int32.ofInt 0) (by rw [bkN]; decide +kernel) (fun y hy => by rw [show y = 0 by omega, bkN]; decide +kernel) ⟨0, Nat.le_refl _, by rw [bkN]; decide +kernel⟩
theorem lt_loop {b x : Int32} {k1 hN : Nat} {f t s : Nat → Int32} {F : Nat → Nat → Int32} {q0 : Int32} {P : Option cx_V → cx_H → Prop} (hb0 : 0 ≤ b.toInt) (hk1 : [17, 18, 19, 20][b.toNatClampNeg]? = some k1) (hk2 : cx_hg (h_sh F) k1 = some (.inr (.inl (0, 24, f)))) (hf : bkU f) (hx : x.toInt = (hN : Int)) (hh : hN < 16) (ht : ∀ i : Nat, i < 16 → tdU (t i).toInt) (hm0 : 0 < q0.toInt) (hm1 : q0.toInt ≤ 24) (hy : ∃ y : Nat, y ≤ 24 ∧ q0.toInt = ((bkN (sfS f t s hN) y : Nat) : Int)) (hP : ∀ (z : Int32) (c : Nat), c < 24 → q0.toInt = ((bkN (sfS f t s hN) (c + 1) : Nat) : Int) → (∀ y : Nat, y < c → ¬ q0.toInt = ((bkN (sfS f t s hN) (y + 1) : Nat) : Int)) → z.toInt = (c : Int) - q0.toInt + 1 → P (some (.inl (.int z))) ([(15, .inl (7, [.inr (.inl 2), .inr (.inl 16)])), (16, .inr (.inr (.inr (3, [17, 18, 19, 20])))), (17, .inr (.inl (0, 24, F 0))), (18, .inr (.inl (0, 24, F 1))), (19, .inr (.inl (0, 24, F 2))), (20, .inr (.inl (0, 24, F 3))), (2, .inl (8, [.inr (.inl 3), .inr (.inl 4), .inr (.inl 5), .inr (.inl 10)])), (3, .inr (.inl (0, 16, t))), (4, .inr (.inl (0, 16, s)))])) :
    ∀ (m k : Nat), k + m = 24 → ∀ i : Int32, i.toInt = (k : Int) → ∀ (n : Int32), n.toInt = ((bkN (sfS f t s hN) k : Nat) : Int) → (∀ y : Nat, y < k → ¬ q0.toInt = ((bkN (sfS f t s hN) (y + 1) : Nat) : Int)) → cx_T 7 87 [15, 16, 17, 18, 19, 20, 2, 3, 4] 20 ([some (.inr (.inl 15)), some (.inl (.int b)), some (.inl (.int x)), some (.inl (.int q0)), some (.inl (.int n)), some (.inl (.int i))], [], [(15, .inl (7, [.inr (.inl 2), .inr (.inl 16)])), (16, .inr (.inr (.inr (3, [17, 18, 19, 20])))), (17, .inr (.inl (0, 24, F 0))), (18, .inr (.inl (0, 24, F 1))), (19, .inr (.inl (0, 24, F 2))), (20, .inr (.inl (0, 24, F 3))), (2, .inl (8, [.inr (.inl 3), .inr (.inl 4), .inr (.inl 5), .inr (.inl 10)])), (3, .inr (.inl (0, 16, t))), (4, .inr (.inl (0, 16, s)))]) P := by
  have kcm9 : (Int32.ofInt (-9)).toInt = -9 := by decide +kernel
  have kc0 : (Int32.ofInt 0).toInt = 0 := by decide +kernel
  have kc1 : (Int32.ofInt 1).toInt = 1 := by decide +kernel
  have kc2 : (Int32.ofInt 2).toInt = 2 := by decide +kernel
  have kc24 : (Int32.ofInt 24).toInt = 24 := by decide +kernel
  intro m
  induction m with
  | zero =>
    intro k hk i hi n hn h3
    have ek : k = 24 := by omega
    rw [ek] at h3
    refine ex_iload cg_87 (ix := 13) (pc' := 22) rfl rfl rfl ?_
    refine ex_bipush cg_87 (ix := 14) (pc' := 24) rfl rfl rfl ?_
    refine ex_icmp cg_87 (ix := 15) (t := 68) (pc' := 27) rfl rfl rfl (fun hb24 => ?_) (fun hb24 => ?_)
    · have hb24 : (Int32.ofInt 24).toInt ≤ i.toInt := hb24
      refine ex_bipush cg_87 (ix := 40) (pc' := 70) rfl rfl rfl ?_
      refine ex_ireturn cg_87 (ix := 41) rfl ?_
      exfalso
      obtain ⟨y, hy1, hy2⟩ := hy
      have hbk := bk_le (S := (sfS f t s hN)) y
      have := h3 (y - 1) (by omega)
      rw [show y - 1 + 1 = y by omega] at this
      omega
    · have hb24 : ¬ ((Int32.ofInt 24).toInt ≤ i.toInt) := hb24
      exfalso; first | omega | exact absurd hb24 (by decide +kernel)
  | succ m ih =>
    intro k hk i hi n hn h3
    have hik : i.toNatClampNeg = k := cx_clamp hi
    have hbk := bk_le (S := (sfS f t s hN)) k
    refine ex_iload cg_87 (ix := 13) (pc' := 22) rfl rfl rfl ?_
    refine ex_bipush cg_87 (ix := 14) (pc' := 24) rfl rfl rfl ?_
    refine ex_icmp cg_87 (ix := 15) (t := 68) (pc' := 27) rfl rfl rfl (fun hb24 => ?_) (fun hb24 => ?_)
    · have hb24 : (Int32.ofInt 24).toInt ≤ i.toInt := hb24
      exfalso; first | omega | exact absurd hb24 (by decide +kernel)
    · have hb24 : ¬ ((Int32.ofInt 24).toInt ≤ i.toInt) := hb24
      refine ex_aload_n cg_87 (ix := 16) (pc' := 28) rfl rfl rfl ?_
      refine ex_iload_n cg_87 (ix := 17) (pc' := 29) rfl rfl rfl ?_
      refine ex_iload cg_87 (ix := 18) (pc' := 31) rfl rfl rfl ?_
      refine ex_iload_n cg_87 (ix := 19) (pc' := 32) rfl rfl rfl ?_
      refine ex_callV cg_87 (ix := 20) (pc' := 35) (As := [.inl (.int b), .inl (.int i), .inl (.int x)]) (r := []) rfl rfl rfl (ct_sf_ (b := b) (c := i) (x := x) (cN := k) (k1 := k1) (hN := hN) (f := f) (t := t) (s := s) (F := F) hb0 hk1 hk2 hf hi (by omega) hx hh ht) (by first | decide | omega) rfl rfl rfl ⟨rfl, rfl, rfl, rfl, rfl, rfl, rfl, rfl, rfl, trivial⟩ rfl rfl (fun v h2 hq => ?_)
      obtain ⟨z, rfl, rfl, hz⟩ := hq
      show cx_T _ 87 _ 35 ([some (.inr (.inl 15)), some (.inl (.int b)), some (.inl (.int x)), some (.inl (.int q0)), some (.inl (.int n)), some (.inl (.int i))], [.inl (.int z)], [(15, .inl (7, [.inr (.inl 2), .inr (.inl 16)])), (16, .inr (.inr (.inr (3, [17, 18, 19, 20])))), (17, .inr (.inl (0, 24, F 0))), (18, .inr (.inl (0, 24, F 1))), (19, .inr (.inl (0, 24, F 2))), (20, .inr (.inl (0, 24, F 3))), (2, .inl (8, [.inr (.inl 3), .inr (.inl 4), .inr (.inl 5), .inr (.inl 10)])), (3, .inr (.inl (0, 16, t))), (4, .inr (.inl (0, 16, s)))]) _
      refine ex_iconst cg_87 (ix := 21) (pc' := 36) rfl rfl ?_
      refine ex_icmp cg_87 (ix := 22) (t := 46) (pc' := 39) rfl rfl rfl (fun hb36 => ?_) (fun hb36 => ?_)
      · have hb36 : ¬ z.toInt = (Int32.ofInt 2).toInt := hb36
        refine ex_iconst cg_87 (ix := 27) (pc' := 47) rfl rfl ?_
        refine ex_istore cg_87 (ix := 28) (pc' := 49) (L' := [some (.inr (.inl 15)), some (.inl (.int b)), some (.inl (.int x)), some (.inl (.int q0)), some (.inl (.int (Int32.ofInt 0))), some (.inl (.int i))]) rfl rfl rfl rfl ?_
        refine ex_iload cg_87 (ix := 29) (pc' := 51) rfl rfl rfl ?_
        refine ex_iload_n cg_87 (ix := 30) (pc' := 52) rfl rfl rfl ?_
        refine ex_icmp cg_87 (ix := 31) (t := 62) (pc' := 55) rfl rfl rfl (fun hb52 => ?_) (fun hb52 => ?_)
        · have hb52 : ¬ (Int32.ofInt 0).toInt = q0.toInt := hb52
          refine ex_iinc cg_87 (ix := 38) (pc' := 65) (L' := [some (.inr (.inl 15)), some (.inl (.int b)), some (.inl (.int x)), some (.inl (.int q0)), some (.inl (.int (Int32.ofInt 0))), some (.inl (.int (i + Int32.ofInt 1)))]) rfl rfl rfl rfl rfl ?_
          refine ex_goto cg_87 (ix := 39) (pc' := 20) rfl rfl ?_
          have hSk : ¬ sfS f t s hN k = true := by
            unfold sfS
            rw [decide_eq_true_iff]
            omega
          have hn2 : (Int32.ofInt 0).toInt = ((bkN (sfS f t s hN) (k + 1) : Nat) : Int) := by
            rw [bkN, if_neg hSk]
            exact kc0
          exact ih (k + 1) (by omega) _ (by rw [cx_addc (by omega) (by omega)]; omega) _ hn2 (fun y hy => by
            by_cases q : y = k
            · rw [q]; omega
            · exact h3 y (by omega))
        · have hb52 : ¬ (¬ (Int32.ofInt 0).toInt = q0.toInt) := hb52
          refine ex_iload cg_87 (ix := 32) (pc' := 57) rfl rfl rfl ?_
          refine ex_iload_n cg_87 (ix := 33) (pc' := 58) rfl rfl rfl ?_
          refine ex_isub cg_87 (ix := 34) (pc' := 59) rfl rfl ?_
          refine ex_iconst cg_87 (ix := 35) (pc' := 60) rfl rfl ?_
          refine ex_iadd cg_87 (ix := 36) (pc' := 61) rfl rfl ?_
          refine ex_ireturn cg_87 (ix := 37) rfl ?_
          have hSk : ¬ sfS f t s hN k = true := by
            unfold sfS
            rw [decide_eq_true_iff]
            omega
          have hn2 : (Int32.ofInt 0).toInt = ((bkN (sfS f t s hN) (k + 1) : Nat) : Int) := by
            rw [bkN, if_neg hSk]
            exact kc0
          exact hP _ k (by omega) (by omega) h3 (by rw [cx_addc (by rw [cx_subc (by omega) (by omega)]; omega) (by rw [cx_subc (by omega) (by omega)]; omega), cx_subc (by omega) (by omega)]; omega)
      · have hb36 : ¬ (¬ z.toInt = (Int32.ofInt 2).toInt) := hb36
        refine ex_iload cg_87 (ix := 23) (pc' := 41) rfl rfl rfl ?_
        refine ex_iconst cg_87 (ix := 24) (pc' := 42) rfl rfl ?_
        refine ex_iadd cg_87 (ix := 25) (pc' := 43) rfl rfl ?_
        refine ex_goto cg_87 (ix := 26) (pc' := 47) rfl rfl ?_
        refine ex_istore cg_87 (ix := 28) (pc' := 49) (L' := [some (.inr (.inl 15)), some (.inl (.int b)), some (.inl (.int x)), some (.inl (.int q0)), some (.inl (.int (n + (Int32.ofInt 1)))), some (.inl (.int i))]) rfl rfl rfl rfl ?_
        refine ex_iload cg_87 (ix := 29) (pc' := 51) rfl rfl rfl ?_
        refine ex_iload_n cg_87 (ix := 30) (pc' := 52) rfl rfl rfl ?_
        refine ex_icmp cg_87 (ix := 31) (t := 62) (pc' := 55) rfl rfl rfl (fun hb52 => ?_) (fun hb52 => ?_)
        · have hb52 : ¬ (n + (Int32.ofInt 1)).toInt = q0.toInt := hb52
          refine ex_iinc cg_87 (ix := 38) (pc' := 65) (L' := [some (.inr (.inl 15)), some (.inl (.int b)), some (.inl (.int x)), some (.inl (.int q0)), some (.inl (.int (n + (Int32.ofInt 1)))), some (.inl (.int (i + Int32.ofInt 1)))]) rfl rfl rfl rfl rfl ?_
          refine ex_goto cg_87 (ix := 39) (pc' := 20) rfl rfl ?_
          have hSk : sfS f t s hN k = true := by
            unfold sfS
            rw [decide_eq_true_iff]
            omega
          have hn2 : (n + (Int32.ofInt 1)).toInt = ((bkN (sfS f t s hN) (k + 1) : Nat) : Int) := by
            rw [bkN, if_pos hSk, cx_addc (by omega) (by omega)]
            omega
          exact ih (k + 1) (by omega) _ (by rw [cx_addc (by omega) (by omega)]; omega) _ hn2 (fun y hy => by
            by_cases q : y = k
            · rw [q]; omega
            · exact h3 y (by omega))
        · have hb52 : ¬ (¬ (n + (Int32.ofInt 1)).toInt = q0.toInt) := hb52
          refine ex_iload cg_87 (ix := 32) (pc' := 57) rfl rfl rfl ?_
          refine ex_iload_n cg_87 (ix := 33) (pc' := 58) rfl rfl rfl ?_
          refine ex_isub cg_87 (ix := 34) (pc' := 59) rfl rfl ?_
          refine ex_iconst cg_87 (ix := 35) (pc' := 60) rfl rfl ?_
          refine ex_iadd cg_87 (ix := 36) (pc' := 61) rfl rfl ?_
          refine ex_ireturn cg_87 (ix := 37) rfl ?_
          have hSk : sfS f t s hN k = true := by
            unfold sfS
            rw [decide_eq_true_iff]
            omega
          have hn2 : (n + (Int32.ofInt 1)).toInt = ((bkN (sfS f t s hN) (k + 1) : Nat) : Int) := by
            rw [bkN, if_pos hSk, cx_addc (by omega) (by omega)]
            omega
          exact hP _ k (by omega) (by omega) h3 (by rw [cx_addc (by rw [cx_subc (by omega) (by omega)]; omega) (by rw [cx_subc (by omega) (by omega)]; omega), cx_subc (by omega) (by omega)]; omega)
theorem ct_lt_ {b x : Int32} {k1 hN : Nat} {f t s : Nat → Int32} {F : Nat → Nat → Int32} (hb0 : 0 ≤ b.toInt) (hk1 : [17, 18, 19, 20][b.toNatClampNeg]? = some k1) (hk2 : cx_hg (h_sh F) k1 = some (.inr (.inl (0, 24, f)))) (hf : bkU f) (hx : x.toInt = (hN : Int)) (hh : hN < 16) (ht : ∀ i : Nat, i < 16 → tdU (t i).toInt) : cx_Ct 7 87 [.inr (.inl 15), .inl (.int b), .inl (.int x)] (h_sf F t s) (fun v h2 => ∃ z : Int32, v = some (.inl (.int z)) ∧ h2 = h_sf F t s ∧ ∃ M : Nat, MX (sfS f t s hN) M ∧ (M = 0 ∧ z.toInt = -9 ∨ 0 < M ∧ ∃ c : Nat, c < 24 ∧ bkN (sfS f t s hN) (c + 1) = M ∧ (∀ y : Nat, y < c → ¬ bkN (sfS f t s hN) (y + 1) = M) ∧ z.toInt = (c : Int) - (M : Int) + 1)) := by
  have kcm9 : (Int32.ofInt (-9)).toInt = -9 := by decide +kernel
  have kc0 : (Int32.ofInt 0).toInt = 0 := by decide +kernel
  have kc1 : (Int32.ofInt 1).toInt = 1 := by decide +kernel
  have kc2 : (Int32.ofInt 2).toInt = 2 := by decide +kernel
  have kc24 : (Int32.ofInt 24).toInt = 24 := by decide +kernel
  refine cx_Ct.of cg_87 (nL := 6) rfl rfl rfl ?_
  show cx_T 7 87 [15, 16, 17, 18, 19, 20, 2, 3, 4] 0 ([some (.inr (.inl 15)), some (.inl (.int b)), some (.inl (.int x)), none, none, none], [], h_sf F t s) _
  refine ex_aload_n cg_87 (ix := 0) (pc' := 1) rfl rfl rfl ?_
  refine ex_iload_n cg_87 (ix := 1) (pc' := 2) rfl rfl rfl ?_
  refine ex_iload_n cg_87 (ix := 2) (pc' := 3) rfl rfl rfl ?_
  refine ex_callV cg_87 (ix := 3) (pc' := 6) (As := [.inl (.int b), .inl (.int x)]) (r := []) rfl rfl rfl (ct_ll (b := b) (x := x) (k1 := k1) (hN := hN) (f := f) (t := t) (s := s) (F := F) hb0 hk1 hk2 hf hx hh ht) (by first | decide | omega) rfl rfl rfl ⟨rfl, rfl, rfl, rfl, rfl, rfl, rfl, rfl, rfl, trivial⟩ rfl rfl (fun v h2 hq => ?_)
  obtain ⟨m, rfl, rfl, h1, hy⟩ := hq
  show cx_T _ 87 _ 6 ([some (.inr (.inl 15)), some (.inl (.int b)), some (.inl (.int x)), none, none, none], [.inl (.int m)], [(15, .inl (7, [.inr (.inl 2), .inr (.inl 16)])), (16, .inr (.inr (.inr (3, [17, 18, 19, 20])))), (17, .inr (.inl (0, 24, F 0))), (18, .inr (.inl (0, 24, F 1))), (19, .inr (.inl (0, 24, F 2))), (20, .inr (.inl (0, 24, F 3))), (2, .inl (8, [.inr (.inl 3), .inr (.inl 4), .inr (.inl 5), .inr (.inl 10)])), (3, .inr (.inl (0, 16, t))), (4, .inr (.inl (0, 16, s)))]) _
  refine ex_istore_n cg_87 (ix := 4) (pc' := 7) (L' := [some (.inr (.inl 15)), some (.inl (.int b)), some (.inl (.int x)), some (.inl (.int m)), none, none]) rfl rfl rfl rfl ?_
  refine ex_iload_n cg_87 (ix := 5) (pc' := 8) rfl rfl rfl ?_
  refine ex_if cg_87 (ix := 6) (t := 14) (pc' := 11) rfl rfl rfl (fun hb8 => ?_) (fun hb8 => ?_)
  · have hb8 : ¬ m.toInt = 0 := hb8
    refine ex_iconst cg_87 (ix := 9) (pc' := 15) rfl rfl ?_
    refine ex_istore cg_87 (ix := 10) (pc' := 17) (L' := [some (.inr (.inl 15)), some (.inl (.int b)), some (.inl (.int x)), some (.inl (.int m)), some (.inl (.int (Int32.ofInt 0))), none]) rfl rfl rfl rfl ?_
    refine ex_iconst cg_87 (ix := 11) (pc' := 18) rfl rfl ?_
    refine ex_istore cg_87 (ix := 12) (pc' := 20) (L' := [some (.inr (.inl 15)), some (.inl (.int b)), some (.inl (.int x)), some (.inl (.int m)), some (.inl (.int (Int32.ofInt 0))), some (.inl (.int (Int32.ofInt 0)))]) rfl rfl rfl rfl ?_
    obtain ⟨y, hy1, hy2⟩ := id hy
    have hbk := bk_le (S := (sfS f t s hN)) y
    have hMX : MX (sfS f t s hN) (bkN (sfS f t s hN) y) := ⟨fun u hu => by have := h1 u hu; omega, y, hy1, rfl⟩
    exact lt_loop (b := b) (x := x) (k1 := k1) (hN := hN) (f := f) (t := t) (s := s) (F := F) (q0 := m) hb0 hk1 hk2 hf hx hh ht (by omega) (by omega) hy (P := fun v h2 => ∃ z : Int32, v = some (.inl (.int z)) ∧ h2 = h_sf F t s ∧ ∃ M : Nat, MX (sfS f t s hN) M ∧ (M = 0 ∧ z.toInt = -9 ∨ 0 < M ∧ ∃ c : Nat, c < 24 ∧ bkN (sfS f t s hN) (c + 1) = M ∧ (∀ y : Nat, y < c → ¬ bkN (sfS f t s hN) (y + 1) = M) ∧ z.toInt = (c : Int) - (M : Int) + 1)) (fun z c g1 g2 g3 g4 => ⟨z, rfl, rfl, _, hMX, Or.inr ⟨by omega, c, g1, by omega, fun u hu q => g3 u hu (by omega), by omega⟩⟩) 24 0 (by omega) (Int32.ofInt 0) (by decide +kernel) (Int32.ofInt 0) (by rw [bkN]; decide +kernel) (fun u hu => absurd hu (Nat.not_lt_zero u))
  · have hb8 : ¬ (¬ m.toInt = 0) := hb8
    refine ex_bipush cg_87 (ix := 7) (pc' := 13) rfl rfl rfl ?_
    refine ex_ireturn cg_87 (ix := 8) rfl ?_
    obtain ⟨y, hy1, hy2⟩ := id hy
    exact ⟨_, rfl, rfl, bkN (sfS f t s hN) y, ⟨fun u hu => by have := h1 u hu; omega, y, hy1, rfl⟩, Or.inl ⟨by omega, by decide +kernel⟩⟩
/-- what longest answers, with its faults -/
def loA (b x w : Int32) (G : Prop) (z : Int32) : Prop := (¬ ((0 ≤ b.toInt ∧ b.toInt < 4) ∧ 0 ≤ x.toInt ∧ x.toInt < 16) ∧ z.toInt = -1) ∨ (((0 ≤ b.toInt ∧ b.toInt < 4) ∧ 0 ≤ x.toInt ∧ x.toInt < 16) ∧ ¬ (0 ≤ w.toInt ∧ w.toInt ≤ 1) ∧ z.toInt = -2) ∨ (((0 ≤ b.toInt ∧ b.toInt < 4) ∧ 0 ≤ x.toInt ∧ x.toInt < 16) ∧ (0 ≤ w.toInt ∧ w.toInt ≤ 1) ∧ G)
theorem ct_lo {dy : Int32} {r t s : Nat → Int32} {F : Nat → Nat → Int32} {b x w : Int32} (hF : ∀ k : Nat, k < 4 → bkU (F k)) (ht : ∀ i : Nat, i < 16 → tdU (t i).toInt) : cx_Ct 8 133 [.inr (.inl 0), .inl (.int b), .inl (.int x), .inl (.int w)] (h_xf dy r F t s) (fun v h2 => ∃ (z : Int32) (r2 : Nat → Int32), v = some (.inl (.int z)) ∧ h2 = h_xf dy r2 F t s ∧ loA b x w (lgA (sfS (F b.toNatClampNeg) t s x.toNatClampNeg) w z) z) := by
  have kcm2 : (Int32.ofInt (-2)).toInt = -2 := by decide +kernel
  have kcm1 : (Int32.ofInt (-1)).toInt = -1 := by decide +kernel
  have kc0 : (Int32.ofInt 0).toInt = 0 := by decide +kernel
  have kc1 : (Int32.ofInt 1).toInt = 1 := by decide +kernel
  refine cx_Ct.of cg_133 (nL := 4) rfl rfl rfl ?_
  show cx_T 8 133 [0, 1, 15, 16, 17, 18, 19, 20, 2, 3, 4] 0 ([some (.inr (.inl 0)), some (.inl (.int b)), some (.inl (.int x)), some (.inl (.int w))], [], h_xf dy r F t s) _
  refine ex_iload_n cg_133 (ix := 0) (pc' := 1) rfl rfl rfl ?_
  refine ex_callS cg_133 (ix := 1) (pc' := 4) (As := [.inl (.int b)]) (r := []) rfl rfl rfl (ct_xbeach (x := b)) (by first | decide | omega) rfl rfl trivial rfl rfl (fun v h2 hq => ?_)
  obtain ⟨z, rfl, rfl, hz1⟩ := hq
  rcases hz1 with ⟨hz1, rfl⟩ | ⟨hz1, rfl⟩
  · show cx_T _ 133 _ 4 ([some (.inr (.inl 0)), some (.inl (.int b)), some (.inl (.int x)), some (.inl (.int w))], [.inl (.int (Int32.ofInt 1))], [(0, .inl (10, [.inr (.inl 1), .inr (.inl 2), .inr (.inl 15), .inr (.inl 21), .inr (.inl 43), .inr (.inl 68), .inr (.inl 77), .inr (.inl 87), .inr (.inl 101), .inr (.inl 107), .inr (.inl 113), .inl (.int dy)])), (1, .inr (.inl (0, 7, r))), (15, .inl (7, [.inr (.inl 2), .inr (.inl 16)])), (16, .inr (.inr (.inr (3, [17, 18, 19, 20])))), (17, .inr (.inl (0, 24, F 0))), (18, .inr (.inl (0, 24, F 1))), (19, .inr (.inl (0, 24, F 2))), (20, .inr (.inl (0, 24, F 3))), (2, .inl (8, [.inr (.inl 3), .inr (.inl 4), .inr (.inl 5), .inr (.inl 10)])), (3, .inr (.inl (0, 16, t))), (4, .inr (.inl (0, 16, s)))]) _
    refine ex_if cg_133 (ix := 2) (t := 14) (pc' := 7) rfl rfl rfl (fun hb4 => ?_) (fun hb4 => ?_)
    · have hb4 : (Int32.ofInt 1).toInt = 0 := hb4
      exfalso; first | omega | exact absurd hb4 (by decide +kernel)
    · have hb4 : ¬ ((Int32.ofInt 1).toInt = 0) := hb4
      refine ex_iload_n cg_133 (ix := 3) (pc' := 8) rfl rfl rfl ?_
      refine ex_callS cg_133 (ix := 4) (pc' := 11) (As := [.inl (.int x)]) (r := []) rfl rfl rfl (ct_xhour (x := x)) (by first | decide | omega) rfl rfl trivial rfl rfl (fun v h2 hq => ?_)
      obtain ⟨z, rfl, rfl, hz3⟩ := hq
      rcases hz3 with ⟨hz3, rfl⟩ | ⟨hz3, rfl⟩
      · show cx_T _ 133 _ 11 ([some (.inr (.inl 0)), some (.inl (.int b)), some (.inl (.int x)), some (.inl (.int w))], [.inl (.int (Int32.ofInt 1))], [(0, .inl (10, [.inr (.inl 1), .inr (.inl 2), .inr (.inl 15), .inr (.inl 21), .inr (.inl 43), .inr (.inl 68), .inr (.inl 77), .inr (.inl 87), .inr (.inl 101), .inr (.inl 107), .inr (.inl 113), .inl (.int dy)])), (1, .inr (.inl (0, 7, r))), (15, .inl (7, [.inr (.inl 2), .inr (.inl 16)])), (16, .inr (.inr (.inr (3, [17, 18, 19, 20])))), (17, .inr (.inl (0, 24, F 0))), (18, .inr (.inl (0, 24, F 1))), (19, .inr (.inl (0, 24, F 2))), (20, .inr (.inl (0, 24, F 3))), (2, .inl (8, [.inr (.inl 3), .inr (.inl 4), .inr (.inl 5), .inr (.inl 10)])), (3, .inr (.inl (0, 16, t))), (4, .inr (.inl (0, 16, s)))]) _
        refine ex_if cg_133 (ix := 5) (t := 20) (pc' := 14) rfl rfl rfl (fun hb11 => ?_) (fun hb11 => ?_)
        · have hb11 : ¬ (Int32.ofInt 1).toInt = 0 := hb11
          refine ex_iload_n cg_133 (ix := 10) (pc' := 21) rfl rfl rfl ?_
          refine ex_if cg_133 (ix := 11) (t := 36) (pc' := 24) rfl rfl rfl (fun hb21 => ?_) (fun hb21 => ?_)
          · have hb21 : w.toInt = 0 := hb21
            refine ex_iload_n cg_133 (ix := 19) (pc' := 37) rfl rfl rfl ?_
            refine ex_if cg_133 (ix := 20) (t := 52) (pc' := 40) rfl rfl rfl (fun hb37 => ?_) (fun hb37 => ?_)
            · have hb37 : ¬ w.toInt = 0 := hb37
              refine ex_aload_n cg_133 (ix := 27) (pc' := 53) rfl rfl rfl ?_
              refine ex_getfield cg_133 (ix := 28) (pc' := 56) rfl rfl rfl rfl rfl ?_
              refine ex_iload_n cg_133 (ix := 29) (pc' := 57) rfl rfl rfl ?_
              refine ex_iload_n cg_133 (ix := 30) (pc' := 58) rfl rfl rfl ?_
              refine ex_callV cg_133 (ix := 31) (pc' := 61) (As := [.inl (.int b), .inl (.int x)]) (r := []) rfl rfl rfl (ct_ll (b := b) (x := x) (k1 := 17 + b.toNatClampNeg) (hN := x.toNatClampNeg) (f := F b.toNatClampNeg) (t := t) (s := s) (F := F) (by omega) (sh_k F (by have := ab_clamp (x := b) (by omega); omega)).1 (sh_k F (by have := ab_clamp (x := b) (by omega); omega)).2 (hF _ (by have := ab_clamp (x := b) (by omega); omega)) (ab_clamp (by omega)).symm (by have := ab_clamp (x := x) (by omega); omega) ht) (by first | decide | omega) rfl rfl rfl ⟨rfl, rfl, rfl, rfl, rfl, rfl, rfl, rfl, rfl, trivial⟩ rfl rfl (fun v h2 hq => ?_)
              obtain ⟨m, rfl, rfl, h1, y, hy1, hy2⟩ := hq
              show cx_T _ 133 _ 61 ([some (.inr (.inl 0)), some (.inl (.int b)), some (.inl (.int x)), some (.inl (.int w))], [.inl (.int m)], [(0, .inl (10, [.inr (.inl 1), .inr (.inl 2), .inr (.inl 15), .inr (.inl 21), .inr (.inl 43), .inr (.inl 68), .inr (.inl 77), .inr (.inl 87), .inr (.inl 101), .inr (.inl 107), .inr (.inl 113), .inl (.int dy)])), (1, .inr (.inl (0, 7, r))), (15, .inl (7, [.inr (.inl 2), .inr (.inl 16)])), (16, .inr (.inr (.inr (3, [17, 18, 19, 20])))), (17, .inr (.inl (0, 24, F 0))), (18, .inr (.inl (0, 24, F 1))), (19, .inr (.inl (0, 24, F 2))), (20, .inr (.inl (0, 24, F 3))), (2, .inl (8, [.inr (.inl 3), .inr (.inl 4), .inr (.inl 5), .inr (.inl 10)])), (3, .inr (.inl (0, 16, t))), (4, .inr (.inl (0, 16, s)))]) _
              refine ex_ireturn cg_133 (ix := 32) rfl ?_
              exact ⟨m, r, rfl, rfl, Or.inr (Or.inr ⟨by omega, by omega, bkN (sfS (F b.toNatClampNeg) t s x.toNatClampNeg) y, ⟨fun u hu => by have := h1 u hu; omega, y, hy1, rfl⟩, Or.inl ⟨by omega, hy2⟩⟩)⟩
            · have hb37 : ¬ (¬ w.toInt = 0) := hb37
              refine ex_aload_n cg_133 (ix := 21) (pc' := 41) rfl rfl rfl ?_
              refine ex_getfield cg_133 (ix := 22) (pc' := 44) rfl rfl rfl rfl rfl ?_
              refine ex_iload_n cg_133 (ix := 23) (pc' := 45) rfl rfl rfl ?_
              refine ex_iload_n cg_133 (ix := 24) (pc' := 46) rfl rfl rfl ?_
              refine ex_callV cg_133 (ix := 25) (pc' := 49) (As := [.inl (.int b), .inl (.int x)]) (r := []) rfl rfl rfl (ct_lt_ (b := b) (x := x) (k1 := 17 + b.toNatClampNeg) (hN := x.toNatClampNeg) (f := F b.toNatClampNeg) (t := t) (s := s) (F := F) (by omega) (sh_k F (by have := ab_clamp (x := b) (by omega); omega)).1 (sh_k F (by have := ab_clamp (x := b) (by omega); omega)).2 (hF _ (by have := ab_clamp (x := b) (by omega); omega)) (ab_clamp (by omega)).symm (by have := ab_clamp (x := x) (by omega); omega) ht) (by first | decide | omega) rfl rfl rfl ⟨rfl, rfl, rfl, rfl, rfl, rfl, rfl, rfl, rfl, trivial⟩ rfl rfl (fun v h2 hq => ?_)
              obtain ⟨z, rfl, rfl, M, hMX, hz⟩ := hq
              show cx_T _ 133 _ 49 ([some (.inr (.inl 0)), some (.inl (.int b)), some (.inl (.int x)), some (.inl (.int w))], [.inl (.int z)], [(0, .inl (10, [.inr (.inl 1), .inr (.inl 2), .inr (.inl 15), .inr (.inl 21), .inr (.inl 43), .inr (.inl 68), .inr (.inl 77), .inr (.inl 87), .inr (.inl 101), .inr (.inl 107), .inr (.inl 113), .inl (.int dy)])), (1, .inr (.inl (0, 7, r))), (15, .inl (7, [.inr (.inl 2), .inr (.inl 16)])), (16, .inr (.inr (.inr (3, [17, 18, 19, 20])))), (17, .inr (.inl (0, 24, F 0))), (18, .inr (.inl (0, 24, F 1))), (19, .inr (.inl (0, 24, F 2))), (20, .inr (.inl (0, 24, F 3))), (2, .inl (8, [.inr (.inl 3), .inr (.inl 4), .inr (.inl 5), .inr (.inl 10)])), (3, .inr (.inl (0, 16, t))), (4, .inr (.inl (0, 16, s)))]) _
              refine ex_goto cg_133 (ix := 26) (pc' := 61) rfl rfl ?_
              refine ex_ireturn cg_133 (ix := 32) rfl ?_
              refine ⟨z, r, rfl, rfl, Or.inr (Or.inr ⟨by omega, by omega, M, hMX, Or.inr ?_⟩)⟩
              rcases hz with hz | ⟨q1, c, q2, q3, q4, q5⟩
              · exact Or.inl ⟨by omega, hz⟩
              · exact Or.inr ⟨by omega, q1, c, q2, q3, q4, q5⟩
          · have hb21 : ¬ (w.toInt = 0) := hb21
            refine ex_iload_n cg_133 (ix := 12) (pc' := 25) rfl rfl rfl ?_
            refine ex_iconst cg_133 (ix := 13) (pc' := 26) rfl rfl ?_
            refine ex_icmp cg_133 (ix := 14) (t := 36) (pc' := 29) rfl rfl rfl (fun hb26 => ?_) (fun hb26 => ?_)
            · have hb26 : w.toInt = (Int32.ofInt 1).toInt := hb26
              refine ex_iload_n cg_133 (ix := 19) (pc' := 37) rfl rfl rfl ?_
              refine ex_if cg_133 (ix := 20) (t := 52) (pc' := 40) rfl rfl rfl (fun hb37 => ?_) (fun hb37 => ?_)
              · have hb37 : ¬ w.toInt = 0 := hb37
                refine ex_aload_n cg_133 (ix := 27) (pc' := 53) rfl rfl rfl ?_
                refine ex_getfield cg_133 (ix := 28) (pc' := 56) rfl rfl rfl rfl rfl ?_
                refine ex_iload_n cg_133 (ix := 29) (pc' := 57) rfl rfl rfl ?_
                refine ex_iload_n cg_133 (ix := 30) (pc' := 58) rfl rfl rfl ?_
                refine ex_callV cg_133 (ix := 31) (pc' := 61) (As := [.inl (.int b), .inl (.int x)]) (r := []) rfl rfl rfl (ct_ll (b := b) (x := x) (k1 := 17 + b.toNatClampNeg) (hN := x.toNatClampNeg) (f := F b.toNatClampNeg) (t := t) (s := s) (F := F) (by omega) (sh_k F (by have := ab_clamp (x := b) (by omega); omega)).1 (sh_k F (by have := ab_clamp (x := b) (by omega); omega)).2 (hF _ (by have := ab_clamp (x := b) (by omega); omega)) (ab_clamp (by omega)).symm (by have := ab_clamp (x := x) (by omega); omega) ht) (by first | decide | omega) rfl rfl rfl ⟨rfl, rfl, rfl, rfl, rfl, rfl, rfl, rfl, rfl, trivial⟩ rfl rfl (fun v h2 hq => ?_)
                obtain ⟨m, rfl, rfl, h1, y, hy1, hy2⟩ := hq
                show cx_T _ 133 _ 61 ([some (.inr (.inl 0)), some (.inl (.int b)), some (.inl (.int x)), some (.inl (.int w))], [.inl (.int m)], [(0, .inl (10, [.inr (.inl 1), .inr (.inl 2), .inr (.inl 15), .inr (.inl 21), .inr (.inl 43), .inr (.inl 68), .inr (.inl 77), .inr (.inl 87), .inr (.inl 101), .inr (.inl 107), .inr (.inl 113), .inl (.int dy)])), (1, .inr (.inl (0, 7, r))), (15, .inl (7, [.inr (.inl 2), .inr (.inl 16)])), (16, .inr (.inr (.inr (3, [17, 18, 19, 20])))), (17, .inr (.inl (0, 24, F 0))), (18, .inr (.inl (0, 24, F 1))), (19, .inr (.inl (0, 24, F 2))), (20, .inr (.inl (0, 24, F 3))), (2, .inl (8, [.inr (.inl 3), .inr (.inl 4), .inr (.inl 5), .inr (.inl 10)])), (3, .inr (.inl (0, 16, t))), (4, .inr (.inl (0, 16, s)))]) _
                refine ex_ireturn cg_133 (ix := 32) rfl ?_
                exact ⟨m, r, rfl, rfl, Or.inr (Or.inr ⟨by omega, by omega, bkN (sfS (F b.toNatClampNeg) t s x.toNatClampNeg) y, ⟨fun u hu => by have := h1 u hu; omega, y, hy1, rfl⟩, Or.inl ⟨by omega, hy2⟩⟩)⟩
              · have hb37 : ¬ (¬ w.toInt = 0) := hb37
                refine ex_aload_n cg_133 (ix := 21) (pc' := 41) rfl rfl rfl ?_
                refine ex_getfield cg_133 (ix := 22) (pc' := 44) rfl rfl rfl rfl rfl ?_
                refine ex_iload_n cg_133 (ix := 23) (pc' := 45) rfl rfl rfl ?_
                refine ex_iload_n cg_133 (ix := 24) (pc' := 46) rfl rfl rfl ?_
                refine ex_callV cg_133 (ix := 25) (pc' := 49) (As := [.inl (.int b), .inl (.int x)]) (r := []) rfl rfl rfl (ct_lt_ (b := b) (x := x) (k1 := 17 + b.toNatClampNeg) (hN := x.toNatClampNeg) (f := F b.toNatClampNeg) (t := t) (s := s) (F := F) (by omega) (sh_k F (by have := ab_clamp (x := b) (by omega); omega)).1 (sh_k F (by have := ab_clamp (x := b) (by omega); omega)).2 (hF _ (by have := ab_clamp (x := b) (by omega); omega)) (ab_clamp (by omega)).symm (by have := ab_clamp (x := x) (by omega); omega) ht) (by first | decide | omega) rfl rfl rfl ⟨rfl, rfl, rfl, rfl, rfl, rfl, rfl, rfl, rfl, trivial⟩ rfl rfl (fun v h2 hq => ?_)
                obtain ⟨z, rfl, rfl, M, hMX, hz⟩ := hq
                show cx_T _ 133 _ 49 ([some (.inr (.inl 0)), some (.inl (.int b)), some (.inl (.int x)), some (.inl (.int w))], [.inl (.int z)], [(0, .inl (10, [.inr (.inl 1), .inr (.inl 2), .inr (.inl 15), .inr (.inl 21), .inr (.inl 43), .inr (.inl 68), .inr (.inl 77), .inr (.inl 87), .inr (.inl 101), .inr (.inl 107), .inr (.inl 113), .inl (.int dy)])), (1, .inr (.inl (0, 7, r))), (15, .inl (7, [.inr (.inl 2), .inr (.inl 16)])), (16, .inr (.inr (.inr (3, [17, 18, 19, 20])))), (17, .inr (.inl (0, 24, F 0))), (18, .inr (.inl (0, 24, F 1))), (19, .inr (.inl (0, 24, F 2))), (20, .inr (.inl (0, 24, F 3))), (2, .inl (8, [.inr (.inl 3), .inr (.inl 4), .inr (.inl 5), .inr (.inl 10)])), (3, .inr (.inl (0, 16, t))), (4, .inr (.inl (0, 16, s)))]) _
                refine ex_goto cg_133 (ix := 26) (pc' := 61) rfl rfl ?_
                refine ex_ireturn cg_133 (ix := 32) rfl ?_
                refine ⟨z, r, rfl, rfl, Or.inr (Or.inr ⟨by omega, by omega, M, hMX, Or.inr ?_⟩)⟩
                rcases hz with hz | ⟨q1, c, q2, q3, q4, q5⟩
                · exact Or.inl ⟨by omega, hz⟩
                · exact Or.inr ⟨by omega, q1, c, q2, q3, q4, q5⟩
            · have hb26 : ¬ (w.toInt = (Int32.ofInt 1).toInt) := hb26
              refine ex_aload_n cg_133 (ix := 15) (pc' := 30) rfl rfl rfl ?_
              refine ex_bipush cg_133 (ix := 16) (pc' := 32) rfl rfl rfl ?_
              refine ex_callV cg_133 (ix := 17) (pc' := 35) (As := [.inl (.int (Int32.ofInt (-2)))]) (r := []) rfl rfl rfl (ct_xref (dy := dy) (x := Int32.ofInt (-2)) (r := r) (by decide +kernel) (by decide +kernel)) (by first | decide | omega) rfl rfl rfl ⟨rfl, rfl, trivial⟩ rfl rfl (fun v h2 hq => ?_)
              obtain ⟨rfl, r2, rfl⟩ := hq
              show cx_T _ 133 _ 35 ([some (.inr (.inl 0)), some (.inl (.int b)), some (.inl (.int x)), some (.inl (.int w))], [.inl (.int (Int32.ofInt (-2)))], [(0, .inl (10, [.inr (.inl 1), .inr (.inl 2), .inr (.inl 15), .inr (.inl 21), .inr (.inl 43), .inr (.inl 68), .inr (.inl 77), .inr (.inl 87), .inr (.inl 101), .inr (.inl 107), .inr (.inl 113), .inl (.int dy)])), (1, .inr (.inl (0, 7, r2))), (15, .inl (7, [.inr (.inl 2), .inr (.inl 16)])), (16, .inr (.inr (.inr (3, [17, 18, 19, 20])))), (17, .inr (.inl (0, 24, F 0))), (18, .inr (.inl (0, 24, F 1))), (19, .inr (.inl (0, 24, F 2))), (20, .inr (.inl (0, 24, F 3))), (2, .inl (8, [.inr (.inl 3), .inr (.inl 4), .inr (.inl 5), .inr (.inl 10)])), (3, .inr (.inl (0, 16, t))), (4, .inr (.inl (0, 16, s)))]) _
              refine ex_ireturn cg_133 (ix := 18) rfl ?_
              exact ⟨_, r2, rfl, rfl, Or.inr (Or.inl ⟨by omega, by omega, by decide +kernel⟩)⟩
        · have hb11 : ¬ (¬ (Int32.ofInt 1).toInt = 0) := hb11
          exfalso; first | omega | exact absurd hb11 (by decide +kernel)
      · show cx_T _ 133 _ 11 ([some (.inr (.inl 0)), some (.inl (.int b)), some (.inl (.int x)), some (.inl (.int w))], [.inl (.int (Int32.ofInt 0))], [(0, .inl (10, [.inr (.inl 1), .inr (.inl 2), .inr (.inl 15), .inr (.inl 21), .inr (.inl 43), .inr (.inl 68), .inr (.inl 77), .inr (.inl 87), .inr (.inl 101), .inr (.inl 107), .inr (.inl 113), .inl (.int dy)])), (1, .inr (.inl (0, 7, r))), (15, .inl (7, [.inr (.inl 2), .inr (.inl 16)])), (16, .inr (.inr (.inr (3, [17, 18, 19, 20])))), (17, .inr (.inl (0, 24, F 0))), (18, .inr (.inl (0, 24, F 1))), (19, .inr (.inl (0, 24, F 2))), (20, .inr (.inl (0, 24, F 3))), (2, .inl (8, [.inr (.inl 3), .inr (.inl 4), .inr (.inl 5), .inr (.inl 10)])), (3, .inr (.inl (0, 16, t))), (4, .inr (.inl (0, 16, s)))]) _
        refine ex_if cg_133 (ix := 5) (t := 20) (pc' := 14) rfl rfl rfl (fun hb11 => ?_) (fun hb11 => ?_)
        · have hb11 : ¬ (Int32.ofInt 0).toInt = 0 := hb11
          exfalso; first | omega | exact absurd hb11 (by decide +kernel)
        · have hb11 : ¬ (¬ (Int32.ofInt 0).toInt = 0) := hb11
          refine ex_aload_n cg_133 (ix := 6) (pc' := 15) rfl rfl rfl ?_
          refine ex_iconst cg_133 (ix := 7) (pc' := 16) rfl rfl ?_
          refine ex_callV cg_133 (ix := 8) (pc' := 19) (As := [.inl (.int (Int32.ofInt (-1)))]) (r := []) rfl rfl rfl (ct_xref (dy := dy) (x := Int32.ofInt (-1)) (r := r) (by decide +kernel) (by decide +kernel)) (by first | decide | omega) rfl rfl rfl ⟨rfl, rfl, trivial⟩ rfl rfl (fun v h2 hq => ?_)
          obtain ⟨rfl, r2, rfl⟩ := hq
          show cx_T _ 133 _ 19 ([some (.inr (.inl 0)), some (.inl (.int b)), some (.inl (.int x)), some (.inl (.int w))], [.inl (.int (Int32.ofInt (-1)))], [(0, .inl (10, [.inr (.inl 1), .inr (.inl 2), .inr (.inl 15), .inr (.inl 21), .inr (.inl 43), .inr (.inl 68), .inr (.inl 77), .inr (.inl 87), .inr (.inl 101), .inr (.inl 107), .inr (.inl 113), .inl (.int dy)])), (1, .inr (.inl (0, 7, r2))), (15, .inl (7, [.inr (.inl 2), .inr (.inl 16)])), (16, .inr (.inr (.inr (3, [17, 18, 19, 20])))), (17, .inr (.inl (0, 24, F 0))), (18, .inr (.inl (0, 24, F 1))), (19, .inr (.inl (0, 24, F 2))), (20, .inr (.inl (0, 24, F 3))), (2, .inl (8, [.inr (.inl 3), .inr (.inl 4), .inr (.inl 5), .inr (.inl 10)])), (3, .inr (.inl (0, 16, t))), (4, .inr (.inl (0, 16, s)))]) _
          refine ex_ireturn cg_133 (ix := 9) rfl ?_
          exact ⟨_, r2, rfl, rfl, Or.inl ⟨by omega, by decide +kernel⟩⟩
  · show cx_T _ 133 _ 4 ([some (.inr (.inl 0)), some (.inl (.int b)), some (.inl (.int x)), some (.inl (.int w))], [.inl (.int (Int32.ofInt 0))], [(0, .inl (10, [.inr (.inl 1), .inr (.inl 2), .inr (.inl 15), .inr (.inl 21), .inr (.inl 43), .inr (.inl 68), .inr (.inl 77), .inr (.inl 87), .inr (.inl 101), .inr (.inl 107), .inr (.inl 113), .inl (.int dy)])), (1, .inr (.inl (0, 7, r))), (15, .inl (7, [.inr (.inl 2), .inr (.inl 16)])), (16, .inr (.inr (.inr (3, [17, 18, 19, 20])))), (17, .inr (.inl (0, 24, F 0))), (18, .inr (.inl (0, 24, F 1))), (19, .inr (.inl (0, 24, F 2))), (20, .inr (.inl (0, 24, F 3))), (2, .inl (8, [.inr (.inl 3), .inr (.inl 4), .inr (.inl 5), .inr (.inl 10)])), (3, .inr (.inl (0, 16, t))), (4, .inr (.inl (0, 16, s)))]) _
    refine ex_if cg_133 (ix := 2) (t := 14) (pc' := 7) rfl rfl rfl (fun hb4 => ?_) (fun hb4 => ?_)
    · have hb4 : (Int32.ofInt 0).toInt = 0 := hb4
      refine ex_aload_n cg_133 (ix := 6) (pc' := 15) rfl rfl rfl ?_
      refine ex_iconst cg_133 (ix := 7) (pc' := 16) rfl rfl ?_
      refine ex_callV cg_133 (ix := 8) (pc' := 19) (As := [.inl (.int (Int32.ofInt (-1)))]) (r := []) rfl rfl rfl (ct_xref (dy := dy) (x := Int32.ofInt (-1)) (r := r) (by decide +kernel) (by decide +kernel)) (by first | decide | omega) rfl rfl rfl ⟨rfl, rfl, trivial⟩ rfl rfl (fun v h2 hq => ?_)
      obtain ⟨rfl, r2, rfl⟩ := hq
      show cx_T _ 133 _ 19 ([some (.inr (.inl 0)), some (.inl (.int b)), some (.inl (.int x)), some (.inl (.int w))], [.inl (.int (Int32.ofInt (-1)))], [(0, .inl (10, [.inr (.inl 1), .inr (.inl 2), .inr (.inl 15), .inr (.inl 21), .inr (.inl 43), .inr (.inl 68), .inr (.inl 77), .inr (.inl 87), .inr (.inl 101), .inr (.inl 107), .inr (.inl 113), .inl (.int dy)])), (1, .inr (.inl (0, 7, r2))), (15, .inl (7, [.inr (.inl 2), .inr (.inl 16)])), (16, .inr (.inr (.inr (3, [17, 18, 19, 20])))), (17, .inr (.inl (0, 24, F 0))), (18, .inr (.inl (0, 24, F 1))), (19, .inr (.inl (0, 24, F 2))), (20, .inr (.inl (0, 24, F 3))), (2, .inl (8, [.inr (.inl 3), .inr (.inl 4), .inr (.inl 5), .inr (.inl 10)])), (3, .inr (.inl (0, 16, t))), (4, .inr (.inl (0, 16, s)))]) _
      refine ex_ireturn cg_133 (ix := 9) rfl ?_
      exact ⟨_, r2, rfl, rfl, Or.inl ⟨by omega, by decide +kernel⟩⟩
    · have hb4 : ¬ ((Int32.ofInt 0).toInt = 0) := hb4
      exfalso; first | omega | exact absurd hb4 (by decide +kernel)
/-- the reference's numbers behind a look at a cell -/
def maf (mi mi2 : Nat → Int32) (t s : Nat → Int32) (h : Nat) : Prop := mi2 = mi ∨ ∃ lo hi : Int32, lo.toInt = td_lo (td_a t h).toInt (td_b t h (16 - h)).toInt ∧ hi.toInt = td_hi (td_a t h).toInt (td_b t h (16 - h)).toInt ∧ mi2 = upi (upi (upi mi 10 lo) 11 hi) 12 (sw_x s h)
theorem maf_up {mi mi2 t s : Nat → Int32} {h : Nat} {lo hi : Int32} (hm : maf mi mi2 t s h) (hl : lo.toInt = td_lo (td_a t h).toInt (td_b t h (16 - h)).toInt) (hh : hi.toInt = td_hi (td_a t h).toInt (td_b t h (16 - h)).toInt) : maf mi (upi (upi (upi mi2 10 lo) 11 hi) 12 (sw_x s h)) t s h := by
  rcases hm with q | ⟨lo', hi', -, -, q⟩
  · rw [q]; exact Or.inr ⟨lo, hi, hl, hh, rfl⟩
  · refine Or.inr ⟨lo, hi, hl, hh, ?_⟩
    rw [q]
    funext i
    unfold upi
    cases Nat.beq i 12 <;> cases Nat.beq i 11 <;> cases Nat.beq i 10 <;> rfl
theorem fw_loop {mi : Nat → Int32} {ml : Nat → Int64} {g t s : Nat → Int32} {b x : Int32} {bN hN : Nat} {f : Nat → Int32} {P : Option cx_V → cx_H → Prop} (hb : b.toInt = (bN : Int)) (hbN : bN < 4) (hfg : ∀ i : Nat, i < 24 → g (24 * bN + i) = f i) (hf : bkU f) (hx : x.toInt = (hN : Int)) (hh : hN < 16) (ht : ∀ i : Nat, i < 16 → tdU (t i).toInt) (hs : ∀ i : Nat, i < 16 → swU (s i).toInt) (hP : ∀ (mi2 E : Nat → Int32), maf mi mi2 t s hN → (∀ j : Nat, 0 ≤ j → j ≤ 24 → (E j).toInt = ((frN (sfS f t s hN) (24 - j) : Nat) : Int)) → P none ([(119, .inl (11, vs_119 mi2 ml)), (121, .inr (.inl (0, 96, g))), (122, .inr (.inl (0, 16, t))), (123, .inr (.inl (0, 16, s))), (127, .inr (.inl (0, 25, E)))])) :
    ∀ (lN : Nat) (i : Int32), i.toInt = (lN : Int) - 1 → lN ≤ 24 → ∀ (mi2 E : Nat → Int32), maf mi mi2 t s hN → (∀ j : Nat, lN ≤ j → j ≤ 24 → (E j).toInt = ((frN (sfS f t s hN) (24 - j) : Nat) : Int)) → cx_T 7 196 [119, 121, 122, 123, 127] 11 ([some (.inr (.inl 119)), some (.inl (.int b)), some (.inl (.int x)), some (.inl (.int i))], [], [(119, .inl (11, vs_119 mi2 ml)), (121, .inr (.inl (0, 96, g))), (122, .inr (.inl (0, 16, t))), (123, .inr (.inl (0, 16, s))), (127, .inr (.inl (0, 25, E)))]) P := by
  have kcm1 : (Int32.ofInt (-1)).toInt = -1 := by decide +kernel
  have kc0 : (Int32.ofInt 0).toInt = 0 := by decide +kernel
  have kc1 : (Int32.ofInt 1).toInt = 1 := by decide +kernel
  have kc2 : (Int32.ofInt 2).toInt = 2 := by decide +kernel
  have kc23 : (Int32.ofInt 23).toInt = 23 := by decide +kernel
  have kc24 : (Int32.ofInt 24).toInt = 24 := by decide +kernel
  intro lN
  induction lN with
  | zero =>
    intro i hi hlL mi2 E hmf hE
    refine ex_iload_n cg_196 (ix := 7) (pc' := 12) rfl rfl rfl ?_
    refine ex_if cg_196 (ix := 8) (t := 52) (pc' := 15) rfl rfl rfl (fun hb12 => ?_) (fun hb12 => ?_)
    · have hb12 : i.toInt < 0 := hb12
      refine ex_return_ cg_196 (ix := 32) rfl ?_
      exact hP mi2 E hmf (fun j h1 h2 => hE j (by omega) h2)
    · have hb12 : ¬ (i.toInt < 0) := hb12
      exfalso; first | omega | exact absurd hb12 (by decide +kernel)
  | succ lN ih =>
    intro i hi hlL mi2 E hmf hE
    have hi : i.toInt = (lN : Int) := by omega
    have hik : i.toNatClampNeg = lN := cx_clamp hi
    have hi1 : (i + Int32.ofInt 1).toInt = ((lN + 1 : Nat) : Int) := by rw [cx_addc (by omega) (by omega)]; omega
    have hi1x : (i + Int32.ofInt 1).toNatClampNeg = lN + 1 := cx_clamp hi1
    have hE1 := hE (lN + 1) (Nat.le_refl _) (by omega)
    have hfr := fr_le (S := (sfS f t s hN)) (24 - (lN + 1))
    refine ex_iload_n cg_196 (ix := 7) (pc' := 12) rfl rfl rfl ?_
    refine ex_if cg_196 (ix := 8) (t := 52) (pc' := 15) rfl rfl rfl (fun hb12 => ?_) (fun hb12 => ?_)
    · have hb12 : i.toInt < 0 := hb12
      exfalso; first | omega | exact absurd hb12 (by decide +kernel)
    · have hb12 : ¬ (i.toInt < 0) := hb12
      refine ex_aload_n cg_196 (ix := 9) (pc' := 16) rfl rfl rfl ?_
      refine ex_getfield cg_196 (ix := 10) (pc' := 19) (v := .inr (.inl 127)) rfl rfl rfl rfl rfl ?_
      refine ex_iload_n cg_196 (ix := 11) (pc' := 20) rfl rfl rfl ?_
      refine ex_aload_n cg_196 (ix := 12) (pc' := 21) rfl rfl rfl ?_
      refine ex_iload_n cg_196 (ix := 13) (pc' := 22) rfl rfl rfl ?_
      refine ex_iload_n cg_196 (ix := 14) (pc' := 23) rfl rfl rfl ?_
      refine ex_iload_n cg_196 (ix := 15) (pc' := 24) rfl rfl rfl ?_
      refine ex_callV cg_196 (ix := 16) (pc' := 27) (As := [.inl (.int b), .inl (.int i), .inl (.int x)]) (r := [.inl (.int i), .inr (.inl 127)]) rfl rfl rfl (ct_sfn (mi := mi2) (ml := ml) (g := g) (t := t) (s := s) (b := b) (c := i) (x := x) (bN := bN) (cN := lN) (hN := hN) (f := f) hb hbN hfg hf hi (by omega) hx hh ht hs) (by first | decide | omega) rfl rfl rfl ⟨rfl, rfl, rfl, rfl, trivial⟩ rfl rfl (fun v h2 hq => ?_)
      obtain ⟨z, l_, m_, rfl, hl_, hm_, rfl, hz⟩ := hq
      show cx_T _ 196 _ 27 ([some (.inr (.inl 119)), some (.inl (.int b)), some (.inl (.int x)), some (.inl (.int i))], [.inl (.int z), .inl (.int i), .inr (.inl 127)], [(119, .inl (11, vs_119 (upi (upi (upi mi2 10 l_) 11 m_) 12 (sw_x s hN)) ml)), (121, .inr (.inl (0, 96, g))), (122, .inr (.inl (0, 16, t))), (123, .inr (.inl (0, 16, s))), (127, .inr (.inl (0, 25, E)))]) _
      refine ex_iconst cg_196 (ix := 17) (pc' := 28) rfl rfl ?_
      refine ex_icmp cg_196 (ix := 18) (t := 44) (pc' := 31) rfl rfl rfl (fun hb28 => ?_) (fun hb28 => ?_)
      · have hb28 : ¬ z.toInt = (Int32.ofInt 2).toInt := hb28
        refine ex_iconst cg_196 (ix := 28) (pc' := 45) rfl rfl ?_
        refine ex_iastore cg_196 (ix := 29) (pc' := 46) (h' := [(119, .inl (11, vs_119 (upi (upi (upi mi2 10 l_) 11 m_) 12 (sw_x s hN)) ml)), (121, .inr (.inl (0, 96, g))), (122, .inr (.inl (0, 16, t))), (123, .inr (.inl (0, 16, s))), (127, .inr (.inl (0, 25, upd E i.toNatClampNeg (Int32.ofInt 0))))]) rfl rfl (by omega) (by omega) rfl rfl ?_
        refine ex_iinc cg_196 (ix := 30) (pc' := 49) (L' := [some (.inr (.inl 119)), some (.inl (.int b)), some (.inl (.int x)), some (.inl (.int (i + Int32.ofInt (-1))))]) rfl rfl rfl rfl rfl ?_
        refine ex_goto cg_196 (ix := 31) (pc' := 11) rfl rfl ?_
        have hSk : ¬ sfS f t s hN lN = true := by
          unfold sfS
          rw [decide_eq_true_iff]
          omega
        refine ih _ (by rw [cx_addc (by omega) (by omega)]; omega) (by omega) (upi (upi (upi mi2 10 l_) 11 m_) 12 (sw_x s hN)) _ (maf_up hmf hl_ hm_) (fun j h1 h2 => ?_)
        rw [hik]
        unfold upd
        by_cases q : j = lN
        · rw [if_pos q, q, show 24 - lN = (24 - (lN + 1)) + 1 by omega, frN, show 24 - (24 - (lN + 1) + 1) = lN by omega, if_neg hSk]
          exact kc0
        · rw [if_neg q]; exact hE j (by omega) h2
      · have hb28 : ¬ (¬ z.toInt = (Int32.ofInt 2).toInt) := hb28
        refine ex_aload_n cg_196 (ix := 19) (pc' := 32) rfl rfl rfl ?_
        refine ex_getfield cg_196 (ix := 20) (pc' := 35) (v := .inr (.inl 127)) rfl rfl rfl rfl rfl ?_
        refine ex_iload_n cg_196 (ix := 21) (pc' := 36) rfl rfl rfl ?_
        refine ex_iconst cg_196 (ix := 22) (pc' := 37) rfl rfl ?_
        refine ex_iadd cg_196 (ix := 23) (pc' := 38) rfl rfl ?_
        refine ex_iaload cg_196 (ix := 24) (pc' := 39) rfl rfl (by omega) (by omega) rfl ?_
        refine ex_iconst cg_196 (ix := 25) (pc' := 40) rfl rfl ?_
        refine ex_iadd cg_196 (ix := 26) (pc' := 41) rfl rfl ?_
        refine ex_goto cg_196 (ix := 27) (pc' := 45) rfl rfl ?_
        refine ex_iastore cg_196 (ix := 29) (pc' := 46) (h' := [(119, .inl (11, vs_119 (upi (upi (upi mi2 10 l_) 11 m_) 12 (sw_x s hN)) ml)), (121, .inr (.inl (0, 96, g))), (122, .inr (.inl (0, 16, t))), (123, .inr (.inl (0, 16, s))), (127, .inr (.inl (0, 25, upd E i.toNatClampNeg ((E (i + (Int32.ofInt 1)).toNatClampNeg) + (Int32.ofInt 1)))))]) rfl rfl (by omega) (by omega) rfl rfl ?_
        refine ex_iinc cg_196 (ix := 30) (pc' := 49) (L' := [some (.inr (.inl 119)), some (.inl (.int b)), some (.inl (.int x)), some (.inl (.int (i + Int32.ofInt (-1))))]) rfl rfl rfl rfl rfl ?_
        refine ex_goto cg_196 (ix := 31) (pc' := 11) rfl rfl ?_
        have hSk : sfS f t s hN lN = true := by
          unfold sfS
          rw [decide_eq_true_iff]
          omega
        refine ih _ (by rw [cx_addc (by omega) (by omega)]; omega) (by omega) (upi (upi (upi mi2 10 l_) 11 m_) 12 (sw_x s hN)) _ (maf_up hmf hl_ hm_) (fun j h1 h2 => ?_)
        rw [hik]
        unfold upd
        by_cases q : j = lN
        · rw [if_pos q, q, show 24 - lN = (24 - (lN + 1)) + 1 by omega, frN, show 24 - (24 - (lN + 1) + 1) = lN by omega, if_pos hSk, hi1x, cx_addc (by rw [hE1]; omega) (by rw [hE1]; omega), hE1]
          omega
        · rw [if_neg q]; exact hE j (by omega) h2
theorem ct_fw {mi : Nat → Int32} {ml : Nat → Int64} {g t s : Nat → Int32} {b x : Int32} {bN hN : Nat} {f : Nat → Int32} {E : Nat → Int32} (hb : b.toInt = (bN : Int)) (hbN : bN < 4) (hfg : ∀ i : Nat, i < 24 → g (24 * bN + i) = f i) (hf : bkU f) (hx : x.toInt = (hN : Int)) (hh : hN < 16) (ht : ∀ i : Nat, i < 16 → tdU (t i).toInt) (hs : ∀ i : Nat, i < 16 → swU (s i).toInt) : cx_Ct 7 196 [.inr (.inl 119), .inl (.int b), .inl (.int x)] ([(119, .inl (11, vs_119 mi ml)), (121, .inr (.inl (0, 96, g))), (122, .inr (.inl (0, 16, t))), (123, .inr (.inl (0, 16, s))), (127, .inr (.inl (0, 25, E)))]) (fun v h2 => v = none ∧ ∃ mi2 E2 : Nat → Int32, h2 = [(119, .inl (11, vs_119 mi2 ml)), (121, .inr (.inl (0, 96, g))), (122, .inr (.inl (0, 16, t))), (123, .inr (.inl (0, 16, s))), (127, .inr (.inl (0, 25, E2)))] ∧ maf mi mi2 t s hN ∧ ∀ j : Nat, 0 ≤ j → j ≤ 24 → (E2 j).toInt = ((frN (sfS f t s hN) (24 - j) : Nat) : Int)) := by
  have kcm1 : (Int32.ofInt (-1)).toInt = -1 := by decide +kernel
  have kc0 : (Int32.ofInt 0).toInt = 0 := by decide +kernel
  have kc1 : (Int32.ofInt 1).toInt = 1 := by decide +kernel
  have kc2 : (Int32.ofInt 2).toInt = 2 := by decide +kernel
  have kc23 : (Int32.ofInt 23).toInt = 23 := by decide +kernel
  have kc24 : (Int32.ofInt 24).toInt = 24 := by decide +kernel
  refine cx_Ct.of cg_196 (nL := 4) rfl rfl rfl ?_
  show cx_T 7 196 [119, 121, 122, 123, 127] 0 ([some (.inr (.inl 119)), some (.inl (.int b)), some (.inl (.int x)), none], [], [(119, .inl (11, vs_119 mi ml)), (121, .inr (.inl (0, 96, g))), (122, .inr (.inl (0, 16, t))), (123, .inr (.inl (0, 16, s))), (127, .inr (.inl (0, 25, E)))]) _
  refine ex_aload_n cg_196 (ix := 0) (pc' := 1) rfl rfl rfl ?_
  refine ex_getfield cg_196 (ix := 1) (pc' := 4) (v := .inr (.inl 127)) rfl rfl rfl rfl rfl ?_
  refine ex_bipush cg_196 (ix := 2) (pc' := 6) rfl rfl rfl ?_
  refine ex_iconst cg_196 (ix := 3) (pc' := 7) rfl rfl ?_
  refine ex_iastore cg_196 (ix := 4) (pc' := 8) (h' := [(119, .inl (11, vs_119 mi ml)), (121, .inr (.inl (0, 96, g))), (122, .inr (.inl (0, 16, t))), (123, .inr (.inl (0, 16, s))), (127, .inr (.inl (0, 25, upd E (Int32.ofInt 24).toNatClampNeg (Int32.ofInt 0))))]) rfl rfl (by omega) (by omega) rfl rfl ?_
  refine ex_bipush cg_196 (ix := 5) (pc' := 10) rfl rfl rfl ?_
  refine ex_istore_n cg_196 (ix := 6) (pc' := 11) (L' := [some (.inr (.inl 119)), some (.inl (.int b)), some (.inl (.int x)), some (.inl (.int (Int32.ofInt 23)))]) rfl rfl rfl rfl ?_
  refine fw_loop (mi := mi) (ml := ml) (g := g) (t := t) (s := s) (b := b) (x := x) (bN := bN) (hN := hN) (f := f) hb hbN hfg hf hx hh ht hs (P := fun v h2 => v = none ∧ ∃ mi2 E2 : Nat → Int32, h2 = [(119, .inl (11, vs_119 mi2 ml)), (121, .inr (.inl (0, 96, g))), (122, .inr (.inl (0, 16, t))), (123, .inr (.inl (0, 16, s))), (127, .inr (.inl (0, 25, E2)))] ∧ maf mi mi2 t s hN ∧ ∀ j : Nat, 0 ≤ j → j ≤ 24 → (E2 j).toInt = ((frN (sfS f t s hN) (24 - j) : Nat) : Int)) (fun mi2 E2 h1 h3 => ⟨rfl, mi2, E2, rfl, h1, h3⟩) 24 _ (by decide +kernel) (Nat.le_refl _) mi _ (Or.inl rfl) (fun j h1 h3 => ?_)
  rw [show j = 24 by omega, show (Int32.ofInt 24).toNatClampNeg = 24 by decide +kernel, Nat.sub_self, frN]
  unfold upd
  rw [if_pos rfl]
  exact kc0
def h_ml (mi : Nat → Int32) (ml : Nat → Int64) (r g t s E : Nat → Int32) : cx_H := [(119, .inl (11, vs_119 mi ml)), (126, .inr (.inl (0, 7, r))), (121, .inr (.inl (0, 96, g))), (122, .inr (.inl (0, 16, t))), (123, .inr (.inl (0, 16, s))), (127, .inr (.inl (0, 25, E)))]
theorem lb_loop {mi2 : Nat → Int32} {ml : Nat → Int64} {r g t s E : Nat → Int32} {b x w : Int32} {P : Option cx_V → cx_H → Prop}  (hP : ∀ i : Int32, ∀ (aN : Nat) (a : Int32), a.toInt = (aN : Int) → aN < 24 → (∀ y : Nat, y < 24 → (E y).toInt ≤ (E aN).toInt) → (∀ y : Nat, y < aN → (E y).toInt < (E aN).toInt) → cx_T 8 197 [119, 126, 121, 122, 123, 127] 92 ([some (.inr (.inl 119)), some (.inl (.int b)), some (.inl (.int x)), some (.inl (.int w)), some (.inl (.int a)), some (.inl (.int i))], [], [(119, .inl (11, vs_119 mi2 ml)), (126, .inr (.inl (0, 7, r))), (121, .inr (.inl (0, 96, g))), (122, .inr (.inl (0, 16, t))), (123, .inr (.inl (0, 16, s))), (127, .inr (.inl (0, 25, E)))]) P) :
    ∀ (m k : Nat), k + m = 24 → ∀ i : Int32, i.toInt = (k : Int) → ∀ (aN : Nat) (a : Int32), a.toInt = (aN : Int) → aN < 24 → (∀ y : Nat, y < k → (E y).toInt ≤ (E aN).toInt) → (∀ y : Nat, y < aN → (E y).toInt < (E aN).toInt) → cx_T 8 197 [119, 126, 121, 122, 123, 127] 53 ([some (.inr (.inl 119)), some (.inl (.int b)), some (.inl (.int x)), some (.inl (.int w)), some (.inl (.int a)), some (.inl (.int i))], [], [(119, .inl (11, vs_119 mi2 ml)), (126, .inr (.inl (0, 7, r))), (121, .inr (.inl (0, 96, g))), (122, .inr (.inl (0, 16, t))), (123, .inr (.inl (0, 16, s))), (127, .inr (.inl (0, 25, E)))]) P := by
  have kcm9 : (Int32.ofInt (-9)).toInt = -9 := by decide +kernel
  have kcm2 : (Int32.ofInt (-2)).toInt = -2 := by decide +kernel
  have kcm1 : (Int32.ofInt (-1)).toInt = -1 := by decide +kernel
  have kc0 : (Int32.ofInt 0).toInt = 0 := by decide +kernel
  have kc1 : (Int32.ofInt 1).toInt = 1 := by decide +kernel
  have kc24 : (Int32.ofInt 24).toInt = 24 := by decide +kernel
  intro m
  induction m with
  | zero =>
    intro k hk i hi aN a ha ha1 h1 h2
    have ek : k = 24 := by omega
    refine ex_iload cg_197 (ix := 30) (pc' := 55) rfl rfl rfl ?_
    refine ex_bipush cg_197 (ix := 31) (pc' := 57) rfl rfl rfl ?_
    refine ex_icmp cg_197 (ix := 32) (t := 92) (pc' := 60) rfl rfl rfl (fun hb57 => ?_) (fun hb57 => ?_)
    · have hb57 : (Int32.ofInt 24).toInt ≤ i.toInt := hb57
      rw [ek] at h1
      exact hP i aN a ha ha1 h1 h2
    · have hb57 : ¬ ((Int32.ofInt 24).toInt ≤ i.toInt) := hb57
      exfalso; first | omega | exact absurd hb57 (by decide +kernel)
  | succ m ih =>
    intro k hk i hi aN a ha ha1 h1 h2
    have hik : i.toNatClampNeg = k := cx_clamp hi
    have hak : a.toNatClampNeg = aN := cx_clamp ha
    have hEa : (E a.toNatClampNeg).toInt = (E aN).toInt := by rw [hak]
    have hEk : (E i.toNatClampNeg).toInt = (E k).toInt := by rw [hik]
    refine ex_iload cg_197 (ix := 30) (pc' := 55) rfl rfl rfl ?_
    refine ex_bipush cg_197 (ix := 31) (pc' := 57) rfl rfl rfl ?_
    refine ex_icmp cg_197 (ix := 32) (t := 92) (pc' := 60) rfl rfl rfl (fun hb57 => ?_) (fun hb57 => ?_)
    · have hb57 : (Int32.ofInt 24).toInt ≤ i.toInt := hb57
      exfalso; first | omega | exact absurd hb57 (by decide +kernel)
    · have hb57 : ¬ ((Int32.ofInt 24).toInt ≤ i.toInt) := hb57
      refine ex_aload_n cg_197 (ix := 33) (pc' := 61) rfl rfl rfl ?_
      refine ex_getfield cg_197 (ix := 34) (pc' := 64) (v := .inr (.inl 127)) rfl rfl rfl rfl rfl ?_
      refine ex_iload cg_197 (ix := 35) (pc' := 66) rfl rfl rfl ?_
      refine ex_iaload cg_197 (ix := 36) (pc' := 67) rfl rfl (by omega) (by omega) rfl ?_
      refine ex_aload_n cg_197 (ix := 37) (pc' := 68) rfl rfl rfl ?_
      refine ex_getfield cg_197 (ix := 38) (pc' := 71) (v := .inr (.inl 127)) rfl rfl rfl rfl rfl ?_
      refine ex_iload cg_197 (ix := 39) (pc' := 73) rfl rfl rfl ?_
      refine ex_iaload cg_197 (ix := 40) (pc' := 74) rfl rfl (by omega) (by omega) rfl ?_
      refine ex_icmp cg_197 (ix := 41) (t := 82) (pc' := 77) rfl rfl rfl (fun hb74 => ?_) (fun hb74 => ?_)
      · have hb74 : (E i.toNatClampNeg).toInt ≤ (E a.toNatClampNeg).toInt := hb74
        refine ex_iload cg_197 (ix := 44) (pc' := 84) rfl rfl rfl ?_
        refine ex_istore cg_197 (ix := 45) (pc' := 86) (L' := [some (.inr (.inl 119)), some (.inl (.int b)), some (.inl (.int x)), some (.inl (.int w)), some (.inl (.int a)), some (.inl (.int i))]) rfl rfl rfl rfl ?_
        refine ex_iinc cg_197 (ix := 46) (pc' := 89) (L' := [some (.inr (.inl 119)), some (.inl (.int b)), some (.inl (.int x)), some (.inl (.int w)), some (.inl (.int a)), some (.inl (.int (i + Int32.ofInt 1)))]) rfl rfl rfl rfl rfl ?_
        refine ex_goto cg_197 (ix := 47) (pc' := 53) rfl rfl ?_
        exact ih (k + 1) (by omega) _ (by rw [cx_addc (by omega) (by omega)]; omega) aN a ha ha1 (fun y hy => by
          by_cases q : y = k
          · rw [q]; omega
          · exact h1 y (by omega)) h2
      · have hb74 : ¬ ((E i.toNatClampNeg).toInt ≤ (E a.toNatClampNeg).toInt) := hb74
        refine ex_iload cg_197 (ix := 42) (pc' := 79) rfl rfl rfl ?_
        refine ex_goto cg_197 (ix := 43) (pc' := 84) rfl rfl ?_
        refine ex_istore cg_197 (ix := 45) (pc' := 86) (L' := [some (.inr (.inl 119)), some (.inl (.int b)), some (.inl (.int x)), some (.inl (.int w)), some (.inl (.int i)), some (.inl (.int i))]) rfl rfl rfl rfl ?_
        refine ex_iinc cg_197 (ix := 46) (pc' := 89) (L' := [some (.inr (.inl 119)), some (.inl (.int b)), some (.inl (.int x)), some (.inl (.int w)), some (.inl (.int i)), some (.inl (.int (i + Int32.ofInt 1)))]) rfl rfl rfl rfl rfl ?_
        refine ex_goto cg_197 (ix := 47) (pc' := 53) rfl rfl ?_
        exact ih (k + 1) (by omega) _ (by rw [cx_addc (by omega) (by omega)]; omega) k i hi (by omega) (fun y hy => by
          by_cases q : y = k
          · rw [q]; exact Int.le_refl _
          · have := h1 y (by omega); omega) (fun y hy => by have := h1 y hy; omega)
theorem ct_mlo {mi : Nat → Int32} {ml : Nat → Int64} {r g t s E : Nat → Int32} {F : Nat → Nat → Int32} {b x w : Int32} (hfg : ∀ k : Nat, k < 4 → ∀ i : Nat, i < 24 → g (24 * k + i) = F k i) (hF : ∀ k : Nat, k < 4 → bkU (F k)) (ht : ∀ i : Nat, i < 16 → tdU (t i).toInt) (hs : ∀ i : Nat, i < 16 → swU (s i).toInt) : cx_Ct 8 197 [.inr (.inl 119), .inl (.int b), .inl (.int x), .inl (.int w)] (h_ml mi ml r g t s E) (fun v h2 => ∃ (z : Int32) (r2 mi2 E2 : Nat → Int32), v = some (.inl (.int z)) ∧ maf (upi mi 0 (Int32.ofInt 0)) mi2 t s x.toNatClampNeg ∧ (¬ (0 ≤ x.toInt ∧ x.toInt < 16) → mi2 = (upi mi 0 (Int32.ofInt 0))) ∧ h2 = h_ml mi2 ml r2 g t s E2 ∧ loA b x w (lgM (sfS (F b.toNatClampNeg) t s x.toNatClampNeg) w z) z) := by
  have kcm9 : (Int32.ofInt (-9)).toInt = -9 := by decide +kernel
  have kcm2 : (Int32.ofInt (-2)).toInt = -2 := by decide +kernel
  have kcm1 : (Int32.ofInt (-1)).toInt = -1 := by decide +kernel
  have kc0 : (Int32.ofInt 0).toInt = 0 := by decide +kernel
  have kc1 : (Int32.ofInt 1).toInt = 1 := by decide +kernel
  have kc24 : (Int32.ofInt 24).toInt = 24 := by decide +kernel
  refine cx_Ct.of cg_197 (nL := 6) rfl rfl rfl ?_
  show cx_T 8 197 [119, 126, 121, 122, 123, 127] 0 ([some (.inr (.inl 119)), some (.inl (.int b)), some (.inl (.int x)), some (.inl (.int w)), none, none], [], h_ml mi ml r g t s E) _
  refine ex_aload_n cg_197 (ix := 0) (pc' := 1) rfl rfl rfl ?_
  refine ex_iconst cg_197 (ix := 1) (pc' := 2) rfl rfl ?_
  refine ex_putfield cg_197 (ix := 2) (pc' := 5) (h' := [(119, .inl (11, vs_119 (upi mi 0 (Int32.ofInt 0)) ml)), (126, .inr (.inl (0, 7, r))), (121, .inr (.inl (0, 96, g))), (122, .inr (.inl (0, 16, t))), (123, .inr (.inl (0, 16, s))), (127, .inr (.inl (0, 25, E)))]) rfl rfl rfl rfl rfl rfl rfl rfl ?_
  refine ex_iload_n cg_197 (ix := 3) (pc' := 6) rfl rfl rfl ?_
  refine ex_callS cg_197 (ix := 4) (pc' := 9) (As := [.inl (.int b)]) (r := []) rfl rfl rfl (ct_mbeach (x := b)) (by first | decide | omega) rfl rfl trivial rfl rfl (fun v h2 hq => ?_)
  obtain ⟨z, rfl, rfl, hz1⟩ := hq
  rcases hz1 with ⟨hz1, rfl⟩ | ⟨hz1, rfl⟩
  · show cx_T _ 197 _ 9 ([some (.inr (.inl 119)), some (.inl (.int b)), some (.inl (.int x)), some (.inl (.int w)), none, none], [.inl (.int (Int32.ofInt 1))], [(119, .inl (11, vs_119 (upi mi 0 (Int32.ofInt 0)) ml)), (126, .inr (.inl (0, 7, r))), (121, .inr (.inl (0, 96, g))), (122, .inr (.inl (0, 16, t))), (123, .inr (.inl (0, 16, s))), (127, .inr (.inl (0, 25, E)))]) _
    refine ex_if cg_197 (ix := 5) (t := 19) (pc' := 12) rfl rfl rfl (fun hb9 => ?_) (fun hb9 => ?_)
    · have hb9 : (Int32.ofInt 1).toInt = 0 := hb9
      exfalso; first | omega | exact absurd hb9 (by decide +kernel)
    · have hb9 : ¬ ((Int32.ofInt 1).toInt = 0) := hb9
      refine ex_iload_n cg_197 (ix := 6) (pc' := 13) rfl rfl rfl ?_
      refine ex_callS cg_197 (ix := 7) (pc' := 16) (As := [.inl (.int x)]) (r := []) rfl rfl rfl (ct_mhour (x := x)) (by first | decide | omega) rfl rfl trivial rfl rfl (fun v h2 hq => ?_)
      obtain ⟨z, rfl, rfl, hz3⟩ := hq
      rcases hz3 with ⟨hz3, rfl⟩ | ⟨hz3, rfl⟩
      · show cx_T _ 197 _ 16 ([some (.inr (.inl 119)), some (.inl (.int b)), some (.inl (.int x)), some (.inl (.int w)), none, none], [.inl (.int (Int32.ofInt 1))], [(119, .inl (11, vs_119 (upi mi 0 (Int32.ofInt 0)) ml)), (126, .inr (.inl (0, 7, r))), (121, .inr (.inl (0, 96, g))), (122, .inr (.inl (0, 16, t))), (123, .inr (.inl (0, 16, s))), (127, .inr (.inl (0, 25, E)))]) _
        refine ex_if cg_197 (ix := 8) (t := 25) (pc' := 19) rfl rfl rfl (fun hb16 => ?_) (fun hb16 => ?_)
        · have hb16 : ¬ (Int32.ofInt 1).toInt = 0 := hb16
          refine ex_iload_n cg_197 (ix := 13) (pc' := 26) rfl rfl rfl ?_
          refine ex_iconst cg_197 (ix := 14) (pc' := 27) rfl rfl ?_
          refine ex_iconst cg_197 (ix := 15) (pc' := 28) rfl rfl ?_
          refine ex_callS cg_197 (ix := 16) (pc' := 31) (As := [.inl (.int w), .inl (.int (Int32.ofInt 0)), .inl (.int (Int32.ofInt 1))]) (r := []) rfl rfl rfl (ct_min (x := w) (a := Int32.ofInt 0) (b := Int32.ofInt 1)) (by first | decide | omega) rfl rfl trivial rfl rfl (fun v h2 hq => ?_)
          obtain ⟨z, rfl, rfl, hz6⟩ := hq
          rcases hz6 with ⟨hz6, rfl⟩ | ⟨hz6, rfl⟩
          · show cx_T _ 197 _ 31 ([some (.inr (.inl 119)), some (.inl (.int b)), some (.inl (.int x)), some (.inl (.int w)), none, none], [.inl (.int (Int32.ofInt 1))], [(119, .inl (11, vs_119 (upi mi 0 (Int32.ofInt 0)) ml)), (126, .inr (.inl (0, 7, r))), (121, .inr (.inl (0, 96, g))), (122, .inr (.inl (0, 16, t))), (123, .inr (.inl (0, 16, s))), (127, .inr (.inl (0, 25, E)))]) _
            refine ex_if cg_197 (ix := 17) (t := 41) (pc' := 34) rfl rfl rfl (fun hb31 => ?_) (fun hb31 => ?_)
            · have hb31 : ¬ (Int32.ofInt 1).toInt = 0 := hb31
              refine ex_aload_n cg_197 (ix := 22) (pc' := 42) rfl rfl rfl ?_
              refine ex_iload_n cg_197 (ix := 23) (pc' := 43) rfl rfl rfl ?_
              refine ex_iload_n cg_197 (ix := 24) (pc' := 44) rfl rfl rfl ?_
              refine ex_callV cg_197 (ix := 25) (pc' := 47) (As := [.inl (.int b), .inl (.int x)]) (r := []) rfl rfl rfl (ct_fw (mi := (upi mi 0 (Int32.ofInt 0))) (ml := ml) (g := g) (t := t) (s := s) (b := b) (x := x) (bN := b.toNatClampNeg) (hN := x.toNatClampNeg) (f := F b.toNatClampNeg) (E := E) (ab_clamp (by omega)).symm (by have := ab_clamp (x := b) (by omega); omega) (hfg _ (by have := ab_clamp (x := b) (by omega); omega)) (hF _ (by have := ab_clamp (x := b) (by omega); omega)) (ab_clamp (by omega)).symm (by have := ab_clamp (x := x) (by omega); omega) ht hs) (by first | decide | omega) rfl rfl rfl ⟨rfl, rfl, rfl, rfl, rfl, trivial⟩ rfl rfl (fun v h2 hq => ?_)
              obtain ⟨rfl, mi2, E2, rfl, hmf, hE2⟩ := hq
              show cx_T _ 197 _ 47 ([some (.inr (.inl 119)), some (.inl (.int b)), some (.inl (.int x)), some (.inl (.int w)), none, none], [], [(119, .inl (11, vs_119 mi2 ml)), (126, .inr (.inl (0, 7, r))), (121, .inr (.inl (0, 96, g))), (122, .inr (.inl (0, 16, t))), (123, .inr (.inl (0, 16, s))), (127, .inr (.inl (0, 25, E2)))]) _
              refine ex_iconst cg_197 (ix := 26) (pc' := 48) rfl rfl ?_
              refine ex_istore cg_197 (ix := 27) (pc' := 50) (L' := [some (.inr (.inl 119)), some (.inl (.int b)), some (.inl (.int x)), some (.inl (.int w)), some (.inl (.int (Int32.ofInt 0))), none]) rfl rfl rfl rfl ?_
              refine ex_iconst cg_197 (ix := 28) (pc' := 51) rfl rfl ?_
              refine ex_istore cg_197 (ix := 29) (pc' := 53) (L' := [some (.inr (.inl 119)), some (.inl (.int b)), some (.inl (.int x)), some (.inl (.int w)), some (.inl (.int (Int32.ofInt 0))), some (.inl (.int (Int32.ofInt 1)))]) rfl rfl rfl rfl ?_
              refine lb_loop (mi2 := mi2) (ml := ml) (r := r) (g := g) (t := t) (s := s) (E := E2) (b := b) (x := x) (w := w) (P := fun v h2 => ∃ (z : Int32) (r2 mi2 E2 : Nat → Int32), v = some (.inl (.int z)) ∧ maf (upi mi 0 (Int32.ofInt 0)) mi2 t s x.toNatClampNeg ∧ (¬ (0 ≤ x.toInt ∧ x.toInt < 16) → mi2 = (upi mi 0 (Int32.ofInt 0))) ∧ h2 = h_ml mi2 ml r2 g t s E2 ∧ loA b x w (lgM (sfS (F b.toNatClampNeg) t s x.toNatClampNeg) w z) z) (fun i2 aN a ha ha1 h1 h3 => ?_) 23 1 (by omega) (Int32.ofInt 1) (by decide +kernel) 0 (Int32.ofInt 0) (by decide +kernel) (by decide) (fun y hy => by rw [show y = 0 by omega]; exact Int.le_refl _) (fun y hy => absurd hy (Nat.not_lt_zero y))
              have hak : a.toNatClampNeg = aN := cx_clamp ha
              have hEa : (E2 a.toNatClampNeg).toInt = ((frN (sfS (F b.toNatClampNeg) t s x.toNatClampNeg) (24 - aN) : Nat) : Int) := by rw [hak]; exact hE2 aN (by omega) (by omega)
              have hEb := hE2 aN (by omega) (by omega)
              have hFX : FX (sfS (F b.toNatClampNeg) t s x.toNatClampNeg) aN (frN (sfS (F b.toNatClampNeg) t s x.toNatClampNeg) (24 - aN)) := ⟨ha1, rfl, fun y hy => by have := h1 y hy; have := hE2 y (by omega) (by omega); omega, fun y hy => by have := h3 y hy; have := hE2 y (by omega) (by omega); omega⟩
              refine ex_iload_n cg_197 (ix := 48) (pc' := 93) rfl rfl rfl ?_
              refine ex_iconst cg_197 (ix := 49) (pc' := 94) rfl rfl ?_
              refine ex_icmp cg_197 (ix := 50) (t := 107) (pc' := 97) rfl rfl rfl (fun hb94 => ?_) (fun hb94 => ?_)
              · have hb94 : ¬ w.toInt = (Int32.ofInt 1).toInt := hb94
                refine ex_aload_n cg_197 (ix := 56) (pc' := 108) rfl rfl rfl ?_
                refine ex_getfield cg_197 (ix := 57) (pc' := 111) (v := .inr (.inl 127)) rfl rfl rfl rfl rfl ?_
                refine ex_iload cg_197 (ix := 58) (pc' := 113) rfl rfl rfl ?_
                refine ex_iaload cg_197 (ix := 59) (pc' := 114) rfl rfl (by omega) (by omega) rfl ?_
                refine ex_if cg_197 (ix := 60) (t := 122) (pc' := 117) rfl rfl rfl (fun hb114 => ?_) (fun hb114 => ?_)
                · have hb114 : ¬ (E2 a.toNatClampNeg).toInt = 0 := hb114
                  refine ex_iload cg_197 (ix := 63) (pc' := 124) rfl rfl rfl ?_
                  refine ex_ireturn cg_197 (ix := 64) rfl ?_
                  exact ⟨_, r, mi2, E2, rfl, hmf, fun u => absurd ⟨by omega, by omega⟩ u, rfl, Or.inr (Or.inr ⟨by omega, by omega, aN, _, hFX, Or.inr (Or.inr ⟨by omega, by omega, ha⟩)⟩)⟩
                · have hb114 : ¬ (¬ (E2 a.toNatClampNeg).toInt = 0) := hb114
                  refine ex_bipush cg_197 (ix := 61) (pc' := 119) rfl rfl rfl ?_
                  refine ex_goto cg_197 (ix := 62) (pc' := 124) rfl rfl ?_
                  refine ex_ireturn cg_197 (ix := 64) rfl ?_
                  exact ⟨_, r, mi2, E2, rfl, hmf, fun u => absurd ⟨by omega, by omega⟩ u, rfl, Or.inr (Or.inr ⟨by omega, by omega, aN, _, hFX, Or.inr (Or.inl ⟨by omega, by omega, by decide +kernel⟩)⟩)⟩
              · have hb94 : ¬ (¬ w.toInt = (Int32.ofInt 1).toInt) := hb94
                refine ex_aload_n cg_197 (ix := 51) (pc' := 98) rfl rfl rfl ?_
                refine ex_getfield cg_197 (ix := 52) (pc' := 101) (v := .inr (.inl 127)) rfl rfl rfl rfl rfl ?_
                refine ex_iload cg_197 (ix := 53) (pc' := 103) rfl rfl rfl ?_
                refine ex_iaload cg_197 (ix := 54) (pc' := 104) rfl rfl (by omega) (by omega) rfl ?_
                refine ex_goto cg_197 (ix := 55) (pc' := 124) rfl rfl ?_
                refine ex_ireturn cg_197 (ix := 64) rfl ?_
                exact ⟨_, r, mi2, E2, rfl, hmf, fun u => absurd ⟨by omega, by omega⟩ u, rfl, Or.inr (Or.inr ⟨by omega, by omega, aN, _, hFX, Or.inl ⟨by omega, by omega⟩⟩)⟩
            · have hb31 : ¬ (¬ (Int32.ofInt 1).toInt = 0) := hb31
              exfalso; first | omega | exact absurd hb31 (by decide +kernel)
          · show cx_T _ 197 _ 31 ([some (.inr (.inl 119)), some (.inl (.int b)), some (.inl (.int x)), some (.inl (.int w)), none, none], [.inl (.int (Int32.ofInt 0))], [(119, .inl (11, vs_119 (upi mi 0 (Int32.ofInt 0)) ml)), (126, .inr (.inl (0, 7, r))), (121, .inr (.inl (0, 96, g))), (122, .inr (.inl (0, 16, t))), (123, .inr (.inl (0, 16, s))), (127, .inr (.inl (0, 25, E)))]) _
            refine ex_if cg_197 (ix := 17) (t := 41) (pc' := 34) rfl rfl rfl (fun hb31 => ?_) (fun hb31 => ?_)
            · have hb31 : ¬ (Int32.ofInt 0).toInt = 0 := hb31
              exfalso; first | omega | exact absurd hb31 (by decide +kernel)
            · have hb31 : ¬ (¬ (Int32.ofInt 0).toInt = 0) := hb31
              refine ex_aload_n cg_197 (ix := 18) (pc' := 35) rfl rfl rfl ?_
              refine ex_bipush cg_197 (ix := 19) (pc' := 37) rfl rfl rfl ?_
              refine ex_callV cg_197 (ix := 20) (pc' := 40) (As := [.inl (.int (Int32.ofInt (-2)))]) (r := []) rfl rfl rfl (ct_mref (x := Int32.ofInt (-2)) (mi := (upi mi 0 (Int32.ofInt 0))) (ml := ml) (r := r) (by decide +kernel) (by decide +kernel)) (by first | decide | omega) rfl rfl rfl ⟨rfl, rfl, trivial⟩ rfl rfl (fun v h2 hq => ?_)
              obtain ⟨rfl, r2, rfl⟩ := hq
              show cx_T _ 197 _ 40 ([some (.inr (.inl 119)), some (.inl (.int b)), some (.inl (.int x)), some (.inl (.int w)), none, none], [.inl (.int (Int32.ofInt (-2)))], [(119, .inl (11, vs_119 (upi mi 0 (Int32.ofInt 0)) ml)), (126, .inr (.inl (0, 7, r2))), (121, .inr (.inl (0, 96, g))), (122, .inr (.inl (0, 16, t))), (123, .inr (.inl (0, 16, s))), (127, .inr (.inl (0, 25, E)))]) _
              refine ex_ireturn cg_197 (ix := 21) rfl ?_
              exact ⟨_, r2, _, E, rfl, Or.inl rfl, fun _ => rfl, rfl, Or.inr (Or.inl ⟨by omega, by omega, by decide +kernel⟩)⟩
        · have hb16 : ¬ (¬ (Int32.ofInt 1).toInt = 0) := hb16
          exfalso; first | omega | exact absurd hb16 (by decide +kernel)
      · show cx_T _ 197 _ 16 ([some (.inr (.inl 119)), some (.inl (.int b)), some (.inl (.int x)), some (.inl (.int w)), none, none], [.inl (.int (Int32.ofInt 0))], [(119, .inl (11, vs_119 (upi mi 0 (Int32.ofInt 0)) ml)), (126, .inr (.inl (0, 7, r))), (121, .inr (.inl (0, 96, g))), (122, .inr (.inl (0, 16, t))), (123, .inr (.inl (0, 16, s))), (127, .inr (.inl (0, 25, E)))]) _
        refine ex_if cg_197 (ix := 8) (t := 25) (pc' := 19) rfl rfl rfl (fun hb16 => ?_) (fun hb16 => ?_)
        · have hb16 : ¬ (Int32.ofInt 0).toInt = 0 := hb16
          exfalso; first | omega | exact absurd hb16 (by decide +kernel)
        · have hb16 : ¬ (¬ (Int32.ofInt 0).toInt = 0) := hb16
          refine ex_aload_n cg_197 (ix := 9) (pc' := 20) rfl rfl rfl ?_
          refine ex_iconst cg_197 (ix := 10) (pc' := 21) rfl rfl ?_
          refine ex_callV cg_197 (ix := 11) (pc' := 24) (As := [.inl (.int (Int32.ofInt (-1)))]) (r := []) rfl rfl rfl (ct_mref (x := Int32.ofInt (-1)) (mi := (upi mi 0 (Int32.ofInt 0))) (ml := ml) (r := r) (by decide +kernel) (by decide +kernel)) (by first | decide | omega) rfl rfl rfl ⟨rfl, rfl, trivial⟩ rfl rfl (fun v h2 hq => ?_)
          obtain ⟨rfl, r2, rfl⟩ := hq
          show cx_T _ 197 _ 24 ([some (.inr (.inl 119)), some (.inl (.int b)), some (.inl (.int x)), some (.inl (.int w)), none, none], [.inl (.int (Int32.ofInt (-1)))], [(119, .inl (11, vs_119 (upi mi 0 (Int32.ofInt 0)) ml)), (126, .inr (.inl (0, 7, r2))), (121, .inr (.inl (0, 96, g))), (122, .inr (.inl (0, 16, t))), (123, .inr (.inl (0, 16, s))), (127, .inr (.inl (0, 25, E)))]) _
          refine ex_ireturn cg_197 (ix := 12) rfl ?_
          exact ⟨_, r2, _, E, rfl, Or.inl rfl, fun _ => rfl, rfl, Or.inl ⟨by omega, by decide +kernel⟩⟩
  · show cx_T _ 197 _ 9 ([some (.inr (.inl 119)), some (.inl (.int b)), some (.inl (.int x)), some (.inl (.int w)), none, none], [.inl (.int (Int32.ofInt 0))], [(119, .inl (11, vs_119 (upi mi 0 (Int32.ofInt 0)) ml)), (126, .inr (.inl (0, 7, r))), (121, .inr (.inl (0, 96, g))), (122, .inr (.inl (0, 16, t))), (123, .inr (.inl (0, 16, s))), (127, .inr (.inl (0, 25, E)))]) _
    refine ex_if cg_197 (ix := 5) (t := 19) (pc' := 12) rfl rfl rfl (fun hb9 => ?_) (fun hb9 => ?_)
    · have hb9 : (Int32.ofInt 0).toInt = 0 := hb9
      refine ex_aload_n cg_197 (ix := 9) (pc' := 20) rfl rfl rfl ?_
      refine ex_iconst cg_197 (ix := 10) (pc' := 21) rfl rfl ?_
      refine ex_callV cg_197 (ix := 11) (pc' := 24) (As := [.inl (.int (Int32.ofInt (-1)))]) (r := []) rfl rfl rfl (ct_mref (x := Int32.ofInt (-1)) (mi := (upi mi 0 (Int32.ofInt 0))) (ml := ml) (r := r) (by decide +kernel) (by decide +kernel)) (by first | decide | omega) rfl rfl rfl ⟨rfl, rfl, trivial⟩ rfl rfl (fun v h2 hq => ?_)
      obtain ⟨rfl, r2, rfl⟩ := hq
      show cx_T _ 197 _ 24 ([some (.inr (.inl 119)), some (.inl (.int b)), some (.inl (.int x)), some (.inl (.int w)), none, none], [.inl (.int (Int32.ofInt (-1)))], [(119, .inl (11, vs_119 (upi mi 0 (Int32.ofInt 0)) ml)), (126, .inr (.inl (0, 7, r2))), (121, .inr (.inl (0, 96, g))), (122, .inr (.inl (0, 16, t))), (123, .inr (.inl (0, 16, s))), (127, .inr (.inl (0, 25, E)))]) _
      refine ex_ireturn cg_197 (ix := 12) rfl ?_
      exact ⟨_, r2, _, E, rfl, Or.inl rfl, fun _ => rfl, rfl, Or.inl ⟨by omega, by decide +kernel⟩⟩
    · have hb9 : ¬ ((Int32.ofInt 0).toInt = 0) := hb9
      exfalso; first | omega | exact absurd hb9 (by decide +kernel)
end
