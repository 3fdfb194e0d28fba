noncomputable section
def stO (S f : Nat) : Nat := Nat.lor S (2 ^ f)
def stI (S f : Nat) : Bool := Nat.testBit S f
theorem bt_t1 : (List.range 256).all (fun S => (List.range 8).all (fun f => decide ((Int32.ofInt (Int.ofNat S) ||| (Int32.ofInt 1 <<< (Int32.ofInt (Int.ofNat f) &&& 31))).toInt = Int.ofNat (stO S f)))) = true := by decide +kernel
theorem bt_t2 : (List.range 256).all (fun S => (List.range 8).all (fun f => decide ((Int32.ofInt (Int.ofNat S) &&& (Int32.ofInt 1 <<< (Int32.ofInt (Int.ofNat f) &&& 31))).toInt = bif stI S f then Int.ofNat (2 ^ f) else 0))) = true := by decide +kernel
theorem bt_t3 : (List.range 256).all (fun S => (List.range 8).all (fun f => decide (((Int32.ofInt (Int.ofNat S) >>> (Int32.ofInt (Int.ofNat f) &&& 31)) &&& Int32.ofInt 1).toInt = bif stI S f then 1 else 0))) = true := by decide +kernel
theorem bt_t4 : (List.range 9).all (fun f => decide ((Int32.ofInt 1 <<< (Int32.ofInt (Int.ofNat f) &&& 31)).toInt = Int.ofNat (2 ^ f))) = true := by decide +kernel
theorem bt_t5 : (List.range 9).all (fun F => (List.range (2 ^ F)).all (fun S => (List.range F).all (fun f => Nat.blt (stO S f) (2 ^ F)))) = true := by decide +kernel
theorem bt_t6 : (List.range 256).all (fun S => decide ((Int32.ofInt (Int.ofNat S) ||| Int32.ofInt 0).toInt = Int.ofNat S)) = true := by decide +kernel
theorem bt_r {p : Nat → Bool} {n : Nat} (h : (List.range n).all p = true) {i : Nat} (hi : i < n) : p i = true := List.all_eq_true.mp h i (List.mem_range.mpr hi)
theorem bt_k {x : Int32} {n : Nat} (h : x.toInt = (n : Int)) (hn : n < 1000) : x = Int32.ofInt (Int.ofNat n) := Int32.toInt_inj.mp (by
  rw [Int32.toInt_ofInt, h]
  exact (ab_bm (t := (n : Int)) (by omega) (by omega)).symm)
theorem bt_or {x y : Int32} {S f : Nat} (hx : x.toInt = (S : Int)) (hS : S < 256) (hy : y.toInt = (f : Int)) (hf : f < 8) : (x ||| (Int32.ofInt 1 <<< (y &&& 31))).toInt = ((stO S f : Nat) : Int) := by
  rw [bt_k hx (by omega), bt_k hy (by omega)]
  exact of_decide_eq_true (bt_r (bt_r bt_t1 hS) hf)
theorem bt_and {x y : Int32} {S f : Nat} (hx : x.toInt = (S : Int)) (hS : S < 256) (hy : y.toInt = (f : Int)) (hf : f < 8) : (x &&& (Int32.ofInt 1 <<< (y &&& 31))).toInt = 0 ↔ stI S f = false := by
  have h := of_decide_eq_true (bt_r (bt_r bt_t2 hS) hf)
  rw [bt_k hx (by omega), bt_k hy (by omega), h]
  cases stI S f with
  | false => exact ⟨fun _ => rfl, fun _ => rfl⟩
  | true =>
    refine ⟨fun q => ?_, fun q => by cases q⟩
    have q : Int.ofNat (2 ^ f) = 0 := q
    have q2 : 2 ^ f = 0 := Int.ofNat.inj q
    exact absurd q2 (Nat.pos_iff_ne_zero.mp (Nat.pow_pos (by decide)))
theorem bt_shr {x y : Int32} {S f : Nat} (hx : x.toInt = (S : Int)) (hS : S < 256) (hy : y.toInt = (f : Int)) (hf : f < 8) : ((x >>> (y &&& 31)) &&& Int32.ofInt 1).toInt = (Int32.ofInt 1).toInt ↔ stI S f = true := by
  have h := of_decide_eq_true (bt_r (bt_r bt_t3 hS) hf)
  rw [bt_k hx (by omega), bt_k hy (by omega), h, show (Int32.ofInt 1).toInt = 1 by decide +kernel]
  cases stI S f with
  | false => exact ⟨fun q => absurd q (by decide), fun q => by cases q⟩
  | true => exact ⟨fun _ => rfl, fun _ => rfl⟩
theorem bt_one {y : Int32} {f : Nat} (hy : y.toInt = (f : Int)) (hf : f < 9) : (Int32.ofInt 1 <<< (y &&& 31)).toInt = ((2 ^ f : Nat) : Int) := by
  rw [bt_k hy (by omega)]
  exact of_decide_eq_true (bt_r bt_t4 hf)
theorem bt_or0 {x : Int32} {S : Nat} (hx : x.toInt = (S : Int)) (hS : S < 256) : (x ||| Int32.ofInt 0).toInt = (S : Int) := by
  rw [bt_k hx (by omega)]
  exact of_decide_eq_true (bt_r bt_t6 hS)
theorem stO_lt {F S f : Nat} (hF : F ≤ 8) (hS : S < 2 ^ F) (hf : f < F) : stO S f < 2 ^ F := by
  have h := bt_r (bt_r (bt_r bt_t5 (i := F) (by omega)) hS) hf
  exact Nat.le_of_ble_eq_true h
theorem p2_le {F : Nat} (hF : F ≤ 8) : 1 ≤ 2 ^ F ∧ 2 ^ F ≤ 256 := by
  refine ⟨Nat.pow_pos (by decide), ?_⟩
  rcases (show F = 0 ∨ F = 1 ∨ F = 2 ∨ F = 3 ∨ F = 4 ∨ F = 5 ∨ F = 6 ∨ F = 7 ∨ F = 8 by omega) with rfl | rfl | rfl | rfl | rfl | rfl | rfl | rfl | rfl <;> decide
/-- unlike digits, r of them -/
def ulR : Nat → Int32 → Int32 → Int
  | 0, _, _ => 0
  | r + 1, a, b => (if (a - a / (Int32.ofInt 10) * (Int32.ofInt 10)).toInt = (b - b / (Int32.ofInt 10) * (Int32.ofInt 10)).toInt then 0 else 1) + ulR r (a / (Int32.ofInt 10)) (b / (Int32.ofInt 10))
theorem ulR_b : ∀ (r : Nat) (a b : Int32), 0 ≤ ulR r a b ∧ ulR r a b ≤ r
  | 0, _, _ => ⟨Int.le_refl _, Int.le_refl _⟩
  | r + 1, a, b => by
    have := ulR_b r (a / (Int32.ofInt 10)) (b / (Int32.ofInt 10))
    rw [ulR]
    split <;> omega
def nz8 (g : Nat → Int32) (i : Nat) : Int32 := if i < 8 then g i else Int32.ofInt 0
theorem nz8_in {g : Nat → Int32} {i : Nat} (h : i < 8) : nz8 g i = g i := if_pos h
theorem nz8_E {f g : Nat → Int32} (h : ∀ i : Nat, i < 8 → f i = g i) : nz8 f = nz8 g := by
  funext i
  unfold nz8
  by_cases q : i < 8
  · rw [if_pos q, if_pos q, h i q]
  · rw [if_neg q, if_neg q]
def uN (lm fm : Nat → Int32) (k f : Nat) : Int := ulR 5 (nz8 lm k) (nz8 fm f)
theorem uN_b {lm fm : Nat → Int32} (k f : Nat) : 0 ≤ uN lm fm k f ∧ uN lm fm k f ≤ 5 := ulR_b 5 _ _
/-- the most worth of one lost and all behind, f found ones weighed -/
def jF (c : Int) (u : Nat → Int) (nx : Nat → Int) (S : Nat) : Nat → Int
  | 0 => nx S
  | f + 1 => if stI S f = false ∧ u f ≤ 2 ∧ jF c u nx S f < c - u f + nx (stO S f) then c - u f + nx (stO S f) else jF c u nx S f
def jW (c : Int) (u : Nat → Nat → Int) (F L : Nat) : Nat → Nat → Int
  | 0, _ => 0
  | r + 1, S => jF c (u (L - (r + 1))) (jW c u F L r) S F
theorem jF_b {c B : Int} {u nx : Nat → Int} (hc : 2 ≤ c ∧ c ≤ 100) (hu : ∀ f, 0 ≤ u f) (h : ∀ S, 0 ≤ nx S ∧ nx S ≤ B) (S : Nat) : ∀ f : Nat, 0 ≤ jF c u nx S f ∧ jF c u nx S f ≤ B + 100
  | 0 => by have := h S; rw [jF]; omega
  | f + 1 => by
    have h1 := jF_b hc hu h S f
    have h2 := h (stO S f)
    have h3 := hu f
    rw [jF]
    split
    · rename_i q; obtain ⟨-, q2, -⟩ := q; omega
    · exact h1
theorem jW_b {c : Int} {u : Nat → Nat → Int} {F L : Nat} (hc : 2 ≤ c ∧ c ≤ 100) (hu : ∀ k f, 0 ≤ u k f) : ∀ (r S : Nat), 0 ≤ jW c u F L r S ∧ jW c u F L r S ≤ 100 * (r : Int)
  | 0, S => ⟨Int.le_refl _, Int.le_refl _⟩
  | r + 1, S => by
    have := jF_b (B := 100 * (r : Int)) hc (u := u (L - (r + 1))) (nx := jW c u F L r) (fun f => hu (L - (r + 1)) f) (fun S => jW_b hc hu r S) S F
    rw [jW]
    omega
theorem jF_nx {c : Int} {u nx nx' : Nat → Int} {F : Nat} (hF : F ≤ 8) (h : ∀ S, S < 2 ^ F → nx S = nx' S) {S : Nat} (hS : S < 2 ^ F) : ∀ f : Nat, f ≤ F → jF c u nx S f = jF c u nx' S f
  | 0, _ => h S hS
  | f + 1, hf => by rw [jF, jF, jF_nx hF h hS f (by omega), h _ (stO_lt hF hS (by omega))]
/-- the same choice by two worths -/
def jR (r x y : Int) : Prop := ∃ n w : Int, 0 ≤ w ∧ w ≤ 2 * n ∧ n ≤ r ∧ x = 64 * n - w ∧ y = 100 * n - w
theorem jR_lt {r x y x' y' : Int} (hr : r ≤ 8) (h : jR r x y) (h' : jR r x' y') : x < x' ↔ y < y' := by
  obtain ⟨n, w, a1, a2, a3, rfl, rfl⟩ := h
  obtain ⟨n', w', b1, b2, b3, rfl, rfl⟩ := h'
  constructor <;> intro q <;> omega
theorem jR_eq {r x y x' y' : Int} (hr : r ≤ 8) (h : jR r x y) (h' : jR r x' y') : x = x' ↔ y = y' := by
  obtain ⟨n, w, a1, a2, a3, rfl, rfl⟩ := h
  obtain ⟨n', w', b1, b2, b3, rfl, rfl⟩ := h'
  constructor <;> intro q <;> omega
theorem jR_add {r x y u : Int} (h : jR r x y) (h0 : 0 ≤ u) (h2 : u ≤ 2) : jR (r + 1) (64 - u + x) (100 - u + y) := by
  obtain ⟨n, w, a1, a2, a3, rfl, rfl⟩ := h
  exact ⟨n + 1, w + u, by omega, by omega, by omega, by omega, by omega⟩
theorem jR_up {r x y : Int} (h : jR r x y) : jR (r + 1) x y := by
  obtain ⟨n, w, a1, a2, a3, a4, a5⟩ := h
  exact ⟨n, w, a1, a2, by omega, a4, a5⟩
theorem jF_R {r : Int} {u nx nx' : Nat → Int} (hr : r + 1 ≤ 8) (hu : ∀ f, 0 ≤ u f) (h : ∀ S, jR r (nx S) (nx' S)) (S : Nat) : ∀ f : Nat, jR (r + 1) (jF 64 u nx S f) (jF 100 u nx' S f)
  | 0 => jR_up (h S)
  | f + 1 => by
    have h1 := jF_R hr hu h S f
    rw [jF, jF]
    by_cases q : stI S f = false ∧ u f ≤ 2
    · have h2 := jR_add (h (stO S f)) (hu f) q.2
      have h3 := jR_lt hr h1 h2
      by_cases q2 : jF 64 u nx S f < 64 - u f + nx (stO S f)
      · rw [if_pos ⟨q.1, q.2, q2⟩, if_pos ⟨q.1, q.2, h3.mp q2⟩]; exact h2
      · rw [if_neg (fun z => q2 z.2.2), if_neg (fun z => q2 (h3.mpr z.2.2))]; exact h1
    · rw [if_neg (fun z => q ⟨z.1, z.2.1⟩), if_neg (fun z => q ⟨z.1, z.2.1⟩)]; exact h1
theorem jW_R {u : Nat → Nat → Int} {F L : Nat} (hu : ∀ k f, 0 ≤ u k f) : ∀ (r : Nat), r ≤ 8 → ∀ S, jR (r : Int) (jW 64 u F L r S) (jW 100 u F L r S)
  | 0, _, S => ⟨0, 0, by omega, by omega, by omega, rfl, rfl⟩
  | r + 1, hr, S => by
    have := jF_R (r := (r : Int)) (u := u (L - (r + 1))) (nx := jW 64 u F L r) (nx' := jW 100 u F L r) (by omega) (fun f => hu (L - (r + 1)) f) (fun S => jW_R hu r (by omega) S) S F
    rw [jW, jW]
    exact this
/-- the first of r from j on -/
def jl (ok : Nat → Bool) : Nat → Nat → Nat
  | j, 0 => j
  | j, r + 1 => bif ok j then j else jl ok (j + 1) r
theorem jl_le {ok : Nat → Bool} : ∀ (r j : Nat), j ≤ jl ok j r ∧ jl ok j r ≤ j + r
  | 0, j => ⟨Nat.le_refl _, Nat.le_refl _⟩
  | r + 1, j => by
    have := jl_le (ok := ok) r (j + 1)
    rw [jl]
    cases ok j with
    | true => exact ⟨Nat.le_refl _, Nat.le_add_right _ _⟩
    | false => show j ≤ jl ok (j + 1) r ∧ jl ok (j + 1) r ≤ j + (r + 1); omega
theorem jl_E {ok ok' : Nat → Bool} : ∀ (r j : Nat), (∀ x, j ≤ x → x < j + r → ok x = ok' x) → jl ok j r = jl ok' j r
  | 0, j, _ => rfl
  | r + 1, j, h => by rw [jl, jl, h j (Nat.le_refl _) (by omega), jl_E r (j + 1) (fun x a b => h x (by omega) (by omega))]
def jok (c : Int) (u nx : Nat → Int) (v : Int) (S j : Nat) : Bool := !stI S j && (decide (u j ≤ 2) && decide (c - u j + nx (stO S j) = v))
theorem jok_t {c v : Int} {u nx : Nat → Int} {S j : Nat} : jok c u nx v S j = true ↔ stI S j = false ∧ u j ≤ 2 ∧ c - u j + nx (stO S j) = v := by
  unfold jok
  rw [Bool.and_eq_true, Bool.and_eq_true, decide_eq_true_iff, decide_eq_true_iff, Bool.not_eq_true']
theorem jok_f {c v : Int} {u nx : Nat → Int} {S j : Nat} : jok c u nx v S j = false ↔ ¬ (stI S j = false ∧ u j ≤ 2 ∧ c - u j + nx (stO S j) = v) := by
  cases h : jok c u nx v S j with
  | true => exact ⟨fun q => (by cases q), fun q => absurd (jok_t.mp h) q⟩
  | false => exact ⟨fun _ z => (by rw [jok_t.mpr z] at h; cases h), fun _ => rfl⟩
/-- to whom one lost is joined (F: to none) -/
def jJ (c : Int) (u : Nat → Nat → Int) (F L k S : Nat) : Nat := jl (jok c (u k) (jW c u F L (L - (k + 1))) (jW c u F L (L - k) S) S) 0 F
theorem jJ_le {c : Int} {u : Nat → Nat → Int} {F L k S : Nat} : jJ c u F L k S ≤ F := by
  have := (jl_le (ok := jok c (u k) (jW c u F L (L - (k + 1))) (jW c u F L (L - k) S) S) F 0).2
  unfold jJ
  omega
def jT (c : Int) (u : Nat → Nat → Int) (F L : Nat) : Nat → Nat
  | 0 => 0
  | k + 1 => if jJ c u F L k (jT c u F L k) < F then stO (jT c u F L k) (jJ c u F L k (jT c u F L k)) else jT c u F L k
def jA (c : Int) (u : Nat → Nat → Int) (F L k : Nat) : Int := if jJ c u F L k (jT c u F L k) < F then ((jJ c u F L k (jT c u F L k) : Nat) : Int) else -9
def jN (c : Int) (u : Nat → Nat → Int) (F L : Nat) : Nat → Int
  | 0 => 0
  | k + 1 => jN c u F L k + (if jJ c u F L k (jT c u F L k) < F then 1 else 0)
def jM (c : Int) (u : Nat → Nat → Int) (F L : Nat) : Nat → Int
  | 0 => 0
  | k + 1 => jM c u F L k + (if jJ c u F L k (jT c u F L k) < F then u k (jJ c u F L k (jT c u F L k)) else 0)
theorem jT_lt {c : Int} {u : Nat → Nat → Int} {F L : Nat} (hF : F ≤ 8) : ∀ k : Nat, jT c u F L k < 2 ^ F
  | 0 => by rw [jT]; exact Nat.pow_pos (by decide)
  | k + 1 => by
    have h := jT_lt (c := c) (u := u) (L := L) hF k
    rw [jT]
    split
    · rename_i q; exact stO_lt hF h q
    · exact h
theorem jJ_E {u : Nat → Nat → Int} {F L k S : Nat} (hu : ∀ k f, 0 ≤ u k f) (hL : L ≤ 8) (hk : k < L) : jJ 64 u F L k S = jJ 100 u F L k S := by
  unfold jJ
  refine jl_E F 0 (fun x _ _ => ?_)
  have h1 := jW_R (F := F) (L := L) hu (L - k) (by omega) S
  have h2 := jW_R (F := F) (L := L) hu (L - (k + 1)) (by omega) (stO S x)
  have e1 : ((L - k : Nat) : Int) = ((L - (k + 1) : Nat) : Int) + 1 := by omega
  rw [e1] at h1
  have h8 : ((L - (k + 1) : Nat) : Int) + 1 ≤ 8 := by omega
  by_cases q : u k x ≤ 2
  · have h3 := jR_eq h8 (jR_add h2 (hu k x) q) h1
    cases ha : jok 64 (u k) (jW 64 u F L (L - (k + 1))) (jW 64 u F L (L - k) S) S x with
    | true =>
      obtain ⟨a, b, c⟩ := jok_t.mp ha
      exact (jok_t.mpr ⟨a, b, h3.mp c⟩).symm
    | false =>
      refine (jok_f.mpr fun z => jok_f.mp ha ⟨z.1, z.2.1, h3.mpr z.2.2⟩).symm
  · rw [jok_f.mpr (fun z => q z.2.1), jok_f.mpr (fun z => q z.2.1)]
theorem jT_E {u : Nat → Nat → Int} {F L : Nat} (hu : ∀ k f, 0 ≤ u k f) (hL : L ≤ 8) : ∀ k : Nat, k ≤ L → jT 64 u F L k = jT 100 u F L k
  | 0, _ => rfl
  | k + 1, hk => by rw [jT, jT, jT_E hu hL k (by omega), jJ_E hu hL (by omega)]
theorem jA_E {u : Nat → Nat → Int} {F L k : Nat} (hu : ∀ k f, 0 ≤ u k f) (hL : L ≤ 8) (hk : k < L) : jA 64 u F L k = jA 100 u F L k := by
  unfold jA
  rw [jT_E hu hL k (by omega), jJ_E hu hL hk]
theorem jN_E {u : Nat → Nat → Int} {F L : Nat} (hu : ∀ k f, 0 ≤ u k f) (hL : L ≤ 8) : ∀ k : Nat, k ≤ L → jN 64 u F L k = jN 100 u F L k
  | 0, _ => rfl
  | k + 1, hk => by rw [jN, jN, jN_E hu hL k (by omega), jT_E hu hL k (by omega), jJ_E hu hL (by omega)]
theorem jM_E {u : Nat → Nat → Int} {F L : Nat} (hu : ∀ k f, 0 ≤ u k f) (hL : L ≤ 8) : ∀ k : Nat, k ≤ L → jM 64 u F L k = jM 100 u F L k
  | 0, _ => rfl
  | k + 1, hk => by rw [jM, jM, jM_E hu hL k (by omega), jT_E hu hL k (by omega), jJ_E hu hL (by omega)]
theorem jN_b {c : Int} {u : Nat → Nat → Int} {F L : Nat} : ∀ k : Nat, 0 ≤ jN c u F L k ∧ jN c u F L k ≤ (k : Int)
  | 0 => ⟨Int.le_refl _, Int.le_refl _⟩
  | k + 1 => by
    have := jN_b (c := c) (u := u) (F := F) (L := L) k
    rw [jN]
    split <;> omega
theorem jM_b {c : Int} {u : Nat → Nat → Int} {F L : Nat} (hu : ∀ k f, 0 ≤ u k f ∧ u k f ≤ 5) : ∀ k : Nat, 0 ≤ jM c u F L k ∧ jM c u F L k ≤ 5 * (k : Int)
  | 0 => ⟨Int.le_refl _, Int.le_refl _⟩
  | k + 1 => by
    have := jM_b (c := c) (F := F) (L := L) hu k
    have h2 := hu k (jJ c u F L k (jT c u F L k))
    rw [jM]
    split <;> omega
theorem jA_b {c : Int} {u : Nat → Nat → Int} {F L k : Nat} (hF : F ≤ 8) : jA c u F L k = -9 ∨ (0 ≤ jA c u F L k ∧ jA c u F L k ≤ 7) := by
  unfold jA
  split
  · right; omega
  · left; rfl
/-- the joins are as told -/
def JR (lm fm : Nat → Int32) (LN FN : Nat) (fb : Nat → Int32) (jc us : Int32) : Prop := jc.toInt = jN 64 (uN lm fm) FN LN LN ∧ us.toInt = jM 64 (uN lm fm) FN LN LN ∧ ∀ x : Nat, x < LN → (fb x).toInt = jA 64 (uN lm fm) FN LN x
def FB (fb : Nat → Int32) : Prop := ∀ x : Nat, x < 8 → (fb x).toInt = -9 ∨ (0 ≤ (fb x).toInt ∧ (fb x).toInt ≤ 7)
/-- that two are sure -/
def suP (u : Nat → Nat → Int) (F L k j : Nat) : Prop := (∀ x : Nat, x < F → ¬ x = j → u k j < u k x) ∧ ∀ x : Nat, x < L → ¬ x = k → u k j < u x j
end
