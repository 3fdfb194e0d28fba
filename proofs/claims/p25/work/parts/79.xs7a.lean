noncomputable section
/-- the places that the boat reaches from b, and the rows of m places -/
def plc (b : Nat) : List Nat := List.range' (b - 3) (min 31 (b + 3) + 1 - (b - 3))
def rowsL : Nat → Nat → List (List Nat)
  | 0, _ => [[]]
  | m + 1, b => (plc b).flatMap (fun pl => (rowsL m pl).map (fun R => pl :: R))
def lkN (f : Nat → Int64) (pl : Nat) (q : Int32) (x : Nat) : Int64 := f x * (if x = pl then (Int32.ofInt 8 - q).toInt64 else (Int32.ofInt 8).toInt64)
theorem lkF_N {f : Nat → Int64} {p q : Int32} {pl : Nat} (h : p.toInt = (pl : Int)) (x : Nat) : lkF f p q x = lkN f pl q x := by
  unfold lkF lkN
  by_cases e : x = pl
  · rw [if_pos (by omega), if_pos e]
  · rw [if_neg (by omega), if_neg e]
/-- a look at a place and a minute's drift -/
def nxP (dl ds dr q : Int32) (f : Nat → Int64) (pl : Nat) : Nat → Int64 := drF (lkN f pl q) dl ds dr
theorem nxP_E {dl ds dr q : Int32} {f g : Nat → Int64} {pl : Nat} (h : ∀ x : Nat, x < 32 → f x = g x) {x : Nat} (hx : x < 32) : nxP dl ds dr q f pl x = nxP dl ds dr q g pl x := by
  unfold nxP
  refine drF_E (fun y hy => ?_) hx
  unfold lkN
  rw [h y hy]
def dgt (m k j : Nat) : Nat := k / 7 ^ (m - 1 - j) % 7
def atA (m b k : Nat) : Nat → Int
  | 0 => b
  | j + 1 => atA m b k j + dgt m k j - 3
def okA (m b k : Nat) : Bool := (List.range m).all (fun j => decide (0 ≤ atA m b k (j + 1)) && decide (atA m b k (j + 1) ≤ 31))
def decR (m b k : Nat) : Option (List Nat) := bif okA m b k then some ((List.range m).map (fun j => (atA m b k (j + 1)).toNat)) else none
theorem dec_rows : ((List.range 32).all (fun b => [1, 2, 3].all (fun m => decide ((List.range (7 ^ m)).filterMap (decR m b) = rowsL m b)))) = true := by decide +kernel
theorem rows_ok : ((List.range 32).all (fun b => [1, 2, 3].all (fun m => (rowsL m b).all (fun R => Nat.beq R.length m && R.all (fun v => Nat.ble v 31)) && !(rowsL m b).isEmpty))) = true := by decide +kernel
theorem dec_rowsE {m b : Nat} (hm : m = 1 ∨ m = 2 ∨ m = 3) (hb : b < 32) : (List.range (7 ^ m)).filterMap (decR m b) = rowsL m b := by
  have h1 := List.all_eq_true.mp (List.all_eq_true.mp dec_rows b (List.mem_range.mpr hb)) m (by rcases hm with rfl | rfl | rfl <;> decide)
  exact of_decide_eq_true h1
theorem rows_okE {m b : Nat} (hm : m = 1 ∨ m = 2 ∨ m = 3) (hb : b < 32) : (∀ R ∈ rowsL m b, R.length = m ∧ ∀ v ∈ R, v < 32) ∧ ∃ R Rs, rowsL m b = R :: Rs := by
  have h1 := List.all_eq_true.mp (List.all_eq_true.mp rows_ok b (List.mem_range.mpr hb)) m (by rcases hm with rfl | rfl | rfl <;> decide)
  rw [Bool.and_eq_true] at h1
  refine ⟨fun R hR => ?_, ?_⟩
  · have h2 := List.all_eq_true.mp h1.1 R hR
    rw [Bool.and_eq_true] at h2
    refine ⟨Nat.eq_of_beq_eq_true h2.1, fun v hv => ?_⟩
    have := Nat.le_of_ble_eq_true (List.all_eq_true.mp h2.2 v hv)
    omega
  · cases hr : rowsL m b with
    | nil => rw [hr] at h1; exact absurd h1.2 (by decide)
    | cons R Rs => exact ⟨R, Rs, rfl⟩
/-- the reference's choice -/
def stR (V : List Nat → Int64) (acc : Int64 × List Nat) (R : List Nat) : Int64 × List Nat := if 0 ≤ (V R).toInt ∧ (acc.1.toInt < 0 ∨ (V R).toInt < acc.1.toInt) then (V R, R) else acc
def stM (m b : Nat) (V : List Nat → Int64) (acc : Int64 × List Nat) (k : Nat) : Int64 × List Nat := match decR m b k with
  | none => acc
  | some R => stR V acc R
theorem stM_rows {m b : Nat} {V : List Nat → Int64} : ∀ (l : List Nat) (acc : Int64 × List Nat), l.foldl (stM m b V) acc = (l.filterMap (decR m b)).foldl (stR V) acc
  | [], _ => rfl
  | k :: l, acc => by
    rw [List.foldl_cons, List.filterMap_cons]
    unfold stM
    cases h : decR m b k with
    | none => exact stM_rows l acc
    | some R => exact stM_rows l (stR V acc R)
/-- the class's choice -/
def stX (acc : Int64 × List Nat) (v : Int64) (R : List Nat) : Int64 × List Nat := if acc.1.toInt < v.toInt then (v, R) else acc
def tP (dl ds dr q : Int32) : Nat → Nat → (Nat → Int64) → Int64 → List Nat → Int64 × List Nat → Int64 × List Nat
  | 0, _, _, fnd, pre, acc => stX acc fnd pre
  | m + 1, b, f, fnd, pre, acc => (plc b).foldl (fun acc pl => tP dl ds dr q m pl (nxP dl ds dr q f pl) (fnd * Int64.ofInt 32 + q.toInt64 * f pl) (pre ++ [pl]) acc) acc
def vF (dl ds dr q : Int32) : (Nat → Int64) → Int64 → List Nat → Int64
  | _, fnd, [] => fnd
  | f, fnd, pl :: R => vF dl ds dr q (nxP dl ds dr q f pl) (fnd * Int64.ofInt 32 + q.toInt64 * f pl) R
theorem plc_lt {b v : Nat} (h : v ∈ plc b) : v < 32 := by
  unfold plc at h
  rw [List.mem_range'_1] at h
  omega
theorem tP_E {dl ds dr q : Int32} : ∀ (m b : Nat) (f g : Nat → Int64) (fnd : Int64) (pre : List Nat) (acc : Int64 × List Nat), (∀ x : Nat, x < 32 → f x = g x) → tP dl ds dr q m b f fnd pre acc = tP dl ds dr q m b g fnd pre acc
  | 0, _, _, _, _, _, _, _ => rfl
  | m + 1, b, f, g, fnd, pre, acc, h => by
    rw [tP, tP]
    have key : ∀ (l : List Nat) (acc : Int64 × List Nat), (∀ v ∈ l, v < 32) → l.foldl (fun acc pl => tP dl ds dr q m pl (nxP dl ds dr q f pl) (fnd * Int64.ofInt 32 + q.toInt64 * f pl) (pre ++ [pl]) acc) acc = l.foldl (fun acc pl => tP dl ds dr q m pl (nxP dl ds dr q g pl) (fnd * Int64.ofInt 32 + q.toInt64 * g pl) (pre ++ [pl]) acc) acc := by
      intro l
      induction l with
      | nil => intro acc _; rfl
      | cons v l ih =>
        intro acc hl
        rw [List.foldl_cons, List.foldl_cons, h v (hl v List.mem_cons_self), tP_E m v _ (nxP dl ds dr q g v) _ _ _ (fun x hx => nxP_E h hx)]
        exact ih _ (fun w hw => hl w (List.mem_cons_of_mem _ hw))
    exact key _ _ (fun v hv => plc_lt hv)
theorem tP_rows {dl ds dr q : Int32} : ∀ (m b : Nat) (f : Nat → Int64) (fnd : Int64) (pre : List Nat) (acc : Int64 × List Nat), tP dl ds dr q m b f fnd pre acc = (rowsL m b).foldl (fun acc R => stX acc (vF dl ds dr q f fnd R) (pre ++ R)) acc
  | 0, b, f, fnd, pre, acc => by
    show stX acc fnd pre = stX acc fnd (pre ++ [])
    rw [List.append_nil]
  | m + 1, b, f, fnd, pre, acc => by
    rw [tP, rowsL]
    have key : ∀ (l : List Nat) (acc : Int64 × List Nat), l.foldl (fun acc pl => tP dl ds dr q m pl (nxP dl ds dr q f pl) (fnd * Int64.ofInt 32 + q.toInt64 * f pl) (pre ++ [pl]) acc) acc = (l.flatMap (fun pl => (rowsL m pl).map (fun R => pl :: R))).foldl (fun acc R => stX acc (vF dl ds dr q f fnd R) (pre ++ R)) acc := by
      intro l
      induction l with
      | nil => intro acc; rfl
      | cons v l ih =>
        intro acc
        rw [List.foldl_cons, List.flatMap_cons, List.foldl_append, List.foldl_map, tP_rows m v, ih]
        have e1 : ∀ (k : List (List Nat)) (acc : Int64 × List Nat), k.foldl (fun acc R => stX acc (vF dl ds dr q (nxP dl ds dr q f v) (fnd * Int64.ofInt 32 + q.toInt64 * f v) R) (pre ++ [v] ++ R)) acc = k.foldl (fun acc R => stX acc (vF dl ds dr q f fnd (v :: R)) (pre ++ v :: R)) acc := by
          intro k
          induction k with
          | nil => intro acc; rfl
          | cons R k ih2 =>
            intro acc
            rw [List.foldl_cons, List.foldl_cons, ih2, List.append_assoc]
            rfl
        rw [e1]
    exact key _ _
/-- sums as numbers -/
def TI (h : Nat → Int) : Nat → Int
  | 0 => 0
  | k + 1 => TI h k + h k
theorem TI_E {h g : Nat → Int} : ∀ k : Nat, (∀ x : Nat, x < k → h x = g x) → TI h k = TI g k
  | 0, _ => rfl
  | k + 1, e => by rw [TI, TI, TI_E k (fun x hx => e x (by omega)), e k (by omega)]
theorem TI_nn {h : Nat → Int} : ∀ k : Nat, (∀ x : Nat, x < k → 0 ≤ h x) → 0 ≤ TI h k
  | 0, _ => Int.le_refl _
  | k + 1, e => by
    rw [TI]
    have := TI_nn k (fun x hx => e x (by omega))
    have := e k (by omega)
    omega
theorem TI_le {h : Nat → Int} : ∀ k : Nat, (∀ x : Nat, x < k → 0 ≤ h x) → ∀ x : Nat, x < k → h x ≤ TI h k
  | 0, _, x, hx => by omega
  | k + 1, e, x, hx => by
    rw [TI]
    have h1 := TI_nn k (fun x hx => e x (by omega))
    have h2 := e k (by omega)
    by_cases q : x = k
    · subst q; omega
    · have := TI_le k (fun x hx => e x (by omega)) x (by omega)
      omega
theorem TI_add {h g : Nat → Int} : ∀ k : Nat, TI (fun x => h x + g x) k = TI h k + TI g k
  | 0 => rfl
  | k + 1 => by rw [TI, TI, TI, TI_add k]; omega
theorem TI_add3 {a b c : Nat → Int} (k : Nat) : TI (fun x => a x + b x + c x) k = TI a k + TI b k + TI c k := by
  have q1 : TI (fun x => a x + b x + c x) k = TI (fun x => a x + b x) k + TI c k := TI_add (h := fun x => a x + b x) (g := c) k
  have q2 : TI (fun x => a x + b x) k = TI a k + TI b k := TI_add (h := a) (g := b) k
  omega
theorem TI_mul {h : Nat → Int} {c : Int} : ∀ k : Nat, TI (fun x => c * h x) k = c * TI h k
  | 0 => by rw [TI, TI, Int.mul_zero]
  | k + 1 => by rw [TI, TI, TI_mul k, Int.mul_add]
theorem TI_sh1 {h : Nat → Int} {c : Int} : ∀ k : Nat, TI (fun x => if 0 < x then h (x - 1) else c) (k + 1) = c + TI h k
  | 0 => by
    show (0 : Int) + (if 0 < 0 then h (0 - 1) else c) = c + 0
    rw [if_neg (by omega)]; omega
  | k + 1 => by
    rw [TI, TI_sh1 k, TI]
    show c + TI h k + (if 0 < k + 1 then h (k + 1 - 1) else c) = _
    rw [if_pos (by omega), show k + 1 - 1 = k by omega]; omega
theorem TI_tl {h : Nat → Int} : ∀ k : Nat, TI (fun x => h (x + 1)) k + h 0 = TI h (k + 1)
  | 0 => by
    show (0 : Int) + h 0 = 0 + h 0
    rfl
  | k + 1 => by
    have e1 := TI_tl (h := h) k
    have e2 : TI (fun x => h (x + 1)) (k + 1) = TI (fun x => h (x + 1)) k + h (k + 1) := rfl
    have e3 : TI h (k + 1 + 1) = TI h (k + 1) + h (k + 1) := rfl
    omega
theorem TI_one {h : Nat → Int} {p : Nat} {c : Int} : ∀ k : Nat, TI (fun x => if x = p then h x - c else h x) k = TI h k - (if p < k then c else 0)
  | 0 => by
    show (0 : Int) = 0 - (if p < 0 then c else 0)
    rw [if_neg (by omega)]; omega
  | k + 1 => by
    rw [TI, TI_one k, TI]
    show TI h k - (if p < k then c else 0) + (if k = p then h k - c else h k) = _
    by_cases q : k = p
    · rw [if_pos q, if_neg (by omega), if_pos (by omega)]; omega
    · rw [if_neg q]
      by_cases q2 : p < k
      · rw [if_pos q2, if_pos (by omega)]; omega
      · rw [if_neg q2, if_neg (by omega)]; omega
def nnF (f : Nat → Int64) : Prop := ∀ x : Nat, x < 32 → 0 ≤ (f x).toInt
def tot (f : Nat → Int64) : Int := TI (fun x => (f x).toInt) 32
theorem sumL_tot {f : Nat → Int64} (hf : nnF f) (hT : tot f ≤ 9223372036854775807) : (sumL f 32).toInt = tot f := by
  have key : ∀ k : Nat, k ≤ 32 → (sumL f k).toInt = TI (fun x => (f x).toInt) k := by
    intro k
    induction k with
    | zero => intro _; rfl
    | succ k ih =>
      intro hk
      have h1 := ih (by omega)
      have h2 : TI (fun x => (f x).toInt) (k + 1) ≤ tot f := by
        have : ∀ m : Nat, k + 1 + m ≤ 32 → TI (fun x => (f x).toInt) (k + 1) ≤ TI (fun x => (f x).toInt) (k + 1 + m) := by
          intro m
          induction m with
          | zero => intro _; exact Int.le_refl _
          | succ m ih2 =>
            intro hm
            have h3 := ih2 (by omega)
            have h4 := hf (k + 1 + m) (by omega)
            have e7 : TI (fun x => (f x).toInt) (k + 1 + m + 1) = TI (fun x => (f x).toInt) (k + 1 + m) + (f (k + 1 + m)).toInt := rfl
            rw [show k + 1 + (m + 1) = k + 1 + m + 1 by omega]
            omega
        have h5 := this (31 - k) (by omega)
        rw [show k + 1 + (31 - k) = 32 by omega] at h5
        exact h5
      have h6 := TI_nn (h := fun x => (f x).toInt) (k + 1) (fun x hx => hf x (by omega))
      rw [sumL]
      rw [TI] at h2 h6 ⊢
      rw [cx_addL (by rw [h1]; omega) (by rw [h1]; omega), h1]
  exact key 32 (Nat.le_refl _)
theorem lkN_I {f : Nat → Int64} {pl : Nat} {q : Int32} (hf : nnF f) (hq : 1 ≤ q.toInt ∧ q.toInt ≤ 8) (hpl : pl < 32) (hT : 8 * tot f ≤ 9223372036854775807) : (∀ x : Nat, x < 32 → (lkN f pl q x).toInt = (if x = pl then 8 * (f x).toInt - q.toInt * (f pl).toInt else 8 * (f x).toInt)) ∧ nnF (lkN f pl q) ∧ tot (lkN f pl q) = 8 * tot f - q.toInt * (f pl).toInt := by
  have k8 : (Int32.ofInt 8).toInt = 8 := by decide +kernel
  have hs : (Int32.ofInt 8 - q).toInt = 8 - q.toInt := by rw [cx_subc (by omega) (by omega), k8]
  have g1 : ∀ x : Nat, x < 32 → (lkN f pl q x).toInt = (if x = pl then 8 * (f x).toInt - q.toInt * (f pl).toInt else 8 * (f x).toInt) ∧ 0 ≤ (lkN f pl q x).toInt := fun x hx => by
    have h1 := hf x hx
    have h2 : (f x).toInt ≤ tot f := TI_le 32 hf x hx
    unfold lkN
    by_cases e : x = pl
    · rw [if_pos e, if_pos e]
      have e1 : (Int32.ofInt 8 - q).toInt64.toInt = 8 - q.toInt := by rw [Int32.toInt_toInt64, hs]
      have h3 : 0 ≤ (f x).toInt * (8 - q.toInt) := Int.mul_nonneg h1 (by omega)
      have h4 : (f x).toInt * (8 - q.toInt) ≤ (f x).toInt * 8 := Int.mul_le_mul_of_nonneg_left (by omega) h1
      rw [cx_mulL (by rw [e1]; omega) (by rw [e1]; omega), e1]
      refine ⟨?_, h3⟩
      rw [Int.mul_sub, ← e, Int.mul_comm (f x).toInt 8, Int.mul_comm (f x).toInt q.toInt]
    · rw [if_neg e, if_neg e]
      have e1 : (Int32.ofInt 8).toInt64.toInt = 8 := by rw [Int32.toInt_toInt64, k8]
      rw [cx_mulL (by rw [e1]; omega) (by rw [e1]; omega), e1]
      omega
  refine ⟨fun x hx => (g1 x hx).1, fun x hx => (g1 x hx).2, ?_⟩
  have e2 : tot (lkN f pl q) = TI (fun x => if x = pl then 8 * (f x).toInt - q.toInt * (f pl).toInt else 8 * (f x).toInt) 32 := TI_E 32 (fun x hx => (g1 x hx).1)
  have e3 : TI (fun x => if x = pl then 8 * (f x).toInt - q.toInt * (f pl).toInt else 8 * (f x).toInt) 32 = TI (fun x => 8 * (f x).toInt) 32 - (if pl < 32 then q.toInt * (f pl).toInt else 0) := TI_one (h := fun x => 8 * (f x).toInt) (p := pl) (c := q.toInt * (f pl).toInt) 32
  have e4 : TI (fun x => 8 * (f x).toInt) 32 = 8 * TI (fun x => (f x).toInt) 32 := TI_mul (h := fun x => (f x).toInt) (c := 8) 32
  rw [e2, e3, e4, if_pos hpl]
  rfl
theorem drF_I {g : Nat → Int64} {dl ds dr : Int32} (hg : nnF g) (hl : 0 ≤ dl.toInt) (hs : 0 ≤ ds.toInt) (hr : 0 ≤ dr.toInt) (h4 : dl.toInt + ds.toInt + dr.toInt = 4) (hT : 12 * tot g ≤ 9223372036854775807) : nnF (drF g dl ds dr) ∧ tot (drF g dl ds dr) = 4 * tot g := by
  have hb : ∀ y : Nat, y < 32 → 0 ≤ (g y).toInt ∧ (g y).toInt ≤ tot g := fun y hy => ⟨hg y hy, TI_le 32 hg y hy⟩
  have pr : ∀ (c : Int32) (y : Nat), 0 ≤ c.toInt ∧ c.toInt ≤ 4 → y < 32 → (c.toInt64 * g y).toInt = c.toInt * (g y).toInt ∧ 0 ≤ c.toInt * (g y).toInt ∧ c.toInt * (g y).toInt ≤ 4 * tot g := fun c y hc hy => by
    have e1 : c.toInt64.toInt = c.toInt := Int32.toInt_toInt64 c
    have h1 : 0 ≤ c.toInt * (g y).toInt := Int.mul_nonneg hc.1 (hb y hy).1
    have h2 : c.toInt * (g y).toInt ≤ 4 * tot g := Int.mul_le_mul hc.2 (hb y hy).2 (hb y hy).1 (by omega)
    exact ⟨by rw [cx_mulL (by rw [e1]; omega) (by rw [e1]; omega), e1], h1, h2⟩
  have pw : ∀ x : Nat, x < 32 → (drF g dl ds dr x).toInt = (if 0 < x then dr.toInt * (g (x - 1)).toInt else dl.toInt * (g 0).toInt) + ds.toInt * (g x).toInt + (if x < 31 then dl.toInt * (g (x + 1)).toInt else dr.toInt * (g 31).toInt) ∧ 0 ≤ (drF g dl ds dr x).toInt := fun x hx => by
    have s3 : ∀ (u v w : Int64) (a b c : Int), u.toInt = a → v.toInt = b → w.toInt = c → (0 ≤ a ∧ a ≤ 4 * tot g) → (0 ≤ b ∧ b ≤ 4 * tot g) → (0 ≤ c ∧ c ≤ 4 * tot g) → (u + v + w).toInt = a + b + c ∧ 0 ≤ (u + v + w).toInt := fun u v w a b c e1 e2 e3 h1 h2 h3 => by
      have e4 : (u + v).toInt = u.toInt + v.toInt := cx_addL (by omega) (by omega)
      rw [cx_addL (by omega) (by omega), e4]
      omega
    have p2 := pr ds x ⟨hs, by omega⟩ hx
    unfold drF
    refine s3 _ _ _ _ _ _ ?_ p2.1 ?_ ?_ p2.2 ?_
    · split
      · exact (pr dr (x - 1) ⟨hr, by omega⟩ (by omega)).1
      · have e0 : x = 0 := by omega
        rw [e0]; exact (pr dl 0 ⟨hl, by omega⟩ (by omega)).1
    · split
      · exact (pr dl (x + 1) ⟨hl, by omega⟩ (by omega)).1
      · have e0 : x = 31 := by omega
        rw [e0]; exact (pr dr 31 ⟨hr, by omega⟩ (by omega)).1
    · split
      · exact (pr dr (x - 1) ⟨hr, by omega⟩ (by omega)).2
      · exact (pr dl 0 ⟨hl, by omega⟩ (by omega)).2
    · split
      · exact (pr dl (x + 1) ⟨hl, by omega⟩ (by omega)).2
      · exact (pr dr 31 ⟨hr, by omega⟩ (by omega)).2
  refine ⟨fun x hx => (pw x hx).2, ?_⟩
  have e1 : tot (drF g dl ds dr) = TI (fun x => (if 0 < x then dr.toInt * (g (x - 1)).toInt else dl.toInt * (g 0).toInt) + ds.toInt * (g x).toInt + (if x < 31 then dl.toInt * (g (x + 1)).toInt else dr.toInt * (g 31).toInt)) 32 := TI_E 32 (fun x hx => (pw x hx).1)
  have e9 : TI (fun x => (if 0 < x then dr.toInt * (g (x - 1)).toInt else dl.toInt * (g 0).toInt) + ds.toInt * (g x).toInt + (if x < 31 then dl.toInt * (g (x + 1)).toInt else dr.toInt * (g 31).toInt)) 32 = TI (fun x => if 0 < x then dr.toInt * (g (x - 1)).toInt else dl.toInt * (g 0).toInt) 32 + TI (fun x => ds.toInt * (g x).toInt) 32 + TI (fun x => if x < 31 then dl.toInt * (g (x + 1)).toInt else dr.toInt * (g 31).toInt) 32 := TI_add3 (a := fun x => if 0 < x then dr.toInt * (g (x - 1)).toInt else dl.toInt * (g 0).toInt) (b := fun x => ds.toInt * (g x).toInt) (c := fun x => if x < 31 then dl.toInt * (g (x + 1)).toInt else dr.toInt * (g 31).toInt) 32
  have s1 : TI (fun x => if 0 < x then dr.toInt * (g (x - 1)).toInt else dl.toInt * (g 0).toInt) 32 = dl.toInt * (g 0).toInt + TI (fun y => dr.toInt * (g y).toInt) 31 := TI_sh1 (h := fun y => dr.toInt * (g y).toInt) (c := dl.toInt * (g 0).toInt) 31
  have s2 : TI (fun y => dr.toInt * (g y).toInt) 31 = dr.toInt * TI (fun y => (g y).toInt) 31 := TI_mul (h := fun y => (g y).toInt) (c := dr.toInt) 31
  have s3 : TI (fun x => ds.toInt * (g x).toInt) 32 = ds.toInt * tot g := TI_mul (h := fun y => (g y).toInt) (c := ds.toInt) 32
  have s4 : TI (fun x => if x < 31 then dl.toInt * (g (x + 1)).toInt else dr.toInt * (g 31).toInt) 32 = TI (fun x => if x < 31 then dl.toInt * (g (x + 1)).toInt else dr.toInt * (g 31).toInt) 31 + (if 31 < 31 then dl.toInt * (g (31 + 1)).toInt else dr.toInt * (g 31).toInt) := rfl
  have s5 : TI (fun x => if x < 31 then dl.toInt * (g (x + 1)).toInt else dr.toInt * (g 31).toInt) 31 = TI (fun x => dl.toInt * (g (x + 1)).toInt) 31 := TI_E 31 (fun x hx => if_pos hx)
  have s6 : TI (fun x => dl.toInt * (g (x + 1)).toInt) 31 = dl.toInt * TI (fun x => (g (x + 1)).toInt) 31 := TI_mul (h := fun x => (g (x + 1)).toInt) (c := dl.toInt) 31
  have s7 : TI (fun x => (g (x + 1)).toInt) 31 + (g 0).toInt = tot g := TI_tl (h := fun x => (g x).toInt) 31
  have s8 : tot g = TI (fun x => (g x).toInt) 31 + (g 31).toInt := rfl
  have t1 : TI (fun x => (g (x + 1)).toInt) 31 = tot g - (g 0).toInt := by omega
  have t2 : TI (fun y => (g y).toInt) 31 = tot g - (g 31).toInt := by omega
  have e8 : dl.toInt * tot g + ds.toInt * tot g + dr.toInt * tot g = 4 * tot g := by rw [← Int.add_mul, ← Int.add_mul, h4]
  rw [t1, Int.mul_sub] at s6
  rw [t2, Int.mul_sub] at s2
  rw [if_neg (by omega)] at s4
  omega
/-- what is found and what is left make the whole -/
theorem vF_I {dl ds dr q : Int32} (hl : 0 ≤ dl.toInt) (hs : 0 ≤ ds.toInt) (hr : 0 ≤ dr.toInt) (h4 : dl.toInt + ds.toInt + dr.toInt = 4) (hq : 1 ≤ q.toInt ∧ q.toInt ≤ 8) : ∀ (R : List Nat) (f : Nat → Int64) (fnd : Int64), (∀ v ∈ R, v < 32) → nnF f → 0 ≤ fnd.toInt → 4 * ((4 * fnd.toInt + tot f) * 32 ^ R.length) ≤ 9223372036854775807 →
    nnF (R.foldl (nxP dl ds dr q) f) ∧ 0 ≤ (vF dl ds dr q f fnd R).toInt ∧ 4 * (vF dl ds dr q f fnd R).toInt + tot (R.foldl (nxP dl ds dr q) f) = (4 * fnd.toInt + tot f) * 32 ^ R.length
  | [], f, fnd, _, hf, hfn, _ => ⟨hf, hfn, by show 4 * fnd.toInt + tot f = (4 * fnd.toInt + tot f) * 32 ^ 0; rw [Int.pow_zero, Int.mul_one]⟩
  | pl :: R, f, fnd, hR, hf, hfn, hS => by
    have hT0 : 0 ≤ tot f := TI_nn 32 hf
    have hpow : (1 : Int) ≤ 32 ^ R.length := by
      have : ∀ n : Nat, (1 : Int) ≤ 32 ^ n := by
        intro n
        induction n with
        | zero => exact Int.le_refl _
        | succ n ih => rw [Int.pow_succ]; omega
      exact this _
    have hl1 : (pl :: R).length = R.length + 1 := rfl
    have e0 : (4 * fnd.toInt + tot f) * 32 ^ (pl :: R).length = 32 * (4 * fnd.toInt + tot f) * 32 ^ R.length := by
      rw [hl1, Int.pow_succ, Int.mul_comm (32 ^ R.length) 32, ← Int.mul_assoc, Int.mul_comm (4 * fnd.toInt + tot f) 32]
    have hS2 : 4 * (32 * (4 * fnd.toInt + tot f)) ≤ 9223372036854775807 := by
      have h1 : 32 * (4 * fnd.toInt + tot f) * 1 ≤ 32 * (4 * fnd.toInt + tot f) * 32 ^ R.length := Int.mul_le_mul_of_nonneg_left hpow (by omega)
      rw [Int.mul_one] at h1
      rw [e0] at hS
      omega
    have hpl : pl < 32 := hR pl List.mem_cons_self
    have hfp : 0 ≤ (f pl).toInt ∧ (f pl).toInt ≤ tot f := ⟨hf pl hpl, TI_le 32 hf pl hpl⟩
    obtain ⟨-, n1, t1⟩ := lkN_I hf hq hpl (by omega)
    have hqf : 0 ≤ q.toInt * (f pl).toInt ∧ q.toInt * (f pl).toInt ≤ 8 * tot f := ⟨Int.mul_nonneg (by omega) hfp.1, Int.mul_le_mul hq.2 hfp.2 hfp.1 (by omega)⟩
    obtain ⟨n2, t2⟩ := drF_I n1 hl hs hr h4 (by omega)
    have e1 : q.toInt64.toInt = q.toInt := Int32.toInt_toInt64 q
    have k32 : (Int64.ofInt 32).toInt = 32 := by decide +kernel
    have e2 : (q.toInt64 * f pl).toInt = q.toInt * (f pl).toInt := by rw [cx_mulL (by rw [e1]; omega) (by rw [e1]; omega), e1]
    have e3 : (fnd * Int64.ofInt 32).toInt = fnd.toInt * 32 := by rw [cx_mulL (by rw [k32]; omega) (by rw [k32]; omega), k32]
    have e4 : (fnd * Int64.ofInt 32 + q.toInt64 * f pl).toInt = fnd.toInt * 32 + q.toInt * (f pl).toInt := by rw [cx_addL (by rw [e2, e3]; omega) (by rw [e2, e3]; omega), e2, e3]
    have e5 : 4 * (fnd * Int64.ofInt 32 + q.toInt64 * f pl).toInt + tot (nxP dl ds dr q f pl) = 32 * (4 * fnd.toInt + tot f) := by
      show _ + tot (drF (lkN f pl q) dl ds dr) = _
      rw [t2, t1, e4]
      omega
    have ih := vF_I hl hs hr h4 hq R (nxP dl ds dr q f pl) (fnd * Int64.ofInt 32 + q.toInt64 * f pl) (fun v hv => hR v (List.mem_cons_of_mem _ hv)) n2 (by rw [e4]; omega) (by rw [e5, ← e0]; exact hS)
    obtain ⟨i1, i2, i3⟩ := ih
    refine ⟨i1, i2, ?_⟩
    show 4 * (vF dl ds dr q (nxP dl ds dr q f pl) (fnd * Int64.ofInt 32 + q.toInt64 * f pl) R).toInt + tot (R.foldl (nxP dl ds dr q) (nxP dl ds dr q f pl)) = _
    rw [i3, e5, e0]
/-- the two choices side by side -/
def rlA (Wt : Int) (a c : Int64 × List Nat) : Prop := a.2 = c.2 ∧ ((a.1.toInt = -1 ∧ c.1.toInt = -1) ∨ (0 ≤ a.1.toInt ∧ 0 ≤ c.1.toInt ∧ 4 * a.1.toInt + c.1.toInt = Wt))
theorem rlA_fold {Wt : Int} {U V : List Nat → Int64} : ∀ (l : List (List Nat)) (a c : Int64 × List Nat), (∀ R ∈ l, 0 ≤ (U R).toInt ∧ 0 ≤ (V R).toInt ∧ 4 * (U R).toInt + (V R).toInt = Wt) → rlA Wt a c → rlA Wt (l.foldl (fun acc R => stX acc (U R) R) a) (l.foldl (stR V) c)
  | [], a, c, _, h => h
  | R :: l, a, c, hR, h => by
    rw [List.foldl_cons, List.foldl_cons]
    refine rlA_fold l _ _ (fun R2 h2 => hR R2 (List.mem_cons_of_mem _ h2)) ?_
    obtain ⟨u1, u2, u3⟩ := hR R List.mem_cons_self
    obtain ⟨h1, h2⟩ := h
    unfold stX stR
    by_cases q : a.1.toInt < (U R).toInt
    · rw [if_pos q, if_pos ⟨u2, by omega⟩]
      exact ⟨rfl, Or.inr ⟨u1, u2, u3⟩⟩
    · rw [if_neg q, if_neg (by omega)]
      exact ⟨h1, h2⟩
theorem stX_fold {U : List Nat → Int64} {P : List Nat → Prop} : ∀ (l : List (List Nat)) (a : Int64 × List Nat), (∀ R ∈ l, 0 ≤ (U R).toInt ∧ P R) → (0 ≤ a.1.toInt ∧ P a.2) → 0 ≤ (l.foldl (fun acc R => stX acc (U R) R) a).1.toInt ∧ P (l.foldl (fun acc R => stX acc (U R) R) a).2
  | [], a, _, h => h
  | R :: l, a, hR, h => by
    rw [List.foldl_cons]
    refine stX_fold l _ (fun R2 h2 => hR R2 (List.mem_cons_of_mem _ h2)) ?_
    unfold stX
    split
    · exact hR R List.mem_cons_self
    · exact h
theorem stX_some {U : List Nat → Int64} {P : List Nat → Prop} {R : List Nat} {l : List (List Nat)} {a : Int64 × List Nat} (hR : ∀ R2 ∈ R :: l, 0 ≤ (U R2).toInt ∧ P R2) (ha : a.1.toInt = -1) : 0 ≤ ((R :: l).foldl (fun acc R => stX acc (U R) R) a).1.toInt ∧ P ((R :: l).foldl (fun acc R => stX acc (U R) R) a).2 := by
  rw [List.foldl_cons]
  refine stX_fold l _ (fun R2 h2 => hR R2 (List.mem_cons_of_mem _ h2)) ?_
  unfold stX
  have h1 := hR R List.mem_cons_self
  rw [if_pos (by omega)]
  exact h1
end
