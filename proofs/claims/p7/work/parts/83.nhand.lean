noncomputable section
theorem cx_heap_of {tS : Nat} {cs : Nat → ClassId} {h : cx_H} {ws : va_W} (H : ∀ q ∈ h, ∃ a2 e2, ws[q.1]? = some (a2, e2) ∧ cx_cell (ws.map (·.1)) tS cs q.2 e2) : cx_heap tS cs h ws := fun k c hk => H _ (cx_hg_mem hk)
theorem cx_rowv {ws : va_W} {tS k N a2 t : Nat} {cs : Nat → ClassId} {ad : List Nat} {f : Nat → Int32} {e2 : va_E} (hw : ws[k]? = some (a2, e2)) (hc : cx_cell ad tS cs (.inr (.inl (t, N, f))) e2) : rl_row ws k = some ((List.range N).map (fun i => .int (f i))) := by
  obtain ⟨-, rfl⟩ := hc
  unfold rl_row
  rw [hw]
  rfl
theorem cx_row1 {ws : va_W} {k : Nat} {l : List Value} (h : rl_row ws k = some l) : rl_rows ws [k] = some l := by
  show (match rl_row ws k, some [] with
    | some a, some b => some (a ++ b)
    | _, _ => none) = some l
  rw [h]
  show some (l ++ []) = some l
  rw [List.append_nil]
/-- rows that are the same, number by number -/
theorem cx_rowE {N : Nat} {f g : Nat → Int32} (h : (List.range N).map (fun i => Value.int (f i)) = (List.range N).map (fun i => Value.int (g i))) : ∀ i, i < N → f i = g i := fun i hi => by
  have h1 := congrArg (fun l => l[i]?) h
  simp only [List.getElem?_map, List.getElem?_range hi, Option.map_some] at h1
  exact Value.int.inj (Option.some.inj h1)
theorem cx_rowM {N : Nat} {f g : Nat → Int32} (h : ∀ i, i < N → f i = g i) : (List.range N).map (fun i => Value.int (f i)) = (List.range N).map (fun i => Value.int (g i)) := by
  apply List.map_congr_left
  intro i hi
  rw [h i (List.mem_range.mp hi)]
theorem cx_fldv {ws : va_W} {tS k f ci a2 : Nat} {cs : Nat → ClassId} {ad : List Nat} {vs : List cx_V} {x : Int32} {e2 : va_E} (hw : ws[k]? = some (a2, e2)) (hc : cx_cell ad tS cs (.inl (ci, vs)) e2) (hv : vs[f]? = some (.inl (.int x))) (hf : Nat.ble 1000 f = false) : rl_fld ws (k, f) = some (.int x) := by
  obtain ⟨fs, rfl, hal⟩ := hc
  obtain ⟨y, hy, hyv⟩ := cx_all_get hal hv
  have hyv : y = .int x := hyv
  subst hyv
  unfold rl_fld
  show (bif Nat.ble 1000 f then rl_nth (rl_row ws k) (f - 1000) else rl_fld0 ws (k, f)) = _
  rw [hf]
  show rl_fld0 ws (k, f) = _
  unfold rl_fld0
  show (match ws[k]? with
    | some w => rl_fs w.2 f
    | none => none) = _
  rw [hw]
  exact hy
theorem lx_fullL (x : Int64) : (Int.negSucc 9223372036854775807) ≤ x.toInt ∧ x.toInt ≤ Int.ofNat 9223372036854775807 := by
  have h1 := Int64.le_toInt x
  have h2 := Int64.toInt_lt x
  constructor
  · have e1 : (Int.negSucc 9223372036854775807) = -2 ^ 63 := by decide
    rw [e1]; exact h1
  · have e1 : Int.ofNat 9223372036854775807 = 2 ^ 63 - 1 := by decide
    rw [e1]; omega
theorem cx_U2 {a b c d x : Int} (h : a ≤ x ∧ x ≤ b ∨ c ≤ x ∧ x ≤ d) : ab_inU [(a, b), (c, d)] x := by
  rcases h with h | h
  · exact ⟨_, List.mem_cons_self, h⟩
  · exact ⟨_, List.mem_cons_of_mem _ List.mem_cons_self, h⟩
theorem cx_U1 {a b x : Int} (h : a ≤ x ∧ x ≤ b) : ab_inU [(a, b)] x := ⟨_, List.mem_cons_self, h⟩
theorem cx_U2o {a b c d x : Int} (h : ab_inU [(a, b), (c, d)] x) : a ≤ x ∧ x ≤ b ∨ c ≤ x ∧ x ≤ d := by
  obtain ⟨v, hv, h1, h2⟩ := h
  rcases List.mem_cons.mp hv with q | hv
  · subst q; exact Or.inl ⟨h1, h2⟩
  · rcases List.mem_cons.mp hv with q | hv
    · subst q; exact Or.inr ⟨h1, h2⟩
    · cases hv
theorem cx_U1o {a b x : Int} (h : ab_inU [(a, b)] x) : a ≤ x ∧ x ≤ b := by
  obtain ⟨v, hv, h1, h2⟩ := h
  rcases List.mem_cons.mp hv with q | hv
  · subst q; exact ⟨h1, h2⟩
  · cases hv
def ots_0 : List ab_TV := [some (.inr (.inl [1])), some (.inr (.inl [2])), some (.inr (.inl [15])), some (.inr (.inl [21])), some (.inr (.inl [43])), some (.inr (.inl [68])), some (.inr (.inl [77])), some (.inr (.inl [87])), some (.inr (.inl [101])), some (.inr (.inl [107])), some (.inr (.inl [113])), some (.inl (false, .negSucc 2147483647, .ofNat 2147483647))]
theorem otl_0 {mi : Nat → Int32} : cx_tl ots_0 (vs_0 (mi 11)) := ⟨⟨_, rfl, List.mem_cons_self⟩, ⟨_, rfl, List.mem_cons_self⟩, ⟨_, rfl, List.mem_cons_self⟩, ⟨_, rfl, List.mem_cons_self⟩, ⟨_, rfl, List.mem_cons_self⟩, ⟨_, rfl, List.mem_cons_self⟩, ⟨_, rfl, List.mem_cons_self⟩, ⟨_, rfl, List.mem_cons_self⟩, ⟨_, rfl, List.mem_cons_self⟩, ⟨_, rfl, List.mem_cons_self⟩, ⟨_, rfl, List.mem_cons_self⟩, ⟨_, rfl, lw_fullI _⟩, trivial⟩
def ots_2 : List ab_TV := [some (.inr (.inl [3])), some (.inr (.inl [4])), some (.inr (.inl [5])), some (.inr (.inl [10]))]
theorem otl_2 {mi : Nat → Int32} : cx_tl ots_2 ([.inr (.inl 3), .inr (.inl 4), .inr (.inl 5), .inr (.inl 10)]) := ⟨⟨_, rfl, List.mem_cons_self⟩, ⟨_, rfl, List.mem_cons_self⟩, ⟨_, rfl, List.mem_cons_self⟩, ⟨_, rfl, List.mem_cons_self⟩, trivial⟩
def ots_15 : List ab_TV := [some (.inr (.inl [2])), some (.inr (.inl [16]))]
theorem otl_15 {mi : Nat → Int32} : cx_tl ots_15 ([.inr (.inl 2), .inr (.inl 16)]) := ⟨⟨_, rfl, List.mem_cons_self⟩, ⟨_, rfl, List.mem_cons_self⟩, trivial⟩
def ots_43 : List ab_TV := [some (.inr (.inl [2])), some (.inr (.inl [44])), some (.inr (.inl [45])), some (.inr (.inl [46])), some (.inr (.inl [47])), some (.inr (.inl [48])), some (.inr (.inl [49])), some (.inr (.inl [50])), some (.inr (.inl [57])), some (.inr (.inl [58])), some (.inr (.inl [66])), some (.inr (.inl [67])), some (.inl (false, .ofNat 0, .ofNat 4)), some (.inl (false, .ofNat 0, .ofNat 1)), some (.inl (false, .negSucc 2147483647, .ofNat 2147483647)), some (.inl (false, .negSucc 2147483647, .ofNat 2147483647)), some (.inl (false, .negSucc 2147483647, .ofNat 2147483647))]
def obd_43 (mi : Nat → Int32) : Prop := ((Int.ofNat 0) ≤ (mi 12).toInt ∧ (mi 12).toInt ≤ (Int.ofNat 4)) ∧ ((Int.ofNat 0) ≤ (mi 13).toInt ∧ (mi 13).toInt ≤ (Int.ofNat 1))
theorem obd_43_of {ad : List Nat} {tS : Nat} {m : Nat → Value} (h : ab_tl ad tS ots_43 ((List.range 17).map m)) : obd_43 (fun i => cx_toI (m i)) := ⟨cx_bdI h (i := 12) rfl, cx_bdI h (i := 13) rfl⟩
theorem otl_43 {mi : Nat → Int32} (hb : obd_43 mi) : cx_tl ots_43 (vs_43 mi) := ⟨⟨_, rfl, List.mem_cons_self⟩, ⟨_, rfl, List.mem_cons_self⟩, ⟨_, rfl, List.mem_cons_self⟩, ⟨_, rfl, List.mem_cons_self⟩, ⟨_, rfl, List.mem_cons_self⟩, ⟨_, rfl, List.mem_cons_self⟩, ⟨_, rfl, List.mem_cons_self⟩, ⟨_, rfl, List.mem_cons_self⟩, ⟨_, rfl, List.mem_cons_self⟩, ⟨_, rfl, List.mem_cons_self⟩, ⟨_, rfl, List.mem_cons_self⟩, ⟨_, rfl, List.mem_cons_self⟩, ⟨_, rfl, hb.1⟩, ⟨_, rfl, hb.2⟩, ⟨_, rfl, lw_fullI _⟩, ⟨_, rfl, lw_fullI _⟩, ⟨_, rfl, lw_fullI _⟩, trivial⟩
def ots_119 : List ab_TV := [some (.inl (false, .negSucc 2147483647, .ofNat 2147483647)), some (.inl (false, .negSucc 2147483647, .ofNat 2147483647)), some (.inr (.inl [120])), some (.inr (.inl [121])), some (.inr (.inl [122])), some (.inr (.inl [123])), some (.inr (.inl [124])), some (.inr (.inl [125])), some (.inl (false, .ofNat 0, .ofNat 4)), some (.inr (.inl [126])), some (.inl (false, .negSucc 8, .ofNat 9)), some (.inl (false, .negSucc 8, .ofNat 9)), some (.inl (false, .ofNat 0, .ofNat 99)), some (.inr (.inl [127])), some (.inr (.inl [128])), some (.inr (.inl [129])), some (.inr (.inl [130])), some (.inr (.inl [131])), some (.inr (.inl [132])), some (.inr (.inl [133])), some (.inr (.inl [134])), some (.inl (false, .ofNat 0, .ofNat 1)), some (.inl (false, .negSucc 2147483647, .ofNat 2147483647)), some (.inl (false, .negSucc 2147483647, .ofNat 2147483647)), some (.inl (false, .ofNat 0, .ofNat 1)), some (.inr (.inl [135])), some (.inl (false, .negSucc 2147483647, .ofNat 2147483647)), some (.inl (false, .ofNat 0, .ofNat 4)), some (.inr (.inl [136])), some (.inl (false, .ofNat 1, .ofNat 24)), some (.inl (false, .negSucc 2147483647, .ofNat 2147483647)), some (.inl (false, .ofNat 0, .ofNat 20)), some (.inr (.inl [137])), some (.inr (.inl [138])), some (.inr (.inl [139])), some (.inr (.inl [140])), some (.inr (.inl [141])), some (.inr (.inl [142])), some (.inr (.inl [143])), some (.inr (.inl [144])), some (.inr (.inl [145])), some (.inl (false, .ofNat 0, .ofNat 10)), some (.inl (false, .ofNat 0, .ofNat 4)), some (.inl (false, .ofNat 0, .ofNat 4)), some (.inl (false, .ofNat 0, .ofNat 4)), some (.inl (false, .negSucc 2147483647, .ofNat 2147483647)), some (.inr (.inl [146])), some (.inr (.inl [147])), some (.inr (.inl [148])), some (.inl (true, .negSucc 9223372036854775807, .ofNat 9223372036854775807)), some (.inl (true, .negSucc 9223372036854775807, .ofNat 9223372036854775807)), some (.inr (.inl [149])), some (.inr (.inl [150])), some (.inr (.inl [151])), some (.inr (.inl [152])), some (.inl (false, .ofNat 0, .ofNat 40)), some (.inr (.inl [153])), some (.inr (.inl [154])), some (.inr (.inl [155])), some (.inr (.inl [156])), some (.inr (.inl [157])), some (.inl (false, .ofNat 0, .ofNat 20)), some (.inr (.inl [158])), some (.inr (.inl [159])), some (.inr (.inl [160])), some (.inr (.inl [161])), some (.inr (.inl [162])), some (.inr (.inl [163]))]
def obd_119 (mi : Nat → Int32) : Prop := ((Int.ofNat 0) ≤ (mi 8).toInt ∧ (mi 8).toInt ≤ (Int.ofNat 4)) ∧ ((Int.negSucc 8) ≤ (mi 10).toInt ∧ (mi 10).toInt ≤ (Int.ofNat 9)) ∧ ((Int.negSucc 8) ≤ (mi 11).toInt ∧ (mi 11).toInt ≤ (Int.ofNat 9)) ∧ ((Int.ofNat 0) ≤ (mi 12).toInt ∧ (mi 12).toInt ≤ (Int.ofNat 99)) ∧ ((Int.ofNat 0) ≤ (mi 21).toInt ∧ (mi 21).toInt ≤ (Int.ofNat 1)) ∧ ((Int.ofNat 0) ≤ (mi 24).toInt ∧ (mi 24).toInt ≤ (Int.ofNat 1)) ∧ ((Int.ofNat 0) ≤ (mi 27).toInt ∧ (mi 27).toInt ≤ (Int.ofNat 4)) ∧ ((Int.ofNat 1) ≤ (mi 29).toInt ∧ (mi 29).toInt ≤ (Int.ofNat 24)) ∧ ((Int.ofNat 0) ≤ (mi 31).toInt ∧ (mi 31).toInt ≤ (Int.ofNat 20)) ∧ ((Int.ofNat 0) ≤ (mi 41).toInt ∧ (mi 41).toInt ≤ (Int.ofNat 10)) ∧ ((Int.ofNat 0) ≤ (mi 42).toInt ∧ (mi 42).toInt ≤ (Int.ofNat 4)) ∧ ((Int.ofNat 0) ≤ (mi 43).toInt ∧ (mi 43).toInt ≤ (Int.ofNat 4)) ∧ ((Int.ofNat 0) ≤ (mi 44).toInt ∧ (mi 44).toInt ≤ (Int.ofNat 4)) ∧ ((Int.ofNat 0) ≤ (mi 55).toInt ∧ (mi 55).toInt ≤ (Int.ofNat 40)) ∧ ((Int.ofNat 0) ≤ (mi 61).toInt ∧ (mi 61).toInt ≤ (Int.ofNat 20))
theorem obd_119_of {ad : List Nat} {tS : Nat} {m : Nat → Value} (h : ab_tl ad tS ots_119 ((List.range 68).map m)) : obd_119 (fun i => cx_toI (m i)) := ⟨cx_bdI h (i := 8) rfl, cx_bdI h (i := 10) rfl, cx_bdI h (i := 11) rfl, cx_bdI h (i := 12) rfl, cx_bdI h (i := 21) rfl, cx_bdI h (i := 24) rfl, cx_bdI h (i := 27) rfl, cx_bdI h (i := 29) rfl, cx_bdI h (i := 31) rfl, cx_bdI h (i := 41) rfl, cx_bdI h (i := 42) rfl, cx_bdI h (i := 43) rfl, cx_bdI h (i := 44) rfl, cx_bdI h (i := 55) rfl, cx_bdI h (i := 61) rfl⟩
theorem otl_119 {mi : Nat → Int32} {ml : Nat → Int64} (hb : obd_119 mi) : cx_tl ots_119 (vs_119 mi ml) := ⟨⟨_, rfl, lw_fullI _⟩, ⟨_, rfl, lw_fullI _⟩, ⟨_, rfl, List.mem_cons_self⟩, ⟨_, rfl, List.mem_cons_self⟩, ⟨_, rfl, List.mem_cons_self⟩, ⟨_, rfl, List.mem_cons_self⟩, ⟨_, rfl, List.mem_cons_self⟩, ⟨_, rfl, List.mem_cons_self⟩, ⟨_, rfl, hb.1⟩, ⟨_, rfl, List.mem_cons_self⟩, ⟨_, rfl, hb.2.1⟩, ⟨_, rfl, hb.2.2.1⟩, ⟨_, rfl, hb.2.2.2.1⟩, ⟨_, rfl, List.mem_cons_self⟩, ⟨_, rfl, List.mem_cons_self⟩, ⟨_, rfl, List.mem_cons_self⟩, ⟨_, rfl, List.mem_cons_self⟩, ⟨_, rfl, List.mem_cons_self⟩, ⟨_, rfl, List.mem_cons_self⟩, ⟨_, rfl, List.mem_cons_self⟩, ⟨_, rfl, List.mem_cons_self⟩, ⟨_, rfl, hb.2.2.2.2.1⟩, ⟨_, rfl, lw_fullI _⟩, ⟨_, rfl, lw_fullI _⟩, ⟨_, rfl, hb.2.2.2.2.2.1⟩, ⟨_, rfl, List.mem_cons_self⟩, ⟨_, rfl, lw_fullI _⟩, ⟨_, rfl, hb.2.2.2.2.2.2.1⟩, ⟨_, rfl, List.mem_cons_self⟩, ⟨_, rfl, hb.2.2.2.2.2.2.2.1⟩, ⟨_, rfl, lw_fullI _⟩, ⟨_, rfl, hb.2.2.2.2.2.2.2.2.1⟩, ⟨_, rfl, List.mem_cons_self⟩, ⟨_, rfl, List.mem_cons_self⟩, ⟨_, rfl, List.mem_cons_self⟩, ⟨_, rfl, List.mem_cons_self⟩, ⟨_, rfl, List.mem_cons_self⟩, ⟨_, rfl, List.mem_cons_self⟩, ⟨_, rfl, List.mem_cons_self⟩, ⟨_, rfl, List.mem_cons_self⟩, ⟨_, rfl, List.mem_cons_self⟩, ⟨_, rfl, hb.2.2.2.2.2.2.2.2.2.1⟩, ⟨_, rfl, hb.2.2.2.2.2.2.2.2.2.2.1⟩, ⟨_, rfl, hb.2.2.2.2.2.2.2.2.2.2.2.1⟩, ⟨_, rfl, hb.2.2.2.2.2.2.2.2.2.2.2.2.1⟩, ⟨_, rfl, lw_fullI _⟩, ⟨_, rfl, List.mem_cons_self⟩, ⟨_, rfl, List.mem_cons_self⟩, ⟨_, rfl, List.mem_cons_self⟩, ⟨_, rfl, lx_fullL _⟩, ⟨_, rfl, lx_fullL _⟩, ⟨_, rfl, List.mem_cons_self⟩, ⟨_, rfl, List.mem_cons_self⟩, ⟨_, rfl, List.mem_cons_self⟩, ⟨_, rfl, List.mem_cons_self⟩, ⟨_, rfl, hb.2.2.2.2.2.2.2.2.2.2.2.2.2.1⟩, ⟨_, rfl, List.mem_cons_self⟩, ⟨_, rfl, List.mem_cons_self⟩, ⟨_, rfl, List.mem_cons_self⟩, ⟨_, rfl, List.mem_cons_self⟩, ⟨_, rfl, List.mem_cons_self⟩, ⟨_, rfl, hb.2.2.2.2.2.2.2.2.2.2.2.2.2.2⟩, ⟨_, rfl, List.mem_cons_self⟩, ⟨_, rfl, List.mem_cons_self⟩, ⟨_, rfl, List.mem_cons_self⟩, ⟨_, rfl, List.mem_cons_self⟩, ⟨_, rfl, List.mem_cons_self⟩, ⟨_, rfl, List.mem_cons_self⟩, trivial⟩
theorem td_aE {t t2 : Nat → Int32} : ∀ k : Nat, (∀ i : Nat, i ≤ k → t i = t2 i) → td_a t k = td_a t2 k
  | 0, h => by rw [td_a, td_a, h 0 (Nat.le_refl _)]
  | k + 1, h => by rw [td_a, td_a, h (k + 1) (Nat.le_refl _), td_aE k (fun i hi => h i (by omega))]
theorem td_bE {t t2 : Nat → Int32} : ∀ n k : Nat, (∀ i : Nat, k ≤ i → i < k + n → t i = t2 i) → td_b t k n = td_b t2 k n
  | 0, k, h => rfl
  | n + 1, k, h => by rw [td_b, td_b, h k (Nat.le_refl _) (by omega), td_bE n (k + 1) (fun i h1 h2 => h i (by omega) (by omega))]
theorem sw_gE {s s2 : Nat → Int32} : ∀ k : Nat, (∀ i : Nat, i < k → s i = s2 i) → sw_g s k = sw_g s2 k
  | 0, h => rfl
  | k + 1, h => by rw [sw_g, sw_g, h k (by omega), sw_gE k (fun i hi => h i (by omega))]
theorem sw_xE {s s2 : Nat → Int32} {k : Nat} (hk : k < 16) (h : ∀ i : Nat, i < 16 → s i = s2 i) : sw_x s k = sw_x s2 k := by
  unfold sw_x
  rw [sw_gE 16 h, h k hk]
theorem maE {x w z z2 : Int32} {t t2 s s2 : Nat → Int32} (ht : ∀ i : Nat, i < 16 → t i = t2 i) (hs : ∀ i : Nat, i < 16 → s i = s2 i) (h1 : ma x w t s z) (h2 : ma x w t2 s2 z2) : z = z2 := by
  by_cases hx : 0 ≤ x.toInt ∧ x.toInt < 16
  · have hk := ab_clamp (x := x) hx.1
    have e1 := td_aE (t := t) (t2 := t2) x.toNatClampNeg (fun i hi => ht i (by omega))
    have e2 := td_bE (t := t) (t2 := t2) (16 - x.toNatClampNeg) x.toNatClampNeg (fun i q1 q2 => ht i (by omega))
    have e3 := sw_xE (s := s) (s2 := s2) (k := x.toNatClampNeg) (by omega) hs
    unfold ma at h1 h2
    rw [e1, e2, e3] at h1
    rcases h1 with h1 | h1 | h1 | h1 | h1 <;> rcases h2 with h2 | h2 | h2 | h2 | h2 <;> first | (exfalso; omega) | (exact cx_i32 (by omega)) | (rw [h1.2.2, h2.2.2])
  · unfold ma at h1 h2
    rcases h1 with h1 | h1 | h1 | h1 | h1 <;> rcases h2 with h2 | h2 | h2 | h2 | h2 <;> first | (exfalso; omega) | (rw [h1.2, h2.2])
/-- tides stay tides -/
def tdV (x : Int) : Prop := (0 ≤ x ∧ x ≤ 9) ∨ x = 99
theorem cx_Ut {x : Int} (h : tdU x) : ab_inU [(.negSucc 8, .ofNat 9), (.ofNat 99, .ofNat 99)] x := cx_U2 (by
  rcases h with h | h
  · exact Or.inl h
  · exact Or.inr ⟨Int.le_of_eq h.symm, Int.le_of_eq h⟩)
theorem cx_Us {x : Int} (h : tdV x) : ab_inU [(.ofNat 0, .ofNat 9), (.ofNat 99, .ofNat 99)] x := cx_U2 (by
  rcases h with h | h
  · exact Or.inl h
  · exact Or.inr ⟨Int.le_of_eq h.symm, Int.le_of_eq h⟩)
theorem gaE {x w v z z2 : Int32} {t t2 s s2 tx sx tm sm : Nat → Int32} (ht : ∀ i : Nat, i < 16 → t i = t2 i) (hs : ∀ i : Nat, i < 16 → s i = s2 i) (h1 : ga x w v t s z tx sx) (h2 : ga x w v t2 s2 z2 tm sm) : z = z2 ∧ (∀ i : Nat, i < 16 → tx i = tm i) ∧ ∀ i : Nat, i < 16 → sx i = sm i := by
  have up : ∀ (f g : Nat → Int32) (k : Nat), (∀ i : Nat, i < 16 → f i = g i) → ∀ i : Nat, i < 16 → upd f k v i = upd g k v i := fun f g k h i hi => by
    unfold upd
    rw [h i hi]
  unfold ga at h1 h2
  rcases h1 with h1 | h1 | h1 | h1 | h1 | h1 <;> rcases h2 with h2 | h2 | h2 | h2 | h2 | h2 <;> first | (exfalso; omega) | skip
  · obtain ⟨-, q1, q2, q3⟩ := h1; obtain ⟨-, r1, r2, r3⟩ := h2; rw [q1, q2, q3, r1, r2, r3]; exact ⟨rfl, ht, hs⟩
  · obtain ⟨-, -, -, q1, q2, q3⟩ := h1; obtain ⟨-, -, -, r1, r2, r3⟩ := h2; rw [q1, q2, q3, r1, r2, r3]; exact ⟨rfl, ht, hs⟩
  · obtain ⟨-, -, q1, q2, q3⟩ := h1; obtain ⟨-, -, r1, r2, r3⟩ := h2; rw [q1, q2, q3, r1, r2, r3]; exact ⟨rfl, ht, hs⟩
  · obtain ⟨-, -, -, -, q1, q2, q3⟩ := h1; obtain ⟨-, -, -, -, r1, r2, r3⟩ := h2; rw [q1, q2, q3, r1, r2, r3]; exact ⟨rfl, ht, hs⟩
  · obtain ⟨hx, -, -, q1, q2, q3⟩ := h1; obtain ⟨-, -, -, r1, r2, r3⟩ := h2; have hk := ab_clamp (x := x) hx.1; rw [q1, q2, q3, r1, r2, r3]; exact ⟨ht _ (by omega), up _ _ _ ht, hs⟩
  · obtain ⟨hx, -, -, q1, q2, q3⟩ := h1; obtain ⟨-, -, -, r1, r2, r3⟩ := h2; have hk := ab_clamp (x := x) hx.1; rw [q1, q2, q3, r1, r2, r3]; exact ⟨hs _ (by omega), ht, up _ _ _ hs⟩
theorem gaU {x w v z : Int32} {t s t2 s2 : Nat → Int32} (h : ga x w v t s z t2 s2) (ht : ∀ i : Nat, i < 16 → tdU (t i).toInt) (hs : ∀ i : Nat, i < 16 → tdV (s i).toInt) : (∀ i : Nat, i < 16 → tdU (t2 i).toInt) ∧ ∀ i : Nat, i < 16 → tdV (s2 i).toInt := by
  unfold ga at h
  rcases h with ⟨-, -, q2, q3⟩ | ⟨-, -, -, -, q2, q3⟩ | ⟨-, -, -, q2, q3⟩ | ⟨-, -, -, -, -, q2, q3⟩ | ⟨-, -, q1, -, q2, q3⟩ | ⟨-, -, q1, -, q2, q3⟩
  · rw [q2, q3]; exact ⟨ht, hs⟩
  · rw [q2, q3]; exact ⟨ht, hs⟩
  · rw [q2, q3]; exact ⟨ht, hs⟩
  · rw [q2, q3]; exact ⟨ht, hs⟩
  · rw [q2, q3]
    refine ⟨fun i hi => ?_, hs⟩
    unfold upd
    split
    · exact q1
    · exact ht i hi
  · rw [q2, q3]
    refine ⟨ht, fun i hi => ?_⟩
    unfold upd
    split
    · exact q1
    · exact hs i hi
theorem ckU {N : Nat} {x : Int32} {f : Nat → Int32} : ∀ i : Nat, i < N → ck N x f i = x := fun i hi => by
  unfold ck
  rw [if_pos hi]
def F4 (f0 f1 f2 f3 : Nat → Int32) : Nat → Nat → Int32 := fun i => bif Nat.beq i 0 then f0 else bif Nat.beq i 1 then f1 else bif Nat.beq i 2 then f2 else f3
theorem cx_row4 {ws : va_W} {k0 k1 k2 k3 : Nat} {l0 l1 l2 l3 : List Value} (h0 : rl_row ws k0 = some l0) (h1 : rl_row ws k1 = some l1) (h2 : rl_row ws k2 = some l2) (h3 : rl_row ws k3 = some l3) : rl_rows ws [k0, k1, k2, k3] = some (l0 ++ (l1 ++ (l2 ++ (l3 ++ [])))) := by
  have e3 : rl_rows ws [k3] = some (l3 ++ []) := by rw [List.append_nil]; exact cx_row1 h3
  have e2 : rl_rows ws [k2, k3] = some (l2 ++ (l3 ++ [])) := by
    show (match rl_row ws k2, rl_rows ws [k3] with
      | some a, some b => some (a ++ b)
      | _, _ => none) = _
    rw [h2, e3]
  have e1 : rl_rows ws [k1, k2, k3] = some (l1 ++ (l2 ++ (l3 ++ []))) := by
    show (match rl_row ws k1, rl_rows ws [k2, k3] with
      | some a, some b => some (a ++ b)
      | _, _ => none) = _
    rw [h1, e2]
  show (match rl_row ws k0, rl_rows ws [k1, k2, k3] with
    | some a, some b => some (a ++ b)
    | _, _ => none) = _
  rw [h0, e1]
theorem cx_cat96 {g : Nat → Value} : (List.range 96).map g = (List.range 24).map (fun i => g (24 * 0 + i)) ++ ((List.range 24).map (fun i => g (24 * 1 + i)) ++ ((List.range 24).map (fun i => g (24 * 2 + i)) ++ ((List.range 24).map (fun i => g (24 * 3 + i)) ++ []))) := by
  simp [List.range_succ]
theorem cx_rowM24 {F : Nat → Nat → Int32} {hm : Nat → Int32} (h : ∀ b u : Nat, b < 4 → u < 24 → hm (24 * b + u) = F b u) : (List.range 96).map (fun i => Value.int (hm i)) = (List.range 24).map (fun i => Value.int (F 0 i)) ++ ((List.range 24).map (fun i => Value.int (F 1 i)) ++ ((List.range 24).map (fun i => Value.int (F 2 i)) ++ ((List.range 24).map (fun i => Value.int (F 3 i)) ++ []))) := by
  rw [cx_cat96 (g := fun i => Value.int (hm i))]
  rw [cx_rowM (fun i hi => h 0 i (by omega) hi), cx_rowM (fun i hi => h 1 i (by omega) hi), cx_rowM (fun i hi => h 2 i (by omega) hi), cx_rowM (fun i hi => h 3 i (by omega) hi)]
theorem cx_rowE24 {F : Nat → Nat → Int32} {hm : Nat → Int32} (h : (List.range 96).map (fun i => Value.int (hm i)) = (List.range 24).map (fun i => Value.int (F 0 i)) ++ ((List.range 24).map (fun i => Value.int (F 1 i)) ++ ((List.range 24).map (fun i => Value.int (F 2 i)) ++ ((List.range 24).map (fun i => Value.int (F 3 i)) ++ [])))) : ∀ b u : Nat, b < 4 → u < 24 → F b u = hm (24 * b + u) := by
  rw [cx_cat96 (g := fun i => Value.int (hm i))] at h
  obtain ⟨e0, h⟩ := List.append_inj h (by simp)
  obtain ⟨e1, h⟩ := List.append_inj h (by simp)
  obtain ⟨e2, h⟩ := List.append_inj h (by simp)
  obtain ⟨e3, -⟩ := List.append_inj h (by simp)
  intro b u hb hu
  rcases (show b = 0 ∨ b = 1 ∨ b = 2 ∨ b = 3 by omega) with rfl | rfl | rfl | rfl
  · exact (cx_rowE (f := fun i => hm (24 * 0 + i)) e0 u hu).symm
  · exact (cx_rowE (f := fun i => hm (24 * 1 + i)) e1 u hu).symm
  · exact (cx_rowE (f := fun i => hm (24 * 2 + i)) e2 u hu).symm
  · exact (cx_rowE (f := fun i => hm (24 * 3 + i)) e3 u hu).symm
theorem sfE {b c x z z2 : Int32} {f t t2 s s2 : Nat → Int32} (ht : ∀ i : Nat, i < 16 → t i = t2 i) (hs : ∀ i : Nat, i < 16 → s i = s2 i) (h1 : sfA b c x f t s z) (h2 : sfA b c x f t2 s2 z2) : z = z2 := by
  apply cx_i32
  unfold sfA at h1 h2
  by_cases hx : 0 ≤ x.toInt ∧ x.toInt < 16
  · have hk := ab_clamp (x := x) hx.1
    have e1 := td_aE (t := t) (t2 := t2) x.toNatClampNeg (fun i hi => ht i (by omega))
    have e2 := td_bE (t := t) (t2 := t2) (16 - x.toNatClampNeg) x.toNatClampNeg (fun i q1 q2 => ht i (by omega))
    have e3 := sw_xE (s := s) (s2 := s2) (k := x.toNatClampNeg) (by omega) hs
    have e4 : sw_l s x.toNatClampNeg = sw_l s2 x.toNatClampNeg := by
      unfold sw_l
      rw [hs x.toNatClampNeg (by omega)]
    rw [e1, e2, e3, e4] at h1
    rcases h1 with ⟨q, h1⟩ | ⟨q, h1⟩ <;> rcases h2 with ⟨q2, h2⟩ | ⟨q2, h2⟩
    · rw [h1, h2]
    · exact absurd q q2
    · exact absurd q2 q
    · omega
  · rcases h1 with ⟨q, h1⟩ | ⟨q, h1⟩
    · exact absurd q.2.2 hx
    · rcases h2 with ⟨q2, h2⟩ | ⟨q2, h2⟩
      · exact absurd q2.2.2 hx
      · omega
theorem loE {b x w z z2 : Int32} {f t t2 s s2 : Nat → Int32} (ht : ∀ i : Nat, i < 16 → t i = t2 i) (hs : ∀ i : Nat, i < 16 → s i = s2 i) (h1 : loA b x w (lgA (sfS f t s x.toNatClampNeg) w z) z) (h2 : loA b x w (lgM (sfS f t2 s2 x.toNatClampNeg) w z2) z2) : z = z2 := by
  unfold loA at h1 h2
  rcases h1 with ⟨q, h1⟩ | ⟨q, q1, h1⟩ | ⟨q, q1, h1⟩ <;> rcases h2 with ⟨u, h2⟩ | ⟨u, u1, h2⟩ | ⟨u, u1, h2⟩
  · exact cx_i32 (by omega)
  · exact absurd u q
  · exact absurd u q
  · exact absurd q u
  · exact cx_i32 (by omega)
  · exact absurd u1 q1
  · exact absurd q u
  · exact absurd q1 u1
  · have hx := q.2
    have hk := ab_clamp (x := x) hx.1
    have e1 := td_aE (t := t) (t2 := t2) x.toNatClampNeg (fun i hi => ht i (by omega))
    have e2 := td_bE (t := t) (t2 := t2) (16 - x.toNatClampNeg) x.toNatClampNeg (fun i q1 q2 => ht i (by omega))
    have e3 := sw_xE (s := s) (s2 := s2) (k := x.toNatClampNeg) (by omega) hs
    have e4 : sw_l s x.toNatClampNeg = sw_l s2 x.toNatClampNeg := by
      unfold sw_l
      rw [hs x.toNatClampNeg (by omega)]
    have e5 : sfS f t s x.toNatClampNeg = sfS f t2 s2 x.toNatClampNeg := by
      funext c
      unfold sfS
      rw [e1, e2, e3, e4]
    rw [e5] at h1
    exact lgE h1 h2
theorem tk2a : lw_THs.all (fun th => tr_3 th [(0, ci_0), (1, ci_1), (2, ci_2), (3, ci_3), (4, ci_4), (119, ci_119), (126, ci_126), (122, ci_122), (123, ci_123)]) = true := by decide +kernel
theorem tk2x : lw_THs.all (fun th => th.all (tr_1 (cx_M [0, 1, 2, 3, 4] []) th [(0, ci_0), (1, ci_1), (2, ci_2), (3, ci_3), (4, ci_4)])) = true := by decide +kernel
theorem tk2m : lw_THs.all (fun th => th.all (tr_1 (cx_M [119, 126, 122, 123] [8616]) th [(119, ci_119), (126, ci_126), (122, ci_122), (123, ci_123)])) = true := by decide +kernel
theorem tz_2 : ∀ th ∈ lw_THs, lw_TQ 298 th := by
  intro th hmem p l e s m below meth c D A Q cs tS b L i0 cells slots xs iv ws ls F0 hcs hiv hL hL2 hl hth hEQ hlen K
  have h3 := tr_3_ok (List.all_eq_true.mp tk2a th hmem) hth
  obtain ⟨a0, e0, w0, t0⟩ := h3 _ (List.mem_of_getElem? (i := 0) rfl)
  obtain ⟨a1, e1, w1, t1⟩ := h3 _ (List.mem_of_getElem? (i := 1) rfl)
  obtain ⟨a2, e2, w2, t2⟩ := h3 _ (List.mem_of_getElem? (i := 2) rfl)
  obtain ⟨a3, e3, w3, t3⟩ := h3 _ (List.mem_of_getElem? (i := 3) rfl)
  obtain ⟨a4, e4, w4, t4⟩ := h3 _ (List.mem_of_getElem? (i := 4) rfl)
  obtain ⟨a119, e119, w119, t119⟩ := h3 _ (List.mem_of_getElem? (i := 5) rfl)
  obtain ⟨a126, e126, w126, t126⟩ := h3 _ (List.mem_of_getElem? (i := 6) rfl)
  obtain ⟨a122, e122, w122, t122⟩ := h3 _ (List.mem_of_getElem? (i := 7) rfl)
  obtain ⟨a123, e123, w123, t123⟩ := h3 _ (List.mem_of_getElem? (i := 8) rfl)
  obtain ⟨m0, c0, b0⟩ := cx_of_obj (ci := 10) (N := 12) (tvs := ots_0) t0
  obtain ⟨r1, c1, u1⟩ := cx_of_row (t := 0) (N := 7) (Or.inl rfl) t1
  obtain ⟨m2, c2, b2⟩ := cx_of_obj (ci := 8) (N := 4) (tvs := ots_2) t2
  obtain ⟨t, c3, u3⟩ := cx_of_row (t := 0) (N := 16) (Or.inl rfl) t3
  obtain ⟨sw, c4, u4⟩ := cx_of_row (t := 0) (N := 16) (Or.inl rfl) t4
  obtain ⟨m119, c119, b119⟩ := cx_of_obj (ci := 11) (N := 68) (tvs := ots_119) t119
  have hbd119 := obd_119_of b119
  obtain ⟨r2, c126, u126⟩ := cx_of_row (t := 0) (N := 7) (Or.inl rfl) t126
  obtain ⟨tm, c122, u122⟩ := cx_of_row (t := 0) (N := 16) (Or.inl rfl) t122
  obtain ⟨sm, c123, u123⟩ := cx_of_row (t := 0) (N := 16) (Or.inl rfl) t123
  have hX : cx_heap tS cs (h_xt (cx_toI (m0 11)) r1 t sw) ws := cx_heap_of (List.forall_mem_cons.mpr ⟨⟨a0, e0, w0, c0⟩, (List.forall_mem_cons.mpr ⟨⟨a1, e1, w1, c1⟩, (List.forall_mem_cons.mpr ⟨⟨a2, e2, w2, c2⟩, (List.forall_mem_cons.mpr ⟨⟨a3, e3, w3, c3⟩, (List.forall_mem_cons.mpr ⟨⟨a4, e4, w4, c4⟩, (fun _ h => absurd h List.not_mem_nil)⟩)⟩)⟩)⟩)⟩)
  have hM : cx_heap tS cs (h_mt (fun i => cx_toI (m119 i)) (fun i => cx_toL (m119 i)) r2 tm sm) ws := cx_heap_of (List.forall_mem_cons.mpr ⟨⟨a119, e119, w119, c119⟩, (List.forall_mem_cons.mpr ⟨⟨a126, e126, w126, c126⟩, (List.forall_mem_cons.mpr ⟨⟨a122, e122, w122, c122⟩, (List.forall_mem_cons.mpr ⟨⟨a123, e123, w123, c123⟩, (fun _ h => absurd h List.not_mem_nil)⟩)⟩)⟩)⟩)
  have ha0 : (ws.map (·.1))[0]? = some a0 := by rw [List.getElem?_map, w0]; rfl
  have ha119 : (ws.map (·.1))[119]? = some a119 := by rw [List.getElem?_map, w119]; rfl
  have hut : ∀ i : Nat, i < 16 → tdU (t i).toInt := fun i hi => by have h9 : (-9 ≤ (t i).toInt ∧ (t i).toInt ≤ 9) ∨ (99 ≤ (t i).toInt ∧ (t i).toInt ≤ 99) := cx_U2o (u3 i hi); unfold tdU; omega
  have hus : ∀ i : Nat, i < 16 → tdV (sw i).toInt := fun i hi => by have h9 : (0 ≤ (sw i).toInt ∧ (sw i).toInt ≤ 9) ∨ (99 ≤ (sw i).toInt ∧ (sw i).toInt ≤ 99) := cx_U2o (u4 i hi); unfold tdV; omega
  have hut2 : ∀ i : Nat, i < 16 → tdU (tm i).toInt := fun i hi => by have h9 : (-9 ≤ (tm i).toInt ∧ (tm i).toInt ≤ 9) ∨ (99 ≤ (tm i).toInt ∧ (tm i).toInt ≤ 99) := cx_U2o (u122 i hi); unfold tdU; omega
  have hus2 : ∀ i : Nat, i < 16 → tdV (sm i).toInt := fun i hi => by have h9 : (0 ≤ (sm i).toInt ∧ (sm i).toInt ≤ 9) ∨ (99 ≤ (sm i).toInt ∧ (sm i).toInt ≤ 99) := cx_U2o (u123 i hi); unfold tdV; omega
  have hEt : ∀ i : Nat, i < 16 → t i = tm i := by
    obtain ⟨v, q1, q2⟩ := hEQ.1.1 ([3], 122) (List.mem_of_getElem? (i := 0) rfl)
    have q1 : rl_rows ws [3] = some v := q1
    have q2 : rl_row ws 122 = some v := q2
    rw [cx_row1 (cx_rowv w3 c3)] at q1
    rw [cx_rowv w122 c122] at q2
    exact cx_rowE (Option.some.inj (q1.trans q2.symm))
  have hEs : ∀ i : Nat, i < 16 → sw i = sm i := by
    obtain ⟨v, q1, q2⟩ := hEQ.1.1 ([4], 123) (List.mem_of_getElem? (i := 1) rfl)
    have q1 : rl_rows ws [4] = some v := q1
    have q2 : rl_row ws 123 = some v := q2
    rw [cx_row1 (cx_rowv w4 c4)] at q1
    rw [cx_rowv w123 c123] at q2
    exact cx_rowE (Option.some.inj (q1.trans q2.symm))
  have hEd : cx_toI (m0 11) = cx_toI (m119 1) := by
    obtain ⟨v, q1, q2⟩ := hEQ.1.2.1 ((0, 11), (119, 1)) (List.mem_of_getElem? (i := 0) rfl)
    have q1 : rl_fld ws (0, 11) = some v := q1
    have q2 : rl_fld ws (119, 1) = some v := q2
    rw [cx_fldv w0 c0 (x := cx_toI (m0 11)) rfl rfl] at q1
    rw [cx_fldv w119 c119 (x := cx_toI (m119 1)) rfl rfl] at q2
    exact Value.int.inj (Option.some.inj (q1.trans q2.symm))
  obtain ⟨fs0, e0q, -⟩ := id c0
  subst e0q
  refine lx_x F0 hl (pc' := 299) (ab_tbo lto_2 _ _ _ (List.mem_of_getElem? (i := 0) rfl)) rfl ha0 ?_
  refine lx_arg F0 hiv hL hL2 hl (z := 1) (pc' := 305) rfl (ab_tbo lto_2 _ _ _ (List.mem_of_getElem? (i := 1) rfl)) (ab_tbo lto_2 _ _ _ (List.mem_of_getElem? (i := 2) rfl)) (ab_tbo lto_2 _ _ _ (List.mem_of_getElem? (i := 3) rfl)) (ab_tbo lto_2 _ _ _ (List.mem_of_getElem? (i := 4) rfl)) (ab_tbo lto_2 _ _ _ (List.mem_of_getElem? (i := 5) rfl)) rfl ?_
  refine lx_arg F0 hiv hL hL2 hl (z := 2) (pc' := 311) rfl (ab_tbo lto_2 _ _ _ (List.mem_of_getElem? (i := 6) rfl)) (ab_tbo lto_2 _ _ _ (List.mem_of_getElem? (i := 7) rfl)) (ab_tbo lto_2 _ _ _ (List.mem_of_getElem? (i := 8) rfl)) (ab_tbo lto_2 _ _ _ (List.mem_of_getElem? (i := 9) rfl)) (ab_tbo lto_2 _ _ _ (List.mem_of_getElem? (i := 10) rfl)) rfl ?_
  refine lx_arg F0 hiv hL hL2 hl (z := 3) (pc' := 317) rfl (ab_tbo lto_2 _ _ _ (List.mem_of_getElem? (i := 11) rfl)) (ab_tbo lto_2 _ _ _ (List.mem_of_getElem? (i := 12) rfl)) (ab_tbo lto_2 _ _ _ (List.mem_of_getElem? (i := 13) rfl)) (ab_tbo lto_2 _ _ _ (List.mem_of_getElem? (i := 14) rfl)) (ab_tbo lto_2 _ _ _ (List.mem_of_getElem? (i := 15) rfl)) rfl ?_
  obtain ⟨d1, hd1, Ct1⟩ := ct_gauge (dy := cx_toI (m0 11)) (x := xs (i0 + 1)) (w := xs (i0 + 2)) (v := xs (i0 + 3)) (r := r1) (t := t) (s := sw) l D cs tS ws [.ref a0, .int (xs (i0 + 1)), .int (xs (i0 + 2)), .int (xs (i0 + 3))] hX ⟨⟨a0, ha0, rfl⟩, rfl, rfl, rfl, trivial⟩
  refine lx_call F0 hcs hl (pc' := 320) (q := 130) (n := 3) (ci := 10) (As := [.int (xs (i0 + 1)), .int (xs (i0 + 2)), .int (xs (i0 + 3))]) (stk := []) (ab_tbo lto_2 _ _ _ (List.mem_of_getElem? (i := 16) rfl)) rfl rfl rfl w0 (by decide) ⟨d1, by omega, Ct1⟩ rfl (fun rv ws1 hp1 => ?_)
  obtain ⟨v, h1, ⟨z, rr, t2, s2, rfl, rfl, hga⟩, hk1, hf1, hH1, hrv⟩ := hp1
  obtain rfl : rv = some (.int z) := by
    cases rv with
    | none => exact hrv.elim
    | some y => exact congrArg some hrv
  show ab_W p l e room_1 s m #[Value.ref b] below meth c D vwCl A Q cells slots 320 ls [.int z] ws1
  refine lx_pop F0 (pc' := 321) (ab_tbo lto_2 _ _ _ (List.mem_of_getElem? (i := 17) rfl)) rfl ?_
  have hl1 := lx_Lc hl hf1.1
  have hM1 := cx_heap_far hM hf1 rfl
  have ha119b : (ws1.map (·.1))[119]? = some a119 := by rw [hf1.1]; exact ha119
  refine lx_m F0 hl1 (pc' := 322) (ab_tbo lto_2 _ _ _ (List.mem_of_getElem? (i := 18) rfl)) rfl ha119b ?_
  refine lx_arg F0 hiv hL hL2 hl1 (z := 1) (pc' := 328) rfl (ab_tbo lto_2 _ _ _ (List.mem_of_getElem? (i := 19) rfl)) (ab_tbo lto_2 _ _ _ (List.mem_of_getElem? (i := 20) rfl)) (ab_tbo lto_2 _ _ _ (List.mem_of_getElem? (i := 21) rfl)) (ab_tbo lto_2 _ _ _ (List.mem_of_getElem? (i := 22) rfl)) (ab_tbo lto_2 _ _ _ (List.mem_of_getElem? (i := 23) rfl)) rfl ?_
  refine lx_arg F0 hiv hL hL2 hl1 (z := 2) (pc' := 334) rfl (ab_tbo lto_2 _ _ _ (List.mem_of_getElem? (i := 24) rfl)) (ab_tbo lto_2 _ _ _ (List.mem_of_getElem? (i := 25) rfl)) (ab_tbo lto_2 _ _ _ (List.mem_of_getElem? (i := 26) rfl)) (ab_tbo lto_2 _ _ _ (List.mem_of_getElem? (i := 27) rfl)) (ab_tbo lto_2 _ _ _ (List.mem_of_getElem? (i := 28) rfl)) rfl ?_
  refine lx_arg F0 hiv hL hL2 hl1 (z := 3) (pc' := 340) rfl (ab_tbo lto_2 _ _ _ (List.mem_of_getElem? (i := 29) rfl)) (ab_tbo lto_2 _ _ _ (List.mem_of_getElem? (i := 30) rfl)) (ab_tbo lto_2 _ _ _ (List.mem_of_getElem? (i := 31) rfl)) (ab_tbo lto_2 _ _ _ (List.mem_of_getElem? (i := 32) rfl)) (ab_tbo lto_2 _ _ _ (List.mem_of_getElem? (i := 33) rfl)) rfl ?_
  obtain ⟨a119c, e119c, w119c, c119c⟩ := hM1 119 _ rfl
  obtain ⟨fs119c, e119d, -⟩ := id c119c
  subst e119d
  have eadd : a119c = a119 := ab_ad_get ha119b w119c
  rw [eadd] at w119c
  obtain ⟨d2, hd2, Ct2⟩ := ct_mgauge (x := xs (i0 + 1)) (w := xs (i0 + 2)) (v := xs (i0 + 3)) (mi := fun i => cx_toI (m119 i)) (ml := fun i => cx_toL (m119 i)) (r := r2) (t := tm) (s := sm) l D cs tS ws1 [.ref a119, .int (xs (i0 + 1)), .int (xs (i0 + 2)), .int (xs (i0 + 3))] hM1 ⟨⟨a119, ha119b, rfl⟩, rfl, rfl, rfl, trivial⟩
  refine lx_call F0 hcs hl1 (pc' := 343) (q := 188) (n := 3) (ci := 11) (As := [.int (xs (i0 + 1)), .int (xs (i0 + 2)), .int (xs (i0 + 3))]) (stk := []) (ab_tbo lto_2 _ _ _ (List.mem_of_getElem? (i := 34) rfl)) rfl rfl rfl w119c (by first | decide | exact (by decide : (1 : Nat) ≤ 8)) ⟨d2, by omega, Ct2⟩ rfl (fun rv2 ws2 hp2 => ?_)
  obtain ⟨v2, h2, ⟨z2, rr2, tm2, sm2, rfl, rfl, hgm⟩, hk2, hf2, hH2, hrv2⟩ := hp2
  obtain rfl : rv2 = some (.int z2) := by
    cases rv2 with
    | none => exact hrv2.elim
    | some y => exact congrArg some hrv2
  show ab_W p l e room_1 s m #[Value.ref b] below meth c D vwCl A Q cells slots 343 ls [.int z2] ws2
  obtain ⟨hfin, hEt2, hEs2⟩ := gaE hEt hEs hga hgm
  obtain ⟨hut3, hus3⟩ := gaU hga hut hus
  obtain ⟨hut4, hus4⟩ := gaU hgm hut2 hus2
  have hlen1 : ws1.length = 165 := by have := congrArg List.length hf1.1; simpa [hlen] using this
  have hlen2 : ws2.length = 165 := by have := congrArg List.length hf2.1; simpa [hlen1] using this
  have hth1 : ab_th tS (ab_tys cs) th ws1 := lx_done (fl := []) hth hX hH1 ⟨⟨rfl, rfl, Or.inr rfl, Or.inr rfl, Or.inr rfl, Or.inr rfl, Or.inr rfl, Or.inr rfl, Or.inr rfl, Or.inr rfl, Or.inr rfl, Or.inr rfl, Or.inr rfl, Or.inr rfl, trivial⟩, ⟨rfl, trivial⟩, ⟨rfl, rfl, Or.inr rfl, Or.inr rfl, Or.inr rfl, Or.inr rfl, trivial⟩, ⟨rfl, trivial⟩, ⟨rfl, trivial⟩, trivial⟩ hf1 (po := [(0, ci_0), (1, ci_1), (2, ci_2), (3, ci_3), (4, ci_4)]) (List.forall_mem_cons.mpr ⟨lx_po hH1 rfl (fun e2 q => cx_to_obj (N := 12) q rfl (otl_0 (mi := fun _ => cx_toI (m0 11)))), (List.forall_mem_cons.mpr ⟨lx_po hH1 rfl (fun e2 q => cx_to_row q cx_anyU), (List.forall_mem_cons.mpr ⟨lx_po hH1 rfl (fun e2 q => cx_to_obj (N := 4) q rfl (otl_2 (mi := fun _ => 0))), (List.forall_mem_cons.mpr ⟨lx_po hH1 rfl (fun e2 q => cx_to_row (U := [(.negSucc 8, .ofNat 9), (.ofNat 99, .ofNat 99)]) q (fun i hi => cx_Ut (hut3 i hi))), (List.forall_mem_cons.mpr ⟨lx_po hH1 rfl (fun e2 q => cx_to_row (U := [(.ofNat 0, .ofNat 9), (.ofNat 99, .ofNat 99)]) q (fun i hi => cx_Us (hus3 i hi))), (fun _ h => absurd h List.not_mem_nil)⟩)⟩)⟩)⟩)⟩) (List.all_eq_true.mp tk2x th hmem)
  have hth2 : ab_th tS (ab_tys cs) th ws2 := lx_done (fl := [8616]) hth1 hM1 hH2 ⟨⟨rfl, rfl, Or.inl rfl, Or.inr rfl, Or.inr rfl, Or.inr rfl, Or.inr rfl, Or.inr rfl, Or.inr rfl, Or.inr rfl, Or.inr rfl, Or.inr rfl, Or.inr rfl, Or.inr rfl, Or.inr rfl, Or.inr rfl, Or.inr rfl, Or.inr rfl, Or.inr rfl, Or.inr rfl, Or.inr rfl, Or.inr rfl, Or.inr rfl, Or.inr rfl, Or.inr rfl, Or.inr rfl, Or.inr rfl, Or.inr rfl, Or.inr rfl, Or.inr rfl, Or.inr rfl, Or.inr rfl, Or.inr rfl, Or.inr rfl, Or.inr rfl, Or.inr rfl, Or.inr rfl, Or.inr rfl, Or.inr rfl, Or.inr rfl, Or.inr rfl, Or.inr rfl, Or.inr rfl, Or.inr rfl, Or.inr rfl, Or.inr rfl, Or.inr rfl, Or.inr rfl, Or.inr rfl, Or.inr rfl, Or.inr rfl, Or.inr rfl, Or.inr rfl, Or.inr rfl, Or.inr rfl, Or.inr rfl, Or.inr rfl, Or.inr rfl, Or.inr rfl, Or.inr rfl, Or.inr rfl, Or.inr rfl, Or.inr rfl, Or.inr rfl, Or.inr rfl, Or.inr rfl, Or.inr rfl, Or.inr rfl, Or.inr rfl, Or.inr rfl, trivial⟩, ⟨rfl, trivial⟩, ⟨rfl, trivial⟩, ⟨rfl, trivial⟩, trivial⟩ hf2 (po := [(119, ci_119), (126, ci_126), (122, ci_122), (123, ci_123)]) (List.forall_mem_cons.mpr ⟨lx_po hH2 rfl (fun e2 q => cx_to_obj (N := 68) q rfl (otl_119 (mi := upi (fun i => cx_toI (m119 i)) 0 (Int32.ofInt 0)) hbd119)), (List.forall_mem_cons.mpr ⟨lx_po hH2 rfl (fun e2 q => cx_to_row q cx_anyU), (List.forall_mem_cons.mpr ⟨lx_po hH2 rfl (fun e2 q => cx_to_row (U := [(.negSucc 8, .ofNat 9), (.ofNat 99, .ofNat 99)]) q (fun i hi => cx_Ut (hut4 i hi))), (List.forall_mem_cons.mpr ⟨lx_po hH2 rfl (fun e2 q => cx_to_row (U := [(.ofNat 0, .ofNat 9), (.ofNat 99, .ofNat 99)]) q (fun i hi => cx_Us (hus4 i hi))), (fun _ h => absurd h List.not_mem_nil)⟩)⟩)⟩)⟩) (List.all_eq_true.mp tk2m th hmem)
  have hg1 := cx_gr (fl := []) hX hH1 ⟨⟨rfl, rfl, Or.inr rfl, Or.inr rfl, Or.inr rfl, Or.inr rfl, Or.inr rfl, Or.inr rfl, Or.inr rfl, Or.inr rfl, Or.inr rfl, Or.inr rfl, Or.inr rfl, Or.inr rfl, trivial⟩, ⟨rfl, trivial⟩, ⟨rfl, rfl, Or.inr rfl, Or.inr rfl, Or.inr rfl, Or.inr rfl, trivial⟩, ⟨rfl, trivial⟩, ⟨rfl, trivial⟩, trivial⟩ hf1
  have hg2 := cx_gr (fl := [8616]) hM1 hH2 ⟨⟨rfl, rfl, Or.inl rfl, Or.inr rfl, Or.inr rfl, Or.inr rfl, Or.inr rfl, Or.inr rfl, Or.inr rfl, Or.inr rfl, Or.inr rfl, Or.inr rfl, Or.inr rfl, Or.inr rfl, Or.inr rfl, Or.inr rfl, Or.inr rfl, Or.inr rfl, Or.inr rfl, Or.inr rfl, Or.inr rfl, Or.inr rfl, Or.inr rfl, Or.inr rfl, Or.inr rfl, Or.inr rfl, Or.inr rfl, Or.inr rfl, Or.inr rfl, Or.inr rfl, Or.inr rfl, Or.inr rfl, Or.inr rfl, Or.inr rfl, Or.inr rfl, Or.inr rfl, Or.inr rfl, Or.inr rfl, Or.inr rfl, Or.inr rfl, Or.inr rfl, Or.inr rfl, Or.inr rfl, Or.inr rfl, Or.inr rfl, Or.inr rfl, Or.inr rfl, Or.inr rfl, Or.inr rfl, Or.inr rfl, Or.inr rfl, Or.inr rfl, Or.inr rfl, Or.inr rfl, Or.inr rfl, Or.inr rfl, Or.inr rfl, Or.inr rfl, Or.inr rfl, Or.inr rfl, Or.inr rfl, Or.inr rfl, Or.inr rfl, Or.inr rfl, Or.inr rfl, Or.inr rfl, Or.inr rfl, Or.inr rfl, Or.inr rfl, Or.inr rfl, trivial⟩, ⟨rfl, trivial⟩, ⟨rfl, trivial⟩, ⟨rfl, trivial⟩, trivial⟩ hf2
  refine lx_pop F0 (pc' := 344) (ab_tbo lto_2 _ _ _ (List.mem_of_getElem? (i := 35) rfl)) rfl ?_
  refine lx_goto F0 (pc' := 1810) (ab_tbo lto_2 _ _ _ (List.mem_of_getElem? (i := 36) rfl)) rfl ?_
  have hX2 := cx_heap_far hH1 hf2 rfl
  refine K ls ws2 (lx_Lc hl1 hf2.1) ⟨th, hmem, hth2⟩ ?_ hlen2
  refine ⟨⟨List.forall_mem_cons.mpr ⟨?_, List.forall_mem_cons.mpr ⟨?_, List.forall_mem_cons.mpr ⟨?_, fun q h => absurd h List.not_mem_nil⟩⟩⟩, List.forall_mem_cons.mpr ⟨?_, fun q h => absurd h List.not_mem_nil⟩, fun q h => absurd h List.not_mem_nil⟩, trivial⟩
  · obtain ⟨ax, ex, wx, cx⟩ := hX2 3 _ rfl
    obtain ⟨ay, ey, wy, cy⟩ := hH2 122 _ rfl
    exact ⟨_, cx_row1 (cx_rowv wx cx), (cx_rowv wy cy).trans (congrArg some (cx_rowM (fun i hi => (hEt2 i hi).symm)))⟩
  · obtain ⟨ax, ex, wx, cx⟩ := hX2 4 _ rfl
    obtain ⟨ay, ey, wy, cy⟩ := hH2 123 _ rfl
    exact ⟨_, cx_row1 (cx_rowv wx cx), (cx_rowv wy cy).trans (congrArg some (cx_rowM (fun i hi => (hEs2 i hi).symm)))⟩
  · obtain ⟨v, q1, q2⟩ := hEQ.1.1 ([17, 18, 19, 20], 121) (List.mem_of_getElem? (i := 2) rfl)
    exact ⟨v, rl_rows_keep hg2 (List.forall_mem_cons.mpr ⟨rfl, (List.forall_mem_cons.mpr ⟨rfl, (List.forall_mem_cons.mpr ⟨rfl, (List.forall_mem_cons.mpr ⟨rfl, (fun _ h => absurd h List.not_mem_nil)⟩)⟩)⟩)⟩) (rl_rows_keep hg1 (List.forall_mem_cons.mpr ⟨rfl, (List.forall_mem_cons.mpr ⟨rfl, (List.forall_mem_cons.mpr ⟨rfl, (List.forall_mem_cons.mpr ⟨rfl, (fun _ h => absurd h List.not_mem_nil)⟩)⟩)⟩)⟩) q1), rl_row_keep hg2 rfl (rl_row_keep hg1 rfl q2)⟩
  · obtain ⟨ax, ex, wx, cx⟩ := hX2 0 _ rfl
    obtain ⟨ay, ey, wy, cy⟩ := hH2 119 _ rfl
    exact ⟨_, cx_fldv wx cx (x := cx_toI (m0 11)) rfl rfl, (cx_fldv wy cy (x := cx_toI (m119 1)) rfl rfl).trans (by rw [hEd])⟩
theorem mam_bd {mi mi2 t s : Nat → Int32} {h : Nat} (hm : mam mi mi2 t s h) (hh : h < 16 ∨ mi2 = upi mi 0 (Int32.ofInt 0)) (hb : obd_119 mi) (ht : ∀ i : Nat, i < 16 → tdU (t i).toInt) (hs : ∀ i : Nat, i < 16 → tdV (s i).toInt) : obd_119 mi2 := by
  rcases hm with q | ⟨k, lo, hi, q1, q2, q3⟩
  · rw [q]; exact hb
  · rcases hh with hh | hh
    · have ha := td_aU h (fun i hi => ht i (by omega))
      have hb2 := td_bU (16 - h) h (fun i h1 h2 => ht i (by omega))
      have hl : -9 ≤ lo.toInt ∧ lo.toInt ≤ 9 := by
        rw [q1]; unfold tdU at ha hb2; unfold td_lo
        split
        · omega
        · split <;> omega
      have hi2 : -9 ≤ hi.toInt ∧ hi.toInt ≤ 9 := by
        rw [q2]; unfold tdU at ha hb2; unfold td_hi
        split <;> omega
      have hg : ∀ k : Nat, k ≤ 16 → (sw_g s k).toInt ≤ 99 := by
        intro k
        induction k with
        | zero => intro _; show (Int32.ofInt (-1)).toInt ≤ 99; decide +kernel
        | succ k ih =>
          intro hk
          rw [sw_g]
          have := hs k (by omega)
          unfold tdV at this
          split
          · omega
          · exact ih (by omega)
      have hsx : 0 ≤ (sw_x s h).toInt ∧ (sw_x s h).toInt ≤ 99 := by
        unfold sw_x
        have h0 := hs h hh
        unfold tdV at h0
        have hg16 := hg 16 (Nat.le_refl _)
        split
        · split
          · omega
          · exact (by decide +kernel)
        · omega
      rw [q3]
      unfold obd_119 at hb ⊢
      obtain ⟨g8, g10, g11, g12, g21, g24, g27, g29, g31, g41, g42, g43, g44, g55, g61⟩ := hb
      exact ⟨g8, hl, hi2, hsx, g21, g24, g27, g29, g31, g41, g42, g43, g44, g55, g61⟩
    · rw [hh]; exact hb
theorem tk5a : lw_THs.all (fun th => tr_3 th [(0, ci_0), (1, ci_1), (15, ci_15), (16, ci_16), (17, ci_17), (18, ci_18), (19, ci_19), (20, ci_20), (2, ci_2), (3, ci_3), (4, ci_4), (119, ci_119), (126, ci_126), (121, ci_121), (122, ci_122), (123, ci_123), (127, ci_127)]) = true := by decide +kernel
theorem tk5x : lw_THs.all (fun th => th.all (tr_1 (cx_M [0, 1, 15, 16, 17, 18, 19, 20, 2, 3, 4] []) th [(0, ci_0), (1, ci_1), (15, ci_15), (16, ci_16), (17, ci_17), (18, ci_18), (19, ci_19), (20, ci_20), (2, ci_2), (3, ci_3), (4, ci_4)])) = true := by decide +kernel
theorem tk5m : lw_THs.all (fun th => th.all (tr_1 (cx_M [119, 126, 121, 122, 123, 127] [8616, 8626, 8627, 8628]) th [(119, ci_119), (126, ci_126), (121, ci_121), (122, ci_122), (123, ci_123), (127, ci_127)])) = true := by decide +kernel
theorem tz_5 : ∀ th ∈ lw_THs, lw_TQ 433 th := by
  intro th hmem p l e s m below meth c D A Q cs tS b L i0 cells slots xs iv ws ls F0 hcs hiv hL hL2 hl hth hEQ hlen K
  have h3 := tr_3_ok (List.all_eq_true.mp tk5a th hmem) hth
  obtain ⟨a0, e0, w0, t0⟩ := h3 _ (List.mem_of_getElem? (i := 0) rfl)
  obtain ⟨a1, e1, w1, t1⟩ := h3 _ (List.mem_of_getElem? (i := 1) rfl)
  obtain ⟨a15, e15, w15, t15⟩ := h3 _ (List.mem_of_getElem? (i := 2) rfl)
  obtain ⟨a16, e16, w16, t16⟩ := h3 _ (List.mem_of_getElem? (i := 3) rfl)
  obtain ⟨a17, e17, w17, t17⟩ := h3 _ (List.mem_of_getElem? (i := 4) rfl)
  obtain ⟨a18, e18, w18, t18⟩ := h3 _ (List.mem_of_getElem? (i := 5) rfl)
  obtain ⟨a19, e19, w19, t19⟩ := h3 _ (List.mem_of_getElem? (i := 6) rfl)
  obtain ⟨a20, e20, w20, t20⟩ := h3 _ (List.mem_of_getElem? (i := 7) rfl)
  obtain ⟨a2, e2, w2, t2⟩ := h3 _ (List.mem_of_getElem? (i := 8) rfl)
  obtain ⟨a3, e3, w3, t3⟩ := h3 _ (List.mem_of_getElem? (i := 9) rfl)
  obtain ⟨a4, e4, w4, t4⟩ := h3 _ (List.mem_of_getElem? (i := 10) rfl)
  obtain ⟨a119, e119, w119, t119⟩ := h3 _ (List.mem_of_getElem? (i := 11) rfl)
  obtain ⟨a126, e126, w126, t126⟩ := h3 _ (List.mem_of_getElem? (i := 12) rfl)
  obtain ⟨a121, e121, w121, t121⟩ := h3 _ (List.mem_of_getElem? (i := 13) rfl)
  obtain ⟨a122, e122, w122, t122⟩ := h3 _ (List.mem_of_getElem? (i := 14) rfl)
  obtain ⟨a123, e123, w123, t123⟩ := h3 _ (List.mem_of_getElem? (i := 15) rfl)
  obtain ⟨a127, e127, w127, t127⟩ := h3 _ (List.mem_of_getElem? (i := 16) rfl)
  obtain ⟨m0, c0, b0⟩ := cx_of_obj (ci := 10) (N := 12) (tvs := ots_0) t0
  obtain ⟨r1, c1, u1⟩ := cx_of_row (t := 0) (N := 7) (Or.inl rfl) t1
  obtain ⟨m15, c15, b15⟩ := cx_of_obj (ci := 7) (N := 2) (tvs := ots_15) t15
  have c16 := cx_of_rows (t := 3) (N := 4) (ks := [17, 18, 19, 20]) (Or.inl rfl) t16
  obtain ⟨kk0, c17, u17⟩ := cx_of_row (t := 0) (N := 24) (Or.inl rfl) t17
  obtain ⟨kk1, c18, u18⟩ := cx_of_row (t := 0) (N := 24) (Or.inl rfl) t18
  obtain ⟨kk2, c19, u19⟩ := cx_of_row (t := 0) (N := 24) (Or.inl rfl) t19
  obtain ⟨kk3, c20, u20⟩ := cx_of_row (t := 0) (N := 24) (Or.inl rfl) t20
  obtain ⟨m2, c2, b2⟩ := cx_of_obj (ci := 8) (N := 4) (tvs := ots_2) t2
  obtain ⟨t, c3, u3⟩ := cx_of_row (t := 0) (N := 16) (Or.inl rfl) t3
  obtain ⟨sw, c4, u4⟩ := cx_of_row (t := 0) (N := 16) (Or.inl rfl) t4
  obtain ⟨m119, c119, b119⟩ := cx_of_obj (ci := 11) (N := 68) (tvs := ots_119) t119
  have hbd119 := obd_119_of b119
  obtain ⟨r2, c126, u126⟩ := cx_of_row (t := 0) (N := 7) (Or.inl rfl) t126
  obtain ⟨g, c121, u121⟩ := cx_of_row (t := 0) (N := 96) (Or.inl rfl) t121
  obtain ⟨tm, c122, u122⟩ := cx_of_row (t := 0) (N := 16) (Or.inl rfl) t122
  obtain ⟨sm, c123, u123⟩ := cx_of_row (t := 0) (N := 16) (Or.inl rfl) t123
  obtain ⟨E, c127, u127⟩ := cx_of_row (t := 0) (N := 25) (Or.inl rfl) t127
  have hX : cx_heap tS cs (h_xf (cx_toI (m0 11)) r1 (F4 kk0 kk1 kk2 kk3) t sw) ws := cx_heap_of (List.forall_mem_cons.mpr ⟨⟨a0, e0, w0, c0⟩, (List.forall_mem_cons.mpr ⟨⟨a1, e1, w1, c1⟩, (List.forall_mem_cons.mpr ⟨⟨a15, e15, w15, c15⟩, (List.forall_mem_cons.mpr ⟨⟨a16, e16, w16, c16⟩, (List.forall_mem_cons.mpr ⟨⟨a17, e17, w17, c17⟩, (List.forall_mem_cons.mpr ⟨⟨a18, e18, w18, c18⟩, (List.forall_mem_cons.mpr ⟨⟨a19, e19, w19, c19⟩, (List.forall_mem_cons.mpr ⟨⟨a20, e20, w20, c20⟩, (List.forall_mem_cons.mpr ⟨⟨a2, e2, w2, c2⟩, (List.forall_mem_cons.mpr ⟨⟨a3, e3, w3, c3⟩, (List.forall_mem_cons.mpr ⟨⟨a4, e4, w4, c4⟩, (fun _ h => absurd h List.not_mem_nil)⟩)⟩)⟩)⟩)⟩)⟩)⟩)⟩)⟩)⟩)⟩)
  have hM : cx_heap tS cs (h_ml (fun i => cx_toI (m119 i)) (fun i => cx_toL (m119 i)) r2 g tm sm E) ws := cx_heap_of (List.forall_mem_cons.mpr ⟨⟨a119, e119, w119, c119⟩, (List.forall_mem_cons.mpr ⟨⟨a126, e126, w126, c126⟩, (List.forall_mem_cons.mpr ⟨⟨a121, e121, w121, c121⟩, (List.forall_mem_cons.mpr ⟨⟨a122, e122, w122, c122⟩, (List.forall_mem_cons.mpr ⟨⟨a123, e123, w123, c123⟩, (List.forall_mem_cons.mpr ⟨⟨a127, e127, w127, c127⟩, (fun _ h => absurd h List.not_mem_nil)⟩)⟩)⟩)⟩)⟩)⟩)
  have ha0 : (ws.map (·.1))[0]? = some a0 := by rw [List.getElem?_map, w0]; rfl
  have ha119 : (ws.map (·.1))[119]? = some a119 := by rw [List.getElem?_map, w119]; rfl
  have hut : ∀ i : Nat, i < 16 → tdU (t i).toInt := fun i hi => by have h9 : (-9 ≤ (t i).toInt ∧ (t i).toInt ≤ 9) ∨ (99 ≤ (t i).toInt ∧ (t i).toInt ≤ 99) := cx_U2o (u3 i hi); unfold tdU; omega
  have hus : ∀ i : Nat, i < 16 → tdV (sw i).toInt := fun i hi => by have h9 : (0 ≤ (sw i).toInt ∧ (sw i).toInt ≤ 9) ∨ (99 ≤ (sw i).toInt ∧ (sw i).toInt ≤ 99) := cx_U2o (u4 i hi); unfold tdV; omega
  have hut2 : ∀ i : Nat, i < 16 → tdU (tm i).toInt := fun i hi => by have h9 : (-9 ≤ (tm i).toInt ∧ (tm i).toInt ≤ 9) ∨ (99 ≤ (tm i).toInt ∧ (tm i).toInt ≤ 99) := cx_U2o (u122 i hi); unfold tdU; omega
  have hus2 : ∀ i : Nat, i < 16 → tdV (sm i).toInt := fun i hi => by have h9 : (0 ≤ (sm i).toInt ∧ (sm i).toInt ≤ 9) ∨ (99 ≤ (sm i).toInt ∧ (sm i).toInt ≤ 99) := cx_U2o (u123 i hi); unfold tdV; omega
  have hEt : ∀ i : Nat, i < 16 → t i = tm i := by
    obtain ⟨v, q1, q2⟩ := hEQ.1.1 ([3], 122) (List.mem_of_getElem? (i := 0) rfl)
    have q1 : rl_rows ws [3] = some v := q1
    have q2 : rl_row ws 122 = some v := q2
    rw [cx_row1 (cx_rowv w3 c3)] at q1
    rw [cx_rowv w122 c122] at q2
    exact cx_rowE (Option.some.inj (q1.trans q2.symm))
  have hEs : ∀ i : Nat, i < 16 → sw i = sm i := by
    obtain ⟨v, q1, q2⟩ := hEQ.1.1 ([4], 123) (List.mem_of_getElem? (i := 1) rfl)
    have q1 : rl_rows ws [4] = some v := q1
    have q2 : rl_row ws 123 = some v := q2
    rw [cx_row1 (cx_rowv w4 c4)] at q1
    rw [cx_rowv w123 c123] at q2
    exact cx_rowE (Option.some.inj (q1.trans q2.symm))
  have hEd : cx_toI (m0 11) = cx_toI (m119 1) := by
    obtain ⟨v, q1, q2⟩ := hEQ.1.2.1 ((0, 11), (119, 1)) (List.mem_of_getElem? (i := 0) rfl)
    have q1 : rl_fld ws (0, 11) = some v := q1
    have q2 : rl_fld ws (119, 1) = some v := q2
    rw [cx_fldv w0 c0 (x := cx_toI (m0 11)) rfl rfl] at q1
    rw [cx_fldv w119 c119 (x := cx_toI (m119 1)) rfl rfl] at q2
    exact Value.int.inj (Option.some.inj (q1.trans q2.symm))
  have hEb : ∀ b u : Nat, b < 4 → u < 24 → F4 kk0 kk1 kk2 kk3 b u = g (24 * b + u) := by
    obtain ⟨v, q1, q2⟩ := hEQ.1.1 ([17, 18, 19, 20], 121) (List.mem_of_getElem? (i := 2) rfl)
    have q1 : rl_rows ws [17, 18, 19, 20] = some v := q1
    have q2 : rl_row ws 121 = some v := q2
    rw [cx_row4 (cx_rowv w17 c17) (cx_rowv w18 c18) (cx_rowv w19 c19) (cx_rowv w20 c20)] at q1
    rw [cx_rowv w121 c121] at q2
    exact cx_rowE24 (F := F4 kk0 kk1 kk2 kk3) (Option.some.inj (q2.trans q1.symm))
  have hbk : ∀ b : Nat, b < 4 → bkU (F4 kk0 kk1 kk2 kk3 b) := fun b hb => by
    rcases (show b = 0 ∨ b = 1 ∨ b = 2 ∨ b = 3 by omega) with rfl | rfl | rfl | rfl
    · intro i hi
      have h9 : -9 ≤ (kk0 i).toInt ∧ (kk0 i).toInt ≤ 9 := cx_U1o (u17 i hi)
      exact h9
    · intro i hi
      have h9 : -9 ≤ (kk1 i).toInt ∧ (kk1 i).toInt ≤ 9 := cx_U1o (u18 i hi)
      exact h9
    · intro i hi
      have h9 : -9 ≤ (kk2 i).toInt ∧ (kk2 i).toInt ≤ 9 := cx_U1o (u19 i hi)
      exact h9
    · intro i hi
      have h9 : -9 ≤ (kk3 i).toInt ∧ (kk3 i).toInt ≤ 9 := cx_U1o (u20 i hi)
      exact h9
  have husw : ∀ i : Nat, i < 16 → swU (sm i).toInt := fun i hi => by
    have h9 := hus2 i hi
    unfold tdV at h9
    unfold swU
    omega
  obtain ⟨fs0, e0q, -⟩ := id c0
  subst e0q
  refine lx_x F0 hl (pc' := 434) (ab_tbo lto_5 _ _ _ (List.mem_of_getElem? (i := 0) rfl)) rfl ha0 ?_
  refine lx_arg F0 hiv hL hL2 hl (z := 1) (pc' := 440) rfl (ab_tbo lto_5 _ _ _ (List.mem_of_getElem? (i := 1) rfl)) (ab_tbo lto_5 _ _ _ (List.mem_of_getElem? (i := 2) rfl)) (ab_tbo lto_5 _ _ _ (List.mem_of_getElem? (i := 3) rfl)) (ab_tbo lto_5 _ _ _ (List.mem_of_getElem? (i := 4) rfl)) (ab_tbo lto_5 _ _ _ (List.mem_of_getElem? (i := 5) rfl)) rfl ?_
  refine lx_arg F0 hiv hL hL2 hl (z := 2) (pc' := 446) rfl (ab_tbo lto_5 _ _ _ (List.mem_of_getElem? (i := 6) rfl)) (ab_tbo lto_5 _ _ _ (List.mem_of_getElem? (i := 7) rfl)) (ab_tbo lto_5 _ _ _ (List.mem_of_getElem? (i := 8) rfl)) (ab_tbo lto_5 _ _ _ (List.mem_of_getElem? (i := 9) rfl)) (ab_tbo lto_5 _ _ _ (List.mem_of_getElem? (i := 10) rfl)) rfl ?_
  refine lx_arg F0 hiv hL hL2 hl (z := 3) (pc' := 452) rfl (ab_tbo lto_5 _ _ _ (List.mem_of_getElem? (i := 11) rfl)) (ab_tbo lto_5 _ _ _ (List.mem_of_getElem? (i := 12) rfl)) (ab_tbo lto_5 _ _ _ (List.mem_of_getElem? (i := 13) rfl)) (ab_tbo lto_5 _ _ _ (List.mem_of_getElem? (i := 14) rfl)) (ab_tbo lto_5 _ _ _ (List.mem_of_getElem? (i := 15) rfl)) rfl ?_
  obtain ⟨d1, hd1, Ct1⟩ := ct_lo (dy := cx_toI (m0 11)) (b := xs (i0 + 1)) (x := xs (i0 + 2)) (w := xs (i0 + 3)) (r := r1) (F := (F4 kk0 kk1 kk2 kk3)) (t := t) (s := sw) hbk hut l D cs tS ws [.ref a0, .int (xs (i0 + 1)), .int (xs (i0 + 2)), .int (xs (i0 + 3))] hX ⟨⟨a0, ha0, rfl⟩, rfl, rfl, rfl, trivial⟩
  refine lx_call F0 hcs hl (pc' := 455) (q := 133) (n := 3) (ci := 10) (As := [.int (xs (i0 + 1)), .int (xs (i0 + 2)), .int (xs (i0 + 3))]) (stk := []) (ab_tbo lto_5 _ _ _ (List.mem_of_getElem? (i := 16) rfl)) rfl rfl rfl w0 (by decide) ⟨d1, by omega, Ct1⟩ rfl (fun rv ws1 hp1 => ?_)
  obtain ⟨v, h1, ⟨z, rr, rfl, rfl, hma⟩, hk1, hf1, hH1, hrv⟩ := hp1
  obtain rfl : rv = some (.int z) := by
    cases rv with
    | none => exact hrv.elim
    | some y => exact congrArg some hrv
  show ab_W p l e room_1 s m #[Value.ref b] below meth c D vwCl A Q cells slots 455 ls [.int z] ws1
  have hl1 := lx_Lc hl hf1.1
  have hM1 := cx_heap_far hM hf1 rfl
  have ha119b : (ws1.map (·.1))[119]? = some a119 := by rw [hf1.1]; exact ha119
  refine lx_m F0 hl1 (pc' := 456) (ab_tbo lto_5 _ _ _ (List.mem_of_getElem? (i := 17) rfl)) rfl ha119b ?_
  refine lx_arg F0 hiv hL hL2 hl1 (z := 1) (pc' := 462) rfl (ab_tbo lto_5 _ _ _ (List.mem_of_getElem? (i := 18) rfl)) (ab_tbo lto_5 _ _ _ (List.mem_of_getElem? (i := 19) rfl)) (ab_tbo lto_5 _ _ _ (List.mem_of_getElem? (i := 20) rfl)) (ab_tbo lto_5 _ _ _ (List.mem_of_getElem? (i := 21) rfl)) (ab_tbo lto_5 _ _ _ (List.mem_of_getElem? (i := 22) rfl)) rfl ?_
  refine lx_arg F0 hiv hL hL2 hl1 (z := 2) (pc' := 468) rfl (ab_tbo lto_5 _ _ _ (List.mem_of_getElem? (i := 23) rfl)) (ab_tbo lto_5 _ _ _ (List.mem_of_getElem? (i := 24) rfl)) (ab_tbo lto_5 _ _ _ (List.mem_of_getElem? (i := 25) rfl)) (ab_tbo lto_5 _ _ _ (List.mem_of_getElem? (i := 26) rfl)) (ab_tbo lto_5 _ _ _ (List.mem_of_getElem? (i := 27) rfl)) rfl ?_
  refine lx_arg F0 hiv hL hL2 hl1 (z := 3) (pc' := 474) rfl (ab_tbo lto_5 _ _ _ (List.mem_of_getElem? (i := 28) rfl)) (ab_tbo lto_5 _ _ _ (List.mem_of_getElem? (i := 29) rfl)) (ab_tbo lto_5 _ _ _ (List.mem_of_getElem? (i := 30) rfl)) (ab_tbo lto_5 _ _ _ (List.mem_of_getElem? (i := 31) rfl)) (ab_tbo lto_5 _ _ _ (List.mem_of_getElem? (i := 32) rfl)) rfl ?_
  obtain ⟨a119c, e119c, w119c, c119c⟩ := hM1 119 _ rfl
  obtain ⟨fs119c, e119d, -⟩ := id c119c
  subst e119d
  have eadd : a119c = a119 := ab_ad_get ha119b w119c
  rw [eadd] at w119c
  obtain ⟨d2, hd2, Ct2⟩ := ct_mlo (b := xs (i0 + 1)) (x := xs (i0 + 2)) (w := xs (i0 + 3)) (E := E) (mi := fun i => cx_toI (m119 i)) (ml := fun i => cx_toL (m119 i)) (r := r2) (g := g) (F := (F4 kk0 kk1 kk2 kk3)) (t := tm) (s := sm) (fun b hb u hu => (hEb b u hb hu).symm) hbk hut2 husw l D cs tS ws1 [.ref a119, .int (xs (i0 + 1)), .int (xs (i0 + 2)), .int (xs (i0 + 3))] hM1 ⟨⟨a119, ha119b, rfl⟩, rfl, rfl, rfl, trivial⟩
  refine lx_call F0 hcs hl1 (pc' := 477) (q := 197) (n := 3) (ci := 11) (As := [.int (xs (i0 + 1)), .int (xs (i0 + 2)), .int (xs (i0 + 3))]) (stk := [.int z]) (ab_tbo lto_5 _ _ _ (List.mem_of_getElem? (i := 33) rfl)) rfl rfl rfl w119c (by first | decide | exact (by decide : (1 : Nat) ≤ 8)) ⟨d2, by omega, Ct2⟩ rfl (fun rv2 ws2 hp2 => ?_)
  obtain ⟨v2, h2, ⟨z2, rr2, mi2, E2, rfl, hmm, hmn, rfl, hmb⟩, hk2, hf2, hH2, hrv2⟩ := hp2
  obtain rfl : rv2 = some (.int z2) := by
    cases rv2 with
    | none => exact hrv2.elim
    | some y => exact congrArg some hrv2
  show ab_W p l e room_1 s m #[Value.ref b] below meth c D vwCl A Q cells slots 477 ls [.int z2, .int z] ws2
  have hmi : ∀ i : Nat, (Nat.beq i 0 || (Nat.beq i 10 || (Nat.beq i 11 || (Nat.beq i 12)))) = false → cx_toI (m119 i) = mi2 i := fun i hi => by
    simp only [Bool.or_eq_false_iff] at hi
    obtain ⟨u0, u1, u2, u3⟩ := hi
    rcases hmm with u | ⟨lo, hi, -, -, u⟩ <;> rw [u] <;> simp only [upi, u0, u1, u2, u3, cond_false]
  have hmm2 : mam (fun i => cx_toI (m119 i)) mi2 tm sm (xs (i0 + 2)).toNatClampNeg := by
    rcases hmm with u | ⟨lo, hi, g1, g2, u⟩
    · exact Or.inl u
    · exact Or.inr ⟨0, lo, hi, g1, g2, u⟩
  have hfin := loE hEt hEs hma hmb
  have hb2 : obd_119 mi2 := mam_bd hmm2 (by
    by_cases q : 0 ≤ (xs (i0 + 2)).toInt ∧ (xs (i0 + 2)).toInt < 16
    · exact Or.inl (by have := ab_clamp (x := xs (i0 + 2)) q.1; omega)
    · exact Or.inr (hmn q)) hbd119 hut2 hus2
  have hd2 : mi2 1 = cx_toI (m119 1) := by
    rcases hmm with u | ⟨lo, hi, -, -, u⟩ <;> rw [u] <;> rfl
  have hlen1 : ws1.length = 165 := by have := congrArg List.length hf1.1; simpa [hlen] using this
  have hlen2 : ws2.length = 165 := by have := congrArg List.length hf2.1; simpa [hlen1] using this
  have hth1 : ab_th tS (ab_tys cs) th ws1 := lx_done (fl := []) hth hX hH1 ⟨⟨rfl, rfl, Or.inr rfl, Or.inr rfl, Or.inr rfl, Or.inr rfl, Or.inr rfl, Or.inr rfl, Or.inr rfl, Or.inr rfl, Or.inr rfl, Or.inr rfl, Or.inr rfl, Or.inr rfl, trivial⟩, ⟨rfl, trivial⟩, ⟨rfl, rfl, Or.inr rfl, Or.inr rfl, trivial⟩, ⟨rfl, trivial⟩, ⟨rfl, trivial⟩, ⟨rfl, trivial⟩, ⟨rfl, trivial⟩, ⟨rfl, trivial⟩, ⟨rfl, rfl, Or.inr rfl, Or.inr rfl, Or.inr rfl, Or.inr rfl, trivial⟩, ⟨rfl, trivial⟩, ⟨rfl, trivial⟩, trivial⟩ hf1 (po := [(0, ci_0), (1, ci_1), (15, ci_15), (16, ci_16), (17, ci_17), (18, ci_18), (19, ci_19), (20, ci_20), (2, ci_2), (3, ci_3), (4, ci_4)]) (List.forall_mem_cons.mpr ⟨lx_po hH1 rfl (fun e2 q => cx_to_obj (N := 12) q rfl (otl_0 (mi := fun _ => cx_toI (m0 11)))), (List.forall_mem_cons.mpr ⟨lx_po hH1 rfl (fun e2 q => cx_to_row q cx_anyU), (List.forall_mem_cons.mpr ⟨lx_po hH1 rfl (fun e2 q => cx_to_obj (N := 2) q rfl (otl_15 (mi := fun _ => 0))), (List.forall_mem_cons.mpr ⟨lx_po hH1 rfl (fun e2 q => cx_to_rows q), (List.forall_mem_cons.mpr ⟨lx_po hH1 rfl (fun e2 q => cx_to_row q u17), (List.forall_mem_cons.mpr ⟨lx_po hH1 rfl (fun e2 q => cx_to_row q u18), (List.forall_mem_cons.mpr ⟨lx_po hH1 rfl (fun e2 q => cx_to_row q u19), (List.forall_mem_cons.mpr ⟨lx_po hH1 rfl (fun e2 q => cx_to_row q u20), (List.forall_mem_cons.mpr ⟨lx_po hH1 rfl (fun e2 q => cx_to_obj (N := 4) q rfl (otl_2 (mi := fun _ => 0))), (List.forall_mem_cons.mpr ⟨lx_po hH1 rfl (fun e2 q => cx_to_row (U := [(.negSucc 8, .ofNat 9), (.ofNat 99, .ofNat 99)]) q (fun i hi => cx_Ut (hut i hi))), (List.forall_mem_cons.mpr ⟨lx_po hH1 rfl (fun e2 q => cx_to_row (U := [(.ofNat 0, .ofNat 9), (.ofNat 99, .ofNat 99)]) q (fun i hi => cx_Us (hus i hi))), (fun _ h => absurd h List.not_mem_nil)⟩)⟩)⟩)⟩)⟩)⟩)⟩)⟩)⟩)⟩)⟩) (List.all_eq_true.mp tk5x th hmem)
  have hth2 : ab_th tS (ab_tys cs) th ws2 := lx_done (fl := [8616, 8626, 8627, 8628]) hth1 hM1 hH2 ⟨⟨rfl, rfl, Or.inl rfl, Or.inr (congrArg (fun u => (.inl (.int u) : cx_V)) (hmi 1 rfl)), Or.inr rfl, Or.inr rfl, Or.inr rfl, Or.inr rfl, Or.inr rfl, Or.inr rfl, Or.inr (congrArg (fun u => (.inl (.int u) : cx_V)) (hmi 8 rfl)), Or.inr rfl, Or.inl rfl, Or.inl rfl, Or.inl rfl, Or.inr rfl, Or.inr rfl, Or.inr rfl, Or.inr rfl, Or.inr rfl, Or.inr rfl, Or.inr rfl, Or.inr rfl, Or.inr (congrArg (fun u => (.inl (.int u) : cx_V)) (hmi 21 rfl)), Or.inr (congrArg (fun u => (.inl (.int u) : cx_V)) (hmi 22 rfl)), Or.inr (congrArg (fun u => (.inl (.int u) : cx_V)) (hmi 23 rfl)), Or.inr (congrArg (fun u => (.inl (.int u) : cx_V)) (hmi 24 rfl)), Or.inr rfl, Or.inr (congrArg (fun u => (.inl (.int u) : cx_V)) (hmi 26 rfl)), Or.inr (congrArg (fun u => (.inl (.int u) : cx_V)) (hmi 27 rfl)), Or.inr rfl, Or.inr (congrArg (fun u => (.inl (.int u) : cx_V)) (hmi 29 rfl)), Or.inr (congrArg (fun u => (.inl (.int u) : cx_V)) (hmi 30 rfl)), Or.inr (congrArg (fun u => (.inl (.int u) : cx_V)) (hmi 31 rfl)), Or.inr rfl, Or.inr rfl, Or.inr rfl, Or.inr rfl, Or.inr rfl, Or.inr rfl, Or.inr rfl, Or.inr rfl, Or.inr rfl, Or.inr (congrArg (fun u => (.inl (.int u) : cx_V)) (hmi 41 rfl)), Or.inr (congrArg (fun u => (.inl (.int u) : cx_V)) (hmi 42 rfl)), Or.inr (congrArg (fun u => (.inl (.int u) : cx_V)) (hmi 43 rfl)), Or.inr (congrArg (fun u => (.inl (.int u) : cx_V)) (hmi 44 rfl)), Or.inr (congrArg (fun u => (.inl (.int u) : cx_V)) (hmi 45 rfl)), Or.inr rfl, Or.inr rfl, Or.inr rfl, Or.inr rfl, Or.inr rfl, Or.inr rfl, Or.inr rfl, Or.inr rfl, Or.inr rfl, Or.inr (congrArg (fun u => (.inl (.int u) : cx_V)) (hmi 55 rfl)), Or.inr rfl, Or.inr rfl, Or.inr rfl, Or.inr rfl, Or.inr rfl, Or.inr (congrArg (fun u => (.inl (.int u) : cx_V)) (hmi 61 rfl)), Or.inr rfl, Or.inr rfl, Or.inr rfl, Or.inr rfl, Or.inr rfl, Or.inr rfl, trivial⟩, ⟨rfl, trivial⟩, ⟨rfl, trivial⟩, ⟨rfl, trivial⟩, ⟨rfl, trivial⟩, ⟨rfl, trivial⟩, trivial⟩ hf2 (po := [(119, ci_119), (126, ci_126), (121, ci_121), (122, ci_122), (123, ci_123), (127, ci_127)]) (List.forall_mem_cons.mpr ⟨lx_po hH2 rfl (fun e2 q => cx_to_obj (N := 68) q rfl (otl_119 (mi := mi2) hb2)), (List.forall_mem_cons.mpr ⟨lx_po hH2 rfl (fun e2 q => cx_to_row q cx_anyU), (List.forall_mem_cons.mpr ⟨lx_po hH2 rfl (fun e2 q => cx_to_row q u121), (List.forall_mem_cons.mpr ⟨lx_po hH2 rfl (fun e2 q => cx_to_row (U := [(.negSucc 8, .ofNat 9), (.ofNat 99, .ofNat 99)]) q (fun i hi => cx_Ut (hut2 i hi))), (List.forall_mem_cons.mpr ⟨lx_po hH2 rfl (fun e2 q => cx_to_row (U := [(.ofNat 0, .ofNat 9), (.ofNat 99, .ofNat 99)]) q (fun i hi => cx_Us (hus2 i hi))), (List.forall_mem_cons.mpr ⟨lx_po hH2 rfl (fun e2 q => cx_to_row q cx_anyU), (fun _ h => absurd h List.not_mem_nil)⟩)⟩)⟩)⟩)⟩)⟩) (List.all_eq_true.mp tk5m th hmem)
  refine lx_eq F0 (pc' := 1810) (ab_tbo lto_5 _ _ _ (List.mem_of_getElem? (i := 34) rfl)) rfl hfin ?_
  have hX2 := cx_heap_far hH1 hf2 rfl
  refine K ls ws2 (lx_Lc hl1 hf2.1) ⟨th, hmem, hth2⟩ ?_ hlen2
  refine ⟨⟨List.forall_mem_cons.mpr ⟨?_, List.forall_mem_cons.mpr ⟨?_, List.forall_mem_cons.mpr ⟨?_, fun q h => absurd h List.not_mem_nil⟩⟩⟩, List.forall_mem_cons.mpr ⟨?_, fun q h => absurd h List.not_mem_nil⟩, fun q h => absurd h List.not_mem_nil⟩, trivial⟩
  · obtain ⟨ax, ex, wx, cx⟩ := hX2 3 _ rfl
    obtain ⟨ay, ey, wy, cy⟩ := hH2 122 _ rfl
    exact ⟨_, cx_row1 (cx_rowv wx cx), (cx_rowv wy cy).trans (congrArg some (cx_rowM (fun i hi => (hEt i hi).symm)))⟩
  · obtain ⟨ax, ex, wx, cx⟩ := hX2 4 _ rfl
    obtain ⟨ay, ey, wy, cy⟩ := hH2 123 _ rfl
    exact ⟨_, cx_row1 (cx_rowv wx cx), (cx_rowv wy cy).trans (congrArg some (cx_rowM (fun i hi => (hEs i hi).symm)))⟩
  · obtain ⟨ax0, ex0, wx0, cx0⟩ := hX2 17 _ rfl
    obtain ⟨ax1, ex1, wx1, cx1⟩ := hX2 18 _ rfl
    obtain ⟨ax2, ex2, wx2, cx2⟩ := hX2 19 _ rfl
    obtain ⟨ax3, ex3, wx3, cx3⟩ := hX2 20 _ rfl
    obtain ⟨ay, ey, wy, cy⟩ := hH2 121 _ rfl
    exact ⟨_, cx_row4 (cx_rowv wx0 cx0) (cx_rowv wx1 cx1) (cx_rowv wx2 cx2) (cx_rowv wx3 cx3), (cx_rowv wy cy).trans (congrArg some (cx_rowM24 (F := F4 kk0 kk1 kk2 kk3) (fun b u hb hu => (hEb b u hb hu).symm)))⟩
  · obtain ⟨ax, ex, wx, cx⟩ := hX2 0 _ rfl
    obtain ⟨ay, ey, wy, cy⟩ := hH2 119 _ rfl
    exact ⟨_, cx_fldv wx cx (x := cx_toI (m0 11)) rfl rfl, (cx_fldv wy cy (x := mi2 1) rfl rfl).trans (by rw [hd2, hEd])⟩
theorem tk35a : lw_THs.all (fun th => tr_3 th [(0, ci_0), (1, ci_1), (2, ci_2), (3, ci_3), (4, ci_4), (5, ci_5), (6, ci_6), (7, ci_7), (8, ci_8), (9, ci_9), (10, ci_10), (11, ci_11), (12, ci_12), (13, ci_13), (14, ci_14), (43, ci_43), (119, ci_119), (126, ci_126), (122, ci_122), (123, ci_123), (124, ci_124), (125, ci_125)]) = true := by decide +kernel
theorem tk35x : lw_THs.all (fun th => th.all (tr_1 (cx_M [0, 1, 2, 3, 4, 5, 6, 7, 8, 9, 10, 11, 12, 13, 14, 43] [1011, 3766]) th [(0, ci_0), (1, ci_1), (2, ci_2), (3, ci_3), (4, ci_4), (5, ci_5), (6, ci_6), (7, ci_7), (8, ci_8), (9, ci_9), (10, ci_10), (11, ci_11), (12, ci_12), (13, ci_13), (14, ci_14), (43, ci_43)])) = true := by decide +kernel
theorem tk35m : lw_THs.all (fun th => th.all (tr_1 (cx_M [119, 126, 122, 123, 124, 125] [8616, 8617, 8638]) th [(119, ci_119), (126, ci_126), (122, ci_122), (123, ci_123), (124, ci_124), (125, ci_125)])) = true := by decide +kernel
theorem tz_35 : ∀ th ∈ lw_THs, lw_TQ 1674 th := by
  intro th hmem p l e s m below meth c D A Q cs tS b L i0 cells slots xs iv ws ls F0 hcs hiv hL hL2 hl hth hEQ hlen K
  have h3 := tr_3_ok (List.all_eq_true.mp tk35a th hmem) hth
  obtain ⟨a0, e0, w0, t0⟩ := h3 _ (List.mem_of_getElem? (i := 0) rfl)
  obtain ⟨a1, e1, w1, t1⟩ := h3 _ (List.mem_of_getElem? (i := 1) rfl)
  obtain ⟨a2, e2, w2, t2⟩ := h3 _ (List.mem_of_getElem? (i := 2) rfl)
  obtain ⟨a3, e3, w3, t3⟩ := h3 _ (List.mem_of_getElem? (i := 3) rfl)
  obtain ⟨a4, e4, w4, t4⟩ := h3 _ (List.mem_of_getElem? (i := 4) rfl)
  obtain ⟨a5, e5, w5, t5⟩ := h3 _ (List.mem_of_getElem? (i := 5) rfl)
  obtain ⟨a6, e6, w6, t6⟩ := h3 _ (List.mem_of_getElem? (i := 6) rfl)
  obtain ⟨a7, e7, w7, t7⟩ := h3 _ (List.mem_of_getElem? (i := 7) rfl)
  obtain ⟨a8, e8, w8, t8⟩ := h3 _ (List.mem_of_getElem? (i := 8) rfl)
  obtain ⟨a9, e9, w9, t9⟩ := h3 _ (List.mem_of_getElem? (i := 9) rfl)
  obtain ⟨a10, e10, w10, t10⟩ := h3 _ (List.mem_of_getElem? (i := 10) rfl)
  obtain ⟨a11, e11, w11, t11⟩ := h3 _ (List.mem_of_getElem? (i := 11) rfl)
  obtain ⟨a12, e12, w12, t12⟩ := h3 _ (List.mem_of_getElem? (i := 12) rfl)
  obtain ⟨a13, e13, w13, t13⟩ := h3 _ (List.mem_of_getElem? (i := 13) rfl)
  obtain ⟨a14, e14, w14, t14⟩ := h3 _ (List.mem_of_getElem? (i := 14) rfl)
  obtain ⟨a43, e43, w43, t43⟩ := h3 _ (List.mem_of_getElem? (i := 15) rfl)
  obtain ⟨a119, e119, w119, t119⟩ := h3 _ (List.mem_of_getElem? (i := 16) rfl)
  obtain ⟨a126, e126, w126, t126⟩ := h3 _ (List.mem_of_getElem? (i := 17) rfl)
  obtain ⟨a122, e122, w122, t122⟩ := h3 _ (List.mem_of_getElem? (i := 18) rfl)
  obtain ⟨a123, e123, w123, t123⟩ := h3 _ (List.mem_of_getElem? (i := 19) rfl)
  obtain ⟨a124, e124, w124, t124⟩ := h3 _ (List.mem_of_getElem? (i := 20) rfl)
  obtain ⟨a125, e125, w125, t125⟩ := h3 _ (List.mem_of_getElem? (i := 21) rfl)
  obtain ⟨m0, c0, b0⟩ := cx_of_obj (ci := 10) (N := 12) (tvs := ots_0) t0
  obtain ⟨r1, c1, u1⟩ := cx_of_row (t := 0) (N := 7) (Or.inl rfl) t1
  obtain ⟨m2, c2, b2⟩ := cx_of_obj (ci := 8) (N := 4) (tvs := ots_2) t2
  obtain ⟨t, c3, u3⟩ := cx_of_row (t := 0) (N := 16) (Or.inl rfl) t3
  obtain ⟨sw, c4, u4⟩ := cx_of_row (t := 0) (N := 16) (Or.inl rfl) t4
  have c5 := cx_of_rows (t := 3) (N := 4) (ks := [6, 7, 8, 9]) (Or.inl rfl) t5
  obtain ⟨hh0, c6, u6⟩ := cx_of_row (t := 0) (N := 16) (Or.inl rfl) t6
  obtain ⟨hh1, c7, u7⟩ := cx_of_row (t := 0) (N := 16) (Or.inl rfl) t7
  obtain ⟨hh2, c8, u8⟩ := cx_of_row (t := 0) (N := 16) (Or.inl rfl) t8
  obtain ⟨hh3, c9, u9⟩ := cx_of_row (t := 0) (N := 16) (Or.inl rfl) t9
  have c10 := cx_of_rows (t := 3) (N := 4) (ks := [11, 12, 13, 14]) (Or.inl rfl) t10
  obtain ⟨jj0, c11, u11⟩ := cx_of_row (t := 0) (N := 16) (Or.inl rfl) t11
  obtain ⟨jj1, c12, u12⟩ := cx_of_row (t := 0) (N := 16) (Or.inl rfl) t12
  obtain ⟨jj2, c13, u13⟩ := cx_of_row (t := 0) (N := 16) (Or.inl rfl) t13
  obtain ⟨jj3, c14, u14⟩ := cx_of_row (t := 0) (N := 16) (Or.inl rfl) t14
  obtain ⟨m43, c43, b43⟩ := cx_of_obj (ci := 4) (N := 17) (tvs := ots_43) t43
  have hbd43 := obd_43_of b43
  obtain ⟨m119, c119, b119⟩ := cx_of_obj (ci := 11) (N := 68) (tvs := ots_119) t119
  have hbd119 := obd_119_of b119
  obtain ⟨r2, c126, u126⟩ := cx_of_row (t := 0) (N := 7) (Or.inl rfl) t126
  obtain ⟨tm, c122, u122⟩ := cx_of_row (t := 0) (N := 16) (Or.inl rfl) t122
  obtain ⟨sm, c123, u123⟩ := cx_of_row (t := 0) (N := 16) (Or.inl rfl) t123
  obtain ⟨hm, c124, u124⟩ := cx_of_row (t := 0) (N := 64) (Or.inl rfl) t124
  obtain ⟨jm, c125, u125⟩ := cx_of_row (t := 0) (N := 64) (Or.inl rfl) t125
  have hX : cx_heap tS cs (h_xy (cx_toI (m0 11)) r1 t sw (F4 hh0 hh1 hh2 hh3) (F4 jj0 jj1 jj2 jj3) (fun i => cx_toI (m43 i))) ws := cx_heap_of (List.forall_mem_cons.mpr ⟨⟨a0, e0, w0, c0⟩, (List.forall_mem_cons.mpr ⟨⟨a1, e1, w1, c1⟩, (List.forall_mem_cons.mpr ⟨⟨a2, e2, w2, c2⟩, (List.forall_mem_cons.mpr ⟨⟨a3, e3, w3, c3⟩, (List.forall_mem_cons.mpr ⟨⟨a4, e4, w4, c4⟩, (List.forall_mem_cons.mpr ⟨⟨a5, e5, w5, c5⟩, (List.forall_mem_cons.mpr ⟨⟨a6, e6, w6, c6⟩, (List.forall_mem_cons.mpr ⟨⟨a7, e7, w7, c7⟩, (List.forall_mem_cons.mpr ⟨⟨a8, e8, w8, c8⟩, (List.forall_mem_cons.mpr ⟨⟨a9, e9, w9, c9⟩, (List.forall_mem_cons.mpr ⟨⟨a10, e10, w10, c10⟩, (List.forall_mem_cons.mpr ⟨⟨a11, e11, w11, c11⟩, (List.forall_mem_cons.mpr ⟨⟨a12, e12, w12, c12⟩, (List.forall_mem_cons.mpr ⟨⟨a13, e13, w13, c13⟩, (List.forall_mem_cons.mpr ⟨⟨a14, e14, w14, c14⟩, (List.forall_mem_cons.mpr ⟨⟨a43, e43, w43, c43⟩, (fun _ h => absurd h List.not_mem_nil)⟩)⟩)⟩)⟩)⟩)⟩)⟩)⟩)⟩)⟩)⟩)⟩)⟩)⟩)⟩)⟩)
  have hM : cx_heap tS cs (h_my (fun i => cx_toI (m119 i)) (fun i => cx_toL (m119 i)) r2 tm sm hm jm) ws := cx_heap_of (List.forall_mem_cons.mpr ⟨⟨a119, e119, w119, c119⟩, (List.forall_mem_cons.mpr ⟨⟨a126, e126, w126, c126⟩, (List.forall_mem_cons.mpr ⟨⟨a122, e122, w122, c122⟩, (List.forall_mem_cons.mpr ⟨⟨a123, e123, w123, c123⟩, (List.forall_mem_cons.mpr ⟨⟨a124, e124, w124, c124⟩, (List.forall_mem_cons.mpr ⟨⟨a125, e125, w125, c125⟩, (fun _ h => absurd h List.not_mem_nil)⟩)⟩)⟩)⟩)⟩)⟩)
  have ha0 : (ws.map (·.1))[0]? = some a0 := by rw [List.getElem?_map, w0]; rfl
  have ha119 : (ws.map (·.1))[119]? = some a119 := by rw [List.getElem?_map, w119]; rfl
  have hut : ∀ i : Nat, i < 16 → tdU (t i).toInt := fun i hi => by have h9 : (-9 ≤ (t i).toInt ∧ (t i).toInt ≤ 9) ∨ (99 ≤ (t i).toInt ∧ (t i).toInt ≤ 99) := cx_U2o (u3 i hi); unfold tdU; omega
  have hus : ∀ i : Nat, i < 16 → tdV (sw i).toInt := fun i hi => by have h9 : (0 ≤ (sw i).toInt ∧ (sw i).toInt ≤ 9) ∨ (99 ≤ (sw i).toInt ∧ (sw i).toInt ≤ 99) := cx_U2o (u4 i hi); unfold tdV; omega
  have hut2 : ∀ i : Nat, i < 16 → tdU (tm i).toInt := fun i hi => by have h9 : (-9 ≤ (tm i).toInt ∧ (tm i).toInt ≤ 9) ∨ (99 ≤ (tm i).toInt ∧ (tm i).toInt ≤ 99) := cx_U2o (u122 i hi); unfold tdU; omega
  have hus2 : ∀ i : Nat, i < 16 → tdV (sm i).toInt := fun i hi => by have h9 : (0 ≤ (sm i).toInt ∧ (sm i).toInt ≤ 9) ∨ (99 ≤ (sm i).toInt ∧ (sm i).toInt ≤ 99) := cx_U2o (u123 i hi); unfold tdV; omega
  have hEt : ∀ i : Nat, i < 16 → t i = tm i := by
    obtain ⟨v, q1, q2⟩ := hEQ.1.1 ([3], 122) (List.mem_of_getElem? (i := 0) rfl)
    have q1 : rl_rows ws [3] = some v := q1
    have q2 : rl_row ws 122 = some v := q2
    rw [cx_row1 (cx_rowv w3 c3)] at q1
    rw [cx_rowv w122 c122] at q2
    exact cx_rowE (Option.some.inj (q1.trans q2.symm))
  have hEs : ∀ i : Nat, i < 16 → sw i = sm i := by
    obtain ⟨v, q1, q2⟩ := hEQ.1.1 ([4], 123) (List.mem_of_getElem? (i := 1) rfl)
    have q1 : rl_rows ws [4] = some v := q1
    have q2 : rl_row ws 123 = some v := q2
    rw [cx_row1 (cx_rowv w4 c4)] at q1
    rw [cx_rowv w123 c123] at q2
    exact cx_rowE (Option.some.inj (q1.trans q2.symm))
  have hEd : cx_toI (m0 11) = cx_toI (m119 1) := by
    obtain ⟨v, q1, q2⟩ := hEQ.1.2.1 ((0, 11), (119, 1)) (List.mem_of_getElem? (i := 0) rfl)
    have q1 : rl_fld ws (0, 11) = some v := q1
    have q2 : rl_fld ws (119, 1) = some v := q2
    rw [cx_fldv w0 c0 (x := cx_toI (m0 11)) rfl rfl] at q1
    rw [cx_fldv w119 c119 (x := cx_toI (m119 1)) rfl rfl] at q2
    exact Value.int.inj (Option.some.inj (q1.trans q2.symm))
  obtain ⟨fs0, e0q, -⟩ := id c0
  subst e0q
  refine lx_x F0 hl (pc' := 1675) (ab_tbo lto_35 _ _ _ (List.mem_of_getElem? (i := 0) rfl)) rfl ha0 ?_
  refine lx_arg F0 hiv hL hL2 hl (z := 1) (pc' := 1681) rfl (ab_tbo lto_35 _ _ _ (List.mem_of_getElem? (i := 1) rfl)) (ab_tbo lto_35 _ _ _ (List.mem_of_getElem? (i := 2) rfl)) (ab_tbo lto_35 _ _ _ (List.mem_of_getElem? (i := 3) rfl)) (ab_tbo lto_35 _ _ _ (List.mem_of_getElem? (i := 4) rfl)) (ab_tbo lto_35 _ _ _ (List.mem_of_getElem? (i := 5) rfl)) rfl ?_
  obtain ⟨d1, hd1, Ct1⟩ := ct_days (dy := cx_toI (m0 11)) (n := xs (i0 + 1)) (r := r1) (t := t) (s := sw) (H := (F4 hh0 hh1 hh2 hh3)) (J := (F4 jj0 jj1 jj2 jj3)) (ro := (fun i => cx_toI (m43 i))) l D cs tS ws [.ref a0, .int (xs (i0 + 1))] hX ⟨⟨a0, ha0, rfl⟩, rfl, trivial⟩
  refine lx_call F0 hcs hl (pc' := 1684) (q := 163) (n := 1) (ci := 10) (As := [.int (xs (i0 + 1))]) (stk := []) (ab_tbo lto_35 _ _ _ (List.mem_of_getElem? (i := 6) rfl)) rfl rfl rfl w0 (by decide) ⟨d1, by omega, Ct1⟩ rfl (fun rv ws1 hp1 => ?_)
  obtain ⟨v, h1, ⟨z, rr, dy2, t2, s2, H2, J2, ro2, rfl, rfl, hdx⟩, hk1, hf1, hH1, hrv⟩ := hp1
  obtain rfl : rv = some (.int z) := by
    cases rv with
    | none => exact hrv.elim
    | some y => exact congrArg some hrv
  show ab_W p l e room_1 s m #[Value.ref b] below meth c D vwCl A Q cells slots 1684 ls [.int z] ws1
  refine lx_pop F0 (pc' := 1685) (ab_tbo lto_35 _ _ _ (List.mem_of_getElem? (i := 7) rfl)) rfl ?_
  have hl1 := lx_Lc hl hf1.1
  have hM1 := cx_heap_far hM hf1 rfl
  have ha119b : (ws1.map (·.1))[119]? = some a119 := by rw [hf1.1]; exact ha119
  refine lx_m F0 hl1 (pc' := 1686) (ab_tbo lto_35 _ _ _ (List.mem_of_getElem? (i := 8) rfl)) rfl ha119b ?_
  refine lx_arg F0 hiv hL hL2 hl1 (z := 1) (pc' := 1692) rfl (ab_tbo lto_35 _ _ _ (List.mem_of_getElem? (i := 9) rfl)) (ab_tbo lto_35 _ _ _ (List.mem_of_getElem? (i := 10) rfl)) (ab_tbo lto_35 _ _ _ (List.mem_of_getElem? (i := 11) rfl)) (ab_tbo lto_35 _ _ _ (List.mem_of_getElem? (i := 12) rfl)) (ab_tbo lto_35 _ _ _ (List.mem_of_getElem? (i := 13) rfl)) rfl ?_
  obtain ⟨a119c, e119c, w119c, c119c⟩ := hM1 119 _ rfl
  obtain ⟨fs119c, e119d, -⟩ := id c119c
  subst e119d
  have eadd : a119c = a119 := ab_ad_get ha119b w119c
  rw [eadd] at w119c
  obtain ⟨d2, hd2, Ct2⟩ := ct_mdays (n := xs (i0 + 1)) (mi := fun i => cx_toI (m119 i)) (ml := fun i => cx_toL (m119 i)) (r := r2) (t := tm) (s := sm) (H := hm) (J := jm) l D cs tS ws1 [.ref a119, .int (xs (i0 + 1))] hM1 ⟨⟨a119, ha119b, rfl⟩, rfl, trivial⟩
  refine lx_call F0 hcs hl1 (pc' := 1695) (q := 255) (n := 1) (ci := 11) (As := [.int (xs (i0 + 1))]) (stk := []) (ab_tbo lto_35 _ _ _ (List.mem_of_getElem? (i := 14) rfl)) rfl rfl rfl w119c (by first | decide | exact (by decide : (1 : Nat) ≤ 8)) ⟨d2, by omega, Ct2⟩ rfl (fun rv2 ws2 hp2 => ?_)
  obtain ⟨v2, h2, ⟨z2, rr2, mi2, tm2, sm2, hm2, jm2, rfl, rfl, hdm⟩, hk2, hf2, hH2, hrv2⟩ := hp2
  obtain rfl : rv2 = some (.int z2) := by
    cases rv2 with
    | none => exact hrv2.elim
    | some y => exact congrArg some hrv2
  show ab_W p l e room_1 s m #[Value.ref b] below meth c D vwCl A Q cells slots 1695 ls [.int z2] ws2
  have hdy : (∀ i : Nat, i < 16 → t2 i = tm2 i) ∧ (∀ i : Nat, i < 16 → s2 i = sm2 i) ∧ dy2 = mi2 1 ∧ (∀ i : Nat, i < 16 → tdU (t2 i).toInt) ∧ (∀ i : Nat, i < 16 → tdV (s2 i).toInt) ∧ (∀ i : Nat, i < 16 → tdU (tm2 i).toInt) ∧ (∀ i : Nat, i < 16 → tdV (sm2 i).toInt) ∧ (∀ k i : Nat, k < 4 → i < 16 → 0 ≤ (H2 k i).toInt ∧ (H2 k i).toInt ≤ 999) ∧ (∀ k i : Nat, k < 4 → i < 16 → 0 ≤ (J2 k i).toInt ∧ (J2 k i).toInt ≤ 999) ∧ (∀ i : Nat, i < 64 → 0 ≤ (hm2 i).toInt ∧ (hm2 i).toInt ≤ 999) ∧ obd_43 ro2 ∧ obd_119 mi2 ∧ (∀ i : Nat, (Nat.beq i 0 || (Nat.beq i 1 || Nat.beq i 22)) = false → cx_toI (m119 i) = mi2 i) ∧ (∀ i : Nat, Nat.beq i 14 = false → cx_toI (m43 i) = ro2 i) := by
    have k0 : (Int32.ofInt 0).toInt = 0 := by decide +kernel
    have k99 : (Int32.ofInt 99).toInt = 99 := by decide +kernel
    have hHb : ∀ k i : Nat, k < 4 → i < 16 → 0 ≤ (F4 hh0 hh1 hh2 hh3 k i).toInt ∧ (F4 hh0 hh1 hh2 hh3 k i).toInt ≤ 999 := fun k i hk hi => by
      rcases (show k = 0 ∨ k = 1 ∨ k = 2 ∨ k = 3 by omega) with rfl | rfl | rfl | rfl
      · exact cx_U1o (u6 i hi)
      · exact cx_U1o (u7 i hi)
      · exact cx_U1o (u8 i hi)
      · exact cx_U1o (u9 i hi)
    have hJb : ∀ k i : Nat, k < 4 → i < 16 → 0 ≤ (F4 jj0 jj1 jj2 jj3 k i).toInt ∧ (F4 jj0 jj1 jj2 jj3 k i).toInt ≤ 999 := fun k i hk hi => by
      rcases (show k = 0 ∨ k = 1 ∨ k = 2 ∨ k = 3 by omega) with rfl | rfl | rfl | rfl
      · exact cx_U1o (u11 i hi)
      · exact cx_U1o (u12 i hi)
      · exact cx_U1o (u13 i hi)
      · exact cx_U1o (u14 i hi)
    have hmb : ∀ i : Nat, i < 64 → 0 ≤ (hm i).toInt ∧ (hm i).toInt ≤ 999 := fun i hi => cx_U1o (u124 i hi)
    unfold ds_x at hdx
    unfold ds_m at hdm
    dsimp only at hdm
    rw [hEd] at hdx
    rcases hdx with ⟨q1, q2, q3, q4, q5, q6, q7⟩ | ⟨q0, q1, q2, q3, q4, q5, q6, q7⟩ <;> rcases hdm with ⟨r1, r2, r3, r4, r5, r6⟩ | ⟨r0, r1, r2, r3, r4, r5, r6⟩
    · rw [q2, q3, q4, q5, q6, q7, r2, r3, r4, r5]
      refine ⟨hEt, hEs, rfl, hut, hus, hut2, hus2, hHb, hJb, hmb, hbd43, hbd119, fun i hi => ?_, fun i hi => rfl⟩
      simp only [Bool.or_eq_false_iff] at hi
      obtain ⟨u0, u1, u2⟩ := hi
      simp only [upi, u0, cond_false]
    · exfalso; omega
    · exfalso; omega
    · rw [q2, q3, q4, q5, q6, q7, r2, r3, r4, r5]
      refine ⟨fun i hi => ?_, fun i hi => ?_, rfl, fun i hi => ?_, fun i hi => ?_, fun i hi => ?_, fun i hi => ?_, fun k i hk hi => ?_, fun k i hk hi => ?_, fun i hi => ?_, hbd43, hbd119, fun i hi => ?_, fun i hi => ?_⟩
      · rw [ckU i hi, ckU i hi]
      · rw [ckU i hi, ckU i hi]
      · rw [ckU i hi]; exact Or.inr k99
      · rw [ckU i hi]; exact Or.inr k99
      · rw [ckU i hi]; exact Or.inr k99
      · rw [ckU i hi]; exact Or.inr k99
      · show 0 ≤ (ck 16 (Int32.ofInt 0) _ i).toInt ∧ (ck 16 (Int32.ofInt 0) _ i).toInt ≤ 999
        rw [ckU i hi]; omega
      · show 0 ≤ (ck 16 (Int32.ofInt 0) _ i).toInt ∧ (ck 16 (Int32.ofInt 0) _ i).toInt ≤ 999
        rw [ckU i hi]; omega
      · rw [ckU i hi]; omega
      · simp only [Bool.or_eq_false_iff] at hi
        obtain ⟨u0, u1, u2⟩ := hi
        simp only [upi, u0, u1, u2, cond_false]
      · simp only [upi, hi, cond_false]
  obtain ⟨hEt2, hEs2, hEd2, hut3, hus3, hut4, hus4, hH3, hJ3, hm3, hb43, hb119, hmi, hro⟩ := hdy
  have hlen1 : ws1.length = 165 := by have := congrArg List.length hf1.1; simpa [hlen] using this
  have hlen2 : ws2.length = 165 := by have := congrArg List.length hf2.1; simpa [hlen1] using this
  have hth1 : ab_th tS (ab_tys cs) th ws1 := lx_done (fl := [1011, 3766]) hth hX hH1 ⟨⟨rfl, rfl, Or.inr rfl, Or.inr rfl, Or.inr rfl, Or.inr rfl, Or.inr rfl, Or.inr rfl, Or.inr rfl, Or.inr rfl, Or.inr rfl, Or.inr rfl, Or.inr rfl, Or.inl rfl, trivial⟩, ⟨rfl, trivial⟩, ⟨rfl, rfl, Or.inr rfl, Or.inr rfl, Or.inr rfl, Or.inr rfl, trivial⟩, ⟨rfl, trivial⟩, ⟨rfl, trivial⟩, ⟨rfl, trivial⟩, ⟨rfl, trivial⟩, ⟨rfl, trivial⟩, ⟨rfl, trivial⟩, ⟨rfl, trivial⟩, ⟨rfl, trivial⟩, ⟨rfl, trivial⟩, ⟨rfl, trivial⟩, ⟨rfl, trivial⟩, ⟨rfl, trivial⟩, ⟨rfl, rfl, Or.inr rfl, Or.inr rfl, Or.inr rfl, Or.inr rfl, Or.inr rfl, Or.inr rfl, Or.inr rfl, Or.inr rfl, Or.inr rfl, Or.inr rfl, Or.inr rfl, Or.inr rfl, Or.inr (congrArg (fun u => (.inl (.int u) : cx_V)) (hro 12 rfl)), Or.inr (congrArg (fun u => (.inl (.int u) : cx_V)) (hro 13 rfl)), Or.inl rfl, Or.inr (congrArg (fun u => (.inl (.int u) : cx_V)) (hro 15 rfl)), Or.inr (congrArg (fun u => (.inl (.int u) : cx_V)) (hro 16 rfl)), trivial⟩, trivial⟩ hf1 (po := [(0, ci_0), (1, ci_1), (2, ci_2), (3, ci_3), (4, ci_4), (5, ci_5), (6, ci_6), (7, ci_7), (8, ci_8), (9, ci_9), (10, ci_10), (11, ci_11), (12, ci_12), (13, ci_13), (14, ci_14), (43, ci_43)]) (List.forall_mem_cons.mpr ⟨lx_po hH1 rfl (fun e2 q => cx_to_obj (N := 12) q rfl (otl_0 (mi := fun _ => dy2))), (List.forall_mem_cons.mpr ⟨lx_po hH1 rfl (fun e2 q => cx_to_row q cx_anyU), (List.forall_mem_cons.mpr ⟨lx_po hH1 rfl (fun e2 q => cx_to_obj (N := 4) q rfl (otl_2 (mi := fun _ => 0))), (List.forall_mem_cons.mpr ⟨lx_po hH1 rfl (fun e2 q => cx_to_row (U := [(.negSucc 8, .ofNat 9), (.ofNat 99, .ofNat 99)]) q (fun i hi => cx_Ut (hut3 i hi))), (List.forall_mem_cons.mpr ⟨lx_po hH1 rfl (fun e2 q => cx_to_row (U := [(.ofNat 0, .ofNat 9), (.ofNat 99, .ofNat 99)]) q (fun i hi => cx_Us (hus3 i hi))), (List.forall_mem_cons.mpr ⟨lx_po hH1 rfl (fun e2 q => cx_to_rows q), (List.forall_mem_cons.mpr ⟨lx_po hH1 rfl (fun e2 q => cx_to_row (U := [(.ofNat 0, .ofNat 999)]) q (fun i hi => cx_U1 (hH3 0 i (by omega) hi))), (List.forall_mem_cons.mpr ⟨lx_po hH1 rfl (fun e2 q => cx_to_row (U := [(.ofNat 0, .ofNat 999)]) q (fun i hi => cx_U1 (hH3 1 i (by omega) hi))), (List.forall_mem_cons.mpr ⟨lx_po hH1 rfl (fun e2 q => cx_to_row (U := [(.ofNat 0, .ofNat 999)]) q (fun i hi => cx_U1 (hH3 2 i (by omega) hi))), (List.forall_mem_cons.mpr ⟨lx_po hH1 rfl (fun e2 q => cx_to_row (U := [(.ofNat 0, .ofNat 999)]) q (fun i hi => cx_U1 (hH3 3 i (by omega) hi))), (List.forall_mem_cons.mpr ⟨lx_po hH1 rfl (fun e2 q => cx_to_rows q), (List.forall_mem_cons.mpr ⟨lx_po hH1 rfl (fun e2 q => cx_to_row (U := [(.ofNat 0, .ofNat 999)]) q (fun i hi => cx_U1 (hJ3 0 i (by omega) hi))), (List.forall_mem_cons.mpr ⟨lx_po hH1 rfl (fun e2 q => cx_to_row (U := [(.ofNat 0, .ofNat 999)]) q (fun i hi => cx_U1 (hJ3 1 i (by omega) hi))), (List.forall_mem_cons.mpr ⟨lx_po hH1 rfl (fun e2 q => cx_to_row (U := [(.ofNat 0, .ofNat 999)]) q (fun i hi => cx_U1 (hJ3 2 i (by omega) hi))), (List.forall_mem_cons.mpr ⟨lx_po hH1 rfl (fun e2 q => cx_to_row (U := [(.ofNat 0, .ofNat 999)]) q (fun i hi => cx_U1 (hJ3 3 i (by omega) hi))), (List.forall_mem_cons.mpr ⟨lx_po hH1 rfl (fun e2 q => cx_to_obj (N := 17) q rfl (otl_43 (mi := ro2) hb43)), (fun _ h => absurd h List.not_mem_nil)⟩)⟩)⟩)⟩)⟩)⟩)⟩)⟩)⟩)⟩)⟩)⟩)⟩)⟩)⟩)⟩) (List.all_eq_true.mp tk35x th hmem)
  have hth2 : ab_th tS (ab_tys cs) th ws2 := lx_done (fl := [8616, 8617, 8638]) hth1 hM1 hH2 ⟨⟨rfl, rfl, Or.inl rfl, Or.inl rfl, Or.inr rfl, Or.inr rfl, Or.inr rfl, Or.inr rfl, Or.inr rfl, Or.inr rfl, Or.inr (congrArg (fun u => (.inl (.int u) : cx_V)) (hmi 8 rfl)), Or.inr rfl, Or.inr (congrArg (fun u => (.inl (.int u) : cx_V)) (hmi 10 rfl)), Or.inr (congrArg (fun u => (.inl (.int u) : cx_V)) (hmi 11 rfl)), Or.inr (congrArg (fun u => (.inl (.int u) : cx_V)) (hmi 12 rfl)), Or.inr rfl, Or.inr rfl, Or.inr rfl, Or.inr rfl, Or.inr rfl, Or.inr rfl, Or.inr rfl, Or.inr rfl, Or.inr (congrArg (fun u => (.inl (.int u) : cx_V)) (hmi 21 rfl)), Or.inl rfl, Or.inr (congrArg (fun u => (.inl (.int u) : cx_V)) (hmi 23 rfl)), Or.inr (congrArg (fun u => (.inl (.int u) : cx_V)) (hmi 24 rfl)), Or.inr rfl, Or.inr (congrArg (fun u => (.inl (.int u) : cx_V)) (hmi 26 rfl)), Or.inr (congrArg (fun u => (.inl (.int u) : cx_V)) (hmi 27 rfl)), Or.inr rfl, Or.inr (congrArg (fun u => (.inl (.int u) : cx_V)) (hmi 29 rfl)), Or.inr (congrArg (fun u => (.inl (.int u) : cx_V)) (hmi 30 rfl)), Or.inr (congrArg (fun u => (.inl (.int u) : cx_V)) (hmi 31 rfl)), Or.inr rfl, Or.inr rfl, Or.inr rfl, Or.inr rfl, Or.inr rfl, Or.inr rfl, Or.inr rfl, Or.inr rfl, Or.inr rfl, Or.inr (congrArg (fun u => (.inl (.int u) : cx_V)) (hmi 41 rfl)), Or.inr (congrArg (fun u => (.inl (.int u) : cx_V)) (hmi 42 rfl)), Or.inr (congrArg (fun u => (.inl (.int u) : cx_V)) (hmi 43 rfl)), Or.inr (congrArg (fun u => (.inl (.int u) : cx_V)) (hmi 44 rfl)), Or.inr (congrArg (fun u => (.inl (.int u) : cx_V)) (hmi 45 rfl)), Or.inr rfl, Or.inr rfl, Or.inr rfl, Or.inr rfl, Or.inr rfl, Or.inr rfl, Or.inr rfl, Or.inr rfl, Or.inr rfl, Or.inr (congrArg (fun u => (.inl (.int u) : cx_V)) (hmi 55 rfl)), Or.inr rfl, Or.inr rfl, Or.inr rfl, Or.inr rfl, Or.inr rfl, Or.inr (congrArg (fun u => (.inl (.int u) : cx_V)) (hmi 61 rfl)), Or.inr rfl, Or.inr rfl, Or.inr rfl, Or.inr rfl, Or.inr rfl, Or.inr rfl, trivial⟩, ⟨rfl, trivial⟩, ⟨rfl, trivial⟩, ⟨rfl, trivial⟩, ⟨rfl, trivial⟩, ⟨rfl, trivial⟩, trivial⟩ hf2 (po := [(119, ci_119), (126, ci_126), (122, ci_122), (123, ci_123), (124, ci_124), (125, ci_125)]) (List.forall_mem_cons.mpr ⟨lx_po hH2 rfl (fun e2 q => cx_to_obj (N := 68) q rfl (otl_119 (mi := mi2) hb119)), (List.forall_mem_cons.mpr ⟨lx_po hH2 rfl (fun e2 q => cx_to_row q cx_anyU), (List.forall_mem_cons.mpr ⟨lx_po hH2 rfl (fun e2 q => cx_to_row (U := [(.negSucc 8, .ofNat 9), (.ofNat 99, .ofNat 99)]) q (fun i hi => cx_Ut (hut4 i hi))), (List.forall_mem_cons.mpr ⟨lx_po hH2 rfl (fun e2 q => cx_to_row (U := [(.ofNat 0, .ofNat 9), (.ofNat 99, .ofNat 99)]) q (fun i hi => cx_Us (hus4 i hi))), (List.forall_mem_cons.mpr ⟨lx_po hH2 rfl (fun e2 q => cx_to_row (U := [(.ofNat 0, .ofNat 999)]) q (fun i hi => cx_U1 (hm3 i hi))), (List.forall_mem_cons.mpr ⟨lx_po hH2 rfl (fun e2 q => cx_to_row q cx_anyU), (fun _ h => absurd h List.not_mem_nil)⟩)⟩)⟩)⟩)⟩)⟩) (List.all_eq_true.mp tk35m th hmem)
  have hg1 := cx_gr (fl := [1011, 3766]) hX hH1 ⟨⟨rfl, rfl, Or.inr rfl, Or.inr rfl, Or.inr rfl, Or.inr rfl, Or.inr rfl, Or.inr rfl, Or.inr rfl, Or.inr rfl, Or.inr rfl, Or.inr rfl, Or.inr rfl, Or.inl rfl, trivial⟩, ⟨rfl, trivial⟩, ⟨rfl, rfl, Or.inr rfl, Or.inr rfl, Or.inr rfl, Or.inr rfl, trivial⟩, ⟨rfl, trivial⟩, ⟨rfl, trivial⟩, ⟨rfl, trivial⟩, ⟨rfl, trivial⟩, ⟨rfl, trivial⟩, ⟨rfl, trivial⟩, ⟨rfl, trivial⟩, ⟨rfl, trivial⟩, ⟨rfl, trivial⟩, ⟨rfl, trivial⟩, ⟨rfl, trivial⟩, ⟨rfl, trivial⟩, ⟨rfl, rfl, Or.inr rfl, Or.inr rfl, Or.inr rfl, Or.inr rfl, Or.inr rfl, Or.inr rfl, Or.inr rfl, Or.inr rfl, Or.inr rfl, Or.inr rfl, Or.inr rfl, Or.inr rfl, Or.inr (congrArg (fun u => (.inl (.int u) : cx_V)) (hro 12 rfl)), Or.inr (congrArg (fun u => (.inl (.int u) : cx_V)) (hro 13 rfl)), Or.inl rfl, Or.inr (congrArg (fun u => (.inl (.int u) : cx_V)) (hro 15 rfl)), Or.inr (congrArg (fun u => (.inl (.int u) : cx_V)) (hro 16 rfl)), trivial⟩, trivial⟩ hf1
  have hg2 := cx_gr (fl := [8616, 8617, 8638]) hM1 hH2 ⟨⟨rfl, rfl, Or.inl rfl, Or.inl rfl, Or.inr rfl, Or.inr rfl, Or.inr rfl, Or.inr rfl, Or.inr rfl, Or.inr rfl, Or.inr (congrArg (fun u => (.inl (.int u) : cx_V)) (hmi 8 rfl)), Or.inr rfl, Or.inr (congrArg (fun u => (.inl (.int u) : cx_V)) (hmi 10 rfl)), Or.inr (congrArg (fun u => (.inl (.int u) : cx_V)) (hmi 11 rfl)), Or.inr (congrArg (fun u => (.inl (.int u) : cx_V)) (hmi 12 rfl)), Or.inr rfl, Or.inr rfl, Or.inr rfl, Or.inr rfl, Or.inr rfl, Or.inr rfl, Or.inr rfl, Or.inr rfl, Or.inr (congrArg (fun u => (.inl (.int u) : cx_V)) (hmi 21 rfl)), Or.inl rfl, Or.inr (congrArg (fun u => (.inl (.int u) : cx_V)) (hmi 23 rfl)), Or.inr (congrArg (fun u => (.inl (.int u) : cx_V)) (hmi 24 rfl)), Or.inr rfl, Or.inr (congrArg (fun u => (.inl (.int u) : cx_V)) (hmi 26 rfl)), Or.inr (congrArg (fun u => (.inl (.int u) : cx_V)) (hmi 27 rfl)), Or.inr rfl, Or.inr (congrArg (fun u => (.inl (.int u) : cx_V)) (hmi 29 rfl)), Or.inr (congrArg (fun u => (.inl (.int u) : cx_V)) (hmi 30 rfl)), Or.inr (congrArg (fun u => (.inl (.int u) : cx_V)) (hmi 31 rfl)), Or.inr rfl, Or.inr rfl, Or.inr rfl, Or.inr rfl, Or.inr rfl, Or.inr rfl, Or.inr rfl, Or.inr rfl, Or.inr rfl, Or.inr (congrArg (fun u => (.inl (.int u) : cx_V)) (hmi 41 rfl)), Or.inr (congrArg (fun u => (.inl (.int u) : cx_V)) (hmi 42 rfl)), Or.inr (congrArg (fun u => (.inl (.int u) : cx_V)) (hmi 43 rfl)), Or.inr (congrArg (fun u => (.inl (.int u) : cx_V)) (hmi 44 rfl)), Or.inr (congrArg (fun u => (.inl (.int u) : cx_V)) (hmi 45 rfl)), Or.inr rfl, Or.inr rfl, Or.inr rfl, Or.inr rfl, Or.inr rfl, Or.inr rfl, Or.inr rfl, Or.inr rfl, Or.inr rfl, Or.inr (congrArg (fun u => (.inl (.int u) : cx_V)) (hmi 55 rfl)), Or.inr rfl, Or.inr rfl, Or.inr rfl, Or.inr rfl, Or.inr rfl, Or.inr (congrArg (fun u => (.inl (.int u) : cx_V)) (hmi 61 rfl)), Or.inr rfl, Or.inr rfl, Or.inr rfl, Or.inr rfl, Or.inr rfl, Or.inr rfl, trivial⟩, ⟨rfl, trivial⟩, ⟨rfl, trivial⟩, ⟨rfl, trivial⟩, ⟨rfl, trivial⟩, ⟨rfl, trivial⟩, trivial⟩ hf2
  refine lx_pop F0 (pc' := 1696) (ab_tbo lto_35 _ _ _ (List.mem_of_getElem? (i := 15) rfl)) rfl ?_
  refine lx_goto F0 (pc' := 1810) (ab_tbo lto_35 _ _ _ (List.mem_of_getElem? (i := 16) rfl)) rfl ?_
  have hX2 := cx_heap_far hH1 hf2 rfl
  refine K ls ws2 (lx_Lc hl1 hf2.1) ⟨th, hmem, hth2⟩ ?_ hlen2
  refine ⟨⟨List.forall_mem_cons.mpr ⟨?_, List.forall_mem_cons.mpr ⟨?_, List.forall_mem_cons.mpr ⟨?_, fun q h => absurd h List.not_mem_nil⟩⟩⟩, List.forall_mem_cons.mpr ⟨?_, fun q h => absurd h List.not_mem_nil⟩, fun q h => absurd h List.not_mem_nil⟩, trivial⟩
  · obtain ⟨ax, ex, wx, cx⟩ := hX2 3 _ rfl
    obtain ⟨ay, ey, wy, cy⟩ := hH2 122 _ rfl
    exact ⟨_, cx_row1 (cx_rowv wx cx), (cx_rowv wy cy).trans (congrArg some (cx_rowM (fun i hi => (hEt2 i hi).symm)))⟩
  · obtain ⟨ax, ex, wx, cx⟩ := hX2 4 _ rfl
    obtain ⟨ay, ey, wy, cy⟩ := hH2 123 _ rfl
    exact ⟨_, cx_row1 (cx_rowv wx cx), (cx_rowv wy cy).trans (congrArg some (cx_rowM (fun i hi => (hEs2 i hi).symm)))⟩
  · obtain ⟨v, q1, q2⟩ := hEQ.1.1 ([17, 18, 19, 20], 121) (List.mem_of_getElem? (i := 2) rfl)
    exact ⟨v, rl_rows_keep hg2 (List.forall_mem_cons.mpr ⟨rfl, (List.forall_mem_cons.mpr ⟨rfl, (List.forall_mem_cons.mpr ⟨rfl, (List.forall_mem_cons.mpr ⟨rfl, (fun _ h => absurd h List.not_mem_nil)⟩)⟩)⟩)⟩) (rl_rows_keep hg1 (List.forall_mem_cons.mpr ⟨rfl, (List.forall_mem_cons.mpr ⟨rfl, (List.forall_mem_cons.mpr ⟨rfl, (List.forall_mem_cons.mpr ⟨rfl, (fun _ h => absurd h List.not_mem_nil)⟩)⟩)⟩)⟩) q1), rl_row_keep hg2 rfl (rl_row_keep hg1 rfl q2)⟩
  · obtain ⟨ax, ex, wx, cx⟩ := hX2 0 _ rfl
    obtain ⟨ay, ey, wy, cy⟩ := hH2 119 _ rfl
    exact ⟨_, cx_fldv wx cx (x := dy2) rfl rfl, (cx_fldv wy cy (x := mi2 1) rfl rfl).trans (by rw [hEd2])⟩
end
