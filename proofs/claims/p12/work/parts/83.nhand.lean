noncomputable section
theorem cx_heap_of {tS : Nat} {cs : Nat → ClassId} {h : cx_H} {ws : va_W} (H : ∀ q ∈ h, ∃ a2 e2, ws[q.1]? = some (a2, e2) ∧ cx_cell (ws.map (·.1)) tS cs q.2 e2) : cx_heap tS cs h ws := fun k c hk => H _ (cx_hg_mem hk)
theorem cx_rowv {ws : va_W} {tS k N a2 t : Nat} {cs : Nat → ClassId} {ad : List Nat} {f : Nat → Int32} {e2 : va_E} (hw : ws[k]? = some (a2, e2)) (hc : cx_cell ad tS cs (.inr (.inl (t, N, f))) e2) : rl_row ws k = some ((List.range N).map (fun i => .int (f i))) := by
  obtain ⟨-, rfl⟩ := hc
  unfold rl_row
  rw [hw]
  rfl
theorem cx_row1 {ws : va_W} {k : Nat} {l : List Value} (h : rl_row ws k = some l) : rl_rows ws [k] = some l := by
  show (match rl_row ws k, some [] with
    | some a, some b => some (a ++ b)
    | _, _ => none) = some l
  rw [h]
  show some (l ++ []) = some l
  rw [List.append_nil]
/-- rows that are the same, number by number -/
theorem cx_rowE {N : Nat} {f g : Nat → Int32} (h : (List.range N).map (fun i => Value.int (f i)) = (List.range N).map (fun i => Value.int (g i))) : ∀ i, i < N → f i = g i := fun i hi => by
  have h1 := congrArg (fun l => l[i]?) h
  simp only [List.getElem?_map, List.getElem?_range hi, Option.map_some] at h1
  exact Value.int.inj (Option.some.inj h1)
theorem cx_rowM {N : Nat} {f g : Nat → Int32} (h : ∀ i, i < N → f i = g i) : (List.range N).map (fun i => Value.int (f i)) = (List.range N).map (fun i => Value.int (g i)) := by
  apply List.map_congr_left
  intro i hi
  rw [h i (List.mem_range.mp hi)]
theorem cx_fldv {ws : va_W} {tS k f ci a2 : Nat} {cs : Nat → ClassId} {ad : List Nat} {vs : List cx_V} {x : Int32} {e2 : va_E} (hw : ws[k]? = some (a2, e2)) (hc : cx_cell ad tS cs (.inl (ci, vs)) e2) (hv : vs[f]? = some (.inl (.int x))) (hf : Nat.ble 1000 f = false) : rl_fld ws (k, f) = some (.int x) := by
  obtain ⟨fs, rfl, hal⟩ := hc
  obtain ⟨y, hy, hyv⟩ := cx_all_get hal hv
  have hyv : y = .int x := hyv
  subst hyv
  unfold rl_fld
  show (bif Nat.ble 1000 f then rl_nth (rl_row ws k) (f - 1000) else rl_fld0 ws (k, f)) = _
  rw [hf]
  show rl_fld0 ws (k, f) = _
  unfold rl_fld0
  show (match ws[k]? with
    | some w => rl_fs w.2 f
    | none => none) = _
  rw [hw]
  exact hy
theorem lx_fullL (x : Int64) : (Int.negSucc 9223372036854775807) ≤ x.toInt ∧ x.toInt ≤ Int.ofNat 9223372036854775807 := by
  have h1 := Int64.le_toInt x
  have h2 := Int64.toInt_lt x
  constructor
  · have e1 : (Int.negSucc 9223372036854775807) = -2 ^ 63 := by decide
    rw [e1]; exact h1
  · have e1 : Int.ofNat 9223372036854775807 = 2 ^ 63 - 1 := by decide
    rw [e1]; omega
theorem cx_U2 {a b c d x : Int} (h : a ≤ x ∧ x ≤ b ∨ c ≤ x ∧ x ≤ d) : ab_inU [(a, b), (c, d)] x := by
  rcases h with h | h
  · exact ⟨_, List.mem_cons_self, h⟩
  · exact ⟨_, List.mem_cons_of_mem _ List.mem_cons_self, h⟩
theorem cx_U1 {a b x : Int} (h : a ≤ x ∧ x ≤ b) : ab_inU [(a, b)] x := ⟨_, List.mem_cons_self, h⟩
theorem cx_U2o {a b c d x : Int} (h : ab_inU [(a, b), (c, d)] x) : a ≤ x ∧ x ≤ b ∨ c ≤ x ∧ x ≤ d := by
  obtain ⟨v, hv, h1, h2⟩ := h
  rcases List.mem_cons.mp hv with q | hv
  · subst q; exact Or.inl ⟨h1, h2⟩
  · rcases List.mem_cons.mp hv with q | hv
    · subst q; exact Or.inr ⟨h1, h2⟩
    · cases hv
theorem cx_U1o {a b x : Int} (h : ab_inU [(a, b)] x) : a ≤ x ∧ x ≤ b := by
  obtain ⟨v, hv, h1, h2⟩ := h
  rcases List.mem_cons.mp hv with q | hv
  · subst q; exact ⟨h1, h2⟩
  · cases hv
def ots_0 : List ab_TV := [some (.inr (.inl [1])), some (.inr (.inl [2])), some (.inr (.inl [15])), some (.inr (.inl [21])), some (.inr (.inl [43])), some (.inr (.inl [68])), some (.inr (.inl [77])), some (.inr (.inl [87])), some (.inr (.inl [101])), some (.inr (.inl [107])), some (.inr (.inl [113])), some (.inl (false, .negSucc 2147483647, .ofNat 2147483647))]
theorem otl_0 {mi : Nat → Int32} : cx_tl ots_0 (vs_0 (mi 11)) := ⟨⟨_, rfl, List.mem_cons_self⟩, ⟨_, rfl, List.mem_cons_self⟩, ⟨_, rfl, List.mem_cons_self⟩, ⟨_, rfl, List.mem_cons_self⟩, ⟨_, rfl, List.mem_cons_self⟩, ⟨_, rfl, List.mem_cons_self⟩, ⟨_, rfl, List.mem_cons_self⟩, ⟨_, rfl, List.mem_cons_self⟩, ⟨_, rfl, List.mem_cons_self⟩, ⟨_, rfl, List.mem_cons_self⟩, ⟨_, rfl, List.mem_cons_self⟩, ⟨_, rfl, lw_fullI _⟩, trivial⟩
def ots_2 : List ab_TV := [some (.inr (.inl [3])), some (.inr (.inl [4])), some (.inr (.inl [5])), some (.inr (.inl [10]))]
theorem otl_2 {mi : Nat → Int32} : cx_tl ots_2 ([.inr (.inl 3), .inr (.inl 4), .inr (.inl 5), .inr (.inl 10)]) := ⟨⟨_, rfl, List.mem_cons_self⟩, ⟨_, rfl, List.mem_cons_self⟩, ⟨_, rfl, List.mem_cons_self⟩, ⟨_, rfl, List.mem_cons_self⟩, trivial⟩
def ots_43 : List ab_TV := [some (.inr (.inl [2])), some (.inr (.inl [44])), some (.inr (.inl [45])), some (.inr (.inl [46])), some (.inr (.inl [47])), some (.inr (.inl [48])), some (.inr (.inl [49])), some (.inr (.inl [50])), some (.inr (.inl [57])), some (.inr (.inl [58])), some (.inr (.inl [66])), some (.inr (.inl [67])), some (.inl (false, .ofNat 0, .ofNat 4)), some (.inl (false, .ofNat 0, .ofNat 1)), some (.inl (false, .negSucc 2147483647, .ofNat 2147483647)), some (.inl (false, .negSucc 2147483647, .ofNat 2147483647)), some (.inl (false, .negSucc 2147483647, .ofNat 2147483647))]
def obd_43 (mi : Nat → Int32) : Prop := ((Int.ofNat 0) ≤ (mi 12).toInt ∧ (mi 12).toInt ≤ (Int.ofNat 4)) ∧ ((Int.ofNat 0) ≤ (mi 13).toInt ∧ (mi 13).toInt ≤ (Int.ofNat 1))
theorem obd_43_of {ad : List Nat} {tS : Nat} {m : Nat → Value} (h : ab_tl ad tS ots_43 ((List.range 17).map m)) : obd_43 (fun i => cx_toI (m i)) := ⟨cx_bdI h (i := 12) rfl, cx_bdI h (i := 13) rfl⟩
theorem otl_43 {mi : Nat → Int32} (hb : obd_43 mi) : cx_tl ots_43 (vs_43 mi) := ⟨⟨_, rfl, List.mem_cons_self⟩, ⟨_, rfl, List.mem_cons_self⟩, ⟨_, rfl, List.mem_cons_self⟩, ⟨_, rfl, List.mem_cons_self⟩, ⟨_, rfl, List.mem_cons_self⟩, ⟨_, rfl, List.mem_cons_self⟩, ⟨_, rfl, List.mem_cons_self⟩, ⟨_, rfl, List.mem_cons_self⟩, ⟨_, rfl, List.mem_cons_self⟩, ⟨_, rfl, List.mem_cons_self⟩, ⟨_, rfl, List.mem_cons_self⟩, ⟨_, rfl, List.mem_cons_self⟩, ⟨_, rfl, hb.1⟩, ⟨_, rfl, hb.2⟩, ⟨_, rfl, lw_fullI _⟩, ⟨_, rfl, lw_fullI _⟩, ⟨_, rfl, lw_fullI _⟩, trivial⟩
def ots_119 : List ab_TV := [some (.inl (false, .negSucc 2147483647, .ofNat 2147483647)), some (.inl (false, .negSucc 2147483647, .ofNat 2147483647)), some (.inr (.inl [120])), some (.inr (.inl [121])), some (.inr (.inl [122])), some (.inr (.inl [123])), some (.inr (.inl [124])), some (.inr (.inl [125])), some (.inl (false, .ofNat 0, .ofNat 4)), some (.inr (.inl [126])), some (.inl (false, .negSucc 8, .ofNat 9)), some (.inl (false, .negSucc 8, .ofNat 9)), some (.inl (false, .ofNat 0, .ofNat 99)), some (.inr (.inl [127])), some (.inr (.inl [128])), some (.inr (.inl [129])), some (.inr (.inl [130])), some (.inr (.inl [131])), some (.inr (.inl [132])), some (.inr (.inl [133])), some (.inr (.inl [134])), some (.inl (false, .ofNat 0, .ofNat 1)), some (.inl (false, .negSucc 2147483647, .ofNat 2147483647)), some (.inl (false, .negSucc 2147483647, .ofNat 2147483647)), some (.inl (false, .ofNat 0, .ofNat 1)), some (.inr (.inl [135])), some (.inl (false, .negSucc 2147483647, .ofNat 2147483647)), some (.inl (false, .ofNat 0, .ofNat 4)), some (.inr (.inl [136])), some (.inl (false, .ofNat 1, .ofNat 24)), some (.inl (false, .negSucc 2147483647, .ofNat 2147483647)), some (.inl (false, .ofNat 0, .ofNat 20)), some (.inr (.inl [137])), some (.inr (.inl [138])), some (.inr (.inl [139])), some (.inr (.inl [140])), some (.inr (.inl [141])), some (.inr (.inl [142])), some (.inr (.inl [143])), some (.inr (.inl [144])), some (.inr (.inl [145])), some (.inl (false, .ofNat 0, .ofNat 10)), some (.inl (false, .ofNat 0, .ofNat 4)), some (.inl (false, .ofNat 0, .ofNat 4)), some (.inl (false, .ofNat 0, .ofNat 4)), some (.inl (false, .negSucc 2147483647, .ofNat 2147483647)), some (.inr (.inl [146])), some (.inr (.inl [147])), some (.inr (.inl [148])), some (.inl (true, .negSucc 9223372036854775807, .ofNat 9223372036854775807)), some (.inl (true, .negSucc 9223372036854775807, .ofNat 9223372036854775807)), some (.inr (.inl [149])), some (.inr (.inl [150])), some (.inr (.inl [151])), some (.inr (.inl [152])), some (.inl (false, .ofNat 0, .ofNat 40)), some (.inr (.inl [153])), some (.inr (.inl [154])), some (.inr (.inl [155])), some (.inr (.inl [156])), some (.inr (.inl [157])), some (.inl (false, .ofNat 0, .ofNat 20)), some (.inr (.inl [158])), some (.inr (.inl [159])), some (.inr (.inl [160])), some (.inr (.inl [161])), some (.inr (.inl [162])), some (.inr (.inl [163]))]
def obd_119 (mi : Nat → Int32) : Prop := ((Int.ofNat 0) ≤ (mi 8).toInt ∧ (mi 8).toInt ≤ (Int.ofNat 4)) ∧ ((Int.negSucc 8) ≤ (mi 10).toInt ∧ (mi 10).toInt ≤ (Int.ofNat 9)) ∧ ((Int.negSucc 8) ≤ (mi 11).toInt ∧ (mi 11).toInt ≤ (Int.ofNat 9)) ∧ ((Int.ofNat 0) ≤ (mi 12).toInt ∧ (mi 12).toInt ≤ (Int.ofNat 99)) ∧ ((Int.ofNat 0) ≤ (mi 21).toInt ∧ (mi 21).toInt ≤ (Int.ofNat 1)) ∧ ((Int.ofNat 0) ≤ (mi 24).toInt ∧ (mi 24).toInt ≤ (Int.ofNat 1)) ∧ ((Int.ofNat 0) ≤ (mi 27).toInt ∧ (mi 27).toInt ≤ (Int.ofNat 4)) ∧ ((Int.ofNat 1) ≤ (mi 29).toInt ∧ (mi 29).toInt ≤ (Int.ofNat 24)) ∧ ((Int.ofNat 0) ≤ (mi 31).toInt ∧ (mi 31).toInt ≤ (Int.ofNat 20)) ∧ ((Int.ofNat 0) ≤ (mi 41).toInt ∧ (mi 41).toInt ≤ (Int.ofNat 10)) ∧ ((Int.ofNat 0) ≤ (mi 42).toInt ∧ (mi 42).toInt ≤ (Int.ofNat 4)) ∧ ((Int.ofNat 0) ≤ (mi 43).toInt ∧ (mi 43).toInt ≤ (Int.ofNat 4)) ∧ ((Int.ofNat 0) ≤ (mi 44).toInt ∧ (mi 44).toInt ≤ (Int.ofNat 4)) ∧ ((Int.ofNat 0) ≤ (mi 55).toInt ∧ (mi 55).toInt ≤ (Int.ofNat 40)) ∧ ((Int.ofNat 0) ≤ (mi 61).toInt ∧ (mi 61).toInt ≤ (Int.ofNat 20))
theorem obd_119_of {ad : List Nat} {tS : Nat} {m : Nat → Value} (h : ab_tl ad tS ots_119 ((List.range 68).map m)) : obd_119 (fun i => cx_toI (m i)) := ⟨cx_bdI h (i := 8) rfl, cx_bdI h (i := 10) rfl, cx_bdI h (i := 11) rfl, cx_bdI h (i := 12) rfl, cx_bdI h (i := 21) rfl, cx_bdI h (i := 24) rfl, cx_bdI h (i := 27) rfl, cx_bdI h (i := 29) rfl, cx_bdI h (i := 31) rfl, cx_bdI h (i := 41) rfl, cx_bdI h (i := 42) rfl, cx_bdI h (i := 43) rfl, cx_bdI h (i := 44) rfl, cx_bdI h (i := 55) rfl, cx_bdI h (i := 61) rfl⟩
theorem otl_119 {mi : Nat → Int32} {ml : Nat → Int64} (hb : obd_119 mi) : cx_tl ots_119 (vs_119 mi ml) := ⟨⟨_, rfl, lw_fullI _⟩, ⟨_, rfl, lw_fullI _⟩, ⟨_, rfl, List.mem_cons_self⟩, ⟨_, rfl, List.mem_cons_self⟩, ⟨_, rfl, List.mem_cons_self⟩, ⟨_, rfl, List.mem_cons_self⟩, ⟨_, rfl, List.mem_cons_self⟩, ⟨_, rfl, List.mem_cons_self⟩, ⟨_, rfl, hb.1⟩, ⟨_, rfl, List.mem_cons_self⟩, ⟨_, rfl, hb.2.1⟩, ⟨_, rfl, hb.2.2.1⟩, ⟨_, rfl, hb.2.2.2.1⟩, ⟨_, rfl, List.mem_cons_self⟩, ⟨_, rfl, List.mem_cons_self⟩, ⟨_, rfl, List.mem_cons_self⟩, ⟨_, rfl, List.mem_cons_self⟩, ⟨_, rfl, List.mem_cons_self⟩, ⟨_, rfl, List.mem_cons_self⟩, ⟨_, rfl, List.mem_cons_self⟩, ⟨_, rfl, List.mem_cons_self⟩, ⟨_, rfl, hb.2.2.2.2.1⟩, ⟨_, rfl, lw_fullI _⟩, ⟨_, rfl, lw_fullI _⟩, ⟨_, rfl, hb.2.2.2.2.2.1⟩, ⟨_, rfl, List.mem_cons_self⟩, ⟨_, rfl, lw_fullI _⟩, ⟨_, rfl, hb.2.2.2.2.2.2.1⟩, ⟨_, rfl, List.mem_cons_self⟩, ⟨_, rfl, hb.2.2.2.2.2.2.2.1⟩, ⟨_, rfl, lw_fullI _⟩, ⟨_, rfl, hb.2.2.2.2.2.2.2.2.1⟩, ⟨_, rfl, List.mem_cons_self⟩, ⟨_, rfl, List.mem_cons_self⟩, ⟨_, rfl, List.mem_cons_self⟩, ⟨_, rfl, List.mem_cons_self⟩, ⟨_, rfl, List.mem_cons_self⟩, ⟨_, rfl, List.mem_cons_self⟩, ⟨_, rfl, List.mem_cons_self⟩, ⟨_, rfl, List.mem_cons_self⟩, ⟨_, rfl, List.mem_cons_self⟩, ⟨_, rfl, hb.2.2.2.2.2.2.2.2.2.1⟩, ⟨_, rfl, hb.2.2.2.2.2.2.2.2.2.2.1⟩, ⟨_, rfl, hb.2.2.2.2.2.2.2.2.2.2.2.1⟩, ⟨_, rfl, hb.2.2.2.2.2.2.2.2.2.2.2.2.1⟩, ⟨_, rfl, lw_fullI _⟩, ⟨_, rfl, List.mem_cons_self⟩, ⟨_, rfl, List.mem_cons_self⟩, ⟨_, rfl, List.mem_cons_self⟩, ⟨_, rfl, lx_fullL _⟩, ⟨_, rfl, lx_fullL _⟩, ⟨_, rfl, List.mem_cons_self⟩, ⟨_, rfl, List.mem_cons_self⟩, ⟨_, rfl, List.mem_cons_self⟩, ⟨_, rfl, List.mem_cons_self⟩, ⟨_, rfl, hb.2.2.2.2.2.2.2.2.2.2.2.2.2.1⟩, ⟨_, rfl, List.mem_cons_self⟩, ⟨_, rfl, List.mem_cons_self⟩, ⟨_, rfl, List.mem_cons_self⟩, ⟨_, rfl, List.mem_cons_self⟩, ⟨_, rfl, List.mem_cons_self⟩, ⟨_, rfl, hb.2.2.2.2.2.2.2.2.2.2.2.2.2.2⟩, ⟨_, rfl, List.mem_cons_self⟩, ⟨_, rfl, List.mem_cons_self⟩, ⟨_, rfl, List.mem_cons_self⟩, ⟨_, rfl, List.mem_cons_self⟩, ⟨_, rfl, List.mem_cons_self⟩, ⟨_, rfl, List.mem_cons_self⟩, trivial⟩
theorem cx_of_rowE {ad : List Nat} {tS t N : Nat} {cs : Nat → ClassId} {vs : List ab_Iv} {e : va_E} (ht : t = 0 ∨ t = 2) (h : ab_tc ad tS (ab_tys cs) (t, N, .inr (.inl vs)) e) : ∃ f : Nat → Int32, cx_cell ad tS cs (.inr (.inl (t, N, f))) e ∧ ∀ (i : Nat) (v : ab_Iv), vs[i]? = some v → v.1 ≤ (f i).toInt ∧ (f i).toInt ≤ v.2 := by
  match e, h with
  | .inr (ci, fs), ⟨_, _, tvs, h3, _⟩ => cases h3
  | .inl (cA, N', .inl f), ⟨h1, ⟨ty, h2, _⟩, _, h4⟩ =>
    have e1 : cA = cs t := by
      rcases ht with rfl | rfl
      · have h5 : some (cs 0, FieldType.int) = some (cA, ty) := h2
        cases h5
        rfl
      · have h5 : some (cs 2, FieldType.boolean) = some (cA, ty) := h2
        cases h5
        rfl
    have e2 : N' = N := h1
    subst e1; subst e2
    rcases h4 with ⟨U', h6, _⟩ | ⟨vs', h6, _, h7⟩ | ⟨ks, h6, _⟩
    · cases h6
    · cases h6
      exact ⟨f, ⟨ht, rfl⟩, h7⟩
    · cases h6
  | .inl (cA, N', .inr (.inl f)), ⟨_, h2, _⟩ =>
    rcases ht with rfl | rfl
    · have h5 : some (cs 0, FieldType.int) = some (cA, FieldType.long) := h2
      cases h5
    · have h5 : some (cs 2, FieldType.boolean) = some (cA, FieldType.long) := h2
      cases h5
  | .inl (cA, N', .inr (.inr (.inr (.inr f)))), ⟨_, ⟨tt, h2⟩, _⟩ =>
    rcases ht with rfl | rfl
    · have h5 : some (cs 0, FieldType.int) = some (cA, FieldType.array tt) := h2
      cases h5
    · have h5 : some (cs 2, FieldType.boolean) = some (cA, FieldType.array tt) := h2
      cases h5
  | .inl (cA, N', .inr (.inr (.inl f))), h => exact h.elim
  | .inl (cA, N', .inr (.inr (.inr (.inl f)))), h => exact h.elim
theorem cx_to_rowE {ad : List Nat} {tS t N : Nat} {cs : Nat → ClassId} {vs : List ab_Iv} {e : va_E} {f : Nat → Int32} (h : cx_cell ad tS cs (.inr (.inl (t, N, f))) e) (hl : vs.length = N) (hU : ∀ (i : Nat) (v : ab_Iv), vs[i]? = some v → v.1 ≤ (f i).toInt ∧ (f i).toInt ≤ v.2) : ab_tc ad tS (ab_tys cs) (t, N, .inr (.inl vs)) e := by
  obtain ⟨ht, rfl⟩ := h
  rcases ht with h0 | h0
  · have h0 : t = 0 := h0
    subst h0
    exact ⟨rfl, ⟨.int, rfl, Or.inl rfl⟩, rfl, Or.inr (Or.inl ⟨vs, rfl, hl, hU⟩)⟩
  · have h0 : t = 2 := h0
    subst h0
    exact ⟨rfl, ⟨.boolean, rfl, Or.inr rfl⟩, rfl, Or.inr (Or.inl ⟨vs, rfl, hl, hU⟩)⟩
theorem cx_of_rowK {ad : List Nat} {tS N : Nat} {cs : Nat → ClassId} {ks : List Int} {e : va_E} (h : ab_tc ad tS (ab_tys cs) (0, N, .inr (.inr (.inl ks))) e) : ∃ f : Nat → Int32, cx_cell ad tS cs (.inr (.inl (0, N, f))) e ∧ ks.length = N ∧ ∀ (i : Nat) (k : Int), ks[i]? = some k → (f i).toInt = k := by
  match e, h with
  | .inr (ci, fs), ⟨_, _, tvs, h3, _⟩ => cases h3
  | .inl (cA, N', .inl f), ⟨h1, ⟨ty, h2, _⟩, _, h4⟩ =>
    have h5 : some (cs 0, FieldType.int) = some (cA, ty) := h2
    cases h5
    have e2 : N' = N := h1
    subst e2
    rcases h4 with ⟨U', h6, _⟩ | ⟨vs', h6, _⟩ | ⟨ks', h6, h7, h8⟩
    · cases h6
    · cases h6
    · cases h6
      exact ⟨f, ⟨Or.inl rfl, rfl⟩, h7, h8⟩
  | .inl (cA, N', .inr (.inl f)), ⟨_, h2, _⟩ =>
    have h5 : some (cs 0, FieldType.int) = some (cA, FieldType.long) := h2
    cases h5
  | .inl (cA, N', .inr (.inr (.inr (.inr f)))), ⟨_, ⟨tt, h2⟩, _⟩ =>
    have h5 : some (cs 0, FieldType.int) = some (cA, FieldType.array tt) := h2
    cases h5
  | .inl (cA, N', .inr (.inr (.inl f))), h => exact h.elim
  | .inl (cA, N', .inr (.inr (.inr (.inl f)))), h => exact h.elim
theorem cx_to_rowK {ad : List Nat} {tS N : Nat} {cs : Nat → ClassId} {ks : List Int} {e : va_E} {f : Nat → Int32} (h : cx_cell ad tS cs (.inr (.inl (0, N, f))) e) (hu : ks.length = N ∧ ∀ (i : Nat) (k : Int), ks[i]? = some k → (f i).toInt = k) : ab_tc ad tS (ab_tys cs) (0, N, .inr (.inr (.inl ks))) e := by
  obtain ⟨-, rfl⟩ := h
  exact ⟨rfl, ⟨.int, rfl, Or.inl rfl⟩, rfl, Or.inr (Or.inr ⟨ks, rfl, hu.1, hu.2⟩)⟩
/-- rows that are told exactly -/
theorem ex_rowK {ks : List Int} {f : Nat → Int32} {g : Nat → Nat} {n : Nat} (hc : (List.range n).all (fun s => match ks[s]? with
    | some v => decide (v = Int.ofNat (g s))
    | none => false) = true) (h : ∀ (i : Nat) (k : Int), ks[i]? = some k → (f i).toInt = k) : ∀ s : Nat, s < n → (f s).toInt = ((g s : Nat) : Int) := fun s hs => by
  have h1 := List.all_eq_true.mp hc s (List.mem_range.mpr hs)
  cases hv : ks[s]? with
  | none =>
    rw [hv] at h1
    exact absurd (show false = true from h1) (by decide)
  | some v =>
    rw [hv] at h1
    have h1 : decide (v = Int.ofNat (g s)) = true := h1
    have e1 := of_decide_eq_true h1
    rw [h s v hv, e1]
    rfl
def F7 (f0 f1 f2 f3 f4 f5 f6 : Nat → Int32) : Nat → Nat → Int32 := fun i => bif Nat.beq i 0 then f0 else bif Nat.beq i 1 then f1 else bif Nat.beq i 2 then f2 else bif Nat.beq i 3 then f3 else bif Nat.beq i 4 then f4 else bif Nat.beq i 5 then f5 else f6
theorem F4_E {f0 f1 f2 f3 g0 g1 g2 g3 : Nat → Int32} (h0 : ∀ i : Nat, i < 16 → f0 i = g0 i) (h1 : ∀ i : Nat, i < 16 → f1 i = g1 i) (h2 : ∀ i : Nat, i < 16 → f2 i = g2 i) (h3 : ∀ i : Nat, i < 16 → f3 i = g3 i) : ∀ b u : Nat, b < 4 → u < 16 → F4 f0 f1 f2 f3 b u = F4 g0 g1 g2 g3 b u := fun b u hb hu => by
  rcases (show b = 0 ∨ b = 1 ∨ b = 2 ∨ b = 3 by omega) with rfl | rfl | rfl | rfl
  · exact h0 u hu
  · exact h1 u hu
  · exact h2 u hu
  · exact h3 u hu
theorem F4_of {H : Nat → Nat → Int32} : ∀ b u : Nat, b < 4 → u < 16 → H b u = F4 (H 0) (H 1) (H 2) (H 3) b u := fun b u hb _ => by
  rcases (show b = 0 ∨ b = 1 ∨ b = 2 ∨ b = 3 by omega) with rfl | rfl | rfl | rfl <;> rfl
theorem RO_E {mi mi2 fo fo2 pl pl2 ro ro2 mh mh2 : Nat → Int32} {hd hd2 : Nat → Nat → Int32} {g fk pf pt pr mf mt : Int32} (hg : g.toNatClampNeg ≤ 4) (e1 : ∀ i : Nat, i < 4 → mi i = mi2 i) (e2 : ∀ i : Nat, i < 4900 → fo i = fo2 i) (e3 : ∀ i : Nat, i < 24 → pl i = pl2 i) (e4 : ∀ i : Nat, i < 45927 → ro i = ro2 i) (e5 : ∀ i : Nat, i < 64 → mh i = mh2 i) (e6 : ∀ b u : Nat, b < 4 → u < 16 → hd b u = hd2 b u) (h : RO mi fo pl ro mh hd g fk pf pt pr mf mt) : RO mi2 fo2 pl2 ro2 mh2 hd2 g fk pf pt pr mf mt := by
  obtain ⟨h1, h2, h3, h4, h5⟩ := h
  refine ⟨fun b u hb hu => by rw [← e5 _ (by omega), ← e6 b u hb hu]; exact h1 b u hb hu, fun q => tbH_E e1 e2 (h2 q), fun q q1 q2 => by rw [← e2 q (by omega)]; exact h3 q q1 q2, ?_, ?_⟩
  · rw [← nbF_E e1]; exact rosX_E hg e6 e3 h4
  · rw [← nbF_E e1]; exact rosM_E e6 e4 h5
theorem tk0a : lw_THs.all (fun th => tr_3 th [(0, ci_0), (1, ci_1), (43, ci_43), (44, ci_44), (119, ci_119), (126, ci_126), (120, ci_120)]) = true := by decide +kernel
theorem tk0x : lw_THs.all (fun th => th.all (tr_1 (cx_M [0, 1, 43, 44] [3765, 3766]) th [(0, ci_0), (1, ci_1), (43, ci_43), (44, ci_44)])) = true := by decide +kernel
theorem tk0m : lw_THs.all (fun th => th.all (tr_1 (cx_M [119, 126, 120] [8616, 8638]) th [(119, ci_119), (126, ci_126), (120, ci_120)])) = true := by decide +kernel
theorem tz_0 : ∀ th ∈ lw_THs, lw_TQ 212 th := by
  intro th hmem p l e s m below meth c D A Q cs tS b L i0 cells slots xs iv ws ls F0 hcs hiv hL hL2 hl hth hEQ hlen K
  have h3 := tr_3_ok (List.all_eq_true.mp tk0a th hmem) hth
  obtain ⟨a0, e0, w0, t0⟩ := h3 _ (List.mem_of_getElem? (i := 0) rfl)
  obtain ⟨a1, e1, w1, t1⟩ := h3 _ (List.mem_of_getElem? (i := 1) rfl)
  obtain ⟨a43, e43, w43, t43⟩ := h3 _ (List.mem_of_getElem? (i := 2) rfl)
  obtain ⟨a44, e44, w44, t44⟩ := h3 _ (List.mem_of_getElem? (i := 3) rfl)
  obtain ⟨a119, e119, w119, t119⟩ := h3 _ (List.mem_of_getElem? (i := 4) rfl)
  obtain ⟨a126, e126, w126, t126⟩ := h3 _ (List.mem_of_getElem? (i := 5) rfl)
  obtain ⟨a120, e120, w120, t120⟩ := h3 _ (List.mem_of_getElem? (i := 6) rfl)
  obtain ⟨m0, c0, b0⟩ := cx_of_obj (ci := 10) (N := 12) (tvs := ots_0) t0
  obtain ⟨r1, c1, u1⟩ := cx_of_row (t := 0) (N := 7) (Or.inl rfl) t1
  obtain ⟨m43, c43, b43⟩ := cx_of_obj (ci := 4) (N := 17) (tvs := ots_43) t43
  have hbd43 := obd_43_of b43
  obtain ⟨mi, c44, u44⟩ := cx_of_row (t := 0) (N := 4) (Or.inl rfl) t44
  obtain ⟨m119, c119, b119⟩ := cx_of_obj (ci := 11) (N := 68) (tvs := ots_119) t119
  have hbd119 := obd_119_of b119
  obtain ⟨r2, c126, u126⟩ := cx_of_row (t := 0) (N := 7) (Or.inl rfl) t126
  obtain ⟨mm, c120, u120⟩ := cx_of_row (t := 0) (N := 4) (Or.inl rfl) t120
  have hX : cx_heap tS cs ([(0, .inl (10, vs_0 (cx_toI (m0 11)))), (1, .inr (.inl (0, 7, r1))), (43, .inl (4, vs_43 (fun i => cx_toI (m43 i)))), (44, .inr (.inl (0, 4, mi)))]) ws := cx_heap_of (List.forall_mem_cons.mpr ⟨⟨a0, e0, w0, c0⟩, (List.forall_mem_cons.mpr ⟨⟨a1, e1, w1, c1⟩, (List.forall_mem_cons.mpr ⟨⟨a43, e43, w43, c43⟩, (List.forall_mem_cons.mpr ⟨⟨a44, e44, w44, c44⟩, (fun _ h => absurd h List.not_mem_nil)⟩)⟩)⟩)⟩)
  have hM : cx_heap tS cs ([(119, .inl (11, vs_119 (fun i => cx_toI (m119 i)) (fun i => cx_toL (m119 i)))), (126, .inr (.inl (0, 7, r2))), (120, .inr (.inl (0, 4, mm)))]) ws := cx_heap_of (List.forall_mem_cons.mpr ⟨⟨a119, e119, w119, c119⟩, (List.forall_mem_cons.mpr ⟨⟨a126, e126, w126, c126⟩, (List.forall_mem_cons.mpr ⟨⟨a120, e120, w120, c120⟩, (fun _ h => absurd h List.not_mem_nil)⟩)⟩)⟩)
  have ha0 : (ws.map (·.1))[0]? = some a0 := by rw [List.getElem?_map, w0]; rfl
  have ha119 : (ws.map (·.1))[119]? = some a119 := by rw [List.getElem?_map, w119]; rfl
  obtain ⟨mi0, fo0, pl0, f0, f1, f2, f3, mh0, ro0, g0, fk0, pf0, pt0, pr0, mf0, mt0, q44, q49, q67, q6, q7, q8, q9, q120, q124, q130, g12, g13, g14, g15, g16, n8, n22, n23, hRO⟩ := hEQ.2
  have q44 : rl_row ws 44 = some ((List.range 4).map (fun i => .int (mi0 i))) := q44
  have q49 : rl_row ws 49 = some ((List.range 4900).map (fun i => .int (fo0 i))) := q49
  have q67 : rl_row ws 67 = some ((List.range 24).map (fun i => .int (pl0 i))) := q67
  have q6 : rl_row ws 6 = some ((List.range 16).map (fun i => .int (f0 i))) := q6
  have q7 : rl_row ws 7 = some ((List.range 16).map (fun i => .int (f1 i))) := q7
  have q8 : rl_row ws 8 = some ((List.range 16).map (fun i => .int (f2 i))) := q8
  have q9 : rl_row ws 9 = some ((List.range 16).map (fun i => .int (f3 i))) := q9
  have q120 : rl_row ws 120 = some ((List.range 4).map (fun i => .int (mi0 i))) := q120
  have q124 : rl_row ws 124 = some ((List.range 64).map (fun i => .int (mh0 i))) := q124
  have q130 : rl_row ws 130 = some ((List.range 45927).map (fun i => .int (ro0 i))) := q130
  rw [cx_fldv w43 c43 (x := cx_toI (m43 12)) rfl rfl] at g12
  rw [cx_fldv w43 c43 (x := cx_toI (m43 13)) rfl rfl] at g13
  rw [cx_fldv w43 c43 (x := cx_toI (m43 14)) rfl rfl] at g14
  rw [cx_fldv w43 c43 (x := cx_toI (m43 15)) rfl rfl] at g15
  rw [cx_fldv w43 c43 (x := cx_toI (m43 16)) rfl rfl] at g16
  rw [cx_fldv w119 c119 (x := cx_toI (m119 8)) rfl rfl] at n8
  rw [cx_fldv w119 c119 (x := cx_toI (m119 22)) rfl rfl] at n22
  rw [cx_fldv w119 c119 (x := cx_toI (m119 23)) rfl rfl] at n23
  have g12 : cx_toI (m43 12) = g0 := Value.int.inj (Option.some.inj g12)
  have g13 : cx_toI (m43 13) = fk0 := Value.int.inj (Option.some.inj g13)
  have g14 : cx_toI (m43 14) = pf0 := Value.int.inj (Option.some.inj g14)
  have g15 : cx_toI (m43 15) = pt0 := Value.int.inj (Option.some.inj g15)
  have g16 : cx_toI (m43 16) = pr0 := Value.int.inj (Option.some.inj g16)
  have n8 : cx_toI (m119 8) = g0 := Value.int.inj (Option.some.inj n8)
  have n22 : cx_toI (m119 22) = mf0 := Value.int.inj (Option.some.inj n22)
  have n23 : cx_toI (m119 23) = mt0 := Value.int.inj (Option.some.inj n23)
  rw [← g12, ← g13, ← g14, ← g15, ← g16, ← n22, ← n23] at hRO
  have hgm : cx_toI (m119 8) = cx_toI (m43 12) := n8.trans g12.symm
  have hgb : (0 : Int) ≤ (cx_toI (m43 12)).toInt ∧ (cx_toI (m43 12)).toInt ≤ 4 := hbd43.1
  have hgk := ab_clamp (x := cx_toI (m43 12)) hgb.1
  have hg4 : (cx_toI (m43 12)).toNatClampNeg ≤ 4 := by omega
  have r44 : rl_row ws 44 = some ((List.range 4).map (fun i => .int (mi i))) := cx_rowv w44 c44
  have e44q : ∀ i : Nat, i < 4 → mi0 i = mi i := cx_rowE (Option.some.inj (q44.symm.trans r44))
  have r120 : rl_row ws 120 = some ((List.range 4).map (fun i => .int (mm i))) := cx_rowv w120 c120
  have e120q : ∀ i : Nat, i < 4 → mi0 i = mm i := cx_rowE (Option.some.inj (q120.symm.trans r120))
  have hRO2 := RO_E hg4 e44q (fun _ _ => rfl) (fun _ _ => rfl) (fun _ _ => rfl) (fun _ _ => rfl) (fun _ _ _ _ => rfl) hRO
  have eMM : ∀ i : Nat, i < 4 → mi i = mm i := fun i hi => (e44q i hi).symm.trans (e120q i hi)
  have hEd : cx_toI (m0 11) = cx_toI (m119 1) := by
    obtain ⟨v, q1, q2⟩ := hEQ.1.2.1 ((0, 11), (119, 1)) (List.mem_of_getElem? (i := 0) rfl)
    have q1 : rl_fld ws (0, 11) = some v := q1
    have q2 : rl_fld ws (119, 1) = some v := q2
    rw [cx_fldv w0 c0 (x := cx_toI (m0 11)) rfl rfl] at q1
    rw [cx_fldv w119 c119 (x := cx_toI (m119 1)) rfl rfl] at q2
    exact Value.int.inj (Option.some.inj (q1.trans q2.symm))
  obtain ⟨fs0, e0q, -⟩ := id c0
  subst e0q
  refine lx_x F0 hl (pc' := 213) (ab_tbo lto_0 _ _ _ (List.mem_of_getElem? (i := 0) rfl)) rfl ha0 ?_
  refine lx_arg F0 hiv hL hL2 hl (z := 1) (pc' := 219) rfl (ab_tbo lto_0 _ _ _ (List.mem_of_getElem? (i := 1) rfl)) (ab_tbo lto_0 _ _ _ (List.mem_of_getElem? (i := 2) rfl)) (ab_tbo lto_0 _ _ _ (List.mem_of_getElem? (i := 3) rfl)) (ab_tbo lto_0 _ _ _ (List.mem_of_getElem? (i := 4) rfl)) (ab_tbo lto_0 _ _ _ (List.mem_of_getElem? (i := 5) rfl)) rfl ?_
  refine lx_arg F0 hiv hL hL2 hl (z := 2) (pc' := 225) rfl (ab_tbo lto_0 _ _ _ (List.mem_of_getElem? (i := 6) rfl)) (ab_tbo lto_0 _ _ _ (List.mem_of_getElem? (i := 7) rfl)) (ab_tbo lto_0 _ _ _ (List.mem_of_getElem? (i := 8) rfl)) (ab_tbo lto_0 _ _ _ (List.mem_of_getElem? (i := 9) rfl)) (ab_tbo lto_0 _ _ _ (List.mem_of_getElem? (i := 10) rfl)) rfl ?_
  obtain ⟨d1, hd1, Ct1⟩ := ct_xmile (g := (cx_toI (m43 12))) (fk := (cx_toI (m43 13))) (pf := (cx_toI (m43 14))) (pt := (cx_toI (m43 15))) (pr := (cx_toI (m43 16))) (dy := cx_toI (m0 11)) (r := r1) (mi := mi) (x := xs (i0 + 1)) (v := xs (i0 + 2)) l D cs tS ws [.ref a0, .int (xs (i0 + 1)), .int (xs (i0 + 2))] hX ⟨⟨a0, ha0, rfl⟩, rfl, rfl, trivial⟩
  refine lx_call F0 hcs hl (pc' := 228) (q := 128) (n := 2) (ci := 10) (As := [.int (xs (i0 + 1)), .int (xs (i0 + 2))]) (stk := []) (ab_tbo lto_0 _ _ _ (List.mem_of_getElem? (i := 11) rfl)) rfl rfl rfl w0 (by decide) ⟨d1, by omega, Ct1⟩ rfl (fun rv ws1 hp1 => ?_)
  obtain ⟨v, h1, ⟨z, rr, mi2, fk2, pf2, rfl, rfl, hdx⟩, hk1, hf1, hH1, hrv⟩ := hp1
  obtain rfl : rv = some (.int z) := by
    cases rv with
    | none => exact hrv.elim
    | some y => exact congrArg some hrv
  show ab_W p l e room_1 s m #[Value.ref b] below meth c D vwCl A Q cells slots 228 ls [.int z] ws1
  refine lx_pop F0 (pc' := 229) (ab_tbo lto_0 _ _ _ (List.mem_of_getElem? (i := 12) rfl)) rfl ?_
  have hl1 := lx_Lc hl hf1.1
  have hM1 := cx_heap_far hM hf1 rfl
  have ha119b : (ws1.map (·.1))[119]? = some a119 := by rw [hf1.1]; exact ha119
  refine lx_m F0 hl1 (pc' := 230) (ab_tbo lto_0 _ _ _ (List.mem_of_getElem? (i := 13) rfl)) rfl ha119b ?_
  refine lx_arg F0 hiv hL hL2 hl1 (z := 1) (pc' := 236) rfl (ab_tbo lto_0 _ _ _ (List.mem_of_getElem? (i := 14) rfl)) (ab_tbo lto_0 _ _ _ (List.mem_of_getElem? (i := 15) rfl)) (ab_tbo lto_0 _ _ _ (List.mem_of_getElem? (i := 16) rfl)) (ab_tbo lto_0 _ _ _ (List.mem_of_getElem? (i := 17) rfl)) (ab_tbo lto_0 _ _ _ (List.mem_of_getElem? (i := 18) rfl)) rfl ?_
  refine lx_arg F0 hiv hL hL2 hl1 (z := 2) (pc' := 242) rfl (ab_tbo lto_0 _ _ _ (List.mem_of_getElem? (i := 19) rfl)) (ab_tbo lto_0 _ _ _ (List.mem_of_getElem? (i := 20) rfl)) (ab_tbo lto_0 _ _ _ (List.mem_of_getElem? (i := 21) rfl)) (ab_tbo lto_0 _ _ _ (List.mem_of_getElem? (i := 22) rfl)) (ab_tbo lto_0 _ _ _ (List.mem_of_getElem? (i := 23) rfl)) rfl ?_
  obtain ⟨a119c, e119c, w119c, c119c⟩ := hM1 119 _ rfl
  obtain ⟨fs119c, e119d, -⟩ := id c119c
  subst e119d
  have eadd : a119c = a119 := ab_ad_get ha119b w119c
  rw [eadd] at w119c
  obtain ⟨d2, hd2, Ct2⟩ := ct_mmile (mi := fun i => cx_toI (m119 i)) (ml := fun i => cx_toL (m119 i)) (mm := mm) (r := r2) (x := xs (i0 + 1)) (v := xs (i0 + 2)) l D cs tS ws1 [.ref a119, .int (xs (i0 + 1)), .int (xs (i0 + 2))] hM1 ⟨⟨a119, ha119b, rfl⟩, rfl, rfl, trivial⟩
  refine lx_call F0 hcs hl1 (pc' := 245) (q := 186) (n := 2) (ci := 11) (As := [.int (xs (i0 + 1)), .int (xs (i0 + 2))]) (stk := []) (ab_tbo lto_0 _ _ _ (List.mem_of_getElem? (i := 24) rfl)) rfl rfl rfl w119c (by first | decide | exact (by decide : (1 : Nat) ≤ 8)) ⟨d2, by omega, Ct2⟩ rfl (fun rv2 ws2 hp2 => ?_)
  obtain ⟨v2, h2, ⟨z2, mq2, rr2, mm2, rfl, rfl, hdm⟩, hk2, hf2, hH2, hrv2⟩ := hp2
  obtain rfl : rv2 = some (.int z2) := by
    cases rv2 with
    | none => exact hrv2.elim
    | some y => exact congrArg some hrv2
  show ab_W p l e room_1 s m #[Value.ref b] below meth c D vwCl A Q cells slots 245 ls [.int z2] ws2
  have k0 : (Int32.ofInt 0).toInt = 0 := by decide +kernel
  have k1 : (Int32.ofInt 1).toInt = 1 := by decide +kernel
  have km1 : (Int32.ofInt (-1)).toInt = -1 := by decide +kernel
  have km9 : (Int32.ofInt (-9)).toInt = -9 := by decide +kernel
  have hfk2 : (0 : Int) ≤ fk2.toInt ∧ fk2.toInt ≤ 1 := by
    rcases hdx with ⟨_, _, u, _⟩ | ⟨_, _, u, _⟩ <;> rw [u]
    · omega
    · exact hbd43.2
  have hb43n : obd_43 (upi (upi (fun i => cx_toI (m43 i)) 13 fk2) 14 pf2) := ⟨hgb, hfk2⟩
  have hmb : ∀ i : Nat, i < 4 → 0 ≤ (mi2 i).toInt ∧ (mi2 i).toInt ≤ 40 := fun i hi => by
    have h9 : (0 : Int) ≤ (mi i).toInt ∧ (mi i).toInt ≤ 40 := cx_U1o (u44 i hi)
    rcases hdx with ⟨v1, u, _⟩ | ⟨_, u, _⟩ <;> rw [u]
    · unfold upd
      split
      · exact v1.2
      · exact h9
    · exact h9
  have hmE : ∀ i : Nat, i < 4 → mm2 i = mi2 i := fun i hi => by
    rcases hdx with ⟨v1, u, _⟩ | ⟨v1, u, _⟩ <;> rcases hdm with ⟨v2, u2, _⟩ | ⟨v2, u2, _⟩
    · rw [u, u2]
      unfold upd
      rw [eMM i hi]
    · exact absurd v1 v2
    · exact absurd v2 v1
    · rw [u, u2, eMM i hi]
  have hb119n : obd_119 mq2 := by
    rcases hdm with ⟨_, _, u⟩ | ⟨_, _, u⟩ <;> rw [u] <;> exact hbd119
  have h8 : mq2 8 = cx_toI (m119 8) ∧ mq2 23 = cx_toI (m119 23) ∧ mq2 1 = cx_toI (m119 1) := by
    rcases hdm with ⟨_, _, u⟩ | ⟨_, _, u⟩ <;> rw [u] <;> exact ⟨rfl, rfl, rfl⟩
  have hmi : ∀ i : Nat, (Nat.beq i 0 || (Nat.beq i 22)) = false → cx_toI (m119 i) = mq2 i := fun i hi => by
    simp only [Bool.or_eq_false_iff] at hi
    obtain ⟨u0, u1⟩ := hi
    rcases hdm with ⟨_, _, u⟩ | ⟨_, _, u⟩ <;> rw [u] <;> simp only [upi, u0, u1, cond_false]
  have hlen1 : ws1.length = 165 := by have := congrArg List.length hf1.1; simpa [hlen] using this
  have hlen2 : ws2.length = 165 := by have := congrArg List.length hf2.1; simpa [hlen1] using this
  have hth1 : ab_th tS (ab_tys cs) th ws1 := lx_done (fl := [3765, 3766]) hth hX hH1 ⟨⟨rfl, rfl, Or.inr rfl, Or.inr rfl, Or.inr rfl, Or.inr rfl, Or.inr rfl, Or.inr rfl, Or.inr rfl, Or.inr rfl, Or.inr rfl, Or.inr rfl, Or.inr rfl, Or.inr rfl, trivial⟩, ⟨rfl, trivial⟩, ⟨rfl, rfl, Or.inr rfl, Or.inr rfl, Or.inr rfl, Or.inr rfl, Or.inr rfl, Or.inr rfl, Or.inr rfl, Or.inr rfl, Or.inr rfl, Or.inr rfl, Or.inr rfl, Or.inr rfl, Or.inr rfl, Or.inl rfl, Or.inl rfl, Or.inr rfl, Or.inr rfl, trivial⟩, ⟨rfl, trivial⟩, trivial⟩ hf1 (po := [(0, ci_0), (1, ci_1), (43, ci_43), (44, ci_44)]) (List.forall_mem_cons.mpr ⟨lx_po hH1 rfl (fun e2 q => cx_to_obj (N := 12) q rfl (otl_0 (mi := fun _ => cx_toI (m0 11)))), (List.forall_mem_cons.mpr ⟨lx_po hH1 rfl (fun e2 q => cx_to_row q cx_anyU), (List.forall_mem_cons.mpr ⟨lx_po hH1 rfl (fun e2 q => cx_to_obj (N := 17) q rfl (otl_43 (mi := upi (upi (fun i => cx_toI (m43 i)) 13 fk2) 14 pf2) hb43n)), (List.forall_mem_cons.mpr ⟨lx_po hH1 rfl (fun e2 q => cx_to_row (U := [(.ofNat 0, .ofNat 40)]) q (fun i hi => cx_U1 (hmb i hi))), (fun _ h => absurd h List.not_mem_nil)⟩)⟩)⟩)⟩) (List.all_eq_true.mp tk0x th hmem)
  have hth2 : ab_th tS (ab_tys cs) th ws2 := lx_done (fl := [8616, 8638]) hth1 hM1 hH2 ⟨⟨rfl, rfl, Or.inl rfl, Or.inr (congrArg (fun u => (.inl (.int u) : cx_V)) (hmi 1 rfl)), Or.inr rfl, Or.inr rfl, Or.inr rfl, Or.inr rfl, Or.inr rfl, Or.inr rfl, Or.inr (congrArg (fun u => (.inl (.int u) : cx_V)) (hmi 8 rfl)), Or.inr rfl, Or.inr (congrArg (fun u => (.inl (.int u) : cx_V)) (hmi 10 rfl)), Or.inr (congrArg (fun u => (.inl (.int u) : cx_V)) (hmi 11 rfl)), Or.inr (congrArg (fun u => (.inl (.int u) : cx_V)) (hmi 12 rfl)), Or.inr rfl, Or.inr rfl, Or.inr rfl, Or.inr rfl, Or.inr rfl, Or.inr rfl, Or.inr rfl, Or.inr rfl, Or.inr (congrArg (fun u => (.inl (.int u) : cx_V)) (hmi 21 rfl)), Or.inl rfl, Or.inr (congrArg (fun u => (.inl (.int u) : cx_V)) (hmi 23 rfl)), Or.inr (congrArg (fun u => (.inl (.int u) : cx_V)) (hmi 24 rfl)), Or.inr rfl, Or.inr (congrArg (fun u => (.inl (.int u) : cx_V)) (hmi 26 rfl)), Or.inr (congrArg (fun u => (.inl (.int u) : cx_V)) (hmi 27 rfl)), Or.inr rfl, Or.inr (congrArg (fun u => (.inl (.int u) : cx_V)) (hmi 29 rfl)), Or.inr (congrArg (fun u => (.inl (.int u) : cx_V)) (hmi 30 rfl)), Or.inr (congrArg (fun u => (.inl (.int u) : cx_V)) (hmi 31 rfl)), Or.inr rfl, Or.inr rfl, Or.inr rfl, Or.inr rfl, Or.inr rfl, Or.inr rfl, Or.inr rfl, Or.inr rfl, Or.inr rfl, Or.inr (congrArg (fun u => (.inl (.int u) : cx_V)) (hmi 41 rfl)), Or.inr (congrArg (fun u => (.inl (.int u) : cx_V)) (hmi 42 rfl)), Or.inr (congrArg (fun u => (.inl (.int u) : cx_V)) (hmi 43 rfl)), Or.inr (congrArg (fun u => (.inl (.int u) : cx_V)) (hmi 44 rfl)), Or.inr (congrArg (fun u => (.inl (.int u) : cx_V)) (hmi 45 rfl)), Or.inr rfl, Or.inr rfl, Or.inr rfl, Or.inr rfl, Or.inr rfl, Or.inr rfl, Or.inr rfl, Or.inr rfl, Or.inr rfl, Or.inr (congrArg (fun u => (.inl (.int u) : cx_V)) (hmi 55 rfl)), Or.inr rfl, Or.inr rfl, Or.inr rfl, Or.inr rfl, Or.inr rfl, Or.inr (congrArg (fun u => (.inl (.int u) : cx_V)) (hmi 61 rfl)), Or.inr rfl, Or.inr rfl, Or.inr rfl, Or.inr rfl, Or.inr rfl, Or.inr rfl, trivial⟩, ⟨rfl, trivial⟩, ⟨rfl, trivial⟩, trivial⟩ hf2 (po := [(119, ci_119), (126, ci_126), (120, ci_120)]) (List.forall_mem_cons.mpr ⟨lx_po hH2 rfl (fun e2 q => cx_to_obj (N := 68) q rfl (otl_119 (mi := mq2) hb119n)), (List.forall_mem_cons.mpr ⟨lx_po hH2 rfl (fun e2 q => cx_to_row q cx_anyU), (List.forall_mem_cons.mpr ⟨lx_po hH2 rfl (fun e2 q => cx_to_row (U := [(.ofNat 0, .ofNat 40)]) q (fun i hi => by rw [hmE i hi]; exact cx_U1 (hmb i hi))), (fun _ h => absurd h List.not_mem_nil)⟩)⟩)⟩) (List.all_eq_true.mp tk0m th hmem)
  have hg1 := cx_gr (fl := [3765, 3766]) hX hH1 ⟨⟨rfl, rfl, Or.inr rfl, Or.inr rfl, Or.inr rfl, Or.inr rfl, Or.inr rfl, Or.inr rfl, Or.inr rfl, Or.inr rfl, Or.inr rfl, Or.inr rfl, Or.inr rfl, Or.inr rfl, trivial⟩, ⟨rfl, trivial⟩, ⟨rfl, rfl, Or.inr rfl, Or.inr rfl, Or.inr rfl, Or.inr rfl, Or.inr rfl, Or.inr rfl, Or.inr rfl, Or.inr rfl, Or.inr rfl, Or.inr rfl, Or.inr rfl, Or.inr rfl, Or.inr rfl, Or.inl rfl, Or.inl rfl, Or.inr rfl, Or.inr rfl, trivial⟩, ⟨rfl, trivial⟩, trivial⟩ hf1
  have hg2 := cx_gr (fl := [8616, 8638]) hM1 hH2 ⟨⟨rfl, rfl, Or.inl rfl, Or.inr (congrArg (fun u => (.inl (.int u) : cx_V)) (hmi 1 rfl)), Or.inr rfl, Or.inr rfl, Or.inr rfl, Or.inr rfl, Or.inr rfl, Or.inr rfl, Or.inr (congrArg (fun u => (.inl (.int u) : cx_V)) (hmi 8 rfl)), Or.inr rfl, Or.inr (congrArg (fun u => (.inl (.int u) : cx_V)) (hmi 10 rfl)), Or.inr (congrArg (fun u => (.inl (.int u) : cx_V)) (hmi 11 rfl)), Or.inr (congrArg (fun u => (.inl (.int u) : cx_V)) (hmi 12 rfl)), Or.inr rfl, Or.inr rfl, Or.inr rfl, Or.inr rfl, Or.inr rfl, Or.inr rfl, Or.inr rfl, Or.inr rfl, Or.inr (congrArg (fun u => (.inl (.int u) : cx_V)) (hmi 21 rfl)), Or.inl rfl, Or.inr (congrArg (fun u => (.inl (.int u) : cx_V)) (hmi 23 rfl)), Or.inr (congrArg (fun u => (.inl (.int u) : cx_V)) (hmi 24 rfl)), Or.inr rfl, Or.inr (congrArg (fun u => (.inl (.int u) : cx_V)) (hmi 26 rfl)), Or.inr (congrArg (fun u => (.inl (.int u) : cx_V)) (hmi 27 rfl)), Or.inr rfl, Or.inr (congrArg (fun u => (.inl (.int u) : cx_V)) (hmi 29 rfl)), Or.inr (congrArg (fun u => (.inl (.int u) : cx_V)) (hmi 30 rfl)), Or.inr (congrArg (fun u => (.inl (.int u) : cx_V)) (hmi 31 rfl)), Or.inr rfl, Or.inr rfl, Or.inr rfl, Or.inr rfl, Or.inr rfl, Or.inr rfl, Or.inr rfl, Or.inr rfl, Or.inr rfl, Or.inr (congrArg (fun u => (.inl (.int u) : cx_V)) (hmi 41 rfl)), Or.inr (congrArg (fun u => (.inl (.int u) : cx_V)) (hmi 42 rfl)), Or.inr (congrArg (fun u => (.inl (.int u) : cx_V)) (hmi 43 rfl)), Or.inr (congrArg (fun u => (.inl (.int u) : cx_V)) (hmi 44 rfl)), Or.inr (congrArg (fun u => (.inl (.int u) : cx_V)) (hmi 45 rfl)), Or.inr rfl, Or.inr rfl, Or.inr rfl, Or.inr rfl, Or.inr rfl, Or.inr rfl, Or.inr rfl, Or.inr rfl, Or.inr rfl, Or.inr (congrArg (fun u => (.inl (.int u) : cx_V)) (hmi 55 rfl)), Or.inr rfl, Or.inr rfl, Or.inr rfl, Or.inr rfl, Or.inr rfl, Or.inr (congrArg (fun u => (.inl (.int u) : cx_V)) (hmi 61 rfl)), Or.inr rfl, Or.inr rfl, Or.inr rfl, Or.inr rfl, Or.inr rfl, Or.inr rfl, trivial⟩, ⟨rfl, trivial⟩, ⟨rfl, trivial⟩, trivial⟩ hf2
  refine lx_pop F0 (pc' := 246) (ab_tbo lto_0 _ _ _ (List.mem_of_getElem? (i := 25) rfl)) rfl ?_
  refine lx_goto F0 (pc' := 1810) (ab_tbo lto_0 _ _ _ (List.mem_of_getElem? (i := 26) rfl)) rfl ?_
  have hX2 := cx_heap_far hH1 hf2 rfl
  refine K ls ws2 (lx_Lc hl1 hf2.1) ⟨th, hmem, hth2⟩ ?_ hlen2
  refine ⟨⟨fun q h => absurd h List.not_mem_nil, List.forall_mem_cons.mpr ⟨?_, fun q h => absurd h List.not_mem_nil⟩, fun q h => absurd h List.not_mem_nil⟩, mi2, fo0, pl0, f0, f1, f2, f3, mh0, ro0, (cx_toI (m43 12)), fk2, pf2, (cx_toI (m43 15)), (cx_toI (m43 16)), mq2 22, cx_toI (m119 23), ?_, ?_, ?_, ?_, ?_, ?_, ?_, ?_, ?_, ?_, ?_, ?_, ?_, ?_, ?_, ?_, ?_, ?_, ?_⟩
  · obtain ⟨ax, ex, wx, cx⟩ := hX2 0 _ rfl
    obtain ⟨ay, ey, wy, cy⟩ := hH2 119 _ rfl
    exact ⟨_, cx_fldv wx cx (x := cx_toI (m0 11)) rfl rfl, (cx_fldv wy cy (x := mq2 1) rfl rfl).trans (by rw [h8.2.2, hEd])⟩
  · obtain ⟨ag, eg, wg, cg⟩ := hX2 44 _ rfl
    exact (cx_rowv wg cg)
  · exact rl_row_keep hg2 rfl (rl_row_keep hg1 rfl q49)
  · exact rl_row_keep hg2 rfl (rl_row_keep hg1 rfl q67)
  · exact rl_row_keep hg2 rfl (rl_row_keep hg1 rfl q6)
  · exact rl_row_keep hg2 rfl (rl_row_keep hg1 rfl q7)
  · exact rl_row_keep hg2 rfl (rl_row_keep hg1 rfl q8)
  · exact rl_row_keep hg2 rfl (rl_row_keep hg1 rfl q9)
  · obtain ⟨ag, eg, wg, cg⟩ := hH2 120 _ rfl
    exact (cx_rowv wg cg).trans (congrArg some (cx_rowM (hmE)))
  · exact rl_row_keep hg2 rfl (rl_row_keep hg1 rfl q124)
  · exact rl_row_keep hg2 rfl (rl_row_keep hg1 rfl q130)
  · obtain ⟨ag, eg, wg, cg⟩ := hX2 43 _ rfl
    exact cx_fldv wg cg (x := (cx_toI (m43 12))) rfl rfl
  · obtain ⟨ag, eg, wg, cg⟩ := hX2 43 _ rfl
    exact cx_fldv wg cg (x := fk2) rfl rfl
  · obtain ⟨ag, eg, wg, cg⟩ := hX2 43 _ rfl
    exact cx_fldv wg cg (x := pf2) rfl rfl
  · obtain ⟨ag, eg, wg, cg⟩ := hX2 43 _ rfl
    exact cx_fldv wg cg (x := (cx_toI (m43 15))) rfl rfl
  · obtain ⟨ag, eg, wg, cg⟩ := hX2 43 _ rfl
    exact cx_fldv wg cg (x := (cx_toI (m43 16))) rfl rfl
  · obtain ⟨ag, eg, wg, cg⟩ := hH2 119 _ rfl
    exact (cx_fldv wg cg (x := mq2 8) rfl rfl).trans (by rw [h8.1, hgm])
  · obtain ⟨ag, eg, wg, cg⟩ := hH2 119 _ rfl
    exact (cx_fldv wg cg (x := mq2 22) rfl rfl)
  · obtain ⟨ag, eg, wg, cg⟩ := hH2 119 _ rfl
    exact (cx_fldv wg cg (x := mq2 23) rfl rfl).trans (by rw [h8.2.1])
  · rcases hdx with ⟨v1, u, u3, u4⟩ | ⟨v1, u, u3, u4⟩ <;> rcases hdm with ⟨v2, u2, u5⟩ | ⟨v2, u2, u5⟩
    · refine ⟨hRO2.1, fun q => absurd (by rw [u3]; exact k0) q, hRO2.2.2.1, Or.inl (by rw [u4]; exact km9), Or.inl ?_⟩
      rw [u5]
      exact km1
    · exact absurd v1 v2
    · exact absurd v2 v1
    · have e22 : mq2 22 = cx_toI (m119 22) := by rw [u5]; rfl
      rw [u, u3, u4, e22]
      exact hRO2
theorem tk9a : lw_THs.all (fun th => tr_3 th [(0, ci_0), (1, ci_1), (43, ci_43), (119, ci_119), (126, ci_126)]) = true := by decide +kernel
theorem tk9x : lw_THs.all (fun th => th.all (tr_1 (cx_M [0, 1, 43] [3764, 3766]) th [(0, ci_0), (1, ci_1), (43, ci_43)])) = true := by decide +kernel
theorem tk9m : lw_THs.all (fun th => th.all (tr_1 (cx_M [119, 126] [8616, 8624, 8638]) th [(119, ci_119), (126, ci_126)])) = true := by decide +kernel
theorem tz_9 : ∀ th ∈ lw_THs, lw_TQ 665 th := by
  intro th hmem p l e s m below meth c D A Q cs tS b L i0 cells slots xs iv ws ls F0 hcs hiv hL hL2 hl hth hEQ hlen K
  have h3 := tr_3_ok (List.all_eq_true.mp tk9a th hmem) hth
  obtain ⟨a0, e0, w0, t0⟩ := h3 _ (List.mem_of_getElem? (i := 0) rfl)
  obtain ⟨a1, e1, w1, t1⟩ := h3 _ (List.mem_of_getElem? (i := 1) rfl)
  obtain ⟨a43, e43, w43, t43⟩ := h3 _ (List.mem_of_getElem? (i := 2) rfl)
  obtain ⟨a119, e119, w119, t119⟩ := h3 _ (List.mem_of_getElem? (i := 3) rfl)
  obtain ⟨a126, e126, w126, t126⟩ := h3 _ (List.mem_of_getElem? (i := 4) rfl)
  obtain ⟨m0, c0, b0⟩ := cx_of_obj (ci := 10) (N := 12) (tvs := ots_0) t0
  obtain ⟨r1, c1, u1⟩ := cx_of_row (t := 0) (N := 7) (Or.inl rfl) t1
  obtain ⟨m43, c43, b43⟩ := cx_of_obj (ci := 4) (N := 17) (tvs := ots_43) t43
  have hbd43 := obd_43_of b43
  obtain ⟨m119, c119, b119⟩ := cx_of_obj (ci := 11) (N := 68) (tvs := ots_119) t119
  have hbd119 := obd_119_of b119
  obtain ⟨r2, c126, u126⟩ := cx_of_row (t := 0) (N := 7) (Or.inl rfl) t126
  have hX : cx_heap tS cs ([(0, .inl (10, vs_0 (cx_toI (m0 11)))), (1, .inr (.inl (0, 7, r1))), (43, .inl (4, vs_43 (fun i => cx_toI (m43 i))))]) ws := cx_heap_of (List.forall_mem_cons.mpr ⟨⟨a0, e0, w0, c0⟩, (List.forall_mem_cons.mpr ⟨⟨a1, e1, w1, c1⟩, (List.forall_mem_cons.mpr ⟨⟨a43, e43, w43, c43⟩, (fun _ h => absurd h List.not_mem_nil)⟩)⟩)⟩)
  have hM : cx_heap tS cs ([(119, .inl (11, vs_119 (fun i => cx_toI (m119 i)) (fun i => cx_toL (m119 i)))), (126, .inr (.inl (0, 7, r2)))]) ws := cx_heap_of (List.forall_mem_cons.mpr ⟨⟨a119, e119, w119, c119⟩, (List.forall_mem_cons.mpr ⟨⟨a126, e126, w126, c126⟩, (fun _ h => absurd h List.not_mem_nil)⟩)⟩)
  have ha0 : (ws.map (·.1))[0]? = some a0 := by rw [List.getElem?_map, w0]; rfl
  have ha119 : (ws.map (·.1))[119]? = some a119 := by rw [List.getElem?_map, w119]; rfl
  obtain ⟨mi0, fo0, pl0, f0, f1, f2, f3, mh0, ro0, g0, fk0, pf0, pt0, pr0, mf0, mt0, q44, q49, q67, q6, q7, q8, q9, q120, q124, q130, g12, g13, g14, g15, g16, n8, n22, n23, hRO⟩ := hEQ.2
  have q44 : rl_row ws 44 = some ((List.range 4).map (fun i => .int (mi0 i))) := q44
  have q49 : rl_row ws 49 = some ((List.range 4900).map (fun i => .int (fo0 i))) := q49
  have q67 : rl_row ws 67 = some ((List.range 24).map (fun i => .int (pl0 i))) := q67
  have q6 : rl_row ws 6 = some ((List.range 16).map (fun i => .int (f0 i))) := q6
  have q7 : rl_row ws 7 = some ((List.range 16).map (fun i => .int (f1 i))) := q7
  have q8 : rl_row ws 8 = some ((List.range 16).map (fun i => .int (f2 i))) := q8
  have q9 : rl_row ws 9 = some ((List.range 16).map (fun i => .int (f3 i))) := q9
  have q120 : rl_row ws 120 = some ((List.range 4).map (fun i => .int (mi0 i))) := q120
  have q124 : rl_row ws 124 = some ((List.range 64).map (fun i => .int (mh0 i))) := q124
  have q130 : rl_row ws 130 = some ((List.range 45927).map (fun i => .int (ro0 i))) := q130
  rw [cx_fldv w43 c43 (x := cx_toI (m43 12)) rfl rfl] at g12
  rw [cx_fldv w43 c43 (x := cx_toI (m43 13)) rfl rfl] at g13
  rw [cx_fldv w43 c43 (x := cx_toI (m43 14)) rfl rfl] at g14
  rw [cx_fldv w43 c43 (x := cx_toI (m43 15)) rfl rfl] at g15
  rw [cx_fldv w43 c43 (x := cx_toI (m43 16)) rfl rfl] at g16
  rw [cx_fldv w119 c119 (x := cx_toI (m119 8)) rfl rfl] at n8
  rw [cx_fldv w119 c119 (x := cx_toI (m119 22)) rfl rfl] at n22
  rw [cx_fldv w119 c119 (x := cx_toI (m119 23)) rfl rfl] at n23
  have g12 : cx_toI (m43 12) = g0 := Value.int.inj (Option.some.inj g12)
  have g13 : cx_toI (m43 13) = fk0 := Value.int.inj (Option.some.inj g13)
  have g14 : cx_toI (m43 14) = pf0 := Value.int.inj (Option.some.inj g14)
  have g15 : cx_toI (m43 15) = pt0 := Value.int.inj (Option.some.inj g15)
  have g16 : cx_toI (m43 16) = pr0 := Value.int.inj (Option.some.inj g16)
  have n8 : cx_toI (m119 8) = g0 := Value.int.inj (Option.some.inj n8)
  have n22 : cx_toI (m119 22) = mf0 := Value.int.inj (Option.some.inj n22)
  have n23 : cx_toI (m119 23) = mt0 := Value.int.inj (Option.some.inj n23)
  rw [← g12, ← g13, ← g14, ← g15, ← g16, ← n22, ← n23] at hRO
  have hgm : cx_toI (m119 8) = cx_toI (m43 12) := n8.trans g12.symm
  have hgb : (0 : Int) ≤ (cx_toI (m43 12)).toInt ∧ (cx_toI (m43 12)).toInt ≤ 4 := hbd43.1
  have hgk := ab_clamp (x := cx_toI (m43 12)) hgb.1
  have hg4 : (cx_toI (m43 12)).toNatClampNeg ≤ 4 := by omega
  have hRO2 := RO_E hg4 (fun _ _ => rfl) (fun _ _ => rfl) (fun _ _ => rfl) (fun _ _ => rfl) (fun _ _ => rfl) (fun _ _ _ _ => rfl) hRO
  have hEd : cx_toI (m0 11) = cx_toI (m119 1) := by
    obtain ⟨v, q1, q2⟩ := hEQ.1.2.1 ((0, 11), (119, 1)) (List.mem_of_getElem? (i := 0) rfl)
    have q1 : rl_fld ws (0, 11) = some v := q1
    have q2 : rl_fld ws (119, 1) = some v := q2
    rw [cx_fldv w0 c0 (x := cx_toI (m0 11)) rfl rfl] at q1
    rw [cx_fldv w119 c119 (x := cx_toI (m119 1)) rfl rfl] at q2
    exact Value.int.inj (Option.some.inj (q1.trans q2.symm))
  obtain ⟨fs0, e0q, -⟩ := id c0
  subst e0q
  refine lx_x F0 hl (pc' := 666) (ab_tbo lto_9 _ _ _ (List.mem_of_getElem? (i := 0) rfl)) rfl ha0 ?_
  refine lx_arg F0 hiv hL hL2 hl (z := 1) (pc' := 672) rfl (ab_tbo lto_9 _ _ _ (List.mem_of_getElem? (i := 1) rfl)) (ab_tbo lto_9 _ _ _ (List.mem_of_getElem? (i := 2) rfl)) (ab_tbo lto_9 _ _ _ (List.mem_of_getElem? (i := 3) rfl)) (ab_tbo lto_9 _ _ _ (List.mem_of_getElem? (i := 4) rfl)) (ab_tbo lto_9 _ _ _ (List.mem_of_getElem? (i := 5) rfl)) rfl ?_
  obtain ⟨d1, hd1, Ct1⟩ := ct_xguards (g := (cx_toI (m43 12))) (fk := (cx_toI (m43 13))) (pf := (cx_toI (m43 14))) (pt := (cx_toI (m43 15))) (pr := (cx_toI (m43 16))) (dy := cx_toI (m0 11)) (r := r1) (n := xs (i0 + 1)) l D cs tS ws [.ref a0, .int (xs (i0 + 1))] hX ⟨⟨a0, ha0, rfl⟩, rfl, trivial⟩
  refine lx_call F0 hcs hl (pc' := 675) (q := 137) (n := 1) (ci := 10) (As := [.int (xs (i0 + 1))]) (stk := []) (ab_tbo lto_9 _ _ _ (List.mem_of_getElem? (i := 6) rfl)) rfl rfl rfl w0 (by decide) ⟨d1, by omega, Ct1⟩ rfl (fun rv ws1 hp1 => ?_)
  obtain ⟨v, h1, ⟨z, rr, g2, pf2, rfl, rfl, hdx⟩, hk1, hf1, hH1, hrv⟩ := hp1
  obtain rfl : rv = some (.int z) := by
    cases rv with
    | none => exact hrv.elim
    | some y => exact congrArg some hrv
  show ab_W p l e room_1 s m #[Value.ref b] below meth c D vwCl A Q cells slots 675 ls [.int z] ws1
  refine lx_pop F0 (pc' := 676) (ab_tbo lto_9 _ _ _ (List.mem_of_getElem? (i := 7) rfl)) rfl ?_
  have hl1 := lx_Lc hl hf1.1
  have hM1 := cx_heap_far hM hf1 rfl
  have ha119b : (ws1.map (·.1))[119]? = some a119 := by rw [hf1.1]; exact ha119
  refine lx_m F0 hl1 (pc' := 677) (ab_tbo lto_9 _ _ _ (List.mem_of_getElem? (i := 8) rfl)) rfl ha119b ?_
  refine lx_arg F0 hiv hL hL2 hl1 (z := 1) (pc' := 683) rfl (ab_tbo lto_9 _ _ _ (List.mem_of_getElem? (i := 9) rfl)) (ab_tbo lto_9 _ _ _ (List.mem_of_getElem? (i := 10) rfl)) (ab_tbo lto_9 _ _ _ (List.mem_of_getElem? (i := 11) rfl)) (ab_tbo lto_9 _ _ _ (List.mem_of_getElem? (i := 12) rfl)) (ab_tbo lto_9 _ _ _ (List.mem_of_getElem? (i := 13) rfl)) rfl ?_
  obtain ⟨a119c, e119c, w119c, c119c⟩ := hM1 119 _ rfl
  obtain ⟨fs119c, e119d, -⟩ := id c119c
  subst e119d
  have eadd : a119c = a119 := ab_ad_get ha119b w119c
  rw [eadd] at w119c
  obtain ⟨d2, hd2, Ct2⟩ := ct_mguards (mi := fun i => cx_toI (m119 i)) (ml := fun i => cx_toL (m119 i)) (r := r2) (n := xs (i0 + 1)) l D cs tS ws1 [.ref a119, .int (xs (i0 + 1))] hM1 ⟨⟨a119, ha119b, rfl⟩, rfl, trivial⟩
  refine lx_call F0 hcs hl1 (pc' := 686) (q := 205) (n := 1) (ci := 11) (As := [.int (xs (i0 + 1))]) (stk := []) (ab_tbo lto_9 _ _ _ (List.mem_of_getElem? (i := 14) rfl)) rfl rfl rfl w119c (by first | decide | exact (by decide : (1 : Nat) ≤ 8)) ⟨d2, by omega, Ct2⟩ rfl (fun rv2 ws2 hp2 => ?_)
  obtain ⟨v2, h2, ⟨z2, mq2, rr2, rfl, rfl, hdm⟩, hk2, hf2, hH2, hrv2⟩ := hp2
  obtain rfl : rv2 = some (.int z2) := by
    cases rv2 with
    | none => exact hrv2.elim
    | some y => exact congrArg some hrv2
  show ab_W p l e room_1 s m #[Value.ref b] below meth c D vwCl A Q cells slots 686 ls [.int z2] ws2
  have k0 : (Int32.ofInt 0).toInt = 0 := by decide +kernel
  have k1 : (Int32.ofInt 1).toInt = 1 := by decide +kernel
  have km1 : (Int32.ofInt (-1)).toInt = -1 := by decide +kernel
  have km9 : (Int32.ofInt (-9)).toInt = -9 := by decide +kernel
  have hg2b : (0 : Int) ≤ g2.toInt ∧ g2.toInt ≤ 4 := by
    rcases hdx with ⟨v1, u, _⟩ | ⟨_, u, _⟩ <;> rw [u]
    · exact v1
    · exact hgb
  have hb43n : obd_43 (upi (upi (fun i => cx_toI (m43 i)) 12 g2) 14 pf2) := ⟨hg2b, hbd43.2⟩
  have h8 : mq2 8 = g2 ∧ mq2 23 = cx_toI (m119 23) ∧ mq2 1 = cx_toI (m119 1) := by
    rcases hdx with ⟨v1, u, _⟩ | ⟨v1, u, _⟩ <;> rcases hdm with ⟨v2, u2⟩ | ⟨v2, u2⟩
    · rw [u, u2]; exact ⟨rfl, rfl, rfl⟩
    · exact absurd v1 v2
    · exact absurd v2 v1
    · rw [u, u2]; exact ⟨hgm, rfl, rfl⟩
  have hb119n : obd_119 mq2 := by
    obtain ⟨y8, y10, y11, y12, y21, y24, y27, y29, y31, y41, y42, y43, y44, y55, y61⟩ := hbd119
    rcases hdm with ⟨v2, u⟩ | ⟨_, u⟩ <;> rw [u]
    · exact ⟨v2, y10, y11, y12, y21, y24, y27, y29, y31, y41, y42, y43, y44, y55, y61⟩
    · exact ⟨y8, y10, y11, y12, y21, y24, y27, y29, y31, y41, y42, y43, y44, y55, y61⟩
  have hmi : ∀ i : Nat, (Nat.beq i 0 || (Nat.beq i 8 || (Nat.beq i 22))) = false → cx_toI (m119 i) = mq2 i := fun i hi => by
    simp only [Bool.or_eq_false_iff] at hi
    obtain ⟨u0, u1, u2⟩ := hi
    rcases hdm with ⟨_, u⟩ | ⟨_, u⟩ <;> rw [u] <;> simp only [upi, u0, u1, u2, cond_false]
  have hlen1 : ws1.length = 165 := by have := congrArg List.length hf1.1; simpa [hlen] using this
  have hlen2 : ws2.length = 165 := by have := congrArg List.length hf2.1; simpa [hlen1] using this
  have hth1 : ab_th tS (ab_tys cs) th ws1 := lx_done (fl := [3764, 3766]) hth hX hH1 ⟨⟨rfl, rfl, Or.inr rfl, Or.inr rfl, Or.inr rfl, Or.inr rfl, Or.inr rfl, Or.inr rfl, Or.inr rfl, Or.inr rfl, Or.inr rfl, Or.inr rfl, Or.inr rfl, Or.inr rfl, trivial⟩, ⟨rfl, trivial⟩, ⟨rfl, rfl, Or.inr rfl, Or.inr rfl, Or.inr rfl, Or.inr rfl, Or.inr rfl, Or.inr rfl, Or.inr rfl, Or.inr rfl, Or.inr rfl, Or.inr rfl, Or.inr rfl, Or.inr rfl, Or.inl rfl, Or.inr rfl, Or.inl rfl, Or.inr rfl, Or.inr rfl, trivial⟩, trivial⟩ hf1 (po := [(0, ci_0), (1, ci_1), (43, ci_43)]) (List.forall_mem_cons.mpr ⟨lx_po hH1 rfl (fun e2 q => cx_to_obj (N := 12) q rfl (otl_0 (mi := fun _ => cx_toI (m0 11)))), (List.forall_mem_cons.mpr ⟨lx_po hH1 rfl (fun e2 q => cx_to_row q cx_anyU), (List.forall_mem_cons.mpr ⟨lx_po hH1 rfl (fun e2 q => cx_to_obj (N := 17) q rfl (otl_43 (mi := upi (upi (fun i => cx_toI (m43 i)) 12 g2) 14 pf2) hb43n)), (fun _ h => absurd h List.not_mem_nil)⟩)⟩)⟩) (List.all_eq_true.mp tk9x th hmem)
  have hth2 : ab_th tS (ab_tys cs) th ws2 := lx_done (fl := [8616, 8624, 8638]) hth1 hM1 hH2 ⟨⟨rfl, rfl, Or.inl rfl, Or.inr (congrArg (fun u => (.inl (.int u) : cx_V)) (hmi 1 rfl)), Or.inr rfl, Or.inr rfl, Or.inr rfl, Or.inr rfl, Or.inr rfl, Or.inr rfl, Or.inl rfl, Or.inr rfl, Or.inr (congrArg (fun u => (.inl (.int u) : cx_V)) (hmi 10 rfl)), Or.inr (congrArg (fun u => (.inl (.int u) : cx_V)) (hmi 11 rfl)), Or.inr (congrArg (fun u => (.inl (.int u) : cx_V)) (hmi 12 rfl)), Or.inr rfl, Or.inr rfl, Or.inr rfl, Or.inr rfl, Or.inr rfl, Or.inr rfl, Or.inr rfl, Or.inr rfl, Or.inr (congrArg (fun u => (.inl (.int u) : cx_V)) (hmi 21 rfl)), Or.inl rfl, Or.inr (congrArg (fun u => (.inl (.int u) : cx_V)) (hmi 23 rfl)), Or.inr (congrArg (fun u => (.inl (.int u) : cx_V)) (hmi 24 rfl)), Or.inr rfl, Or.inr (congrArg (fun u => (.inl (.int u) : cx_V)) (hmi 26 rfl)), Or.inr (congrArg (fun u => (.inl (.int u) : cx_V)) (hmi 27 rfl)), Or.inr rfl, Or.inr (congrArg (fun u => (.inl (.int u) : cx_V)) (hmi 29 rfl)), Or.inr (congrArg (fun u => (.inl (.int u) : cx_V)) (hmi 30 rfl)), Or.inr (congrArg (fun u => (.inl (.int u) : cx_V)) (hmi 31 rfl)), Or.inr rfl, Or.inr rfl, Or.inr rfl, Or.inr rfl, Or.inr rfl, Or.inr rfl, Or.inr rfl, Or.inr rfl, Or.inr rfl, Or.inr (congrArg (fun u => (.inl (.int u) : cx_V)) (hmi 41 rfl)), Or.inr (congrArg (fun u => (.inl (.int u) : cx_V)) (hmi 42 rfl)), Or.inr (congrArg (fun u => (.inl (.int u) : cx_V)) (hmi 43 rfl)), Or.inr (congrArg (fun u => (.inl (.int u) : cx_V)) (hmi 44 rfl)), Or.inr (congrArg (fun u => (.inl (.int u) : cx_V)) (hmi 45 rfl)), Or.inr rfl, Or.inr rfl, Or.inr rfl, Or.inr rfl, Or.inr rfl, Or.inr rfl, Or.inr rfl, Or.inr rfl, Or.inr rfl, Or.inr (congrArg (fun u => (.inl (.int u) : cx_V)) (hmi 55 rfl)), Or.inr rfl, Or.inr rfl, Or.inr rfl, Or.inr rfl, Or.inr rfl, Or.inr (congrArg (fun u => (.inl (.int u) : cx_V)) (hmi 61 rfl)), Or.inr rfl, Or.inr rfl, Or.inr rfl, Or.inr rfl, Or.inr rfl, Or.inr rfl, trivial⟩, ⟨rfl, trivial⟩, trivial⟩ hf2 (po := [(119, ci_119), (126, ci_126)]) (List.forall_mem_cons.mpr ⟨lx_po hH2 rfl (fun e2 q => cx_to_obj (N := 68) q rfl (otl_119 (mi := mq2) hb119n)), (List.forall_mem_cons.mpr ⟨lx_po hH2 rfl (fun e2 q => cx_to_row q cx_anyU), (fun _ h => absurd h List.not_mem_nil)⟩)⟩) (List.all_eq_true.mp tk9m th hmem)
  have hg1 := cx_gr (fl := [3764, 3766]) hX hH1 ⟨⟨rfl, rfl, Or.inr rfl, Or.inr rfl, Or.inr rfl, Or.inr rfl, Or.inr rfl, Or.inr rfl, Or.inr rfl, Or.inr rfl, Or.inr rfl, Or.inr rfl, Or.inr rfl, Or.inr rfl, trivial⟩, ⟨rfl, trivial⟩, ⟨rfl, rfl, Or.inr rfl, Or.inr rfl, Or.inr rfl, Or.inr rfl, Or.inr rfl, Or.inr rfl, Or.inr rfl, Or.inr rfl, Or.inr rfl, Or.inr rfl, Or.inr rfl, Or.inr rfl, Or.inl rfl, Or.inr rfl, Or.inl rfl, Or.inr rfl, Or.inr rfl, trivial⟩, trivial⟩ hf1
  have hg2 := cx_gr (fl := [8616, 8624, 8638]) hM1 hH2 ⟨⟨rfl, rfl, Or.inl rfl, Or.inr (congrArg (fun u => (.inl (.int u) : cx_V)) (hmi 1 rfl)), Or.inr rfl, Or.inr rfl, Or.inr rfl, Or.inr rfl, Or.inr rfl, Or.inr rfl, Or.inl rfl, Or.inr rfl, Or.inr (congrArg (fun u => (.inl (.int u) : cx_V)) (hmi 10 rfl)), Or.inr (congrArg (fun u => (.inl (.int u) : cx_V)) (hmi 11 rfl)), Or.inr (congrArg (fun u => (.inl (.int u) : cx_V)) (hmi 12 rfl)), Or.inr rfl, Or.inr rfl, Or.inr rfl, Or.inr rfl, Or.inr rfl, Or.inr rfl, Or.inr rfl, Or.inr rfl, Or.inr (congrArg (fun u => (.inl (.int u) : cx_V)) (hmi 21 rfl)), Or.inl rfl, Or.inr (congrArg (fun u => (.inl (.int u) : cx_V)) (hmi 23 rfl)), Or.inr (congrArg (fun u => (.inl (.int u) : cx_V)) (hmi 24 rfl)), Or.inr rfl, Or.inr (congrArg (fun u => (.inl (.int u) : cx_V)) (hmi 26 rfl)), Or.inr (congrArg (fun u => (.inl (.int u) : cx_V)) (hmi 27 rfl)), Or.inr rfl, Or.inr (congrArg (fun u => (.inl (.int u) : cx_V)) (hmi 29 rfl)), Or.inr (congrArg (fun u => (.inl (.int u) : cx_V)) (hmi 30 rfl)), Or.inr (congrArg (fun u => (.inl (.int u) : cx_V)) (hmi 31 rfl)), Or.inr rfl, Or.inr rfl, Or.inr rfl, Or.inr rfl, Or.inr rfl, Or.inr rfl, Or.inr rfl, Or.inr rfl, Or.inr rfl, Or.inr (congrArg (fun u => (.inl (.int u) : cx_V)) (hmi 41 rfl)), Or.inr (congrArg (fun u => (.inl (.int u) : cx_V)) (hmi 42 rfl)), Or.inr (congrArg (fun u => (.inl (.int u) : cx_V)) (hmi 43 rfl)), Or.inr (congrArg (fun u => (.inl (.int u) : cx_V)) (hmi 44 rfl)), Or.inr (congrArg (fun u => (.inl (.int u) : cx_V)) (hmi 45 rfl)), Or.inr rfl, Or.inr rfl, Or.inr rfl, Or.inr rfl, Or.inr rfl, Or.inr rfl, Or.inr rfl, Or.inr rfl, Or.inr rfl, Or.inr (congrArg (fun u => (.inl (.int u) : cx_V)) (hmi 55 rfl)), Or.inr rfl, Or.inr rfl, Or.inr rfl, Or.inr rfl, Or.inr rfl, Or.inr (congrArg (fun u => (.inl (.int u) : cx_V)) (hmi 61 rfl)), Or.inr rfl, Or.inr rfl, Or.inr rfl, Or.inr rfl, Or.inr rfl, Or.inr rfl, trivial⟩, ⟨rfl, trivial⟩, trivial⟩ hf2
  refine lx_pop F0 (pc' := 687) (ab_tbo lto_9 _ _ _ (List.mem_of_getElem? (i := 15) rfl)) rfl ?_
  refine lx_goto F0 (pc' := 1810) (ab_tbo lto_9 _ _ _ (List.mem_of_getElem? (i := 16) rfl)) rfl ?_
  have hX2 := cx_heap_far hH1 hf2 rfl
  refine K ls ws2 (lx_Lc hl1 hf2.1) ⟨th, hmem, hth2⟩ ?_ hlen2
  refine ⟨⟨fun q h => absurd h List.not_mem_nil, List.forall_mem_cons.mpr ⟨?_, fun q h => absurd h List.not_mem_nil⟩, fun q h => absurd h List.not_mem_nil⟩, mi0, fo0, pl0, f0, f1, f2, f3, mh0, ro0, g2, (cx_toI (m43 13)), pf2, (cx_toI (m43 15)), (cx_toI (m43 16)), mq2 22, cx_toI (m119 23), ?_, ?_, ?_, ?_, ?_, ?_, ?_, ?_, ?_, ?_, ?_, ?_, ?_, ?_, ?_, ?_, ?_, ?_, ?_⟩
  · obtain ⟨ax, ex, wx, cx⟩ := hX2 0 _ rfl
    obtain ⟨ay, ey, wy, cy⟩ := hH2 119 _ rfl
    exact ⟨_, cx_fldv wx cx (x := cx_toI (m0 11)) rfl rfl, (cx_fldv wy cy (x := mq2 1) rfl rfl).trans (by rw [h8.2.2, hEd])⟩
  · exact rl_row_keep hg2 rfl (rl_row_keep hg1 rfl q44)
  · exact rl_row_keep hg2 rfl (rl_row_keep hg1 rfl q49)
  · exact rl_row_keep hg2 rfl (rl_row_keep hg1 rfl q67)
  · exact rl_row_keep hg2 rfl (rl_row_keep hg1 rfl q6)
  · exact rl_row_keep hg2 rfl (rl_row_keep hg1 rfl q7)
  · exact rl_row_keep hg2 rfl (rl_row_keep hg1 rfl q8)
  · exact rl_row_keep hg2 rfl (rl_row_keep hg1 rfl q9)
  · exact rl_row_keep hg2 rfl (rl_row_keep hg1 rfl q120)
  · exact rl_row_keep hg2 rfl (rl_row_keep hg1 rfl q124)
  · exact rl_row_keep hg2 rfl (rl_row_keep hg1 rfl q130)
  · obtain ⟨ag, eg, wg, cg⟩ := hX2 43 _ rfl
    exact cx_fldv wg cg (x := g2) rfl rfl
  · obtain ⟨ag, eg, wg, cg⟩ := hX2 43 _ rfl
    exact cx_fldv wg cg (x := (cx_toI (m43 13))) rfl rfl
  · obtain ⟨ag, eg, wg, cg⟩ := hX2 43 _ rfl
    exact cx_fldv wg cg (x := pf2) rfl rfl
  · obtain ⟨ag, eg, wg, cg⟩ := hX2 43 _ rfl
    exact cx_fldv wg cg (x := (cx_toI (m43 15))) rfl rfl
  · obtain ⟨ag, eg, wg, cg⟩ := hX2 43 _ rfl
    exact cx_fldv wg cg (x := (cx_toI (m43 16))) rfl rfl
  · obtain ⟨ag, eg, wg, cg⟩ := hH2 119 _ rfl
    exact (cx_fldv wg cg (x := mq2 8) rfl rfl).trans (by rw [h8.1])
  · obtain ⟨ag, eg, wg, cg⟩ := hH2 119 _ rfl
    exact (cx_fldv wg cg (x := mq2 22) rfl rfl)
  · obtain ⟨ag, eg, wg, cg⟩ := hH2 119 _ rfl
    exact (cx_fldv wg cg (x := mq2 23) rfl rfl).trans (by rw [h8.2.1])
  · rcases hdx with ⟨v1, u, u4⟩ | ⟨v1, u, u4⟩ <;> rcases hdm with ⟨v2, u5⟩ | ⟨v2, u5⟩
    · refine ⟨hRO2.1, hRO2.2.1, hRO2.2.2.1, Or.inl (by rw [u4]; exact km9), Or.inl ?_⟩
      rw [u5]
      exact km1
    · exact absurd v1 v2
    · exact absurd v2 v1
    · have e22 : mq2 22 = cx_toI (m119 22) := by rw [u5]; rfl
      rw [u, u4, e22]
      exact hRO2
theorem tk8a : lw_THs.all (fun th => tr_3 th [(0, ci_0), (1, ci_1), (43, ci_43), (2, ci_2), (5, ci_5), (6, ci_6), (7, ci_7), (8, ci_8), (9, ci_9), (119, ci_119), (126, ci_126), (124, ci_124)]) = true := by decide +kernel
theorem tk8x : lw_THs.all (fun th => th.all (tr_1 (cx_M [0, 1, 43, 2, 5, 6, 7, 8, 9] [3766]) th [(0, ci_0), (1, ci_1), (43, ci_43), (2, ci_2), (5, ci_5), (6, ci_6), (7, ci_7), (8, ci_8), (9, ci_9)])) = true := by decide +kernel
theorem tk8m : lw_THs.all (fun th => th.all (tr_1 (cx_M [119, 126, 124] [8616, 8638]) th [(119, ci_119), (126, ci_126), (124, ci_124)])) = true := by decide +kernel
theorem tz_8 : ∀ th ∈ lw_THs, lw_TQ 616 th := by
  intro th hmem p l e s m below meth c D A Q cs tS b L i0 cells slots xs iv ws ls F0 hcs hiv hL hL2 hl hth hEQ hlen K
  have h3 := tr_3_ok (List.all_eq_true.mp tk8a th hmem) hth
  obtain ⟨a0, e0, w0, t0⟩ := h3 _ (List.mem_of_getElem? (i := 0) rfl)
  obtain ⟨a1, e1, w1, t1⟩ := h3 _ (List.mem_of_getElem? (i := 1) rfl)
  obtain ⟨a43, e43, w43, t43⟩ := h3 _ (List.mem_of_getElem? (i := 2) rfl)
  obtain ⟨a2, e2, w2, t2⟩ := h3 _ (List.mem_of_getElem? (i := 3) rfl)
  obtain ⟨a5, e5, w5, t5⟩ := h3 _ (List.mem_of_getElem? (i := 4) rfl)
  obtain ⟨a6, e6, w6, t6⟩ := h3 _ (List.mem_of_getElem? (i := 5) rfl)
  obtain ⟨a7, e7, w7, t7⟩ := h3 _ (List.mem_of_getElem? (i := 6) rfl)
  obtain ⟨a8, e8, w8, t8⟩ := h3 _ (List.mem_of_getElem? (i := 7) rfl)
  obtain ⟨a9, e9, w9, t9⟩ := h3 _ (List.mem_of_getElem? (i := 8) rfl)
  obtain ⟨a119, e119, w119, t119⟩ := h3 _ (List.mem_of_getElem? (i := 9) rfl)
  obtain ⟨a126, e126, w126, t126⟩ := h3 _ (List.mem_of_getElem? (i := 10) rfl)
  obtain ⟨a124, e124, w124, t124⟩ := h3 _ (List.mem_of_getElem? (i := 11) rfl)
  obtain ⟨m0, c0, b0⟩ := cx_of_obj (ci := 10) (N := 12) (tvs := ots_0) t0
  obtain ⟨r1, c1, u1⟩ := cx_of_row (t := 0) (N := 7) (Or.inl rfl) t1
  obtain ⟨m43, c43, b43⟩ := cx_of_obj (ci := 4) (N := 17) (tvs := ots_43) t43
  have hbd43 := obd_43_of b43
  obtain ⟨m2, c2, b2⟩ := cx_of_obj (ci := 8) (N := 4) (tvs := ots_2) t2
  have c5 := cx_of_rows (t := 3) (N := 4) (ks := [6, 7, 8, 9]) (Or.inl rfl) t5
  obtain ⟨hh0, c6, u6⟩ := cx_of_row (t := 0) (N := 16) (Or.inl rfl) t6
  obtain ⟨hh1, c7, u7⟩ := cx_of_row (t := 0) (N := 16) (Or.inl rfl) t7
  obtain ⟨hh2, c8, u8⟩ := cx_of_row (t := 0) (N := 16) (Or.inl rfl) t8
  obtain ⟨hh3, c9, u9⟩ := cx_of_row (t := 0) (N := 16) (Or.inl rfl) t9
  obtain ⟨m119, c119, b119⟩ := cx_of_obj (ci := 11) (N := 68) (tvs := ots_119) t119
  have hbd119 := obd_119_of b119
  obtain ⟨r2, c126, u126⟩ := cx_of_row (t := 0) (N := 7) (Or.inl rfl) t126
  obtain ⟨hm, c124, u124⟩ := cx_of_row (t := 0) (N := 64) (Or.inl rfl) t124
  have hX : cx_heap tS cs ([(0, .inl (10, vs_0 (cx_toI (m0 11)))), (1, .inr (.inl (0, 7, r1))), (43, .inl (4, vs_43 (fun i => cx_toI (m43 i)))), (2, .inl (8, [.inr (.inl 3), .inr (.inl 4), .inr (.inl 5), .inr (.inl 10)])), (5, .inr (.inr (.inr (3, [6, 7, 8, 9])))), (6, .inr (.inl (0, 16, F4 hh0 hh1 hh2 hh3 0))), (7, .inr (.inl (0, 16, F4 hh0 hh1 hh2 hh3 1))), (8, .inr (.inl (0, 16, F4 hh0 hh1 hh2 hh3 2))), (9, .inr (.inl (0, 16, F4 hh0 hh1 hh2 hh3 3)))]) ws := cx_heap_of (List.forall_mem_cons.mpr ⟨⟨a0, e0, w0, c0⟩, (List.forall_mem_cons.mpr ⟨⟨a1, e1, w1, c1⟩, (List.forall_mem_cons.mpr ⟨⟨a43, e43, w43, c43⟩, (List.forall_mem_cons.mpr ⟨⟨a2, e2, w2, c2⟩, (List.forall_mem_cons.mpr ⟨⟨a5, e5, w5, c5⟩, (List.forall_mem_cons.mpr ⟨⟨a6, e6, w6, c6⟩, (List.forall_mem_cons.mpr ⟨⟨a7, e7, w7, c7⟩, (List.forall_mem_cons.mpr ⟨⟨a8, e8, w8, c8⟩, (List.forall_mem_cons.mpr ⟨⟨a9, e9, w9, c9⟩, (fun _ h => absurd h List.not_mem_nil)⟩)⟩)⟩)⟩)⟩)⟩)⟩)⟩)⟩)
  have hM : cx_heap tS cs ([(119, .inl (11, vs_119 (fun i => cx_toI (m119 i)) (fun i => cx_toL (m119 i)))), (126, .inr (.inl (0, 7, r2))), (124, .inr (.inl (0, 64, hm)))]) ws := cx_heap_of (List.forall_mem_cons.mpr ⟨⟨a119, e119, w119, c119⟩, (List.forall_mem_cons.mpr ⟨⟨a126, e126, w126, c126⟩, (List.forall_mem_cons.mpr ⟨⟨a124, e124, w124, c124⟩, (fun _ h => absurd h List.not_mem_nil)⟩)⟩)⟩)
  have ha0 : (ws.map (·.1))[0]? = some a0 := by rw [List.getElem?_map, w0]; rfl
  have ha119 : (ws.map (·.1))[119]? = some a119 := by rw [List.getElem?_map, w119]; rfl
  obtain ⟨mi0, fo0, pl0, f0, f1, f2, f3, mh0, ro0, g0, fk0, pf0, pt0, pr0, mf0, mt0, q44, q49, q67, q6, q7, q8, q9, q120, q124, q130, g12, g13, g14, g15, g16, n8, n22, n23, hRO⟩ := hEQ.2
  have q44 : rl_row ws 44 = some ((List.range 4).map (fun i => .int (mi0 i))) := q44
  have q49 : rl_row ws 49 = some ((List.range 4900).map (fun i => .int (fo0 i))) := q49
  have q67 : rl_row ws 67 = some ((List.range 24).map (fun i => .int (pl0 i))) := q67
  have q6 : rl_row ws 6 = some ((List.range 16).map (fun i => .int (f0 i))) := q6
  have q7 : rl_row ws 7 = some ((List.range 16).map (fun i => .int (f1 i))) := q7
  have q8 : rl_row ws 8 = some ((List.range 16).map (fun i => .int (f2 i))) := q8
  have q9 : rl_row ws 9 = some ((List.range 16).map (fun i => .int (f3 i))) := q9
  have q120 : rl_row ws 120 = some ((List.range 4).map (fun i => .int (mi0 i))) := q120
  have q124 : rl_row ws 124 = some ((List.range 64).map (fun i => .int (mh0 i))) := q124
  have q130 : rl_row ws 130 = some ((List.range 45927).map (fun i => .int (ro0 i))) := q130
  rw [cx_fldv w43 c43 (x := cx_toI (m43 12)) rfl rfl] at g12
  rw [cx_fldv w43 c43 (x := cx_toI (m43 13)) rfl rfl] at g13
  rw [cx_fldv w43 c43 (x := cx_toI (m43 14)) rfl rfl] at g14
  rw [cx_fldv w43 c43 (x := cx_toI (m43 15)) rfl rfl] at g15
  rw [cx_fldv w43 c43 (x := cx_toI (m43 16)) rfl rfl] at g16
  rw [cx_fldv w119 c119 (x := cx_toI (m119 8)) rfl rfl] at n8
  rw [cx_fldv w119 c119 (x := cx_toI (m119 22)) rfl rfl] at n22
  rw [cx_fldv w119 c119 (x := cx_toI (m119 23)) rfl rfl] at n23
  have g12 : cx_toI (m43 12) = g0 := Value.int.inj (Option.some.inj g12)
  have g13 : cx_toI (m43 13) = fk0 := Value.int.inj (Option.some.inj g13)
  have g14 : cx_toI (m43 14) = pf0 := Value.int.inj (Option.some.inj g14)
  have g15 : cx_toI (m43 15) = pt0 := Value.int.inj (Option.some.inj g15)
  have g16 : cx_toI (m43 16) = pr0 := Value.int.inj (Option.some.inj g16)
  have n8 : cx_toI (m119 8) = g0 := Value.int.inj (Option.some.inj n8)
  have n22 : cx_toI (m119 22) = mf0 := Value.int.inj (Option.some.inj n22)
  have n23 : cx_toI (m119 23) = mt0 := Value.int.inj (Option.some.inj n23)
  rw [← g12, ← g13, ← g14, ← g15, ← g16, ← n22, ← n23] at hRO
  have hgm : cx_toI (m119 8) = cx_toI (m43 12) := n8.trans g12.symm
  have hgb : (0 : Int) ≤ (cx_toI (m43 12)).toInt ∧ (cx_toI (m43 12)).toInt ≤ 4 := hbd43.1
  have hgk := ab_clamp (x := cx_toI (m43 12)) hgb.1
  have hg4 : (cx_toI (m43 12)).toNatClampNeg ≤ 4 := by omega
  have r6 : rl_row ws 6 = some ((List.range 16).map (fun i => .int (hh0 i))) := cx_rowv w6 c6
  have e6q : ∀ i : Nat, i < 16 → f0 i = hh0 i := cx_rowE (Option.some.inj (q6.symm.trans r6))
  have r7 : rl_row ws 7 = some ((List.range 16).map (fun i => .int (hh1 i))) := cx_rowv w7 c7
  have e7q : ∀ i : Nat, i < 16 → f1 i = hh1 i := cx_rowE (Option.some.inj (q7.symm.trans r7))
  have r8 : rl_row ws 8 = some ((List.range 16).map (fun i => .int (hh2 i))) := cx_rowv w8 c8
  have e8q : ∀ i : Nat, i < 16 → f2 i = hh2 i := cx_rowE (Option.some.inj (q8.symm.trans r8))
  have r9 : rl_row ws 9 = some ((List.range 16).map (fun i => .int (hh3 i))) := cx_rowv w9 c9
  have e9q : ∀ i : Nat, i < 16 → f3 i = hh3 i := cx_rowE (Option.some.inj (q9.symm.trans r9))
  have r124 : rl_row ws 124 = some ((List.range 64).map (fun i => .int (hm i))) := cx_rowv w124 c124
  have e124q : ∀ i : Nat, i < 64 → mh0 i = hm i := cx_rowE (Option.some.inj (q124.symm.trans r124))
  have hRO2 := RO_E hg4 (fun _ _ => rfl) (fun _ _ => rfl) (fun _ _ => rfl) (fun _ _ => rfl) e124q (F4_E e6q e7q e8q e9q) hRO
  have hEd : cx_toI (m0 11) = cx_toI (m119 1) := by
    obtain ⟨v, q1, q2⟩ := hEQ.1.2.1 ((0, 11), (119, 1)) (List.mem_of_getElem? (i := 0) rfl)
    have q1 : rl_fld ws (0, 11) = some v := q1
    have q2 : rl_fld ws (119, 1) = some v := q2
    rw [cx_fldv w0 c0 (x := cx_toI (m0 11)) rfl rfl] at q1
    rw [cx_fldv w119 c119 (x := cx_toI (m119 1)) rfl rfl] at q2
    exact Value.int.inj (Option.some.inj (q1.trans q2.symm))
  obtain ⟨fs0, e0q, -⟩ := id c0
  subst e0q
  refine lx_x F0 hl (pc' := 617) (ab_tbo lto_8 _ _ _ (List.mem_of_getElem? (i := 0) rfl)) rfl ha0 ?_
  refine lx_arg F0 hiv hL hL2 hl (z := 1) (pc' := 623) rfl (ab_tbo lto_8 _ _ _ (List.mem_of_getElem? (i := 1) rfl)) (ab_tbo lto_8 _ _ _ (List.mem_of_getElem? (i := 2) rfl)) (ab_tbo lto_8 _ _ _ (List.mem_of_getElem? (i := 3) rfl)) (ab_tbo lto_8 _ _ _ (List.mem_of_getElem? (i := 4) rfl)) (ab_tbo lto_8 _ _ _ (List.mem_of_getElem? (i := 5) rfl)) rfl ?_
  refine lx_arg F0 hiv hL hL2 hl (z := 2) (pc' := 629) rfl (ab_tbo lto_8 _ _ _ (List.mem_of_getElem? (i := 6) rfl)) (ab_tbo lto_8 _ _ _ (List.mem_of_getElem? (i := 7) rfl)) (ab_tbo lto_8 _ _ _ (List.mem_of_getElem? (i := 8) rfl)) (ab_tbo lto_8 _ _ _ (List.mem_of_getElem? (i := 9) rfl)) (ab_tbo lto_8 _ _ _ (List.mem_of_getElem? (i := 10) rfl)) rfl ?_
  refine lx_arg F0 hiv hL hL2 hl (z := 3) (pc' := 635) rfl (ab_tbo lto_8 _ _ _ (List.mem_of_getElem? (i := 11) rfl)) (ab_tbo lto_8 _ _ _ (List.mem_of_getElem? (i := 12) rfl)) (ab_tbo lto_8 _ _ _ (List.mem_of_getElem? (i := 13) rfl)) (ab_tbo lto_8 _ _ _ (List.mem_of_getElem? (i := 14) rfl)) (ab_tbo lto_8 _ _ _ (List.mem_of_getElem? (i := 15) rfl)) rfl ?_
  obtain ⟨d1, hd1, Ct1⟩ := ct_xcrowd (g := (cx_toI (m43 12))) (fk := (cx_toI (m43 13))) (pf := (cx_toI (m43 14))) (pt := (cx_toI (m43 15))) (pr := (cx_toI (m43 16))) (dy := cx_toI (m0 11)) (r := r1) (hd := F4 hh0 hh1 hh2 hh3) (x := xs (i0 + 1)) (y := xs (i0 + 2)) (v := xs (i0 + 3)) l D cs tS ws [.ref a0, .int (xs (i0 + 1)), .int (xs (i0 + 2)), .int (xs (i0 + 3))] hX ⟨⟨a0, ha0, rfl⟩, rfl, rfl, rfl, trivial⟩
  refine lx_call F0 hcs hl (pc' := 638) (q := 136) (n := 3) (ci := 10) (As := [.int (xs (i0 + 1)), .int (xs (i0 + 2)), .int (xs (i0 + 3))]) (stk := []) (ab_tbo lto_8 _ _ _ (List.mem_of_getElem? (i := 16) rfl)) rfl rfl rfl w0 (by decide) ⟨d1, by omega, Ct1⟩ rfl (fun rv ws1 hp1 => ?_)
  obtain ⟨v, h1, ⟨z, rr, hdn, pf2, rfl, rfl, hdx⟩, hk1, hf1, hH1, hrv⟩ := hp1
  obtain rfl : rv = some (.int z) := by
    cases rv with
    | none => exact hrv.elim
    | some y => exact congrArg some hrv
  show ab_W p l e room_1 s m #[Value.ref b] below meth c D vwCl A Q cells slots 638 ls [.int z] ws1
  refine lx_pop F0 (pc' := 639) (ab_tbo lto_8 _ _ _ (List.mem_of_getElem? (i := 17) rfl)) rfl ?_
  have hl1 := lx_Lc hl hf1.1
  have hM1 := cx_heap_far hM hf1 rfl
  have ha119b : (ws1.map (·.1))[119]? = some a119 := by rw [hf1.1]; exact ha119
  refine lx_m F0 hl1 (pc' := 640) (ab_tbo lto_8 _ _ _ (List.mem_of_getElem? (i := 18) rfl)) rfl ha119b ?_
  refine lx_arg F0 hiv hL hL2 hl1 (z := 1) (pc' := 646) rfl (ab_tbo lto_8 _ _ _ (List.mem_of_getElem? (i := 19) rfl)) (ab_tbo lto_8 _ _ _ (List.mem_of_getElem? (i := 20) rfl)) (ab_tbo lto_8 _ _ _ (List.mem_of_getElem? (i := 21) rfl)) (ab_tbo lto_8 _ _ _ (List.mem_of_getElem? (i := 22) rfl)) (ab_tbo lto_8 _ _ _ (List.mem_of_getElem? (i := 23) rfl)) rfl ?_
  refine lx_arg F0 hiv hL hL2 hl1 (z := 2) (pc' := 652) rfl (ab_tbo lto_8 _ _ _ (List.mem_of_getElem? (i := 24) rfl)) (ab_tbo lto_8 _ _ _ (List.mem_of_getElem? (i := 25) rfl)) (ab_tbo lto_8 _ _ _ (List.mem_of_getElem? (i := 26) rfl)) (ab_tbo lto_8 _ _ _ (List.mem_of_getElem? (i := 27) rfl)) (ab_tbo lto_8 _ _ _ (List.mem_of_getElem? (i := 28) rfl)) rfl ?_
  refine lx_arg F0 hiv hL hL2 hl1 (z := 3) (pc' := 658) rfl (ab_tbo lto_8 _ _ _ (List.mem_of_getElem? (i := 29) rfl)) (ab_tbo lto_8 _ _ _ (List.mem_of_getElem? (i := 30) rfl)) (ab_tbo lto_8 _ _ _ (List.mem_of_getElem? (i := 31) rfl)) (ab_tbo lto_8 _ _ _ (List.mem_of_getElem? (i := 32) rfl)) (ab_tbo lto_8 _ _ _ (List.mem_of_getElem? (i := 33) rfl)) rfl ?_
  obtain ⟨a119c, e119c, w119c, c119c⟩ := hM1 119 _ rfl
  obtain ⟨fs119c, e119d, -⟩ := id c119c
  subst e119d
  have eadd : a119c = a119 := ab_ad_get ha119b w119c
  rw [eadd] at w119c
  obtain ⟨d2, hd2, Ct2⟩ := ct_mcrowd (mi := fun i => cx_toI (m119 i)) (ml := fun i => cx_toL (m119 i)) (mh := hm) (r := r2) (x := xs (i0 + 1)) (y := xs (i0 + 2)) (v := xs (i0 + 3)) l D cs tS ws1 [.ref a119, .int (xs (i0 + 1)), .int (xs (i0 + 2)), .int (xs (i0 + 3))] hM1 ⟨⟨a119, ha119b, rfl⟩, rfl, rfl, rfl, trivial⟩
  refine lx_call F0 hcs hl1 (pc' := 661) (q := 204) (n := 3) (ci := 11) (As := [.int (xs (i0 + 1)), .int (xs (i0 + 2)), .int (xs (i0 + 3))]) (stk := []) (ab_tbo lto_8 _ _ _ (List.mem_of_getElem? (i := 34) rfl)) rfl rfl rfl w119c (by first | decide | exact (by decide : (1 : Nat) ≤ 8)) ⟨d2, by omega, Ct2⟩ rfl (fun rv2 ws2 hp2 => ?_)
  obtain ⟨v2, h2, ⟨z2, mq2, rr2, mh2, rfl, rfl, hdm⟩, hk2, hf2, hH2, hrv2⟩ := hp2
  obtain rfl : rv2 = some (.int z2) := by
    cases rv2 with
    | none => exact hrv2.elim
    | some y => exact congrArg some hrv2
  show ab_W p l e room_1 s m #[Value.ref b] below meth c D vwCl A Q cells slots 661 ls [.int z2] ws2
  have k0 : (Int32.ofInt 0).toInt = 0 := by decide +kernel
  have k1 : (Int32.ofInt 1).toInt = 1 := by decide +kernel
  have km1 : (Int32.ofInt (-1)).toInt = -1 := by decide +kernel
  have km9 : (Int32.ofInt (-9)).toInt = -9 := by decide +kernel
  have hhB : ∀ k i : Nat, k < 4 → i < 16 → (0 : Int) ≤ (F4 hh0 hh1 hh2 hh3 k i).toInt ∧ (F4 hh0 hh1 hh2 hh3 k i).toInt ≤ 999 := fun k i hk hi => by
    rcases (show k = 0 ∨ k = 1 ∨ k = 2 ∨ k = 3 by omega) with rfl | rfl | rfl | rfl
    · exact cx_U1o (u6 i hi)
    · exact cx_U1o (u7 i hi)
    · exact cx_U1o (u8 i hi)
    · exact cx_U1o (u9 i hi)
  have hb43n : obd_43 (upi (fun i => cx_toI (m43 i)) 14 pf2) := ⟨hgb, hbd43.2⟩
  have hH2b : ∀ k i : Nat, k < 4 → i < 16 → (0 : Int) ≤ (hdn k i).toInt ∧ (hdn k i).toInt ≤ 999 := fun k i hk hi => by
    rcases hdx with ⟨v1, u, _⟩ | ⟨_, u, _⟩ <;> rw [u]
    · by_cases q : k = (xs (i0 + 1)).toNatClampNeg
      · rw [q, up2_me]
        unfold upd
        split
        · exact v1.2.2
        · rw [← q]; exact hhB k i hk hi
      · rw [up2_ne q]; exact hhB k i hk hi
    · exact hhB k i hk hi
  have hHE : ∀ b u : Nat, b < 4 → u < 16 → mh2 (16 * b + u) = hdn b u := fun b u hb hu => by
    have h0 := hRO2.1 b u hb hu
    rcases hdx with ⟨v1, u1, _⟩ | ⟨v1, u1, _⟩ <;> rcases hdm with ⟨v2, u2, _⟩ | ⟨v2, u2, _⟩
    · rw [u1, u2]
      have a1 := ab_clamp (x := xs (i0 + 1)) v1.1.1
      have a2 := ab_clamp (x := xs (i0 + 2)) v1.2.1.1
      have a3 := v1.1.2
      have a4 := v1.2.1.2
      by_cases q : b = (xs (i0 + 1)).toNatClampNeg
      · rw [q, up2_me]
        unfold upd
        by_cases q2 : u = (xs (i0 + 2)).toNatClampNeg
        · rw [if_pos (by omega), if_pos q2]
        · rw [if_neg (by omega), if_neg q2, ← q]; exact h0
      · rw [up2_ne q]
        unfold upd
        rw [if_neg (by omega)]; exact h0
    · exact absurd v1 v2
    · exact absurd v2 v1
    · rw [u1, u2]; exact h0
  have hm2b : ∀ i : Nat, i < 64 → (0 : Int) ≤ (mh2 i).toInt ∧ (mh2 i).toInt ≤ 999 := fun i hi => by
    have e : i = 16 * (i / 16) + i % 16 := by omega
    rw [e, hHE (i / 16) (i % 16) (by omega) (by omega)]
    exact hH2b _ _ (by omega) (by omega)
  have hb119n : obd_119 mq2 := by
    rcases hdm with ⟨_, _, u⟩ | ⟨_, _, u⟩ <;> rw [u] <;> exact hbd119
  have h8 : mq2 8 = cx_toI (m119 8) ∧ mq2 23 = cx_toI (m119 23) ∧ mq2 1 = cx_toI (m119 1) := by
    rcases hdm with ⟨_, _, u⟩ | ⟨_, _, u⟩ <;> rw [u] <;> exact ⟨rfl, rfl, rfl⟩
  have hmi : ∀ i : Nat, (Nat.beq i 0 || (Nat.beq i 22)) = false → cx_toI (m119 i) = mq2 i := fun i hi => by
    simp only [Bool.or_eq_false_iff] at hi
    obtain ⟨u0, u1⟩ := hi
    rcases hdm with ⟨_, _, u⟩ | ⟨_, _, u⟩ <;> rw [u] <;> simp only [upi, u0, u1, cond_false]
  have hlen1 : ws1.length = 165 := by have := congrArg List.length hf1.1; simpa [hlen] using this
  have hlen2 : ws2.length = 165 := by have := congrArg List.length hf2.1; simpa [hlen1] using this
  have hth1 : ab_th tS (ab_tys cs) th ws1 := lx_done (fl := [3766]) hth hX hH1 ⟨⟨rfl, rfl, Or.inr rfl, Or.inr rfl, Or.inr rfl, Or.inr rfl, Or.inr rfl, Or.inr rfl, Or.inr rfl, Or.inr rfl, Or.inr rfl, Or.inr rfl, Or.inr rfl, Or.inr rfl, trivial⟩, ⟨rfl, trivial⟩, ⟨rfl, rfl, Or.inr rfl, Or.inr rfl, Or.inr rfl, Or.inr rfl, Or.inr rfl, Or.inr rfl, Or.inr rfl, Or.inr rfl, Or.inr rfl, Or.inr rfl, Or.inr rfl, Or.inr rfl, Or.inr rfl, Or.inr rfl, Or.inl rfl, Or.inr rfl, Or.inr rfl, trivial⟩, ⟨rfl, rfl, Or.inr rfl, Or.inr rfl, Or.inr rfl, Or.inr rfl, trivial⟩, ⟨rfl, trivial⟩, ⟨rfl, trivial⟩, ⟨rfl, trivial⟩, ⟨rfl, trivial⟩, ⟨rfl, trivial⟩, trivial⟩ hf1 (po := [(0, ci_0), (1, ci_1), (43, ci_43), (2, ci_2), (5, ci_5), (6, ci_6), (7, ci_7), (8, ci_8), (9, ci_9)]) (List.forall_mem_cons.mpr ⟨lx_po hH1 rfl (fun e2 q => cx_to_obj (N := 12) q rfl (otl_0 (mi := fun _ => cx_toI (m0 11)))), (List.forall_mem_cons.mpr ⟨lx_po hH1 rfl (fun e2 q => cx_to_row q cx_anyU), (List.forall_mem_cons.mpr ⟨lx_po hH1 rfl (fun e2 q => cx_to_obj (N := 17) q rfl (otl_43 (mi := upi (fun i => cx_toI (m43 i)) 14 pf2) hb43n)), (List.forall_mem_cons.mpr ⟨lx_po hH1 rfl (fun e2 q => cx_to_obj (N := 4) q rfl (otl_2 (mi := fun _ => 0))), (List.forall_mem_cons.mpr ⟨lx_po hH1 rfl (fun e2 q => cx_to_rows q), (List.forall_mem_cons.mpr ⟨lx_po hH1 rfl (fun e2 q => cx_to_row (U := [(.ofNat 0, .ofNat 999)]) q (fun i hi => cx_U1 (hH2b 0 i (by omega) hi))), (List.forall_mem_cons.mpr ⟨lx_po hH1 rfl (fun e2 q => cx_to_row (U := [(.ofNat 0, .ofNat 999)]) q (fun i hi => cx_U1 (hH2b 1 i (by omega) hi))), (List.forall_mem_cons.mpr ⟨lx_po hH1 rfl (fun e2 q => cx_to_row (U := [(.ofNat 0, .ofNat 999)]) q (fun i hi => cx_U1 (hH2b 2 i (by omega) hi))), (List.forall_mem_cons.mpr ⟨lx_po hH1 rfl (fun e2 q => cx_to_row (U := [(.ofNat 0, .ofNat 999)]) q (fun i hi => cx_U1 (hH2b 3 i (by omega) hi))), (fun _ h => absurd h List.not_mem_nil)⟩)⟩)⟩)⟩)⟩)⟩)⟩)⟩)⟩) (List.all_eq_true.mp tk8x th hmem)
  have hth2 : ab_th tS (ab_tys cs) th ws2 := lx_done (fl := [8616, 8638]) hth1 hM1 hH2 ⟨⟨rfl, rfl, Or.inl rfl, Or.inr (congrArg (fun u => (.inl (.int u) : cx_V)) (hmi 1 rfl)), Or.inr rfl, Or.inr rfl, Or.inr rfl, Or.inr rfl, Or.inr rfl, Or.inr rfl, Or.inr (congrArg (fun u => (.inl (.int u) : cx_V)) (hmi 8 rfl)), Or.inr rfl, Or.inr (congrArg (fun u => (.inl (.int u) : cx_V)) (hmi 10 rfl)), Or.inr (congrArg (fun u => (.inl (.int u) : cx_V)) (hmi 11 rfl)), Or.inr (congrArg (fun u => (.inl (.int u) : cx_V)) (hmi 12 rfl)), Or.inr rfl, Or.inr rfl, Or.inr rfl, Or.inr rfl, Or.inr rfl, Or.inr rfl, Or.inr rfl, Or.inr rfl, Or.inr (congrArg (fun u => (.inl (.int u) : cx_V)) (hmi 21 rfl)), Or.inl rfl, Or.inr (congrArg (fun u => (.inl (.int u) : cx_V)) (hmi 23 rfl)), Or.inr (congrArg (fun u => (.inl (.int u) : cx_V)) (hmi 24 rfl)), Or.inr rfl, Or.inr (congrArg (fun u => (.inl (.int u) : cx_V)) (hmi 26 rfl)), Or.inr (congrArg (fun u => (.inl (.int u) : cx_V)) (hmi 27 rfl)), Or.inr rfl, Or.inr (congrArg (fun u => (.inl (.int u) : cx_V)) (hmi 29 rfl)), Or.inr (congrArg (fun u => (.inl (.int u) : cx_V)) (hmi 30 rfl)), Or.inr (congrArg (fun u => (.inl (.int u) : cx_V)) (hmi 31 rfl)), Or.inr rfl, Or.inr rfl, Or.inr rfl, Or.inr rfl, Or.inr rfl, Or.inr rfl, Or.inr rfl, Or.inr rfl, Or.inr rfl, Or.inr (congrArg (fun u => (.inl (.int u) : cx_V)) (hmi 41 rfl)), Or.inr (congrArg (fun u => (.inl (.int u) : cx_V)) (hmi 42 rfl)), Or.inr (congrArg (fun u => (.inl (.int u) : cx_V)) (hmi 43 rfl)), Or.inr (congrArg (fun u => (.inl (.int u) : cx_V)) (hmi 44 rfl)), Or.inr (congrArg (fun u => (.inl (.int u) : cx_V)) (hmi 45 rfl)), Or.inr rfl, Or.inr rfl, Or.inr rfl, Or.inr rfl, Or.inr rfl, Or.inr rfl, Or.inr rfl, Or.inr rfl, Or.inr rfl, Or.inr (congrArg (fun u => (.inl (.int u) : cx_V)) (hmi 55 rfl)), Or.inr rfl, Or.inr rfl, Or.inr rfl, Or.inr rfl, Or.inr rfl, Or.inr (congrArg (fun u => (.inl (.int u) : cx_V)) (hmi 61 rfl)), Or.inr rfl, Or.inr rfl, Or.inr rfl, Or.inr rfl, Or.inr rfl, Or.inr rfl, trivial⟩, ⟨rfl, trivial⟩, ⟨rfl, trivial⟩, trivial⟩ hf2 (po := [(119, ci_119), (126, ci_126), (124, ci_124)]) (List.forall_mem_cons.mpr ⟨lx_po hH2 rfl (fun e2 q => cx_to_obj (N := 68) q rfl (otl_119 (mi := mq2) hb119n)), (List.forall_mem_cons.mpr ⟨lx_po hH2 rfl (fun e2 q => cx_to_row q cx_anyU), (List.forall_mem_cons.mpr ⟨lx_po hH2 rfl (fun e2 q => cx_to_row (U := [(.ofNat 0, .ofNat 999)]) q (fun i hi => cx_U1 (hm2b i hi))), (fun _ h => absurd h List.not_mem_nil)⟩)⟩)⟩) (List.all_eq_true.mp tk8m th hmem)
  have hg1 := cx_gr (fl := [3766]) hX hH1 ⟨⟨rfl, rfl, Or.inr rfl, Or.inr rfl, Or.inr rfl, Or.inr rfl, Or.inr rfl, Or.inr rfl, Or.inr rfl, Or.inr rfl, Or.inr rfl, Or.inr rfl, Or.inr rfl, Or.inr rfl, trivial⟩, ⟨rfl, trivial⟩, ⟨rfl, rfl, Or.inr rfl, Or.inr rfl, Or.inr rfl, Or.inr rfl, Or.inr rfl, Or.inr rfl, Or.inr rfl, Or.inr rfl, Or.inr rfl, Or.inr rfl, Or.inr rfl, Or.inr rfl, Or.inr rfl, Or.inr rfl, Or.inl rfl, Or.inr rfl, Or.inr rfl, trivial⟩, ⟨rfl, rfl, Or.inr rfl, Or.inr rfl, Or.inr rfl, Or.inr rfl, trivial⟩, ⟨rfl, trivial⟩, ⟨rfl, trivial⟩, ⟨rfl, trivial⟩, ⟨rfl, trivial⟩, ⟨rfl, trivial⟩, trivial⟩ hf1
  have hg2 := cx_gr (fl := [8616, 8638]) hM1 hH2 ⟨⟨rfl, rfl, Or.inl rfl, Or.inr (congrArg (fun u => (.inl (.int u) : cx_V)) (hmi 1 rfl)), Or.inr rfl, Or.inr rfl, Or.inr rfl, Or.inr rfl, Or.inr rfl, Or.inr rfl, Or.inr (congrArg (fun u => (.inl (.int u) : cx_V)) (hmi 8 rfl)), Or.inr rfl, Or.inr (congrArg (fun u => (.inl (.int u) : cx_V)) (hmi 10 rfl)), Or.inr (congrArg (fun u => (.inl (.int u) : cx_V)) (hmi 11 rfl)), Or.inr (congrArg (fun u => (.inl (.int u) : cx_V)) (hmi 12 rfl)), Or.inr rfl, Or.inr rfl, Or.inr rfl, Or.inr rfl, Or.inr rfl, Or.inr rfl, Or.inr rfl, Or.inr rfl, Or.inr (congrArg (fun u => (.inl (.int u) : cx_V)) (hmi 21 rfl)), Or.inl rfl, Or.inr (congrArg (fun u => (.inl (.int u) : cx_V)) (hmi 23 rfl)), Or.inr (congrArg (fun u => (.inl (.int u) : cx_V)) (hmi 24 rfl)), Or.inr rfl, Or.inr (congrArg (fun u => (.inl (.int u) : cx_V)) (hmi 26 rfl)), Or.inr (congrArg (fun u => (.inl (.int u) : cx_V)) (hmi 27 rfl)), Or.inr rfl, Or.inr (congrArg (fun u => (.inl (.int u) : cx_V)) (hmi 29 rfl)), Or.inr (congrArg (fun u => (.inl (.int u) : cx_V)) (hmi 30 rfl)), Or.inr (congrArg (fun u => (.inl (.int u) : cx_V)) (hmi 31 rfl)), Or.inr rfl, Or.inr rfl, Or.inr rfl, Or.inr rfl, Or.inr rfl, Or.inr rfl, Or.inr rfl, Or.inr rfl, Or.inr rfl, Or.inr (congrArg (fun u => (.inl (.int u) : cx_V)) (hmi 41 rfl)), Or.inr (congrArg (fun u => (.inl (.int u) : cx_V)) (hmi 42 rfl)), Or.inr (congrArg (fun u => (.inl (.int u) : cx_V)) (hmi 43 rfl)), Or.inr (congrArg (fun u => (.inl (.int u) : cx_V)) (hmi 44 rfl)), Or.inr (congrArg (fun u => (.inl (.int u) : cx_V)) (hmi 45 rfl)), Or.inr rfl, Or.inr rfl, Or.inr rfl, Or.inr rfl, Or.inr rfl, Or.inr rfl, Or.inr rfl, Or.inr rfl, Or.inr rfl, Or.inr (congrArg (fun u => (.inl (.int u) : cx_V)) (hmi 55 rfl)), Or.inr rfl, Or.inr rfl, Or.inr rfl, Or.inr rfl, Or.inr rfl, Or.inr (congrArg (fun u => (.inl (.int u) : cx_V)) (hmi 61 rfl)), Or.inr rfl, Or.inr rfl, Or.inr rfl, Or.inr rfl, Or.inr rfl, Or.inr rfl, trivial⟩, ⟨rfl, trivial⟩, ⟨rfl, trivial⟩, trivial⟩ hf2
  refine lx_pop F0 (pc' := 662) (ab_tbo lto_8 _ _ _ (List.mem_of_getElem? (i := 35) rfl)) rfl ?_
  refine lx_goto F0 (pc' := 1810) (ab_tbo lto_8 _ _ _ (List.mem_of_getElem? (i := 36) rfl)) rfl ?_
  have hX2 := cx_heap_far hH1 hf2 rfl
  refine K ls ws2 (lx_Lc hl1 hf2.1) ⟨th, hmem, hth2⟩ ?_ hlen2
  refine ⟨⟨fun q h => absurd h List.not_mem_nil, List.forall_mem_cons.mpr ⟨?_, fun q h => absurd h List.not_mem_nil⟩, fun q h => absurd h List.not_mem_nil⟩, mi0, fo0, pl0, hdn 0, hdn 1, hdn 2, hdn 3, mh2, ro0, (cx_toI (m43 12)), (cx_toI (m43 13)), pf2, (cx_toI (m43 15)), (cx_toI (m43 16)), mq2 22, cx_toI (m119 23), ?_, ?_, ?_, ?_, ?_, ?_, ?_, ?_, ?_, ?_, ?_, ?_, ?_, ?_, ?_, ?_, ?_, ?_, ?_⟩
  · obtain ⟨ax, ex, wx, cx⟩ := hX2 0 _ rfl
    obtain ⟨ay, ey, wy, cy⟩ := hH2 119 _ rfl
    exact ⟨_, cx_fldv wx cx (x := cx_toI (m0 11)) rfl rfl, (cx_fldv wy cy (x := mq2 1) rfl rfl).trans (by rw [h8.2.2, hEd])⟩
  · exact rl_row_keep hg2 rfl (rl_row_keep hg1 rfl q44)
  · exact rl_row_keep hg2 rfl (rl_row_keep hg1 rfl q49)
  · exact rl_row_keep hg2 rfl (rl_row_keep hg1 rfl q67)
  · obtain ⟨ag, eg, wg, cg⟩ := hX2 6 _ rfl
    exact (cx_rowv wg cg)
  · obtain ⟨ag, eg, wg, cg⟩ := hX2 7 _ rfl
    exact (cx_rowv wg cg)
  · obtain ⟨ag, eg, wg, cg⟩ := hX2 8 _ rfl
    exact (cx_rowv wg cg)
  · obtain ⟨ag, eg, wg, cg⟩ := hX2 9 _ rfl
    exact (cx_rowv wg cg)
  · exact rl_row_keep hg2 rfl (rl_row_keep hg1 rfl q120)
  · obtain ⟨ag, eg, wg, cg⟩ := hH2 124 _ rfl
    exact (cx_rowv wg cg)
  · exact rl_row_keep hg2 rfl (rl_row_keep hg1 rfl q130)
  · obtain ⟨ag, eg, wg, cg⟩ := hX2 43 _ rfl
    exact cx_fldv wg cg (x := (cx_toI (m43 12))) rfl rfl
  · obtain ⟨ag, eg, wg, cg⟩ := hX2 43 _ rfl
    exact cx_fldv wg cg (x := (cx_toI (m43 13))) rfl rfl
  · obtain ⟨ag, eg, wg, cg⟩ := hX2 43 _ rfl
    exact cx_fldv wg cg (x := pf2) rfl rfl
  · obtain ⟨ag, eg, wg, cg⟩ := hX2 43 _ rfl
    exact cx_fldv wg cg (x := (cx_toI (m43 15))) rfl rfl
  · obtain ⟨ag, eg, wg, cg⟩ := hX2 43 _ rfl
    exact cx_fldv wg cg (x := (cx_toI (m43 16))) rfl rfl
  · obtain ⟨ag, eg, wg, cg⟩ := hH2 119 _ rfl
    exact (cx_fldv wg cg (x := mq2 8) rfl rfl).trans (by rw [h8.1, hgm])
  · obtain ⟨ag, eg, wg, cg⟩ := hH2 119 _ rfl
    exact (cx_fldv wg cg (x := mq2 22) rfl rfl)
  · obtain ⟨ag, eg, wg, cg⟩ := hH2 119 _ rfl
    exact (cx_fldv wg cg (x := mq2 23) rfl rfl).trans (by rw [h8.2.1])
  · rcases hdx with ⟨v1, u, u4⟩ | ⟨v1, u, u4⟩ <;> rcases hdm with ⟨v2, u2, u5⟩ | ⟨v2, u2, u5⟩
    · refine ⟨fun b y hb hy => (hHE b y hb hy).trans (F4_of b y hb hy), hRO2.2.1, hRO2.2.2.1, Or.inl (by rw [u4]; exact km9), Or.inl ?_⟩
      rw [u5]
      exact km1
    · exact absurd v1 v2
    · exact absurd v2 v1
    · have e22 : mq2 22 = cx_toI (m119 22) := by rw [u5]; rfl
      rw [u, u2, u4, e22]
      exact hRO2
theorem tk35a : lw_THs.all (fun th => tr_3 th [(0, ci_0), (1, ci_1), (2, ci_2), (3, ci_3), (4, ci_4), (5, ci_5), (6, ci_6), (7, ci_7), (8, ci_8), (9, ci_9), (10, ci_10), (11, ci_11), (12, ci_12), (13, ci_13), (14, ci_14), (43, ci_43), (119, ci_119), (126, ci_126), (122, ci_122), (123, ci_123), (124, ci_124), (125, ci_125)]) = true := by decide +kernel
theorem tk35x : lw_THs.all (fun th => th.all (tr_1 (cx_M [0, 1, 2, 3, 4, 5, 6, 7, 8, 9, 10, 11, 12, 13, 14, 43] [1011, 3766]) th [(0, ci_0), (1, ci_1), (2, ci_2), (3, ci_3), (4, ci_4), (5, ci_5), (6, ci_6), (7, ci_7), (8, ci_8), (9, ci_9), (10, ci_10), (11, ci_11), (12, ci_12), (13, ci_13), (14, ci_14), (43, ci_43)])) = true := by decide +kernel
theorem tk35m : lw_THs.all (fun th => th.all (tr_1 (cx_M [119, 126, 122, 123, 124, 125] [8616, 8617, 8638]) th [(119, ci_119), (126, ci_126), (122, ci_122), (123, ci_123), (124, ci_124), (125, ci_125)])) = true := by decide +kernel
theorem tz_35 : ∀ th ∈ lw_THs, lw_TQ 1674 th := by
  intro th hmem p l e s m below meth c D A Q cs tS b L i0 cells slots xs iv ws ls F0 hcs hiv hL hL2 hl hth hEQ hlen K
  have h3 := tr_3_ok (List.all_eq_true.mp tk35a th hmem) hth
  obtain ⟨a0, e0, w0, t0⟩ := h3 _ (List.mem_of_getElem? (i := 0) rfl)
  obtain ⟨a1, e1, w1, t1⟩ := h3 _ (List.mem_of_getElem? (i := 1) rfl)
  obtain ⟨a2, e2, w2, t2⟩ := h3 _ (List.mem_of_getElem? (i := 2) rfl)
  obtain ⟨a3, e3, w3, t3⟩ := h3 _ (List.mem_of_getElem? (i := 3) rfl)
  obtain ⟨a4, e4, w4, t4⟩ := h3 _ (List.mem_of_getElem? (i := 4) rfl)
  obtain ⟨a5, e5, w5, t5⟩ := h3 _ (List.mem_of_getElem? (i := 5) rfl)
  obtain ⟨a6, e6, w6, t6⟩ := h3 _ (List.mem_of_getElem? (i := 6) rfl)
  obtain ⟨a7, e7, w7, t7⟩ := h3 _ (List.mem_of_getElem? (i := 7) rfl)
  obtain ⟨a8, e8, w8, t8⟩ := h3 _ (List.mem_of_getElem? (i := 8) rfl)
  obtain ⟨a9, e9, w9, t9⟩ := h3 _ (List.mem_of_getElem? (i := 9) rfl)
  obtain ⟨a10, e10, w10, t10⟩ := h3 _ (List.mem_of_getElem? (i := 10) rfl)
  obtain ⟨a11, e11, w11, t11⟩ := h3 _ (List.mem_of_getElem? (i := 11) rfl)
  obtain ⟨a12, e12, w12, t12⟩ := h3 _ (List.mem_of_getElem? (i := 12) rfl)
  obtain ⟨a13, e13, w13, t13⟩ := h3 _ (List.mem_of_getElem? (i := 13) rfl)
  obtain ⟨a14, e14, w14, t14⟩ := h3 _ (List.mem_of_getElem? (i := 14) rfl)
  obtain ⟨a43, e43, w43, t43⟩ := h3 _ (List.mem_of_getElem? (i := 15) rfl)
  obtain ⟨a119, e119, w119, t119⟩ := h3 _ (List.mem_of_getElem? (i := 16) rfl)
  obtain ⟨a126, e126, w126, t126⟩ := h3 _ (List.mem_of_getElem? (i := 17) rfl)
  obtain ⟨a122, e122, w122, t122⟩ := h3 _ (List.mem_of_getElem? (i := 18) rfl)
  obtain ⟨a123, e123, w123, t123⟩ := h3 _ (List.mem_of_getElem? (i := 19) rfl)
  obtain ⟨a124, e124, w124, t124⟩ := h3 _ (List.mem_of_getElem? (i := 20) rfl)
  obtain ⟨a125, e125, w125, t125⟩ := h3 _ (List.mem_of_getElem? (i := 21) rfl)
  obtain ⟨m0, c0, b0⟩ := cx_of_obj (ci := 10) (N := 12) (tvs := ots_0) t0
  obtain ⟨r1, c1, u1⟩ := cx_of_row (t := 0) (N := 7) (Or.inl rfl) t1
  obtain ⟨m2, c2, b2⟩ := cx_of_obj (ci := 8) (N := 4) (tvs := ots_2) t2
  obtain ⟨t, c3, u3⟩ := cx_of_row (t := 0) (N := 16) (Or.inl rfl) t3
  obtain ⟨sw, c4, u4⟩ := cx_of_row (t := 0) (N := 16) (Or.inl rfl) t4
  have c5 := cx_of_rows (t := 3) (N := 4) (ks := [6, 7, 8, 9]) (Or.inl rfl) t5
  obtain ⟨hh0, c6, u6⟩ := cx_of_row (t := 0) (N := 16) (Or.inl rfl) t6
  obtain ⟨hh1, c7, u7⟩ := cx_of_row (t := 0) (N := 16) (Or.inl rfl) t7
  obtain ⟨hh2, c8, u8⟩ := cx_of_row (t := 0) (N := 16) (Or.inl rfl) t8
  obtain ⟨hh3, c9, u9⟩ := cx_of_row (t := 0) (N := 16) (Or.inl rfl) t9
  have c10 := cx_of_rows (t := 3) (N := 4) (ks := [11, 12, 13, 14]) (Or.inl rfl) t10
  obtain ⟨jj0, c11, u11⟩ := cx_of_row (t := 0) (N := 16) (Or.inl rfl) t11
  obtain ⟨jj1, c12, u12⟩ := cx_of_row (t := 0) (N := 16) (Or.inl rfl) t12
  obtain ⟨jj2, c13, u13⟩ := cx_of_row (t := 0) (N := 16) (Or.inl rfl) t13
  obtain ⟨jj3, c14, u14⟩ := cx_of_row (t := 0) (N := 16) (Or.inl rfl) t14
  obtain ⟨m43, c43, b43⟩ := cx_of_obj (ci := 4) (N := 17) (tvs := ots_43) t43
  have hbd43 := obd_43_of b43
  obtain ⟨m119, c119, b119⟩ := cx_of_obj (ci := 11) (N := 68) (tvs := ots_119) t119
  have hbd119 := obd_119_of b119
  obtain ⟨r2, c126, u126⟩ := cx_of_row (t := 0) (N := 7) (Or.inl rfl) t126
  obtain ⟨tm, c122, u122⟩ := cx_of_row (t := 0) (N := 16) (Or.inl rfl) t122
  obtain ⟨sm, c123, u123⟩ := cx_of_row (t := 0) (N := 16) (Or.inl rfl) t123
  obtain ⟨hm, c124, u124⟩ := cx_of_row (t := 0) (N := 64) (Or.inl rfl) t124
  obtain ⟨jm, c125, u125⟩ := cx_of_row (t := 0) (N := 64) (Or.inl rfl) t125
  have hX : cx_heap tS cs (h_xy (cx_toI (m0 11)) r1 t sw (F4 hh0 hh1 hh2 hh3) (F4 jj0 jj1 jj2 jj3) (fun i => cx_toI (m43 i))) ws := cx_heap_of (List.forall_mem_cons.mpr ⟨⟨a0, e0, w0, c0⟩, (List.forall_mem_cons.mpr ⟨⟨a1, e1, w1, c1⟩, (List.forall_mem_cons.mpr ⟨⟨a2, e2, w2, c2⟩, (List.forall_mem_cons.mpr ⟨⟨a3, e3, w3, c3⟩, (List.forall_mem_cons.mpr ⟨⟨a4, e4, w4, c4⟩, (List.forall_mem_cons.mpr ⟨⟨a5, e5, w5, c5⟩, (List.forall_mem_cons.mpr ⟨⟨a6, e6, w6, c6⟩, (List.forall_mem_cons.mpr ⟨⟨a7, e7, w7, c7⟩, (List.forall_mem_cons.mpr ⟨⟨a8, e8, w8, c8⟩, (List.forall_mem_cons.mpr ⟨⟨a9, e9, w9, c9⟩, (List.forall_mem_cons.mpr ⟨⟨a10, e10, w10, c10⟩, (List.forall_mem_cons.mpr ⟨⟨a11, e11, w11, c11⟩, (List.forall_mem_cons.mpr ⟨⟨a12, e12, w12, c12⟩, (List.forall_mem_cons.mpr ⟨⟨a13, e13, w13, c13⟩, (List.forall_mem_cons.mpr ⟨⟨a14, e14, w14, c14⟩, (List.forall_mem_cons.mpr ⟨⟨a43, e43, w43, c43⟩, (fun _ h => absurd h List.not_mem_nil)⟩)⟩)⟩)⟩)⟩)⟩)⟩)⟩)⟩)⟩)⟩)⟩)⟩)⟩)⟩)⟩)
  have hM : cx_heap tS cs (h_my (fun i => cx_toI (m119 i)) (fun i => cx_toL (m119 i)) r2 tm sm hm jm) ws := cx_heap_of (List.forall_mem_cons.mpr ⟨⟨a119, e119, w119, c119⟩, (List.forall_mem_cons.mpr ⟨⟨a126, e126, w126, c126⟩, (List.forall_mem_cons.mpr ⟨⟨a122, e122, w122, c122⟩, (List.forall_mem_cons.mpr ⟨⟨a123, e123, w123, c123⟩, (List.forall_mem_cons.mpr ⟨⟨a124, e124, w124, c124⟩, (List.forall_mem_cons.mpr ⟨⟨a125, e125, w125, c125⟩, (fun _ h => absurd h List.not_mem_nil)⟩)⟩)⟩)⟩)⟩)⟩)
  have ha0 : (ws.map (·.1))[0]? = some a0 := by rw [List.getElem?_map, w0]; rfl
  have ha119 : (ws.map (·.1))[119]? = some a119 := by rw [List.getElem?_map, w119]; rfl
  obtain ⟨mi0, fo0, pl0, f0, f1, f2, f3, mh0, ro0, g0, fk0, pf0, pt0, pr0, mf0, mt0, q44, q49, q67, q6, q7, q8, q9, q120, q124, q130, g12, g13, g14, g15, g16, n8, n22, n23, hRO⟩ := hEQ.2
  have q44 : rl_row ws 44 = some ((List.range 4).map (fun i => .int (mi0 i))) := q44
  have q49 : rl_row ws 49 = some ((List.range 4900).map (fun i => .int (fo0 i))) := q49
  have q67 : rl_row ws 67 = some ((List.range 24).map (fun i => .int (pl0 i))) := q67
  have q6 : rl_row ws 6 = some ((List.range 16).map (fun i => .int (f0 i))) := q6
  have q7 : rl_row ws 7 = some ((List.range 16).map (fun i => .int (f1 i))) := q7
  have q8 : rl_row ws 8 = some ((List.range 16).map (fun i => .int (f2 i))) := q8
  have q9 : rl_row ws 9 = some ((List.range 16).map (fun i => .int (f3 i))) := q9
  have q120 : rl_row ws 120 = some ((List.range 4).map (fun i => .int (mi0 i))) := q120
  have q124 : rl_row ws 124 = some ((List.range 64).map (fun i => .int (mh0 i))) := q124
  have q130 : rl_row ws 130 = some ((List.range 45927).map (fun i => .int (ro0 i))) := q130
  rw [cx_fldv w43 c43 (x := cx_toI (m43 12)) rfl rfl] at g12
  rw [cx_fldv w43 c43 (x := cx_toI (m43 13)) rfl rfl] at g13
  rw [cx_fldv w43 c43 (x := cx_toI (m43 14)) rfl rfl] at g14
  rw [cx_fldv w43 c43 (x := cx_toI (m43 15)) rfl rfl] at g15
  rw [cx_fldv w43 c43 (x := cx_toI (m43 16)) rfl rfl] at g16
  rw [cx_fldv w119 c119 (x := cx_toI (m119 8)) rfl rfl] at n8
  rw [cx_fldv w119 c119 (x := cx_toI (m119 22)) rfl rfl] at n22
  rw [cx_fldv w119 c119 (x := cx_toI (m119 23)) rfl rfl] at n23
  have g12 : cx_toI (m43 12) = g0 := Value.int.inj (Option.some.inj g12)
  have g13 : cx_toI (m43 13) = fk0 := Value.int.inj (Option.some.inj g13)
  have g14 : cx_toI (m43 14) = pf0 := Value.int.inj (Option.some.inj g14)
  have g15 : cx_toI (m43 15) = pt0 := Value.int.inj (Option.some.inj g15)
  have g16 : cx_toI (m43 16) = pr0 := Value.int.inj (Option.some.inj g16)
  have n8 : cx_toI (m119 8) = g0 := Value.int.inj (Option.some.inj n8)
  have n22 : cx_toI (m119 22) = mf0 := Value.int.inj (Option.some.inj n22)
  have n23 : cx_toI (m119 23) = mt0 := Value.int.inj (Option.some.inj n23)
  rw [← g12, ← g13, ← g14, ← g15, ← g16, ← n22, ← n23] at hRO
  have hgm : cx_toI (m119 8) = cx_toI (m43 12) := n8.trans g12.symm
  have hgb : (0 : Int) ≤ (cx_toI (m43 12)).toInt ∧ (cx_toI (m43 12)).toInt ≤ 4 := hbd43.1
  have hgk := ab_clamp (x := cx_toI (m43 12)) hgb.1
  have hg4 : (cx_toI (m43 12)).toNatClampNeg ≤ 4 := by omega
  have r6 : rl_row ws 6 = some ((List.range 16).map (fun i => .int (hh0 i))) := cx_rowv w6 c6
  have e6q : ∀ i : Nat, i < 16 → f0 i = hh0 i := cx_rowE (Option.some.inj (q6.symm.trans r6))
  have r7 : rl_row ws 7 = some ((List.range 16).map (fun i => .int (hh1 i))) := cx_rowv w7 c7
  have e7q : ∀ i : Nat, i < 16 → f1 i = hh1 i := cx_rowE (Option.some.inj (q7.symm.trans r7))
  have r8 : rl_row ws 8 = some ((List.range 16).map (fun i => .int (hh2 i))) := cx_rowv w8 c8
  have e8q : ∀ i : Nat, i < 16 → f2 i = hh2 i := cx_rowE (Option.some.inj (q8.symm.trans r8))
  have r9 : rl_row ws 9 = some ((List.range 16).map (fun i => .int (hh3 i))) := cx_rowv w9 c9
  have e9q : ∀ i : Nat, i < 16 → f3 i = hh3 i := cx_rowE (Option.some.inj (q9.symm.trans r9))
  have r124 : rl_row ws 124 = some ((List.range 64).map (fun i => .int (hm i))) := cx_rowv w124 c124
  have e124q : ∀ i : Nat, i < 64 → mh0 i = hm i := cx_rowE (Option.some.inj (q124.symm.trans r124))
  have hRO2 := RO_E hg4 (fun _ _ => rfl) (fun _ _ => rfl) (fun _ _ => rfl) (fun _ _ => rfl) e124q (F4_E e6q e7q e8q e9q) hRO
  have hEd : cx_toI (m0 11) = cx_toI (m119 1) := by
    obtain ⟨v, q1, q2⟩ := hEQ.1.2.1 ((0, 11), (119, 1)) (List.mem_of_getElem? (i := 0) rfl)
    have q1 : rl_fld ws (0, 11) = some v := q1
    have q2 : rl_fld ws (119, 1) = some v := q2
    rw [cx_fldv w0 c0 (x := cx_toI (m0 11)) rfl rfl] at q1
    rw [cx_fldv w119 c119 (x := cx_toI (m119 1)) rfl rfl] at q2
    exact Value.int.inj (Option.some.inj (q1.trans q2.symm))
  obtain ⟨fs0, e0q, -⟩ := id c0
  subst e0q
  refine lx_x F0 hl (pc' := 1675) (ab_tbo lto_35 _ _ _ (List.mem_of_getElem? (i := 0) rfl)) rfl ha0 ?_
  refine lx_arg F0 hiv hL hL2 hl (z := 1) (pc' := 1681) rfl (ab_tbo lto_35 _ _ _ (List.mem_of_getElem? (i := 1) rfl)) (ab_tbo lto_35 _ _ _ (List.mem_of_getElem? (i := 2) rfl)) (ab_tbo lto_35 _ _ _ (List.mem_of_getElem? (i := 3) rfl)) (ab_tbo lto_35 _ _ _ (List.mem_of_getElem? (i := 4) rfl)) (ab_tbo lto_35 _ _ _ (List.mem_of_getElem? (i := 5) rfl)) rfl ?_
  obtain ⟨d1, hd1, Ct1⟩ := ct_days (dy := cx_toI (m0 11)) (n := xs (i0 + 1)) (r := r1) (t := t) (s := sw) (H := F4 hh0 hh1 hh2 hh3) (J := (F4 jj0 jj1 jj2 jj3)) (ro := (fun i => cx_toI (m43 i))) l D cs tS ws [.ref a0, .int (xs (i0 + 1))] hX ⟨⟨a0, ha0, rfl⟩, rfl, trivial⟩
  refine lx_call F0 hcs hl (pc' := 1684) (q := 163) (n := 1) (ci := 10) (As := [.int (xs (i0 + 1))]) (stk := []) (ab_tbo lto_35 _ _ _ (List.mem_of_getElem? (i := 6) rfl)) rfl rfl rfl w0 (by decide) ⟨d1, by omega, Ct1⟩ rfl (fun rv ws1 hp1 => ?_)
  obtain ⟨v, h1, ⟨z, rr, dy2, t2, s2, H2, J2, ro2, rfl, rfl, hdx⟩, hk1, hf1, hH1, hrv⟩ := hp1
  obtain rfl : rv = some (.int z) := by
    cases rv with
    | none => exact hrv.elim
    | some y => exact congrArg some hrv
  show ab_W p l e room_1 s m #[Value.ref b] below meth c D vwCl A Q cells slots 1684 ls [.int z] ws1
  refine lx_pop F0 (pc' := 1685) (ab_tbo lto_35 _ _ _ (List.mem_of_getElem? (i := 7) rfl)) rfl ?_
  have hl1 := lx_Lc hl hf1.1
  have hM1 := cx_heap_far hM hf1 rfl
  have ha119b : (ws1.map (·.1))[119]? = some a119 := by rw [hf1.1]; exact ha119
  refine lx_m F0 hl1 (pc' := 1686) (ab_tbo lto_35 _ _ _ (List.mem_of_getElem? (i := 8) rfl)) rfl ha119b ?_
  refine lx_arg F0 hiv hL hL2 hl1 (z := 1) (pc' := 1692) rfl (ab_tbo lto_35 _ _ _ (List.mem_of_getElem? (i := 9) rfl)) (ab_tbo lto_35 _ _ _ (List.mem_of_getElem? (i := 10) rfl)) (ab_tbo lto_35 _ _ _ (List.mem_of_getElem? (i := 11) rfl)) (ab_tbo lto_35 _ _ _ (List.mem_of_getElem? (i := 12) rfl)) (ab_tbo lto_35 _ _ _ (List.mem_of_getElem? (i := 13) rfl)) rfl ?_
  obtain ⟨a119c, e119c, w119c, c119c⟩ := hM1 119 _ rfl
  obtain ⟨fs119c, e119d, -⟩ := id c119c
  subst e119d
  have eadd : a119c = a119 := ab_ad_get ha119b w119c
  rw [eadd] at w119c
  obtain ⟨d2, hd2, Ct2⟩ := ct_mdays (n := xs (i0 + 1)) (mi := fun i => cx_toI (m119 i)) (ml := fun i => cx_toL (m119 i)) (r := r2) (t := tm) (s := sm) (H := hm) (J := jm) l D cs tS ws1 [.ref a119, .int (xs (i0 + 1))] hM1 ⟨⟨a119, ha119b, rfl⟩, rfl, trivial⟩
  refine lx_call F0 hcs hl1 (pc' := 1695) (q := 255) (n := 1) (ci := 11) (As := [.int (xs (i0 + 1))]) (stk := []) (ab_tbo lto_35 _ _ _ (List.mem_of_getElem? (i := 14) rfl)) rfl rfl rfl w119c (by first | decide | exact (by decide : (1 : Nat) ≤ 8)) ⟨d2, by omega, Ct2⟩ rfl (fun rv2 ws2 hp2 => ?_)
  obtain ⟨v2, h2, ⟨z2, rr2, mq2, tm2, sm2, hm2, jm2, rfl, rfl, hdm⟩, hk2, hf2, hH2, hrv2⟩ := hp2
  obtain rfl : rv2 = some (.int z2) := by
    cases rv2 with
    | none => exact hrv2.elim
    | some y => exact congrArg some hrv2
  show ab_W p l e room_1 s m #[Value.ref b] below meth c D vwCl A Q cells slots 1695 ls [.int z2] ws2
  have k0 : (Int32.ofInt 0).toInt = 0 := by decide +kernel
  have k1 : (Int32.ofInt 1).toInt = 1 := by decide +kernel
  have km1 : (Int32.ofInt (-1)).toInt = -1 := by decide +kernel
  have km9 : (Int32.ofInt (-9)).toInt = -9 := by decide +kernel
  have hhB : ∀ k i : Nat, k < 4 → i < 16 → (0 : Int) ≤ (F4 hh0 hh1 hh2 hh3 k i).toInt ∧ (F4 hh0 hh1 hh2 hh3 k i).toInt ≤ 999 := fun k i hk hi => by
    rcases (show k = 0 ∨ k = 1 ∨ k = 2 ∨ k = 3 by omega) with rfl | rfl | rfl | rfl
    · exact cx_U1o (u6 i hi)
    · exact cx_U1o (u7 i hi)
    · exact cx_U1o (u8 i hi)
    · exact cx_U1o (u9 i hi)
  have k99 : (Int32.ofInt 99).toInt = 99 := by decide +kernel
  have hjB : ∀ k i : Nat, k < 4 → i < 16 → (0 : Int) ≤ (F4 jj0 jj1 jj2 jj3 k i).toInt ∧ (F4 jj0 jj1 jj2 jj3 k i).toInt ≤ 999 := fun k i hk hi => by
    rcases (show k = 0 ∨ k = 1 ∨ k = 2 ∨ k = 3 by omega) with rfl | rfl | rfl | rfl
    · exact cx_U1o (u11 i hi)
    · exact cx_U1o (u12 i hi)
    · exact cx_U1o (u13 i hi)
    · exact cx_U1o (u14 i hi)
  have ckU : ∀ {N : Nat} {x : Int32} {f : Nat → Int32} (i : Nat), i < N → ck N x f i = x := fun {N x f} i hi => by
    unfold ck
    rw [if_pos hi]
  unfold ds_x at hdx
  unfold ds_m at hdm
  dsimp only at hdm
  rw [hEd] at hdx
  have hbU : ∀ (U : List ab_Iv) (f g : Nat → Int32) (N : Nat), ab_inU U (Int32.ofInt 99).toInt → (∀ i : Nat, i < N → ab_inU U (f i).toInt) → (g = f ∨ g = ck N (Int32.ofInt 99) f) → ∀ i : Nat, i < N → ab_inU U (g i).toInt := fun U f g N h9 h0 hg i hi => by
    rcases hg with u | u <;> rw [u]
    · exact h0 i hi
    · rw [ckU i hi]; exact h9
  have hcase : (dy2 = cx_toI (m119 1) ∧ t2 = t ∧ s2 = sw ∧ H2 = F4 hh0 hh1 hh2 hh3 ∧ J2 = F4 jj0 jj1 jj2 jj3 ∧ ro2 = (fun i => cx_toI (m43 i)) ∧ mq2 = upi (fun i => cx_toI (m119 i)) 0 (Int32.ofInt 0) ∧ tm2 = tm ∧ sm2 = sm ∧ hm2 = hm ∧ jm2 = jm) ∨ (dy2 = cx_toI (m119 1) + xs (i0 + 1) ∧ t2 = ck 16 (Int32.ofInt 99) t ∧ s2 = ck 16 (Int32.ofInt 99) sw ∧ H2 = (fun i => ck 16 (Int32.ofInt 0) (F4 hh0 hh1 hh2 hh3 i)) ∧ J2 = (fun i => ck 16 (Int32.ofInt 0) (F4 jj0 jj1 jj2 jj3 i)) ∧ ro2 = upi (fun i => cx_toI (m43 i)) 14 (Int32.ofInt (-9)) ∧ mq2 = upi (upi (upi (fun i => cx_toI (m119 i)) 0 (Int32.ofInt 0)) 1 (cx_toI (m119 1) + xs (i0 + 1))) 22 (Int32.ofInt (-1)) ∧ tm2 = ck 16 (Int32.ofInt 99) tm ∧ sm2 = ck 16 (Int32.ofInt 99) sm ∧ hm2 = ck 64 (Int32.ofInt 0) hm ∧ jm2 = ck 64 (Int32.ofInt 0) jm) := by
    rcases hdx with ⟨q1, q2, q3, q4, q5, q6, q7⟩ | ⟨q0, q1, q2, q3, q4, q5, q6, q7⟩ <;> rcases hdm with ⟨r1, r2, r3, r4, r5, r6⟩ | ⟨r0, r1, r2, r3, r4, r5, r6⟩
    · exact Or.inl ⟨q2, q3, q4, q5, q6, q7, r2, r3, r4, r5, r6⟩
    · exfalso; omega
    · exfalso; omega
    · exact Or.inr ⟨q2, q3, q4, q5, q6, q7, r2, r3, r4, r5, r6⟩
  have hU3 : ∀ i : Nat, i < 16 → ab_inU [(.negSucc 8, .ofNat 9), (.ofNat 99, .ofNat 99)] (t2 i).toInt := hbU _ t t2 16 (by rw [k99]; exact cx_U2 (Or.inr ⟨by decide, by decide⟩)) u3 (by
    rcases hcase with ⟨_, q, _⟩ | ⟨_, q, _⟩
    · exact Or.inl q
    · exact Or.inr q)
  have hU4 : ∀ i : Nat, i < 16 → ab_inU [(.ofNat 0, .ofNat 9), (.ofNat 99, .ofNat 99)] (s2 i).toInt := hbU _ sw s2 16 (by rw [k99]; exact cx_U2 (Or.inr ⟨by decide, by decide⟩)) u4 (by
    rcases hcase with ⟨_, _, q, _⟩ | ⟨_, _, q, _⟩
    · exact Or.inl q
    · exact Or.inr q)
  have hU122 : ∀ i : Nat, i < 16 → ab_inU [(.negSucc 8, .ofNat 9), (.ofNat 99, .ofNat 99)] (tm2 i).toInt := hbU _ tm tm2 16 (by rw [k99]; exact cx_U2 (Or.inr ⟨by decide, by decide⟩)) u122 (by
    rcases hcase with ⟨_, _, _, _, _, _, _, q, _⟩ | ⟨_, _, _, _, _, _, _, q, _⟩
    · exact Or.inl q
    · exact Or.inr q)
  have hU123 : ∀ i : Nat, i < 16 → ab_inU [(.ofNat 0, .ofNat 9), (.ofNat 99, .ofNat 99)] (sm2 i).toInt := hbU _ sm sm2 16 (by rw [k99]; exact cx_U2 (Or.inr ⟨by decide, by decide⟩)) u123 (by
    rcases hcase with ⟨_, _, _, _, _, _, _, _, q, _⟩ | ⟨_, _, _, _, _, _, _, _, q, _⟩
    · exact Or.inl q
    · exact Or.inr q)
  have hH3 : ∀ k i : Nat, k < 4 → i < 16 → (0 : Int) ≤ (H2 k i).toInt ∧ (H2 k i).toInt ≤ 999 := fun k i hk hi => by
    rcases hcase with ⟨_, _, _, q, _⟩ | ⟨_, _, _, q, _⟩ <;> rw [q]
    · exact hhB k i hk hi
    · show (0 : Int) ≤ (ck 16 (Int32.ofInt 0) _ i).toInt ∧ (ck 16 (Int32.ofInt 0) _ i).toInt ≤ 999
      rw [ckU i hi]; omega
  have hJ3 : ∀ k i : Nat, k < 4 → i < 16 → (0 : Int) ≤ (J2 k i).toInt ∧ (J2 k i).toInt ≤ 999 := fun k i hk hi => by
    rcases hcase with ⟨_, _, _, _, q, _⟩ | ⟨_, _, _, _, q, _⟩ <;> rw [q]
    · exact hjB k i hk hi
    · show (0 : Int) ≤ (ck 16 (Int32.ofInt 0) _ i).toInt ∧ (ck 16 (Int32.ofInt 0) _ i).toInt ≤ 999
      rw [ckU i hi]; omega
  have hm3 : ∀ i : Nat, i < 64 → (0 : Int) ≤ (hm2 i).toInt ∧ (hm2 i).toInt ≤ 999 := fun i hi => by
    have h9 : (0 : Int) ≤ (hm i).toInt ∧ (hm i).toInt ≤ 999 := cx_U1o (u124 i hi)
    rcases hcase with ⟨_, _, _, _, _, _, _, _, _, q, _⟩ | ⟨_, _, _, _, _, _, _, _, _, q, _⟩ <;> rw [q]
    · exact h9
    · rw [ckU i hi]; omega
  have hHE : ∀ b u : Nat, b < 4 → u < 16 → hm2 (16 * b + u) = H2 b u := fun b u hb hu => by
    rcases hcase with ⟨_, _, _, q, _, _, _, _, _, q2, _⟩ | ⟨_, _, _, q, _, _, _, _, _, q2, _⟩ <;> rw [q, q2]
    · exact hRO2.1 b u hb hu
    · show _ = ck 16 (Int32.ofInt 0) _ u
      rw [ckU u hu, ckU (16 * b + u) (by omega)]
  have hb43n : obd_43 ro2 := by
    rcases hcase with ⟨_, _, _, _, _, q, _⟩ | ⟨_, _, _, _, _, q, _⟩ <;> rw [q] <;> exact hbd43
  have hb119n : obd_119 mq2 := by
    rcases hcase with ⟨_, _, _, _, _, _, q, _⟩ | ⟨_, _, _, _, _, _, q, _⟩ <;> rw [q] <;> exact hbd119
  have h8 : mq2 8 = cx_toI (m119 8) ∧ mq2 23 = cx_toI (m119 23) ∧ mq2 1 = dy2 := by
    rcases hcase with ⟨q0, _, _, _, _, _, q, _⟩ | ⟨q0, _, _, _, _, _, q, _⟩ <;> rw [q, q0] <;> exact ⟨rfl, rfl, rfl⟩
  have h43 : ro2 12 = cx_toI (m43 12) ∧ ro2 13 = cx_toI (m43 13) ∧ ro2 15 = cx_toI (m43 15) ∧ ro2 16 = cx_toI (m43 16) := by
    rcases hcase with ⟨_, _, _, _, _, q, _⟩ | ⟨_, _, _, _, _, q, _⟩ <;> rw [q] <;> exact ⟨rfl, rfl, rfl, rfl⟩
  have hmi : ∀ i : Nat, (Nat.beq i 0 || (Nat.beq i 1 || (Nat.beq i 22))) = false → cx_toI (m119 i) = mq2 i := fun i hi => by
    simp only [Bool.or_eq_false_iff] at hi
    obtain ⟨u0, u1, u2⟩ := hi
    rcases hcase with ⟨_, _, _, _, _, _, q, _⟩ | ⟨_, _, _, _, _, _, q, _⟩ <;> rw [q] <;> simp only [upi, u0, u1, u2, cond_false]
  have hro : ∀ i : Nat, Nat.beq i 14 = false → cx_toI (m43 i) = ro2 i := fun i hi => by
    rcases hcase with ⟨_, _, _, _, _, q, _⟩ | ⟨_, _, _, _, _, q, _⟩ <;> rw [q]
    simp only [upi, hi, cond_false]
  have hlen1 : ws1.length = 165 := by have := congrArg List.length hf1.1; simpa [hlen] using this
  have hlen2 : ws2.length = 165 := by have := congrArg List.length hf2.1; simpa [hlen1] using this
  have hth1 : ab_th tS (ab_tys cs) th ws1 := lx_done (fl := [1011, 3766]) hth hX hH1 ⟨⟨rfl, rfl, Or.inr rfl, Or.inr rfl, Or.inr rfl, Or.inr rfl, Or.inr rfl, Or.inr rfl, Or.inr rfl, Or.inr rfl, Or.inr rfl, Or.inr rfl, Or.inr rfl, Or.inl rfl, trivial⟩, ⟨rfl, trivial⟩, ⟨rfl, rfl, Or.inr rfl, Or.inr rfl, Or.inr rfl, Or.inr rfl, trivial⟩, ⟨rfl, trivial⟩, ⟨rfl, trivial⟩, ⟨rfl, trivial⟩, ⟨rfl, trivial⟩, ⟨rfl, trivial⟩, ⟨rfl, trivial⟩, ⟨rfl, trivial⟩, ⟨rfl, trivial⟩, ⟨rfl, trivial⟩, ⟨rfl, trivial⟩, ⟨rfl, trivial⟩, ⟨rfl, trivial⟩, ⟨rfl, rfl, Or.inr rfl, Or.inr rfl, Or.inr rfl, Or.inr rfl, Or.inr rfl, Or.inr rfl, Or.inr rfl, Or.inr rfl, Or.inr rfl, Or.inr rfl, Or.inr rfl, Or.inr rfl, Or.inr (congrArg (fun u => (.inl (.int u) : cx_V)) (hro 12 rfl)), Or.inr (congrArg (fun u => (.inl (.int u) : cx_V)) (hro 13 rfl)), Or.inl rfl, Or.inr (congrArg (fun u => (.inl (.int u) : cx_V)) (hro 15 rfl)), Or.inr (congrArg (fun u => (.inl (.int u) : cx_V)) (hro 16 rfl)), trivial⟩, trivial⟩ hf1 (po := [(0, ci_0), (1, ci_1), (2, ci_2), (3, ci_3), (4, ci_4), (5, ci_5), (6, ci_6), (7, ci_7), (8, ci_8), (9, ci_9), (10, ci_10), (11, ci_11), (12, ci_12), (13, ci_13), (14, ci_14), (43, ci_43)]) (List.forall_mem_cons.mpr ⟨lx_po hH1 rfl (fun e2 q => cx_to_obj (N := 12) q rfl (otl_0 (mi := fun _ => dy2))), (List.forall_mem_cons.mpr ⟨lx_po hH1 rfl (fun e2 q => cx_to_row q cx_anyU), (List.forall_mem_cons.mpr ⟨lx_po hH1 rfl (fun e2 q => cx_to_obj (N := 4) q rfl (otl_2 (mi := fun _ => 0))), (List.forall_mem_cons.mpr ⟨lx_po hH1 rfl (fun e2 q => cx_to_row q hU3), (List.forall_mem_cons.mpr ⟨lx_po hH1 rfl (fun e2 q => cx_to_row q hU4), (List.forall_mem_cons.mpr ⟨lx_po hH1 rfl (fun e2 q => cx_to_rows q), (List.forall_mem_cons.mpr ⟨lx_po hH1 rfl (fun e2 q => cx_to_row (U := [(.ofNat 0, .ofNat 999)]) q (fun i hi => cx_U1 (hH3 0 i (by omega) hi))), (List.forall_mem_cons.mpr ⟨lx_po hH1 rfl (fun e2 q => cx_to_row (U := [(.ofNat 0, .ofNat 999)]) q (fun i hi => cx_U1 (hH3 1 i (by omega) hi))), (List.forall_mem_cons.mpr ⟨lx_po hH1 rfl (fun e2 q => cx_to_row (U := [(.ofNat 0, .ofNat 999)]) q (fun i hi => cx_U1 (hH3 2 i (by omega) hi))), (List.forall_mem_cons.mpr ⟨lx_po hH1 rfl (fun e2 q => cx_to_row (U := [(.ofNat 0, .ofNat 999)]) q (fun i hi => cx_U1 (hH3 3 i (by omega) hi))), (List.forall_mem_cons.mpr ⟨lx_po hH1 rfl (fun e2 q => cx_to_rows q), (List.forall_mem_cons.mpr ⟨lx_po hH1 rfl (fun e2 q => cx_to_row (U := [(.ofNat 0, .ofNat 999)]) q (fun i hi => cx_U1 (hJ3 0 i (by omega) hi))), (List.forall_mem_cons.mpr ⟨lx_po hH1 rfl (fun e2 q => cx_to_row (U := [(.ofNat 0, .ofNat 999)]) q (fun i hi => cx_U1 (hJ3 1 i (by omega) hi))), (List.forall_mem_cons.mpr ⟨lx_po hH1 rfl (fun e2 q => cx_to_row (U := [(.ofNat 0, .ofNat 999)]) q (fun i hi => cx_U1 (hJ3 2 i (by omega) hi))), (List.forall_mem_cons.mpr ⟨lx_po hH1 rfl (fun e2 q => cx_to_row (U := [(.ofNat 0, .ofNat 999)]) q (fun i hi => cx_U1 (hJ3 3 i (by omega) hi))), (List.forall_mem_cons.mpr ⟨lx_po hH1 rfl (fun e2 q => cx_to_obj (N := 17) q rfl (otl_43 (mi := ro2) hb43n)), (fun _ h => absurd h List.not_mem_nil)⟩)⟩)⟩)⟩)⟩)⟩)⟩)⟩)⟩)⟩)⟩)⟩)⟩)⟩)⟩)⟩) (List.all_eq_true.mp tk35x th hmem)
  have hth2 : ab_th tS (ab_tys cs) th ws2 := lx_done (fl := [8616, 8617, 8638]) hth1 hM1 hH2 ⟨⟨rfl, rfl, Or.inl rfl, Or.inl rfl, Or.inr rfl, Or.inr rfl, Or.inr rfl, Or.inr rfl, Or.inr rfl, Or.inr rfl, Or.inr (congrArg (fun u => (.inl (.int u) : cx_V)) (hmi 8 rfl)), Or.inr rfl, Or.inr (congrArg (fun u => (.inl (.int u) : cx_V)) (hmi 10 rfl)), Or.inr (congrArg (fun u => (.inl (.int u) : cx_V)) (hmi 11 rfl)), Or.inr (congrArg (fun u => (.inl (.int u) : cx_V)) (hmi 12 rfl)), Or.inr rfl, Or.inr rfl, Or.inr rfl, Or.inr rfl, Or.inr rfl, Or.inr rfl, Or.inr rfl, Or.inr rfl, Or.inr (congrArg (fun u => (.inl (.int u) : cx_V)) (hmi 21 rfl)), Or.inl rfl, Or.inr (congrArg (fun u => (.inl (.int u) : cx_V)) (hmi 23 rfl)), Or.inr (congrArg (fun u => (.inl (.int u) : cx_V)) (hmi 24 rfl)), Or.inr rfl, Or.inr (congrArg (fun u => (.inl (.int u) : cx_V)) (hmi 26 rfl)), Or.inr (congrArg (fun u => (.inl (.int u) : cx_V)) (hmi 27 rfl)), Or.inr rfl, Or.inr (congrArg (fun u => (.inl (.int u) : cx_V)) (hmi 29 rfl)), Or.inr (congrArg (fun u => (.inl (.int u) : cx_V)) (hmi 30 rfl)), Or.inr (congrArg (fun u => (.inl (.int u) : cx_V)) (hmi 31 rfl)), Or.inr rfl, Or.inr rfl, Or.inr rfl, Or.inr rfl, Or.inr rfl, Or.inr rfl, Or.inr rfl, Or.inr rfl, Or.inr rfl, Or.inr (congrArg (fun u => (.inl (.int u) : cx_V)) (hmi 41 rfl)), Or.inr (congrArg (fun u => (.inl (.int u) : cx_V)) (hmi 42 rfl)), Or.inr (congrArg (fun u => (.inl (.int u) : cx_V)) (hmi 43 rfl)), Or.inr (congrArg (fun u => (.inl (.int u) : cx_V)) (hmi 44 rfl)), Or.inr (congrArg (fun u => (.inl (.int u) : cx_V)) (hmi 45 rfl)), Or.inr rfl, Or.inr rfl, Or.inr rfl, Or.inr rfl, Or.inr rfl, Or.inr rfl, Or.inr rfl, Or.inr rfl, Or.inr rfl, Or.inr (congrArg (fun u => (.inl (.int u) : cx_V)) (hmi 55 rfl)), Or.inr rfl, Or.inr rfl, Or.inr rfl, Or.inr rfl, Or.inr rfl, Or.inr (congrArg (fun u => (.inl (.int u) : cx_V)) (hmi 61 rfl)), Or.inr rfl, Or.inr rfl, Or.inr rfl, Or.inr rfl, Or.inr rfl, Or.inr rfl, trivial⟩, ⟨rfl, trivial⟩, ⟨rfl, trivial⟩, ⟨rfl, trivial⟩, ⟨rfl, trivial⟩, ⟨rfl, trivial⟩, trivial⟩ hf2 (po := [(119, ci_119), (126, ci_126), (122, ci_122), (123, ci_123), (124, ci_124), (125, ci_125)]) (List.forall_mem_cons.mpr ⟨lx_po hH2 rfl (fun e2 q => cx_to_obj (N := 68) q rfl (otl_119 (mi := mq2) hb119n)), (List.forall_mem_cons.mpr ⟨lx_po hH2 rfl (fun e2 q => cx_to_row q cx_anyU), (List.forall_mem_cons.mpr ⟨lx_po hH2 rfl (fun e2 q => cx_to_row q hU122), (List.forall_mem_cons.mpr ⟨lx_po hH2 rfl (fun e2 q => cx_to_row q hU123), (List.forall_mem_cons.mpr ⟨lx_po hH2 rfl (fun e2 q => cx_to_row (U := [(.ofNat 0, .ofNat 999)]) q (fun i hi => cx_U1 (hm3 i hi))), (List.forall_mem_cons.mpr ⟨lx_po hH2 rfl (fun e2 q => cx_to_row q cx_anyU), (fun _ h => absurd h List.not_mem_nil)⟩)⟩)⟩)⟩)⟩)⟩) (List.all_eq_true.mp tk35m th hmem)
  have hg1 := cx_gr (fl := [1011, 3766]) hX hH1 ⟨⟨rfl, rfl, Or.inr rfl, Or.inr rfl, Or.inr rfl, Or.inr rfl, Or.inr rfl, Or.inr rfl, Or.inr rfl, Or.inr rfl, Or.inr rfl, Or.inr rfl, Or.inr rfl, Or.inl rfl, trivial⟩, ⟨rfl, trivial⟩, ⟨rfl, rfl, Or.inr rfl, Or.inr rfl, Or.inr rfl, Or.inr rfl, trivial⟩, ⟨rfl, trivial⟩, ⟨rfl, trivial⟩, ⟨rfl, trivial⟩, ⟨rfl, trivial⟩, ⟨rfl, trivial⟩, ⟨rfl, trivial⟩, ⟨rfl, trivial⟩, ⟨rfl, trivial⟩, ⟨rfl, trivial⟩, ⟨rfl, trivial⟩, ⟨rfl, trivial⟩, ⟨rfl, trivial⟩, ⟨rfl, rfl, Or.inr rfl, Or.inr rfl, Or.inr rfl, Or.inr rfl, Or.inr rfl, Or.inr rfl, Or.inr rfl, Or.inr rfl, Or.inr rfl, Or.inr rfl, Or.inr rfl, Or.inr rfl, Or.inr (congrArg (fun u => (.inl (.int u) : cx_V)) (hro 12 rfl)), Or.inr (congrArg (fun u => (.inl (.int u) : cx_V)) (hro 13 rfl)), Or.inl rfl, Or.inr (congrArg (fun u => (.inl (.int u) : cx_V)) (hro 15 rfl)), Or.inr (congrArg (fun u => (.inl (.int u) : cx_V)) (hro 16 rfl)), trivial⟩, trivial⟩ hf1
  have hg2 := cx_gr (fl := [8616, 8617, 8638]) hM1 hH2 ⟨⟨rfl, rfl, Or.inl rfl, Or.inl rfl, Or.inr rfl, Or.inr rfl, Or.inr rfl, Or.inr rfl, Or.inr rfl, Or.inr rfl, Or.inr (congrArg (fun u => (.inl (.int u) : cx_V)) (hmi 8 rfl)), Or.inr rfl, Or.inr (congrArg (fun u => (.inl (.int u) : cx_V)) (hmi 10 rfl)), Or.inr (congrArg (fun u => (.inl (.int u) : cx_V)) (hmi 11 rfl)), Or.inr (congrArg (fun u => (.inl (.int u) : cx_V)) (hmi 12 rfl)), Or.inr rfl, Or.inr rfl, Or.inr rfl, Or.inr rfl, Or.inr rfl, Or.inr rfl, Or.inr rfl, Or.inr rfl, Or.inr (congrArg (fun u => (.inl (.int u) : cx_V)) (hmi 21 rfl)), Or.inl rfl, Or.inr (congrArg (fun u => (.inl (.int u) : cx_V)) (hmi 23 rfl)), Or.inr (congrArg (fun u => (.inl (.int u) : cx_V)) (hmi 24 rfl)), Or.inr rfl, Or.inr (congrArg (fun u => (.inl (.int u) : cx_V)) (hmi 26 rfl)), Or.inr (congrArg (fun u => (.inl (.int u) : cx_V)) (hmi 27 rfl)), Or.inr rfl, Or.inr (congrArg (fun u => (.inl (.int u) : cx_V)) (hmi 29 rfl)), Or.inr (congrArg (fun u => (.inl (.int u) : cx_V)) (hmi 30 rfl)), Or.inr (congrArg (fun u => (.inl (.int u) : cx_V)) (hmi 31 rfl)), Or.inr rfl, Or.inr rfl, Or.inr rfl, Or.inr rfl, Or.inr rfl, Or.inr rfl, Or.inr rfl, Or.inr rfl, Or.inr rfl, Or.inr (congrArg (fun u => (.inl (.int u) : cx_V)) (hmi 41 rfl)), Or.inr (congrArg (fun u => (.inl (.int u) : cx_V)) (hmi 42 rfl)), Or.inr (congrArg (fun u => (.inl (.int u) : cx_V)) (hmi 43 rfl)), Or.inr (congrArg (fun u => (.inl (.int u) : cx_V)) (hmi 44 rfl)), Or.inr (congrArg (fun u => (.inl (.int u) : cx_V)) (hmi 45 rfl)), Or.inr rfl, Or.inr rfl, Or.inr rfl, Or.inr rfl, Or.inr rfl, Or.inr rfl, Or.inr rfl, Or.inr rfl, Or.inr rfl, Or.inr (congrArg (fun u => (.inl (.int u) : cx_V)) (hmi 55 rfl)), Or.inr rfl, Or.inr rfl, Or.inr rfl, Or.inr rfl, Or.inr rfl, Or.inr (congrArg (fun u => (.inl (.int u) : cx_V)) (hmi 61 rfl)), Or.inr rfl, Or.inr rfl, Or.inr rfl, Or.inr rfl, Or.inr rfl, Or.inr rfl, trivial⟩, ⟨rfl, trivial⟩, ⟨rfl, trivial⟩, ⟨rfl, trivial⟩, ⟨rfl, trivial⟩, ⟨rfl, trivial⟩, trivial⟩ hf2
  refine lx_pop F0 (pc' := 1696) (ab_tbo lto_35 _ _ _ (List.mem_of_getElem? (i := 15) rfl)) rfl ?_
  refine lx_goto F0 (pc' := 1810) (ab_tbo lto_35 _ _ _ (List.mem_of_getElem? (i := 16) rfl)) rfl ?_
  have hX2 := cx_heap_far hH1 hf2 rfl
  refine K ls ws2 (lx_Lc hl1 hf2.1) ⟨th, hmem, hth2⟩ ?_ hlen2
  refine ⟨⟨fun q h => absurd h List.not_mem_nil, List.forall_mem_cons.mpr ⟨?_, fun q h => absurd h List.not_mem_nil⟩, fun q h => absurd h List.not_mem_nil⟩, mi0, fo0, pl0, H2 0, H2 1, H2 2, H2 3, hm2, ro0, (cx_toI (m43 12)), (cx_toI (m43 13)), ro2 14, (cx_toI (m43 15)), (cx_toI (m43 16)), mq2 22, cx_toI (m119 23), ?_, ?_, ?_, ?_, ?_, ?_, ?_, ?_, ?_, ?_, ?_, ?_, ?_, ?_, ?_, ?_, ?_, ?_, ?_⟩
  · obtain ⟨ax, ex, wx, cx⟩ := hX2 0 _ rfl
    obtain ⟨ay, ey, wy, cy⟩ := hH2 119 _ rfl
    exact ⟨_, cx_fldv wx cx (x := dy2) rfl rfl, (cx_fldv wy cy (x := mq2 1) rfl rfl).trans (by rw [h8.2.2])⟩
  · exact rl_row_keep hg2 rfl (rl_row_keep hg1 rfl q44)
  · exact rl_row_keep hg2 rfl (rl_row_keep hg1 rfl q49)
  · exact rl_row_keep hg2 rfl (rl_row_keep hg1 rfl q67)
  · obtain ⟨ag, eg, wg, cg⟩ := hX2 6 _ rfl
    exact (cx_rowv wg cg)
  · obtain ⟨ag, eg, wg, cg⟩ := hX2 7 _ rfl
    exact (cx_rowv wg cg)
  · obtain ⟨ag, eg, wg, cg⟩ := hX2 8 _ rfl
    exact (cx_rowv wg cg)
  · obtain ⟨ag, eg, wg, cg⟩ := hX2 9 _ rfl
    exact (cx_rowv wg cg)
  · exact rl_row_keep hg2 rfl (rl_row_keep hg1 rfl q120)
  · obtain ⟨ag, eg, wg, cg⟩ := hH2 124 _ rfl
    exact (cx_rowv wg cg)
  · exact rl_row_keep hg2 rfl (rl_row_keep hg1 rfl q130)
  · obtain ⟨ag, eg, wg, cg⟩ := hX2 43 _ rfl
    exact (cx_fldv wg cg (x := ro2 12) rfl rfl).trans (by rw [h43.1])
  · obtain ⟨ag, eg, wg, cg⟩ := hX2 43 _ rfl
    exact (cx_fldv wg cg (x := ro2 13) rfl rfl).trans (by rw [h43.2.1])
  · obtain ⟨ag, eg, wg, cg⟩ := hX2 43 _ rfl
    exact cx_fldv wg cg (x := ro2 14) rfl rfl
  · obtain ⟨ag, eg, wg, cg⟩ := hX2 43 _ rfl
    exact (cx_fldv wg cg (x := ro2 15) rfl rfl).trans (by rw [h43.2.2.1])
  · obtain ⟨ag, eg, wg, cg⟩ := hX2 43 _ rfl
    exact (cx_fldv wg cg (x := ro2 16) rfl rfl).trans (by rw [h43.2.2.2])
  · obtain ⟨ag, eg, wg, cg⟩ := hH2 119 _ rfl
    exact (cx_fldv wg cg (x := mq2 8) rfl rfl).trans (by rw [h8.1, hgm])
  · obtain ⟨ag, eg, wg, cg⟩ := hH2 119 _ rfl
    exact (cx_fldv wg cg (x := mq2 22) rfl rfl)
  · obtain ⟨ag, eg, wg, cg⟩ := hH2 119 _ rfl
    exact (cx_fldv wg cg (x := mq2 23) rfl rfl).trans (by rw [h8.2.1])
  · rcases hcase with ⟨_, _, _, q4, _, q6, q7, _, _, q10, _⟩ | ⟨_, _, _, q4, _, q6, q7, _, _, q10, _⟩
    · have e22 : mq2 22 = cx_toI (m119 22) := by rw [q7]; rfl
      have e14 : ro2 14 = cx_toI (m43 14) := by rw [q6]
      rw [q10, e22, e14, q4]
      exact hRO2
    · refine ⟨fun b y hb hy => (hHE b y hb hy).trans (F4_of b y hb hy), hRO2.2.1, hRO2.2.2.1, Or.inl ?_, Or.inl ?_⟩
      · rw [q6]
        exact km9
      · rw [q7]
        exact km1
theorem tk10a : lw_THs.all (fun th => tr_3 th [(0, ci_0), (1, ci_1), (43, ci_43), (44, ci_44), (45, ci_45), (46, ci_46), (47, ci_47), (48, ci_48), (49, ci_49), (50, ci_50), (51, ci_51), (52, ci_52), (53, ci_53), (54, ci_54), (55, ci_55), (56, ci_56), (57, ci_57), (58, ci_58), (59, ci_59), (60, ci_60), (61, ci_61), (62, ci_62), (63, ci_63), (64, ci_64), (65, ci_65), (66, ci_66), (67, ci_67), (2, ci_2), (5, ci_5), (6, ci_6), (7, ci_7), (8, ci_8), (9, ci_9), (119, ci_119), (126, ci_126), (120, ci_120), (124, ci_124), (130, ci_130), (131, ci_131), (132, ci_132), (133, ci_133), (134, ci_134)]) = true := by decide +kernel
theorem tk10x : lw_THs.all (fun th => th.all (tr_1 (cx_M [0, 1, 43, 44, 45, 46, 47, 48, 49, 50, 51, 52, 53, 54, 55, 56, 57, 58, 59, 60, 61, 62, 63, 64, 65, 66, 67, 2, 5, 6, 7, 8, 9] [3765, 3766, 3767, 3768]) th [(0, ci_0), (1, ci_1), (43, ci_43), (44, ci_44), (45, ci_45), (46, ci_46), (47, ci_47), (48, ci_48), (49, ci_49), (50, ci_50), (51, ci_51), (52, ci_52), (53, ci_53), (54, ci_54), (55, ci_55), (56, ci_56), (57, ci_57), (58, ci_58), (59, ci_59), (60, ci_60), (61, ci_61), (62, ci_62), (63, ci_63), (64, ci_64), (65, ci_65), (66, ci_66), (67, ci_67), (2, ci_2), (5, ci_5), (6, ci_6), (7, ci_7), (8, ci_8), (9, ci_9)])) = true := by decide +kernel
theorem tk10m : lw_THs.all (fun th => th.all (tr_1 (cx_M [119, 126, 120, 124, 130, 131, 132, 133, 134] [8616, 8637, 8638, 8639]) th [(119, ci_119), (126, ci_126), (120, ci_120), (124, ci_124), (130, ci_130), (131, ci_131), (132, ci_132), (133, ci_133), (134, ci_134)])) = true := by decide +kernel
theorem tz_10 : ∀ th ∈ lw_THs, lw_TQ 690 th := by
  intro th hmem p l e s m below meth c D A Q cs tS b L i0 cells slots xs iv ws ls F0 hcs hiv hL hL2 hl hth hEQ hlen K
  have h3 := tr_3_ok (List.all_eq_true.mp tk10a th hmem) hth
  obtain ⟨a0, e0, w0, t0⟩ := h3 _ (List.mem_of_getElem? (i := 0) rfl)
  obtain ⟨a1, e1, w1, t1⟩ := h3 _ (List.mem_of_getElem? (i := 1) rfl)
  obtain ⟨a43, e43, w43, t43⟩ := h3 _ (List.mem_of_getElem? (i := 2) rfl)
  obtain ⟨a44, e44, w44, t44⟩ := h3 _ (List.mem_of_getElem? (i := 3) rfl)
  obtain ⟨a45, e45, w45, t45⟩ := h3 _ (List.mem_of_getElem? (i := 4) rfl)
  obtain ⟨a46, e46, w46, t46⟩ := h3 _ (List.mem_of_getElem? (i := 5) rfl)
  obtain ⟨a47, e47, w47, t47⟩ := h3 _ (List.mem_of_getElem? (i := 6) rfl)
  obtain ⟨a48, e48, w48, t48⟩ := h3 _ (List.mem_of_getElem? (i := 7) rfl)
  obtain ⟨a49, e49, w49, t49⟩ := h3 _ (List.mem_of_getElem? (i := 8) rfl)
  obtain ⟨a50, e50, w50, t50⟩ := h3 _ (List.mem_of_getElem? (i := 9) rfl)
  obtain ⟨a51, e51, w51, t51⟩ := h3 _ (List.mem_of_getElem? (i := 10) rfl)
  obtain ⟨a52, e52, w52, t52⟩ := h3 _ (List.mem_of_getElem? (i := 11) rfl)
  obtain ⟨a53, e53, w53, t53⟩ := h3 _ (List.mem_of_getElem? (i := 12) rfl)
  obtain ⟨a54, e54, w54, t54⟩ := h3 _ (List.mem_of_getElem? (i := 13) rfl)
  obtain ⟨a55, e55, w55, t55⟩ := h3 _ (List.mem_of_getElem? (i := 14) rfl)
  obtain ⟨a56, e56, w56, t56⟩ := h3 _ (List.mem_of_getElem? (i := 15) rfl)
  obtain ⟨a57, e57, w57, t57⟩ := h3 _ (List.mem_of_getElem? (i := 16) rfl)
  obtain ⟨a58, e58, w58, t58⟩ := h3 _ (List.mem_of_getElem? (i := 17) rfl)
  obtain ⟨a59, e59, w59, t59⟩ := h3 _ (List.mem_of_getElem? (i := 18) rfl)
  obtain ⟨a60, e60, w60, t60⟩ := h3 _ (List.mem_of_getElem? (i := 19) rfl)
  obtain ⟨a61, e61, w61, t61⟩ := h3 _ (List.mem_of_getElem? (i := 20) rfl)
  obtain ⟨a62, e62, w62, t62⟩ := h3 _ (List.mem_of_getElem? (i := 21) rfl)
  obtain ⟨a63, e63, w63, t63⟩ := h3 _ (List.mem_of_getElem? (i := 22) rfl)
  obtain ⟨a64, e64, w64, t64⟩ := h3 _ (List.mem_of_getElem? (i := 23) rfl)
  obtain ⟨a65, e65, w65, t65⟩ := h3 _ (List.mem_of_getElem? (i := 24) rfl)
  obtain ⟨a66, e66, w66, t66⟩ := h3 _ (List.mem_of_getElem? (i := 25) rfl)
  obtain ⟨a67, e67, w67, t67⟩ := h3 _ (List.mem_of_getElem? (i := 26) rfl)
  obtain ⟨a2, e2, w2, t2⟩ := h3 _ (List.mem_of_getElem? (i := 27) rfl)
  obtain ⟨a5, e5, w5, t5⟩ := h3 _ (List.mem_of_getElem? (i := 28) rfl)
  obtain ⟨a6, e6, w6, t6⟩ := h3 _ (List.mem_of_getElem? (i := 29) rfl)
  obtain ⟨a7, e7, w7, t7⟩ := h3 _ (List.mem_of_getElem? (i := 30) rfl)
  obtain ⟨a8, e8, w8, t8⟩ := h3 _ (List.mem_of_getElem? (i := 31) rfl)
  obtain ⟨a9, e9, w9, t9⟩ := h3 _ (List.mem_of_getElem? (i := 32) rfl)
  obtain ⟨a119, e119, w119, t119⟩ := h3 _ (List.mem_of_getElem? (i := 33) rfl)
  obtain ⟨a126, e126, w126, t126⟩ := h3 _ (List.mem_of_getElem? (i := 34) rfl)
  obtain ⟨a120, e120, w120, t120⟩ := h3 _ (List.mem_of_getElem? (i := 35) rfl)
  obtain ⟨a124, e124, w124, t124⟩ := h3 _ (List.mem_of_getElem? (i := 36) rfl)
  obtain ⟨a130, e130, w130, t130⟩ := h3 _ (List.mem_of_getElem? (i := 37) rfl)
  obtain ⟨a131, e131, w131, t131⟩ := h3 _ (List.mem_of_getElem? (i := 38) rfl)
  obtain ⟨a132, e132, w132, t132⟩ := h3 _ (List.mem_of_getElem? (i := 39) rfl)
  obtain ⟨a133, e133, w133, t133⟩ := h3 _ (List.mem_of_getElem? (i := 40) rfl)
  obtain ⟨a134, e134, w134, t134⟩ := h3 _ (List.mem_of_getElem? (i := 41) rfl)
  obtain ⟨m0, c0, b0⟩ := cx_of_obj (ci := 10) (N := 12) (tvs := ots_0) t0
  obtain ⟨r1, c1, u1⟩ := cx_of_row (t := 0) (N := 7) (Or.inl rfl) t1
  obtain ⟨m43, c43, b43⟩ := cx_of_obj (ci := 4) (N := 17) (tvs := ots_43) t43
  have hbd43 := obd_43_of b43
  obtain ⟨mi, c44, u44⟩ := cx_of_row (t := 0) (N := 4) (Or.inl rfl) t44
  obtain ⟨cd, c45, u45⟩ := cx_of_rowK (N := 70) t45
  obtain ⟨sz, c46, u46⟩ := cx_of_rowK (N := 70) t46
  obtain ⟨sp, c47, u47⟩ := cx_of_rowK (N := 625) t47
  obtain ⟨thx, c48, u48⟩ := cx_of_rowK (N := 280) t48
  obtain ⟨fo, c49, u49⟩ := cx_of_row (t := 2) (N := 4900) (Or.inr rfl) t49
  have c50 := cx_of_rows (t := 3) (N := 6) (ks := [51, 52, 53, 54, 55, 56]) (Or.inl rfl) t50
  obtain ⟨R0, c51, u51⟩ := cx_of_row (t := 0) (N := 70) (Or.inl rfl) t51
  obtain ⟨R1, c52, u52⟩ := cx_of_row (t := 0) (N := 70) (Or.inl rfl) t52
  obtain ⟨R2, c53, u53⟩ := cx_of_row (t := 0) (N := 70) (Or.inl rfl) t53
  obtain ⟨R3, c54, u54⟩ := cx_of_row (t := 0) (N := 70) (Or.inl rfl) t54
  obtain ⟨R4, c55, u55⟩ := cx_of_row (t := 0) (N := 70) (Or.inl rfl) t55
  obtain ⟨R5, c56, u56⟩ := cx_of_row (t := 0) (N := 70) (Or.inl rfl) t56
  obtain ⟨go, c57, u57⟩ := cx_of_row (t := 0) (N := 350) (Or.inl rfl) t57
  have c58 := cx_of_rows (t := 3) (N := 7) (ks := [59, 60, 61, 62, 63, 64, 65]) (Or.inl rfl) t58
  obtain ⟨L0, c59, u59⟩ := cx_of_row (t := 0) (N := 350) (Or.inl rfl) t59
  obtain ⟨L1, c60, u60⟩ := cx_of_row (t := 0) (N := 350) (Or.inl rfl) t60
  obtain ⟨L2, c61, u61⟩ := cx_of_row (t := 0) (N := 350) (Or.inl rfl) t61
  obtain ⟨L3, c62, u62⟩ := cx_of_row (t := 0) (N := 350) (Or.inl rfl) t62
  obtain ⟨L4, c63, u63⟩ := cx_of_row (t := 0) (N := 350) (Or.inl rfl) t63
  obtain ⟨L5, c64, u64⟩ := cx_of_row (t := 0) (N := 350) (Or.inl rfl) t64
  obtain ⟨L6, c65, u65⟩ := cx_of_row (t := 0) (N := 350) (Or.inl rfl) t65
  obtain ⟨la, c66, u66⟩ := cx_of_row (t := 0) (N := 4) (Or.inl rfl) t66
  obtain ⟨pl, c67, u67⟩ := cx_of_row (t := 0) (N := 24) (Or.inl rfl) t67
  obtain ⟨m2, c2, b2⟩ := cx_of_obj (ci := 8) (N := 4) (tvs := ots_2) t2
  have c5 := cx_of_rows (t := 3) (N := 4) (ks := [6, 7, 8, 9]) (Or.inl rfl) t5
  obtain ⟨hh0, c6, u6⟩ := cx_of_row (t := 0) (N := 16) (Or.inl rfl) t6
  obtain ⟨hh1, c7, u7⟩ := cx_of_row (t := 0) (N := 16) (Or.inl rfl) t7
  obtain ⟨hh2, c8, u8⟩ := cx_of_row (t := 0) (N := 16) (Or.inl rfl) t8
  obtain ⟨hh3, c9, u9⟩ := cx_of_row (t := 0) (N := 16) (Or.inl rfl) t9
  obtain ⟨m119, c119, b119⟩ := cx_of_obj (ci := 11) (N := 68) (tvs := ots_119) t119
  have hbd119 := obd_119_of b119
  obtain ⟨r2, c126, u126⟩ := cx_of_row (t := 0) (N := 7) (Or.inl rfl) t126
  obtain ⟨mm, c120, u120⟩ := cx_of_row (t := 0) (N := 4) (Or.inl rfl) t120
  obtain ⟨hm, c124, u124⟩ := cx_of_row (t := 0) (N := 64) (Or.inl rfl) t124
  obtain ⟨ro, c130, u130⟩ := cx_of_row (t := 0) (N := 45927) (Or.inl rfl) t130
  obtain ⟨fo4, c131, u131⟩ := cx_of_row (t := 0) (N := 4) (Or.inl rfl) t131
  obtain ⟨th4, c132, u132⟩ := cx_of_rowE (N := 4) (Or.inl rfl) t132
  obtain ⟨so, c133, u133⟩ := cx_of_row (t := 0) (N := 4) (Or.inl rfl) t133
  obtain ⟨ab, c134, u134⟩ := cx_of_row (t := 0) (N := 5) (Or.inl rfl) t134
  have hX : cx_heap tS cs ([(0, .inl (10, vs_0 (cx_toI (m0 11)))), (1, .inr (.inl (0, 7, r1))), (43, .inl (4, vs_43 (fun i => cx_toI (m43 i)))), (44, .inr (.inl (0, 4, mi))), (45, .inr (.inl (0, 70, cd))), (46, .inr (.inl (0, 70, sz))), (47, .inr (.inl (0, 625, sp))), (48, .inr (.inl (0, 280, thx))), (49, .inr (.inl (2, 4900, fo))), (50, .inr (.inr (.inr (3, [51, 52, 53, 54, 55, 56])))), (51, .inr (.inl (0, 70, (F7 R0 R1 R2 R3 R4 R5 R5) 0))), (52, .inr (.inl (0, 70, (F7 R0 R1 R2 R3 R4 R5 R5) 1))), (53, .inr (.inl (0, 70, (F7 R0 R1 R2 R3 R4 R5 R5) 2))), (54, .inr (.inl (0, 70, (F7 R0 R1 R2 R3 R4 R5 R5) 3))), (55, .inr (.inl (0, 70, (F7 R0 R1 R2 R3 R4 R5 R5) 4))), (56, .inr (.inl (0, 70, (F7 R0 R1 R2 R3 R4 R5 R5) 5))), (57, .inr (.inl (0, 350, go))), (58, .inr (.inr (.inr (3, [59, 60, 61, 62, 63, 64, 65])))), (59, .inr (.inl (0, 350, (F7 L0 L1 L2 L3 L4 L5 L6) 0))), (60, .inr (.inl (0, 350, (F7 L0 L1 L2 L3 L4 L5 L6) 1))), (61, .inr (.inl (0, 350, (F7 L0 L1 L2 L3 L4 L5 L6) 2))), (62, .inr (.inl (0, 350, (F7 L0 L1 L2 L3 L4 L5 L6) 3))), (63, .inr (.inl (0, 350, (F7 L0 L1 L2 L3 L4 L5 L6) 4))), (64, .inr (.inl (0, 350, (F7 L0 L1 L2 L3 L4 L5 L6) 5))), (65, .inr (.inl (0, 350, (F7 L0 L1 L2 L3 L4 L5 L6) 6))), (66, .inr (.inl (0, 4, la))), (67, .inr (.inl (0, 24, pl))), (2, .inl (8, [.inr (.inl 3), .inr (.inl 4), .inr (.inl 5), .inr (.inl 10)])), (5, .inr (.inr (.inr (3, [6, 7, 8, 9])))), (6, .inr (.inl (0, 16, (F4 hh0 hh1 hh2 hh3) 0))), (7, .inr (.inl (0, 16, (F4 hh0 hh1 hh2 hh3) 1))), (8, .inr (.inl (0, 16, (F4 hh0 hh1 hh2 hh3) 2))), (9, .inr (.inl (0, 16, (F4 hh0 hh1 hh2 hh3) 3)))]) ws := cx_heap_of (List.forall_mem_cons.mpr ⟨⟨a0, e0, w0, c0⟩, (List.forall_mem_cons.mpr ⟨⟨a1, e1, w1, c1⟩, (List.forall_mem_cons.mpr ⟨⟨a43, e43, w43, c43⟩, (List.forall_mem_cons.mpr ⟨⟨a44, e44, w44, c44⟩, (List.forall_mem_cons.mpr ⟨⟨a45, e45, w45, c45⟩, (List.forall_mem_cons.mpr ⟨⟨a46, e46, w46, c46⟩, (List.forall_mem_cons.mpr ⟨⟨a47, e47, w47, c47⟩, (List.forall_mem_cons.mpr ⟨⟨a48, e48, w48, c48⟩, (List.forall_mem_cons.mpr ⟨⟨a49, e49, w49, c49⟩, (List.forall_mem_cons.mpr ⟨⟨a50, e50, w50, c50⟩, (List.forall_mem_cons.mpr ⟨⟨a51, e51, w51, c51⟩, (List.forall_mem_cons.mpr ⟨⟨a52, e52, w52, c52⟩, (List.forall_mem_cons.mpr ⟨⟨a53, e53, w53, c53⟩, (List.forall_mem_cons.mpr ⟨⟨a54, e54, w54, c54⟩, (List.forall_mem_cons.mpr ⟨⟨a55, e55, w55, c55⟩, (List.forall_mem_cons.mpr ⟨⟨a56, e56, w56, c56⟩, (List.forall_mem_cons.mpr ⟨⟨a57, e57, w57, c57⟩, (List.forall_mem_cons.mpr ⟨⟨a58, e58, w58, c58⟩, (List.forall_mem_cons.mpr ⟨⟨a59, e59, w59, c59⟩, (List.forall_mem_cons.mpr ⟨⟨a60, e60, w60, c60⟩, (List.forall_mem_cons.mpr ⟨⟨a61, e61, w61, c61⟩, (List.forall_mem_cons.mpr ⟨⟨a62, e62, w62, c62⟩, (List.forall_mem_cons.mpr ⟨⟨a63, e63, w63, c63⟩, (List.forall_mem_cons.mpr ⟨⟨a64, e64, w64, c64⟩, (List.forall_mem_cons.mpr ⟨⟨a65, e65, w65, c65⟩, (List.forall_mem_cons.mpr ⟨⟨a66, e66, w66, c66⟩, (List.forall_mem_cons.mpr ⟨⟨a67, e67, w67, c67⟩, (List.forall_mem_cons.mpr ⟨⟨a2, e2, w2, c2⟩, (List.forall_mem_cons.mpr ⟨⟨a5, e5, w5, c5⟩, (List.forall_mem_cons.mpr ⟨⟨a6, e6, w6, c6⟩, (List.forall_mem_cons.mpr ⟨⟨a7, e7, w7, c7⟩, (List.forall_mem_cons.mpr ⟨⟨a8, e8, w8, c8⟩, (List.forall_mem_cons.mpr ⟨⟨a9, e9, w9, c9⟩, (fun _ h => absurd h List.not_mem_nil)⟩)⟩)⟩)⟩)⟩)⟩)⟩)⟩)⟩)⟩)⟩)⟩)⟩)⟩)⟩)⟩)⟩)⟩)⟩)⟩)⟩)⟩)⟩)⟩)⟩)⟩)⟩)⟩)⟩)⟩)⟩)⟩)⟩)
  have hM : cx_heap tS cs ([(119, .inl (11, vs_119 (fun i => cx_toI (m119 i)) (fun i => cx_toL (m119 i)))), (126, .inr (.inl (0, 7, r2))), (120, .inr (.inl (0, 4, mm))), (124, .inr (.inl (0, 64, hm))), (130, .inr (.inl (0, 45927, ro))), (131, .inr (.inl (0, 4, fo4))), (132, .inr (.inl (0, 4, th4))), (133, .inr (.inl (0, 4, so))), (134, .inr (.inl (0, 5, ab)))]) ws := cx_heap_of (List.forall_mem_cons.mpr ⟨⟨a119, e119, w119, c119⟩, (List.forall_mem_cons.mpr ⟨⟨a126, e126, w126, c126⟩, (List.forall_mem_cons.mpr ⟨⟨a120, e120, w120, c120⟩, (List.forall_mem_cons.mpr ⟨⟨a124, e124, w124, c124⟩, (List.forall_mem_cons.mpr ⟨⟨a130, e130, w130, c130⟩, (List.forall_mem_cons.mpr ⟨⟨a131, e131, w131, c131⟩, (List.forall_mem_cons.mpr ⟨⟨a132, e132, w132, c132⟩, (List.forall_mem_cons.mpr ⟨⟨a133, e133, w133, c133⟩, (List.forall_mem_cons.mpr ⟨⟨a134, e134, w134, c134⟩, (fun _ h => absurd h List.not_mem_nil)⟩)⟩)⟩)⟩)⟩)⟩)⟩)⟩)⟩)
  have ha0 : (ws.map (·.1))[0]? = some a0 := by rw [List.getElem?_map, w0]; rfl
  have ha119 : (ws.map (·.1))[119]? = some a119 := by rw [List.getElem?_map, w119]; rfl
  obtain ⟨mi0, fo0, pl0, f0, f1, f2, f3, mh0, ro0, g0, fk0, pf0, pt0, pr0, mf0, mt0, q44, q49, q67, q6, q7, q8, q9, q120, q124, q130, g12, g13, g14, g15, g16, n8, n22, n23, hRO⟩ := hEQ.2
  have q44 : rl_row ws 44 = some ((List.range 4).map (fun i => .int (mi0 i))) := q44
  have q49 : rl_row ws 49 = some ((List.range 4900).map (fun i => .int (fo0 i))) := q49
  have q67 : rl_row ws 67 = some ((List.range 24).map (fun i => .int (pl0 i))) := q67
  have q6 : rl_row ws 6 = some ((List.range 16).map (fun i => .int (f0 i))) := q6
  have q7 : rl_row ws 7 = some ((List.range 16).map (fun i => .int (f1 i))) := q7
  have q8 : rl_row ws 8 = some ((List.range 16).map (fun i => .int (f2 i))) := q8
  have q9 : rl_row ws 9 = some ((List.range 16).map (fun i => .int (f3 i))) := q9
  have q120 : rl_row ws 120 = some ((List.range 4).map (fun i => .int (mi0 i))) := q120
  have q124 : rl_row ws 124 = some ((List.range 64).map (fun i => .int (mh0 i))) := q124
  have q130 : rl_row ws 130 = some ((List.range 45927).map (fun i => .int (ro0 i))) := q130
  rw [cx_fldv w43 c43 (x := cx_toI (m43 12)) rfl rfl] at g12
  rw [cx_fldv w43 c43 (x := cx_toI (m43 13)) rfl rfl] at g13
  rw [cx_fldv w43 c43 (x := cx_toI (m43 14)) rfl rfl] at g14
  rw [cx_fldv w43 c43 (x := cx_toI (m43 15)) rfl rfl] at g15
  rw [cx_fldv w43 c43 (x := cx_toI (m43 16)) rfl rfl] at g16
  rw [cx_fldv w119 c119 (x := cx_toI (m119 8)) rfl rfl] at n8
  rw [cx_fldv w119 c119 (x := cx_toI (m119 22)) rfl rfl] at n22
  rw [cx_fldv w119 c119 (x := cx_toI (m119 23)) rfl rfl] at n23
  have g12 : cx_toI (m43 12) = g0 := Value.int.inj (Option.some.inj g12)
  have g13 : cx_toI (m43 13) = fk0 := Value.int.inj (Option.some.inj g13)
  have g14 : cx_toI (m43 14) = pf0 := Value.int.inj (Option.some.inj g14)
  have g15 : cx_toI (m43 15) = pt0 := Value.int.inj (Option.some.inj g15)
  have g16 : cx_toI (m43 16) = pr0 := Value.int.inj (Option.some.inj g16)
  have n8 : cx_toI (m119 8) = g0 := Value.int.inj (Option.some.inj n8)
  have n22 : cx_toI (m119 22) = mf0 := Value.int.inj (Option.some.inj n22)
  have n23 : cx_toI (m119 23) = mt0 := Value.int.inj (Option.some.inj n23)
  rw [← g12, ← g13, ← g14, ← g15, ← g16, ← n22, ← n23] at hRO
  have hgm : cx_toI (m119 8) = cx_toI (m43 12) := n8.trans g12.symm
  have hgb : (0 : Int) ≤ (cx_toI (m43 12)).toInt ∧ (cx_toI (m43 12)).toInt ≤ 4 := hbd43.1
  have hgk := ab_clamp (x := cx_toI (m43 12)) hgb.1
  have hg4 : (cx_toI (m43 12)).toNatClampNeg ≤ 4 := by omega
  have r44 : rl_row ws 44 = some ((List.range 4).map (fun i => .int (mi i))) := cx_rowv w44 c44
  have e44q : ∀ i : Nat, i < 4 → mi0 i = mi i := cx_rowE (Option.some.inj (q44.symm.trans r44))
  have r49 : rl_row ws 49 = some ((List.range 4900).map (fun i => .int (fo i))) := cx_rowv w49 c49
  have e49q : ∀ i : Nat, i < 4900 → fo0 i = fo i := cx_rowE (Option.some.inj (q49.symm.trans r49))
  have r67 : rl_row ws 67 = some ((List.range 24).map (fun i => .int (pl i))) := cx_rowv w67 c67
  have e67q : ∀ i : Nat, i < 24 → pl0 i = pl i := cx_rowE (Option.some.inj (q67.symm.trans r67))
  have r6 : rl_row ws 6 = some ((List.range 16).map (fun i => .int (hh0 i))) := cx_rowv w6 c6
  have e6q : ∀ i : Nat, i < 16 → f0 i = hh0 i := cx_rowE (Option.some.inj (q6.symm.trans r6))
  have r7 : rl_row ws 7 = some ((List.range 16).map (fun i => .int (hh1 i))) := cx_rowv w7 c7
  have e7q : ∀ i : Nat, i < 16 → f1 i = hh1 i := cx_rowE (Option.some.inj (q7.symm.trans r7))
  have r8 : rl_row ws 8 = some ((List.range 16).map (fun i => .int (hh2 i))) := cx_rowv w8 c8
  have e8q : ∀ i : Nat, i < 16 → f2 i = hh2 i := cx_rowE (Option.some.inj (q8.symm.trans r8))
  have r9 : rl_row ws 9 = some ((List.range 16).map (fun i => .int (hh3 i))) := cx_rowv w9 c9
  have e9q : ∀ i : Nat, i < 16 → f3 i = hh3 i := cx_rowE (Option.some.inj (q9.symm.trans r9))
  have r120 : rl_row ws 120 = some ((List.range 4).map (fun i => .int (mm i))) := cx_rowv w120 c120
  have e120q : ∀ i : Nat, i < 4 → mi0 i = mm i := cx_rowE (Option.some.inj (q120.symm.trans r120))
  have r124 : rl_row ws 124 = some ((List.range 64).map (fun i => .int (hm i))) := cx_rowv w124 c124
  have e124q : ∀ i : Nat, i < 64 → mh0 i = hm i := cx_rowE (Option.some.inj (q124.symm.trans r124))
  have r130 : rl_row ws 130 = some ((List.range 45927).map (fun i => .int (ro i))) := cx_rowv w130 c130
  have e130q : ∀ i : Nat, i < 45927 → ro0 i = ro i := cx_rowE (Option.some.inj (q130.symm.trans r130))
  have hRO2 := RO_E hg4 e44q e49q e67q e130q e124q (F4_E e6q e7q e8q e9q) hRO
  have eMM : ∀ i : Nat, i < 4 → mi i = mm i := fun i hi => (e44q i hi).symm.trans (e120q i hi)
  have hEd : cx_toI (m0 11) = cx_toI (m119 1) := by
    obtain ⟨v, q1, q2⟩ := hEQ.1.2.1 ((0, 11), (119, 1)) (List.mem_of_getElem? (i := 0) rfl)
    have q1 : rl_fld ws (0, 11) = some v := q1
    have q2 : rl_fld ws (119, 1) = some v := q2
    rw [cx_fldv w0 c0 (x := cx_toI (m0 11)) rfl rfl] at q1
    rw [cx_fldv w119 c119 (x := cx_toI (m119 1)) rfl rfl] at q2
    exact Value.int.inj (Option.some.inj (q1.trans q2.symm))
  have hcd : cdH cd := by
    unfold cdH
    rw [cdN_e]
    exact ex_rowK (g := cdNl) (n := 70) (by decide +kernel) u45.2
  have hsz : szH sz := by
    unfold szH
    rw [szN_e]
    exact ex_rowK (g := szNl) (n := 70) (by decide +kernel) u46.2
  have hsp : spH sp := by
    unfold spH
    rw [spN_e]
    exact ex_rowK (g := spNl) (n := 625) (by decide +kernel) u47.2
  have hth9 : ∀ s : Nat, s < 280 → (thx s).toInt = ((rThL.getD s 0 : Nat) : Int) := ex_rowK (g := fun s => rThL.getD s 0) (n := 280) (by decide +kernel) u48.2
  have hthH : thH thx := by
    unfold thH
    rw [cN_e]
    exact fun s b hs hb => hth9 (4 * s + b) (by omega)
  have hmi9 : miH mi := fun i hi => cx_U1o (u44 i hi)
  have hmm9 : ∀ b : Nat, b < 4 → 0 ≤ (mm b).toInt ∧ (mm b).toInt ≤ 40 := fun i hi => cx_U1o (u120 i hi)
  have hhB : ∀ k i : Nat, k < 4 → i < 16 → (0 : Int) ≤ (F4 hh0 hh1 hh2 hh3 k i).toInt ∧ (F4 hh0 hh1 hh2 hh3 k i).toInt ≤ 999 := fun k i hk hi => by
    rcases (show k = 0 ∨ k = 1 ∨ k = 2 ∨ k = 3 by omega) with rfl | rfl | rfl | rfl
    · exact cx_U1o (u6 i hi)
    · exact cx_U1o (u7 i hi)
    · exact cx_U1o (u8 i hi)
    · exact cx_U1o (u9 i hi)
  have hhdH : hdH (F4 hh0 hh1 hh2 hh3) := fun b u hb hu => hhB b u hb hu
  have hmhE : ∀ b u : Nat, b < 4 → u < 16 → (hm (16 * b + u)).toInt = (F4 hh0 hh1 hh2 hh3 b u).toInt := fun b u hb hu => by rw [hRO2.1 b u hb hu]
  have hgN : (cx_toI (m43 12)).toInt = (((cx_toI (m43 12)).toNatClampNeg : Nat) : Int) := hgk.symm
  have hgM : (cx_toI (m119 8)).toInt = (((cx_toI (m43 12)).toNatClampNeg : Nat) : Int) := by rw [hgm]; exact hgN
  have hplU : plU pl := fun j hj => by
    have h1 : ((-9 : Int) ≤ (pl j).toInt ∧ (pl j).toInt ≤ -9) ∨ ((0 : Int) ≤ (pl j).toInt ∧ (pl j).toInt ≤ 3) := cx_U2o (u67 j hj)
    omega
  have hlaU : ∀ i : Nat, i < 4 → 0 ≤ (la i).toInt ∧ (la i).toInt ≤ 5 := fun i hi => cx_U1o (u66 i hi)
  have hfo4 : ∀ i : Nat, i < 4 → 0 ≤ (fo4 i).toInt ∧ (fo4 i).toInt ≤ 8 := fun i hi => cx_U1o (u131 i hi)
  have hth4 : thU th4 := fun i hi => by
    have h1 : (-1 : Int) ≤ (th4 i).toInt ∧ (th4 i).toInt ≤ 8 := u132 i (Int.negSucc 0, Int.ofNat 8) (by
      rcases (show i = 0 ∨ i = 1 ∨ i = 2 ∨ i = 3 by omega) with rfl | rfl | rfl | rfl <;> rfl)
    exact h1
  have hso4 : thU so := fun i hi => cx_U1o (u133 i hi)
  have hab4 : abU ab := fun i hi => cx_U1o (u134 i hi)
  have hnbE : nbF mi = nbF mm := nbF_E eMM
  have hrM : rosM (nbF mm) (F4 hh0 hh1 hh2 hh3) (cx_toI (m43 12)).toNatClampNeg (cx_toI (m119 22)) (cx_toI (m119 23)) ro := by
    rw [← hnbE]
    exact hRO2.2.2.2.2
  have h21b : (0 : Int) ≤ (cx_toI (m119 21)).toInt ∧ (cx_toI (m119 21)).toInt ≤ 1 := hbd119.2.2.2.2.1
  obtain ⟨fs0, e0q, -⟩ := id c0
  subst e0q
  refine lx_x F0 hl (pc' := 691) (ab_tbo lto_10 _ _ _ (List.mem_of_getElem? (i := 0) rfl)) rfl ha0 ?_
  refine lx_arg F0 hiv hL hL2 hl (z := 1) (pc' := 697) rfl (ab_tbo lto_10 _ _ _ (List.mem_of_getElem? (i := 1) rfl)) (ab_tbo lto_10 _ _ _ (List.mem_of_getElem? (i := 2) rfl)) (ab_tbo lto_10 _ _ _ (List.mem_of_getElem? (i := 3) rfl)) (ab_tbo lto_10 _ _ _ (List.mem_of_getElem? (i := 4) rfl)) (ab_tbo lto_10 _ _ _ (List.mem_of_getElem? (i := 5) rfl)) rfl ?_
  refine lx_arg F0 hiv hL hL2 hl (z := 2) (pc' := 703) rfl (ab_tbo lto_10 _ _ _ (List.mem_of_getElem? (i := 6) rfl)) (ab_tbo lto_10 _ _ _ (List.mem_of_getElem? (i := 7) rfl)) (ab_tbo lto_10 _ _ _ (List.mem_of_getElem? (i := 8) rfl)) (ab_tbo lto_10 _ _ _ (List.mem_of_getElem? (i := 9) rfl)) (ab_tbo lto_10 _ _ _ (List.mem_of_getElem? (i := 10) rfl)) rfl ?_
  obtain ⟨d1, hd1, Ct1⟩ := ct_xro (g := (cx_toI (m43 12))) (fk := (cx_toI (m43 13))) (pf := (cx_toI (m43 14))) (pt := (cx_toI (m43 15))) (pr := (cx_toI (m43 16))) (mi := mi) (cd := cd) (sz := sz) (sp := sp) (th := thx) (fo := fo) (go := go) (la := la) (pl := pl) (R := (F7 R0 R1 R2 R3 R4 R5 R5)) (L := (F7 L0 L1 L2 L3 L4 L5 L6)) (hd := F4 hh0 hh1 hh2 hh3) (dy := cx_toI (m0 11)) (r := r1) (gN := (cx_toI (m43 12)).toNatClampNeg) (x := xs (i0 + 1)) (y := xs (i0 + 2)) hthH hcd hsz hsp hmi9 hhdH hgN hg4 hRO2.2.1 hRO2.2.2.1 hplU hlaU hRO2.2.2.2.1 l D cs tS ws [.ref a0, .int (xs (i0 + 1)), .int (xs (i0 + 2))] hX ⟨⟨a0, ha0, rfl⟩, rfl, rfl, trivial⟩
  refine lx_call F0 hcs hl (pc' := 706) (q := 138) (n := 2) (ci := 10) (As := [.int (xs (i0 + 1)), .int (xs (i0 + 2))]) (stk := []) (ab_tbo lto_10 _ _ _ (List.mem_of_getElem? (i := 11) rfl)) rfl rfl rfl w0 (by decide) ⟨d1, by omega, Ct1⟩ rfl (fun rv ws1 hp1 => ?_)
  obtain ⟨v, h1, ⟨z, rr, fk2, pf2, pt2, pr2, fo2, go2, la2, pl2, R2, L2, rfl, rfl, hfk, hfkT, h002, hfoU3, hpl2U, hla2U, hrx2, hdx⟩, hk1, hf1, hH1, hrv⟩ := hp1
  obtain rfl : rv = some (.int z) := by
    cases rv with
    | none => exact hrv.elim
    | some y => exact congrArg some hrv
  show ab_W p l e room_1 s m #[Value.ref b] below meth c D vwCl A Q cells slots 706 ls [.int z] ws1
  have hl1 := lx_Lc hl hf1.1
  have hM1 := cx_heap_far hM hf1 rfl
  have ha119b : (ws1.map (·.1))[119]? = some a119 := by rw [hf1.1]; exact ha119
  refine lx_m F0 hl1 (pc' := 707) (ab_tbo lto_10 _ _ _ (List.mem_of_getElem? (i := 12) rfl)) rfl ha119b ?_
  refine lx_arg F0 hiv hL hL2 hl1 (z := 1) (pc' := 713) rfl (ab_tbo lto_10 _ _ _ (List.mem_of_getElem? (i := 13) rfl)) (ab_tbo lto_10 _ _ _ (List.mem_of_getElem? (i := 14) rfl)) (ab_tbo lto_10 _ _ _ (List.mem_of_getElem? (i := 15) rfl)) (ab_tbo lto_10 _ _ _ (List.mem_of_getElem? (i := 16) rfl)) (ab_tbo lto_10 _ _ _ (List.mem_of_getElem? (i := 17) rfl)) rfl ?_
  refine lx_arg F0 hiv hL hL2 hl1 (z := 2) (pc' := 719) rfl (ab_tbo lto_10 _ _ _ (List.mem_of_getElem? (i := 18) rfl)) (ab_tbo lto_10 _ _ _ (List.mem_of_getElem? (i := 19) rfl)) (ab_tbo lto_10 _ _ _ (List.mem_of_getElem? (i := 20) rfl)) (ab_tbo lto_10 _ _ _ (List.mem_of_getElem? (i := 21) rfl)) (ab_tbo lto_10 _ _ _ (List.mem_of_getElem? (i := 22) rfl)) rfl ?_
  obtain ⟨a119c, e119c, w119c, c119c⟩ := hM1 119 _ rfl
  obtain ⟨fs119c, e119d, -⟩ := id c119c
  subst e119d
  have eadd : a119c = a119 := ab_ad_get ha119b w119c
  rw [eadd] at w119c
  obtain ⟨d2, hd2, Ct2⟩ := ct_mro (mi := fun i => cx_toI (m119 i)) (ml := fun i => cx_toL (m119 i)) (mm := mm) (mh := hm) (ro := ro) (fo4 := fo4) (th4 := th4) (so := so) (ab := ab) (r := r2) (hd := F4 hh0 hh1 hh2 hh3) (gN := (cx_toI (m43 12)).toNatClampNeg) (x := xs (i0 + 1)) (y := xs (i0 + 2)) hmm9 hmhE hhdH hgM hg4 hfo4 hth4 hso4 hab4 hrM l D cs tS ws1 [.ref a119, .int (xs (i0 + 1)), .int (xs (i0 + 2))] hM1 ⟨⟨a119, ha119b, rfl⟩, rfl, rfl, trivial⟩
  refine lx_call F0 hcs hl1 (pc' := 722) (q := 213) (n := 2) (ci := 11) (As := [.int (xs (i0 + 1)), .int (xs (i0 + 2))]) (stk := [.int z]) (ab_tbo lto_10 _ _ _ (List.mem_of_getElem? (i := 23) rfl)) rfl rfl rfl w119c (by first | decide | exact (by decide : (1 : Nat) ≤ 8)) ⟨d2, by omega, Ct2⟩ rfl (fun rv2 ws2 hp2 => ?_)
  obtain ⟨v2, h2, ⟨z2, mq2, rr2, ro2, fo6, th2, so2, ab2, rfl, rfl, ⟨hUfo, hUth, hUso, hUab⟩, hmq, hrm2, hdm⟩, hk2, hf2, hH2, hrv2⟩ := hp2
  obtain rfl : rv2 = some (.int z2) := by
    cases rv2 with
    | none => exact hrv2.elim
    | some y => exact congrArg some hrv2
  show ab_W p l e room_1 s m #[Value.ref b] below meth c D vwCl A Q cells slots 722 ls [.int z2, .int z] ws2
  have k0 : (Int32.ofInt 0).toInt = 0 := by decide +kernel
  have k1 : (Int32.ofInt 1).toInt = 1 := by decide +kernel
  have km1 : (Int32.ofInt (-1)).toInt = -1 := by decide +kernel
  have km9 : (Int32.ofInt (-9)).toInt = -9 := by decide +kernel
  rw [← hnbE] at hdm hrm2
  have hfin : z = z2 := rosA_E hdx hdm
  have hfk2 : (0 : Int) ≤ fk2.toInt ∧ fk2.toInt ≤ 1 := by
    rcases hfk with u | u <;> rw [u]
    · exact hbd43.2
    · omega
  have hb43n : obd_43 (upi (upi (upi (upi (fun i => cx_toI (m43 i)) 13 fk2) 14 pf2) 15 pt2) 16 pr2) := ⟨hgb, hfk2⟩
  obtain ⟨hmi4, h21⟩ := hmq
  have hq8 : ∀ i : Nat, (Nat.beq i 0 || (Nat.beq i 21 || (Nat.beq i 22 || Nat.beq i 23))) = false → cx_toI (m119 i) = mq2 i := fun i hi => (hmi4 i hi).symm
  have hmi := hq8
  have h21c : (0 : Int) ≤ (mq2 21).toInt ∧ (mq2 21).toInt ≤ 1 := by
    rcases h21 with u | u | u
    · rw [u]; exact h21b
    · omega
    · omega
  have hb119n : obd_119 mq2 := by
    obtain ⟨y8, y10, y11, y12, y21, y24, y27, y29, y31, y41, y42, y43, y44, y55, y61⟩ := hbd119
    exact ⟨by have e := hmi4 8 rfl; rw [e]; exact y8, by have e := hmi4 10 rfl; rw [e]; exact y10, by have e := hmi4 11 rfl; rw [e]; exact y11, by have e := hmi4 12 rfl; rw [e]; exact y12, h21c, by have e := hmi4 24 rfl; rw [e]; exact y24, by have e := hmi4 27 rfl; rw [e]; exact y27, by have e := hmi4 29 rfl; rw [e]; exact y29, by have e := hmi4 31 rfl; rw [e]; exact y31, by have e := hmi4 41 rfl; rw [e]; exact y41, by have e := hmi4 42 rfl; rw [e]; exact y42, by have e := hmi4 43 rfl; rw [e]; exact y43, by have e := hmi4 44 rfl; rw [e]; exact y44, by have e := hmi4 55 rfl; rw [e]; exact y55, by have e := hmi4 61 rfl; rw [e]; exact y61⟩
  have h8 : mq2 8 = cx_toI (m119 8) ∧ mq2 1 = cx_toI (m119 1) := ⟨hmi4 8 rfl, hmi4 1 rfl⟩
  have hU67 : ∀ i : Nat, i < 24 → ab_inU [(Int.negSucc 8, Int.negSucc 8), (Int.ofNat 0, Int.ofNat 3)] (pl2 i).toInt := fun i hi => by
    have h1 : ((-9 : Int) ≤ (pl2 i).toInt ∧ (pl2 i).toInt ≤ -9) ∨ ((0 : Int) ≤ (pl2 i).toInt ∧ (pl2 i).toInt ≤ 3) := by have := hpl2U i hi; omega
    exact cx_U2 h1
  have hE132 : [(Int.negSucc 0, Int.ofNat 8), (Int.negSucc 0, Int.ofNat 8), (Int.negSucc 0, Int.ofNat 8), (Int.negSucc 0, Int.ofNat 8)].length = 4 := rfl
  have hU132 : ∀ (i : Nat) (v : ab_Iv), [(Int.negSucc 0, Int.ofNat 8), (Int.negSucc 0, Int.ofNat 8), (Int.negSucc 0, Int.ofNat 8), (Int.negSucc 0, Int.ofNat 8)][i]? = some v → v.1 ≤ (th2 i).toInt ∧ (th2 i).toInt ≤ v.2 := fun i v hv => by
    have hi : i < 4 := (List.getElem?_eq_some_iff.mp hv).1
    have h2 : (-1 : Int) ≤ (th2 i).toInt ∧ (th2 i).toInt ≤ 8 := hUth i hi
    rcases (show i = 0 ∨ i = 1 ∨ i = 2 ∨ i = 3 by omega) with rfl | rfl | rfl | rfl <;> (have e : (Int.negSucc 0, Int.ofNat 8) = v := Option.some.inj hv; rw [← e]; exact h2)
  have hfo49 : ∀ i : Nat, i < 4900 → ab_inU [(Int.ofNat 0, Int.ofNat 1)] (fo2 i).toInt := fun i hi => by
    rcases hfoU3 with u | u
    · rw [u]; exact u49 i hi
    · have e : fo2 (70 * (i / 70) + i % 70) = b2R (cho (nbF mi) (cnL (cN (i / 70))) (cN (i % 70))) := u (i / 70) (i % 70) (by omega) (by omega)
      rw [show 70 * (i / 70) + i % 70 = i by omega] at e
      rw [e]
      refine cx_U1 ?_
      by_cases q : cho (nbF mi) (cnL (cN (i / 70))) (cN (i % 70))
      · rw [b2R_y q, k1]; exact ⟨by decide, by decide⟩
      · rw [b2R_n q, k0]; exact ⟨by decide, by decide⟩
  have hlen1 : ws1.length = 165 := by have := congrArg List.length hf1.1; simpa [hlen] using this
  have hlen2 : ws2.length = 165 := by have := congrArg List.length hf2.1; simpa [hlen1] using this
  have hth1 : ab_th tS (ab_tys cs) th ws1 := lx_done (fl := [3765, 3766, 3767, 3768]) hth hX hH1 ⟨⟨rfl, rfl, Or.inr rfl, Or.inr rfl, Or.inr rfl, Or.inr rfl, Or.inr rfl, Or.inr rfl, Or.inr rfl, Or.inr rfl, Or.inr rfl, Or.inr rfl, Or.inr rfl, Or.inr rfl, trivial⟩, ⟨rfl, trivial⟩, ⟨rfl, rfl, Or.inr rfl, Or.inr rfl, Or.inr rfl, Or.inr rfl, Or.inr rfl, Or.inr rfl, Or.inr rfl, Or.inr rfl, Or.inr rfl, Or.inr rfl, Or.inr rfl, Or.inr rfl, Or.inr rfl, Or.inl rfl, Or.inl rfl, Or.inl rfl, Or.inl rfl, trivial⟩, ⟨rfl, trivial⟩, ⟨rfl, trivial⟩, ⟨rfl, trivial⟩, ⟨rfl, trivial⟩, ⟨rfl, trivial⟩, ⟨rfl, trivial⟩, ⟨rfl, trivial⟩, ⟨rfl, trivial⟩, ⟨rfl, trivial⟩, ⟨rfl, trivial⟩, ⟨rfl, trivial⟩, ⟨rfl, trivial⟩, ⟨rfl, trivial⟩, ⟨rfl, trivial⟩, ⟨rfl, trivial⟩, ⟨rfl, trivial⟩, ⟨rfl, trivial⟩, ⟨rfl, trivial⟩, ⟨rfl, trivial⟩, ⟨rfl, trivial⟩, ⟨rfl, trivial⟩, ⟨rfl, trivial⟩, ⟨rfl, trivial⟩, ⟨rfl, trivial⟩, ⟨rfl, rfl, Or.inr rfl, Or.inr rfl, Or.inr rfl, Or.inr rfl, trivial⟩, ⟨rfl, trivial⟩, ⟨rfl, trivial⟩, ⟨rfl, trivial⟩, ⟨rfl, trivial⟩, ⟨rfl, trivial⟩, trivial⟩ hf1 (po := [(0, ci_0), (1, ci_1), (43, ci_43), (44, ci_44), (45, ci_45), (46, ci_46), (47, ci_47), (48, ci_48), (49, ci_49), (50, ci_50), (51, ci_51), (52, ci_52), (53, ci_53), (54, ci_54), (55, ci_55), (56, ci_56), (57, ci_57), (58, ci_58), (59, ci_59), (60, ci_60), (61, ci_61), (62, ci_62), (63, ci_63), (64, ci_64), (65, ci_65), (66, ci_66), (67, ci_67), (2, ci_2), (5, ci_5), (6, ci_6), (7, ci_7), (8, ci_8), (9, ci_9)]) (List.forall_mem_cons.mpr ⟨lx_po hH1 rfl (fun e2 q => cx_to_obj (N := 12) q rfl (otl_0 (mi := fun _ => cx_toI (m0 11)))), (List.forall_mem_cons.mpr ⟨lx_po hH1 rfl (fun e2 q => cx_to_row q cx_anyU), (List.forall_mem_cons.mpr ⟨lx_po hH1 rfl (fun e2 q => cx_to_obj (N := 17) q rfl (otl_43 (mi := upi (upi (upi (upi (fun i => cx_toI (m43 i)) 13 fk2) 14 pf2) 15 pt2) 16 pr2) hb43n)), (List.forall_mem_cons.mpr ⟨lx_po hH1 rfl (fun e2 q => cx_to_row q u44), (List.forall_mem_cons.mpr ⟨lx_po hH1 rfl (fun e2 q => cx_to_rowK q u45), (List.forall_mem_cons.mpr ⟨lx_po hH1 rfl (fun e2 q => cx_to_rowK q u46), (List.forall_mem_cons.mpr ⟨lx_po hH1 rfl (fun e2 q => cx_to_rowK q u47), (List.forall_mem_cons.mpr ⟨lx_po hH1 rfl (fun e2 q => cx_to_rowK q u48), (List.forall_mem_cons.mpr ⟨lx_po hH1 rfl (fun e2 q => cx_to_row q hfo49), (List.forall_mem_cons.mpr ⟨lx_po hH1 rfl (fun e2 q => cx_to_rows q), (List.forall_mem_cons.mpr ⟨lx_po hH1 rfl (fun e2 q => cx_to_row q cx_anyU), (List.forall_mem_cons.mpr ⟨lx_po hH1 rfl (fun e2 q => cx_to_row q cx_anyU), (List.forall_mem_cons.mpr ⟨lx_po hH1 rfl (fun e2 q => cx_to_row q cx_anyU), (List.forall_mem_cons.mpr ⟨lx_po hH1 rfl (fun e2 q => cx_to_row q cx_anyU), (List.forall_mem_cons.mpr ⟨lx_po hH1 rfl (fun e2 q => cx_to_row q cx_anyU), (List.forall_mem_cons.mpr ⟨lx_po hH1 rfl (fun e2 q => cx_to_row q cx_anyU), (List.forall_mem_cons.mpr ⟨lx_po hH1 rfl (fun e2 q => cx_to_row q cx_anyU), (List.forall_mem_cons.mpr ⟨lx_po hH1 rfl (fun e2 q => cx_to_rows q), (List.forall_mem_cons.mpr ⟨lx_po hH1 rfl (fun e2 q => cx_to_row q cx_anyU), (List.forall_mem_cons.mpr ⟨lx_po hH1 rfl (fun e2 q => cx_to_row q cx_anyU), (List.forall_mem_cons.mpr ⟨lx_po hH1 rfl (fun e2 q => cx_to_row q cx_anyU), (List.forall_mem_cons.mpr ⟨lx_po hH1 rfl (fun e2 q => cx_to_row q cx_anyU), (List.forall_mem_cons.mpr ⟨lx_po hH1 rfl (fun e2 q => cx_to_row q cx_anyU), (List.forall_mem_cons.mpr ⟨lx_po hH1 rfl (fun e2 q => cx_to_row q cx_anyU), (List.forall_mem_cons.mpr ⟨lx_po hH1 rfl (fun e2 q => cx_to_row q cx_anyU), (List.forall_mem_cons.mpr ⟨lx_po hH1 rfl (fun e2 q => cx_to_row (U := [(.ofNat 0, .ofNat 5)]) q (fun i hi => cx_U1 (hla2U i hi))), (List.forall_mem_cons.mpr ⟨lx_po hH1 rfl (fun e2 q => cx_to_row q hU67), (List.forall_mem_cons.mpr ⟨lx_po hH1 rfl (fun e2 q => cx_to_obj (N := 4) q rfl (otl_2 (mi := fun _ => 0))), (List.forall_mem_cons.mpr ⟨lx_po hH1 rfl (fun e2 q => cx_to_rows q), (List.forall_mem_cons.mpr ⟨lx_po hH1 rfl (fun e2 q => cx_to_row q u6), (List.forall_mem_cons.mpr ⟨lx_po hH1 rfl (fun e2 q => cx_to_row q u7), (List.forall_mem_cons.mpr ⟨lx_po hH1 rfl (fun e2 q => cx_to_row q u8), (List.forall_mem_cons.mpr ⟨lx_po hH1 rfl (fun e2 q => cx_to_row q u9), (fun _ h => absurd h List.not_mem_nil)⟩)⟩)⟩)⟩)⟩)⟩)⟩)⟩)⟩)⟩)⟩)⟩)⟩)⟩)⟩)⟩)⟩)⟩)⟩)⟩)⟩)⟩)⟩)⟩)⟩)⟩)⟩)⟩)⟩)⟩)⟩)⟩)⟩) (List.all_eq_true.mp tk10x th hmem)
  have hth2 : ab_th tS (ab_tys cs) th ws2 := lx_done (fl := [8616, 8637, 8638, 8639]) hth1 hM1 hH2 ⟨⟨rfl, rfl, Or.inl rfl, Or.inr (congrArg (fun u => (.inl (.int u) : cx_V)) (hmi 1 rfl)), Or.inr rfl, Or.inr rfl, Or.inr rfl, Or.inr rfl, Or.inr rfl, Or.inr rfl, Or.inr (congrArg (fun u => (.inl (.int u) : cx_V)) (hmi 8 rfl)), Or.inr rfl, Or.inr (congrArg (fun u => (.inl (.int u) : cx_V)) (hmi 10 rfl)), Or.inr (congrArg (fun u => (.inl (.int u) : cx_V)) (hmi 11 rfl)), Or.inr (congrArg (fun u => (.inl (.int u) : cx_V)) (hmi 12 rfl)), Or.inr rfl, Or.inr rfl, Or.inr rfl, Or.inr rfl, Or.inr rfl, Or.inr rfl, Or.inr rfl, Or.inr rfl, Or.inl rfl, Or.inl rfl, Or.inl rfl, Or.inr (congrArg (fun u => (.inl (.int u) : cx_V)) (hmi 24 rfl)), Or.inr rfl, Or.inr (congrArg (fun u => (.inl (.int u) : cx_V)) (hmi 26 rfl)), Or.inr (congrArg (fun u => (.inl (.int u) : cx_V)) (hmi 27 rfl)), Or.inr rfl, Or.inr (congrArg (fun u => (.inl (.int u) : cx_V)) (hmi 29 rfl)), Or.inr (congrArg (fun u => (.inl (.int u) : cx_V)) (hmi 30 rfl)), Or.inr (congrArg (fun u => (.inl (.int u) : cx_V)) (hmi 31 rfl)), Or.inr rfl, Or.inr rfl, Or.inr rfl, Or.inr rfl, Or.inr rfl, Or.inr rfl, Or.inr rfl, Or.inr rfl, Or.inr rfl, Or.inr (congrArg (fun u => (.inl (.int u) : cx_V)) (hmi 41 rfl)), Or.inr (congrArg (fun u => (.inl (.int u) : cx_V)) (hmi 42 rfl)), Or.inr (congrArg (fun u => (.inl (.int u) : cx_V)) (hmi 43 rfl)), Or.inr (congrArg (fun u => (.inl (.int u) : cx_V)) (hmi 44 rfl)), Or.inr (congrArg (fun u => (.inl (.int u) : cx_V)) (hmi 45 rfl)), Or.inr rfl, Or.inr rfl, Or.inr rfl, Or.inr rfl, Or.inr rfl, Or.inr rfl, Or.inr rfl, Or.inr rfl, Or.inr rfl, Or.inr (congrArg (fun u => (.inl (.int u) : cx_V)) (hmi 55 rfl)), Or.inr rfl, Or.inr rfl, Or.inr rfl, Or.inr rfl, Or.inr rfl, Or.inr (congrArg (fun u => (.inl (.int u) : cx_V)) (hmi 61 rfl)), Or.inr rfl, Or.inr rfl, Or.inr rfl, Or.inr rfl, Or.inr rfl, Or.inr rfl, trivial⟩, ⟨rfl, trivial⟩, ⟨rfl, trivial⟩, ⟨rfl, trivial⟩, ⟨rfl, trivial⟩, ⟨rfl, trivial⟩, ⟨rfl, trivial⟩, ⟨rfl, trivial⟩, ⟨rfl, trivial⟩, trivial⟩ hf2 (po := [(119, ci_119), (126, ci_126), (120, ci_120), (124, ci_124), (130, ci_130), (131, ci_131), (132, ci_132), (133, ci_133), (134, ci_134)]) (List.forall_mem_cons.mpr ⟨lx_po hH2 rfl (fun e2 q => cx_to_obj (N := 68) q rfl (otl_119 (mi := mq2) hb119n)), (List.forall_mem_cons.mpr ⟨lx_po hH2 rfl (fun e2 q => cx_to_row q cx_anyU), (List.forall_mem_cons.mpr ⟨lx_po hH2 rfl (fun e2 q => cx_to_row q u120), (List.forall_mem_cons.mpr ⟨lx_po hH2 rfl (fun e2 q => cx_to_row q u124), (List.forall_mem_cons.mpr ⟨lx_po hH2 rfl (fun e2 q => cx_to_row q cx_anyU), (List.forall_mem_cons.mpr ⟨lx_po hH2 rfl (fun e2 q => cx_to_row (U := [(.ofNat 0, .ofNat 8)]) q (fun i hi => cx_U1 (hUfo i hi))), (List.forall_mem_cons.mpr ⟨lx_po hH2 rfl (fun e2 q => cx_to_rowE q hE132 hU132), (List.forall_mem_cons.mpr ⟨lx_po hH2 rfl (fun e2 q => cx_to_row (U := [(.negSucc 0, .ofNat 8)]) q (fun i hi => cx_U1 (hUso i hi))), (List.forall_mem_cons.mpr ⟨lx_po hH2 rfl (fun e2 q => cx_to_row (U := [(.ofNat 0, .ofNat 4)]) q (fun i hi => cx_U1 (hUab i hi))), (fun _ h => absurd h List.not_mem_nil)⟩)⟩)⟩)⟩)⟩)⟩)⟩)⟩)⟩) (List.all_eq_true.mp tk10m th hmem)
  refine lx_eq F0 (pc' := 1810) (ab_tbo lto_10 _ _ _ (List.mem_of_getElem? (i := 24) rfl)) rfl hfin ?_
  have hX2 := cx_heap_far hH1 hf2 rfl
  refine K ls ws2 (lx_Lc hl1 hf2.1) ⟨th, hmem, hth2⟩ ?_ hlen2
  refine ⟨⟨fun q h => absurd h List.not_mem_nil, List.forall_mem_cons.mpr ⟨?_, fun q h => absurd h List.not_mem_nil⟩, fun q h => absurd h List.not_mem_nil⟩, mi, fo2, pl2, hh0, hh1, hh2, hh3, hm, ro2, (cx_toI (m43 12)), fk2, pf2, pt2, pr2, mq2 22, mq2 23, ?_, ?_, ?_, ?_, ?_, ?_, ?_, ?_, ?_, ?_, ?_, ?_, ?_, ?_, ?_, ?_, ?_, ?_, ?_⟩
  · obtain ⟨ax, ex, wx, cx⟩ := hX2 0 _ rfl
    obtain ⟨ay, ey, wy, cy⟩ := hH2 119 _ rfl
    exact ⟨_, cx_fldv wx cx (x := cx_toI (m0 11)) rfl rfl, (cx_fldv wy cy (x := mq2 1) rfl rfl).trans (by rw [h8.2, hEd])⟩
  · obtain ⟨ag, eg, wg, cg⟩ := hX2 44 _ rfl
    exact (cx_rowv wg cg)
  · obtain ⟨ag, eg, wg, cg⟩ := hX2 49 _ rfl
    exact (cx_rowv wg cg)
  · obtain ⟨ag, eg, wg, cg⟩ := hX2 67 _ rfl
    exact (cx_rowv wg cg)
  · obtain ⟨ag, eg, wg, cg⟩ := hX2 6 _ rfl
    exact (cx_rowv wg cg)
  · obtain ⟨ag, eg, wg, cg⟩ := hX2 7 _ rfl
    exact (cx_rowv wg cg)
  · obtain ⟨ag, eg, wg, cg⟩ := hX2 8 _ rfl
    exact (cx_rowv wg cg)
  · obtain ⟨ag, eg, wg, cg⟩ := hX2 9 _ rfl
    exact (cx_rowv wg cg)
  · obtain ⟨ag, eg, wg, cg⟩ := hH2 120 _ rfl
    exact (cx_rowv wg cg).trans (congrArg some (cx_rowM (fun i hi => (eMM i hi).symm)))
  · obtain ⟨ag, eg, wg, cg⟩ := hH2 124 _ rfl
    exact (cx_rowv wg cg)
  · obtain ⟨ag, eg, wg, cg⟩ := hH2 130 _ rfl
    exact (cx_rowv wg cg)
  · obtain ⟨ag, eg, wg, cg⟩ := hX2 43 _ rfl
    exact cx_fldv wg cg (x := (cx_toI (m43 12))) rfl rfl
  · obtain ⟨ag, eg, wg, cg⟩ := hX2 43 _ rfl
    exact cx_fldv wg cg (x := fk2) rfl rfl
  · obtain ⟨ag, eg, wg, cg⟩ := hX2 43 _ rfl
    exact cx_fldv wg cg (x := pf2) rfl rfl
  · obtain ⟨ag, eg, wg, cg⟩ := hX2 43 _ rfl
    exact cx_fldv wg cg (x := pt2) rfl rfl
  · obtain ⟨ag, eg, wg, cg⟩ := hX2 43 _ rfl
    exact cx_fldv wg cg (x := pr2) rfl rfl
  · obtain ⟨ag, eg, wg, cg⟩ := hH2 119 _ rfl
    exact (cx_fldv wg cg (x := mq2 8) rfl rfl).trans (by rw [h8.1, hgm])
  · obtain ⟨ag, eg, wg, cg⟩ := hH2 119 _ rfl
    exact (cx_fldv wg cg (x := mq2 22) rfl rfl)
  · obtain ⟨ag, eg, wg, cg⟩ := hH2 119 _ rfl
    exact (cx_fldv wg cg (x := mq2 23) rfl rfl)
  · refine ⟨fun b y hb hy => hRO2.1 b y hb hy, hfkT, h002, hrx2, ?_⟩
    exact hrm2
theorem tk11a : lw_THs.all (fun th => tr_3 th [(0, ci_0), (1, ci_1), (43, ci_43), (44, ci_44), (45, ci_45), (46, ci_46), (47, ci_47), (48, ci_48), (49, ci_49), (50, ci_50), (51, ci_51), (52, ci_52), (53, ci_53), (54, ci_54), (55, ci_55), (56, ci_56), (57, ci_57), (58, ci_58), (59, ci_59), (60, ci_60), (61, ci_61), (62, ci_62), (63, ci_63), (64, ci_64), (65, ci_65), (66, ci_66), (67, ci_67), (2, ci_2), (5, ci_5), (6, ci_6), (7, ci_7), (8, ci_8), (9, ci_9), (119, ci_119), (126, ci_126), (120, ci_120), (124, ci_124), (130, ci_130), (131, ci_131), (132, ci_132), (133, ci_133), (134, ci_134)]) = true := by decide +kernel
theorem tk11x : lw_THs.all (fun th => th.all (tr_1 (cx_M [0, 1, 43, 44, 45, 46, 47, 48, 49, 50, 51, 52, 53, 54, 55, 56, 57, 58, 59, 60, 61, 62, 63, 64, 65, 66, 67, 2, 5, 6, 7, 8, 9] [3765, 3766, 3767, 3768]) th [(0, ci_0), (1, ci_1), (43, ci_43), (44, ci_44), (45, ci_45), (46, ci_46), (47, ci_47), (48, ci_48), (49, ci_49), (50, ci_50), (51, ci_51), (52, ci_52), (53, ci_53), (54, ci_54), (55, ci_55), (56, ci_56), (57, ci_57), (58, ci_58), (59, ci_59), (60, ci_60), (61, ci_61), (62, ci_62), (63, ci_63), (64, ci_64), (65, ci_65), (66, ci_66), (67, ci_67), (2, ci_2), (5, ci_5), (6, ci_6), (7, ci_7), (8, ci_8), (9, ci_9)])) = true := by decide +kernel
theorem tk11m : lw_THs.all (fun th => th.all (tr_1 (cx_M [119, 126, 120, 124, 130, 131, 132, 133, 134] [8616, 8637, 8638, 8639]) th [(119, ci_119), (126, ci_126), (120, ci_120), (124, ci_124), (130, ci_130), (131, ci_131), (132, ci_132), (133, ci_133), (134, ci_134)])) = true := by decide +kernel
theorem tz_11 : ∀ th ∈ lw_THs, lw_TQ 727 th := by
  intro th hmem p l e s m below meth c D A Q cs tS b L i0 cells slots xs iv ws ls F0 hcs hiv hL hL2 hl hth hEQ hlen K
  have h3 := tr_3_ok (List.all_eq_true.mp tk11a th hmem) hth
  obtain ⟨a0, e0, w0, t0⟩ := h3 _ (List.mem_of_getElem? (i := 0) rfl)
  obtain ⟨a1, e1, w1, t1⟩ := h3 _ (List.mem_of_getElem? (i := 1) rfl)
  obtain ⟨a43, e43, w43, t43⟩ := h3 _ (List.mem_of_getElem? (i := 2) rfl)
  obtain ⟨a44, e44, w44, t44⟩ := h3 _ (List.mem_of_getElem? (i := 3) rfl)
  obtain ⟨a45, e45, w45, t45⟩ := h3 _ (List.mem_of_getElem? (i := 4) rfl)
  obtain ⟨a46, e46, w46, t46⟩ := h3 _ (List.mem_of_getElem? (i := 5) rfl)
  obtain ⟨a47, e47, w47, t47⟩ := h3 _ (List.mem_of_getElem? (i := 6) rfl)
  obtain ⟨a48, e48, w48, t48⟩ := h3 _ (List.mem_of_getElem? (i := 7) rfl)
  obtain ⟨a49, e49, w49, t49⟩ := h3 _ (List.mem_of_getElem? (i := 8) rfl)
  obtain ⟨a50, e50, w50, t50⟩ := h3 _ (List.mem_of_getElem? (i := 9) rfl)
  obtain ⟨a51, e51, w51, t51⟩ := h3 _ (List.mem_of_getElem? (i := 10) rfl)
  obtain ⟨a52, e52, w52, t52⟩ := h3 _ (List.mem_of_getElem? (i := 11) rfl)
  obtain ⟨a53, e53, w53, t53⟩ := h3 _ (List.mem_of_getElem? (i := 12) rfl)
  obtain ⟨a54, e54, w54, t54⟩ := h3 _ (List.mem_of_getElem? (i := 13) rfl)
  obtain ⟨a55, e55, w55, t55⟩ := h3 _ (List.mem_of_getElem? (i := 14) rfl)
  obtain ⟨a56, e56, w56, t56⟩ := h3 _ (List.mem_of_getElem? (i := 15) rfl)
  obtain ⟨a57, e57, w57, t57⟩ := h3 _ (List.mem_of_getElem? (i := 16) rfl)
  obtain ⟨a58, e58, w58, t58⟩ := h3 _ (List.mem_of_getElem? (i := 17) rfl)
  obtain ⟨a59, e59, w59, t59⟩ := h3 _ (List.mem_of_getElem? (i := 18) rfl)
  obtain ⟨a60, e60, w60, t60⟩ := h3 _ (List.mem_of_getElem? (i := 19) rfl)
  obtain ⟨a61, e61, w61, t61⟩ := h3 _ (List.mem_of_getElem? (i := 20) rfl)
  obtain ⟨a62, e62, w62, t62⟩ := h3 _ (List.mem_of_getElem? (i := 21) rfl)
  obtain ⟨a63, e63, w63, t63⟩ := h3 _ (List.mem_of_getElem? (i := 22) rfl)
  obtain ⟨a64, e64, w64, t64⟩ := h3 _ (List.mem_of_getElem? (i := 23) rfl)
  obtain ⟨a65, e65, w65, t65⟩ := h3 _ (List.mem_of_getElem? (i := 24) rfl)
  obtain ⟨a66, e66, w66, t66⟩ := h3 _ (List.mem_of_getElem? (i := 25) rfl)
  obtain ⟨a67, e67, w67, t67⟩ := h3 _ (List.mem_of_getElem? (i := 26) rfl)
  obtain ⟨a2, e2, w2, t2⟩ := h3 _ (List.mem_of_getElem? (i := 27) rfl)
  obtain ⟨a5, e5, w5, t5⟩ := h3 _ (List.mem_of_getElem? (i := 28) rfl)
  obtain ⟨a6, e6, w6, t6⟩ := h3 _ (List.mem_of_getElem? (i := 29) rfl)
  obtain ⟨a7, e7, w7, t7⟩ := h3 _ (List.mem_of_getElem? (i := 30) rfl)
  obtain ⟨a8, e8, w8, t8⟩ := h3 _ (List.mem_of_getElem? (i := 31) rfl)
  obtain ⟨a9, e9, w9, t9⟩ := h3 _ (List.mem_of_getElem? (i := 32) rfl)
  obtain ⟨a119, e119, w119, t119⟩ := h3 _ (List.mem_of_getElem? (i := 33) rfl)
  obtain ⟨a126, e126, w126, t126⟩ := h3 _ (List.mem_of_getElem? (i := 34) rfl)
  obtain ⟨a120, e120, w120, t120⟩ := h3 _ (List.mem_of_getElem? (i := 35) rfl)
  obtain ⟨a124, e124, w124, t124⟩ := h3 _ (List.mem_of_getElem? (i := 36) rfl)
  obtain ⟨a130, e130, w130, t130⟩ := h3 _ (List.mem_of_getElem? (i := 37) rfl)
  obtain ⟨a131, e131, w131, t131⟩ := h3 _ (List.mem_of_getElem? (i := 38) rfl)
  obtain ⟨a132, e132, w132, t132⟩ := h3 _ (List.mem_of_getElem? (i := 39) rfl)
  obtain ⟨a133, e133, w133, t133⟩ := h3 _ (List.mem_of_getElem? (i := 40) rfl)
  obtain ⟨a134, e134, w134, t134⟩ := h3 _ (List.mem_of_getElem? (i := 41) rfl)
  obtain ⟨m0, c0, b0⟩ := cx_of_obj (ci := 10) (N := 12) (tvs := ots_0) t0
  obtain ⟨r1, c1, u1⟩ := cx_of_row (t := 0) (N := 7) (Or.inl rfl) t1
  obtain ⟨m43, c43, b43⟩ := cx_of_obj (ci := 4) (N := 17) (tvs := ots_43) t43
  have hbd43 := obd_43_of b43
  obtain ⟨mi, c44, u44⟩ := cx_of_row (t := 0) (N := 4) (Or.inl rfl) t44
  obtain ⟨cd, c45, u45⟩ := cx_of_rowK (N := 70) t45
  obtain ⟨sz, c46, u46⟩ := cx_of_rowK (N := 70) t46
  obtain ⟨sp, c47, u47⟩ := cx_of_rowK (N := 625) t47
  obtain ⟨thx, c48, u48⟩ := cx_of_rowK (N := 280) t48
  obtain ⟨fo, c49, u49⟩ := cx_of_row (t := 2) (N := 4900) (Or.inr rfl) t49
  have c50 := cx_of_rows (t := 3) (N := 6) (ks := [51, 52, 53, 54, 55, 56]) (Or.inl rfl) t50
  obtain ⟨R0, c51, u51⟩ := cx_of_row (t := 0) (N := 70) (Or.inl rfl) t51
  obtain ⟨R1, c52, u52⟩ := cx_of_row (t := 0) (N := 70) (Or.inl rfl) t52
  obtain ⟨R2, c53, u53⟩ := cx_of_row (t := 0) (N := 70) (Or.inl rfl) t53
  obtain ⟨R3, c54, u54⟩ := cx_of_row (t := 0) (N := 70) (Or.inl rfl) t54
  obtain ⟨R4, c55, u55⟩ := cx_of_row (t := 0) (N := 70) (Or.inl rfl) t55
  obtain ⟨R5, c56, u56⟩ := cx_of_row (t := 0) (N := 70) (Or.inl rfl) t56
  obtain ⟨go, c57, u57⟩ := cx_of_row (t := 0) (N := 350) (Or.inl rfl) t57
  have c58 := cx_of_rows (t := 3) (N := 7) (ks := [59, 60, 61, 62, 63, 64, 65]) (Or.inl rfl) t58
  obtain ⟨L0, c59, u59⟩ := cx_of_row (t := 0) (N := 350) (Or.inl rfl) t59
  obtain ⟨L1, c60, u60⟩ := cx_of_row (t := 0) (N := 350) (Or.inl rfl) t60
  obtain ⟨L2, c61, u61⟩ := cx_of_row (t := 0) (N := 350) (Or.inl rfl) t61
  obtain ⟨L3, c62, u62⟩ := cx_of_row (t := 0) (N := 350) (Or.inl rfl) t62
  obtain ⟨L4, c63, u63⟩ := cx_of_row (t := 0) (N := 350) (Or.inl rfl) t63
  obtain ⟨L5, c64, u64⟩ := cx_of_row (t := 0) (N := 350) (Or.inl rfl) t64
  obtain ⟨L6, c65, u65⟩ := cx_of_row (t := 0) (N := 350) (Or.inl rfl) t65
  obtain ⟨la, c66, u66⟩ := cx_of_row (t := 0) (N := 4) (Or.inl rfl) t66
  obtain ⟨pl, c67, u67⟩ := cx_of_row (t := 0) (N := 24) (Or.inl rfl) t67
  obtain ⟨m2, c2, b2⟩ := cx_of_obj (ci := 8) (N := 4) (tvs := ots_2) t2
  have c5 := cx_of_rows (t := 3) (N := 4) (ks := [6, 7, 8, 9]) (Or.inl rfl) t5
  obtain ⟨hh0, c6, u6⟩ := cx_of_row (t := 0) (N := 16) (Or.inl rfl) t6
  obtain ⟨hh1, c7, u7⟩ := cx_of_row (t := 0) (N := 16) (Or.inl rfl) t7
  obtain ⟨hh2, c8, u8⟩ := cx_of_row (t := 0) (N := 16) (Or.inl rfl) t8
  obtain ⟨hh3, c9, u9⟩ := cx_of_row (t := 0) (N := 16) (Or.inl rfl) t9
  obtain ⟨m119, c119, b119⟩ := cx_of_obj (ci := 11) (N := 68) (tvs := ots_119) t119
  have hbd119 := obd_119_of b119
  obtain ⟨r2, c126, u126⟩ := cx_of_row (t := 0) (N := 7) (Or.inl rfl) t126
  obtain ⟨mm, c120, u120⟩ := cx_of_row (t := 0) (N := 4) (Or.inl rfl) t120
  obtain ⟨hm, c124, u124⟩ := cx_of_row (t := 0) (N := 64) (Or.inl rfl) t124
  obtain ⟨ro, c130, u130⟩ := cx_of_row (t := 0) (N := 45927) (Or.inl rfl) t130
  obtain ⟨fo4, c131, u131⟩ := cx_of_row (t := 0) (N := 4) (Or.inl rfl) t131
  obtain ⟨th4, c132, u132⟩ := cx_of_rowE (N := 4) (Or.inl rfl) t132
  obtain ⟨so, c133, u133⟩ := cx_of_row (t := 0) (N := 4) (Or.inl rfl) t133
  obtain ⟨ab, c134, u134⟩ := cx_of_row (t := 0) (N := 5) (Or.inl rfl) t134
  have hX : cx_heap tS cs ([(0, .inl (10, vs_0 (cx_toI (m0 11)))), (1, .inr (.inl (0, 7, r1))), (43, .inl (4, vs_43 (fun i => cx_toI (m43 i)))), (44, .inr (.inl (0, 4, mi))), (45, .inr (.inl (0, 70, cd))), (46, .inr (.inl (0, 70, sz))), (47, .inr (.inl (0, 625, sp))), (48, .inr (.inl (0, 280, thx))), (49, .inr (.inl (2, 4900, fo))), (50, .inr (.inr (.inr (3, [51, 52, 53, 54, 55, 56])))), (51, .inr (.inl (0, 70, (F7 R0 R1 R2 R3 R4 R5 R5) 0))), (52, .inr (.inl (0, 70, (F7 R0 R1 R2 R3 R4 R5 R5) 1))), (53, .inr (.inl (0, 70, (F7 R0 R1 R2 R3 R4 R5 R5) 2))), (54, .inr (.inl (0, 70, (F7 R0 R1 R2 R3 R4 R5 R5) 3))), (55, .inr (.inl (0, 70, (F7 R0 R1 R2 R3 R4 R5 R5) 4))), (56, .inr (.inl (0, 70, (F7 R0 R1 R2 R3 R4 R5 R5) 5))), (57, .inr (.inl (0, 350, go))), (58, .inr (.inr (.inr (3, [59, 60, 61, 62, 63, 64, 65])))), (59, .inr (.inl (0, 350, (F7 L0 L1 L2 L3 L4 L5 L6) 0))), (60, .inr (.inl (0, 350, (F7 L0 L1 L2 L3 L4 L5 L6) 1))), (61, .inr (.inl (0, 350, (F7 L0 L1 L2 L3 L4 L5 L6) 2))), (62, .inr (.inl (0, 350, (F7 L0 L1 L2 L3 L4 L5 L6) 3))), (63, .inr (.inl (0, 350, (F7 L0 L1 L2 L3 L4 L5 L6) 4))), (64, .inr (.inl (0, 350, (F7 L0 L1 L2 L3 L4 L5 L6) 5))), (65, .inr (.inl (0, 350, (F7 L0 L1 L2 L3 L4 L5 L6) 6))), (66, .inr (.inl (0, 4, la))), (67, .inr (.inl (0, 24, pl))), (2, .inl (8, [.inr (.inl 3), .inr (.inl 4), .inr (.inl 5), .inr (.inl 10)])), (5, .inr (.inr (.inr (3, [6, 7, 8, 9])))), (6, .inr (.inl (0, 16, (F4 hh0 hh1 hh2 hh3) 0))), (7, .inr (.inl (0, 16, (F4 hh0 hh1 hh2 hh3) 1))), (8, .inr (.inl (0, 16, (F4 hh0 hh1 hh2 hh3) 2))), (9, .inr (.inl (0, 16, (F4 hh0 hh1 hh2 hh3) 3)))]) ws := cx_heap_of (List.forall_mem_cons.mpr ⟨⟨a0, e0, w0, c0⟩, (List.forall_mem_cons.mpr ⟨⟨a1, e1, w1, c1⟩, (List.forall_mem_cons.mpr ⟨⟨a43, e43, w43, c43⟩, (List.forall_mem_cons.mpr ⟨⟨a44, e44, w44, c44⟩, (List.forall_mem_cons.mpr ⟨⟨a45, e45, w45, c45⟩, (List.forall_mem_cons.mpr ⟨⟨a46, e46, w46, c46⟩, (List.forall_mem_cons.mpr ⟨⟨a47, e47, w47, c47⟩, (List.forall_mem_cons.mpr ⟨⟨a48, e48, w48, c48⟩, (List.forall_mem_cons.mpr ⟨⟨a49, e49, w49, c49⟩, (List.forall_mem_cons.mpr ⟨⟨a50, e50, w50, c50⟩, (List.forall_mem_cons.mpr ⟨⟨a51, e51, w51, c51⟩, (List.forall_mem_cons.mpr ⟨⟨a52, e52, w52, c52⟩, (List.forall_mem_cons.mpr ⟨⟨a53, e53, w53, c53⟩, (List.forall_mem_cons.mpr ⟨⟨a54, e54, w54, c54⟩, (List.forall_mem_cons.mpr ⟨⟨a55, e55, w55, c55⟩, (List.forall_mem_cons.mpr ⟨⟨a56, e56, w56, c56⟩, (List.forall_mem_cons.mpr ⟨⟨a57, e57, w57, c57⟩, (List.forall_mem_cons.mpr ⟨⟨a58, e58, w58, c58⟩, (List.forall_mem_cons.mpr ⟨⟨a59, e59, w59, c59⟩, (List.forall_mem_cons.mpr ⟨⟨a60, e60, w60, c60⟩, (List.forall_mem_cons.mpr ⟨⟨a61, e61, w61, c61⟩, (List.forall_mem_cons.mpr ⟨⟨a62, e62, w62, c62⟩, (List.forall_mem_cons.mpr ⟨⟨a63, e63, w63, c63⟩, (List.forall_mem_cons.mpr ⟨⟨a64, e64, w64, c64⟩, (List.forall_mem_cons.mpr ⟨⟨a65, e65, w65, c65⟩, (List.forall_mem_cons.mpr ⟨⟨a66, e66, w66, c66⟩, (List.forall_mem_cons.mpr ⟨⟨a67, e67, w67, c67⟩, (List.forall_mem_cons.mpr ⟨⟨a2, e2, w2, c2⟩, (List.forall_mem_cons.mpr ⟨⟨a5, e5, w5, c5⟩, (List.forall_mem_cons.mpr ⟨⟨a6, e6, w6, c6⟩, (List.forall_mem_cons.mpr ⟨⟨a7, e7, w7, c7⟩, (List.forall_mem_cons.mpr ⟨⟨a8, e8, w8, c8⟩, (List.forall_mem_cons.mpr ⟨⟨a9, e9, w9, c9⟩, (fun _ h => absurd h List.not_mem_nil)⟩)⟩)⟩)⟩)⟩)⟩)⟩)⟩)⟩)⟩)⟩)⟩)⟩)⟩)⟩)⟩)⟩)⟩)⟩)⟩)⟩)⟩)⟩)⟩)⟩)⟩)⟩)⟩)⟩)⟩)⟩)⟩)⟩)
  have hM : cx_heap tS cs ([(119, .inl (11, vs_119 (fun i => cx_toI (m119 i)) (fun i => cx_toL (m119 i)))), (126, .inr (.inl (0, 7, r2))), (120, .inr (.inl (0, 4, mm))), (124, .inr (.inl (0, 64, hm))), (130, .inr (.inl (0, 45927, ro))), (131, .inr (.inl (0, 4, fo4))), (132, .inr (.inl (0, 4, th4))), (133, .inr (.inl (0, 4, so))), (134, .inr (.inl (0, 5, ab)))]) ws := cx_heap_of (List.forall_mem_cons.mpr ⟨⟨a119, e119, w119, c119⟩, (List.forall_mem_cons.mpr ⟨⟨a126, e126, w126, c126⟩, (List.forall_mem_cons.mpr ⟨⟨a120, e120, w120, c120⟩, (List.forall_mem_cons.mpr ⟨⟨a124, e124, w124, c124⟩, (List.forall_mem_cons.mpr ⟨⟨a130, e130, w130, c130⟩, (List.forall_mem_cons.mpr ⟨⟨a131, e131, w131, c131⟩, (List.forall_mem_cons.mpr ⟨⟨a132, e132, w132, c132⟩, (List.forall_mem_cons.mpr ⟨⟨a133, e133, w133, c133⟩, (List.forall_mem_cons.mpr ⟨⟨a134, e134, w134, c134⟩, (fun _ h => absurd h List.not_mem_nil)⟩)⟩)⟩)⟩)⟩)⟩)⟩)⟩)⟩)
  have ha0 : (ws.map (·.1))[0]? = some a0 := by rw [List.getElem?_map, w0]; rfl
  have ha119 : (ws.map (·.1))[119]? = some a119 := by rw [List.getElem?_map, w119]; rfl
  obtain ⟨mi0, fo0, pl0, f0, f1, f2, f3, mh0, ro0, g0, fk0, pf0, pt0, pr0, mf0, mt0, q44, q49, q67, q6, q7, q8, q9, q120, q124, q130, g12, g13, g14, g15, g16, n8, n22, n23, hRO⟩ := hEQ.2
  have q44 : rl_row ws 44 = some ((List.range 4).map (fun i => .int (mi0 i))) := q44
  have q49 : rl_row ws 49 = some ((List.range 4900).map (fun i => .int (fo0 i))) := q49
  have q67 : rl_row ws 67 = some ((List.range 24).map (fun i => .int (pl0 i))) := q67
  have q6 : rl_row ws 6 = some ((List.range 16).map (fun i => .int (f0 i))) := q6
  have q7 : rl_row ws 7 = some ((List.range 16).map (fun i => .int (f1 i))) := q7
  have q8 : rl_row ws 8 = some ((List.range 16).map (fun i => .int (f2 i))) := q8
  have q9 : rl_row ws 9 = some ((List.range 16).map (fun i => .int (f3 i))) := q9
  have q120 : rl_row ws 120 = some ((List.range 4).map (fun i => .int (mi0 i))) := q120
  have q124 : rl_row ws 124 = some ((List.range 64).map (fun i => .int (mh0 i))) := q124
  have q130 : rl_row ws 130 = some ((List.range 45927).map (fun i => .int (ro0 i))) := q130
  rw [cx_fldv w43 c43 (x := cx_toI (m43 12)) rfl rfl] at g12
  rw [cx_fldv w43 c43 (x := cx_toI (m43 13)) rfl rfl] at g13
  rw [cx_fldv w43 c43 (x := cx_toI (m43 14)) rfl rfl] at g14
  rw [cx_fldv w43 c43 (x := cx_toI (m43 15)) rfl rfl] at g15
  rw [cx_fldv w43 c43 (x := cx_toI (m43 16)) rfl rfl] at g16
  rw [cx_fldv w119 c119 (x := cx_toI (m119 8)) rfl rfl] at n8
  rw [cx_fldv w119 c119 (x := cx_toI (m119 22)) rfl rfl] at n22
  rw [cx_fldv w119 c119 (x := cx_toI (m119 23)) rfl rfl] at n23
  have g12 : cx_toI (m43 12) = g0 := Value.int.inj (Option.some.inj g12)
  have g13 : cx_toI (m43 13) = fk0 := Value.int.inj (Option.some.inj g13)
  have g14 : cx_toI (m43 14) = pf0 := Value.int.inj (Option.some.inj g14)
  have g15 : cx_toI (m43 15) = pt0 := Value.int.inj (Option.some.inj g15)
  have g16 : cx_toI (m43 16) = pr0 := Value.int.inj (Option.some.inj g16)
  have n8 : cx_toI (m119 8) = g0 := Value.int.inj (Option.some.inj n8)
  have n22 : cx_toI (m119 22) = mf0 := Value.int.inj (Option.some.inj n22)
  have n23 : cx_toI (m119 23) = mt0 := Value.int.inj (Option.some.inj n23)
  rw [← g12, ← g13, ← g14, ← g15, ← g16, ← n22, ← n23] at hRO
  have hgm : cx_toI (m119 8) = cx_toI (m43 12) := n8.trans g12.symm
  have hgb : (0 : Int) ≤ (cx_toI (m43 12)).toInt ∧ (cx_toI (m43 12)).toInt ≤ 4 := hbd43.1
  have hgk := ab_clamp (x := cx_toI (m43 12)) hgb.1
  have hg4 : (cx_toI (m43 12)).toNatClampNeg ≤ 4 := by omega
  have r44 : rl_row ws 44 = some ((List.range 4).map (fun i => .int (mi i))) := cx_rowv w44 c44
  have e44q : ∀ i : Nat, i < 4 → mi0 i = mi i := cx_rowE (Option.some.inj (q44.symm.trans r44))
  have r49 : rl_row ws 49 = some ((List.range 4900).map (fun i => .int (fo i))) := cx_rowv w49 c49
  have e49q : ∀ i : Nat, i < 4900 → fo0 i = fo i := cx_rowE (Option.some.inj (q49.symm.trans r49))
  have r67 : rl_row ws 67 = some ((List.range 24).map (fun i => .int (pl i))) := cx_rowv w67 c67
  have e67q : ∀ i : Nat, i < 24 → pl0 i = pl i := cx_rowE (Option.some.inj (q67.symm.trans r67))
  have r6 : rl_row ws 6 = some ((List.range 16).map (fun i => .int (hh0 i))) := cx_rowv w6 c6
  have e6q : ∀ i : Nat, i < 16 → f0 i = hh0 i := cx_rowE (Option.some.inj (q6.symm.trans r6))
  have r7 : rl_row ws 7 = some ((List.range 16).map (fun i => .int (hh1 i))) := cx_rowv w7 c7
  have e7q : ∀ i : Nat, i < 16 → f1 i = hh1 i := cx_rowE (Option.some.inj (q7.symm.trans r7))
  have r8 : rl_row ws 8 = some ((List.range 16).map (fun i => .int (hh2 i))) := cx_rowv w8 c8
  have e8q : ∀ i : Nat, i < 16 → f2 i = hh2 i := cx_rowE (Option.some.inj (q8.symm.trans r8))
  have r9 : rl_row ws 9 = some ((List.range 16).map (fun i => .int (hh3 i))) := cx_rowv w9 c9
  have e9q : ∀ i : Nat, i < 16 → f3 i = hh3 i := cx_rowE (Option.some.inj (q9.symm.trans r9))
  have r120 : rl_row ws 120 = some ((List.range 4).map (fun i => .int (mm i))) := cx_rowv w120 c120
  have e120q : ∀ i : Nat, i < 4 → mi0 i = mm i := cx_rowE (Option.some.inj (q120.symm.trans r120))
  have r124 : rl_row ws 124 = some ((List.range 64).map (fun i => .int (hm i))) := cx_rowv w124 c124
  have e124q : ∀ i : Nat, i < 64 → mh0 i = hm i := cx_rowE (Option.some.inj (q124.symm.trans r124))
  have r130 : rl_row ws 130 = some ((List.range 45927).map (fun i => .int (ro i))) := cx_rowv w130 c130
  have e130q : ∀ i : Nat, i < 45927 → ro0 i = ro i := cx_rowE (Option.some.inj (q130.symm.trans r130))
  have hRO2 := RO_E hg4 e44q e49q e67q e130q e124q (F4_E e6q e7q e8q e9q) hRO
  have eMM : ∀ i : Nat, i < 4 → mi i = mm i := fun i hi => (e44q i hi).symm.trans (e120q i hi)
  have hEd : cx_toI (m0 11) = cx_toI (m119 1) := by
    obtain ⟨v, q1, q2⟩ := hEQ.1.2.1 ((0, 11), (119, 1)) (List.mem_of_getElem? (i := 0) rfl)
    have q1 : rl_fld ws (0, 11) = some v := q1
    have q2 : rl_fld ws (119, 1) = some v := q2
    rw [cx_fldv w0 c0 (x := cx_toI (m0 11)) rfl rfl] at q1
    rw [cx_fldv w119 c119 (x := cx_toI (m119 1)) rfl rfl] at q2
    exact Value.int.inj (Option.some.inj (q1.trans q2.symm))
  have hcd : cdH cd := by
    unfold cdH
    rw [cdN_e]
    exact ex_rowK (g := cdNl) (n := 70) (by decide +kernel) u45.2
  have hsz : szH sz := by
    unfold szH
    rw [szN_e]
    exact ex_rowK (g := szNl) (n := 70) (by decide +kernel) u46.2
  have hsp : spH sp := by
    unfold spH
    rw [spN_e]
    exact ex_rowK (g := spNl) (n := 625) (by decide +kernel) u47.2
  have hth9 : ∀ s : Nat, s < 280 → (thx s).toInt = ((rThL.getD s 0 : Nat) : Int) := ex_rowK (g := fun s => rThL.getD s 0) (n := 280) (by decide +kernel) u48.2
  have hthH : thH thx := by
    unfold thH
    rw [cN_e]
    exact fun s b hs hb => hth9 (4 * s + b) (by omega)
  have hmi9 : miH mi := fun i hi => cx_U1o (u44 i hi)
  have hmm9 : ∀ b : Nat, b < 4 → 0 ≤ (mm b).toInt ∧ (mm b).toInt ≤ 40 := fun i hi => cx_U1o (u120 i hi)
  have hhB : ∀ k i : Nat, k < 4 → i < 16 → (0 : Int) ≤ (F4 hh0 hh1 hh2 hh3 k i).toInt ∧ (F4 hh0 hh1 hh2 hh3 k i).toInt ≤ 999 := fun k i hk hi => by
    rcases (show k = 0 ∨ k = 1 ∨ k = 2 ∨ k = 3 by omega) with rfl | rfl | rfl | rfl
    · exact cx_U1o (u6 i hi)
    · exact cx_U1o (u7 i hi)
    · exact cx_U1o (u8 i hi)
    · exact cx_U1o (u9 i hi)
  have hhdH : hdH (F4 hh0 hh1 hh2 hh3) := fun b u hb hu => hhB b u hb hu
  have hmhE : ∀ b u : Nat, b < 4 → u < 16 → (hm (16 * b + u)).toInt = (F4 hh0 hh1 hh2 hh3 b u).toInt := fun b u hb hu => by rw [hRO2.1 b u hb hu]
  have hgN : (cx_toI (m43 12)).toInt = (((cx_toI (m43 12)).toNatClampNeg : Nat) : Int) := hgk.symm
  have hgM : (cx_toI (m119 8)).toInt = (((cx_toI (m43 12)).toNatClampNeg : Nat) : Int) := by rw [hgm]; exact hgN
  have hplU : plU pl := fun j hj => by
    have h1 : ((-9 : Int) ≤ (pl j).toInt ∧ (pl j).toInt ≤ -9) ∨ ((0 : Int) ≤ (pl j).toInt ∧ (pl j).toInt ≤ 3) := cx_U2o (u67 j hj)
    omega
  have hlaU : ∀ i : Nat, i < 4 → 0 ≤ (la i).toInt ∧ (la i).toInt ≤ 5 := fun i hi => cx_U1o (u66 i hi)
  have hfo4 : ∀ i : Nat, i < 4 → 0 ≤ (fo4 i).toInt ∧ (fo4 i).toInt ≤ 8 := fun i hi => cx_U1o (u131 i hi)
  have hth4 : thU th4 := fun i hi => by
    have h1 : (-1 : Int) ≤ (th4 i).toInt ∧ (th4 i).toInt ≤ 8 := u132 i (Int.negSucc 0, Int.ofNat 8) (by
      rcases (show i = 0 ∨ i = 1 ∨ i = 2 ∨ i = 3 by omega) with rfl | rfl | rfl | rfl <;> rfl)
    exact h1
  have hso4 : thU so := fun i hi => cx_U1o (u133 i hi)
  have hab4 : abU ab := fun i hi => cx_U1o (u134 i hi)
  have hnbE : nbF mi = nbF mm := nbF_E eMM
  have hrM : rosM (nbF mm) (F4 hh0 hh1 hh2 hh3) (cx_toI (m43 12)).toNatClampNeg (cx_toI (m119 22)) (cx_toI (m119 23)) ro := by
    rw [← hnbE]
    exact hRO2.2.2.2.2
  have h21b : (0 : Int) ≤ (cx_toI (m119 21)).toInt ∧ (cx_toI (m119 21)).toInt ≤ 1 := hbd119.2.2.2.2.1
  obtain ⟨fs0, e0q, -⟩ := id c0
  subst e0q
  refine lx_x F0 hl (pc' := 728) (ab_tbo lto_11 _ _ _ (List.mem_of_getElem? (i := 0) rfl)) rfl ha0 ?_
  refine lx_arg F0 hiv hL hL2 hl (z := 1) (pc' := 734) rfl (ab_tbo lto_11 _ _ _ (List.mem_of_getElem? (i := 1) rfl)) (ab_tbo lto_11 _ _ _ (List.mem_of_getElem? (i := 2) rfl)) (ab_tbo lto_11 _ _ _ (List.mem_of_getElem? (i := 3) rfl)) (ab_tbo lto_11 _ _ _ (List.mem_of_getElem? (i := 4) rfl)) (ab_tbo lto_11 _ _ _ (List.mem_of_getElem? (i := 5) rfl)) rfl ?_
  refine lx_arg F0 hiv hL hL2 hl (z := 2) (pc' := 740) rfl (ab_tbo lto_11 _ _ _ (List.mem_of_getElem? (i := 6) rfl)) (ab_tbo lto_11 _ _ _ (List.mem_of_getElem? (i := 7) rfl)) (ab_tbo lto_11 _ _ _ (List.mem_of_getElem? (i := 8) rfl)) (ab_tbo lto_11 _ _ _ (List.mem_of_getElem? (i := 9) rfl)) (ab_tbo lto_11 _ _ _ (List.mem_of_getElem? (i := 10) rfl)) rfl ?_
  refine lx_arg F0 hiv hL hL2 hl (z := 3) (pc' := 746) rfl (ab_tbo lto_11 _ _ _ (List.mem_of_getElem? (i := 11) rfl)) (ab_tbo lto_11 _ _ _ (List.mem_of_getElem? (i := 12) rfl)) (ab_tbo lto_11 _ _ _ (List.mem_of_getElem? (i := 13) rfl)) (ab_tbo lto_11 _ _ _ (List.mem_of_getElem? (i := 14) rfl)) (ab_tbo lto_11 _ _ _ (List.mem_of_getElem? (i := 15) rfl)) rfl ?_
  refine lx_arg F0 hiv hL hL2 hl (z := 4) (pc' := 752) rfl (ab_tbo lto_11 _ _ _ (List.mem_of_getElem? (i := 16) rfl)) (ab_tbo lto_11 _ _ _ (List.mem_of_getElem? (i := 17) rfl)) (ab_tbo lto_11 _ _ _ (List.mem_of_getElem? (i := 18) rfl)) (ab_tbo lto_11 _ _ _ (List.mem_of_getElem? (i := 19) rfl)) (ab_tbo lto_11 _ _ _ (List.mem_of_getElem? (i := 20) rfl)) rfl ?_
  obtain ⟨d1, hd1, Ct1⟩ := ct_xra (g := (cx_toI (m43 12))) (fk := (cx_toI (m43 13))) (pf := (cx_toI (m43 14))) (pt := (cx_toI (m43 15))) (pr := (cx_toI (m43 16))) (mi := mi) (cd := cd) (sz := sz) (sp := sp) (th := thx) (fo := fo) (go := go) (la := la) (pl := pl) (R := (F7 R0 R1 R2 R3 R4 R5 R5)) (L := (F7 L0 L1 L2 L3 L4 L5 L6)) (hd := F4 hh0 hh1 hh2 hh3) (dy := cx_toI (m0 11)) (r := r1) (gN := (cx_toI (m43 12)).toNatClampNeg) (x := xs (i0 + 1)) (y := xs (i0 + 2)) (q := xs (i0 + 3)) (w := xs (i0 + 4)) hthH hcd hsz hsp hmi9 hhdH hgN hg4 hRO2.2.1 hRO2.2.2.1 hplU hlaU hRO2.2.2.2.1 l D cs tS ws [.ref a0, .int (xs (i0 + 1)), .int (xs (i0 + 2)), .int (xs (i0 + 3)), .int (xs (i0 + 4))] hX ⟨⟨a0, ha0, rfl⟩, rfl, rfl, rfl, rfl, trivial⟩
  refine lx_call F0 hcs hl (pc' := 755) (q := 139) (n := 4) (ci := 10) (As := [.int (xs (i0 + 1)), .int (xs (i0 + 2)), .int (xs (i0 + 3)), .int (xs (i0 + 4))]) (stk := []) (ab_tbo lto_11 _ _ _ (List.mem_of_getElem? (i := 21) rfl)) rfl rfl rfl w0 (by decide) ⟨d1, by omega, Ct1⟩ rfl (fun rv ws1 hp1 => ?_)
  obtain ⟨v, h1, ⟨z, rr, fk2, pf2, pt2, pr2, fo2, go2, la2, pl2, R2, L2, rfl, rfl, hfk, hfkT, h002, hfoU3, hpl2U, hla2U, hrx2, hdx⟩, hk1, hf1, hH1, hrv⟩ := hp1
  obtain rfl : rv = some (.int z) := by
    cases rv with
    | none => exact hrv.elim
    | some y => exact congrArg some hrv
  show ab_W p l e room_1 s m #[Value.ref b] below meth c D vwCl A Q cells slots 755 ls [.int z] ws1
  refine lx_pop F0 (pc' := 756) (ab_tbo lto_11 _ _ _ (List.mem_of_getElem? (i := 22) rfl)) rfl ?_
  have hl1 := lx_Lc hl hf1.1
  have hM1 := cx_heap_far hM hf1 rfl
  have ha119b : (ws1.map (·.1))[119]? = some a119 := by rw [hf1.1]; exact ha119
  refine lx_m F0 hl1 (pc' := 757) (ab_tbo lto_11 _ _ _ (List.mem_of_getElem? (i := 23) rfl)) rfl ha119b ?_
  refine lx_arg F0 hiv hL hL2 hl1 (z := 1) (pc' := 763) rfl (ab_tbo lto_11 _ _ _ (List.mem_of_getElem? (i := 24) rfl)) (ab_tbo lto_11 _ _ _ (List.mem_of_getElem? (i := 25) rfl)) (ab_tbo lto_11 _ _ _ (List.mem_of_getElem? (i := 26) rfl)) (ab_tbo lto_11 _ _ _ (List.mem_of_getElem? (i := 27) rfl)) (ab_tbo lto_11 _ _ _ (List.mem_of_getElem? (i := 28) rfl)) rfl ?_
  refine lx_arg F0 hiv hL hL2 hl1 (z := 2) (pc' := 769) rfl (ab_tbo lto_11 _ _ _ (List.mem_of_getElem? (i := 29) rfl)) (ab_tbo lto_11 _ _ _ (List.mem_of_getElem? (i := 30) rfl)) (ab_tbo lto_11 _ _ _ (List.mem_of_getElem? (i := 31) rfl)) (ab_tbo lto_11 _ _ _ (List.mem_of_getElem? (i := 32) rfl)) (ab_tbo lto_11 _ _ _ (List.mem_of_getElem? (i := 33) rfl)) rfl ?_
  refine lx_arg F0 hiv hL hL2 hl1 (z := 3) (pc' := 775) rfl (ab_tbo lto_11 _ _ _ (List.mem_of_getElem? (i := 34) rfl)) (ab_tbo lto_11 _ _ _ (List.mem_of_getElem? (i := 35) rfl)) (ab_tbo lto_11 _ _ _ (List.mem_of_getElem? (i := 36) rfl)) (ab_tbo lto_11 _ _ _ (List.mem_of_getElem? (i := 37) rfl)) (ab_tbo lto_11 _ _ _ (List.mem_of_getElem? (i := 38) rfl)) rfl ?_
  refine lx_arg F0 hiv hL hL2 hl1 (z := 4) (pc' := 781) rfl (ab_tbo lto_11 _ _ _ (List.mem_of_getElem? (i := 39) rfl)) (ab_tbo lto_11 _ _ _ (List.mem_of_getElem? (i := 40) rfl)) (ab_tbo lto_11 _ _ _ (List.mem_of_getElem? (i := 41) rfl)) (ab_tbo lto_11 _ _ _ (List.mem_of_getElem? (i := 42) rfl)) (ab_tbo lto_11 _ _ _ (List.mem_of_getElem? (i := 43) rfl)) rfl ?_
  obtain ⟨a119c, e119c, w119c, c119c⟩ := hM1 119 _ rfl
  obtain ⟨fs119c, e119d, -⟩ := id c119c
  subst e119d
  have eadd : a119c = a119 := ab_ad_get ha119b w119c
  rw [eadd] at w119c
  obtain ⟨d2, hd2, Ct2⟩ := ct_mra (mi := fun i => cx_toI (m119 i)) (ml := fun i => cx_toL (m119 i)) (mm := mm) (mh := hm) (ro := ro) (fo4 := fo4) (th4 := th4) (so := so) (ab := ab) (r := r2) (hd := F4 hh0 hh1 hh2 hh3) (gN := (cx_toI (m43 12)).toNatClampNeg) (x := xs (i0 + 1)) (y := xs (i0 + 2)) (g := xs (i0 + 3)) (w := xs (i0 + 4)) hmm9 hmhE hhdH hgM hg4 hfo4 hth4 hso4 hab4 hrM l D cs tS ws1 [.ref a119, .int (xs (i0 + 1)), .int (xs (i0 + 2)), .int (xs (i0 + 3)), .int (xs (i0 + 4))] hM1 ⟨⟨a119, ha119b, rfl⟩, rfl, rfl, rfl, rfl, trivial⟩
  refine lx_call F0 hcs hl1 (pc' := 784) (q := 214) (n := 4) (ci := 11) (As := [.int (xs (i0 + 1)), .int (xs (i0 + 2)), .int (xs (i0 + 3)), .int (xs (i0 + 4))]) (stk := []) (ab_tbo lto_11 _ _ _ (List.mem_of_getElem? (i := 44) rfl)) rfl rfl rfl w119c (by first | decide | exact (by decide : (1 : Nat) ≤ 8)) ⟨d2, by omega, Ct2⟩ rfl (fun rv2 ws2 hp2 => ?_)
  obtain ⟨v2, h2, ⟨z2, mq2, rr2, ro2, fo6, th2, so2, ab2, rfl, rfl, ⟨hUfo, hUth, hUso, hUab⟩, hmq, hrm2, hdm⟩, hk2, hf2, hH2, hrv2⟩ := hp2
  obtain rfl : rv2 = some (.int z2) := by
    cases rv2 with
    | none => exact hrv2.elim
    | some y => exact congrArg some hrv2
  show ab_W p l e room_1 s m #[Value.ref b] below meth c D vwCl A Q cells slots 784 ls [.int z2] ws2
  have k0 : (Int32.ofInt 0).toInt = 0 := by decide +kernel
  have k1 : (Int32.ofInt 1).toInt = 1 := by decide +kernel
  have km1 : (Int32.ofInt (-1)).toInt = -1 := by decide +kernel
  have km9 : (Int32.ofInt (-9)).toInt = -9 := by decide +kernel
  rw [← hnbE] at hdm hrm2
  have hfin : z = z2 := rosB_E hg4 hdx hdm
  have hfk2 : (0 : Int) ≤ fk2.toInt ∧ fk2.toInt ≤ 1 := by
    rcases hfk with u | u <;> rw [u]
    · exact hbd43.2
    · omega
  have hb43n : obd_43 (upi (upi (upi (upi (fun i => cx_toI (m43 i)) 13 fk2) 14 pf2) 15 pt2) 16 pr2) := ⟨hgb, hfk2⟩
  obtain ⟨hmi4, h21⟩ := hmq
  have hq8 : ∀ i : Nat, (Nat.beq i 0 || (Nat.beq i 21 || (Nat.beq i 22 || Nat.beq i 23))) = false → cx_toI (m119 i) = mq2 i := fun i hi => (hmi4 i hi).symm
  have hmi := hq8
  have h21c : (0 : Int) ≤ (mq2 21).toInt ∧ (mq2 21).toInt ≤ 1 := by
    rcases h21 with u | u | u
    · rw [u]; exact h21b
    · omega
    · omega
  have hb119n : obd_119 mq2 := by
    obtain ⟨y8, y10, y11, y12, y21, y24, y27, y29, y31, y41, y42, y43, y44, y55, y61⟩ := hbd119
    exact ⟨by have e := hmi4 8 rfl; rw [e]; exact y8, by have e := hmi4 10 rfl; rw [e]; exact y10, by have e := hmi4 11 rfl; rw [e]; exact y11, by have e := hmi4 12 rfl; rw [e]; exact y12, h21c, by have e := hmi4 24 rfl; rw [e]; exact y24, by have e := hmi4 27 rfl; rw [e]; exact y27, by have e := hmi4 29 rfl; rw [e]; exact y29, by have e := hmi4 31 rfl; rw [e]; exact y31, by have e := hmi4 41 rfl; rw [e]; exact y41, by have e := hmi4 42 rfl; rw [e]; exact y42, by have e := hmi4 43 rfl; rw [e]; exact y43, by have e := hmi4 44 rfl; rw [e]; exact y44, by have e := hmi4 55 rfl; rw [e]; exact y55, by have e := hmi4 61 rfl; rw [e]; exact y61⟩
  have h8 : mq2 8 = cx_toI (m119 8) ∧ mq2 1 = cx_toI (m119 1) := ⟨hmi4 8 rfl, hmi4 1 rfl⟩
  have hU67 : ∀ i : Nat, i < 24 → ab_inU [(Int.negSucc 8, Int.negSucc 8), (Int.ofNat 0, Int.ofNat 3)] (pl2 i).toInt := fun i hi => by
    have h1 : ((-9 : Int) ≤ (pl2 i).toInt ∧ (pl2 i).toInt ≤ -9) ∨ ((0 : Int) ≤ (pl2 i).toInt ∧ (pl2 i).toInt ≤ 3) := by have := hpl2U i hi; omega
    exact cx_U2 h1
  have hE132 : [(Int.negSucc 0, Int.ofNat 8), (Int.negSucc 0, Int.ofNat 8), (Int.negSucc 0, Int.ofNat 8), (Int.negSucc 0, Int.ofNat 8)].length = 4 := rfl
  have hU132 : ∀ (i : Nat) (v : ab_Iv), [(Int.negSucc 0, Int.ofNat 8), (Int.negSucc 0, Int.ofNat 8), (Int.negSucc 0, Int.ofNat 8), (Int.negSucc 0, Int.ofNat 8)][i]? = some v → v.1 ≤ (th2 i).toInt ∧ (th2 i).toInt ≤ v.2 := fun i v hv => by
    have hi : i < 4 := (List.getElem?_eq_some_iff.mp hv).1
    have h2 : (-1 : Int) ≤ (th2 i).toInt ∧ (th2 i).toInt ≤ 8 := hUth i hi
    rcases (show i = 0 ∨ i = 1 ∨ i = 2 ∨ i = 3 by omega) with rfl | rfl | rfl | rfl <;> (have e : (Int.negSucc 0, Int.ofNat 8) = v := Option.some.inj hv; rw [← e]; exact h2)
  have hfo49 : ∀ i : Nat, i < 4900 → ab_inU [(Int.ofNat 0, Int.ofNat 1)] (fo2 i).toInt := fun i hi => by
    rcases hfoU3 with u | u
    · rw [u]; exact u49 i hi
    · have e : fo2 (70 * (i / 70) + i % 70) = b2R (cho (nbF mi) (cnL (cN (i / 70))) (cN (i % 70))) := u (i / 70) (i % 70) (by omega) (by omega)
      rw [show 70 * (i / 70) + i % 70 = i by omega] at e
      rw [e]
      refine cx_U1 ?_
      by_cases q : cho (nbF mi) (cnL (cN (i / 70))) (cN (i % 70))
      · rw [b2R_y q, k1]; exact ⟨by decide, by decide⟩
      · rw [b2R_n q, k0]; exact ⟨by decide, by decide⟩
  have hlen1 : ws1.length = 165 := by have := congrArg List.length hf1.1; simpa [hlen] using this
  have hlen2 : ws2.length = 165 := by have := congrArg List.length hf2.1; simpa [hlen1] using this
  have hth1 : ab_th tS (ab_tys cs) th ws1 := lx_done (fl := [3765, 3766, 3767, 3768]) hth hX hH1 ⟨⟨rfl, rfl, Or.inr rfl, Or.inr rfl, Or.inr rfl, Or.inr rfl, Or.inr rfl, Or.inr rfl, Or.inr rfl, Or.inr rfl, Or.inr rfl, Or.inr rfl, Or.inr rfl, Or.inr rfl, trivial⟩, ⟨rfl, trivial⟩, ⟨rfl, rfl, Or.inr rfl, Or.inr rfl, Or.inr rfl, Or.inr rfl, Or.inr rfl, Or.inr rfl, Or.inr rfl, Or.inr rfl, Or.inr rfl, Or.inr rfl, Or.inr rfl, Or.inr rfl, Or.inr rfl, Or.inl rfl, Or.inl rfl, Or.inl rfl, Or.inl rfl, trivial⟩, ⟨rfl, trivial⟩, ⟨rfl, trivial⟩, ⟨rfl, trivial⟩, ⟨rfl, trivial⟩, ⟨rfl, trivial⟩, ⟨rfl, trivial⟩, ⟨rfl, trivial⟩, ⟨rfl, trivial⟩, ⟨rfl, trivial⟩, ⟨rfl, trivial⟩, ⟨rfl, trivial⟩, ⟨rfl, trivial⟩, ⟨rfl, trivial⟩, ⟨rfl, trivial⟩, ⟨rfl, trivial⟩, ⟨rfl, trivial⟩, ⟨rfl, trivial⟩, ⟨rfl, trivial⟩, ⟨rfl, trivial⟩, ⟨rfl, trivial⟩, ⟨rfl, trivial⟩, ⟨rfl, trivial⟩, ⟨rfl, trivial⟩, ⟨rfl, trivial⟩, ⟨rfl, rfl, Or.inr rfl, Or.inr rfl, Or.inr rfl, Or.inr rfl, trivial⟩, ⟨rfl, trivial⟩, ⟨rfl, trivial⟩, ⟨rfl, trivial⟩, ⟨rfl, trivial⟩, ⟨rfl, trivial⟩, trivial⟩ hf1 (po := [(0, ci_0), (1, ci_1), (43, ci_43), (44, ci_44), (45, ci_45), (46, ci_46), (47, ci_47), (48, ci_48), (49, ci_49), (50, ci_50), (51, ci_51), (52, ci_52), (53, ci_53), (54, ci_54), (55, ci_55), (56, ci_56), (57, ci_57), (58, ci_58), (59, ci_59), (60, ci_60), (61, ci_61), (62, ci_62), (63, ci_63), (64, ci_64), (65, ci_65), (66, ci_66), (67, ci_67), (2, ci_2), (5, ci_5), (6, ci_6), (7, ci_7), (8, ci_8), (9, ci_9)]) (List.forall_mem_cons.mpr ⟨lx_po hH1 rfl (fun e2 q => cx_to_obj (N := 12) q rfl (otl_0 (mi := fun _ => cx_toI (m0 11)))), (List.forall_mem_cons.mpr ⟨lx_po hH1 rfl (fun e2 q => cx_to_row q cx_anyU), (List.forall_mem_cons.mpr ⟨lx_po hH1 rfl (fun e2 q => cx_to_obj (N := 17) q rfl (otl_43 (mi := upi (upi (upi (upi (fun i => cx_toI (m43 i)) 13 fk2) 14 pf2) 15 pt2) 16 pr2) hb43n)), (List.forall_mem_cons.mpr ⟨lx_po hH1 rfl (fun e2 q => cx_to_row q u44), (List.forall_mem_cons.mpr ⟨lx_po hH1 rfl (fun e2 q => cx_to_rowK q u45), (List.forall_mem_cons.mpr ⟨lx_po hH1 rfl (fun e2 q => cx_to_rowK q u46), (List.forall_mem_cons.mpr ⟨lx_po hH1 rfl (fun e2 q => cx_to_rowK q u47), (List.forall_mem_cons.mpr ⟨lx_po hH1 rfl (fun e2 q => cx_to_rowK q u48), (List.forall_mem_cons.mpr ⟨lx_po hH1 rfl (fun e2 q => cx_to_row q hfo49), (List.forall_mem_cons.mpr ⟨lx_po hH1 rfl (fun e2 q => cx_to_rows q), (List.forall_mem_cons.mpr ⟨lx_po hH1 rfl (fun e2 q => cx_to_row q cx_anyU), (List.forall_mem_cons.mpr ⟨lx_po hH1 rfl (fun e2 q => cx_to_row q cx_anyU), (List.forall_mem_cons.mpr ⟨lx_po hH1 rfl (fun e2 q => cx_to_row q cx_anyU), (List.forall_mem_cons.mpr ⟨lx_po hH1 rfl (fun e2 q => cx_to_row q cx_anyU), (List.forall_mem_cons.mpr ⟨lx_po hH1 rfl (fun e2 q => cx_to_row q cx_anyU), (List.forall_mem_cons.mpr ⟨lx_po hH1 rfl (fun e2 q => cx_to_row q cx_anyU), (List.forall_mem_cons.mpr ⟨lx_po hH1 rfl (fun e2 q => cx_to_row q cx_anyU), (List.forall_mem_cons.mpr ⟨lx_po hH1 rfl (fun e2 q => cx_to_rows q), (List.forall_mem_cons.mpr ⟨lx_po hH1 rfl (fun e2 q => cx_to_row q cx_anyU), (List.forall_mem_cons.mpr ⟨lx_po hH1 rfl (fun e2 q => cx_to_row q cx_anyU), (List.forall_mem_cons.mpr ⟨lx_po hH1 rfl (fun e2 q => cx_to_row q cx_anyU), (List.forall_mem_cons.mpr ⟨lx_po hH1 rfl (fun e2 q => cx_to_row q cx_anyU), (List.forall_mem_cons.mpr ⟨lx_po hH1 rfl (fun e2 q => cx_to_row q cx_anyU), (List.forall_mem_cons.mpr ⟨lx_po hH1 rfl (fun e2 q => cx_to_row q cx_anyU), (List.forall_mem_cons.mpr ⟨lx_po hH1 rfl (fun e2 q => cx_to_row q cx_anyU), (List.forall_mem_cons.mpr ⟨lx_po hH1 rfl (fun e2 q => cx_to_row (U := [(.ofNat 0, .ofNat 5)]) q (fun i hi => cx_U1 (hla2U i hi))), (List.forall_mem_cons.mpr ⟨lx_po hH1 rfl (fun e2 q => cx_to_row q hU67), (List.forall_mem_cons.mpr ⟨lx_po hH1 rfl (fun e2 q => cx_to_obj (N := 4) q rfl (otl_2 (mi := fun _ => 0))), (List.forall_mem_cons.mpr ⟨lx_po hH1 rfl (fun e2 q => cx_to_rows q), (List.forall_mem_cons.mpr ⟨lx_po hH1 rfl (fun e2 q => cx_to_row q u6), (List.forall_mem_cons.mpr ⟨lx_po hH1 rfl (fun e2 q => cx_to_row q u7), (List.forall_mem_cons.mpr ⟨lx_po hH1 rfl (fun e2 q => cx_to_row q u8), (List.forall_mem_cons.mpr ⟨lx_po hH1 rfl (fun e2 q => cx_to_row q u9), (fun _ h => absurd h List.not_mem_nil)⟩)⟩)⟩)⟩)⟩)⟩)⟩)⟩)⟩)⟩)⟩)⟩)⟩)⟩)⟩)⟩)⟩)⟩)⟩)⟩)⟩)⟩)⟩)⟩)⟩)⟩)⟩)⟩)⟩)⟩)⟩)⟩)⟩) (List.all_eq_true.mp tk11x th hmem)
  have hth2 : ab_th tS (ab_tys cs) th ws2 := lx_done (fl := [8616, 8637, 8638, 8639]) hth1 hM1 hH2 ⟨⟨rfl, rfl, Or.inl rfl, Or.inr (congrArg (fun u => (.inl (.int u) : cx_V)) (hmi 1 rfl)), Or.inr rfl, Or.inr rfl, Or.inr rfl, Or.inr rfl, Or.inr rfl, Or.inr rfl, Or.inr (congrArg (fun u => (.inl (.int u) : cx_V)) (hmi 8 rfl)), Or.inr rfl, Or.inr (congrArg (fun u => (.inl (.int u) : cx_V)) (hmi 10 rfl)), Or.inr (congrArg (fun u => (.inl (.int u) : cx_V)) (hmi 11 rfl)), Or.inr (congrArg (fun u => (.inl (.int u) : cx_V)) (hmi 12 rfl)), Or.inr rfl, Or.inr rfl, Or.inr rfl, Or.inr rfl, Or.inr rfl, Or.inr rfl, Or.inr rfl, Or.inr rfl, Or.inl rfl, Or.inl rfl, Or.inl rfl, Or.inr (congrArg (fun u => (.inl (.int u) : cx_V)) (hmi 24 rfl)), Or.inr rfl, Or.inr (congrArg (fun u => (.inl (.int u) : cx_V)) (hmi 26 rfl)), Or.inr (congrArg (fun u => (.inl (.int u) : cx_V)) (hmi 27 rfl)), Or.inr rfl, Or.inr (congrArg (fun u => (.inl (.int u) : cx_V)) (hmi 29 rfl)), Or.inr (congrArg (fun u => (.inl (.int u) : cx_V)) (hmi 30 rfl)), Or.inr (congrArg (fun u => (.inl (.int u) : cx_V)) (hmi 31 rfl)), Or.inr rfl, Or.inr rfl, Or.inr rfl, Or.inr rfl, Or.inr rfl, Or.inr rfl, Or.inr rfl, Or.inr rfl, Or.inr rfl, Or.inr (congrArg (fun u => (.inl (.int u) : cx_V)) (hmi 41 rfl)), Or.inr (congrArg (fun u => (.inl (.int u) : cx_V)) (hmi 42 rfl)), Or.inr (congrArg (fun u => (.inl (.int u) : cx_V)) (hmi 43 rfl)), Or.inr (congrArg (fun u => (.inl (.int u) : cx_V)) (hmi 44 rfl)), Or.inr (congrArg (fun u => (.inl (.int u) : cx_V)) (hmi 45 rfl)), Or.inr rfl, Or.inr rfl, Or.inr rfl, Or.inr rfl, Or.inr rfl, Or.inr rfl, Or.inr rfl, Or.inr rfl, Or.inr rfl, Or.inr (congrArg (fun u => (.inl (.int u) : cx_V)) (hmi 55 rfl)), Or.inr rfl, Or.inr rfl, Or.inr rfl, Or.inr rfl, Or.inr rfl, Or.inr (congrArg (fun u => (.inl (.int u) : cx_V)) (hmi 61 rfl)), Or.inr rfl, Or.inr rfl, Or.inr rfl, Or.inr rfl, Or.inr rfl, Or.inr rfl, trivial⟩, ⟨rfl, trivial⟩, ⟨rfl, trivial⟩, ⟨rfl, trivial⟩, ⟨rfl, trivial⟩, ⟨rfl, trivial⟩, ⟨rfl, trivial⟩, ⟨rfl, trivial⟩, ⟨rfl, trivial⟩, trivial⟩ hf2 (po := [(119, ci_119), (126, ci_126), (120, ci_120), (124, ci_124), (130, ci_130), (131, ci_131), (132, ci_132), (133, ci_133), (134, ci_134)]) (List.forall_mem_cons.mpr ⟨lx_po hH2 rfl (fun e2 q => cx_to_obj (N := 68) q rfl (otl_119 (mi := mq2) hb119n)), (List.forall_mem_cons.mpr ⟨lx_po hH2 rfl (fun e2 q => cx_to_row q cx_anyU), (List.forall_mem_cons.mpr ⟨lx_po hH2 rfl (fun e2 q => cx_to_row q u120), (List.forall_mem_cons.mpr ⟨lx_po hH2 rfl (fun e2 q => cx_to_row q u124), (List.forall_mem_cons.mpr ⟨lx_po hH2 rfl (fun e2 q => cx_to_row q cx_anyU), (List.forall_mem_cons.mpr ⟨lx_po hH2 rfl (fun e2 q => cx_to_row (U := [(.ofNat 0, .ofNat 8)]) q (fun i hi => cx_U1 (hUfo i hi))), (List.forall_mem_cons.mpr ⟨lx_po hH2 rfl (fun e2 q => cx_to_rowE q hE132 hU132), (List.forall_mem_cons.mpr ⟨lx_po hH2 rfl (fun e2 q => cx_to_row (U := [(.negSucc 0, .ofNat 8)]) q (fun i hi => cx_U1 (hUso i hi))), (List.forall_mem_cons.mpr ⟨lx_po hH2 rfl (fun e2 q => cx_to_row (U := [(.ofNat 0, .ofNat 4)]) q (fun i hi => cx_U1 (hUab i hi))), (fun _ h => absurd h List.not_mem_nil)⟩)⟩)⟩)⟩)⟩)⟩)⟩)⟩)⟩) (List.all_eq_true.mp tk11m th hmem)
  refine lx_pop F0 (pc' := 785) (ab_tbo lto_11 _ _ _ (List.mem_of_getElem? (i := 45) rfl)) rfl ?_
  refine lx_goto F0 (pc' := 1810) (ab_tbo lto_11 _ _ _ (List.mem_of_getElem? (i := 46) rfl)) rfl ?_
  have hX2 := cx_heap_far hH1 hf2 rfl
  refine K ls ws2 (lx_Lc hl1 hf2.1) ⟨th, hmem, hth2⟩ ?_ hlen2
  refine ⟨⟨fun q h => absurd h List.not_mem_nil, List.forall_mem_cons.mpr ⟨?_, fun q h => absurd h List.not_mem_nil⟩, fun q h => absurd h List.not_mem_nil⟩, mi, fo2, pl2, hh0, hh1, hh2, hh3, hm, ro2, (cx_toI (m43 12)), fk2, pf2, pt2, pr2, mq2 22, mq2 23, ?_, ?_, ?_, ?_, ?_, ?_, ?_, ?_, ?_, ?_, ?_, ?_, ?_, ?_, ?_, ?_, ?_, ?_, ?_⟩
  · obtain ⟨ax, ex, wx, cx⟩ := hX2 0 _ rfl
    obtain ⟨ay, ey, wy, cy⟩ := hH2 119 _ rfl
    exact ⟨_, cx_fldv wx cx (x := cx_toI (m0 11)) rfl rfl, (cx_fldv wy cy (x := mq2 1) rfl rfl).trans (by rw [h8.2, hEd])⟩
  · obtain ⟨ag, eg, wg, cg⟩ := hX2 44 _ rfl
    exact (cx_rowv wg cg)
  · obtain ⟨ag, eg, wg, cg⟩ := hX2 49 _ rfl
    exact (cx_rowv wg cg)
  · obtain ⟨ag, eg, wg, cg⟩ := hX2 67 _ rfl
    exact (cx_rowv wg cg)
  · obtain ⟨ag, eg, wg, cg⟩ := hX2 6 _ rfl
    exact (cx_rowv wg cg)
  · obtain ⟨ag, eg, wg, cg⟩ := hX2 7 _ rfl
    exact (cx_rowv wg cg)
  · obtain ⟨ag, eg, wg, cg⟩ := hX2 8 _ rfl
    exact (cx_rowv wg cg)
  · obtain ⟨ag, eg, wg, cg⟩ := hX2 9 _ rfl
    exact (cx_rowv wg cg)
  · obtain ⟨ag, eg, wg, cg⟩ := hH2 120 _ rfl
    exact (cx_rowv wg cg).trans (congrArg some (cx_rowM (fun i hi => (eMM i hi).symm)))
  · obtain ⟨ag, eg, wg, cg⟩ := hH2 124 _ rfl
    exact (cx_rowv wg cg)
  · obtain ⟨ag, eg, wg, cg⟩ := hH2 130 _ rfl
    exact (cx_rowv wg cg)
  · obtain ⟨ag, eg, wg, cg⟩ := hX2 43 _ rfl
    exact cx_fldv wg cg (x := (cx_toI (m43 12))) rfl rfl
  · obtain ⟨ag, eg, wg, cg⟩ := hX2 43 _ rfl
    exact cx_fldv wg cg (x := fk2) rfl rfl
  · obtain ⟨ag, eg, wg, cg⟩ := hX2 43 _ rfl
    exact cx_fldv wg cg (x := pf2) rfl rfl
  · obtain ⟨ag, eg, wg, cg⟩ := hX2 43 _ rfl
    exact cx_fldv wg cg (x := pt2) rfl rfl
  · obtain ⟨ag, eg, wg, cg⟩ := hX2 43 _ rfl
    exact cx_fldv wg cg (x := pr2) rfl rfl
  · obtain ⟨ag, eg, wg, cg⟩ := hH2 119 _ rfl
    exact (cx_fldv wg cg (x := mq2 8) rfl rfl).trans (by rw [h8.1, hgm])
  · obtain ⟨ag, eg, wg, cg⟩ := hH2 119 _ rfl
    exact (cx_fldv wg cg (x := mq2 22) rfl rfl)
  · obtain ⟨ag, eg, wg, cg⟩ := hH2 119 _ rfl
    exact (cx_fldv wg cg (x := mq2 23) rfl rfl)
  · refine ⟨fun b y hb hy => hRO2.1 b y hb hy, hfkT, h002, hrx2, ?_⟩
    exact hrm2
end
