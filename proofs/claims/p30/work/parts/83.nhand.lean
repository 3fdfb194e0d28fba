noncomputable section
theorem cx_heap_of {tS : Nat} {cs : Nat → ClassId} {h : cx_H} {ws : va_W} (H : ∀ q ∈ h, ∃ a2 e2, ws[q.1]? = some (a2, e2) ∧ cx_cell (ws.map (·.1)) tS cs q.2 e2) : cx_heap tS cs h ws := fun k c hk => H _ (cx_hg_mem hk)
theorem cx_rowv {ws : va_W} {tS k N a2 t : Nat} {cs : Nat → ClassId} {ad : List Nat} {f : Nat → Int32} {e2 : va_E} (hw : ws[k]? = some (a2, e2)) (hc : cx_cell ad tS cs (.inr (.inl (t, N, f))) e2) : rl_row ws k = some ((List.range N).map (fun i => .int (f i))) := by
  obtain ⟨-, rfl⟩ := hc
  unfold rl_row
  rw [hw]
  rfl
theorem cx_row1 {ws : va_W} {k : Nat} {l : List Value} (h : rl_row ws k = some l) : rl_rows ws [k] = some l := by
  show (match rl_row ws k, some [] with
    | some a, some b => some (a ++ b)
    | _, _ => none) = some l
  rw [h]
  show some (l ++ []) = some l
  rw [List.append_nil]
/-- rows that are the same, number by number -/
theorem cx_rowE {N : Nat} {f g : Nat → Int32} (h : (List.range N).map (fun i => Value.int (f i)) = (List.range N).map (fun i => Value.int (g i))) : ∀ i, i < N → f i = g i := fun i hi => by
  have h1 := congrArg (fun l => l[i]?) h
  simp only [List.getElem?_map, List.getElem?_range hi, Option.map_some] at h1
  exact Value.int.inj (Option.some.inj h1)
theorem cx_rowM {N : Nat} {f g : Nat → Int32} (h : ∀ i, i < N → f i = g i) : (List.range N).map (fun i => Value.int (f i)) = (List.range N).map (fun i => Value.int (g i)) := by
  apply List.map_congr_left
  intro i hi
  rw [h i (List.mem_range.mp hi)]
theorem cx_fldv {ws : va_W} {tS k f ci a2 : Nat} {cs : Nat → ClassId} {ad : List Nat} {vs : List cx_V} {x : Int32} {e2 : va_E} (hw : ws[k]? = some (a2, e2)) (hc : cx_cell ad tS cs (.inl (ci, vs)) e2) (hv : vs[f]? = some (.inl (.int x))) (hf : Nat.ble 1000 f = false) : rl_fld ws (k, f) = some (.int x) := by
  obtain ⟨fs, rfl, hal⟩ := hc
  obtain ⟨y, hy, hyv⟩ := cx_all_get hal hv
  have hyv : y = .int x := hyv
  subst hyv
  unfold rl_fld
  show (bif Nat.ble 1000 f then rl_nth (rl_row ws k) (f - 1000) else rl_fld0 ws (k, f)) = _
  rw [hf]
  show rl_fld0 ws (k, f) = _
  unfold rl_fld0
  show (match ws[k]? with
    | some w => rl_fs w.2 f
    | none => none) = _
  rw [hw]
  exact hy
theorem lx_fullL (x : Int64) : (Int.negSucc 9223372036854775807) ≤ x.toInt ∧ x.toInt ≤ Int.ofNat 9223372036854775807 := by
  have h1 := Int64.le_toInt x
  have h2 := Int64.toInt_lt x
  constructor
  · have e1 : (Int.negSucc 9223372036854775807) = -2 ^ 63 := by decide
    rw [e1]; exact h1
  · have e1 : Int.ofNat 9223372036854775807 = 2 ^ 63 - 1 := by decide
    rw [e1]; omega
theorem cx_U2 {a b c d x : Int} (h : a ≤ x ∧ x ≤ b ∨ c ≤ x ∧ x ≤ d) : ab_inU [(a, b), (c, d)] x := by
  rcases h with h | h
  · exact ⟨_, List.mem_cons_self, h⟩
  · exact ⟨_, List.mem_cons_of_mem _ List.mem_cons_self, h⟩
theorem cx_U1 {a b x : Int} (h : a ≤ x ∧ x ≤ b) : ab_inU [(a, b)] x := ⟨_, List.mem_cons_self, h⟩
theorem cx_U2o {a b c d x : Int} (h : ab_inU [(a, b), (c, d)] x) : a ≤ x ∧ x ≤ b ∨ c ≤ x ∧ x ≤ d := by
  obtain ⟨v, hv, h1, h2⟩ := h
  rcases List.mem_cons.mp hv with q | hv
  · subst q; exact Or.inl ⟨h1, h2⟩
  · rcases List.mem_cons.mp hv with q | hv
    · subst q; exact Or.inr ⟨h1, h2⟩
    · cases hv
theorem cx_U1o {a b x : Int} (h : ab_inU [(a, b)] x) : a ≤ x ∧ x ≤ b := by
  obtain ⟨v, hv, h1, h2⟩ := h
  rcases List.mem_cons.mp hv with q | hv
  · subst q; exact ⟨h1, h2⟩
  · cases hv
def ots_0 : List ab_TV := [some (.inr (.inl [1])), some (.inr (.inl [2])), some (.inr (.inl [15])), some (.inr (.inl [21])), some (.inr (.inl [43])), some (.inr (.inl [68])), some (.inr (.inl [77])), some (.inr (.inl [87])), some (.inr (.inl [101])), some (.inr (.inl [107])), some (.inr (.inl [113])), some (.inl (false, .negSucc 2147483647, .ofNat 2147483647))]
theorem otl_0 {mi : Nat → Int32} : cx_tl ots_0 (vs_0 (mi 11)) := ⟨⟨_, rfl, List.mem_cons_self⟩, ⟨_, rfl, List.mem_cons_self⟩, ⟨_, rfl, List.mem_cons_self⟩, ⟨_, rfl, List.mem_cons_self⟩, ⟨_, rfl, List.mem_cons_self⟩, ⟨_, rfl, List.mem_cons_self⟩, ⟨_, rfl, List.mem_cons_self⟩, ⟨_, rfl, List.mem_cons_self⟩, ⟨_, rfl, List.mem_cons_self⟩, ⟨_, rfl, List.mem_cons_self⟩, ⟨_, rfl, List.mem_cons_self⟩, ⟨_, rfl, lw_fullI _⟩, trivial⟩
def ots_87 : List ab_TV := [some (.inr (.inl [88])), some (.inr (.inl [89])), some (.inr (.inl [90])), some (.inr (.inl [100])), some (.inl (false, .ofNat 0, .ofNat 8)), some (.inl (false, .ofNat 0, .ofNat 8)), some (.inl (false, .negSucc 2147483647, .ofNat 2147483647)), some (.inl (false, .negSucc 2147483647, .ofNat 2147483647)), some (.inl (false, .ofNat 0, .ofNat 1))]
def obd_87 (mi : Nat → Int32) : Prop := ((Int.ofNat 0) ≤ (mi 4).toInt ∧ (mi 4).toInt ≤ (Int.ofNat 8)) ∧ ((Int.ofNat 0) ≤ (mi 5).toInt ∧ (mi 5).toInt ≤ (Int.ofNat 8)) ∧ ((Int.ofNat 0) ≤ (mi 8).toInt ∧ (mi 8).toInt ≤ (Int.ofNat 1))
theorem obd_87_of {ad : List Nat} {tS : Nat} {m : Nat → Value} (h : ab_tl ad tS ots_87 ((List.range 9).map m)) : obd_87 (fun i => cx_toI (m i)) := ⟨cx_bdI h (i := 4) rfl, cx_bdI h (i := 5) rfl, cx_bdI h (i := 8) rfl⟩
theorem otl_87 {mi : Nat → Int32} (hb : obd_87 mi) : cx_tl ots_87 ([.inr (.inl 88), .inr (.inl 89), .inr (.inl 90), .inr (.inl 100), .inl (.int (mi 4)), .inl (.int (mi 5)), .inl (.int (mi 6)), .inl (.int (mi 7)), .inl (.int (mi 8))]) := ⟨⟨_, rfl, List.mem_cons_self⟩, ⟨_, rfl, List.mem_cons_self⟩, ⟨_, rfl, List.mem_cons_self⟩, ⟨_, rfl, List.mem_cons_self⟩, ⟨_, rfl, hb.1⟩, ⟨_, rfl, hb.2.1⟩, ⟨_, rfl, lw_fullI _⟩, ⟨_, rfl, lw_fullI _⟩, ⟨_, rfl, hb.2.2⟩, trivial⟩
def ots_119 : List ab_TV := [some (.inl (false, .negSucc 2147483647, .ofNat 2147483647)), some (.inl (false, .negSucc 2147483647, .ofNat 2147483647)), some (.inr (.inl [120])), some (.inr (.inl [121])), some (.inr (.inl [122])), some (.inr (.inl [123])), some (.inr (.inl [124])), some (.inr (.inl [125])), some (.inl (false, .ofNat 0, .ofNat 4)), some (.inr (.inl [126])), some (.inl (false, .negSucc 8, .ofNat 9)), some (.inl (false, .negSucc 8, .ofNat 9)), some (.inl (false, .ofNat 0, .ofNat 99)), some (.inr (.inl [127])), some (.inr (.inl [128])), some (.inr (.inl [129])), some (.inr (.inl [130])), some (.inr (.inl [131])), some (.inr (.inl [132])), some (.inr (.inl [133])), some (.inr (.inl [134])), some (.inl (false, .ofNat 0, .ofNat 1)), some (.inl (false, .negSucc 2147483647, .ofNat 2147483647)), some (.inl (false, .negSucc 2147483647, .ofNat 2147483647)), some (.inl (false, .ofNat 0, .ofNat 1)), some (.inr (.inl [135])), some (.inl (false, .negSucc 2147483647, .ofNat 2147483647)), some (.inl (false, .ofNat 0, .ofNat 4)), some (.inr (.inl [136])), some (.inl (false, .ofNat 1, .ofNat 24)), some (.inl (false, .negSucc 2147483647, .ofNat 2147483647)), some (.inl (false, .ofNat 0, .ofNat 20)), some (.inr (.inl [137])), some (.inr (.inl [138])), some (.inr (.inl [139])), some (.inr (.inl [140])), some (.inr (.inl [141])), some (.inr (.inl [142])), some (.inr (.inl [143])), some (.inr (.inl [144])), some (.inr (.inl [145])), some (.inl (false, .ofNat 0, .ofNat 10)), some (.inl (false, .ofNat 0, .ofNat 4)), some (.inl (false, .ofNat 0, .ofNat 4)), some (.inl (false, .ofNat 0, .ofNat 4)), some (.inl (false, .negSucc 2147483647, .ofNat 2147483647)), some (.inr (.inl [146])), some (.inr (.inl [147])), some (.inr (.inl [148])), some (.inl (true, .negSucc 9223372036854775807, .ofNat 9223372036854775807)), some (.inl (true, .negSucc 9223372036854775807, .ofNat 9223372036854775807)), some (.inr (.inl [149])), some (.inr (.inl [150])), some (.inr (.inl [151])), some (.inr (.inl [152])), some (.inl (false, .ofNat 0, .ofNat 40)), some (.inr (.inl [153])), some (.inr (.inl [154])), some (.inr (.inl [155])), some (.inr (.inl [156])), some (.inr (.inl [157])), some (.inl (false, .ofNat 0, .ofNat 20)), some (.inr (.inl [158])), some (.inr (.inl [159])), some (.inr (.inl [160])), some (.inr (.inl [161])), some (.inr (.inl [162])), some (.inr (.inl [163]))]
def obd_119 (mi : Nat → Int32) : Prop := ((Int.ofNat 0) ≤ (mi 8).toInt ∧ (mi 8).toInt ≤ (Int.ofNat 4)) ∧ ((Int.negSucc 8) ≤ (mi 10).toInt ∧ (mi 10).toInt ≤ (Int.ofNat 9)) ∧ ((Int.negSucc 8) ≤ (mi 11).toInt ∧ (mi 11).toInt ≤ (Int.ofNat 9)) ∧ ((Int.ofNat 0) ≤ (mi 12).toInt ∧ (mi 12).toInt ≤ (Int.ofNat 99)) ∧ ((Int.ofNat 0) ≤ (mi 21).toInt ∧ (mi 21).toInt ≤ (Int.ofNat 1)) ∧ ((Int.ofNat 0) ≤ (mi 24).toInt ∧ (mi 24).toInt ≤ (Int.ofNat 1)) ∧ ((Int.ofNat 0) ≤ (mi 27).toInt ∧ (mi 27).toInt ≤ (Int.ofNat 4)) ∧ ((Int.ofNat 1) ≤ (mi 29).toInt ∧ (mi 29).toInt ≤ (Int.ofNat 24)) ∧ ((Int.ofNat 0) ≤ (mi 31).toInt ∧ (mi 31).toInt ≤ (Int.ofNat 20)) ∧ ((Int.ofNat 0) ≤ (mi 41).toInt ∧ (mi 41).toInt ≤ (Int.ofNat 10)) ∧ ((Int.ofNat 0) ≤ (mi 42).toInt ∧ (mi 42).toInt ≤ (Int.ofNat 4)) ∧ ((Int.ofNat 0) ≤ (mi 43).toInt ∧ (mi 43).toInt ≤ (Int.ofNat 4)) ∧ ((Int.ofNat 0) ≤ (mi 44).toInt ∧ (mi 44).toInt ≤ (Int.ofNat 4)) ∧ ((Int.ofNat 0) ≤ (mi 55).toInt ∧ (mi 55).toInt ≤ (Int.ofNat 40)) ∧ ((Int.ofNat 0) ≤ (mi 61).toInt ∧ (mi 61).toInt ≤ (Int.ofNat 20))
theorem obd_119_of {ad : List Nat} {tS : Nat} {m : Nat → Value} (h : ab_tl ad tS ots_119 ((List.range 68).map m)) : obd_119 (fun i => cx_toI (m i)) := ⟨cx_bdI h (i := 8) rfl, cx_bdI h (i := 10) rfl, cx_bdI h (i := 11) rfl, cx_bdI h (i := 12) rfl, cx_bdI h (i := 21) rfl, cx_bdI h (i := 24) rfl, cx_bdI h (i := 27) rfl, cx_bdI h (i := 29) rfl, cx_bdI h (i := 31) rfl, cx_bdI h (i := 41) rfl, cx_bdI h (i := 42) rfl, cx_bdI h (i := 43) rfl, cx_bdI h (i := 44) rfl, cx_bdI h (i := 55) rfl, cx_bdI h (i := 61) rfl⟩
theorem otl_119 {mi : Nat → Int32} {ml : Nat → Int64} (hb : obd_119 mi) : cx_tl ots_119 (vs_119 mi ml) := ⟨⟨_, rfl, lw_fullI _⟩, ⟨_, rfl, lw_fullI _⟩, ⟨_, rfl, List.mem_cons_self⟩, ⟨_, rfl, List.mem_cons_self⟩, ⟨_, rfl, List.mem_cons_self⟩, ⟨_, rfl, List.mem_cons_self⟩, ⟨_, rfl, List.mem_cons_self⟩, ⟨_, rfl, List.mem_cons_self⟩, ⟨_, rfl, hb.1⟩, ⟨_, rfl, List.mem_cons_self⟩, ⟨_, rfl, hb.2.1⟩, ⟨_, rfl, hb.2.2.1⟩, ⟨_, rfl, hb.2.2.2.1⟩, ⟨_, rfl, List.mem_cons_self⟩, ⟨_, rfl, List.mem_cons_self⟩, ⟨_, rfl, List.mem_cons_self⟩, ⟨_, rfl, List.mem_cons_self⟩, ⟨_, rfl, List.mem_cons_self⟩, ⟨_, rfl, List.mem_cons_self⟩, ⟨_, rfl, List.mem_cons_self⟩, ⟨_, rfl, List.mem_cons_self⟩, ⟨_, rfl, hb.2.2.2.2.1⟩, ⟨_, rfl, lw_fullI _⟩, ⟨_, rfl, lw_fullI _⟩, ⟨_, rfl, hb.2.2.2.2.2.1⟩, ⟨_, rfl, List.mem_cons_self⟩, ⟨_, rfl, lw_fullI _⟩, ⟨_, rfl, hb.2.2.2.2.2.2.1⟩, ⟨_, rfl, List.mem_cons_self⟩, ⟨_, rfl, hb.2.2.2.2.2.2.2.1⟩, ⟨_, rfl, lw_fullI _⟩, ⟨_, rfl, hb.2.2.2.2.2.2.2.2.1⟩, ⟨_, rfl, List.mem_cons_self⟩, ⟨_, rfl, List.mem_cons_self⟩, ⟨_, rfl, List.mem_cons_self⟩, ⟨_, rfl, List.mem_cons_self⟩, ⟨_, rfl, List.mem_cons_self⟩, ⟨_, rfl, List.mem_cons_self⟩, ⟨_, rfl, List.mem_cons_self⟩, ⟨_, rfl, List.mem_cons_self⟩, ⟨_, rfl, List.mem_cons_self⟩, ⟨_, rfl, hb.2.2.2.2.2.2.2.2.2.1⟩, ⟨_, rfl, hb.2.2.2.2.2.2.2.2.2.2.1⟩, ⟨_, rfl, hb.2.2.2.2.2.2.2.2.2.2.2.1⟩, ⟨_, rfl, hb.2.2.2.2.2.2.2.2.2.2.2.2.1⟩, ⟨_, rfl, lw_fullI _⟩, ⟨_, rfl, List.mem_cons_self⟩, ⟨_, rfl, List.mem_cons_self⟩, ⟨_, rfl, List.mem_cons_self⟩, ⟨_, rfl, lx_fullL _⟩, ⟨_, rfl, lx_fullL _⟩, ⟨_, rfl, List.mem_cons_self⟩, ⟨_, rfl, List.mem_cons_self⟩, ⟨_, rfl, List.mem_cons_self⟩, ⟨_, rfl, List.mem_cons_self⟩, ⟨_, rfl, hb.2.2.2.2.2.2.2.2.2.2.2.2.2.1⟩, ⟨_, rfl, List.mem_cons_self⟩, ⟨_, rfl, List.mem_cons_self⟩, ⟨_, rfl, List.mem_cons_self⟩, ⟨_, rfl, List.mem_cons_self⟩, ⟨_, rfl, List.mem_cons_self⟩, ⟨_, rfl, hb.2.2.2.2.2.2.2.2.2.2.2.2.2.2⟩, ⟨_, rfl, List.mem_cons_self⟩, ⟨_, rfl, List.mem_cons_self⟩, ⟨_, rfl, List.mem_cons_self⟩, ⟨_, rfl, List.mem_cons_self⟩, ⟨_, rfl, List.mem_cons_self⟩, ⟨_, rfl, List.mem_cons_self⟩, trivial⟩
theorem cx_of_rowE {ad : List Nat} {tS t N : Nat} {cs : Nat → ClassId} {vs : List ab_Iv} {e : va_E} (ht : t = 0 ∨ t = 2) (h : ab_tc ad tS (ab_tys cs) (t, N, .inr (.inl vs)) e) : ∃ f : Nat → Int32, cx_cell ad tS cs (.inr (.inl (t, N, f))) e ∧ ∀ (i : Nat) (v : ab_Iv), vs[i]? = some v → v.1 ≤ (f i).toInt ∧ (f i).toInt ≤ v.2 := by
  match e, h with
  | .inr (ci, fs), ⟨_, _, tvs, h3, _⟩ => cases h3
  | .inl (cA, N', .inl f), ⟨h1, ⟨ty, h2, _⟩, _, h4⟩ =>
    have e1 : cA = cs t := by
      rcases ht with rfl | rfl
      · have h5 : some (cs 0, FieldType.int) = some (cA, ty) := h2
        cases h5
        rfl
      · have h5 : some (cs 2, FieldType.boolean) = some (cA, ty) := h2
        cases h5
        rfl
    have e2 : N' = N := h1
    subst e1; subst e2
    rcases h4 with ⟨U', h6, _⟩ | ⟨vs', h6, _, h7⟩ | ⟨ks, h6, _⟩
    · cases h6
    · cases h6
      exact ⟨f, ⟨ht, rfl⟩, h7⟩
    · cases h6
  | .inl (cA, N', .inr (.inl f)), ⟨_, h2, _⟩ =>
    rcases ht with rfl | rfl
    · have h5 : some (cs 0, FieldType.int) = some (cA, FieldType.long) := h2
      cases h5
    · have h5 : some (cs 2, FieldType.boolean) = some (cA, FieldType.long) := h2
      cases h5
  | .inl (cA, N', .inr (.inr (.inr (.inr f)))), ⟨_, ⟨tt, h2⟩, _⟩ =>
    rcases ht with rfl | rfl
    · have h5 : some (cs 0, FieldType.int) = some (cA, FieldType.array tt) := h2
      cases h5
    · have h5 : some (cs 2, FieldType.boolean) = some (cA, FieldType.array tt) := h2
      cases h5
  | .inl (cA, N', .inr (.inr (.inl f))), h => exact h.elim
  | .inl (cA, N', .inr (.inr (.inr (.inl f)))), h => exact h.elim
theorem cx_to_rowE {ad : List Nat} {tS t N : Nat} {cs : Nat → ClassId} {vs : List ab_Iv} {e : va_E} {f : Nat → Int32} (h : cx_cell ad tS cs (.inr (.inl (t, N, f))) e) (hl : vs.length = N) (hU : ∀ (i : Nat) (v : ab_Iv), vs[i]? = some v → v.1 ≤ (f i).toInt ∧ (f i).toInt ≤ v.2) : ab_tc ad tS (ab_tys cs) (t, N, .inr (.inl vs)) e := by
  obtain ⟨ht, rfl⟩ := h
  rcases ht with h0 | h0
  · have h0 : t = 0 := h0
    subst h0
    exact ⟨rfl, ⟨.int, rfl, Or.inl rfl⟩, rfl, Or.inr (Or.inl ⟨vs, rfl, hl, hU⟩)⟩
  · have h0 : t = 2 := h0
    subst h0
    exact ⟨rfl, ⟨.boolean, rfl, Or.inr rfl⟩, rfl, Or.inr (Or.inl ⟨vs, rfl, hl, hU⟩)⟩
/-- rows of one interval, again and again -/
theorem rp_nth {v w : ab_Iv} {n i : Nat} (h : (ab_rp n v [])[i]? = some w) : i < n ∧ w = v := by
  have e : ∀ m : Nat, ab_rp m v [] = List.replicate m v := fun m => by
    induction m with
    | zero => rfl
    | succ m ih => show v :: ab_rp m v [] = _; rw [ih]; rfl
  rw [e, List.getElem?_replicate] at h
  split at h
  · rename_i q; exact ⟨q, (Option.some.inj h).symm⟩
  · cases h
theorem rp_at {v : ab_Iv} {n i : Nat} (h : i < n) : (ab_rp n v [])[i]? = some v := by
  have e : ∀ m : Nat, ab_rp m v [] = List.replicate m v := fun m => by
    induction m with
    | zero => rfl
    | succ m ih => show v :: ab_rp m v [] = _; rw [ih]; rfl
  rw [e, List.getElem?_replicate, if_pos h]
def F9 (f0 f1 f2 f3 f4 f5 f6 f7 f8 : Nat → Int32) : Nat → Nat → Int32 := fun i => bif Nat.beq i 0 then f0 else bif Nat.beq i 1 then f1 else bif Nat.beq i 2 then f2 else bif Nat.beq i 3 then f3 else bif Nat.beq i 4 then f4 else bif Nat.beq i 5 then f5 else bif Nat.beq i 6 then f6 else bif Nat.beq i 7 then f7 else f8
theorem XR_cong {lm fm fb mk ch lm' fm' fb' mk' ch' : Nat → Int32} {lo fo jc us kn : Int32} {LN FN : Nat} (h : XR lm fm fb mk ch lo fo jc us kn LN FN) (h1 : ∀ i : Nat, i < 8 → lm' i = lm i) (h2 : ∀ i : Nat, i < 8 → fm' i = fm i) (h3 : ∀ i : Nat, i < 8 → fb' i = fb i) (h4 : ∀ i : Nat, i < 16 → mk' i = mk i) (h5 : ∀ i : Nat, i < 2 → ch' i = ch i) : XR lm' fm' fb' mk' ch' lo fo jc us kn LN FN := by
  obtain ⟨a1, a2, a3, a4, a5, a6, a7, a8⟩ := h
  refine ⟨a1, a2, by rw [h5 0 (by omega)]; exact a3, by rw [h5 1 (by omega)]; exact a4, a5, a6, fun x hx => ?_, fun q => ?_⟩
  · rw [h1 x hx, h2 x hx, h4 x (by omega), h4 (8 + x) (by omega)]; exact a7 x hx
  · obtain ⟨b1, b2, b3⟩ := a8 q
    have e : uN lm' fm' = uN lm fm := by
      funext k f
      unfold uN
      rw [nz8_E h1, nz8_E h2]
    unfold JR
    rw [e]
    exact ⟨b1, b2, fun x hx => by rw [h3 x (by omega)]; exact b3 x hx⟩
theorem uN_X {lm fm mk : Nat → Int32} (h : ∀ x : Nat, x < 8 → lm x = mk x ∧ fm x = mk (8 + x)) : uN lm fm = uN mk (fmO mk) := by
  funext k f
  unfold uN
  rw [nz8_E (fun i hi => (h i hi).1), nz8_E (f := fm) (g := fmO mk) (fun i hi => (h i hi).2)]
theorem jsE {w z z2 : Int32} {u : Nat → Nat → Int} {FN LN : Nat} (hu : ∀ k f, 0 ≤ u k f) (hL : LN ≤ 8) (h1 : jsA w u 64 FN LN z) (h2 : jsA w u 100 FN LN z2) : z = z2 := by
  apply cx_i32
  unfold jsA at h1 h2
  rw [jN_E hu hL LN (Nat.le_refl _), jM_E hu hL LN (Nat.le_refl _)] at h1
  omega
theorem jdE {x z z2 : Int32} {u : Nat → Nat → Int} {FN LN : Nat} (hu : ∀ k f, 0 ≤ u k f) (hL : LN ≤ 8) (h1 : jdA x u 64 FN LN z) (h2 : jdA x u 100 FN LN z2) : z = z2 := by
  apply cx_i32
  unfold jdA at h1 h2
  by_cases q : 0 ≤ x.toInt ∧ x.toInt < (LN : Int)
  · have hk := ab_clamp q.1
    rw [jA_E hu hL (show x.toNatClampNeg < LN by omega)] at h1
    omega
  · omega
theorem suA_E {u : Nat → Nat → Int} {FN LN k : Nat} (hu : ∀ k f, 0 ≤ u k f) (hL : LN ≤ 8) (hk : k < LN) : suA u 64 FN LN k ↔ suA u 100 FN LN k := by
  unfold suA
  rw [jT_E hu hL k (by omega), jJ_E hu hL hk]
theorem srE {x z z2 : Int32} {u : Nat → Nat → Int} {FN LN : Nat} (hu : ∀ k f, 0 ≤ u k f) (hL : LN ≤ 8) (h1 : srA x u 64 FN LN z) (h2 : srA x u 100 FN LN z2) : z = z2 := by
  unfold srA at h1 h2
  rcases h1 with ⟨q, h1⟩ | ⟨q, h1⟩ <;> rcases h2 with ⟨q2, h2⟩ | ⟨q2, h2⟩
  · have hk := ab_clamp q.1
    rw [suA_E hu hL (show x.toNatClampNeg < LN by omega)] at h1
    rcases h1 with ⟨c, h1⟩ | ⟨c, h1⟩ <;> rcases h2 with ⟨c2, h2⟩ | ⟨c2, h2⟩
    · rw [h1, h2]
    · exact absurd c c2
    · exact absurd c2 c
    · rw [h1, h2]
  · exact absurd q q2
  · exact absurd q2 q
  · exact cx_i32 (by omega)
theorem chE {fd m z z2 : Int32} {LN FN LN2 FN2 LN3 FN3 : Nat} {lm fm mk gk lm2 fm2 mk2 gk2 : Nat → Int32} (hR : ∀ x : Nat, x < 8 → lm x = mk x ∧ fm x = gk x) (h1 : chA fd m LN FN lm fm z LN2 FN2 lm2 fm2) (h2 : chA fd m LN FN mk gk z2 LN3 FN3 mk2 gk2) : z = z2 ∧ LN2 = LN3 ∧ FN2 = FN3 ∧ (∀ x : Nat, x < 8 → lm2 x = mk2 x ∧ fm2 x = gk2 x) ∧ (LN ≤ 8 → LN2 ≤ 8) ∧ (FN ≤ 8 → FN2 ≤ 8) := by
  unfold chA at h1 h2
  rcases h1 with ⟨a1, a2, a3, a4, a5, a6⟩ | ⟨a0, a1, a2, a3, a4, a5, a6⟩ | ⟨a0, a1, a7, a2, a3, a4, a5, a6⟩ | ⟨a0, a1, a7, a8, a2, a3, a4, a5, a6⟩ | ⟨a0, a1, a7, a8, a2, a3, a4, a5, a6⟩ <;> rcases h2 with ⟨b1, b2, b3, b4, b5, b6⟩ | ⟨b0, b1, b2, b3, b4, b5, b6⟩ | ⟨b0, b1, b7, b2, b3, b4, b5, b6⟩ | ⟨b0, b1, b7, b8, b2, b3, b4, b5, b6⟩ | ⟨b0, b1, b7, b8, b2, b3, b4, b5, b6⟩ <;> first | (exfalso; omega) | skip
  · exact ⟨cx_i32 (by omega), by omega, by omega, fun x hx => by rw [a5 x hx, a6 x hx, b5 x hx, b6 x hx]; exact hR x hx, fun _ => by omega, fun _ => by omega⟩
  · exact ⟨cx_i32 (by omega), by omega, by omega, fun x hx => by rw [a5 x hx, a6 x hx, b5 x hx, b6 x hx]; exact hR x hx, fun _ => by omega, fun _ => by omega⟩
  · exact ⟨cx_i32 (by omega), by omega, by omega, fun x hx => by rw [a5 x hx, a6 x hx, b5 x hx, b6 x hx]; exact hR x hx, fun _ => by omega, fun _ => by omega⟩
  · refine ⟨cx_i32 (by omega), by omega, by omega, fun x hx => ?_, fun _ => by omega, fun _ => by omega⟩
    rw [a5 x hx, a6 x hx, b5 x hx, b6 x hx]
    unfold upd
    rw [(hR x hx).1]
    exact ⟨rfl, (hR x hx).2⟩
  · refine ⟨cx_i32 (by omega), by omega, by omega, fun x hx => ?_, fun _ => by omega, fun _ => by omega⟩
    rw [a5 x hx, a6 x hx, b5 x hx, b6 x hx]
    unfold upd
    rw [(hR x hx).2]
    exact ⟨(hR x hx).1, rfl⟩
theorem tk26a : lw_THs.all (fun th => tr_3 th [(0, ci_0), (1, ci_1), (87, ci_87), (88, ci_88), (89, ci_89), (90, ci_90), (91, ci_91), (92, ci_92), (93, ci_93), (94, ci_94), (95, ci_95), (96, ci_96), (97, ci_97), (98, ci_98), (99, ci_99), (100, ci_100), (119, ci_119), (126, ci_126), (149, ci_149), (150, ci_150), (151, ci_151), (152, ci_152)]) = true := by decide +kernel
theorem tk26x : lw_THs.all (fun th => th.all (tr_1 (cx_M [0, 1, 87, 88, 89, 90, 91, 92, 93, 94, 95, 96, 97, 98, 99, 100] [6574, 6575, 6576]) th [(0, ci_0), (1, ci_1), (87, ci_87), (88, ci_88), (89, ci_89), (90, ci_90), (91, ci_91), (92, ci_92), (93, ci_93), (94, ci_94), (95, ci_95), (96, ci_96), (97, ci_97), (98, ci_98), (99, ci_99), (100, ci_100)])) = true := by decide +kernel
theorem tk26m : lw_THs.all (fun th => th.all (tr_1 (cx_M [119, 126, 149, 150, 151, 152] [8616]) th [(119, ci_119), (126, ci_126), (149, ci_149), (150, ci_150), (151, ci_151), (152, ci_152)])) = true := by decide +kernel
theorem tz_26 : ∀ th ∈ lw_THs, lw_TQ 1329 th := by
  intro th hmem p l e s m below meth c D A Q cs tS b L i0 cells slots xs iv ws ls F0 hcs hiv hL hL2 hl hth hEQ hlen K
  have h3 := tr_3_ok (List.all_eq_true.mp tk26a th hmem) hth
  obtain ⟨a0, e0, w0, t0⟩ := h3 _ (List.mem_of_getElem? (i := 0) rfl)
  obtain ⟨a1, e1, w1, t1⟩ := h3 _ (List.mem_of_getElem? (i := 1) rfl)
  obtain ⟨a87, e87, w87, t87⟩ := h3 _ (List.mem_of_getElem? (i := 2) rfl)
  obtain ⟨a88, e88, w88, t88⟩ := h3 _ (List.mem_of_getElem? (i := 3) rfl)
  obtain ⟨a89, e89, w89, t89⟩ := h3 _ (List.mem_of_getElem? (i := 4) rfl)
  obtain ⟨a90, e90, w90, t90⟩ := h3 _ (List.mem_of_getElem? (i := 5) rfl)
  obtain ⟨a91, e91, w91, t91⟩ := h3 _ (List.mem_of_getElem? (i := 6) rfl)
  obtain ⟨a92, e92, w92, t92⟩ := h3 _ (List.mem_of_getElem? (i := 7) rfl)
  obtain ⟨a93, e93, w93, t93⟩ := h3 _ (List.mem_of_getElem? (i := 8) rfl)
  obtain ⟨a94, e94, w94, t94⟩ := h3 _ (List.mem_of_getElem? (i := 9) rfl)
  obtain ⟨a95, e95, w95, t95⟩ := h3 _ (List.mem_of_getElem? (i := 10) rfl)
  obtain ⟨a96, e96, w96, t96⟩ := h3 _ (List.mem_of_getElem? (i := 11) rfl)
  obtain ⟨a97, e97, w97, t97⟩ := h3 _ (List.mem_of_getElem? (i := 12) rfl)
  obtain ⟨a98, e98, w98, t98⟩ := h3 _ (List.mem_of_getElem? (i := 13) rfl)
  obtain ⟨a99, e99, w99, t99⟩ := h3 _ (List.mem_of_getElem? (i := 14) rfl)
  obtain ⟨a100, e100, w100, t100⟩ := h3 _ (List.mem_of_getElem? (i := 15) rfl)
  obtain ⟨a119, e119, w119, t119⟩ := h3 _ (List.mem_of_getElem? (i := 16) rfl)
  obtain ⟨a126, e126, w126, t126⟩ := h3 _ (List.mem_of_getElem? (i := 17) rfl)
  obtain ⟨a149, e149, w149, t149⟩ := h3 _ (List.mem_of_getElem? (i := 18) rfl)
  obtain ⟨a150, e150, w150, t150⟩ := h3 _ (List.mem_of_getElem? (i := 19) rfl)
  obtain ⟨a151, e151, w151, t151⟩ := h3 _ (List.mem_of_getElem? (i := 20) rfl)
  obtain ⟨a152, e152, w152, t152⟩ := h3 _ (List.mem_of_getElem? (i := 21) rfl)
  obtain ⟨m0, c0, b0⟩ := cx_of_obj (ci := 10) (N := 12) (tvs := ots_0) t0
  obtain ⟨r1, c1, u1⟩ := cx_of_row (t := 0) (N := 7) (Or.inl rfl) t1
  obtain ⟨m87, c87, b87⟩ := cx_of_obj (ci := 0) (N := 9) (tvs := ots_87) t87
  have hbd87 := obd_87_of b87
  obtain ⟨lm, c88, u88⟩ := cx_of_row (t := 0) (N := 8) (Or.inl rfl) t88
  obtain ⟨fm, c89, u89⟩ := cx_of_row (t := 0) (N := 8) (Or.inl rfl) t89
  have c90 := cx_of_rows (t := 3) (N := 9) (ks := [91, 92, 93, 94, 95, 96, 97, 98, 99]) (Or.inl rfl) t90
  obtain ⟨V0, c91, u91⟩ := cx_of_row (t := 0) (N := 256) (Or.inl rfl) t91
  obtain ⟨V1, c92, u92⟩ := cx_of_row (t := 0) (N := 256) (Or.inl rfl) t92
  obtain ⟨V2, c93, u93⟩ := cx_of_row (t := 0) (N := 256) (Or.inl rfl) t93
  obtain ⟨V3, c94, u94⟩ := cx_of_row (t := 0) (N := 256) (Or.inl rfl) t94
  obtain ⟨V4, c95, u95⟩ := cx_of_row (t := 0) (N := 256) (Or.inl rfl) t95
  obtain ⟨V5, c96, u96⟩ := cx_of_row (t := 0) (N := 256) (Or.inl rfl) t96
  obtain ⟨V6, c97, u97⟩ := cx_of_row (t := 0) (N := 256) (Or.inl rfl) t97
  obtain ⟨V7, c98, u98⟩ := cx_of_row (t := 0) (N := 256) (Or.inl rfl) t98
  obtain ⟨V8, c99, u99⟩ := cx_of_row (t := 0) (N := 256) (Or.inl rfl) t99
  obtain ⟨fb, c100, u100⟩ := cx_of_row (t := 0) (N := 8) (Or.inl rfl) t100
  obtain ⟨m119, c119, b119⟩ := cx_of_obj (ci := 11) (N := 68) (tvs := ots_119) t119
  have hbd119 := obd_119_of b119
  obtain ⟨r2, c126, u126⟩ := cx_of_row (t := 0) (N := 7) (Or.inl rfl) t126
  obtain ⟨ch, c149, u149⟩ := cx_of_rowE (N := 2) (Or.inl rfl) t149
  obtain ⟨mk, c150, u150⟩ := cx_of_row (t := 0) (N := 16) (Or.inl rfl) t150
  obtain ⟨T, c151, u151⟩ := cx_of_row (t := 0) (N := 2304) (Or.inl rfl) t151
  obtain ⟨jt, c152, u152⟩ := cx_of_rowE (N := 8) (Or.inl rfl) t152
  have hX : cx_heap tS cs (h_xc (cx_toI (m0 11)) r1 (cx_toI (m87 4)) (cx_toI (m87 5)) (cx_toI (m87 6)) (cx_toI (m87 7)) (cx_toI (m87 8)) lm fm fb (F9 V0 V1 V2 V3 V4 V5 V6 V7 V8)) ws := cx_heap_of (List.forall_mem_cons.mpr ⟨⟨a0, e0, w0, c0⟩, (List.forall_mem_cons.mpr ⟨⟨a1, e1, w1, c1⟩, (List.forall_mem_cons.mpr ⟨⟨a87, e87, w87, c87⟩, (List.forall_mem_cons.mpr ⟨⟨a88, e88, w88, c88⟩, (List.forall_mem_cons.mpr ⟨⟨a89, e89, w89, c89⟩, (List.forall_mem_cons.mpr ⟨⟨a90, e90, w90, c90⟩, (List.forall_mem_cons.mpr ⟨⟨a91, e91, w91, c91⟩, (List.forall_mem_cons.mpr ⟨⟨a92, e92, w92, c92⟩, (List.forall_mem_cons.mpr ⟨⟨a93, e93, w93, c93⟩, (List.forall_mem_cons.mpr ⟨⟨a94, e94, w94, c94⟩, (List.forall_mem_cons.mpr ⟨⟨a95, e95, w95, c95⟩, (List.forall_mem_cons.mpr ⟨⟨a96, e96, w96, c96⟩, (List.forall_mem_cons.mpr ⟨⟨a97, e97, w97, c97⟩, (List.forall_mem_cons.mpr ⟨⟨a98, e98, w98, c98⟩, (List.forall_mem_cons.mpr ⟨⟨a99, e99, w99, c99⟩, (List.forall_mem_cons.mpr ⟨⟨a100, e100, w100, c100⟩, (fun _ h => absurd h List.not_mem_nil)⟩)⟩)⟩)⟩)⟩)⟩)⟩)⟩)⟩)⟩)⟩)⟩)⟩)⟩)⟩)⟩)
  have hM : cx_heap tS cs (h_mc (fun i => cx_toI (m119 i)) (fun i => cx_toL (m119 i)) r2 ch mk T jt) ws := cx_heap_of (List.forall_mem_cons.mpr ⟨⟨a119, e119, w119, c119⟩, (List.forall_mem_cons.mpr ⟨⟨a126, e126, w126, c126⟩, (List.forall_mem_cons.mpr ⟨⟨a149, e149, w149, c149⟩, (List.forall_mem_cons.mpr ⟨⟨a150, e150, w150, c150⟩, (List.forall_mem_cons.mpr ⟨⟨a151, e151, w151, c151⟩, (List.forall_mem_cons.mpr ⟨⟨a152, e152, w152, c152⟩, (fun _ h => absurd h List.not_mem_nil)⟩)⟩)⟩)⟩)⟩)⟩)
  have ha0 : (ws.map (·.1))[0]? = some a0 := by rw [List.getElem?_map, w0]; rfl
  have ha119 : (ws.map (·.1))[119]? = some a119 := by rw [List.getElem?_map, w119]; rfl
  obtain ⟨lm0, fm0, fb0, mk0, ch0, lo0, fo0, jc0, us0, kn0, LN, FN, q88, q89, q100, q149, q150, f4, f5, f6, f7, f8, hXR⟩ := hEQ.2
  have q88 : rl_row ws 88 = some ((List.range 8).map (fun i => .int (lm0 i))) := q88
  have q89 : rl_row ws 89 = some ((List.range 8).map (fun i => .int (fm0 i))) := q89
  have q100 : rl_row ws 100 = some ((List.range 8).map (fun i => .int (fb0 i))) := q100
  have q149 : rl_row ws 149 = some ((List.range 2).map (fun i => .int (ch0 i))) := q149
  have q150 : rl_row ws 150 = some ((List.range 16).map (fun i => .int (mk0 i))) := q150
  rw [cx_rowv w88 c88] at q88
  rw [cx_rowv w89 c89] at q89
  rw [cx_rowv w100 c100] at q100
  rw [cx_rowv w149 c149] at q149
  rw [cx_rowv w150 c150] at q150
  rw [cx_fldv w87 c87 (x := cx_toI (m87 4)) rfl rfl] at f4
  rw [cx_fldv w87 c87 (x := cx_toI (m87 5)) rfl rfl] at f5
  rw [cx_fldv w87 c87 (x := cx_toI (m87 6)) rfl rfl] at f6
  rw [cx_fldv w87 c87 (x := cx_toI (m87 7)) rfl rfl] at f7
  rw [cx_fldv w87 c87 (x := cx_toI (m87 8)) rfl rfl] at f8
  have f4 : cx_toI (m87 4) = lo0 := Value.int.inj (Option.some.inj f4)
  have f5 : cx_toI (m87 5) = fo0 := Value.int.inj (Option.some.inj f5)
  have f6 : cx_toI (m87 6) = jc0 := Value.int.inj (Option.some.inj f6)
  have f7 : cx_toI (m87 7) = us0 := Value.int.inj (Option.some.inj f7)
  have f8 : cx_toI (m87 8) = kn0 := Value.int.inj (Option.some.inj f8)
  rw [← f4, ← f5, ← f6, ← f7, ← f8] at hXR
  have hXR := XR_cong hXR (cx_rowE (Option.some.inj q88)) (cx_rowE (Option.some.inj q89)) (cx_rowE (Option.some.inj q100)) (cx_rowE (Option.some.inj q150)) (cx_rowE (Option.some.inj q149))
  obtain ⟨hlo, hfo, hc0, hc1, hLN, hFN, hmk, hJ⟩ := id hXR
  have hk1 : (0 : Int) ≤ (cx_toI (m87 8)).toInt ∧ (cx_toI (m87 8)).toInt ≤ 1 := hbd87.2.2
  have hkn : cx_toI (m87 8) = Int32.ofInt 0 ∨ cx_toI (m87 8) = Int32.ofInt 1 := by
    have k0 : (Int32.ofInt 0).toInt = 0 := by decide +kernel
    have k1 : (Int32.ofInt 1).toInt = 1 := by decide +kernel
    rcases (show (cx_toI (m87 8)).toInt = 0 ∨ (cx_toI (m87 8)).toInt = 1 by omega) with q | q
    · exact Or.inl (cx_i32 (by rw [q, k0]))
    · exact Or.inr (cx_i32 (by rw [q, k1]))
  have hFB : FB fb := fun x hx => by
    have h1 : ((-9 : Int) ≤ (fb x).toInt ∧ (fb x).toInt ≤ -9) ∨ ((0 : Int) ≤ (fb x).toInt ∧ (fb x).toInt ≤ 7) := cx_U2o (u100 x hx)
    omega
  have huE := uN_X hmk
  have hu0 : ∀ k f, 0 ≤ uN mk (fmO mk) k f := fun k f => (uN_b k f).1
  have hJB : JB jt := fun x hx => by
    have h1 : (-9 : Int) ≤ (jt x).toInt ∧ (jt x).toInt ≤ 7 := u152 x _ (rp_at hx)
    exact h1
  obtain ⟨fs0, e0q, -⟩ := id c0
  subst e0q
  refine lx_x F0 hl (pc' := 1330) (ab_tbo lto_26 _ _ _ (List.mem_of_getElem? (i := 0) rfl)) rfl ha0 ?_
  refine lx_arg F0 hiv hL hL2 hl (z := 1) (pc' := 1336) rfl (ab_tbo lto_26 _ _ _ (List.mem_of_getElem? (i := 1) rfl)) (ab_tbo lto_26 _ _ _ (List.mem_of_getElem? (i := 2) rfl)) (ab_tbo lto_26 _ _ _ (List.mem_of_getElem? (i := 3) rfl)) (ab_tbo lto_26 _ _ _ (List.mem_of_getElem? (i := 4) rfl)) (ab_tbo lto_26 _ _ _ (List.mem_of_getElem? (i := 5) rfl)) rfl ?_
  obtain ⟨d1, hd1, Ct1⟩ := ct_js (dy := cx_toI (m0 11)) (lo := (cx_toI (m87 4))) (fo := (cx_toI (m87 5))) (jc := (cx_toI (m87 6))) (us := (cx_toI (m87 7))) (kn := (cx_toI (m87 8))) (r := r1) (lm := lm) (fm := fm) (fb := fb) (V := (F9 V0 V1 V2 V3 V4 V5 V6 V7 V8)) (LN := LN) (FN := FN) (w := xs (i0 + 1)) hlo hLN hfo hFN hkn hJ hFB l D cs tS ws [.ref a0, .int (xs (i0 + 1))] hX ⟨⟨a0, ha0, rfl⟩, rfl, trivial⟩
  refine lx_call F0 hcs hl (pc' := 1339) (q := 154) (n := 1) (ci := 10) (As := [.int (xs (i0 + 1))]) (stk := []) (ab_tbo lto_26 _ _ _ (List.mem_of_getElem? (i := 6) rfl)) rfl rfl rfl w0 (by decide) ⟨d1, by omega, Ct1⟩ rfl (fun rv ws1 hp1 => ?_)
  obtain ⟨v, h1, ⟨z, rr, jc2, us2, kn2, fb2, V2, rfl, rfl, hkk, hJ2, hB2, hdx⟩, hk1, hf1, hH1, hrv⟩ := hp1
  obtain rfl : rv = some (.int z) := by
    cases rv with
    | none => exact hrv.elim
    | some y => exact congrArg some hrv
  show ab_W p l e room_1 s m #[Value.ref b] below meth c D vwCl A Q cells slots 1339 ls [.int z] ws1
  refine lx_pop F0 (pc' := 1340) (ab_tbo lto_26 _ _ _ (List.mem_of_getElem? (i := 7) rfl)) rfl ?_
  have hl1 := lx_Lc hl hf1.1
  have hM1 := cx_heap_far hM hf1 rfl
  have ha119b : (ws1.map (·.1))[119]? = some a119 := by rw [hf1.1]; exact ha119
  refine lx_m F0 hl1 (pc' := 1341) (ab_tbo lto_26 _ _ _ (List.mem_of_getElem? (i := 8) rfl)) rfl ha119b ?_
  refine lx_arg F0 hiv hL hL2 hl1 (z := 1) (pc' := 1347) rfl (ab_tbo lto_26 _ _ _ (List.mem_of_getElem? (i := 9) rfl)) (ab_tbo lto_26 _ _ _ (List.mem_of_getElem? (i := 10) rfl)) (ab_tbo lto_26 _ _ _ (List.mem_of_getElem? (i := 11) rfl)) (ab_tbo lto_26 _ _ _ (List.mem_of_getElem? (i := 12) rfl)) (ab_tbo lto_26 _ _ _ (List.mem_of_getElem? (i := 13) rfl)) rfl ?_
  obtain ⟨a119c, e119c, w119c, c119c⟩ := hM1 119 _ rfl
  obtain ⟨fs119c, e119d, -⟩ := id c119c
  subst e119d
  have eadd : a119c = a119 := ab_ad_get ha119b w119c
  rw [eadd] at w119c
  obtain ⟨d2, hd2, Ct2⟩ := ct_mjs (mi := fun i => cx_toI (m119 i)) (ml := fun i => cx_toL (m119 i)) (r := r2) (mk := mk) (ch := ch) (T := T) (jt := jt) (LN := LN) (FN := FN) (w := xs (i0 + 1)) hc0 hLN hc1 hFN hJB l D cs tS ws1 [.ref a119, .int (xs (i0 + 1))] hM1 ⟨⟨a119, ha119b, rfl⟩, rfl, trivial⟩
  refine lx_call F0 hcs hl1 (pc' := 1350) (q := 243) (n := 1) (ci := 11) (As := [.int (xs (i0 + 1))]) (stk := []) (ab_tbo lto_26 _ _ _ (List.mem_of_getElem? (i := 14) rfl)) rfl rfl rfl w119c (by first | decide | exact (by decide : (1 : Nat) ≤ 8)) ⟨d2, by omega, Ct2⟩ rfl (fun rv2 ws2 hp2 => ?_)
  obtain ⟨v2, h2, ⟨z2, rr2, T2, jt2, rfl, rfl, hJB2, hdm⟩, hk2, hf2, hH2, hrv2⟩ := hp2
  obtain rfl : rv2 = some (.int z2) := by
    cases rv2 with
    | none => exact hrv2.elim
    | some y => exact congrArg some hrv2
  show ab_W p l e room_1 s m #[Value.ref b] below meth c D vwCl A Q cells slots 1350 ls [.int z2] ws2
  have hk2b : (0 : Int) ≤ kn2.toInt ∧ kn2.toInt ≤ 1 := by
    have k0 : (Int32.ofInt 0).toInt = 0 := by decide +kernel
    have k1 : (Int32.ofInt 1).toInt = 1 := by decide +kernel
    rcases hkk with q | q <;> rw [q] <;> omega
  have hbd2 : obd_87 (upi (upi (upi (fun i => cx_toI (m87 i)) 6 jc2) 7 us2) 8 kn2) := ⟨hbd87.1, hbd87.2.1, hk2b⟩
  have hU100 : ∀ i : Nat, i < 8 → ab_inU [(Int.negSucc 8, Int.negSucc 8), (Int.ofNat 0, Int.ofNat 7)] (fb2 i).toInt := fun i hi => by
    have h1 : ((-9 : Int) ≤ (fb2 i).toInt ∧ (fb2 i).toInt ≤ -9) ∨ ((0 : Int) ≤ (fb2 i).toInt ∧ (fb2 i).toInt ≤ 7) := by have := hB2 i hi; omega
    exact cx_U2 h1
  have hE152 : ∀ (i : Nat) (v : ab_Iv), (ab_rp 8 (Int.negSucc 8, Int.ofNat 7) [])[i]? = some v → v.1 ≤ (jt2 i).toInt ∧ (jt2 i).toInt ≤ v.2 := fun i v hv => by
    obtain ⟨h1, rfl⟩ := rp_nth hv
    have h2 : (-9 : Int) ≤ (jt2 i).toInt ∧ (jt2 i).toInt ≤ 7 := hJB2 i h1
    exact h2
  rw [huE] at hdx
  have hfin : z = z2 := jsE hu0 hLN hdx hdm
  have hlen1 : ws1.length = 165 := by have := congrArg List.length hf1.1; simpa [hlen] using this
  have hlen2 : ws2.length = 165 := by have := congrArg List.length hf2.1; simpa [hlen1] using this
  have hth1 : ab_th tS (ab_tys cs) th ws1 := lx_done (fl := [6574, 6575, 6576]) hth hX hH1 ⟨⟨rfl, rfl, Or.inr rfl, Or.inr rfl, Or.inr rfl, Or.inr rfl, Or.inr rfl, Or.inr rfl, Or.inr rfl, Or.inr rfl, Or.inr rfl, Or.inr rfl, Or.inr rfl, Or.inr rfl, trivial⟩, ⟨rfl, trivial⟩, ⟨rfl, rfl, Or.inr rfl, Or.inr rfl, Or.inr rfl, Or.inr rfl, Or.inr rfl, Or.inr rfl, Or.inl rfl, Or.inl rfl, Or.inl rfl, trivial⟩, ⟨rfl, trivial⟩, ⟨rfl, trivial⟩, ⟨rfl, trivial⟩, ⟨rfl, trivial⟩, ⟨rfl, trivial⟩, ⟨rfl, trivial⟩, ⟨rfl, trivial⟩, ⟨rfl, trivial⟩, ⟨rfl, trivial⟩, ⟨rfl, trivial⟩, ⟨rfl, trivial⟩, ⟨rfl, trivial⟩, ⟨rfl, trivial⟩, trivial⟩ hf1 (po := [(0, ci_0), (1, ci_1), (87, ci_87), (88, ci_88), (89, ci_89), (90, ci_90), (91, ci_91), (92, ci_92), (93, ci_93), (94, ci_94), (95, ci_95), (96, ci_96), (97, ci_97), (98, ci_98), (99, ci_99), (100, ci_100)]) (List.forall_mem_cons.mpr ⟨lx_po hH1 rfl (fun e2 q => cx_to_obj (N := 12) q rfl (otl_0 (mi := fun _ => cx_toI (m0 11)))), (List.forall_mem_cons.mpr ⟨lx_po hH1 rfl (fun e2 q => cx_to_row q cx_anyU), (List.forall_mem_cons.mpr ⟨lx_po hH1 rfl (fun e2 q => cx_to_obj (N := 9) q rfl (otl_87 (mi := upi (upi (upi (fun i => cx_toI (m87 i)) 6 jc2) 7 us2) 8 kn2) hbd2)), (List.forall_mem_cons.mpr ⟨lx_po hH1 rfl (fun e2 q => cx_to_row q cx_anyU), (List.forall_mem_cons.mpr ⟨lx_po hH1 rfl (fun e2 q => cx_to_row q cx_anyU), (List.forall_mem_cons.mpr ⟨lx_po hH1 rfl (fun e2 q => cx_to_rows q), (List.forall_mem_cons.mpr ⟨lx_po hH1 rfl (fun e2 q => cx_to_row q cx_anyU), (List.forall_mem_cons.mpr ⟨lx_po hH1 rfl (fun e2 q => cx_to_row q cx_anyU), (List.forall_mem_cons.mpr ⟨lx_po hH1 rfl (fun e2 q => cx_to_row q cx_anyU), (List.forall_mem_cons.mpr ⟨lx_po hH1 rfl (fun e2 q => cx_to_row q cx_anyU), (List.forall_mem_cons.mpr ⟨lx_po hH1 rfl (fun e2 q => cx_to_row q cx_anyU), (List.forall_mem_cons.mpr ⟨lx_po hH1 rfl (fun e2 q => cx_to_row q cx_anyU), (List.forall_mem_cons.mpr ⟨lx_po hH1 rfl (fun e2 q => cx_to_row q cx_anyU), (List.forall_mem_cons.mpr ⟨lx_po hH1 rfl (fun e2 q => cx_to_row q cx_anyU), (List.forall_mem_cons.mpr ⟨lx_po hH1 rfl (fun e2 q => cx_to_row q cx_anyU), (List.forall_mem_cons.mpr ⟨lx_po hH1 rfl (fun e2 q => cx_to_row q hU100), (fun _ h => absurd h List.not_mem_nil)⟩)⟩)⟩)⟩)⟩)⟩)⟩)⟩)⟩)⟩)⟩)⟩)⟩)⟩)⟩)⟩) (List.all_eq_true.mp tk26x th hmem)
  have hth2 : ab_th tS (ab_tys cs) th ws2 := lx_done (fl := [8616]) hth1 hM1 hH2 ⟨⟨rfl, rfl, Or.inl rfl, Or.inr rfl, Or.inr rfl, Or.inr rfl, Or.inr rfl, Or.inr rfl, Or.inr rfl, Or.inr rfl, Or.inr rfl, Or.inr rfl, Or.inr rfl, Or.inr rfl, Or.inr rfl, Or.inr rfl, Or.inr rfl, Or.inr rfl, Or.inr rfl, Or.inr rfl, Or.inr rfl, Or.inr rfl, Or.inr rfl, Or.inr rfl, Or.inr rfl, Or.inr rfl, Or.inr rfl, Or.inr rfl, Or.inr rfl, Or.inr rfl, Or.inr rfl, Or.inr rfl, Or.inr rfl, Or.inr rfl, Or.inr rfl, Or.inr rfl, Or.inr rfl, Or.inr rfl, Or.inr rfl, Or.inr rfl, Or.inr rfl, Or.inr rfl, Or.inr rfl, Or.inr rfl, Or.inr rfl, Or.inr rfl, Or.inr rfl, Or.inr rfl, Or.inr rfl, Or.inr rfl, Or.inr rfl, Or.inr rfl, Or.inr rfl, Or.inr rfl, Or.inr rfl, Or.inr rfl, Or.inr rfl, Or.inr rfl, Or.inr rfl, Or.inr rfl, Or.inr rfl, Or.inr rfl, Or.inr rfl, Or.inr rfl, Or.inr rfl, Or.inr rfl, Or.inr rfl, Or.inr rfl, Or.inr rfl, Or.inr rfl, trivial⟩, ⟨rfl, trivial⟩, ⟨rfl, trivial⟩, ⟨rfl, trivial⟩, ⟨rfl, trivial⟩, ⟨rfl, trivial⟩, trivial⟩ hf2 (po := [(119, ci_119), (126, ci_126), (149, ci_149), (150, ci_150), (151, ci_151), (152, ci_152)]) (List.forall_mem_cons.mpr ⟨lx_po hH2 rfl (fun e2 q => cx_to_obj (N := 68) q rfl (otl_119 (mi := upi (fun i => cx_toI (m119 i)) 0 (Int32.ofInt 0)) (ml := fun i => cx_toL (m119 i)) hbd119)), (List.forall_mem_cons.mpr ⟨lx_po hH2 rfl (fun e2 q => cx_to_row q cx_anyU), (List.forall_mem_cons.mpr ⟨lx_po hH2 rfl (fun e2 q => cx_to_rowE q rfl u149), (List.forall_mem_cons.mpr ⟨lx_po hH2 rfl (fun e2 q => cx_to_row q cx_anyU), (List.forall_mem_cons.mpr ⟨lx_po hH2 rfl (fun e2 q => cx_to_row q cx_anyU), (List.forall_mem_cons.mpr ⟨lx_po hH2 rfl (fun e2 q => cx_to_rowE q rfl hE152), (fun _ h => absurd h List.not_mem_nil)⟩)⟩)⟩)⟩)⟩)⟩) (List.all_eq_true.mp tk26m th hmem)
  refine lx_pop F0 (pc' := 1351) (ab_tbo lto_26 _ _ _ (List.mem_of_getElem? (i := 15) rfl)) rfl ?_
  refine lx_goto F0 (pc' := 1810) (ab_tbo lto_26 _ _ _ (List.mem_of_getElem? (i := 16) rfl)) rfl ?_
  have hX2 := cx_heap_far hH1 hf2 rfl
  refine K ls ws2 (lx_Lc hl1 hf2.1) ⟨th, hmem, hth2⟩ ?_ hlen2
  refine ⟨⟨fun q h => absurd h List.not_mem_nil, fun q h => absurd h List.not_mem_nil, fun q h => absurd h List.not_mem_nil⟩, lm, fm, fb2, mk, ch, (cx_toI (m87 4)), (cx_toI (m87 5)), jc2, us2, kn2, LN, FN, ?_, ?_, ?_, ?_, ?_, ?_, ?_, ?_, ?_, ?_, ⟨hlo, hfo, hc0, hc1, hLN, hFN, hmk, hJ2⟩⟩
  · obtain ⟨ag, eg, wg, cg⟩ := hX2 88 _ rfl; exact cx_rowv wg cg
  · obtain ⟨ag, eg, wg, cg⟩ := hX2 89 _ rfl; exact cx_rowv wg cg
  · obtain ⟨ag, eg, wg, cg⟩ := hX2 100 _ rfl; exact cx_rowv wg cg
  · obtain ⟨ag, eg, wg, cg⟩ := hH2 149 _ rfl; exact cx_rowv wg cg
  · obtain ⟨ag, eg, wg, cg⟩ := hH2 150 _ rfl; exact cx_rowv wg cg
  · obtain ⟨ag, eg, wg, cg⟩ := hX2 87 _ rfl; exact cx_fldv wg cg (x := (cx_toI (m87 4))) rfl rfl
  · obtain ⟨ag, eg, wg, cg⟩ := hX2 87 _ rfl; exact cx_fldv wg cg (x := (cx_toI (m87 5))) rfl rfl
  · obtain ⟨ag, eg, wg, cg⟩ := hX2 87 _ rfl; exact cx_fldv wg cg (x := jc2) rfl rfl
  · obtain ⟨ag, eg, wg, cg⟩ := hX2 87 _ rfl; exact cx_fldv wg cg (x := us2) rfl rfl
  · obtain ⟨ag, eg, wg, cg⟩ := hX2 87 _ rfl; exact cx_fldv wg cg (x := kn2) rfl rfl
theorem tk27a : lw_THs.all (fun th => tr_3 th [(0, ci_0), (1, ci_1), (87, ci_87), (88, ci_88), (89, ci_89), (90, ci_90), (91, ci_91), (92, ci_92), (93, ci_93), (94, ci_94), (95, ci_95), (96, ci_96), (97, ci_97), (98, ci_98), (99, ci_99), (100, ci_100), (119, ci_119), (126, ci_126), (149, ci_149), (150, ci_150), (151, ci_151), (152, ci_152)]) = true := by decide +kernel
theorem tk27x : lw_THs.all (fun th => th.all (tr_1 (cx_M [0, 1, 87, 88, 89, 90, 91, 92, 93, 94, 95, 96, 97, 98, 99, 100] [6574, 6575, 6576]) th [(0, ci_0), (1, ci_1), (87, ci_87), (88, ci_88), (89, ci_89), (90, ci_90), (91, ci_91), (92, ci_92), (93, ci_93), (94, ci_94), (95, ci_95), (96, ci_96), (97, ci_97), (98, ci_98), (99, ci_99), (100, ci_100)])) = true := by decide +kernel
theorem tk27m : lw_THs.all (fun th => th.all (tr_1 (cx_M [119, 126, 149, 150, 151, 152] [8616]) th [(119, ci_119), (126, ci_126), (149, ci_149), (150, ci_150), (151, ci_151), (152, ci_152)])) = true := by decide +kernel
theorem tz_27 : ∀ th ∈ lw_THs, lw_TQ 1354 th := by
  intro th hmem p l e s m below meth c D A Q cs tS b L i0 cells slots xs iv ws ls F0 hcs hiv hL hL2 hl hth hEQ hlen K
  have h3 := tr_3_ok (List.all_eq_true.mp tk27a th hmem) hth
  obtain ⟨a0, e0, w0, t0⟩ := h3 _ (List.mem_of_getElem? (i := 0) rfl)
  obtain ⟨a1, e1, w1, t1⟩ := h3 _ (List.mem_of_getElem? (i := 1) rfl)
  obtain ⟨a87, e87, w87, t87⟩ := h3 _ (List.mem_of_getElem? (i := 2) rfl)
  obtain ⟨a88, e88, w88, t88⟩ := h3 _ (List.mem_of_getElem? (i := 3) rfl)
  obtain ⟨a89, e89, w89, t89⟩ := h3 _ (List.mem_of_getElem? (i := 4) rfl)
  obtain ⟨a90, e90, w90, t90⟩ := h3 _ (List.mem_of_getElem? (i := 5) rfl)
  obtain ⟨a91, e91, w91, t91⟩ := h3 _ (List.mem_of_getElem? (i := 6) rfl)
  obtain ⟨a92, e92, w92, t92⟩ := h3 _ (List.mem_of_getElem? (i := 7) rfl)
  obtain ⟨a93, e93, w93, t93⟩ := h3 _ (List.mem_of_getElem? (i := 8) rfl)
  obtain ⟨a94, e94, w94, t94⟩ := h3 _ (List.mem_of_getElem? (i := 9) rfl)
  obtain ⟨a95, e95, w95, t95⟩ := h3 _ (List.mem_of_getElem? (i := 10) rfl)
  obtain ⟨a96, e96, w96, t96⟩ := h3 _ (List.mem_of_getElem? (i := 11) rfl)
  obtain ⟨a97, e97, w97, t97⟩ := h3 _ (List.mem_of_getElem? (i := 12) rfl)
  obtain ⟨a98, e98, w98, t98⟩ := h3 _ (List.mem_of_getElem? (i := 13) rfl)
  obtain ⟨a99, e99, w99, t99⟩ := h3 _ (List.mem_of_getElem? (i := 14) rfl)
  obtain ⟨a100, e100, w100, t100⟩ := h3 _ (List.mem_of_getElem? (i := 15) rfl)
  obtain ⟨a119, e119, w119, t119⟩ := h3 _ (List.mem_of_getElem? (i := 16) rfl)
  obtain ⟨a126, e126, w126, t126⟩ := h3 _ (List.mem_of_getElem? (i := 17) rfl)
  obtain ⟨a149, e149, w149, t149⟩ := h3 _ (List.mem_of_getElem? (i := 18) rfl)
  obtain ⟨a150, e150, w150, t150⟩ := h3 _ (List.mem_of_getElem? (i := 19) rfl)
  obtain ⟨a151, e151, w151, t151⟩ := h3 _ (List.mem_of_getElem? (i := 20) rfl)
  obtain ⟨a152, e152, w152, t152⟩ := h3 _ (List.mem_of_getElem? (i := 21) rfl)
  obtain ⟨m0, c0, b0⟩ := cx_of_obj (ci := 10) (N := 12) (tvs := ots_0) t0
  obtain ⟨r1, c1, u1⟩ := cx_of_row (t := 0) (N := 7) (Or.inl rfl) t1
  obtain ⟨m87, c87, b87⟩ := cx_of_obj (ci := 0) (N := 9) (tvs := ots_87) t87
  have hbd87 := obd_87_of b87
  obtain ⟨lm, c88, u88⟩ := cx_of_row (t := 0) (N := 8) (Or.inl rfl) t88
  obtain ⟨fm, c89, u89⟩ := cx_of_row (t := 0) (N := 8) (Or.inl rfl) t89
  have c90 := cx_of_rows (t := 3) (N := 9) (ks := [91, 92, 93, 94, 95, 96, 97, 98, 99]) (Or.inl rfl) t90
  obtain ⟨V0, c91, u91⟩ := cx_of_row (t := 0) (N := 256) (Or.inl rfl) t91
  obtain ⟨V1, c92, u92⟩ := cx_of_row (t := 0) (N := 256) (Or.inl rfl) t92
  obtain ⟨V2, c93, u93⟩ := cx_of_row (t := 0) (N := 256) (Or.inl rfl) t93
  obtain ⟨V3, c94, u94⟩ := cx_of_row (t := 0) (N := 256) (Or.inl rfl) t94
  obtain ⟨V4, c95, u95⟩ := cx_of_row (t := 0) (N := 256) (Or.inl rfl) t95
  obtain ⟨V5, c96, u96⟩ := cx_of_row (t := 0) (N := 256) (Or.inl rfl) t96
  obtain ⟨V6, c97, u97⟩ := cx_of_row (t := 0) (N := 256) (Or.inl rfl) t97
  obtain ⟨V7, c98, u98⟩ := cx_of_row (t := 0) (N := 256) (Or.inl rfl) t98
  obtain ⟨V8, c99, u99⟩ := cx_of_row (t := 0) (N := 256) (Or.inl rfl) t99
  obtain ⟨fb, c100, u100⟩ := cx_of_row (t := 0) (N := 8) (Or.inl rfl) t100
  obtain ⟨m119, c119, b119⟩ := cx_of_obj (ci := 11) (N := 68) (tvs := ots_119) t119
  have hbd119 := obd_119_of b119
  obtain ⟨r2, c126, u126⟩ := cx_of_row (t := 0) (N := 7) (Or.inl rfl) t126
  obtain ⟨ch, c149, u149⟩ := cx_of_rowE (N := 2) (Or.inl rfl) t149
  obtain ⟨mk, c150, u150⟩ := cx_of_row (t := 0) (N := 16) (Or.inl rfl) t150
  obtain ⟨T, c151, u151⟩ := cx_of_row (t := 0) (N := 2304) (Or.inl rfl) t151
  obtain ⟨jt, c152, u152⟩ := cx_of_rowE (N := 8) (Or.inl rfl) t152
  have hX : cx_heap tS cs (h_xc (cx_toI (m0 11)) r1 (cx_toI (m87 4)) (cx_toI (m87 5)) (cx_toI (m87 6)) (cx_toI (m87 7)) (cx_toI (m87 8)) lm fm fb (F9 V0 V1 V2 V3 V4 V5 V6 V7 V8)) ws := cx_heap_of (List.forall_mem_cons.mpr ⟨⟨a0, e0, w0, c0⟩, (List.forall_mem_cons.mpr ⟨⟨a1, e1, w1, c1⟩, (List.forall_mem_cons.mpr ⟨⟨a87, e87, w87, c87⟩, (List.forall_mem_cons.mpr ⟨⟨a88, e88, w88, c88⟩, (List.forall_mem_cons.mpr ⟨⟨a89, e89, w89, c89⟩, (List.forall_mem_cons.mpr ⟨⟨a90, e90, w90, c90⟩, (List.forall_mem_cons.mpr ⟨⟨a91, e91, w91, c91⟩, (List.forall_mem_cons.mpr ⟨⟨a92, e92, w92, c92⟩, (List.forall_mem_cons.mpr ⟨⟨a93, e93, w93, c93⟩, (List.forall_mem_cons.mpr ⟨⟨a94, e94, w94, c94⟩, (List.forall_mem_cons.mpr ⟨⟨a95, e95, w95, c95⟩, (List.forall_mem_cons.mpr ⟨⟨a96, e96, w96, c96⟩, (List.forall_mem_cons.mpr ⟨⟨a97, e97, w97, c97⟩, (List.forall_mem_cons.mpr ⟨⟨a98, e98, w98, c98⟩, (List.forall_mem_cons.mpr ⟨⟨a99, e99, w99, c99⟩, (List.forall_mem_cons.mpr ⟨⟨a100, e100, w100, c100⟩, (fun _ h => absurd h List.not_mem_nil)⟩)⟩)⟩)⟩)⟩)⟩)⟩)⟩)⟩)⟩)⟩)⟩)⟩)⟩)⟩)⟩)
  have hM : cx_heap tS cs (h_mc (fun i => cx_toI (m119 i)) (fun i => cx_toL (m119 i)) r2 ch mk T jt) ws := cx_heap_of (List.forall_mem_cons.mpr ⟨⟨a119, e119, w119, c119⟩, (List.forall_mem_cons.mpr ⟨⟨a126, e126, w126, c126⟩, (List.forall_mem_cons.mpr ⟨⟨a149, e149, w149, c149⟩, (List.forall_mem_cons.mpr ⟨⟨a150, e150, w150, c150⟩, (List.forall_mem_cons.mpr ⟨⟨a151, e151, w151, c151⟩, (List.forall_mem_cons.mpr ⟨⟨a152, e152, w152, c152⟩, (fun _ h => absurd h List.not_mem_nil)⟩)⟩)⟩)⟩)⟩)⟩)
  have ha0 : (ws.map (·.1))[0]? = some a0 := by rw [List.getElem?_map, w0]; rfl
  have ha119 : (ws.map (·.1))[119]? = some a119 := by rw [List.getElem?_map, w119]; rfl
  obtain ⟨lm0, fm0, fb0, mk0, ch0, lo0, fo0, jc0, us0, kn0, LN, FN, q88, q89, q100, q149, q150, f4, f5, f6, f7, f8, hXR⟩ := hEQ.2
  have q88 : rl_row ws 88 = some ((List.range 8).map (fun i => .int (lm0 i))) := q88
  have q89 : rl_row ws 89 = some ((List.range 8).map (fun i => .int (fm0 i))) := q89
  have q100 : rl_row ws 100 = some ((List.range 8).map (fun i => .int (fb0 i))) := q100
  have q149 : rl_row ws 149 = some ((List.range 2).map (fun i => .int (ch0 i))) := q149
  have q150 : rl_row ws 150 = some ((List.range 16).map (fun i => .int (mk0 i))) := q150
  rw [cx_rowv w88 c88] at q88
  rw [cx_rowv w89 c89] at q89
  rw [cx_rowv w100 c100] at q100
  rw [cx_rowv w149 c149] at q149
  rw [cx_rowv w150 c150] at q150
  rw [cx_fldv w87 c87 (x := cx_toI (m87 4)) rfl rfl] at f4
  rw [cx_fldv w87 c87 (x := cx_toI (m87 5)) rfl rfl] at f5
  rw [cx_fldv w87 c87 (x := cx_toI (m87 6)) rfl rfl] at f6
  rw [cx_fldv w87 c87 (x := cx_toI (m87 7)) rfl rfl] at f7
  rw [cx_fldv w87 c87 (x := cx_toI (m87 8)) rfl rfl] at f8
  have f4 : cx_toI (m87 4) = lo0 := Value.int.inj (Option.some.inj f4)
  have f5 : cx_toI (m87 5) = fo0 := Value.int.inj (Option.some.inj f5)
  have f6 : cx_toI (m87 6) = jc0 := Value.int.inj (Option.some.inj f6)
  have f7 : cx_toI (m87 7) = us0 := Value.int.inj (Option.some.inj f7)
  have f8 : cx_toI (m87 8) = kn0 := Value.int.inj (Option.some.inj f8)
  rw [← f4, ← f5, ← f6, ← f7, ← f8] at hXR
  have hXR := XR_cong hXR (cx_rowE (Option.some.inj q88)) (cx_rowE (Option.some.inj q89)) (cx_rowE (Option.some.inj q100)) (cx_rowE (Option.some.inj q150)) (cx_rowE (Option.some.inj q149))
  obtain ⟨hlo, hfo, hc0, hc1, hLN, hFN, hmk, hJ⟩ := id hXR
  have hk1 : (0 : Int) ≤ (cx_toI (m87 8)).toInt ∧ (cx_toI (m87 8)).toInt ≤ 1 := hbd87.2.2
  have hkn : cx_toI (m87 8) = Int32.ofInt 0 ∨ cx_toI (m87 8) = Int32.ofInt 1 := by
    have k0 : (Int32.ofInt 0).toInt = 0 := by decide +kernel
    have k1 : (Int32.ofInt 1).toInt = 1 := by decide +kernel
    rcases (show (cx_toI (m87 8)).toInt = 0 ∨ (cx_toI (m87 8)).toInt = 1 by omega) with q | q
    · exact Or.inl (cx_i32 (by rw [q, k0]))
    · exact Or.inr (cx_i32 (by rw [q, k1]))
  have hFB : FB fb := fun x hx => by
    have h1 : ((-9 : Int) ≤ (fb x).toInt ∧ (fb x).toInt ≤ -9) ∨ ((0 : Int) ≤ (fb x).toInt ∧ (fb x).toInt ≤ 7) := cx_U2o (u100 x hx)
    omega
  have huE := uN_X hmk
  have hu0 : ∀ k f, 0 ≤ uN mk (fmO mk) k f := fun k f => (uN_b k f).1
  have hJB : JB jt := fun x hx => by
    have h1 : (-9 : Int) ≤ (jt x).toInt ∧ (jt x).toInt ≤ 7 := u152 x _ (rp_at hx)
    exact h1
  obtain ⟨fs0, e0q, -⟩ := id c0
  subst e0q
  refine lx_x F0 hl (pc' := 1355) (ab_tbo lto_27 _ _ _ (List.mem_of_getElem? (i := 0) rfl)) rfl ha0 ?_
  refine lx_arg F0 hiv hL hL2 hl (z := 1) (pc' := 1361) rfl (ab_tbo lto_27 _ _ _ (List.mem_of_getElem? (i := 1) rfl)) (ab_tbo lto_27 _ _ _ (List.mem_of_getElem? (i := 2) rfl)) (ab_tbo lto_27 _ _ _ (List.mem_of_getElem? (i := 3) rfl)) (ab_tbo lto_27 _ _ _ (List.mem_of_getElem? (i := 4) rfl)) (ab_tbo lto_27 _ _ _ (List.mem_of_getElem? (i := 5) rfl)) rfl ?_
  obtain ⟨d1, hd1, Ct1⟩ := ct_jd (dy := cx_toI (m0 11)) (lo := (cx_toI (m87 4))) (fo := (cx_toI (m87 5))) (jc := (cx_toI (m87 6))) (us := (cx_toI (m87 7))) (kn := (cx_toI (m87 8))) (r := r1) (lm := lm) (fm := fm) (fb := fb) (V := (F9 V0 V1 V2 V3 V4 V5 V6 V7 V8)) (LN := LN) (FN := FN) (x := xs (i0 + 1)) hlo hLN hfo hFN hkn hJ hFB l D cs tS ws [.ref a0, .int (xs (i0 + 1))] hX ⟨⟨a0, ha0, rfl⟩, rfl, trivial⟩
  refine lx_call F0 hcs hl (pc' := 1364) (q := 155) (n := 1) (ci := 10) (As := [.int (xs (i0 + 1))]) (stk := []) (ab_tbo lto_27 _ _ _ (List.mem_of_getElem? (i := 6) rfl)) rfl rfl rfl w0 (by decide) ⟨d1, by omega, Ct1⟩ rfl (fun rv ws1 hp1 => ?_)
  obtain ⟨v, h1, ⟨z, rr, jc2, us2, kn2, fb2, V2, rfl, rfl, hkk, hJ2, hB2, hdx⟩, hk1, hf1, hH1, hrv⟩ := hp1
  obtain rfl : rv = some (.int z) := by
    cases rv with
    | none => exact hrv.elim
    | some y => exact congrArg some hrv
  show ab_W p l e room_1 s m #[Value.ref b] below meth c D vwCl A Q cells slots 1364 ls [.int z] ws1
  refine lx_pop F0 (pc' := 1365) (ab_tbo lto_27 _ _ _ (List.mem_of_getElem? (i := 7) rfl)) rfl ?_
  have hl1 := lx_Lc hl hf1.1
  have hM1 := cx_heap_far hM hf1 rfl
  have ha119b : (ws1.map (·.1))[119]? = some a119 := by rw [hf1.1]; exact ha119
  refine lx_m F0 hl1 (pc' := 1366) (ab_tbo lto_27 _ _ _ (List.mem_of_getElem? (i := 8) rfl)) rfl ha119b ?_
  refine lx_arg F0 hiv hL hL2 hl1 (z := 1) (pc' := 1372) rfl (ab_tbo lto_27 _ _ _ (List.mem_of_getElem? (i := 9) rfl)) (ab_tbo lto_27 _ _ _ (List.mem_of_getElem? (i := 10) rfl)) (ab_tbo lto_27 _ _ _ (List.mem_of_getElem? (i := 11) rfl)) (ab_tbo lto_27 _ _ _ (List.mem_of_getElem? (i := 12) rfl)) (ab_tbo lto_27 _ _ _ (List.mem_of_getElem? (i := 13) rfl)) rfl ?_
  obtain ⟨a119c, e119c, w119c, c119c⟩ := hM1 119 _ rfl
  obtain ⟨fs119c, e119d, -⟩ := id c119c
  subst e119d
  have eadd : a119c = a119 := ab_ad_get ha119b w119c
  rw [eadd] at w119c
  obtain ⟨d2, hd2, Ct2⟩ := ct_mjd (mi := fun i => cx_toI (m119 i)) (ml := fun i => cx_toL (m119 i)) (r := r2) (mk := mk) (ch := ch) (T := T) (jt := jt) (LN := LN) (FN := FN) (x := xs (i0 + 1)) hc0 hLN hc1 hFN hJB l D cs tS ws1 [.ref a119, .int (xs (i0 + 1))] hM1 ⟨⟨a119, ha119b, rfl⟩, rfl, trivial⟩
  refine lx_call F0 hcs hl1 (pc' := 1375) (q := 244) (n := 1) (ci := 11) (As := [.int (xs (i0 + 1))]) (stk := []) (ab_tbo lto_27 _ _ _ (List.mem_of_getElem? (i := 14) rfl)) rfl rfl rfl w119c (by first | decide | exact (by decide : (1 : Nat) ≤ 8)) ⟨d2, by omega, Ct2⟩ rfl (fun rv2 ws2 hp2 => ?_)
  obtain ⟨v2, h2, ⟨z2, rr2, T2, jt2, rfl, rfl, hJB2, hdm⟩, hk2, hf2, hH2, hrv2⟩ := hp2
  obtain rfl : rv2 = some (.int z2) := by
    cases rv2 with
    | none => exact hrv2.elim
    | some y => exact congrArg some hrv2
  show ab_W p l e room_1 s m #[Value.ref b] below meth c D vwCl A Q cells slots 1375 ls [.int z2] ws2
  have hk2b : (0 : Int) ≤ kn2.toInt ∧ kn2.toInt ≤ 1 := by
    have k0 : (Int32.ofInt 0).toInt = 0 := by decide +kernel
    have k1 : (Int32.ofInt 1).toInt = 1 := by decide +kernel
    rcases hkk with q | q <;> rw [q] <;> omega
  have hbd2 : obd_87 (upi (upi (upi (fun i => cx_toI (m87 i)) 6 jc2) 7 us2) 8 kn2) := ⟨hbd87.1, hbd87.2.1, hk2b⟩
  have hU100 : ∀ i : Nat, i < 8 → ab_inU [(Int.negSucc 8, Int.negSucc 8), (Int.ofNat 0, Int.ofNat 7)] (fb2 i).toInt := fun i hi => by
    have h1 : ((-9 : Int) ≤ (fb2 i).toInt ∧ (fb2 i).toInt ≤ -9) ∨ ((0 : Int) ≤ (fb2 i).toInt ∧ (fb2 i).toInt ≤ 7) := by have := hB2 i hi; omega
    exact cx_U2 h1
  have hE152 : ∀ (i : Nat) (v : ab_Iv), (ab_rp 8 (Int.negSucc 8, Int.ofNat 7) [])[i]? = some v → v.1 ≤ (jt2 i).toInt ∧ (jt2 i).toInt ≤ v.2 := fun i v hv => by
    obtain ⟨h1, rfl⟩ := rp_nth hv
    have h2 : (-9 : Int) ≤ (jt2 i).toInt ∧ (jt2 i).toInt ≤ 7 := hJB2 i h1
    exact h2
  rw [huE] at hdx
  have hfin : z = z2 := jdE hu0 hLN hdx hdm
  have hlen1 : ws1.length = 165 := by have := congrArg List.length hf1.1; simpa [hlen] using this
  have hlen2 : ws2.length = 165 := by have := congrArg List.length hf2.1; simpa [hlen1] using this
  have hth1 : ab_th tS (ab_tys cs) th ws1 := lx_done (fl := [6574, 6575, 6576]) hth hX hH1 ⟨⟨rfl, rfl, Or.inr rfl, Or.inr rfl, Or.inr rfl, Or.inr rfl, Or.inr rfl, Or.inr rfl, Or.inr rfl, Or.inr rfl, Or.inr rfl, Or.inr rfl, Or.inr rfl, Or.inr rfl, trivial⟩, ⟨rfl, trivial⟩, ⟨rfl, rfl, Or.inr rfl, Or.inr rfl, Or.inr rfl, Or.inr rfl, Or.inr rfl, Or.inr rfl, Or.inl rfl, Or.inl rfl, Or.inl rfl, trivial⟩, ⟨rfl, trivial⟩, ⟨rfl, trivial⟩, ⟨rfl, trivial⟩, ⟨rfl, trivial⟩, ⟨rfl, trivial⟩, ⟨rfl, trivial⟩, ⟨rfl, trivial⟩, ⟨rfl, trivial⟩, ⟨rfl, trivial⟩, ⟨rfl, trivial⟩, ⟨rfl, trivial⟩, ⟨rfl, trivial⟩, ⟨rfl, trivial⟩, trivial⟩ hf1 (po := [(0, ci_0), (1, ci_1), (87, ci_87), (88, ci_88), (89, ci_89), (90, ci_90), (91, ci_91), (92, ci_92), (93, ci_93), (94, ci_94), (95, ci_95), (96, ci_96), (97, ci_97), (98, ci_98), (99, ci_99), (100, ci_100)]) (List.forall_mem_cons.mpr ⟨lx_po hH1 rfl (fun e2 q => cx_to_obj (N := 12) q rfl (otl_0 (mi := fun _ => cx_toI (m0 11)))), (List.forall_mem_cons.mpr ⟨lx_po hH1 rfl (fun e2 q => cx_to_row q cx_anyU), (List.forall_mem_cons.mpr ⟨lx_po hH1 rfl (fun e2 q => cx_to_obj (N := 9) q rfl (otl_87 (mi := upi (upi (upi (fun i => cx_toI (m87 i)) 6 jc2) 7 us2) 8 kn2) hbd2)), (List.forall_mem_cons.mpr ⟨lx_po hH1 rfl (fun e2 q => cx_to_row q cx_anyU), (List.forall_mem_cons.mpr ⟨lx_po hH1 rfl (fun e2 q => cx_to_row q cx_anyU), (List.forall_mem_cons.mpr ⟨lx_po hH1 rfl (fun e2 q => cx_to_rows q), (List.forall_mem_cons.mpr ⟨lx_po hH1 rfl (fun e2 q => cx_to_row q cx_anyU), (List.forall_mem_cons.mpr ⟨lx_po hH1 rfl (fun e2 q => cx_to_row q cx_anyU), (List.forall_mem_cons.mpr ⟨lx_po hH1 rfl (fun e2 q => cx_to_row q cx_anyU), (List.forall_mem_cons.mpr ⟨lx_po hH1 rfl (fun e2 q => cx_to_row q cx_anyU), (List.forall_mem_cons.mpr ⟨lx_po hH1 rfl (fun e2 q => cx_to_row q cx_anyU), (List.forall_mem_cons.mpr ⟨lx_po hH1 rfl (fun e2 q => cx_to_row q cx_anyU), (List.forall_mem_cons.mpr ⟨lx_po hH1 rfl (fun e2 q => cx_to_row q cx_anyU), (List.forall_mem_cons.mpr ⟨lx_po hH1 rfl (fun e2 q => cx_to_row q cx_anyU), (List.forall_mem_cons.mpr ⟨lx_po hH1 rfl (fun e2 q => cx_to_row q cx_anyU), (List.forall_mem_cons.mpr ⟨lx_po hH1 rfl (fun e2 q => cx_to_row q hU100), (fun _ h => absurd h List.not_mem_nil)⟩)⟩)⟩)⟩)⟩)⟩)⟩)⟩)⟩)⟩)⟩)⟩)⟩)⟩)⟩)⟩) (List.all_eq_true.mp tk27x th hmem)
  have hth2 : ab_th tS (ab_tys cs) th ws2 := lx_done (fl := [8616]) hth1 hM1 hH2 ⟨⟨rfl, rfl, Or.inl rfl, Or.inr rfl, Or.inr rfl, Or.inr rfl, Or.inr rfl, Or.inr rfl, Or.inr rfl, Or.inr rfl, Or.inr rfl, Or.inr rfl, Or.inr rfl, Or.inr rfl, Or.inr rfl, Or.inr rfl, Or.inr rfl, Or.inr rfl, Or.inr rfl, Or.inr rfl, Or.inr rfl, Or.inr rfl, Or.inr rfl, Or.inr rfl, Or.inr rfl, Or.inr rfl, Or.inr rfl, Or.inr rfl, Or.inr rfl, Or.inr rfl, Or.inr rfl, Or.inr rfl, Or.inr rfl, Or.inr rfl, Or.inr rfl, Or.inr rfl, Or.inr rfl, Or.inr rfl, Or.inr rfl, Or.inr rfl, Or.inr rfl, Or.inr rfl, Or.inr rfl, Or.inr rfl, Or.inr rfl, Or.inr rfl, Or.inr rfl, Or.inr rfl, Or.inr rfl, Or.inr rfl, Or.inr rfl, Or.inr rfl, Or.inr rfl, Or.inr rfl, Or.inr rfl, Or.inr rfl, Or.inr rfl, Or.inr rfl, Or.inr rfl, Or.inr rfl, Or.inr rfl, Or.inr rfl, Or.inr rfl, Or.inr rfl, Or.inr rfl, Or.inr rfl, Or.inr rfl, Or.inr rfl, Or.inr rfl, Or.inr rfl, trivial⟩, ⟨rfl, trivial⟩, ⟨rfl, trivial⟩, ⟨rfl, trivial⟩, ⟨rfl, trivial⟩, ⟨rfl, trivial⟩, trivial⟩ hf2 (po := [(119, ci_119), (126, ci_126), (149, ci_149), (150, ci_150), (151, ci_151), (152, ci_152)]) (List.forall_mem_cons.mpr ⟨lx_po hH2 rfl (fun e2 q => cx_to_obj (N := 68) q rfl (otl_119 (mi := upi (fun i => cx_toI (m119 i)) 0 (Int32.ofInt 0)) (ml := fun i => cx_toL (m119 i)) hbd119)), (List.forall_mem_cons.mpr ⟨lx_po hH2 rfl (fun e2 q => cx_to_row q cx_anyU), (List.forall_mem_cons.mpr ⟨lx_po hH2 rfl (fun e2 q => cx_to_rowE q rfl u149), (List.forall_mem_cons.mpr ⟨lx_po hH2 rfl (fun e2 q => cx_to_row q cx_anyU), (List.forall_mem_cons.mpr ⟨lx_po hH2 rfl (fun e2 q => cx_to_row q cx_anyU), (List.forall_mem_cons.mpr ⟨lx_po hH2 rfl (fun e2 q => cx_to_rowE q rfl hE152), (fun _ h => absurd h List.not_mem_nil)⟩)⟩)⟩)⟩)⟩)⟩) (List.all_eq_true.mp tk27m th hmem)
  refine lx_pop F0 (pc' := 1376) (ab_tbo lto_27 _ _ _ (List.mem_of_getElem? (i := 15) rfl)) rfl ?_
  refine lx_goto F0 (pc' := 1810) (ab_tbo lto_27 _ _ _ (List.mem_of_getElem? (i := 16) rfl)) rfl ?_
  have hX2 := cx_heap_far hH1 hf2 rfl
  refine K ls ws2 (lx_Lc hl1 hf2.1) ⟨th, hmem, hth2⟩ ?_ hlen2
  refine ⟨⟨fun q h => absurd h List.not_mem_nil, fun q h => absurd h List.not_mem_nil, fun q h => absurd h List.not_mem_nil⟩, lm, fm, fb2, mk, ch, (cx_toI (m87 4)), (cx_toI (m87 5)), jc2, us2, kn2, LN, FN, ?_, ?_, ?_, ?_, ?_, ?_, ?_, ?_, ?_, ?_, ⟨hlo, hfo, hc0, hc1, hLN, hFN, hmk, hJ2⟩⟩
  · obtain ⟨ag, eg, wg, cg⟩ := hX2 88 _ rfl; exact cx_rowv wg cg
  · obtain ⟨ag, eg, wg, cg⟩ := hX2 89 _ rfl; exact cx_rowv wg cg
  · obtain ⟨ag, eg, wg, cg⟩ := hX2 100 _ rfl; exact cx_rowv wg cg
  · obtain ⟨ag, eg, wg, cg⟩ := hH2 149 _ rfl; exact cx_rowv wg cg
  · obtain ⟨ag, eg, wg, cg⟩ := hH2 150 _ rfl; exact cx_rowv wg cg
  · obtain ⟨ag, eg, wg, cg⟩ := hX2 87 _ rfl; exact cx_fldv wg cg (x := (cx_toI (m87 4))) rfl rfl
  · obtain ⟨ag, eg, wg, cg⟩ := hX2 87 _ rfl; exact cx_fldv wg cg (x := (cx_toI (m87 5))) rfl rfl
  · obtain ⟨ag, eg, wg, cg⟩ := hX2 87 _ rfl; exact cx_fldv wg cg (x := jc2) rfl rfl
  · obtain ⟨ag, eg, wg, cg⟩ := hX2 87 _ rfl; exact cx_fldv wg cg (x := us2) rfl rfl
  · obtain ⟨ag, eg, wg, cg⟩ := hX2 87 _ rfl; exact cx_fldv wg cg (x := kn2) rfl rfl
theorem tk28a : lw_THs.all (fun th => tr_3 th [(0, ci_0), (1, ci_1), (87, ci_87), (88, ci_88), (89, ci_89), (90, ci_90), (91, ci_91), (92, ci_92), (93, ci_93), (94, ci_94), (95, ci_95), (96, ci_96), (97, ci_97), (98, ci_98), (99, ci_99), (100, ci_100), (119, ci_119), (126, ci_126), (149, ci_149), (150, ci_150), (151, ci_151), (152, ci_152)]) = true := by decide +kernel
theorem tk28x : lw_THs.all (fun th => th.all (tr_1 (cx_M [0, 1, 87, 88, 89, 90, 91, 92, 93, 94, 95, 96, 97, 98, 99, 100] [6574, 6575, 6576]) th [(0, ci_0), (1, ci_1), (87, ci_87), (88, ci_88), (89, ci_89), (90, ci_90), (91, ci_91), (92, ci_92), (93, ci_93), (94, ci_94), (95, ci_95), (96, ci_96), (97, ci_97), (98, ci_98), (99, ci_99), (100, ci_100)])) = true := by decide +kernel
theorem tk28m : lw_THs.all (fun th => th.all (tr_1 (cx_M [119, 126, 149, 150, 151, 152] [8616]) th [(119, ci_119), (126, ci_126), (149, ci_149), (150, ci_150), (151, ci_151), (152, ci_152)])) = true := by decide +kernel
theorem tz_28 : ∀ th ∈ lw_THs, lw_TQ 1379 th := by
  intro th hmem p l e s m below meth c D A Q cs tS b L i0 cells slots xs iv ws ls F0 hcs hiv hL hL2 hl hth hEQ hlen K
  have h3 := tr_3_ok (List.all_eq_true.mp tk28a th hmem) hth
  obtain ⟨a0, e0, w0, t0⟩ := h3 _ (List.mem_of_getElem? (i := 0) rfl)
  obtain ⟨a1, e1, w1, t1⟩ := h3 _ (List.mem_of_getElem? (i := 1) rfl)
  obtain ⟨a87, e87, w87, t87⟩ := h3 _ (List.mem_of_getElem? (i := 2) rfl)
  obtain ⟨a88, e88, w88, t88⟩ := h3 _ (List.mem_of_getElem? (i := 3) rfl)
  obtain ⟨a89, e89, w89, t89⟩ := h3 _ (List.mem_of_getElem? (i := 4) rfl)
  obtain ⟨a90, e90, w90, t90⟩ := h3 _ (List.mem_of_getElem? (i := 5) rfl)
  obtain ⟨a91, e91, w91, t91⟩ := h3 _ (List.mem_of_getElem? (i := 6) rfl)
  obtain ⟨a92, e92, w92, t92⟩ := h3 _ (List.mem_of_getElem? (i := 7) rfl)
  obtain ⟨a93, e93, w93, t93⟩ := h3 _ (List.mem_of_getElem? (i := 8) rfl)
  obtain ⟨a94, e94, w94, t94⟩ := h3 _ (List.mem_of_getElem? (i := 9) rfl)
  obtain ⟨a95, e95, w95, t95⟩ := h3 _ (List.mem_of_getElem? (i := 10) rfl)
  obtain ⟨a96, e96, w96, t96⟩ := h3 _ (List.mem_of_getElem? (i := 11) rfl)
  obtain ⟨a97, e97, w97, t97⟩ := h3 _ (List.mem_of_getElem? (i := 12) rfl)
  obtain ⟨a98, e98, w98, t98⟩ := h3 _ (List.mem_of_getElem? (i := 13) rfl)
  obtain ⟨a99, e99, w99, t99⟩ := h3 _ (List.mem_of_getElem? (i := 14) rfl)
  obtain ⟨a100, e100, w100, t100⟩ := h3 _ (List.mem_of_getElem? (i := 15) rfl)
  obtain ⟨a119, e119, w119, t119⟩ := h3 _ (List.mem_of_getElem? (i := 16) rfl)
  obtain ⟨a126, e126, w126, t126⟩ := h3 _ (List.mem_of_getElem? (i := 17) rfl)
  obtain ⟨a149, e149, w149, t149⟩ := h3 _ (List.mem_of_getElem? (i := 18) rfl)
  obtain ⟨a150, e150, w150, t150⟩ := h3 _ (List.mem_of_getElem? (i := 19) rfl)
  obtain ⟨a151, e151, w151, t151⟩ := h3 _ (List.mem_of_getElem? (i := 20) rfl)
  obtain ⟨a152, e152, w152, t152⟩ := h3 _ (List.mem_of_getElem? (i := 21) rfl)
  obtain ⟨m0, c0, b0⟩ := cx_of_obj (ci := 10) (N := 12) (tvs := ots_0) t0
  obtain ⟨r1, c1, u1⟩ := cx_of_row (t := 0) (N := 7) (Or.inl rfl) t1
  obtain ⟨m87, c87, b87⟩ := cx_of_obj (ci := 0) (N := 9) (tvs := ots_87) t87
  have hbd87 := obd_87_of b87
  obtain ⟨lm, c88, u88⟩ := cx_of_row (t := 0) (N := 8) (Or.inl rfl) t88
  obtain ⟨fm, c89, u89⟩ := cx_of_row (t := 0) (N := 8) (Or.inl rfl) t89
  have c90 := cx_of_rows (t := 3) (N := 9) (ks := [91, 92, 93, 94, 95, 96, 97, 98, 99]) (Or.inl rfl) t90
  obtain ⟨V0, c91, u91⟩ := cx_of_row (t := 0) (N := 256) (Or.inl rfl) t91
  obtain ⟨V1, c92, u92⟩ := cx_of_row (t := 0) (N := 256) (Or.inl rfl) t92
  obtain ⟨V2, c93, u93⟩ := cx_of_row (t := 0) (N := 256) (Or.inl rfl) t93
  obtain ⟨V3, c94, u94⟩ := cx_of_row (t := 0) (N := 256) (Or.inl rfl) t94
  obtain ⟨V4, c95, u95⟩ := cx_of_row (t := 0) (N := 256) (Or.inl rfl) t95
  obtain ⟨V5, c96, u96⟩ := cx_of_row (t := 0) (N := 256) (Or.inl rfl) t96
  obtain ⟨V6, c97, u97⟩ := cx_of_row (t := 0) (N := 256) (Or.inl rfl) t97
  obtain ⟨V7, c98, u98⟩ := cx_of_row (t := 0) (N := 256) (Or.inl rfl) t98
  obtain ⟨V8, c99, u99⟩ := cx_of_row (t := 0) (N := 256) (Or.inl rfl) t99
  obtain ⟨fb, c100, u100⟩ := cx_of_row (t := 0) (N := 8) (Or.inl rfl) t100
  obtain ⟨m119, c119, b119⟩ := cx_of_obj (ci := 11) (N := 68) (tvs := ots_119) t119
  have hbd119 := obd_119_of b119
  obtain ⟨r2, c126, u126⟩ := cx_of_row (t := 0) (N := 7) (Or.inl rfl) t126
  obtain ⟨ch, c149, u149⟩ := cx_of_rowE (N := 2) (Or.inl rfl) t149
  obtain ⟨mk, c150, u150⟩ := cx_of_row (t := 0) (N := 16) (Or.inl rfl) t150
  obtain ⟨T, c151, u151⟩ := cx_of_row (t := 0) (N := 2304) (Or.inl rfl) t151
  obtain ⟨jt, c152, u152⟩ := cx_of_rowE (N := 8) (Or.inl rfl) t152
  have hX : cx_heap tS cs (h_xc (cx_toI (m0 11)) r1 (cx_toI (m87 4)) (cx_toI (m87 5)) (cx_toI (m87 6)) (cx_toI (m87 7)) (cx_toI (m87 8)) lm fm fb (F9 V0 V1 V2 V3 V4 V5 V6 V7 V8)) ws := cx_heap_of (List.forall_mem_cons.mpr ⟨⟨a0, e0, w0, c0⟩, (List.forall_mem_cons.mpr ⟨⟨a1, e1, w1, c1⟩, (List.forall_mem_cons.mpr ⟨⟨a87, e87, w87, c87⟩, (List.forall_mem_cons.mpr ⟨⟨a88, e88, w88, c88⟩, (List.forall_mem_cons.mpr ⟨⟨a89, e89, w89, c89⟩, (List.forall_mem_cons.mpr ⟨⟨a90, e90, w90, c90⟩, (List.forall_mem_cons.mpr ⟨⟨a91, e91, w91, c91⟩, (List.forall_mem_cons.mpr ⟨⟨a92, e92, w92, c92⟩, (List.forall_mem_cons.mpr ⟨⟨a93, e93, w93, c93⟩, (List.forall_mem_cons.mpr ⟨⟨a94, e94, w94, c94⟩, (List.forall_mem_cons.mpr ⟨⟨a95, e95, w95, c95⟩, (List.forall_mem_cons.mpr ⟨⟨a96, e96, w96, c96⟩, (List.forall_mem_cons.mpr ⟨⟨a97, e97, w97, c97⟩, (List.forall_mem_cons.mpr ⟨⟨a98, e98, w98, c98⟩, (List.forall_mem_cons.mpr ⟨⟨a99, e99, w99, c99⟩, (List.forall_mem_cons.mpr ⟨⟨a100, e100, w100, c100⟩, (fun _ h => absurd h List.not_mem_nil)⟩)⟩)⟩)⟩)⟩)⟩)⟩)⟩)⟩)⟩)⟩)⟩)⟩)⟩)⟩)⟩)
  have hM : cx_heap tS cs (h_mc (fun i => cx_toI (m119 i)) (fun i => cx_toL (m119 i)) r2 ch mk T jt) ws := cx_heap_of (List.forall_mem_cons.mpr ⟨⟨a119, e119, w119, c119⟩, (List.forall_mem_cons.mpr ⟨⟨a126, e126, w126, c126⟩, (List.forall_mem_cons.mpr ⟨⟨a149, e149, w149, c149⟩, (List.forall_mem_cons.mpr ⟨⟨a150, e150, w150, c150⟩, (List.forall_mem_cons.mpr ⟨⟨a151, e151, w151, c151⟩, (List.forall_mem_cons.mpr ⟨⟨a152, e152, w152, c152⟩, (fun _ h => absurd h List.not_mem_nil)⟩)⟩)⟩)⟩)⟩)⟩)
  have ha0 : (ws.map (·.1))[0]? = some a0 := by rw [List.getElem?_map, w0]; rfl
  have ha119 : (ws.map (·.1))[119]? = some a119 := by rw [List.getElem?_map, w119]; rfl
  obtain ⟨lm0, fm0, fb0, mk0, ch0, lo0, fo0, jc0, us0, kn0, LN, FN, q88, q89, q100, q149, q150, f4, f5, f6, f7, f8, hXR⟩ := hEQ.2
  have q88 : rl_row ws 88 = some ((List.range 8).map (fun i => .int (lm0 i))) := q88
  have q89 : rl_row ws 89 = some ((List.range 8).map (fun i => .int (fm0 i))) := q89
  have q100 : rl_row ws 100 = some ((List.range 8).map (fun i => .int (fb0 i))) := q100
  have q149 : rl_row ws 149 = some ((List.range 2).map (fun i => .int (ch0 i))) := q149
  have q150 : rl_row ws 150 = some ((List.range 16).map (fun i => .int (mk0 i))) := q150
  rw [cx_rowv w88 c88] at q88
  rw [cx_rowv w89 c89] at q89
  rw [cx_rowv w100 c100] at q100
  rw [cx_rowv w149 c149] at q149
  rw [cx_rowv w150 c150] at q150
  rw [cx_fldv w87 c87 (x := cx_toI (m87 4)) rfl rfl] at f4
  rw [cx_fldv w87 c87 (x := cx_toI (m87 5)) rfl rfl] at f5
  rw [cx_fldv w87 c87 (x := cx_toI (m87 6)) rfl rfl] at f6
  rw [cx_fldv w87 c87 (x := cx_toI (m87 7)) rfl rfl] at f7
  rw [cx_fldv w87 c87 (x := cx_toI (m87 8)) rfl rfl] at f8
  have f4 : cx_toI (m87 4) = lo0 := Value.int.inj (Option.some.inj f4)
  have f5 : cx_toI (m87 5) = fo0 := Value.int.inj (Option.some.inj f5)
  have f6 : cx_toI (m87 6) = jc0 := Value.int.inj (Option.some.inj f6)
  have f7 : cx_toI (m87 7) = us0 := Value.int.inj (Option.some.inj f7)
  have f8 : cx_toI (m87 8) = kn0 := Value.int.inj (Option.some.inj f8)
  rw [← f4, ← f5, ← f6, ← f7, ← f8] at hXR
  have hXR := XR_cong hXR (cx_rowE (Option.some.inj q88)) (cx_rowE (Option.some.inj q89)) (cx_rowE (Option.some.inj q100)) (cx_rowE (Option.some.inj q150)) (cx_rowE (Option.some.inj q149))
  obtain ⟨hlo, hfo, hc0, hc1, hLN, hFN, hmk, hJ⟩ := id hXR
  have hk1 : (0 : Int) ≤ (cx_toI (m87 8)).toInt ∧ (cx_toI (m87 8)).toInt ≤ 1 := hbd87.2.2
  have hkn : cx_toI (m87 8) = Int32.ofInt 0 ∨ cx_toI (m87 8) = Int32.ofInt 1 := by
    have k0 : (Int32.ofInt 0).toInt = 0 := by decide +kernel
    have k1 : (Int32.ofInt 1).toInt = 1 := by decide +kernel
    rcases (show (cx_toI (m87 8)).toInt = 0 ∨ (cx_toI (m87 8)).toInt = 1 by omega) with q | q
    · exact Or.inl (cx_i32 (by rw [q, k0]))
    · exact Or.inr (cx_i32 (by rw [q, k1]))
  have hFB : FB fb := fun x hx => by
    have h1 : ((-9 : Int) ≤ (fb x).toInt ∧ (fb x).toInt ≤ -9) ∨ ((0 : Int) ≤ (fb x).toInt ∧ (fb x).toInt ≤ 7) := cx_U2o (u100 x hx)
    omega
  have huE := uN_X hmk
  have hu0 : ∀ k f, 0 ≤ uN mk (fmO mk) k f := fun k f => (uN_b k f).1
  have hJB : JB jt := fun x hx => by
    have h1 : (-9 : Int) ≤ (jt x).toInt ∧ (jt x).toInt ≤ 7 := u152 x _ (rp_at hx)
    exact h1
  obtain ⟨fs0, e0q, -⟩ := id c0
  subst e0q
  refine lx_x F0 hl (pc' := 1380) (ab_tbo lto_28 _ _ _ (List.mem_of_getElem? (i := 0) rfl)) rfl ha0 ?_
  refine lx_arg F0 hiv hL hL2 hl (z := 1) (pc' := 1386) rfl (ab_tbo lto_28 _ _ _ (List.mem_of_getElem? (i := 1) rfl)) (ab_tbo lto_28 _ _ _ (List.mem_of_getElem? (i := 2) rfl)) (ab_tbo lto_28 _ _ _ (List.mem_of_getElem? (i := 3) rfl)) (ab_tbo lto_28 _ _ _ (List.mem_of_getElem? (i := 4) rfl)) (ab_tbo lto_28 _ _ _ (List.mem_of_getElem? (i := 5) rfl)) rfl ?_
  obtain ⟨d1, hd1, Ct1⟩ := ct_sr (dy := cx_toI (m0 11)) (lo := (cx_toI (m87 4))) (fo := (cx_toI (m87 5))) (jc := (cx_toI (m87 6))) (us := (cx_toI (m87 7))) (kn := (cx_toI (m87 8))) (r := r1) (lm := lm) (fm := fm) (fb := fb) (V := (F9 V0 V1 V2 V3 V4 V5 V6 V7 V8)) (LN := LN) (FN := FN) (x := xs (i0 + 1)) hlo hLN hfo hFN hkn hJ hFB l D cs tS ws [.ref a0, .int (xs (i0 + 1))] hX ⟨⟨a0, ha0, rfl⟩, rfl, trivial⟩
  refine lx_call F0 hcs hl (pc' := 1389) (q := 156) (n := 1) (ci := 10) (As := [.int (xs (i0 + 1))]) (stk := []) (ab_tbo lto_28 _ _ _ (List.mem_of_getElem? (i := 6) rfl)) rfl rfl rfl w0 (by decide) ⟨d1, by omega, Ct1⟩ rfl (fun rv ws1 hp1 => ?_)
  obtain ⟨v, h1, ⟨z, rr, jc2, us2, kn2, fb2, V2, rfl, rfl, hkk, hJ2, hB2, hdx⟩, hk1, hf1, hH1, hrv⟩ := hp1
  obtain rfl : rv = some (.int z) := by
    cases rv with
    | none => exact hrv.elim
    | some y => exact congrArg some hrv
  show ab_W p l e room_1 s m #[Value.ref b] below meth c D vwCl A Q cells slots 1389 ls [.int z] ws1
  have hl1 := lx_Lc hl hf1.1
  have hM1 := cx_heap_far hM hf1 rfl
  have ha119b : (ws1.map (·.1))[119]? = some a119 := by rw [hf1.1]; exact ha119
  refine lx_m F0 hl1 (pc' := 1390) (ab_tbo lto_28 _ _ _ (List.mem_of_getElem? (i := 7) rfl)) rfl ha119b ?_
  refine lx_arg F0 hiv hL hL2 hl1 (z := 1) (pc' := 1396) rfl (ab_tbo lto_28 _ _ _ (List.mem_of_getElem? (i := 8) rfl)) (ab_tbo lto_28 _ _ _ (List.mem_of_getElem? (i := 9) rfl)) (ab_tbo lto_28 _ _ _ (List.mem_of_getElem? (i := 10) rfl)) (ab_tbo lto_28 _ _ _ (List.mem_of_getElem? (i := 11) rfl)) (ab_tbo lto_28 _ _ _ (List.mem_of_getElem? (i := 12) rfl)) rfl ?_
  obtain ⟨a119c, e119c, w119c, c119c⟩ := hM1 119 _ rfl
  obtain ⟨fs119c, e119d, -⟩ := id c119c
  subst e119d
  have eadd : a119c = a119 := ab_ad_get ha119b w119c
  rw [eadd] at w119c
  obtain ⟨d2, hd2, Ct2⟩ := ct_msr (mi := fun i => cx_toI (m119 i)) (ml := fun i => cx_toL (m119 i)) (r := r2) (mk := mk) (ch := ch) (T := T) (jt := jt) (LN := LN) (FN := FN) (x := xs (i0 + 1)) hc0 hLN hc1 hFN hJB l D cs tS ws1 [.ref a119, .int (xs (i0 + 1))] hM1 ⟨⟨a119, ha119b, rfl⟩, rfl, trivial⟩
  refine lx_call F0 hcs hl1 (pc' := 1399) (q := 245) (n := 1) (ci := 11) (As := [.int (xs (i0 + 1))]) (stk := [.int z]) (ab_tbo lto_28 _ _ _ (List.mem_of_getElem? (i := 13) rfl)) rfl rfl rfl w119c (by first | decide | exact (by decide : (1 : Nat) ≤ 8)) ⟨d2, by omega, Ct2⟩ rfl (fun rv2 ws2 hp2 => ?_)
  obtain ⟨v2, h2, ⟨z2, rr2, T2, jt2, rfl, rfl, hJB2, hdm⟩, hk2, hf2, hH2, hrv2⟩ := hp2
  obtain rfl : rv2 = some (.int z2) := by
    cases rv2 with
    | none => exact hrv2.elim
    | some y => exact congrArg some hrv2
  show ab_W p l e room_1 s m #[Value.ref b] below meth c D vwCl A Q cells slots 1399 ls [.int z2, .int z] ws2
  have hk2b : (0 : Int) ≤ kn2.toInt ∧ kn2.toInt ≤ 1 := by
    have k0 : (Int32.ofInt 0).toInt = 0 := by decide +kernel
    have k1 : (Int32.ofInt 1).toInt = 1 := by decide +kernel
    rcases hkk with q | q <;> rw [q] <;> omega
  have hbd2 : obd_87 (upi (upi (upi (fun i => cx_toI (m87 i)) 6 jc2) 7 us2) 8 kn2) := ⟨hbd87.1, hbd87.2.1, hk2b⟩
  have hU100 : ∀ i : Nat, i < 8 → ab_inU [(Int.negSucc 8, Int.negSucc 8), (Int.ofNat 0, Int.ofNat 7)] (fb2 i).toInt := fun i hi => by
    have h1 : ((-9 : Int) ≤ (fb2 i).toInt ∧ (fb2 i).toInt ≤ -9) ∨ ((0 : Int) ≤ (fb2 i).toInt ∧ (fb2 i).toInt ≤ 7) := by have := hB2 i hi; omega
    exact cx_U2 h1
  have hE152 : ∀ (i : Nat) (v : ab_Iv), (ab_rp 8 (Int.negSucc 8, Int.ofNat 7) [])[i]? = some v → v.1 ≤ (jt2 i).toInt ∧ (jt2 i).toInt ≤ v.2 := fun i v hv => by
    obtain ⟨h1, rfl⟩ := rp_nth hv
    have h2 : (-9 : Int) ≤ (jt2 i).toInt ∧ (jt2 i).toInt ≤ 7 := hJB2 i h1
    exact h2
  rw [huE] at hdx
  have hfin : z = z2 := srE hu0 hLN hdx hdm
  have hlen1 : ws1.length = 165 := by have := congrArg List.length hf1.1; simpa [hlen] using this
  have hlen2 : ws2.length = 165 := by have := congrArg List.length hf2.1; simpa [hlen1] using this
  have hth1 : ab_th tS (ab_tys cs) th ws1 := lx_done (fl := [6574, 6575, 6576]) hth hX hH1 ⟨⟨rfl, rfl, Or.inr rfl, Or.inr rfl, Or.inr rfl, Or.inr rfl, Or.inr rfl, Or.inr rfl, Or.inr rfl, Or.inr rfl, Or.inr rfl, Or.inr rfl, Or.inr rfl, Or.inr rfl, trivial⟩, ⟨rfl, trivial⟩, ⟨rfl, rfl, Or.inr rfl, Or.inr rfl, Or.inr rfl, Or.inr rfl, Or.inr rfl, Or.inr rfl, Or.inl rfl, Or.inl rfl, Or.inl rfl, trivial⟩, ⟨rfl, trivial⟩, ⟨rfl, trivial⟩, ⟨rfl, trivial⟩, ⟨rfl, trivial⟩, ⟨rfl, trivial⟩, ⟨rfl, trivial⟩, ⟨rfl, trivial⟩, ⟨rfl, trivial⟩, ⟨rfl, trivial⟩, ⟨rfl, trivial⟩, ⟨rfl, trivial⟩, ⟨rfl, trivial⟩, ⟨rfl, trivial⟩, trivial⟩ hf1 (po := [(0, ci_0), (1, ci_1), (87, ci_87), (88, ci_88), (89, ci_89), (90, ci_90), (91, ci_91), (92, ci_92), (93, ci_93), (94, ci_94), (95, ci_95), (96, ci_96), (97, ci_97), (98, ci_98), (99, ci_99), (100, ci_100)]) (List.forall_mem_cons.mpr ⟨lx_po hH1 rfl (fun e2 q => cx_to_obj (N := 12) q rfl (otl_0 (mi := fun _ => cx_toI (m0 11)))), (List.forall_mem_cons.mpr ⟨lx_po hH1 rfl (fun e2 q => cx_to_row q cx_anyU), (List.forall_mem_cons.mpr ⟨lx_po hH1 rfl (fun e2 q => cx_to_obj (N := 9) q rfl (otl_87 (mi := upi (upi (upi (fun i => cx_toI (m87 i)) 6 jc2) 7 us2) 8 kn2) hbd2)), (List.forall_mem_cons.mpr ⟨lx_po hH1 rfl (fun e2 q => cx_to_row q cx_anyU), (List.forall_mem_cons.mpr ⟨lx_po hH1 rfl (fun e2 q => cx_to_row q cx_anyU), (List.forall_mem_cons.mpr ⟨lx_po hH1 rfl (fun e2 q => cx_to_rows q), (List.forall_mem_cons.mpr ⟨lx_po hH1 rfl (fun e2 q => cx_to_row q cx_anyU), (List.forall_mem_cons.mpr ⟨lx_po hH1 rfl (fun e2 q => cx_to_row q cx_anyU), (List.forall_mem_cons.mpr ⟨lx_po hH1 rfl (fun e2 q => cx_to_row q cx_anyU), (List.forall_mem_cons.mpr ⟨lx_po hH1 rfl (fun e2 q => cx_to_row q cx_anyU), (List.forall_mem_cons.mpr ⟨lx_po hH1 rfl (fun e2 q => cx_to_row q cx_anyU), (List.forall_mem_cons.mpr ⟨lx_po hH1 rfl (fun e2 q => cx_to_row q cx_anyU), (List.forall_mem_cons.mpr ⟨lx_po hH1 rfl (fun e2 q => cx_to_row q cx_anyU), (List.forall_mem_cons.mpr ⟨lx_po hH1 rfl (fun e2 q => cx_to_row q cx_anyU), (List.forall_mem_cons.mpr ⟨lx_po hH1 rfl (fun e2 q => cx_to_row q cx_anyU), (List.forall_mem_cons.mpr ⟨lx_po hH1 rfl (fun e2 q => cx_to_row q hU100), (fun _ h => absurd h List.not_mem_nil)⟩)⟩)⟩)⟩)⟩)⟩)⟩)⟩)⟩)⟩)⟩)⟩)⟩)⟩)⟩)⟩) (List.all_eq_true.mp tk28x th hmem)
  have hth2 : ab_th tS (ab_tys cs) th ws2 := lx_done (fl := [8616]) hth1 hM1 hH2 ⟨⟨rfl, rfl, Or.inl rfl, Or.inr rfl, Or.inr rfl, Or.inr rfl, Or.inr rfl, Or.inr rfl, Or.inr rfl, Or.inr rfl, Or.inr rfl, Or.inr rfl, Or.inr rfl, Or.inr rfl, Or.inr rfl, Or.inr rfl, Or.inr rfl, Or.inr rfl, Or.inr rfl, Or.inr rfl, Or.inr rfl, Or.inr rfl, Or.inr rfl, Or.inr rfl, Or.inr rfl, Or.inr rfl, Or.inr rfl, Or.inr rfl, Or.inr rfl, Or.inr rfl, Or.inr rfl, Or.inr rfl, Or.inr rfl, Or.inr rfl, Or.inr rfl, Or.inr rfl, Or.inr rfl, Or.inr rfl, Or.inr rfl, Or.inr rfl, Or.inr rfl, Or.inr rfl, Or.inr rfl, Or.inr rfl, Or.inr rfl, Or.inr rfl, Or.inr rfl, Or.inr rfl, Or.inr rfl, Or.inr rfl, Or.inr rfl, Or.inr rfl, Or.inr rfl, Or.inr rfl, Or.inr rfl, Or.inr rfl, Or.inr rfl, Or.inr rfl, Or.inr rfl, Or.inr rfl, Or.inr rfl, Or.inr rfl, Or.inr rfl, Or.inr rfl, Or.inr rfl, Or.inr rfl, Or.inr rfl, Or.inr rfl, Or.inr rfl, Or.inr rfl, trivial⟩, ⟨rfl, trivial⟩, ⟨rfl, trivial⟩, ⟨rfl, trivial⟩, ⟨rfl, trivial⟩, ⟨rfl, trivial⟩, trivial⟩ hf2 (po := [(119, ci_119), (126, ci_126), (149, ci_149), (150, ci_150), (151, ci_151), (152, ci_152)]) (List.forall_mem_cons.mpr ⟨lx_po hH2 rfl (fun e2 q => cx_to_obj (N := 68) q rfl (otl_119 (mi := upi (fun i => cx_toI (m119 i)) 0 (Int32.ofInt 0)) (ml := fun i => cx_toL (m119 i)) hbd119)), (List.forall_mem_cons.mpr ⟨lx_po hH2 rfl (fun e2 q => cx_to_row q cx_anyU), (List.forall_mem_cons.mpr ⟨lx_po hH2 rfl (fun e2 q => cx_to_rowE q rfl u149), (List.forall_mem_cons.mpr ⟨lx_po hH2 rfl (fun e2 q => cx_to_row q cx_anyU), (List.forall_mem_cons.mpr ⟨lx_po hH2 rfl (fun e2 q => cx_to_row q cx_anyU), (List.forall_mem_cons.mpr ⟨lx_po hH2 rfl (fun e2 q => cx_to_rowE q rfl hE152), (fun _ h => absurd h List.not_mem_nil)⟩)⟩)⟩)⟩)⟩)⟩) (List.all_eq_true.mp tk28m th hmem)
  refine lx_eq F0 (pc' := 1810) (ab_tbo lto_28 _ _ _ (List.mem_of_getElem? (i := 14) rfl)) rfl hfin ?_
  have hX2 := cx_heap_far hH1 hf2 rfl
  refine K ls ws2 (lx_Lc hl1 hf2.1) ⟨th, hmem, hth2⟩ ?_ hlen2
  refine ⟨⟨fun q h => absurd h List.not_mem_nil, fun q h => absurd h List.not_mem_nil, fun q h => absurd h List.not_mem_nil⟩, lm, fm, fb2, mk, ch, (cx_toI (m87 4)), (cx_toI (m87 5)), jc2, us2, kn2, LN, FN, ?_, ?_, ?_, ?_, ?_, ?_, ?_, ?_, ?_, ?_, ⟨hlo, hfo, hc0, hc1, hLN, hFN, hmk, hJ2⟩⟩
  · obtain ⟨ag, eg, wg, cg⟩ := hX2 88 _ rfl; exact cx_rowv wg cg
  · obtain ⟨ag, eg, wg, cg⟩ := hX2 89 _ rfl; exact cx_rowv wg cg
  · obtain ⟨ag, eg, wg, cg⟩ := hX2 100 _ rfl; exact cx_rowv wg cg
  · obtain ⟨ag, eg, wg, cg⟩ := hH2 149 _ rfl; exact cx_rowv wg cg
  · obtain ⟨ag, eg, wg, cg⟩ := hH2 150 _ rfl; exact cx_rowv wg cg
  · obtain ⟨ag, eg, wg, cg⟩ := hX2 87 _ rfl; exact cx_fldv wg cg (x := (cx_toI (m87 4))) rfl rfl
  · obtain ⟨ag, eg, wg, cg⟩ := hX2 87 _ rfl; exact cx_fldv wg cg (x := (cx_toI (m87 5))) rfl rfl
  · obtain ⟨ag, eg, wg, cg⟩ := hX2 87 _ rfl; exact cx_fldv wg cg (x := jc2) rfl rfl
  · obtain ⟨ag, eg, wg, cg⟩ := hX2 87 _ rfl; exact cx_fldv wg cg (x := us2) rfl rfl
  · obtain ⟨ag, eg, wg, cg⟩ := hX2 87 _ rfl; exact cx_fldv wg cg (x := kn2) rfl rfl
section LXF
variable {p : Program} {l : Launch} {e : Env} {s : State} {m : MethodId} {below : List Frame} {meth : Method} {c : Code} {D : va_G} {A : Nat → Prop} {Q : State → Prop}
variable {tS b L cells slots i0 : Nat} {xs : Nat → Int32} {cs : Nat → ClassId} {iv : Int32} {pc pc' : Nat} {ls : Array Slot} {stk : List Value} {ws : va_W}
/-- whether an int of the script is not 0 -/
theorem lx_flag (F : lw_F p s m meth c A D cs tS b L xs) (hiv : iv.toInt = (i0 : Int)) (hL : i0 + 6 ≤ L) (hL2 : L ≤ 3072) (hl : lw_Lc b iv ws ls) {z : Nat} (hz : Nat.ble z 5 = true) (d0 : decode code pc = .ok (.aload_n 0, 1)) (d1 : decode code (pc + 1) = .ok (.iload 4, 2)) (d2 : decode code (pc + 3) = .ok (.iconst (z : Int), 1)) (d3 : decode code (pc + 4) = .ok (.iadd, 1)) (d4 : decode code (pc + 5) = .ok (.iaload, 1)) (d5 : decode code (pc + 6) = .ok (.ifCond .eq 7, 3)) (d6 : decode code (pc + 9) = .ok (.iconst 1, 1)) (d7 : decode code (pc + 10) = .ok (.goto 4, 3)) (d8 : decode code (pc + 13) = .ok (.iconst 0, 1)) (t1 : ab_tgt (pc + 6) 7 = some (pc + 13)) (t2 : ab_tgt (pc + 10) 4 = some (pc + 14)) (hp : pc' = pc + 14) (k : ab_W p l e room_1 s m #[Value.ref b] below meth c D vwCl A Q cells slots pc' ls (.int (if (xs (i0 + z)).toInt = 0 then Int32.ofInt 0 else Int32.ofInt 1) :: stk) ws) : ab_W p l e room_1 s m #[Value.ref b] below meth c D vwCl A Q cells slots pc ls stk ws := by
  subst hp
  refine lx_arg F hiv hL hL2 hl hz d0 d1 d2 d3 d4 rfl ?_
  intro H locs hP hD hS
  refine ab_row_if F.1 F.2.1 d5 (ab_tgt_ok t1) (fun hc => ?_) (fun hc => ?_)
  · have hc : (xs (i0 + z)).toInt = 0 := hc
    rw [if_pos hc] at k
    exact lv_iconst F.1 F.2.1 d8 rfl (k H locs hP hD hS)
  · have hc : ¬ (xs (i0 + z)).toInt = 0 := hc
    rw [if_neg hc] at k
    refine lv_iconst F.1 F.2.1 d6 rfl ?_
    exact lv_goto F.1 F.2.1 d7 (ab_tgt_ok t2) (k H locs hP hD hS)
end LXF
theorem tk25a : lw_THs.all (fun th => tr_3 th [(0, ci_0), (1, ci_1), (87, ci_87), (88, ci_88), (89, ci_89), (119, ci_119), (126, ci_126), (149, ci_149), (150, ci_150), (100, ci_100)]) = true := by decide +kernel
theorem tk25x : lw_THs.all (fun th => th.all (tr_1 (cx_M [0, 1, 87, 88, 89] [6572, 6573, 6576]) th [(0, ci_0), (1, ci_1), (87, ci_87), (88, ci_88), (89, ci_89)])) = true := by decide +kernel
theorem tk25m : lw_THs.all (fun th => th.all (tr_1 (cx_M [119, 126, 149, 150] [8616]) th [(119, ci_119), (126, ci_126), (149, ci_149), (150, ci_150)])) = true := by decide +kernel
theorem tz_25 : ∀ th ∈ lw_THs, lw_TQ 1276 th := by
  intro th hmem p l e s m below meth c D A Q cs tS b L i0 cells slots xs iv ws ls F0 hcs hiv hL hL2 hl hth hEQ hlen K
  have h3 := tr_3_ok (List.all_eq_true.mp tk25a th hmem) hth
  obtain ⟨a0, e0, w0, t0⟩ := h3 _ (List.mem_of_getElem? (i := 0) rfl)
  obtain ⟨a1, e1, w1, t1⟩ := h3 _ (List.mem_of_getElem? (i := 1) rfl)
  obtain ⟨a87, e87, w87, t87⟩ := h3 _ (List.mem_of_getElem? (i := 2) rfl)
  obtain ⟨a88, e88, w88, t88⟩ := h3 _ (List.mem_of_getElem? (i := 3) rfl)
  obtain ⟨a89, e89, w89, t89⟩ := h3 _ (List.mem_of_getElem? (i := 4) rfl)
  obtain ⟨a119, e119, w119, t119⟩ := h3 _ (List.mem_of_getElem? (i := 5) rfl)
  obtain ⟨a126, e126, w126, t126⟩ := h3 _ (List.mem_of_getElem? (i := 6) rfl)
  obtain ⟨a149, e149, w149, t149⟩ := h3 _ (List.mem_of_getElem? (i := 7) rfl)
  obtain ⟨a150, e150, w150, t150⟩ := h3 _ (List.mem_of_getElem? (i := 8) rfl)
  obtain ⟨a100, e100, w100, t100⟩ := h3 _ (List.mem_of_getElem? (i := 9) rfl)
  obtain ⟨m0, c0, b0⟩ := cx_of_obj (ci := 10) (N := 12) (tvs := ots_0) t0
  obtain ⟨r1, c1, u1⟩ := cx_of_row (t := 0) (N := 7) (Or.inl rfl) t1
  obtain ⟨m87, c87, b87⟩ := cx_of_obj (ci := 0) (N := 9) (tvs := ots_87) t87
  have hbd87 := obd_87_of b87
  obtain ⟨lm, c88, u88⟩ := cx_of_row (t := 0) (N := 8) (Or.inl rfl) t88
  obtain ⟨fm, c89, u89⟩ := cx_of_row (t := 0) (N := 8) (Or.inl rfl) t89
  obtain ⟨m119, c119, b119⟩ := cx_of_obj (ci := 11) (N := 68) (tvs := ots_119) t119
  have hbd119 := obd_119_of b119
  obtain ⟨r2, c126, u126⟩ := cx_of_row (t := 0) (N := 7) (Or.inl rfl) t126
  obtain ⟨ch, c149, u149⟩ := cx_of_rowE (N := 2) (Or.inl rfl) t149
  obtain ⟨mk, c150, u150⟩ := cx_of_row (t := 0) (N := 16) (Or.inl rfl) t150
  obtain ⟨fb, c100, u100⟩ := cx_of_row (t := 0) (N := 8) (Or.inl rfl) t100
  have hX : cx_heap tS cs (h_xh (cx_toI (m0 11)) r1 (cx_toI (m87 4)) (cx_toI (m87 5)) (cx_toI (m87 6)) (cx_toI (m87 7)) (cx_toI (m87 8)) lm fm) ws := cx_heap_of (List.forall_mem_cons.mpr ⟨⟨a0, e0, w0, c0⟩, (List.forall_mem_cons.mpr ⟨⟨a1, e1, w1, c1⟩, (List.forall_mem_cons.mpr ⟨⟨a87, e87, w87, c87⟩, (List.forall_mem_cons.mpr ⟨⟨a88, e88, w88, c88⟩, (List.forall_mem_cons.mpr ⟨⟨a89, e89, w89, c89⟩, (fun _ h => absurd h List.not_mem_nil)⟩)⟩)⟩)⟩)⟩)
  have hM : cx_heap tS cs (h_mh (fun i => cx_toI (m119 i)) (fun i => cx_toL (m119 i)) r2 ch mk) ws := cx_heap_of (List.forall_mem_cons.mpr ⟨⟨a119, e119, w119, c119⟩, (List.forall_mem_cons.mpr ⟨⟨a126, e126, w126, c126⟩, (List.forall_mem_cons.mpr ⟨⟨a149, e149, w149, c149⟩, (List.forall_mem_cons.mpr ⟨⟨a150, e150, w150, c150⟩, (fun _ h => absurd h List.not_mem_nil)⟩)⟩)⟩)⟩)
  have hE : cx_heap tS cs ([(100, .inr (.inl (0, 8, fb)))]) ws := cx_heap_of (List.forall_mem_cons.mpr ⟨⟨a100, e100, w100, c100⟩, (fun _ h => absurd h List.not_mem_nil)⟩)
  have ha0 : (ws.map (·.1))[0]? = some a0 := by rw [List.getElem?_map, w0]; rfl
  have ha119 : (ws.map (·.1))[119]? = some a119 := by rw [List.getElem?_map, w119]; rfl
  obtain ⟨lm0, fm0, fb0, mk0, ch0, lo0, fo0, jc0, us0, kn0, LN, FN, q88, q89, q100, q149, q150, f4, f5, f6, f7, f8, hXR⟩ := hEQ.2
  have q88 : rl_row ws 88 = some ((List.range 8).map (fun i => .int (lm0 i))) := q88
  have q89 : rl_row ws 89 = some ((List.range 8).map (fun i => .int (fm0 i))) := q89
  have q100 : rl_row ws 100 = some ((List.range 8).map (fun i => .int (fb0 i))) := q100
  have q149 : rl_row ws 149 = some ((List.range 2).map (fun i => .int (ch0 i))) := q149
  have q150 : rl_row ws 150 = some ((List.range 16).map (fun i => .int (mk0 i))) := q150
  rw [cx_rowv w88 c88] at q88
  rw [cx_rowv w89 c89] at q89
  rw [cx_rowv w100 c100] at q100
  rw [cx_rowv w149 c149] at q149
  rw [cx_rowv w150 c150] at q150
  rw [cx_fldv w87 c87 (x := cx_toI (m87 4)) rfl rfl] at f4
  rw [cx_fldv w87 c87 (x := cx_toI (m87 5)) rfl rfl] at f5
  rw [cx_fldv w87 c87 (x := cx_toI (m87 6)) rfl rfl] at f6
  rw [cx_fldv w87 c87 (x := cx_toI (m87 7)) rfl rfl] at f7
  rw [cx_fldv w87 c87 (x := cx_toI (m87 8)) rfl rfl] at f8
  have f4 : cx_toI (m87 4) = lo0 := Value.int.inj (Option.some.inj f4)
  have f5 : cx_toI (m87 5) = fo0 := Value.int.inj (Option.some.inj f5)
  have f6 : cx_toI (m87 6) = jc0 := Value.int.inj (Option.some.inj f6)
  have f7 : cx_toI (m87 7) = us0 := Value.int.inj (Option.some.inj f7)
  have f8 : cx_toI (m87 8) = kn0 := Value.int.inj (Option.some.inj f8)
  rw [← f4, ← f5, ← f6, ← f7, ← f8] at hXR
  have hXR := XR_cong hXR (cx_rowE (Option.some.inj q88)) (cx_rowE (Option.some.inj q89)) (cx_rowE (Option.some.inj q100)) (cx_rowE (Option.some.inj q150)) (cx_rowE (Option.some.inj q149))
  obtain ⟨hlo, hfo, hc0, hc1, hLN, hFN, hmk, hJ⟩ := id hXR
  have hk1 : (0 : Int) ≤ (cx_toI (m87 8)).toInt ∧ (cx_toI (m87 8)).toInt ≤ 1 := hbd87.2.2
  have hkn : cx_toI (m87 8) = Int32.ofInt 0 ∨ cx_toI (m87 8) = Int32.ofInt 1 := by
    have k0 : (Int32.ofInt 0).toInt = 0 := by decide +kernel
    have k1 : (Int32.ofInt 1).toInt = 1 := by decide +kernel
    rcases (show (cx_toI (m87 8)).toInt = 0 ∨ (cx_toI (m87 8)).toInt = 1 by omega) with q | q
    · exact Or.inl (cx_i32 (by rw [q, k0]))
    · exact Or.inr (cx_i32 (by rw [q, k1]))
  have hFB : FB fb := fun x hx => by
    have h1 : ((-9 : Int) ≤ (fb x).toInt ∧ (fb x).toInt ≤ -9) ∨ ((0 : Int) ≤ (fb x).toInt ∧ (fb x).toInt ≤ 7) := cx_U2o (u100 x hx)
    omega
  have huE := uN_X hmk
  have hu0 : ∀ k f, 0 ≤ uN mk (fmO mk) k f := fun k f => (uN_b k f).1
  obtain ⟨fs0, e0q, -⟩ := id c0
  subst e0q
  refine lx_x F0 hl (pc' := 1277) (ab_tbo lto_25 _ _ _ (List.mem_of_getElem? (i := 0) rfl)) rfl ha0 ?_
  refine lx_flag F0 hiv hL hL2 hl (z := 1) (pc' := 1291) rfl (ab_tbo lto_25 _ _ _ (List.mem_of_getElem? (i := 1) rfl)) (ab_tbo lto_25 _ _ _ (List.mem_of_getElem? (i := 2) rfl)) (ab_tbo lto_25 _ _ _ (List.mem_of_getElem? (i := 3) rfl)) (ab_tbo lto_25 _ _ _ (List.mem_of_getElem? (i := 4) rfl)) (ab_tbo lto_25 _ _ _ (List.mem_of_getElem? (i := 5) rfl)) (ab_tbo lto_25 _ _ _ (List.mem_of_getElem? (i := 6) rfl)) (ab_tbo lto_25 _ _ _ (List.mem_of_getElem? (i := 7) rfl)) (ab_tbo lto_25 _ _ _ (List.mem_of_getElem? (i := 8) rfl)) (ab_tbo lto_25 _ _ _ (List.mem_of_getElem? (i := 9) rfl)) rfl rfl rfl ?_
  refine lx_arg F0 hiv hL hL2 hl (z := 2) (pc' := 1297) rfl (ab_tbo lto_25 _ _ _ (List.mem_of_getElem? (i := 10) rfl)) (ab_tbo lto_25 _ _ _ (List.mem_of_getElem? (i := 11) rfl)) (ab_tbo lto_25 _ _ _ (List.mem_of_getElem? (i := 12) rfl)) (ab_tbo lto_25 _ _ _ (List.mem_of_getElem? (i := 13) rfl)) (ab_tbo lto_25 _ _ _ (List.mem_of_getElem? (i := 14) rfl)) rfl ?_
  obtain ⟨d1, hd1, Ct1⟩ := ct_child (dy := cx_toI (m0 11)) (lo := (cx_toI (m87 4))) (fo := (cx_toI (m87 5))) (jc := (cx_toI (m87 6))) (us := (cx_toI (m87 7))) (kn := (cx_toI (m87 8))) (r := r1) (lm := lm) (fm := fm) (LN := LN) (FN := FN) (fd := (if (xs (i0 + 1)).toInt = 0 then Int32.ofInt 0 else Int32.ofInt 1)) (m := xs (i0 + 2)) hlo hLN hfo hFN l D cs tS ws [.ref a0, .int (if (xs (i0 + 1)).toInt = 0 then Int32.ofInt 0 else Int32.ofInt 1), .int (xs (i0 + 2))] hX ⟨⟨a0, ha0, rfl⟩, rfl, rfl, trivial⟩
  refine lx_call F0 hcs hl (pc' := 1300) (q := 153) (n := 2) (ci := 10) (As := [.int (if (xs (i0 + 1)).toInt = 0 then Int32.ofInt 0 else Int32.ofInt 1), .int (xs (i0 + 2))]) (stk := []) (ab_tbo lto_25 _ _ _ (List.mem_of_getElem? (i := 15) rfl)) rfl rfl rfl w0 (by decide) ⟨d1, by omega, Ct1⟩ rfl (fun rv ws1 hp1 => ?_)
  obtain ⟨v, h1, ⟨z, rr, lo2, fo2, kn2, lm2, fm2, LN2, FN2, rfl, rfl, hlo2, hfo2, hkx, hdx⟩, hk1, hf1, hH1, hrv⟩ := hp1
  obtain rfl : rv = some (.int z) := by
    cases rv with
    | none => exact hrv.elim
    | some y => exact congrArg some hrv
  show ab_W p l e room_1 s m #[Value.ref b] below meth c D vwCl A Q cells slots 1300 ls [.int z] ws1
  refine lx_pop F0 (pc' := 1301) (ab_tbo lto_25 _ _ _ (List.mem_of_getElem? (i := 16) rfl)) rfl ?_
  have hl1 := lx_Lc hl hf1.1
  have hM1 := cx_heap_far hM hf1 rfl
  have ha119b : (ws1.map (·.1))[119]? = some a119 := by rw [hf1.1]; exact ha119
  refine lx_m F0 hl1 (pc' := 1302) (ab_tbo lto_25 _ _ _ (List.mem_of_getElem? (i := 17) rfl)) rfl ha119b ?_
  refine lx_flag F0 hiv hL hL2 hl1 (z := 1) (pc' := 1316) rfl (ab_tbo lto_25 _ _ _ (List.mem_of_getElem? (i := 18) rfl)) (ab_tbo lto_25 _ _ _ (List.mem_of_getElem? (i := 19) rfl)) (ab_tbo lto_25 _ _ _ (List.mem_of_getElem? (i := 20) rfl)) (ab_tbo lto_25 _ _ _ (List.mem_of_getElem? (i := 21) rfl)) (ab_tbo lto_25 _ _ _ (List.mem_of_getElem? (i := 22) rfl)) (ab_tbo lto_25 _ _ _ (List.mem_of_getElem? (i := 23) rfl)) (ab_tbo lto_25 _ _ _ (List.mem_of_getElem? (i := 24) rfl)) (ab_tbo lto_25 _ _ _ (List.mem_of_getElem? (i := 25) rfl)) (ab_tbo lto_25 _ _ _ (List.mem_of_getElem? (i := 26) rfl)) rfl rfl rfl ?_
  refine lx_arg F0 hiv hL hL2 hl1 (z := 2) (pc' := 1322) rfl (ab_tbo lto_25 _ _ _ (List.mem_of_getElem? (i := 27) rfl)) (ab_tbo lto_25 _ _ _ (List.mem_of_getElem? (i := 28) rfl)) (ab_tbo lto_25 _ _ _ (List.mem_of_getElem? (i := 29) rfl)) (ab_tbo lto_25 _ _ _ (List.mem_of_getElem? (i := 30) rfl)) (ab_tbo lto_25 _ _ _ (List.mem_of_getElem? (i := 31) rfl)) rfl ?_
  obtain ⟨a119c, e119c, w119c, c119c⟩ := hM1 119 _ rfl
  obtain ⟨fs119c, e119d, -⟩ := id c119c
  subst e119d
  have eadd : a119c = a119 := ab_ad_get ha119b w119c
  rw [eadd] at w119c
  obtain ⟨d2, hd2, Ct2⟩ := ct_mchild (mi := fun i => cx_toI (m119 i)) (ml := fun i => cx_toL (m119 i)) (r := r2) (mk := mk) (ch := ch) (LN := LN) (FN := FN) (fd := (if (xs (i0 + 1)).toInt = 0 then Int32.ofInt 0 else Int32.ofInt 1)) (m := xs (i0 + 2)) hc0 hLN hc1 hFN l D cs tS ws1 [.ref a119, .int (if (xs (i0 + 1)).toInt = 0 then Int32.ofInt 0 else Int32.ofInt 1), .int (xs (i0 + 2))] hM1 ⟨⟨a119, ha119b, rfl⟩, rfl, rfl, trivial⟩
  refine lx_call F0 hcs hl1 (pc' := 1325) (q := 239) (n := 2) (ci := 11) (As := [.int (if (xs (i0 + 1)).toInt = 0 then Int32.ofInt 0 else Int32.ofInt 1), .int (xs (i0 + 2))]) (stk := []) (ab_tbo lto_25 _ _ _ (List.mem_of_getElem? (i := 32) rfl)) rfl rfl rfl w119c (by first | decide | exact (by decide : (1 : Nat) ≤ 8)) ⟨d2, by omega, Ct2⟩ rfl (fun rv2 ws2 hp2 => ?_)
  obtain ⟨v2, h2, ⟨z2, rr2, ch2, mk2, LN3, FN3, rfl, rfl, hch0, hch1, hdm⟩, hk2, hf2, hH2, hrv2⟩ := hp2
  obtain rfl : rv2 = some (.int z2) := by
    cases rv2 with
    | none => exact hrv2.elim
    | some y => exact congrArg some hrv2
  show ab_W p l e room_1 s m #[Value.ref b] below meth c D vwCl A Q cells slots 1325 ls [.int z2] ws2
  obtain ⟨hfin, eLN, eFN, hm2, hL9, hF9⟩ := chE (fun x hx => hmk x hx) hdx hdm
  have hL2' := hL9 hLN
  have hF2' := hF9 hFN
  have hkk : kn2 = Int32.ofInt 0 ∨ kn2 = Int32.ofInt 1 := by
    rcases hkx with q | ⟨q, -⟩
    · exact Or.inl q
    · rw [q]; exact hkn
  have hk2b : (0 : Int) ≤ kn2.toInt ∧ kn2.toInt ≤ 1 := by
    have k0 : (Int32.ofInt 0).toInt = 0 := by decide +kernel
    have k1 : (Int32.ofInt 1).toInt = 1 := by decide +kernel
    rcases hkk with q | q <;> rw [q] <;> omega
  have hbd2 : obd_87 (upi (upi (upi (fun i => cx_toI (m87 i)) 4 lo2) 5 fo2) 8 kn2) := ⟨by show (0 : Int) ≤ lo2.toInt ∧ lo2.toInt ≤ 8; omega, by show (0 : Int) ≤ fo2.toInt ∧ fo2.toInt ≤ 8; omega, hk2b⟩
  have hE149 : ∀ (i : Nat) (v : ab_Iv), (ab_rp 2 (Int.ofNat 0, Int.ofNat 8) [])[i]? = some v → v.1 ≤ (ch2 i).toInt ∧ (ch2 i).toInt ≤ v.2 := fun i v hv => by
    obtain ⟨h1, rfl⟩ := rp_nth hv
    have h2 : (0 : Int) ≤ (ch2 i).toInt ∧ (ch2 i).toInt ≤ 8 := by
      rcases (show i = 0 ∨ i = 1 by omega) with rfl | rfl <;> omega
    exact h2
  have hlen1 : ws1.length = 165 := by have := congrArg List.length hf1.1; simpa [hlen] using this
  have hlen2 : ws2.length = 165 := by have := congrArg List.length hf2.1; simpa [hlen1] using this
  have hth1 : ab_th tS (ab_tys cs) th ws1 := lx_done (fl := [6572, 6573, 6576]) hth hX hH1 ⟨⟨rfl, rfl, Or.inr rfl, Or.inr rfl, Or.inr rfl, Or.inr rfl, Or.inr rfl, Or.inr rfl, Or.inr rfl, Or.inr rfl, Or.inr rfl, Or.inr rfl, Or.inr rfl, Or.inr rfl, trivial⟩, ⟨rfl, trivial⟩, ⟨rfl, rfl, Or.inr rfl, Or.inr rfl, Or.inr rfl, Or.inr rfl, Or.inl rfl, Or.inl rfl, Or.inr rfl, Or.inr rfl, Or.inl rfl, trivial⟩, ⟨rfl, trivial⟩, ⟨rfl, trivial⟩, trivial⟩ hf1 (po := [(0, ci_0), (1, ci_1), (87, ci_87), (88, ci_88), (89, ci_89)]) (List.forall_mem_cons.mpr ⟨lx_po hH1 rfl (fun e2 q => cx_to_obj (N := 12) q rfl (otl_0 (mi := fun _ => cx_toI (m0 11)))), (List.forall_mem_cons.mpr ⟨lx_po hH1 rfl (fun e2 q => cx_to_row q cx_anyU), (List.forall_mem_cons.mpr ⟨lx_po hH1 rfl (fun e2 q => cx_to_obj (N := 9) q rfl (otl_87 (mi := upi (upi (upi (fun i => cx_toI (m87 i)) 4 lo2) 5 fo2) 8 kn2) hbd2)), (List.forall_mem_cons.mpr ⟨lx_po hH1 rfl (fun e2 q => cx_to_row q cx_anyU), (List.forall_mem_cons.mpr ⟨lx_po hH1 rfl (fun e2 q => cx_to_row q cx_anyU), (fun _ h => absurd h List.not_mem_nil)⟩)⟩)⟩)⟩)⟩) (List.all_eq_true.mp tk25x th hmem)
  have hth2 : ab_th tS (ab_tys cs) th ws2 := lx_done (fl := [8616]) hth1 hM1 hH2 ⟨⟨rfl, rfl, Or.inl rfl, Or.inr rfl, Or.inr rfl, Or.inr rfl, Or.inr rfl, Or.inr rfl, Or.inr rfl, Or.inr rfl, Or.inr rfl, Or.inr rfl, Or.inr rfl, Or.inr rfl, Or.inr rfl, Or.inr rfl, Or.inr rfl, Or.inr rfl, Or.inr rfl, Or.inr rfl, Or.inr rfl, Or.inr rfl, Or.inr rfl, Or.inr rfl, Or.inr rfl, Or.inr rfl, Or.inr rfl, Or.inr rfl, Or.inr rfl, Or.inr rfl, Or.inr rfl, Or.inr rfl, Or.inr rfl, Or.inr rfl, Or.inr rfl, Or.inr rfl, Or.inr rfl, Or.inr rfl, Or.inr rfl, Or.inr rfl, Or.inr rfl, Or.inr rfl, Or.inr rfl, Or.inr rfl, Or.inr rfl, Or.inr rfl, Or.inr rfl, Or.inr rfl, Or.inr rfl, Or.inr rfl, Or.inr rfl, Or.inr rfl, Or.inr rfl, Or.inr rfl, Or.inr rfl, Or.inr rfl, Or.inr rfl, Or.inr rfl, Or.inr rfl, Or.inr rfl, Or.inr rfl, Or.inr rfl, Or.inr rfl, Or.inr rfl, Or.inr rfl, Or.inr rfl, Or.inr rfl, Or.inr rfl, Or.inr rfl, Or.inr rfl, trivial⟩, ⟨rfl, trivial⟩, ⟨rfl, trivial⟩, ⟨rfl, trivial⟩, trivial⟩ hf2 (po := [(119, ci_119), (126, ci_126), (149, ci_149), (150, ci_150)]) (List.forall_mem_cons.mpr ⟨lx_po hH2 rfl (fun e2 q => cx_to_obj (N := 68) q rfl (otl_119 (mi := upi (fun i => cx_toI (m119 i)) 0 (Int32.ofInt 0)) (ml := fun i => cx_toL (m119 i)) hbd119)), (List.forall_mem_cons.mpr ⟨lx_po hH2 rfl (fun e2 q => cx_to_row q cx_anyU), (List.forall_mem_cons.mpr ⟨lx_po hH2 rfl (fun e2 q => cx_to_rowE q rfl hE149), (List.forall_mem_cons.mpr ⟨lx_po hH2 rfl (fun e2 q => cx_to_row q cx_anyU), (fun _ h => absurd h List.not_mem_nil)⟩)⟩)⟩)⟩) (List.all_eq_true.mp tk25m th hmem)
  refine lx_pop F0 (pc' := 1326) (ab_tbo lto_25 _ _ _ (List.mem_of_getElem? (i := 33) rfl)) rfl ?_
  refine lx_goto F0 (pc' := 1810) (ab_tbo lto_25 _ _ _ (List.mem_of_getElem? (i := 34) rfl)) rfl ?_
  have hX2 := cx_heap_far hH1 hf2 rfl
  have hE2 := cx_heap_far (cx_heap_far hE hf1 rfl) hf2 rfl
  refine K ls ws2 (lx_Lc hl1 hf2.1) ⟨th, hmem, hth2⟩ ?_ hlen2
  refine ⟨⟨fun q h => absurd h List.not_mem_nil, fun q h => absurd h List.not_mem_nil, fun q h => absurd h List.not_mem_nil⟩, lm2, fm2, fb, mk2, ch2, lo2, fo2, (cx_toI (m87 6)), (cx_toI (m87 7)), kn2, LN2, FN2, ?_, ?_, ?_, ?_, ?_, ?_, ?_, ?_, ?_, ?_, ⟨hlo2, hfo2, by rw [hch0, eLN], by rw [hch1, eFN], hL2', hF2', hm2, fun q => ?_⟩⟩
  · obtain ⟨ag, eg, wg, cg⟩ := hX2 88 _ rfl; exact cx_rowv wg cg
  · obtain ⟨ag, eg, wg, cg⟩ := hX2 89 _ rfl; exact cx_rowv wg cg
  · obtain ⟨ag, eg, wg, cg⟩ := hE2 100 _ rfl; exact cx_rowv wg cg
  · obtain ⟨ag, eg, wg, cg⟩ := hH2 149 _ rfl; exact cx_rowv wg cg
  · obtain ⟨ag, eg, wg, cg⟩ := hH2 150 _ rfl; exact cx_rowv wg cg
  · obtain ⟨ag, eg, wg, cg⟩ := hX2 87 _ rfl; exact cx_fldv wg cg (x := lo2) rfl rfl
  · obtain ⟨ag, eg, wg, cg⟩ := hX2 87 _ rfl; exact cx_fldv wg cg (x := fo2) rfl rfl
  · obtain ⟨ag, eg, wg, cg⟩ := hX2 87 _ rfl; exact cx_fldv wg cg (x := (cx_toI (m87 6))) rfl rfl
  · obtain ⟨ag, eg, wg, cg⟩ := hX2 87 _ rfl; exact cx_fldv wg cg (x := (cx_toI (m87 7))) rfl rfl
  · obtain ⟨ag, eg, wg, cg⟩ := hX2 87 _ rfl; exact cx_fldv wg cg (x := kn2) rfl rfl
  · rcases hkx with q2 | ⟨q2, e1, e2, e3, e4⟩
    · exfalso
      have k0 : (Int32.ofInt 0).toInt = 0 := by decide +kernel
      have k1 : (Int32.ofInt 1).toInt = 1 := by decide +kernel
      rw [q2] at q
      rw [q] at k0
      omega
    · rw [e1, e2, e3, e4]
      exact hJ (by rw [← q2]; exact q)
end
