noncomputable section
theorem cx_heap_of {tS : Nat} {cs : Nat → ClassId} {h : cx_H} {ws : va_W} (H : ∀ q ∈ h, ∃ a2 e2, ws[q.1]? = some (a2, e2) ∧ cx_cell (ws.map (·.1)) tS cs q.2 e2) : cx_heap tS cs h ws := fun k c hk => H _ (cx_hg_mem hk)
theorem cx_rowv {ws : va_W} {tS k N a2 t : Nat} {cs : Nat → ClassId} {ad : List Nat} {f : Nat → Int32} {e2 : va_E} (hw : ws[k]? = some (a2, e2)) (hc : cx_cell ad tS cs (.inr (.inl (t, N, f))) e2) : rl_row ws k = some ((List.range N).map (fun i => .int (f i))) := by
  obtain ⟨-, rfl⟩ := hc
  unfold rl_row
  rw [hw]
  rfl
theorem cx_row1 {ws : va_W} {k : Nat} {l : List Value} (h : rl_row ws k = some l) : rl_rows ws [k] = some l := by
  show (match rl_row ws k, some [] with
    | some a, some b => some (a ++ b)
    | _, _ => none) = some l
  rw [h]
  show some (l ++ []) = some l
  rw [List.append_nil]
/-- rows that are the same, number by number -/
theorem cx_rowE {N : Nat} {f g : Nat → Int32} (h : (List.range N).map (fun i => Value.int (f i)) = (List.range N).map (fun i => Value.int (g i))) : ∀ i, i < N → f i = g i := fun i hi => by
  have h1 := congrArg (fun l => l[i]?) h
  simp only [List.getElem?_map, List.getElem?_range hi, Option.map_some] at h1
  exact Value.int.inj (Option.some.inj h1)
theorem cx_rowM {N : Nat} {f g : Nat → Int32} (h : ∀ i, i < N → f i = g i) : (List.range N).map (fun i => Value.int (f i)) = (List.range N).map (fun i => Value.int (g i)) := by
  apply List.map_congr_left
  intro i hi
  rw [h i (List.mem_range.mp hi)]
theorem cx_fldv {ws : va_W} {tS k f ci a2 : Nat} {cs : Nat → ClassId} {ad : List Nat} {vs : List cx_V} {x : Int32} {e2 : va_E} (hw : ws[k]? = some (a2, e2)) (hc : cx_cell ad tS cs (.inl (ci, vs)) e2) (hv : vs[f]? = some (.inl (.int x))) (hf : Nat.ble 1000 f = false) : rl_fld ws (k, f) = some (.int x) := by
  obtain ⟨fs, rfl, hal⟩ := hc
  obtain ⟨y, hy, hyv⟩ := cx_all_get hal hv
  have hyv : y = .int x := hyv
  subst hyv
  unfold rl_fld
  show (bif Nat.ble 1000 f then rl_nth (rl_row ws k) (f - 1000) else rl_fld0 ws (k, f)) = _
  rw [hf]
  show rl_fld0 ws (k, f) = _
  unfold rl_fld0
  show (match ws[k]? with
    | some w => rl_fs w.2 f
    | none => none) = _
  rw [hw]
  exact hy
theorem lx_fullL (x : Int64) : (Int.negSucc 9223372036854775807) ≤ x.toInt ∧ x.toInt ≤ Int.ofNat 9223372036854775807 := by
  have h1 := Int64.le_toInt x
  have h2 := Int64.toInt_lt x
  constructor
  · have e1 : (Int.negSucc 9223372036854775807) = -2 ^ 63 := by decide
    rw [e1]; exact h1
  · have e1 : Int.ofNat 9223372036854775807 = 2 ^ 63 - 1 := by decide
    rw [e1]; omega
theorem cx_U2 {a b c d x : Int} (h : a ≤ x ∧ x ≤ b ∨ c ≤ x ∧ x ≤ d) : ab_inU [(a, b), (c, d)] x := by
  rcases h with h | h
  · exact ⟨_, List.mem_cons_self, h⟩
  · exact ⟨_, List.mem_cons_of_mem _ List.mem_cons_self, h⟩
theorem cx_U1 {a b x : Int} (h : a ≤ x ∧ x ≤ b) : ab_inU [(a, b)] x := ⟨_, List.mem_cons_self, h⟩
theorem cx_U2o {a b c d x : Int} (h : ab_inU [(a, b), (c, d)] x) : a ≤ x ∧ x ≤ b ∨ c ≤ x ∧ x ≤ d := by
  obtain ⟨v, hv, h1, h2⟩ := h
  rcases List.mem_cons.mp hv with q | hv
  · subst q; exact Or.inl ⟨h1, h2⟩
  · rcases List.mem_cons.mp hv with q | hv
    · subst q; exact Or.inr ⟨h1, h2⟩
    · cases hv
theorem cx_U1o {a b x : Int} (h : ab_inU [(a, b)] x) : a ≤ x ∧ x ≤ b := by
  obtain ⟨v, hv, h1, h2⟩ := h
  rcases List.mem_cons.mp hv with q | hv
  · subst q; exact ⟨h1, h2⟩
  · cases hv
def ots_0 : List ab_TV := [some (.inr (.inl [1])), some (.inr (.inl [2])), some (.inr (.inl [15])), some (.inr (.inl [21])), some (.inr (.inl [43])), some (.inr (.inl [68])), some (.inr (.inl [77])), some (.inr (.inl [87])), some (.inr (.inl [101])), some (.inr (.inl [107])), some (.inr (.inl [113])), some (.inl (false, .negSucc 2147483647, .ofNat 2147483647))]
theorem otl_0 {mi : Nat → Int32} : cx_tl ots_0 (vs_0 (mi 11)) := ⟨⟨_, rfl, List.mem_cons_self⟩, ⟨_, rfl, List.mem_cons_self⟩, ⟨_, rfl, List.mem_cons_self⟩, ⟨_, rfl, List.mem_cons_self⟩, ⟨_, rfl, List.mem_cons_self⟩, ⟨_, rfl, List.mem_cons_self⟩, ⟨_, rfl, List.mem_cons_self⟩, ⟨_, rfl, List.mem_cons_self⟩, ⟨_, rfl, List.mem_cons_self⟩, ⟨_, rfl, List.mem_cons_self⟩, ⟨_, rfl, List.mem_cons_self⟩, ⟨_, rfl, lw_fullI _⟩, trivial⟩
def ots_77 : List ab_TV := [some (.inr (.inl [78])), some (.inr (.inl [79])), some (.inr (.inl [80])), some (.inr (.inl [81])), some (.inr (.inl [85])), some (.inr (.inl [86])), some (.inl (true, .negSucc 9223372036854775807, .ofNat 9223372036854775807)), some (.inl (false, .negSucc 2147483647, .ofNat 2147483647)), some (.inl (false, .negSucc 2147483647, .ofNat 2147483647)), some (.inl (false, .negSucc 2147483647, .ofNat 2147483647)), some (.inl (false, .negSucc 2147483647, .ofNat 2147483647)), some (.inl (false, .ofNat 0, .ofNat 31))]
def obd_77 (mi : Nat → Int32) : Prop := ((Int.ofNat 0) ≤ (mi 11).toInt ∧ (mi 11).toInt ≤ (Int.ofNat 31))
theorem obd_77_of {ad : List Nat} {tS : Nat} {m : Nat → Value} (h : ab_tl ad tS ots_77 ((List.range 12).map m)) : obd_77 (fun i => cx_toI (m i)) := cx_bdI h (i := 11) rfl
theorem otl_77 {mi : Nat → Int32} {ml : Nat → Int64} (hb : obd_77 mi) : cx_tl ots_77 (vs_77 (ml 6) (mi 7) (mi 8) (mi 9) (mi 10) (mi 11)) := ⟨⟨_, rfl, List.mem_cons_self⟩, ⟨_, rfl, List.mem_cons_self⟩, ⟨_, rfl, List.mem_cons_self⟩, ⟨_, rfl, List.mem_cons_self⟩, ⟨_, rfl, List.mem_cons_self⟩, ⟨_, rfl, List.mem_cons_self⟩, ⟨_, rfl, lx_fullL _⟩, ⟨_, rfl, lw_fullI _⟩, ⟨_, rfl, lw_fullI _⟩, ⟨_, rfl, lw_fullI _⟩, ⟨_, rfl, lw_fullI _⟩, ⟨_, rfl, hb⟩, trivial⟩
def ots_119c (a : Nat) : List ab_TV := [some (.inl (false, .negSucc 2147483647, .ofNat 2147483647)), some (.inl (false, .negSucc 2147483647, .ofNat 2147483647)), some (.inr (.inl [120])), some (.inr (.inl [121])), some (.inr (.inl [122])), some (.inr (.inl [123])), some (.inr (.inl [124])), some (.inr (.inl [125])), some (.inl (false, .ofNat 0, .ofNat 4)), some (.inr (.inl [126])), some (.inl (false, .negSucc 8, .ofNat 9)), some (.inl (false, .negSucc 8, .ofNat 9)), some (.inl (false, .ofNat 0, .ofNat 99)), some (.inr (.inl [127])), some (.inr (.inl [128])), some (.inr (.inl [129])), some (.inr (.inl [130])), some (.inr (.inl [131])), some (.inr (.inl [132])), some (.inr (.inl [133])), some (.inr (.inl [134])), some (.inl (false, .ofNat 0, .ofNat 1)), some (.inl (false, .negSucc 2147483647, .ofNat 2147483647)), some (.inl (false, .negSucc 2147483647, .ofNat 2147483647)), some (.inl (false, .ofNat 0, .ofNat 1)), some (.inr (.inl [135])), some (.inl (false, .negSucc 2147483647, .ofNat 2147483647)), some (.inl (false, .ofNat 0, .ofNat 4)), some (.inr (.inl [136])), some (.inl (false, .ofNat 1, .ofNat 24)), some (.inl (false, .negSucc 2147483647, .ofNat 2147483647)), some (.inl (false, .ofNat 0, .ofNat 20)), some (.inr (.inl [137])), some (.inr (.inl [138])), some (.inr (.inl [139])), some (.inr (.inl [140])), some (.inr (.inl [141])), some (.inr (.inl [142])), some (.inr (.inl [143])), some (.inr (.inl [144])), some (.inr (.inl [145])), some (.inl (false, .ofNat a, .ofNat a)), some (.inl (false, .ofNat 0, .ofNat 4)), some (.inl (false, .ofNat 0, .ofNat 4)), some (.inl (false, .ofNat 0, .ofNat 4)), some (.inl (false, .negSucc 2147483647, .ofNat 2147483647)), some (.inr (.inl [146])), some (.inr (.inl [147])), some (.inr (.inl [148])), some (.inl (true, .negSucc 9223372036854775807, .ofNat 9223372036854775807)), some (.inl (true, .negSucc 9223372036854775807, .ofNat 9223372036854775807)), some (.inr (.inl [149])), some (.inr (.inl [150])), some (.inr (.inl [151])), some (.inr (.inl [152])), some (.inl (false, .ofNat 0, .ofNat 40)), some (.inr (.inl [153])), some (.inr (.inl [154])), some (.inr (.inl [155])), some (.inr (.inl [156])), some (.inr (.inl [157])), some (.inl (false, .ofNat 0, .ofNat 20)), some (.inr (.inl [158])), some (.inr (.inl [159])), some (.inr (.inl [160])), some (.inr (.inl [161])), some (.inr (.inl [162])), some (.inr (.inl [163]))]
def obd_119c (a : Nat) (mi : Nat → Int32) : Prop := ((Int.ofNat 0) ≤ (mi 8).toInt ∧ (mi 8).toInt ≤ (Int.ofNat 4)) ∧ ((Int.negSucc 8) ≤ (mi 10).toInt ∧ (mi 10).toInt ≤ (Int.ofNat 9)) ∧ ((Int.negSucc 8) ≤ (mi 11).toInt ∧ (mi 11).toInt ≤ (Int.ofNat 9)) ∧ ((Int.ofNat 0) ≤ (mi 12).toInt ∧ (mi 12).toInt ≤ (Int.ofNat 99)) ∧ ((Int.ofNat 0) ≤ (mi 21).toInt ∧ (mi 21).toInt ≤ (Int.ofNat 1)) ∧ ((Int.ofNat 0) ≤ (mi 24).toInt ∧ (mi 24).toInt ≤ (Int.ofNat 1)) ∧ ((Int.ofNat 0) ≤ (mi 27).toInt ∧ (mi 27).toInt ≤ (Int.ofNat 4)) ∧ ((Int.ofNat 1) ≤ (mi 29).toInt ∧ (mi 29).toInt ≤ (Int.ofNat 24)) ∧ ((Int.ofNat 0) ≤ (mi 31).toInt ∧ (mi 31).toInt ≤ (Int.ofNat 20)) ∧ ((Int.ofNat a) ≤ (mi 41).toInt ∧ (mi 41).toInt ≤ (Int.ofNat a)) ∧ ((Int.ofNat 0) ≤ (mi 42).toInt ∧ (mi 42).toInt ≤ (Int.ofNat 4)) ∧ ((Int.ofNat 0) ≤ (mi 43).toInt ∧ (mi 43).toInt ≤ (Int.ofNat 4)) ∧ ((Int.ofNat 0) ≤ (mi 44).toInt ∧ (mi 44).toInt ≤ (Int.ofNat 4)) ∧ ((Int.ofNat 0) ≤ (mi 55).toInt ∧ (mi 55).toInt ≤ (Int.ofNat 40)) ∧ ((Int.ofNat 0) ≤ (mi 61).toInt ∧ (mi 61).toInt ≤ (Int.ofNat 20))
theorem obd_119c_of {ad : List Nat} {tS a : Nat} {m : Nat → Value} (h : ab_tl ad tS (ots_119c a) ((List.range 68).map m)) : obd_119c a (fun i => cx_toI (m i)) := ⟨cx_bdI h (i := 8) rfl, cx_bdI h (i := 10) rfl, cx_bdI h (i := 11) rfl, cx_bdI h (i := 12) rfl, cx_bdI h (i := 21) rfl, cx_bdI h (i := 24) rfl, cx_bdI h (i := 27) rfl, cx_bdI h (i := 29) rfl, cx_bdI h (i := 31) rfl, cx_bdI h (i := 41) rfl, cx_bdI h (i := 42) rfl, cx_bdI h (i := 43) rfl, cx_bdI h (i := 44) rfl, cx_bdI h (i := 55) rfl, cx_bdI h (i := 61) rfl⟩
theorem otl_119c {a : Nat} {mi : Nat → Int32} {ml : Nat → Int64} (hb : obd_119c a mi) : cx_tl (ots_119c a) (vs_119 mi ml) := ⟨⟨_, rfl, lw_fullI _⟩, ⟨_, rfl, lw_fullI _⟩, ⟨_, rfl, List.mem_cons_self⟩, ⟨_, rfl, List.mem_cons_self⟩, ⟨_, rfl, List.mem_cons_self⟩, ⟨_, rfl, List.mem_cons_self⟩, ⟨_, rfl, List.mem_cons_self⟩, ⟨_, rfl, List.mem_cons_self⟩, ⟨_, rfl, hb.1⟩, ⟨_, rfl, List.mem_cons_self⟩, ⟨_, rfl, hb.2.1⟩, ⟨_, rfl, hb.2.2.1⟩, ⟨_, rfl, hb.2.2.2.1⟩, ⟨_, rfl, List.mem_cons_self⟩, ⟨_, rfl, List.mem_cons_self⟩, ⟨_, rfl, List.mem_cons_self⟩, ⟨_, rfl, List.mem_cons_self⟩, ⟨_, rfl, List.mem_cons_self⟩, ⟨_, rfl, List.mem_cons_self⟩, ⟨_, rfl, List.mem_cons_self⟩, ⟨_, rfl, List.mem_cons_self⟩, ⟨_, rfl, hb.2.2.2.2.1⟩, ⟨_, rfl, lw_fullI _⟩, ⟨_, rfl, lw_fullI _⟩, ⟨_, rfl, hb.2.2.2.2.2.1⟩, ⟨_, rfl, List.mem_cons_self⟩, ⟨_, rfl, lw_fullI _⟩, ⟨_, rfl, hb.2.2.2.2.2.2.1⟩, ⟨_, rfl, List.mem_cons_self⟩, ⟨_, rfl, hb.2.2.2.2.2.2.2.1⟩, ⟨_, rfl, lw_fullI _⟩, ⟨_, rfl, hb.2.2.2.2.2.2.2.2.1⟩, ⟨_, rfl, List.mem_cons_self⟩, ⟨_, rfl, List.mem_cons_self⟩, ⟨_, rfl, List.mem_cons_self⟩, ⟨_, rfl, List.mem_cons_self⟩, ⟨_, rfl, List.mem_cons_self⟩, ⟨_, rfl, List.mem_cons_self⟩, ⟨_, rfl, List.mem_cons_self⟩, ⟨_, rfl, List.mem_cons_self⟩, ⟨_, rfl, List.mem_cons_self⟩, ⟨_, rfl, hb.2.2.2.2.2.2.2.2.2.1⟩, ⟨_, rfl, hb.2.2.2.2.2.2.2.2.2.2.1⟩, ⟨_, rfl, hb.2.2.2.2.2.2.2.2.2.2.2.1⟩, ⟨_, rfl, hb.2.2.2.2.2.2.2.2.2.2.2.2.1⟩, ⟨_, rfl, lw_fullI _⟩, ⟨_, rfl, List.mem_cons_self⟩, ⟨_, rfl, List.mem_cons_self⟩, ⟨_, rfl, List.mem_cons_self⟩, ⟨_, rfl, lx_fullL _⟩, ⟨_, rfl, lx_fullL _⟩, ⟨_, rfl, List.mem_cons_self⟩, ⟨_, rfl, List.mem_cons_self⟩, ⟨_, rfl, List.mem_cons_self⟩, ⟨_, rfl, List.mem_cons_self⟩, ⟨_, rfl, hb.2.2.2.2.2.2.2.2.2.2.2.2.2.1⟩, ⟨_, rfl, List.mem_cons_self⟩, ⟨_, rfl, List.mem_cons_self⟩, ⟨_, rfl, List.mem_cons_self⟩, ⟨_, rfl, List.mem_cons_self⟩, ⟨_, rfl, List.mem_cons_self⟩, ⟨_, rfl, hb.2.2.2.2.2.2.2.2.2.2.2.2.2.2⟩, ⟨_, rfl, List.mem_cons_self⟩, ⟨_, rfl, List.mem_cons_self⟩, ⟨_, rfl, List.mem_cons_self⟩, ⟨_, rfl, List.mem_cons_self⟩, ⟨_, rfl, List.mem_cons_self⟩, ⟨_, rfl, List.mem_cons_self⟩, trivial⟩
theorem obd_119u {a a2 : Nat} {mi : Nat → Int32} {ac2 : Int32} (hb : obd_119c a mi) (h : ac2.toInt = (a2 : Int)) : obd_119c a2 (upi (upi mi 0 (Int32.ofInt 0)) 41 ac2) := ⟨hb.1, hb.2.1, hb.2.2.1, hb.2.2.2.1, hb.2.2.2.2.1, hb.2.2.2.2.2.1, hb.2.2.2.2.2.2.1, hb.2.2.2.2.2.2.2.1, hb.2.2.2.2.2.2.2.2.1, ⟨by show (a2 : Int) ≤ ac2.toInt; omega, by show ac2.toInt ≤ (a2 : Int); omega⟩, hb.2.2.2.2.2.2.2.2.2.2.1, hb.2.2.2.2.2.2.2.2.2.2.2.1, hb.2.2.2.2.2.2.2.2.2.2.2.2.1, hb.2.2.2.2.2.2.2.2.2.2.2.2.2.1, hb.2.2.2.2.2.2.2.2.2.2.2.2.2.2⟩
def lw_THn (a : Nat) : ab_TH := lw_THs.getD a []
def sq_119 (a : Nat) : ab_TC := (11, 68, .inr (.inr (.inr (.inr (ots_119c a)))))
def sq_144 (a : Nat) : ab_TC := (1, 32, .inl [(.ofNat 0, .ofNat (1000000 * 12 ^ a))])
theorem sq_of {th : ab_TH} (h : th ∈ lw_THs) : ∃ a, a < 11 ∧ th = lw_THn a := by
  obtain ⟨a, ha, e⟩ := List.mem_iff_getElem.mp h
  refine ⟨a, ha, ?_⟩
  unfold lw_THn
  rw [List.getD_eq_getElem?_getD, List.getElem?_eq_getElem ha, ← e]
  rfl
theorem sq_in {a : Nat} (ha : a < 11) : lw_THn a ∈ lw_THs := by
  have ha : a < lw_THs.length := ha
  unfold lw_THn
  rw [List.getD_eq_getElem?_getD, List.getElem?_eq_getElem ha]
  exact List.getElem_mem ha
theorem lx_done2 {tS : Nat} {cs : Nat → ClassId} {fl : List Nat} {h h' : cx_H} {ws ws' : va_W} {th th' po : ab_TH} (hth : ab_th tS (ab_tys cs) th ws) (hH : cx_heap tS cs h ws) (hH' : cx_heap tS cs h' ws') (hk : cx_knd fl h h') (hf : cx_fr (h.map (·.1)) ws ws') (hpo : ab_th tS (ab_tys cs) po ws') (hc : th'.all (tr_1 (cx_M (h.map (·.1)) fl) th po) = true) : ab_th tS (ab_tys cs) th' ws' := fun q hq => tr_1_ok hth (cx_gr hH hH' hk hf) hpo (List.all_eq_true.mp hc q hq)
theorem cx_rowvL {ws : va_W} {tS k N a2 : Nat} {cs : Nat → ClassId} {ad : List Nat} {f : Nat → Int64} {e2 : va_E} (hw : ws[k]? = some (a2, e2)) (hc : cx_cell ad tS cs (.inr (.inr (.inl (N, f)))) e2) : rl_row ws k = some ((List.range N).map (fun i => .long (f i))) := by
  have hc : e2 = .inl (cs 1, N, .inr (.inl f)) := hc
  subst hc
  unfold rl_row
  rw [hw]
  rfl
theorem cx_rowEL {N : Nat} {f g : Nat → Int64} (h : (List.range N).map (fun i => Value.long (f i)) = (List.range N).map (fun i => Value.long (g i))) : ∀ i, i < N → f i = g i := fun i hi => by
  have h1 := congrArg (fun l => l[i]?) h
  simp only [List.getElem?_map, List.getElem?_range hi, Option.map_some] at h1
  exact Value.long.inj (Option.some.inj h1)
theorem cx_rowML {N : Nat} {f g : Nat → Int64} (h : ∀ i, i < N → f i = g i) : (List.range N).map (fun i => Value.long (f i)) = (List.range N).map (fun i => Value.long (g i)) := by
  apply List.map_congr_left
  intro i hi
  rw [h i (List.mem_range.mp hi)]
theorem cx_anyL {N : Nat} {f : Nat → Int64} : ∀ i, i < N → ab_inU [(Int.negSucc 9223372036854775807, Int.ofNat 9223372036854775807)] (f i).toInt := fun i _ => ⟨_, List.mem_cons_self, lx_fullL (f i)⟩
/-- a part times a small number -/
theorem sp_bd {c : Int32} {v : Int64} {B : Int} {k : Int} (hk : 0 ≤ k) (hB : k * B ≤ 9223372036854775807) (hc : 0 ≤ c.toInt ∧ c.toInt ≤ k) (hv : 0 ≤ v.toInt ∧ v.toInt ≤ B) : 0 ≤ (c.toInt64 * v).toInt ∧ (c.toInt64 * v).toInt ≤ k * B := by
  have e1 : c.toInt64.toInt = c.toInt := Int32.toInt_toInt64 c
  have h1 : 0 ≤ c.toInt * v.toInt := Int.mul_nonneg hc.1 hv.1
  have h2 : c.toInt * v.toInt ≤ k * B := Int.mul_le_mul hc.2 hv.2 hv.1 hk
  rw [cx_mulL (by rw [e1]; omega) (by rw [e1]; omega), e1]
  exact ⟨h1, h2⟩
theorem drF_bd {f : Nat → Int64} {dl ds dr : Int32} {B : Int} (hB : 12 * B ≤ 9223372036854775807) (hl : 0 ≤ dl.toInt ∧ dl.toInt ≤ 4) (hs : 0 ≤ ds.toInt ∧ ds.toInt ≤ 4) (hr : 0 ≤ dr.toInt ∧ dr.toInt ≤ 4) (h : ∀ y : Nat, y < 32 → 0 ≤ (f y).toInt ∧ (f y).toInt ≤ B) {x : Nat} (hx : x < 32) : 0 ≤ (drF f dl ds dr x).toInt ∧ (drF f dl ds dr x).toInt ≤ 12 * B := by
  have hB0 : 0 ≤ B := by have := h x hx; omega
  have g : ∀ (c : Int32) (y : Nat), 0 ≤ c.toInt ∧ c.toInt ≤ 4 → y < 32 → 0 ≤ (c.toInt64 * f y).toInt ∧ (c.toInt64 * f y).toInt ≤ 4 * B := fun c y hc hy => sp_bd (by omega) (by omega) hc (h y hy)
  have s3 : ∀ u v w : Int64, (0 ≤ u.toInt ∧ u.toInt ≤ 4 * B) → (0 ≤ v.toInt ∧ v.toInt ≤ 4 * B) → (0 ≤ w.toInt ∧ w.toInt ≤ 4 * B) → 0 ≤ (u + v + w).toInt ∧ (u + v + w).toInt ≤ 12 * B := fun u v w h1 h2 h3 => by
    have e1 : (u + v).toInt = u.toInt + v.toInt := cx_addL (by omega) (by omega)
    rw [cx_addL (by omega) (by omega), e1]
    omega
  unfold drF
  refine s3 _ _ _ ?_ (g ds x hs hx) ?_
  · split
    · exact g dr (x - 1) hr (by omega)
    · exact g dl x hl hx
  · split
    · exact g dl (x + 1) hl (by omega)
    · exact g dr x hr hx
theorem lkF_bd {f : Nat → Int64} {p q : Int32} {B : Int} (hB : 12 * B ≤ 9223372036854775807) (hq : 1 ≤ q.toInt ∧ q.toInt ≤ 8) {x : Nat} (h : 0 ≤ (f x).toInt ∧ (f x).toInt ≤ B) : 0 ≤ (lkF f p q x).toInt ∧ (lkF f p q x).toInt ≤ 12 * B := by
  have k8 : (Int32.ofInt 8).toInt = 8 := by decide +kernel
  have hs : (Int32.ofInt 8 - q).toInt = 8 - q.toInt := by rw [cx_subc (by omega) (by omega), k8]
  have hB0 : 0 ≤ B := by omega
  unfold lkF
  rw [Int64.mul_comm]
  split
  · have := sp_bd (c := Int32.ofInt 8 - q) (v := f x) (B := B) (k := 8) (by omega) (by omega) (by omega) h
    omega
  · have := sp_bd (c := Int32.ofInt 8) (v := f x) (B := B) (k := 8) (by omega) (by omega) (by omega) h
    omega
theorem p12 {a : Nat} (ha : a < 10) : 12 * (1000000 * 12 ^ a : Int) = 1000000 * 12 ^ (a + 1) ∧ 12 * (1000000 * 12 ^ a : Int) ≤ 9223372036854775807 := by
  refine ⟨by rw [Int.pow_succ]; omega, ?_⟩
  rcases (show a = 0 ∨ a = 1 ∨ a = 2 ∨ a = 3 ∨ a = 4 ∨ a = 5 ∨ a = 6 ∨ a = 7 ∨ a = 8 ∨ a = 9 by omega) with rfl | rfl | rfl | rfl | rfl | rfl | rfl | rfl | rfl | rfl <;> decide
theorem p12U {a : Nat} {x : Int} (h : 0 ≤ x ∧ x ≤ (1000000 * 12 ^ a : Int)) : ab_inU [(.ofNat 0, .ofNat (1000000 * 12 ^ a))] x := cx_U1 ⟨h.1, by
  have e1 : (Int.ofNat (1000000 * 12 ^ a)) = (1000000 * 12 ^ a : Int) := by
    show ((1000000 * 12 ^ a : Nat) : Int) = _
    rw [Int.natCast_mul, Int.natCast_pow]
    rfl
  rw [e1]; exact h.2⟩
theorem p12o {a : Nat} {x : Int} (h : ab_inU [(.ofNat 0, .ofNat (1000000 * 12 ^ a))] x) : 0 ≤ x ∧ x ≤ (1000000 * 12 ^ a : Int) := by
  have h1 := cx_U1o h
  have e1 : (Int.ofNat (1000000 * 12 ^ a)) = (1000000 * 12 ^ a : Int) := by
    show ((1000000 * 12 ^ a : Nat) : Int) = _
    rw [Int.natCast_mul, Int.natCast_pow]
    rfl
  rw [e1] at h1; exact h1
/-- one answer, one state -/
theorem ptE {p v md md' z z2 mx mm : Int32} {t t' tx tm : Nat → Int32} {f f' fx fm : Nat → Int64} (ht : ∀ i : Nat, i < 32 → t i = t' i) (hf : ∀ i : Nat, i < 32 → f i = f' i) (hm : md = md') (h1 : ptA p v t f md z tx fx mx) (h2 : ptA p v t' f' md' z2 tm fm mm) : z = z2 ∧ (∀ i : Nat, i < 32 → tx i = tm i) ∧ (∀ i : Nat, i < 32 → fx i = fm i) ∧ mx = mm := by
  subst hm
  unfold ptA at h1 h2
  rcases h1 with ⟨a1, a2, a3, a4, a5⟩ | ⟨a0, a1, a2, a3, a4, a5⟩ | ⟨a0, a1, a2, a3, a4, a5⟩ | ⟨a0, a1, a2, a3, a4, a5⟩ <;> rcases h2 with ⟨c1, c2, c3, c4, c5⟩ | ⟨c0, c1, c2, c3, c4, c5⟩ | ⟨c0, c1, c2, c3, c4, c5⟩ | ⟨c0, c1, c2, c3, c4, c5⟩ <;> first | (exfalso; omega) | skip
  · rw [a2, a3, a4, a5, c2, c3, c4, c5]; exact ⟨rfl, ht, hf, rfl⟩
  · rw [a2, a3, a4, a5, c2, c3, c4, c5]; exact ⟨rfl, ht, hf, rfl⟩
  · rw [a2, a3, a4, a5, c2, c3, c4, c5]; exact ⟨rfl, ht, hf, rfl⟩
  · have hk := ab_clamp (x := p) a0.1
    refine ⟨by rw [a2, c2]; exact ht _ (by omega), fun i hi => ?_, fun i hi => ?_, by rw [a5, c5]⟩
    · rw [a3 i hi, c3 i hi]; unfold ppT; rw [ht i hi]
    · rw [a4 i hi, c4 i hi]; unfold ppF; rw [hf i hi]
theorem dfE {dl ds dr md md' z z2 mx mm : Int32} {f f' fx fm : Nat → Int64} (hf : ∀ i : Nat, i < 32 → f i = f' i) (hm : md = md') (h1 : dfA dl ds dr f md z fx mx) (h2 : dfA dl ds dr f' md' z2 fm mm) : z = z2 ∧ (∀ i : Nat, i < 32 → fx i = fm i) ∧ mx = mm := by
  subst hm
  unfold dfA at h1 h2
  rw [sumL_E 32 hf] at h1
  rcases h1 with ⟨a1, a2, a3, a4⟩ | ⟨a0, a1, a2, a3, a4⟩ | ⟨a0, a1, a2, a3, a4⟩ <;> rcases h2 with ⟨c1, c2, c3, c4⟩ | ⟨c0, c1, c2, c3, c4⟩ | ⟨c0, c1, c2, c3, c4⟩ <;> first | (exfalso; omega) | (exact absurd a1 c0) | (exact absurd c1 a0) | skip
  · rw [a2, a3, a4, c2, c3, c4]; exact ⟨rfl, hf, rfl⟩
  · rw [a2, a3, a4, c2, c3, c4]; exact ⟨rfl, hf, rfl⟩
  · refine ⟨by rw [a2, c2], fun i hi => ?_, by rw [a4, c4]⟩
    rw [a3 i hi, c3 i hi]; exact drF_E hf hi
theorem lkE {p q md md' z z2 mx mm : Int32} {f f' fx fm : Nat → Int64} (hf : ∀ i : Nat, i < 32 → f i = f' i) (hm : md = md') (h1 : lkA p q f md z fx mx) (h2 : lkA p q f' md' z2 fm mm) : z = z2 ∧ (∀ i : Nat, i < 32 → fx i = fm i) ∧ mx = mm := by
  subst hm
  unfold lkA at h1 h2
  rw [sumL_E 32 hf] at h1
  rcases h1 with ⟨a1, a2, a3, a4⟩ | ⟨a0, a1, a2, a3, a4⟩ | ⟨a0, a1, a5, a2, a3, a4⟩ | ⟨a0, a1, a5, a6, a2, a3, a4⟩ | ⟨a0, a1, a5, a6, a2, a3, a4⟩ <;> rcases h2 with ⟨c1, c2, c3, c4⟩ | ⟨c0, c1, c2, c3, c4⟩ | ⟨c0, c1, c5, c2, c3, c4⟩ | ⟨c0, c1, c5, c6, c2, c3, c4⟩ | ⟨c0, c1, c5, c6, c2, c3, c4⟩ <;> first | (exfalso; omega) | (exact absurd a0 c1) | (exact absurd c0 a1) | (exact absurd a1 c1) | (exact absurd c1 a1) | skip
  · rw [a2, a3, a4, c2, c3, c4]; exact ⟨rfl, hf, rfl⟩
  · rw [a2, a3, a4, c2, c3, c4]; exact ⟨rfl, hf, rfl⟩
  · rw [a2, a3, a4, c2, c3, c4]; exact ⟨rfl, hf, rfl⟩
  · rw [a2, a3, a4, c2, c3, c4]; exact ⟨rfl, hf, rfl⟩
  · refine ⟨by rw [a2, c2], fun i hi => ?_, by rw [a4, c4]⟩
    rw [a3 i hi, c3 i hi]; exact lkF_E (hf i hi)
theorem tk17a : (List.range 11).all (fun a => tr_3 (lw_THn a) [(0, ci_0), (1, ci_1), (77, ci_77), (78, ci_78), (79, ci_79), (80, ci_80), (119, sq_119 a), (126, ci_126), (143, ci_143), (144, sq_144 a), (145, ci_145)]) = true := by decide +kernel
theorem tk17x : (List.range 11).all (fun a => (lw_THn a).all (tr_1 (cx_M [0, 1, 77, 78, 79, 80] [5938]) (lw_THn a) [(0, ci_0), (1, ci_1), (77, ci_77), (78, ci_78), (79, ci_79), (80, ci_80)])) = true := by decide +kernel
theorem tk17m : (List.range 11).all (fun a => (List.range 11).all (fun b => (lw_THn b).all (tr_1 (cx_M [119, 126, 143, 144, 145] [8616, 8657]) (lw_THn a) [(119, sq_119 b), (126, ci_126), (143, ci_143), (144, sq_144 b), (145, ci_145)]))) = true := by decide +kernel
theorem tz_17 : ∀ th ∈ lw_THs, lw_TQ 973 th := by
  intro th hmem p l e s m below meth c D A Q cs tS b L i0 cells slots xs iv ws ls F0 hcs hiv hL hL2 hl hth hEQ hlen K
  obtain ⟨a, ha11, hthE⟩ := sq_of hmem
  subst hthE
  have h3 := tr_3_ok (List.all_eq_true.mp tk17a a (List.mem_range.mpr ha11)) hth
  obtain ⟨a0, e0, w0, t0⟩ := h3 _ (List.mem_of_getElem? (i := 0) rfl)
  obtain ⟨a1, e1, w1, t1⟩ := h3 _ (List.mem_of_getElem? (i := 1) rfl)
  obtain ⟨a77, e77, w77, t77⟩ := h3 _ (List.mem_of_getElem? (i := 2) rfl)
  obtain ⟨a78, e78, w78, t78⟩ := h3 _ (List.mem_of_getElem? (i := 3) rfl)
  obtain ⟨a79, e79, w79, t79⟩ := h3 _ (List.mem_of_getElem? (i := 4) rfl)
  obtain ⟨a80, e80, w80, t80⟩ := h3 _ (List.mem_of_getElem? (i := 5) rfl)
  obtain ⟨a119, e119, w119, t119⟩ := h3 _ (List.mem_of_getElem? (i := 6) rfl)
  obtain ⟨a126, e126, w126, t126⟩ := h3 _ (List.mem_of_getElem? (i := 7) rfl)
  obtain ⟨a143, e143, w143, t143⟩ := h3 _ (List.mem_of_getElem? (i := 8) rfl)
  obtain ⟨a144, e144, w144, t144⟩ := h3 _ (List.mem_of_getElem? (i := 9) rfl)
  obtain ⟨a145, e145, w145, t145⟩ := h3 _ (List.mem_of_getElem? (i := 10) rfl)
  obtain ⟨m0, c0, b0⟩ := cx_of_obj (ci := 10) (N := 12) (tvs := ots_0) t0
  obtain ⟨r1, c1, u1⟩ := cx_of_row (t := 0) (N := 7) (Or.inl rfl) t1
  obtain ⟨m77, c77, b77⟩ := cx_of_obj (ci := 6) (N := 12) (tvs := ots_77) t77
  have hbd77 := obd_77_of b77
  obtain ⟨t, c78, u78⟩ := cx_of_row (t := 0) (N := 32) (Or.inl rfl) t78
  obtain ⟨f, c79, u79⟩ := cx_of_long (N := 32) t79
  obtain ⟨g, c80, u80⟩ := cx_of_long (N := 32) t80
  obtain ⟨m119, c119, b119⟩ := cx_of_obj (ci := 11) (N := 68) (tvs := ots_119c a) t119
  have hbd119 := obd_119c_of b119
  obtain ⟨r2, c126, u126⟩ := cx_of_row (t := 0) (N := 7) (Or.inl rfl) t126
  obtain ⟨tm, c143, u143⟩ := cx_of_row (t := 0) (N := 32) (Or.inl rfl) t143
  obtain ⟨fm, c144, u144⟩ := cx_of_long (N := 32) t144
  obtain ⟨nm, c145, u145⟩ := cx_of_long (N := 32) t145
  have hX : cx_heap tS cs (h_xs (cx_toI (m0 11)) r1 (cx_toL (m77 6)) (cx_toI (m77 7)) (cx_toI (m77 8)) (cx_toI (m77 9)) (cx_toI (m77 10)) (cx_toI (m77 11)) t f g) ws := cx_heap_of (List.forall_mem_cons.mpr ⟨⟨a0, e0, w0, c0⟩, (List.forall_mem_cons.mpr ⟨⟨a1, e1, w1, c1⟩, (List.forall_mem_cons.mpr ⟨⟨a77, e77, w77, c77⟩, (List.forall_mem_cons.mpr ⟨⟨a78, e78, w78, c78⟩, (List.forall_mem_cons.mpr ⟨⟨a79, e79, w79, c79⟩, (List.forall_mem_cons.mpr ⟨⟨a80, e80, w80, c80⟩, (fun _ h => absurd h List.not_mem_nil)⟩)⟩)⟩)⟩)⟩)⟩)
  have hM : cx_heap tS cs (h_ms (fun i => cx_toI (m119 i)) (fun i => cx_toL (m119 i)) r2 tm fm nm) ws := cx_heap_of (List.forall_mem_cons.mpr ⟨⟨a119, e119, w119, c119⟩, (List.forall_mem_cons.mpr ⟨⟨a126, e126, w126, c126⟩, (List.forall_mem_cons.mpr ⟨⟨a143, e143, w143, c143⟩, (List.forall_mem_cons.mpr ⟨⟨a144, e144, w144, c144⟩, (List.forall_mem_cons.mpr ⟨⟨a145, e145, w145, c145⟩, (fun _ h => absurd h List.not_mem_nil)⟩)⟩)⟩)⟩)⟩)
  have ha0 : (ws.map (·.1))[0]? = some a0 := by rw [List.getElem?_map, w0]; rfl
  have ha119 : (ws.map (·.1))[119]? = some a119 := by rw [List.getElem?_map, w119]; rfl
  have hEt : ∀ i : Nat, i < 32 → t i = tm i := by
    obtain ⟨v, q2, q1⟩ := hEQ.1.1 ([143], 78) (List.mem_of_getElem? (i := 0) rfl)
    have q1 : rl_row ws 78 = some v := q1
    have q2 : rl_rows ws [143] = some v := q2
    rw [cx_rowv w78 c78] at q1
    rw [cx_row1 (cx_rowv w143 c143)] at q2
    exact cx_rowE (Option.some.inj (q1.trans q2.symm))
  have hEf : ∀ i : Nat, i < 32 → f i = fm i := by
    obtain ⟨v, q2, q1⟩ := hEQ.1.1 ([144], 79) (List.mem_of_getElem? (i := 1) rfl)
    have q1 : rl_row ws 79 = some v := q1
    have q2 : rl_rows ws [144] = some v := q2
    rw [cx_rowvL w79 c79] at q1
    rw [cx_row1 (cx_rowvL w144 c144)] at q2
    exact cx_rowEL (Option.some.inj (q1.trans q2.symm))
  have hEl : cx_toI (m77 7) = cx_toI (m119 42) := by
    obtain ⟨v, q2, q1⟩ := hEQ.1.2.1 ((119, 42), (77, 7)) (List.mem_of_getElem? (i := 0) rfl)
    have q1 : rl_fld ws (77, 7) = some v := q1
    have q2 : rl_fld ws (119, 42) = some v := q2
    rw [cx_fldv w77 c77 (x := cx_toI (m77 7)) rfl rfl] at q1
    rw [cx_fldv w119 c119 (x := cx_toI (m119 42)) rfl rfl] at q2
    exact Value.int.inj (Option.some.inj (q1.trans q2.symm))
  have hEs : cx_toI (m77 8) = cx_toI (m119 43) := by
    obtain ⟨v, q2, q1⟩ := hEQ.1.2.1 ((119, 43), (77, 8)) (List.mem_of_getElem? (i := 1) rfl)
    have q1 : rl_fld ws (77, 8) = some v := q1
    have q2 : rl_fld ws (119, 43) = some v := q2
    rw [cx_fldv w77 c77 (x := cx_toI (m77 8)) rfl rfl] at q1
    rw [cx_fldv w119 c119 (x := cx_toI (m119 43)) rfl rfl] at q2
    exact Value.int.inj (Option.some.inj (q1.trans q2.symm))
  have hEr : cx_toI (m77 9) = cx_toI (m119 44) := by
    obtain ⟨v, q2, q1⟩ := hEQ.1.2.1 ((119, 44), (77, 9)) (List.mem_of_getElem? (i := 2) rfl)
    have q1 : rl_fld ws (77, 9) = some v := q1
    have q2 : rl_fld ws (119, 44) = some v := q2
    rw [cx_fldv w77 c77 (x := cx_toI (m77 9)) rfl rfl] at q1
    rw [cx_fldv w119 c119 (x := cx_toI (m119 44)) rfl rfl] at q2
    exact Value.int.inj (Option.some.inj (q1.trans q2.symm))
  have hEm : cx_toI (m77 10) = cx_toI (m119 41) := by
    obtain ⟨v, q2, q1⟩ := hEQ.1.2.1 ((119, 41), (77, 10)) (List.mem_of_getElem? (i := 3) rfl)
    have q1 : rl_fld ws (77, 10) = some v := q1
    have q2 : rl_fld ws (119, 41) = some v := q2
    rw [cx_fldv w77 c77 (x := cx_toI (m77 10)) rfl rfl] at q1
    rw [cx_fldv w119 c119 (x := cx_toI (m119 41)) rfl rfl] at q2
    exact Value.int.inj (Option.some.inj (q1.trans q2.symm))
  have hEb : cx_toI (m77 11) = cx_toI (m119 45) := by
    obtain ⟨v, q2, q1⟩ := hEQ.1.2.1 ((119, 45), (77, 11)) (List.mem_of_getElem? (i := 4) rfl)
    have q1 : rl_fld ws (77, 11) = some v := q1
    have q2 : rl_fld ws (119, 45) = some v := q2
    rw [cx_fldv w77 c77 (x := cx_toI (m77 11)) rfl rfl] at q1
    rw [cx_fldv w119 c119 (x := cx_toI (m119 45)) rfl rfl] at q2
    exact Value.int.inj (Option.some.inj (q1.trans q2.symm))
  have hac : (Int.ofNat a) ≤ (cx_toI (m119 41)).toInt ∧ (cx_toI (m119 41)).toInt ≤ (Int.ofNat a) := hbd119.2.2.2.2.2.2.2.2.2.1
  have hac : (cx_toI (m119 41)).toInt = (a : Int) := by have h1 : (a : Int) ≤ (cx_toI (m119 41)).toInt := hac.1; have h2 : (cx_toI (m119 41)).toInt ≤ (a : Int) := hac.2; omega
  have hl4 : 0 ≤ (cx_toI (m119 42)).toInt ∧ (cx_toI (m119 42)).toInt ≤ 4 := hbd119.2.2.2.2.2.2.2.2.2.2.1
  have hs4 : 0 ≤ (cx_toI (m119 43)).toInt ∧ (cx_toI (m119 43)).toInt ≤ 4 := hbd119.2.2.2.2.2.2.2.2.2.2.2.1
  have hr4 : 0 ≤ (cx_toI (m119 44)).toInt ∧ (cx_toI (m119 44)).toInt ≤ 4 := hbd119.2.2.2.2.2.2.2.2.2.2.2.2.1
  obtain ⟨hbo, hs4e⟩ : (0 ≤ (cx_toI (m119 45)).toInt ∧ (cx_toI (m119 45)).toInt ≤ 31) ∧ (cx_toI (m119 42)).toInt + (cx_toI (m119 43)).toInt + (cx_toI (m119 44)).toInt = 4 := by
    obtain ⟨x, q1, q2, q3⟩ := hEQ.1.2.2 ((119, 45), 0, 31) (List.mem_of_getElem? (i := 0) rfl)
    have q1 : rl_fld ws (119, 45) = some (.int x) := q1
    rw [cx_fldv w119 c119 (x := cx_toI (m119 45)) rfl rfl] at q1
    obtain ⟨x1, y1, z1, p1, p2, p3, p4⟩ := hEQ.2
    rw [cx_fldv w119 c119 (x := cx_toI (m119 42)) rfl rfl] at p1
    rw [cx_fldv w119 c119 (x := cx_toI (m119 43)) rfl rfl] at p2
    rw [cx_fldv w119 c119 (x := cx_toI (m119 44)) rfl rfl] at p3
    rw [Value.int.inj (Option.some.inj q1), Value.int.inj (Option.some.inj p1), Value.int.inj (Option.some.inj p2), Value.int.inj (Option.some.inj p3)]
    exact ⟨⟨q2, q3⟩, p4⟩
  have hpb : ∀ x : Nat, x < 32 → 0 ≤ (fm x).toInt ∧ (fm x).toInt ≤ (1000000 * 12 ^ a : Int) := fun x hx => p12o (u144 x hx)
  obtain ⟨fs0, e0q, -⟩ := id c0
  subst e0q
  refine lx_x F0 hl (pc' := 974) (ab_tbo lto_17 _ _ _ (List.mem_of_getElem? (i := 0) rfl)) rfl ha0 ?_
  refine lx_arg F0 hiv hL hL2 hl (z := 1) (pc' := 980) rfl (ab_tbo lto_17 _ _ _ (List.mem_of_getElem? (i := 1) rfl)) (ab_tbo lto_17 _ _ _ (List.mem_of_getElem? (i := 2) rfl)) (ab_tbo lto_17 _ _ _ (List.mem_of_getElem? (i := 3) rfl)) (ab_tbo lto_17 _ _ _ (List.mem_of_getElem? (i := 4) rfl)) (ab_tbo lto_17 _ _ _ (List.mem_of_getElem? (i := 5) rfl)) rfl ?_
  refine lx_arg F0 hiv hL hL2 hl (z := 2) (pc' := 986) rfl (ab_tbo lto_17 _ _ _ (List.mem_of_getElem? (i := 6) rfl)) (ab_tbo lto_17 _ _ _ (List.mem_of_getElem? (i := 7) rfl)) (ab_tbo lto_17 _ _ _ (List.mem_of_getElem? (i := 8) rfl)) (ab_tbo lto_17 _ _ _ (List.mem_of_getElem? (i := 9) rfl)) (ab_tbo lto_17 _ _ _ (List.mem_of_getElem? (i := 10) rfl)) rfl ?_
  obtain ⟨d1, hd1, Ct1⟩ := ct_parts (dy := cx_toI (m0 11)) (r := r1) (bf := cx_toL (m77 6)) (dl := cx_toI (m77 7)) (ds := cx_toI (m77 8)) (dr := cx_toI (m77 9)) (md := cx_toI (m77 10)) (bo := cx_toI (m77 11)) (t := t) (f := f) (g := g) (p := xs (i0 + 1)) (v := xs (i0 + 2)) l D cs tS ws [.ref a0, .int (xs (i0 + 1)), .int (xs (i0 + 2))] hX ⟨⟨a0, ha0, rfl⟩, rfl, rfl, trivial⟩
  refine lx_call F0 hcs hl (pc' := 989) (q := 145) (n := 2) (ci := 10) (As := [.int (xs (i0 + 1)), .int (xs (i0 + 2))]) (stk := []) (ab_tbo lto_17 _ _ _ (List.mem_of_getElem? (i := 11) rfl)) rfl rfl rfl w0 (by decide) ⟨d1, by omega, Ct1⟩ rfl (fun rv ws1 hp1 => ?_)
  obtain ⟨v, h1, ⟨z, rr, tx2, fx2, gx2, md2, rfl, rfl, hdx⟩, hk1, hf1, hH1, hrv⟩ := hp1
  obtain rfl : rv = some (.int z) := by
    cases rv with
    | none => exact hrv.elim
    | some y => exact congrArg some hrv
  show ab_W p l e room_1 s m #[Value.ref b] below meth c D vwCl A Q cells slots 989 ls [.int z] ws1
  refine lx_pop F0 (pc' := 990) (ab_tbo lto_17 _ _ _ (List.mem_of_getElem? (i := 12) rfl)) rfl ?_
  have hl1 := lx_Lc hl hf1.1
  have hM1 := cx_heap_far hM hf1 rfl
  have ha119b : (ws1.map (·.1))[119]? = some a119 := by rw [hf1.1]; exact ha119
  refine lx_m F0 hl1 (pc' := 991) (ab_tbo lto_17 _ _ _ (List.mem_of_getElem? (i := 13) rfl)) rfl ha119b ?_
  refine lx_arg F0 hiv hL hL2 hl1 (z := 1) (pc' := 997) rfl (ab_tbo lto_17 _ _ _ (List.mem_of_getElem? (i := 14) rfl)) (ab_tbo lto_17 _ _ _ (List.mem_of_getElem? (i := 15) rfl)) (ab_tbo lto_17 _ _ _ (List.mem_of_getElem? (i := 16) rfl)) (ab_tbo lto_17 _ _ _ (List.mem_of_getElem? (i := 17) rfl)) (ab_tbo lto_17 _ _ _ (List.mem_of_getElem? (i := 18) rfl)) rfl ?_
  refine lx_arg F0 hiv hL hL2 hl1 (z := 2) (pc' := 1003) rfl (ab_tbo lto_17 _ _ _ (List.mem_of_getElem? (i := 19) rfl)) (ab_tbo lto_17 _ _ _ (List.mem_of_getElem? (i := 20) rfl)) (ab_tbo lto_17 _ _ _ (List.mem_of_getElem? (i := 21) rfl)) (ab_tbo lto_17 _ _ _ (List.mem_of_getElem? (i := 22) rfl)) (ab_tbo lto_17 _ _ _ (List.mem_of_getElem? (i := 23) rfl)) rfl ?_
  obtain ⟨a119c, e119c, w119c, c119c⟩ := hM1 119 _ rfl
  obtain ⟨fs119c, e119d, -⟩ := id c119c
  subst e119d
  have eadd : a119c = a119 := ab_ad_get ha119b w119c
  rw [eadd] at w119c
  obtain ⟨d2, hd2, Ct2⟩ := ct_mparts (mi := fun i => cx_toI (m119 i)) (ml := fun i => cx_toL (m119 i)) (r := r2) (t := tm) (f := fm) (n := nm) (p := xs (i0 + 1)) (v := xs (i0 + 2)) l D cs tS ws1 [.ref a119, .int (xs (i0 + 1)), .int (xs (i0 + 2))] hM1 ⟨⟨a119, ha119b, rfl⟩, rfl, rfl, trivial⟩
  refine lx_call F0 hcs hl1 (pc' := 1006) (q := 225) (n := 2) (ci := 11) (As := [.int (xs (i0 + 1)), .int (xs (i0 + 2))]) (stk := []) (ab_tbo lto_17 _ _ _ (List.mem_of_getElem? (i := 24) rfl)) rfl rfl rfl w119c (by first | decide | exact (by decide : (1 : Nat) ≤ 8)) ⟨d2, by omega, Ct2⟩ rfl (fun rv2 ws2 hp2 => ?_)
  obtain ⟨v2, h2, ⟨z2, rr2, tm2, fm2, nm2, ac2, rfl, rfl, hdm⟩, hk2, hf2, hH2, hrv2⟩ := hp2
  obtain rfl : rv2 = some (.int z2) := by
    cases rv2 with
    | none => exact hrv2.elim
    | some y => exact congrArg some hrv2
  show ab_W p l e room_1 s m #[Value.ref b] below meth c D vwCl A Q cells slots 1006 ls [.int z2] ws2
  obtain ⟨hfin, hEt2, hEf2, hEm2⟩ := ptE hEt hEf hEm hdx hdm
  obtain ⟨a2, ha2, hac2, hpb2⟩ : ∃ a2 : Nat, a2 < 11 ∧ ac2.toInt = (a2 : Int) ∧ ∀ x : Nat, x < 32 → 0 ≤ (fm2 x).toInt ∧ (fm2 x).toInt ≤ (1000000 * 12 ^ a2 : Int) := by
    have k0 : (Int32.ofInt 0).toInt = 0 := by decide +kernel
    have k1 : (Int32.ofInt 1).toInt = 1 := by decide +kernel
    unfold ptA at hdm
    rcases hdm with ⟨c1, c2, c3, c4, c5⟩ | ⟨c0, c1, c2, c3, c4, c5⟩ | ⟨c0, c1, c2, c3, c4, c5⟩ | ⟨c0, c1, c2, c3, c4, c5⟩
    · rw [c4, c5]; exact ⟨a, ha11, hac, hpb⟩
    · rw [c4, c5]; exact ⟨a, ha11, hac, hpb⟩
    · rw [c4, c5]; exact ⟨a, ha11, hac, hpb⟩
    · refine ⟨0, by omega, ?_, fun x hx => ?_⟩
      · rw [c5]
        unfold ppM
        split
        · exact k0
        · have h0 : ¬ 0 < (cx_toI (m119 41)).toInt := by assumption
          show (cx_toI (m119 41)).toInt = ((0 : Nat) : Int)
          omega
      · rw [c4 x hx, show (1000000 * 12 ^ 0 : Int) = 1000000 by decide]
        unfold ppF
        split
        · rw [Int32.toInt_toInt64]; exact c1
        · split
          · decide
          · have h0 : ¬ 0 < (cx_toI (m119 41)).toInt := by assumption
            have e0 : a = 0 := by omega
            have h5 := hpb x hx
            rw [e0, show (1000000 * 12 ^ 0 : Int) = 1000000 by decide] at h5
            exact h5
  have hlen1 : ws1.length = 165 := by have := congrArg List.length hf1.1; simpa [hlen] using this
  have hlen2 : ws2.length = 165 := by have := congrArg List.length hf2.1; simpa [hlen1] using this
  have hth1 : ab_th tS (ab_tys cs) (lw_THn a) ws1 := lx_done (fl := [5938]) hth hX hH1 ⟨⟨rfl, rfl, Or.inr rfl, Or.inr rfl, Or.inr rfl, Or.inr rfl, Or.inr rfl, Or.inr rfl, Or.inr rfl, Or.inr rfl, Or.inr rfl, Or.inr rfl, Or.inr rfl, Or.inr rfl, trivial⟩, ⟨rfl, trivial⟩, ⟨rfl, rfl, Or.inr rfl, Or.inr rfl, Or.inr rfl, Or.inr rfl, Or.inr rfl, Or.inr rfl, Or.inr rfl, Or.inr rfl, Or.inr rfl, Or.inr rfl, Or.inl rfl, Or.inr rfl, trivial⟩, ⟨rfl, trivial⟩, ⟨rfl, trivial⟩, ⟨rfl, trivial⟩, trivial⟩ hf1 (po := [(0, ci_0), (1, ci_1), (77, ci_77), (78, ci_78), (79, ci_79), (80, ci_80)]) (List.forall_mem_cons.mpr ⟨lx_po hH1 rfl (fun e2 q => cx_to_obj (N := 12) q rfl (otl_0 (mi := fun _ => cx_toI (m0 11)))), (List.forall_mem_cons.mpr ⟨lx_po hH1 rfl (fun e2 q => cx_to_row q cx_anyU), (List.forall_mem_cons.mpr ⟨lx_po hH1 rfl (fun e2 q => cx_to_obj (N := 12) q rfl (otl_77 (mi := upi (fun i => cx_toI (m77 i)) 10 md2) (ml := fun i => cx_toL (m77 i)) hbd77)), (List.forall_mem_cons.mpr ⟨lx_po hH1 rfl (fun e2 q => cx_to_row q cx_anyU), (List.forall_mem_cons.mpr ⟨lx_po hH1 rfl (fun e2 q => cx_to_long q cx_anyL), (List.forall_mem_cons.mpr ⟨lx_po hH1 rfl (fun e2 q => cx_to_long q cx_anyL), (fun _ h => absurd h List.not_mem_nil)⟩)⟩)⟩)⟩)⟩)⟩) (List.all_eq_true.mp tk17x a (List.mem_range.mpr ha11))
  have hth2 : ab_th tS (ab_tys cs) (lw_THn a2) ws2 := lx_done2 (fl := [8616, 8657]) hth1 hM1 hH2 ⟨⟨rfl, rfl, Or.inl rfl, Or.inr rfl, Or.inr rfl, Or.inr rfl, Or.inr rfl, Or.inr rfl, Or.inr rfl, Or.inr rfl, Or.inr rfl, Or.inr rfl, Or.inr rfl, Or.inr rfl, Or.inr rfl, Or.inr rfl, Or.inr rfl, Or.inr rfl, Or.inr rfl, Or.inr rfl, Or.inr rfl, Or.inr rfl, Or.inr rfl, Or.inr rfl, Or.inr rfl, Or.inr rfl, Or.inr rfl, Or.inr rfl, Or.inr rfl, Or.inr rfl, Or.inr rfl, Or.inr rfl, Or.inr rfl, Or.inr rfl, Or.inr rfl, Or.inr rfl, Or.inr rfl, Or.inr rfl, Or.inr rfl, Or.inr rfl, Or.inr rfl, Or.inr rfl, Or.inr rfl, Or.inl rfl, Or.inr rfl, Or.inr rfl, Or.inr rfl, Or.inr rfl, Or.inr rfl, Or.inr rfl, Or.inr rfl, Or.inr rfl, Or.inr rfl, Or.inr rfl, Or.inr rfl, Or.inr rfl, Or.inr rfl, Or.inr rfl, Or.inr rfl, Or.inr rfl, Or.inr rfl, Or.inr rfl, Or.inr rfl, Or.inr rfl, Or.inr rfl, Or.inr rfl, Or.inr rfl, Or.inr rfl, Or.inr rfl, Or.inr rfl, trivial⟩, ⟨rfl, trivial⟩, ⟨rfl, trivial⟩, ⟨rfl, trivial⟩, ⟨rfl, trivial⟩, trivial⟩ hf2 (po := [(119, sq_119 a2), (126, ci_126), (143, ci_143), (144, sq_144 a2), (145, ci_145)]) (List.forall_mem_cons.mpr ⟨lx_po hH2 rfl (fun e2 q => cx_to_obj (N := 68) q rfl (otl_119c (a := a2) (mi := upi (upi (fun i => cx_toI (m119 i)) 0 (Int32.ofInt 0)) 41 ac2) (ml := fun i => cx_toL (m119 i)) (obd_119u hbd119 hac2))), (List.forall_mem_cons.mpr ⟨lx_po hH2 rfl (fun e2 q => cx_to_row q cx_anyU), (List.forall_mem_cons.mpr ⟨lx_po hH2 rfl (fun e2 q => cx_to_row q cx_anyU), (List.forall_mem_cons.mpr ⟨lx_po hH2 rfl (fun e2 q => cx_to_long q (fun i hi => p12U (hpb2 i hi))), (List.forall_mem_cons.mpr ⟨lx_po hH2 rfl (fun e2 q => cx_to_long q cx_anyL), (fun _ h => absurd h List.not_mem_nil)⟩)⟩)⟩)⟩)⟩) (List.all_eq_true.mp (List.all_eq_true.mp tk17m a (List.mem_range.mpr ha11)) a2 (List.mem_range.mpr ha2))
  refine lx_pop F0 (pc' := 1007) (ab_tbo lto_17 _ _ _ (List.mem_of_getElem? (i := 25) rfl)) rfl ?_
  refine lx_goto F0 (pc' := 1810) (ab_tbo lto_17 _ _ _ (List.mem_of_getElem? (i := 26) rfl)) rfl ?_
  have hX2 := cx_heap_far hH1 hf2 rfl
  refine K ls ws2 (lx_Lc hl1 hf2.1) ⟨lw_THn a2, sq_in ha2, hth2⟩ ?_ hlen2
  refine ⟨⟨List.forall_mem_cons.mpr ⟨?_, List.forall_mem_cons.mpr ⟨?_, fun q h => absurd h List.not_mem_nil⟩⟩, List.forall_mem_cons.mpr ⟨?_, List.forall_mem_cons.mpr ⟨?_, List.forall_mem_cons.mpr ⟨?_, List.forall_mem_cons.mpr ⟨?_, List.forall_mem_cons.mpr ⟨?_, fun q h => absurd h List.not_mem_nil⟩⟩⟩⟩⟩, List.forall_mem_cons.mpr ⟨?_, fun q h => absurd h List.not_mem_nil⟩⟩, ?_⟩
  · obtain ⟨ax, ex, wx, cx⟩ := hX2 78 _ rfl
    obtain ⟨ay, ey, wy, cy⟩ := hH2 143 _ rfl
    exact ⟨_, cx_row1 (cx_rowv wy cy), (cx_rowv wx cx).trans (congrArg some (cx_rowM (fun i hi => hEt2 i hi)))⟩
  · obtain ⟨ax, ex, wx, cx⟩ := hX2 79 _ rfl
    obtain ⟨ay, ey, wy, cy⟩ := hH2 144 _ rfl
    exact ⟨_, cx_row1 (cx_rowvL wy cy), (cx_rowvL wx cx).trans (congrArg some (cx_rowML (fun i hi => hEf2 i hi)))⟩
  · obtain ⟨ax, ex, wx, cx⟩ := hX2 77 _ rfl
    obtain ⟨ay, ey, wy, cy⟩ := hH2 119 _ rfl
    exact ⟨_, cx_fldv wy cy (x := cx_toI (m119 42)) rfl rfl, (cx_fldv wx cx (x := cx_toI (m77 7)) rfl rfl).trans (by rw [hEl])⟩
  · obtain ⟨ax, ex, wx, cx⟩ := hX2 77 _ rfl
    obtain ⟨ay, ey, wy, cy⟩ := hH2 119 _ rfl
    exact ⟨_, cx_fldv wy cy (x := cx_toI (m119 43)) rfl rfl, (cx_fldv wx cx (x := cx_toI (m77 8)) rfl rfl).trans (by rw [hEs])⟩
  · obtain ⟨ax, ex, wx, cx⟩ := hX2 77 _ rfl
    obtain ⟨ay, ey, wy, cy⟩ := hH2 119 _ rfl
    exact ⟨_, cx_fldv wy cy (x := cx_toI (m119 44)) rfl rfl, (cx_fldv wx cx (x := cx_toI (m77 9)) rfl rfl).trans (by rw [hEr])⟩
  · obtain ⟨ax, ex, wx, cx⟩ := hX2 77 _ rfl
    obtain ⟨ay, ey, wy, cy⟩ := hH2 119 _ rfl
    exact ⟨_, cx_fldv wy cy (x := ac2) rfl rfl, (cx_fldv wx cx (x := md2) rfl rfl).trans (by rw [hEm2])⟩
  · obtain ⟨ax, ex, wx, cx⟩ := hX2 77 _ rfl
    obtain ⟨ay, ey, wy, cy⟩ := hH2 119 _ rfl
    exact ⟨_, cx_fldv wy cy (x := cx_toI (m119 45)) rfl rfl, (cx_fldv wx cx (x := cx_toI (m77 11)) rfl rfl).trans (by rw [hEb])⟩
  · obtain ⟨ay, ey, wy, cy⟩ := hH2 119 _ rfl
    exact ⟨_, cx_fldv wy cy (x := cx_toI (m119 45)) rfl rfl, hbo.1, hbo.2⟩
  · obtain ⟨ay, ey, wy, cy⟩ := hH2 119 _ rfl
    exact ⟨_, _, _, cx_fldv wy cy (x := cx_toI (m119 42)) rfl rfl, cx_fldv wy cy (x := cx_toI (m119 43)) rfl rfl, cx_fldv wy cy (x := cx_toI (m119 44)) rfl rfl, hs4e⟩
theorem tk19a : (List.range 11).all (fun a => tr_3 (lw_THn a) [(0, ci_0), (1, ci_1), (77, ci_77), (78, ci_78), (79, ci_79), (80, ci_80), (119, sq_119 a), (126, ci_126), (143, ci_143), (144, sq_144 a), (145, ci_145)]) = true := by decide +kernel
theorem tk19x : (List.range 11).all (fun a => (lw_THn a).all (tr_1 (cx_M [0, 1, 77, 78, 79, 80] [5938]) (lw_THn a) [(0, ci_0), (1, ci_1), (77, ci_77), (78, ci_78), (79, ci_79), (80, ci_80)])) = true := by decide +kernel
theorem tk19m : (List.range 11).all (fun a => (List.range 11).all (fun b => (lw_THn b).all (tr_1 (cx_M [119, 126, 143, 144, 145] [8616, 8657]) (lw_THn a) [(119, sq_119 b), (126, ci_126), (143, ci_143), (144, sq_144 b), (145, ci_145)]))) = true := by decide +kernel
theorem tz_19 : ∀ th ∈ lw_THs, lw_TQ 1059 th := by
  intro th hmem p l e s m below meth c D A Q cs tS b L i0 cells slots xs iv ws ls F0 hcs hiv hL hL2 hl hth hEQ hlen K
  obtain ⟨a, ha11, hthE⟩ := sq_of hmem
  subst hthE
  have h3 := tr_3_ok (List.all_eq_true.mp tk19a a (List.mem_range.mpr ha11)) hth
  obtain ⟨a0, e0, w0, t0⟩ := h3 _ (List.mem_of_getElem? (i := 0) rfl)
  obtain ⟨a1, e1, w1, t1⟩ := h3 _ (List.mem_of_getElem? (i := 1) rfl)
  obtain ⟨a77, e77, w77, t77⟩ := h3 _ (List.mem_of_getElem? (i := 2) rfl)
  obtain ⟨a78, e78, w78, t78⟩ := h3 _ (List.mem_of_getElem? (i := 3) rfl)
  obtain ⟨a79, e79, w79, t79⟩ := h3 _ (List.mem_of_getElem? (i := 4) rfl)
  obtain ⟨a80, e80, w80, t80⟩ := h3 _ (List.mem_of_getElem? (i := 5) rfl)
  obtain ⟨a119, e119, w119, t119⟩ := h3 _ (List.mem_of_getElem? (i := 6) rfl)
  obtain ⟨a126, e126, w126, t126⟩ := h3 _ (List.mem_of_getElem? (i := 7) rfl)
  obtain ⟨a143, e143, w143, t143⟩ := h3 _ (List.mem_of_getElem? (i := 8) rfl)
  obtain ⟨a144, e144, w144, t144⟩ := h3 _ (List.mem_of_getElem? (i := 9) rfl)
  obtain ⟨a145, e145, w145, t145⟩ := h3 _ (List.mem_of_getElem? (i := 10) rfl)
  obtain ⟨m0, c0, b0⟩ := cx_of_obj (ci := 10) (N := 12) (tvs := ots_0) t0
  obtain ⟨r1, c1, u1⟩ := cx_of_row (t := 0) (N := 7) (Or.inl rfl) t1
  obtain ⟨m77, c77, b77⟩ := cx_of_obj (ci := 6) (N := 12) (tvs := ots_77) t77
  have hbd77 := obd_77_of b77
  obtain ⟨t, c78, u78⟩ := cx_of_row (t := 0) (N := 32) (Or.inl rfl) t78
  obtain ⟨f, c79, u79⟩ := cx_of_long (N := 32) t79
  obtain ⟨g, c80, u80⟩ := cx_of_long (N := 32) t80
  obtain ⟨m119, c119, b119⟩ := cx_of_obj (ci := 11) (N := 68) (tvs := ots_119c a) t119
  have hbd119 := obd_119c_of b119
  obtain ⟨r2, c126, u126⟩ := cx_of_row (t := 0) (N := 7) (Or.inl rfl) t126
  obtain ⟨tm, c143, u143⟩ := cx_of_row (t := 0) (N := 32) (Or.inl rfl) t143
  obtain ⟨fm, c144, u144⟩ := cx_of_long (N := 32) t144
  obtain ⟨nm, c145, u145⟩ := cx_of_long (N := 32) t145
  have hX : cx_heap tS cs (h_xs (cx_toI (m0 11)) r1 (cx_toL (m77 6)) (cx_toI (m77 7)) (cx_toI (m77 8)) (cx_toI (m77 9)) (cx_toI (m77 10)) (cx_toI (m77 11)) t f g) ws := cx_heap_of (List.forall_mem_cons.mpr ⟨⟨a0, e0, w0, c0⟩, (List.forall_mem_cons.mpr ⟨⟨a1, e1, w1, c1⟩, (List.forall_mem_cons.mpr ⟨⟨a77, e77, w77, c77⟩, (List.forall_mem_cons.mpr ⟨⟨a78, e78, w78, c78⟩, (List.forall_mem_cons.mpr ⟨⟨a79, e79, w79, c79⟩, (List.forall_mem_cons.mpr ⟨⟨a80, e80, w80, c80⟩, (fun _ h => absurd h List.not_mem_nil)⟩)⟩)⟩)⟩)⟩)⟩)
  have hM : cx_heap tS cs (h_ms (fun i => cx_toI (m119 i)) (fun i => cx_toL (m119 i)) r2 tm fm nm) ws := cx_heap_of (List.forall_mem_cons.mpr ⟨⟨a119, e119, w119, c119⟩, (List.forall_mem_cons.mpr ⟨⟨a126, e126, w126, c126⟩, (List.forall_mem_cons.mpr ⟨⟨a143, e143, w143, c143⟩, (List.forall_mem_cons.mpr ⟨⟨a144, e144, w144, c144⟩, (List.forall_mem_cons.mpr ⟨⟨a145, e145, w145, c145⟩, (fun _ h => absurd h List.not_mem_nil)⟩)⟩)⟩)⟩)⟩)
  have ha0 : (ws.map (·.1))[0]? = some a0 := by rw [List.getElem?_map, w0]; rfl
  have ha119 : (ws.map (·.1))[119]? = some a119 := by rw [List.getElem?_map, w119]; rfl
  have hEt : ∀ i : Nat, i < 32 → t i = tm i := by
    obtain ⟨v, q2, q1⟩ := hEQ.1.1 ([143], 78) (List.mem_of_getElem? (i := 0) rfl)
    have q1 : rl_row ws 78 = some v := q1
    have q2 : rl_rows ws [143] = some v := q2
    rw [cx_rowv w78 c78] at q1
    rw [cx_row1 (cx_rowv w143 c143)] at q2
    exact cx_rowE (Option.some.inj (q1.trans q2.symm))
  have hEf : ∀ i : Nat, i < 32 → f i = fm i := by
    obtain ⟨v, q2, q1⟩ := hEQ.1.1 ([144], 79) (List.mem_of_getElem? (i := 1) rfl)
    have q1 : rl_row ws 79 = some v := q1
    have q2 : rl_rows ws [144] = some v := q2
    rw [cx_rowvL w79 c79] at q1
    rw [cx_row1 (cx_rowvL w144 c144)] at q2
    exact cx_rowEL (Option.some.inj (q1.trans q2.symm))
  have hEl : cx_toI (m77 7) = cx_toI (m119 42) := by
    obtain ⟨v, q2, q1⟩ := hEQ.1.2.1 ((119, 42), (77, 7)) (List.mem_of_getElem? (i := 0) rfl)
    have q1 : rl_fld ws (77, 7) = some v := q1
    have q2 : rl_fld ws (119, 42) = some v := q2
    rw [cx_fldv w77 c77 (x := cx_toI (m77 7)) rfl rfl] at q1
    rw [cx_fldv w119 c119 (x := cx_toI (m119 42)) rfl rfl] at q2
    exact Value.int.inj (Option.some.inj (q1.trans q2.symm))
  have hEs : cx_toI (m77 8) = cx_toI (m119 43) := by
    obtain ⟨v, q2, q1⟩ := hEQ.1.2.1 ((119, 43), (77, 8)) (List.mem_of_getElem? (i := 1) rfl)
    have q1 : rl_fld ws (77, 8) = some v := q1
    have q2 : rl_fld ws (119, 43) = some v := q2
    rw [cx_fldv w77 c77 (x := cx_toI (m77 8)) rfl rfl] at q1
    rw [cx_fldv w119 c119 (x := cx_toI (m119 43)) rfl rfl] at q2
    exact Value.int.inj (Option.some.inj (q1.trans q2.symm))
  have hEr : cx_toI (m77 9) = cx_toI (m119 44) := by
    obtain ⟨v, q2, q1⟩ := hEQ.1.2.1 ((119, 44), (77, 9)) (List.mem_of_getElem? (i := 2) rfl)
    have q1 : rl_fld ws (77, 9) = some v := q1
    have q2 : rl_fld ws (119, 44) = some v := q2
    rw [cx_fldv w77 c77 (x := cx_toI (m77 9)) rfl rfl] at q1
    rw [cx_fldv w119 c119 (x := cx_toI (m119 44)) rfl rfl] at q2
    exact Value.int.inj (Option.some.inj (q1.trans q2.symm))
  have hEm : cx_toI (m77 10) = cx_toI (m119 41) := by
    obtain ⟨v, q2, q1⟩ := hEQ.1.2.1 ((119, 41), (77, 10)) (List.mem_of_getElem? (i := 3) rfl)
    have q1 : rl_fld ws (77, 10) = some v := q1
    have q2 : rl_fld ws (119, 41) = some v := q2
    rw [cx_fldv w77 c77 (x := cx_toI (m77 10)) rfl rfl] at q1
    rw [cx_fldv w119 c119 (x := cx_toI (m119 41)) rfl rfl] at q2
    exact Value.int.inj (Option.some.inj (q1.trans q2.symm))
  have hEb : cx_toI (m77 11) = cx_toI (m119 45) := by
    obtain ⟨v, q2, q1⟩ := hEQ.1.2.1 ((119, 45), (77, 11)) (List.mem_of_getElem? (i := 4) rfl)
    have q1 : rl_fld ws (77, 11) = some v := q1
    have q2 : rl_fld ws (119, 45) = some v := q2
    rw [cx_fldv w77 c77 (x := cx_toI (m77 11)) rfl rfl] at q1
    rw [cx_fldv w119 c119 (x := cx_toI (m119 45)) rfl rfl] at q2
    exact Value.int.inj (Option.some.inj (q1.trans q2.symm))
  have hac : (Int.ofNat a) ≤ (cx_toI (m119 41)).toInt ∧ (cx_toI (m119 41)).toInt ≤ (Int.ofNat a) := hbd119.2.2.2.2.2.2.2.2.2.1
  have hac : (cx_toI (m119 41)).toInt = (a : Int) := by have h1 : (a : Int) ≤ (cx_toI (m119 41)).toInt := hac.1; have h2 : (cx_toI (m119 41)).toInt ≤ (a : Int) := hac.2; omega
  have hl4 : 0 ≤ (cx_toI (m119 42)).toInt ∧ (cx_toI (m119 42)).toInt ≤ 4 := hbd119.2.2.2.2.2.2.2.2.2.2.1
  have hs4 : 0 ≤ (cx_toI (m119 43)).toInt ∧ (cx_toI (m119 43)).toInt ≤ 4 := hbd119.2.2.2.2.2.2.2.2.2.2.2.1
  have hr4 : 0 ≤ (cx_toI (m119 44)).toInt ∧ (cx_toI (m119 44)).toInt ≤ 4 := hbd119.2.2.2.2.2.2.2.2.2.2.2.2.1
  obtain ⟨hbo, hs4e⟩ : (0 ≤ (cx_toI (m119 45)).toInt ∧ (cx_toI (m119 45)).toInt ≤ 31) ∧ (cx_toI (m119 42)).toInt + (cx_toI (m119 43)).toInt + (cx_toI (m119 44)).toInt = 4 := by
    obtain ⟨x, q1, q2, q3⟩ := hEQ.1.2.2 ((119, 45), 0, 31) (List.mem_of_getElem? (i := 0) rfl)
    have q1 : rl_fld ws (119, 45) = some (.int x) := q1
    rw [cx_fldv w119 c119 (x := cx_toI (m119 45)) rfl rfl] at q1
    obtain ⟨x1, y1, z1, p1, p2, p3, p4⟩ := hEQ.2
    rw [cx_fldv w119 c119 (x := cx_toI (m119 42)) rfl rfl] at p1
    rw [cx_fldv w119 c119 (x := cx_toI (m119 43)) rfl rfl] at p2
    rw [cx_fldv w119 c119 (x := cx_toI (m119 44)) rfl rfl] at p3
    rw [Value.int.inj (Option.some.inj q1), Value.int.inj (Option.some.inj p1), Value.int.inj (Option.some.inj p2), Value.int.inj (Option.some.inj p3)]
    exact ⟨⟨q2, q3⟩, p4⟩
  have hpb : ∀ x : Nat, x < 32 → 0 ≤ (fm x).toInt ∧ (fm x).toInt ≤ (1000000 * 12 ^ a : Int) := fun x hx => p12o (u144 x hx)
  have hm0 : 0 ≤ (cx_toI (m77 10)).toInt := by rw [hEm]; omega
  have hm1 : (cx_toI (m77 10)).toInt ≤ 10 := by rw [hEm]; omega
  have hm2 : 0 ≤ (cx_toI (m119 41)).toInt := by omega
  have hm3 : (cx_toI (m119 41)).toInt ≤ 10 := by omega
  obtain ⟨fs0, e0q, -⟩ := id c0
  subst e0q
  refine lx_x F0 hl (pc' := 1060) (ab_tbo lto_19 _ _ _ (List.mem_of_getElem? (i := 0) rfl)) rfl ha0 ?_
  obtain ⟨d1, hd1, Ct1⟩ := ct_drifts (dy := cx_toI (m0 11)) (r := r1) (bf := cx_toL (m77 6)) (dl := cx_toI (m77 7)) (ds := cx_toI (m77 8)) (dr := cx_toI (m77 9)) (md := cx_toI (m77 10)) (bo := cx_toI (m77 11)) (t := t) (f := f) (g := g) hm0 hm1 l D cs tS ws [.ref a0] hX ⟨⟨a0, ha0, rfl⟩, trivial⟩
  refine lx_call F0 hcs hl (pc' := 1063) (q := 147) (n := 0) (ci := 10) (As := []) (stk := []) (ab_tbo lto_19 _ _ _ (List.mem_of_getElem? (i := 1) rfl)) rfl rfl rfl w0 (by decide) ⟨d1, by omega, Ct1⟩ rfl (fun rv ws1 hp1 => ?_)
  obtain ⟨v, h1, ⟨z, rr, tx2, fx2, gx2, md2, rfl, rfl, rfl, hdx⟩, hk1, hf1, hH1, hrv⟩ := hp1
  obtain rfl : rv = some (.int z) := by
    cases rv with
    | none => exact hrv.elim
    | some y => exact congrArg some hrv
  show ab_W p l e room_1 s m #[Value.ref b] below meth c D vwCl A Q cells slots 1063 ls [.int z] ws1
  refine lx_pop F0 (pc' := 1064) (ab_tbo lto_19 _ _ _ (List.mem_of_getElem? (i := 2) rfl)) rfl ?_
  have hl1 := lx_Lc hl hf1.1
  have hM1 := cx_heap_far hM hf1 rfl
  have ha119b : (ws1.map (·.1))[119]? = some a119 := by rw [hf1.1]; exact ha119
  refine lx_m F0 hl1 (pc' := 1065) (ab_tbo lto_19 _ _ _ (List.mem_of_getElem? (i := 3) rfl)) rfl ha119b ?_
  obtain ⟨a119c, e119c, w119c, c119c⟩ := hM1 119 _ rfl
  obtain ⟨fs119c, e119d, -⟩ := id c119c
  subst e119d
  have eadd : a119c = a119 := ab_ad_get ha119b w119c
  rw [eadd] at w119c
  obtain ⟨d2, hd2, Ct2⟩ := ct_mdrifts (mi := fun i => cx_toI (m119 i)) (ml := fun i => cx_toL (m119 i)) (r := r2) (t := tm) (f := fm) (n := nm) hm2 hm3 l D cs tS ws1 [.ref a119] hM1 ⟨⟨a119, ha119b, rfl⟩, trivial⟩
  refine lx_call F0 hcs hl1 (pc' := 1068) (q := 230) (n := 0) (ci := 11) (As := []) (stk := []) (ab_tbo lto_19 _ _ _ (List.mem_of_getElem? (i := 4) rfl)) rfl rfl rfl w119c (by first | decide | exact (by decide : (1 : Nat) ≤ 8)) ⟨d2, by omega, Ct2⟩ rfl (fun rv2 ws2 hp2 => ?_)
  obtain ⟨v2, h2, ⟨z2, rr2, tm2, fm2, nm2, ac2, rfl, rfl, rfl, hdm⟩, hk2, hf2, hH2, hrv2⟩ := hp2
  obtain rfl : rv2 = some (.int z2) := by
    cases rv2 with
    | none => exact hrv2.elim
    | some y => exact congrArg some hrv2
  show ab_W p l e room_1 s m #[Value.ref b] below meth c D vwCl A Q cells slots 1068 ls [.int z2] ws2
  obtain ⟨hfin, hEf2, hEm2⟩ := dfE hEf hEm (by rw [hEl, hEs, hEr] at hdx; exact hdx) hdm
  obtain ⟨a2, ha2, hac2, hpb2⟩ : ∃ a2 : Nat, a2 < 11 ∧ ac2.toInt = (a2 : Int) ∧ ∀ x : Nat, x < 32 → 0 ≤ (fm2 x).toInt ∧ (fm2 x).toInt ≤ (1000000 * 12 ^ a2 : Int) := by
    have k0 : (Int32.ofInt 0).toInt = 0 := by decide +kernel
    have k1 : (Int32.ofInt 1).toInt = 1 := by decide +kernel
    unfold dfA at hdm
    rcases hdm with ⟨c1, c2, c3, c4⟩ | ⟨c0, c1, c2, c3, c4⟩ | ⟨c0, c1, c2, c3, c4⟩
    · rw [c3, c4]; exact ⟨a, ha11, hac, hpb⟩
    · rw [c3, c4]; exact ⟨a, ha11, hac, hpb⟩
    · have hlt : a < 10 := by omega
      obtain ⟨e1, e2⟩ := p12 hlt
      refine ⟨a + 1, by omega, ?_, fun x hx => ?_⟩
      · rw [c4, cx_addc (by omega) (by omega)]; omega
      · rw [c3 x hx, ← e1]
        exact drF_bd e2 hl4 hs4 hr4 hpb hx
  have hlen1 : ws1.length = 165 := by have := congrArg List.length hf1.1; simpa [hlen] using this
  have hlen2 : ws2.length = 165 := by have := congrArg List.length hf2.1; simpa [hlen1] using this
  have hth1 : ab_th tS (ab_tys cs) (lw_THn a) ws1 := lx_done (fl := [5938]) hth hX hH1 ⟨⟨rfl, rfl, Or.inr rfl, Or.inr rfl, Or.inr rfl, Or.inr rfl, Or.inr rfl, Or.inr rfl, Or.inr rfl, Or.inr rfl, Or.inr rfl, Or.inr rfl, Or.inr rfl, Or.inr rfl, trivial⟩, ⟨rfl, trivial⟩, ⟨rfl, rfl, Or.inr rfl, Or.inr rfl, Or.inr rfl, Or.inr rfl, Or.inr rfl, Or.inr rfl, Or.inr rfl, Or.inr rfl, Or.inr rfl, Or.inr rfl, Or.inl rfl, Or.inr rfl, trivial⟩, ⟨rfl, trivial⟩, ⟨rfl, trivial⟩, ⟨rfl, trivial⟩, trivial⟩ hf1 (po := [(0, ci_0), (1, ci_1), (77, ci_77), (78, ci_78), (79, ci_79), (80, ci_80)]) (List.forall_mem_cons.mpr ⟨lx_po hH1 rfl (fun e2 q => cx_to_obj (N := 12) q rfl (otl_0 (mi := fun _ => cx_toI (m0 11)))), (List.forall_mem_cons.mpr ⟨lx_po hH1 rfl (fun e2 q => cx_to_row q cx_anyU), (List.forall_mem_cons.mpr ⟨lx_po hH1 rfl (fun e2 q => cx_to_obj (N := 12) q rfl (otl_77 (mi := upi (fun i => cx_toI (m77 i)) 10 md2) (ml := fun i => cx_toL (m77 i)) hbd77)), (List.forall_mem_cons.mpr ⟨lx_po hH1 rfl (fun e2 q => cx_to_row q cx_anyU), (List.forall_mem_cons.mpr ⟨lx_po hH1 rfl (fun e2 q => cx_to_long q cx_anyL), (List.forall_mem_cons.mpr ⟨lx_po hH1 rfl (fun e2 q => cx_to_long q cx_anyL), (fun _ h => absurd h List.not_mem_nil)⟩)⟩)⟩)⟩)⟩)⟩) (List.all_eq_true.mp tk19x a (List.mem_range.mpr ha11))
  have hth2 : ab_th tS (ab_tys cs) (lw_THn a2) ws2 := lx_done2 (fl := [8616, 8657]) hth1 hM1 hH2 ⟨⟨rfl, rfl, Or.inl rfl, Or.inr rfl, Or.inr rfl, Or.inr rfl, Or.inr rfl, Or.inr rfl, Or.inr rfl, Or.inr rfl, Or.inr rfl, Or.inr rfl, Or.inr rfl, Or.inr rfl, Or.inr rfl, Or.inr rfl, Or.inr rfl, Or.inr rfl, Or.inr rfl, Or.inr rfl, Or.inr rfl, Or.inr rfl, Or.inr rfl, Or.inr rfl, Or.inr rfl, Or.inr rfl, Or.inr rfl, Or.inr rfl, Or.inr rfl, Or.inr rfl, Or.inr rfl, Or.inr rfl, Or.inr rfl, Or.inr rfl, Or.inr rfl, Or.inr rfl, Or.inr rfl, Or.inr rfl, Or.inr rfl, Or.inr rfl, Or.inr rfl, Or.inr rfl, Or.inr rfl, Or.inl rfl, Or.inr rfl, Or.inr rfl, Or.inr rfl, Or.inr rfl, Or.inr rfl, Or.inr rfl, Or.inr rfl, Or.inr rfl, Or.inr rfl, Or.inr rfl, Or.inr rfl, Or.inr rfl, Or.inr rfl, Or.inr rfl, Or.inr rfl, Or.inr rfl, Or.inr rfl, Or.inr rfl, Or.inr rfl, Or.inr rfl, Or.inr rfl, Or.inr rfl, Or.inr rfl, Or.inr rfl, Or.inr rfl, Or.inr rfl, trivial⟩, ⟨rfl, trivial⟩, ⟨rfl, trivial⟩, ⟨rfl, trivial⟩, ⟨rfl, trivial⟩, trivial⟩ hf2 (po := [(119, sq_119 a2), (126, ci_126), (143, ci_143), (144, sq_144 a2), (145, ci_145)]) (List.forall_mem_cons.mpr ⟨lx_po hH2 rfl (fun e2 q => cx_to_obj (N := 68) q rfl (otl_119c (a := a2) (mi := upi (upi (fun i => cx_toI (m119 i)) 0 (Int32.ofInt 0)) 41 ac2) (ml := fun i => cx_toL (m119 i)) (obd_119u hbd119 hac2))), (List.forall_mem_cons.mpr ⟨lx_po hH2 rfl (fun e2 q => cx_to_row q cx_anyU), (List.forall_mem_cons.mpr ⟨lx_po hH2 rfl (fun e2 q => cx_to_row q cx_anyU), (List.forall_mem_cons.mpr ⟨lx_po hH2 rfl (fun e2 q => cx_to_long q (fun i hi => p12U (hpb2 i hi))), (List.forall_mem_cons.mpr ⟨lx_po hH2 rfl (fun e2 q => cx_to_long q cx_anyL), (fun _ h => absurd h List.not_mem_nil)⟩)⟩)⟩)⟩)⟩) (List.all_eq_true.mp (List.all_eq_true.mp tk19m a (List.mem_range.mpr ha11)) a2 (List.mem_range.mpr ha2))
  refine lx_pop F0 (pc' := 1069) (ab_tbo lto_19 _ _ _ (List.mem_of_getElem? (i := 5) rfl)) rfl ?_
  refine lx_goto F0 (pc' := 1810) (ab_tbo lto_19 _ _ _ (List.mem_of_getElem? (i := 6) rfl)) rfl ?_
  have hX2 := cx_heap_far hH1 hf2 rfl
  refine K ls ws2 (lx_Lc hl1 hf2.1) ⟨lw_THn a2, sq_in ha2, hth2⟩ ?_ hlen2
  refine ⟨⟨List.forall_mem_cons.mpr ⟨?_, List.forall_mem_cons.mpr ⟨?_, fun q h => absurd h List.not_mem_nil⟩⟩, List.forall_mem_cons.mpr ⟨?_, List.forall_mem_cons.mpr ⟨?_, List.forall_mem_cons.mpr ⟨?_, List.forall_mem_cons.mpr ⟨?_, List.forall_mem_cons.mpr ⟨?_, fun q h => absurd h List.not_mem_nil⟩⟩⟩⟩⟩, List.forall_mem_cons.mpr ⟨?_, fun q h => absurd h List.not_mem_nil⟩⟩, ?_⟩
  · obtain ⟨ax, ex, wx, cx⟩ := hX2 78 _ rfl
    obtain ⟨ay, ey, wy, cy⟩ := hH2 143 _ rfl
    exact ⟨_, cx_row1 (cx_rowv wy cy), (cx_rowv wx cx).trans (congrArg some (cx_rowM (fun i hi => hEt i hi)))⟩
  · obtain ⟨ax, ex, wx, cx⟩ := hX2 79 _ rfl
    obtain ⟨ay, ey, wy, cy⟩ := hH2 144 _ rfl
    exact ⟨_, cx_row1 (cx_rowvL wy cy), (cx_rowvL wx cx).trans (congrArg some (cx_rowML (fun i hi => hEf2 i hi)))⟩
  · obtain ⟨ax, ex, wx, cx⟩ := hX2 77 _ rfl
    obtain ⟨ay, ey, wy, cy⟩ := hH2 119 _ rfl
    exact ⟨_, cx_fldv wy cy (x := cx_toI (m119 42)) rfl rfl, (cx_fldv wx cx (x := cx_toI (m77 7)) rfl rfl).trans (by rw [hEl])⟩
  · obtain ⟨ax, ex, wx, cx⟩ := hX2 77 _ rfl
    obtain ⟨ay, ey, wy, cy⟩ := hH2 119 _ rfl
    exact ⟨_, cx_fldv wy cy (x := cx_toI (m119 43)) rfl rfl, (cx_fldv wx cx (x := cx_toI (m77 8)) rfl rfl).trans (by rw [hEs])⟩
  · obtain ⟨ax, ex, wx, cx⟩ := hX2 77 _ rfl
    obtain ⟨ay, ey, wy, cy⟩ := hH2 119 _ rfl
    exact ⟨_, cx_fldv wy cy (x := cx_toI (m119 44)) rfl rfl, (cx_fldv wx cx (x := cx_toI (m77 9)) rfl rfl).trans (by rw [hEr])⟩
  · obtain ⟨ax, ex, wx, cx⟩ := hX2 77 _ rfl
    obtain ⟨ay, ey, wy, cy⟩ := hH2 119 _ rfl
    exact ⟨_, cx_fldv wy cy (x := ac2) rfl rfl, (cx_fldv wx cx (x := md2) rfl rfl).trans (by rw [hEm2])⟩
  · obtain ⟨ax, ex, wx, cx⟩ := hX2 77 _ rfl
    obtain ⟨ay, ey, wy, cy⟩ := hH2 119 _ rfl
    exact ⟨_, cx_fldv wy cy (x := cx_toI (m119 45)) rfl rfl, (cx_fldv wx cx (x := cx_toI (m77 11)) rfl rfl).trans (by rw [hEb])⟩
  · obtain ⟨ay, ey, wy, cy⟩ := hH2 119 _ rfl
    exact ⟨_, cx_fldv wy cy (x := cx_toI (m119 45)) rfl rfl, hbo.1, hbo.2⟩
  · obtain ⟨ay, ey, wy, cy⟩ := hH2 119 _ rfl
    exact ⟨_, _, _, cx_fldv wy cy (x := cx_toI (m119 42)) rfl rfl, cx_fldv wy cy (x := cx_toI (m119 43)) rfl rfl, cx_fldv wy cy (x := cx_toI (m119 44)) rfl rfl, hs4e⟩
theorem tk20a : (List.range 11).all (fun a => tr_3 (lw_THn a) [(0, ci_0), (1, ci_1), (77, ci_77), (78, ci_78), (79, ci_79), (80, ci_80), (119, sq_119 a), (126, ci_126), (143, ci_143), (144, sq_144 a), (145, ci_145)]) = true := by decide +kernel
theorem tk20x : (List.range 11).all (fun a => (lw_THn a).all (tr_1 (cx_M [0, 1, 77, 78, 79, 80] [5938]) (lw_THn a) [(0, ci_0), (1, ci_1), (77, ci_77), (78, ci_78), (79, ci_79), (80, ci_80)])) = true := by decide +kernel
theorem tk20m : (List.range 11).all (fun a => (List.range 11).all (fun b => (lw_THn b).all (tr_1 (cx_M [119, 126, 143, 144, 145] [8616, 8657]) (lw_THn a) [(119, sq_119 b), (126, ci_126), (143, ci_143), (144, sq_144 b), (145, ci_145)]))) = true := by decide +kernel
theorem tz_20 : ∀ th ∈ lw_THs, lw_TQ 1072 th := by
  intro th hmem p l e s m below meth c D A Q cs tS b L i0 cells slots xs iv ws ls F0 hcs hiv hL hL2 hl hth hEQ hlen K
  obtain ⟨a, ha11, hthE⟩ := sq_of hmem
  subst hthE
  have h3 := tr_3_ok (List.all_eq_true.mp tk20a a (List.mem_range.mpr ha11)) hth
  obtain ⟨a0, e0, w0, t0⟩ := h3 _ (List.mem_of_getElem? (i := 0) rfl)
  obtain ⟨a1, e1, w1, t1⟩ := h3 _ (List.mem_of_getElem? (i := 1) rfl)
  obtain ⟨a77, e77, w77, t77⟩ := h3 _ (List.mem_of_getElem? (i := 2) rfl)
  obtain ⟨a78, e78, w78, t78⟩ := h3 _ (List.mem_of_getElem? (i := 3) rfl)
  obtain ⟨a79, e79, w79, t79⟩ := h3 _ (List.mem_of_getElem? (i := 4) rfl)
  obtain ⟨a80, e80, w80, t80⟩ := h3 _ (List.mem_of_getElem? (i := 5) rfl)
  obtain ⟨a119, e119, w119, t119⟩ := h3 _ (List.mem_of_getElem? (i := 6) rfl)
  obtain ⟨a126, e126, w126, t126⟩ := h3 _ (List.mem_of_getElem? (i := 7) rfl)
  obtain ⟨a143, e143, w143, t143⟩ := h3 _ (List.mem_of_getElem? (i := 8) rfl)
  obtain ⟨a144, e144, w144, t144⟩ := h3 _ (List.mem_of_getElem? (i := 9) rfl)
  obtain ⟨a145, e145, w145, t145⟩ := h3 _ (List.mem_of_getElem? (i := 10) rfl)
  obtain ⟨m0, c0, b0⟩ := cx_of_obj (ci := 10) (N := 12) (tvs := ots_0) t0
  obtain ⟨r1, c1, u1⟩ := cx_of_row (t := 0) (N := 7) (Or.inl rfl) t1
  obtain ⟨m77, c77, b77⟩ := cx_of_obj (ci := 6) (N := 12) (tvs := ots_77) t77
  have hbd77 := obd_77_of b77
  obtain ⟨t, c78, u78⟩ := cx_of_row (t := 0) (N := 32) (Or.inl rfl) t78
  obtain ⟨f, c79, u79⟩ := cx_of_long (N := 32) t79
  obtain ⟨g, c80, u80⟩ := cx_of_long (N := 32) t80
  obtain ⟨m119, c119, b119⟩ := cx_of_obj (ci := 11) (N := 68) (tvs := ots_119c a) t119
  have hbd119 := obd_119c_of b119
  obtain ⟨r2, c126, u126⟩ := cx_of_row (t := 0) (N := 7) (Or.inl rfl) t126
  obtain ⟨tm, c143, u143⟩ := cx_of_row (t := 0) (N := 32) (Or.inl rfl) t143
  obtain ⟨fm, c144, u144⟩ := cx_of_long (N := 32) t144
  obtain ⟨nm, c145, u145⟩ := cx_of_long (N := 32) t145
  have hX : cx_heap tS cs (h_xs (cx_toI (m0 11)) r1 (cx_toL (m77 6)) (cx_toI (m77 7)) (cx_toI (m77 8)) (cx_toI (m77 9)) (cx_toI (m77 10)) (cx_toI (m77 11)) t f g) ws := cx_heap_of (List.forall_mem_cons.mpr ⟨⟨a0, e0, w0, c0⟩, (List.forall_mem_cons.mpr ⟨⟨a1, e1, w1, c1⟩, (List.forall_mem_cons.mpr ⟨⟨a77, e77, w77, c77⟩, (List.forall_mem_cons.mpr ⟨⟨a78, e78, w78, c78⟩, (List.forall_mem_cons.mpr ⟨⟨a79, e79, w79, c79⟩, (List.forall_mem_cons.mpr ⟨⟨a80, e80, w80, c80⟩, (fun _ h => absurd h List.not_mem_nil)⟩)⟩)⟩)⟩)⟩)⟩)
  have hM : cx_heap tS cs (h_ms (fun i => cx_toI (m119 i)) (fun i => cx_toL (m119 i)) r2 tm fm nm) ws := cx_heap_of (List.forall_mem_cons.mpr ⟨⟨a119, e119, w119, c119⟩, (List.forall_mem_cons.mpr ⟨⟨a126, e126, w126, c126⟩, (List.forall_mem_cons.mpr ⟨⟨a143, e143, w143, c143⟩, (List.forall_mem_cons.mpr ⟨⟨a144, e144, w144, c144⟩, (List.forall_mem_cons.mpr ⟨⟨a145, e145, w145, c145⟩, (fun _ h => absurd h List.not_mem_nil)⟩)⟩)⟩)⟩)⟩)
  have ha0 : (ws.map (·.1))[0]? = some a0 := by rw [List.getElem?_map, w0]; rfl
  have ha119 : (ws.map (·.1))[119]? = some a119 := by rw [List.getElem?_map, w119]; rfl
  have hEt : ∀ i : Nat, i < 32 → t i = tm i := by
    obtain ⟨v, q2, q1⟩ := hEQ.1.1 ([143], 78) (List.mem_of_getElem? (i := 0) rfl)
    have q1 : rl_row ws 78 = some v := q1
    have q2 : rl_rows ws [143] = some v := q2
    rw [cx_rowv w78 c78] at q1
    rw [cx_row1 (cx_rowv w143 c143)] at q2
    exact cx_rowE (Option.some.inj (q1.trans q2.symm))
  have hEf : ∀ i : Nat, i < 32 → f i = fm i := by
    obtain ⟨v, q2, q1⟩ := hEQ.1.1 ([144], 79) (List.mem_of_getElem? (i := 1) rfl)
    have q1 : rl_row ws 79 = some v := q1
    have q2 : rl_rows ws [144] = some v := q2
    rw [cx_rowvL w79 c79] at q1
    rw [cx_row1 (cx_rowvL w144 c144)] at q2
    exact cx_rowEL (Option.some.inj (q1.trans q2.symm))
  have hEl : cx_toI (m77 7) = cx_toI (m119 42) := by
    obtain ⟨v, q2, q1⟩ := hEQ.1.2.1 ((119, 42), (77, 7)) (List.mem_of_getElem? (i := 0) rfl)
    have q1 : rl_fld ws (77, 7) = some v := q1
    have q2 : rl_fld ws (119, 42) = some v := q2
    rw [cx_fldv w77 c77 (x := cx_toI (m77 7)) rfl rfl] at q1
    rw [cx_fldv w119 c119 (x := cx_toI (m119 42)) rfl rfl] at q2
    exact Value.int.inj (Option.some.inj (q1.trans q2.symm))
  have hEs : cx_toI (m77 8) = cx_toI (m119 43) := by
    obtain ⟨v, q2, q1⟩ := hEQ.1.2.1 ((119, 43), (77, 8)) (List.mem_of_getElem? (i := 1) rfl)
    have q1 : rl_fld ws (77, 8) = some v := q1
    have q2 : rl_fld ws (119, 43) = some v := q2
    rw [cx_fldv w77 c77 (x := cx_toI (m77 8)) rfl rfl] at q1
    rw [cx_fldv w119 c119 (x := cx_toI (m119 43)) rfl rfl] at q2
    exact Value.int.inj (Option.some.inj (q1.trans q2.symm))
  have hEr : cx_toI (m77 9) = cx_toI (m119 44) := by
    obtain ⟨v, q2, q1⟩ := hEQ.1.2.1 ((119, 44), (77, 9)) (List.mem_of_getElem? (i := 2) rfl)
    have q1 : rl_fld ws (77, 9) = some v := q1
    have q2 : rl_fld ws (119, 44) = some v := q2
    rw [cx_fldv w77 c77 (x := cx_toI (m77 9)) rfl rfl] at q1
    rw [cx_fldv w119 c119 (x := cx_toI (m119 44)) rfl rfl] at q2
    exact Value.int.inj (Option.some.inj (q1.trans q2.symm))
  have hEm : cx_toI (m77 10) = cx_toI (m119 41) := by
    obtain ⟨v, q2, q1⟩ := hEQ.1.2.1 ((119, 41), (77, 10)) (List.mem_of_getElem? (i := 3) rfl)
    have q1 : rl_fld ws (77, 10) = some v := q1
    have q2 : rl_fld ws (119, 41) = some v := q2
    rw [cx_fldv w77 c77 (x := cx_toI (m77 10)) rfl rfl] at q1
    rw [cx_fldv w119 c119 (x := cx_toI (m119 41)) rfl rfl] at q2
    exact Value.int.inj (Option.some.inj (q1.trans q2.symm))
  have hEb : cx_toI (m77 11) = cx_toI (m119 45) := by
    obtain ⟨v, q2, q1⟩ := hEQ.1.2.1 ((119, 45), (77, 11)) (List.mem_of_getElem? (i := 4) rfl)
    have q1 : rl_fld ws (77, 11) = some v := q1
    have q2 : rl_fld ws (119, 45) = some v := q2
    rw [cx_fldv w77 c77 (x := cx_toI (m77 11)) rfl rfl] at q1
    rw [cx_fldv w119 c119 (x := cx_toI (m119 45)) rfl rfl] at q2
    exact Value.int.inj (Option.some.inj (q1.trans q2.symm))
  have hac : (Int.ofNat a) ≤ (cx_toI (m119 41)).toInt ∧ (cx_toI (m119 41)).toInt ≤ (Int.ofNat a) := hbd119.2.2.2.2.2.2.2.2.2.1
  have hac : (cx_toI (m119 41)).toInt = (a : Int) := by have h1 : (a : Int) ≤ (cx_toI (m119 41)).toInt := hac.1; have h2 : (cx_toI (m119 41)).toInt ≤ (a : Int) := hac.2; omega
  have hl4 : 0 ≤ (cx_toI (m119 42)).toInt ∧ (cx_toI (m119 42)).toInt ≤ 4 := hbd119.2.2.2.2.2.2.2.2.2.2.1
  have hs4 : 0 ≤ (cx_toI (m119 43)).toInt ∧ (cx_toI (m119 43)).toInt ≤ 4 := hbd119.2.2.2.2.2.2.2.2.2.2.2.1
  have hr4 : 0 ≤ (cx_toI (m119 44)).toInt ∧ (cx_toI (m119 44)).toInt ≤ 4 := hbd119.2.2.2.2.2.2.2.2.2.2.2.2.1
  obtain ⟨hbo, hs4e⟩ : (0 ≤ (cx_toI (m119 45)).toInt ∧ (cx_toI (m119 45)).toInt ≤ 31) ∧ (cx_toI (m119 42)).toInt + (cx_toI (m119 43)).toInt + (cx_toI (m119 44)).toInt = 4 := by
    obtain ⟨x, q1, q2, q3⟩ := hEQ.1.2.2 ((119, 45), 0, 31) (List.mem_of_getElem? (i := 0) rfl)
    have q1 : rl_fld ws (119, 45) = some (.int x) := q1
    rw [cx_fldv w119 c119 (x := cx_toI (m119 45)) rfl rfl] at q1
    obtain ⟨x1, y1, z1, p1, p2, p3, p4⟩ := hEQ.2
    rw [cx_fldv w119 c119 (x := cx_toI (m119 42)) rfl rfl] at p1
    rw [cx_fldv w119 c119 (x := cx_toI (m119 43)) rfl rfl] at p2
    rw [cx_fldv w119 c119 (x := cx_toI (m119 44)) rfl rfl] at p3
    rw [Value.int.inj (Option.some.inj q1), Value.int.inj (Option.some.inj p1), Value.int.inj (Option.some.inj p2), Value.int.inj (Option.some.inj p3)]
    exact ⟨⟨q2, q3⟩, p4⟩
  have hpb : ∀ x : Nat, x < 32 → 0 ≤ (fm x).toInt ∧ (fm x).toInt ≤ (1000000 * 12 ^ a : Int) := fun x hx => p12o (u144 x hx)
  have hm0 : 0 ≤ (cx_toI (m77 10)).toInt := by rw [hEm]; omega
  have hm1 : (cx_toI (m77 10)).toInt ≤ 10 := by rw [hEm]; omega
  have hm2 : 0 ≤ (cx_toI (m119 41)).toInt := by omega
  have hm3 : (cx_toI (m119 41)).toInt ≤ 10 := by omega
  obtain ⟨fs0, e0q, -⟩ := id c0
  subst e0q
  refine lx_x F0 hl (pc' := 1073) (ab_tbo lto_20 _ _ _ (List.mem_of_getElem? (i := 0) rfl)) rfl ha0 ?_
  refine lx_arg F0 hiv hL hL2 hl (z := 1) (pc' := 1079) rfl (ab_tbo lto_20 _ _ _ (List.mem_of_getElem? (i := 1) rfl)) (ab_tbo lto_20 _ _ _ (List.mem_of_getElem? (i := 2) rfl)) (ab_tbo lto_20 _ _ _ (List.mem_of_getElem? (i := 3) rfl)) (ab_tbo lto_20 _ _ _ (List.mem_of_getElem? (i := 4) rfl)) (ab_tbo lto_20 _ _ _ (List.mem_of_getElem? (i := 5) rfl)) rfl ?_
  refine lx_arg F0 hiv hL hL2 hl (z := 2) (pc' := 1085) rfl (ab_tbo lto_20 _ _ _ (List.mem_of_getElem? (i := 6) rfl)) (ab_tbo lto_20 _ _ _ (List.mem_of_getElem? (i := 7) rfl)) (ab_tbo lto_20 _ _ _ (List.mem_of_getElem? (i := 8) rfl)) (ab_tbo lto_20 _ _ _ (List.mem_of_getElem? (i := 9) rfl)) (ab_tbo lto_20 _ _ _ (List.mem_of_getElem? (i := 10) rfl)) rfl ?_
  obtain ⟨d1, hd1, Ct1⟩ := ct_look (dy := cx_toI (m0 11)) (r := r1) (bf := cx_toL (m77 6)) (dl := cx_toI (m77 7)) (ds := cx_toI (m77 8)) (dr := cx_toI (m77 9)) (md := cx_toI (m77 10)) (bo := cx_toI (m77 11)) (t := t) (f := f) (g := g) (p := xs (i0 + 1)) (q := xs (i0 + 2)) hm0 hm1 l D cs tS ws [.ref a0, .int (xs (i0 + 1)), .int (xs (i0 + 2))] hX ⟨⟨a0, ha0, rfl⟩, rfl, rfl, trivial⟩
  refine lx_call F0 hcs hl (pc' := 1088) (q := 148) (n := 2) (ci := 10) (As := [.int (xs (i0 + 1)), .int (xs (i0 + 2))]) (stk := []) (ab_tbo lto_20 _ _ _ (List.mem_of_getElem? (i := 11) rfl)) rfl rfl rfl w0 (by decide) ⟨d1, by omega, Ct1⟩ rfl (fun rv ws1 hp1 => ?_)
  obtain ⟨v, h1, ⟨z, rr, tx2, fx2, gx2, md2, rfl, rfl, rfl, hdx⟩, hk1, hf1, hH1, hrv⟩ := hp1
  obtain rfl : rv = some (.int z) := by
    cases rv with
    | none => exact hrv.elim
    | some y => exact congrArg some hrv
  show ab_W p l e room_1 s m #[Value.ref b] below meth c D vwCl A Q cells slots 1088 ls [.int z] ws1
  refine lx_pop F0 (pc' := 1089) (ab_tbo lto_20 _ _ _ (List.mem_of_getElem? (i := 12) rfl)) rfl ?_
  have hl1 := lx_Lc hl hf1.1
  have hM1 := cx_heap_far hM hf1 rfl
  have ha119b : (ws1.map (·.1))[119]? = some a119 := by rw [hf1.1]; exact ha119
  refine lx_m F0 hl1 (pc' := 1090) (ab_tbo lto_20 _ _ _ (List.mem_of_getElem? (i := 13) rfl)) rfl ha119b ?_
  refine lx_arg F0 hiv hL hL2 hl1 (z := 1) (pc' := 1096) rfl (ab_tbo lto_20 _ _ _ (List.mem_of_getElem? (i := 14) rfl)) (ab_tbo lto_20 _ _ _ (List.mem_of_getElem? (i := 15) rfl)) (ab_tbo lto_20 _ _ _ (List.mem_of_getElem? (i := 16) rfl)) (ab_tbo lto_20 _ _ _ (List.mem_of_getElem? (i := 17) rfl)) (ab_tbo lto_20 _ _ _ (List.mem_of_getElem? (i := 18) rfl)) rfl ?_
  refine lx_arg F0 hiv hL hL2 hl1 (z := 2) (pc' := 1102) rfl (ab_tbo lto_20 _ _ _ (List.mem_of_getElem? (i := 19) rfl)) (ab_tbo lto_20 _ _ _ (List.mem_of_getElem? (i := 20) rfl)) (ab_tbo lto_20 _ _ _ (List.mem_of_getElem? (i := 21) rfl)) (ab_tbo lto_20 _ _ _ (List.mem_of_getElem? (i := 22) rfl)) (ab_tbo lto_20 _ _ _ (List.mem_of_getElem? (i := 23) rfl)) rfl ?_
  obtain ⟨a119c, e119c, w119c, c119c⟩ := hM1 119 _ rfl
  obtain ⟨fs119c, e119d, -⟩ := id c119c
  subst e119d
  have eadd : a119c = a119 := ab_ad_get ha119b w119c
  rw [eadd] at w119c
  obtain ⟨d2, hd2, Ct2⟩ := ct_mlook (mi := fun i => cx_toI (m119 i)) (ml := fun i => cx_toL (m119 i)) (r := r2) (t := tm) (f := fm) (n := nm) (p := xs (i0 + 1)) (q := xs (i0 + 2)) hm2 hm3 l D cs tS ws1 [.ref a119, .int (xs (i0 + 1)), .int (xs (i0 + 2))] hM1 ⟨⟨a119, ha119b, rfl⟩, rfl, rfl, trivial⟩
  refine lx_call F0 hcs hl1 (pc' := 1105) (q := 231) (n := 2) (ci := 11) (As := [.int (xs (i0 + 1)), .int (xs (i0 + 2))]) (stk := []) (ab_tbo lto_20 _ _ _ (List.mem_of_getElem? (i := 24) rfl)) rfl rfl rfl w119c (by first | decide | exact (by decide : (1 : Nat) ≤ 8)) ⟨d2, by omega, Ct2⟩ rfl (fun rv2 ws2 hp2 => ?_)
  obtain ⟨v2, h2, ⟨z2, rr2, tm2, fm2, nm2, ac2, rfl, rfl, rfl, hdm⟩, hk2, hf2, hH2, hrv2⟩ := hp2
  obtain rfl : rv2 = some (.int z2) := by
    cases rv2 with
    | none => exact hrv2.elim
    | some y => exact congrArg some hrv2
  show ab_W p l e room_1 s m #[Value.ref b] below meth c D vwCl A Q cells slots 1105 ls [.int z2] ws2
  obtain ⟨hfin, hEf2, hEm2⟩ := lkE hEf hEm hdx hdm
  obtain ⟨a2, ha2, hac2, hpb2⟩ : ∃ a2 : Nat, a2 < 11 ∧ ac2.toInt = (a2 : Int) ∧ ∀ x : Nat, x < 32 → 0 ≤ (fm2 x).toInt ∧ (fm2 x).toInt ≤ (1000000 * 12 ^ a2 : Int) := by
    have k0 : (Int32.ofInt 0).toInt = 0 := by decide +kernel
    have k1 : (Int32.ofInt 1).toInt = 1 := by decide +kernel
    unfold lkA at hdm
    rcases hdm with ⟨c1, c2, c3, c4⟩ | ⟨c0, c1, c2, c3, c4⟩ | ⟨c0, c1, c5, c2, c3, c4⟩ | ⟨c0, c1, c5, c6, c2, c3, c4⟩ | ⟨c0, c1, c5, c6, c2, c3, c4⟩
    · rw [c3, c4]; exact ⟨a, ha11, hac, hpb⟩
    · rw [c3, c4]; exact ⟨a, ha11, hac, hpb⟩
    · rw [c3, c4]; exact ⟨a, ha11, hac, hpb⟩
    · rw [c3, c4]; exact ⟨a, ha11, hac, hpb⟩
    · have hlt : a < 10 := by omega
      obtain ⟨e1, e2⟩ := p12 hlt
      refine ⟨a + 1, by omega, ?_, fun x hx => ?_⟩
      · rw [c4, cx_addc (by omega) (by omega)]; omega
      · rw [c3 x hx, ← e1]
        exact lkF_bd e2 c5 (hpb x hx)
  have hlen1 : ws1.length = 165 := by have := congrArg List.length hf1.1; simpa [hlen] using this
  have hlen2 : ws2.length = 165 := by have := congrArg List.length hf2.1; simpa [hlen1] using this
  have hth1 : ab_th tS (ab_tys cs) (lw_THn a) ws1 := lx_done (fl := [5938]) hth hX hH1 ⟨⟨rfl, rfl, Or.inr rfl, Or.inr rfl, Or.inr rfl, Or.inr rfl, Or.inr rfl, Or.inr rfl, Or.inr rfl, Or.inr rfl, Or.inr rfl, Or.inr rfl, Or.inr rfl, Or.inr rfl, trivial⟩, ⟨rfl, trivial⟩, ⟨rfl, rfl, Or.inr rfl, Or.inr rfl, Or.inr rfl, Or.inr rfl, Or.inr rfl, Or.inr rfl, Or.inr rfl, Or.inr rfl, Or.inr rfl, Or.inr rfl, Or.inl rfl, Or.inr rfl, trivial⟩, ⟨rfl, trivial⟩, ⟨rfl, trivial⟩, ⟨rfl, trivial⟩, trivial⟩ hf1 (po := [(0, ci_0), (1, ci_1), (77, ci_77), (78, ci_78), (79, ci_79), (80, ci_80)]) (List.forall_mem_cons.mpr ⟨lx_po hH1 rfl (fun e2 q => cx_to_obj (N := 12) q rfl (otl_0 (mi := fun _ => cx_toI (m0 11)))), (List.forall_mem_cons.mpr ⟨lx_po hH1 rfl (fun e2 q => cx_to_row q cx_anyU), (List.forall_mem_cons.mpr ⟨lx_po hH1 rfl (fun e2 q => cx_to_obj (N := 12) q rfl (otl_77 (mi := upi (fun i => cx_toI (m77 i)) 10 md2) (ml := fun i => cx_toL (m77 i)) hbd77)), (List.forall_mem_cons.mpr ⟨lx_po hH1 rfl (fun e2 q => cx_to_row q cx_anyU), (List.forall_mem_cons.mpr ⟨lx_po hH1 rfl (fun e2 q => cx_to_long q cx_anyL), (List.forall_mem_cons.mpr ⟨lx_po hH1 rfl (fun e2 q => cx_to_long q cx_anyL), (fun _ h => absurd h List.not_mem_nil)⟩)⟩)⟩)⟩)⟩)⟩) (List.all_eq_true.mp tk20x a (List.mem_range.mpr ha11))
  have hth2 : ab_th tS (ab_tys cs) (lw_THn a2) ws2 := lx_done2 (fl := [8616, 8657]) hth1 hM1 hH2 ⟨⟨rfl, rfl, Or.inl rfl, Or.inr rfl, Or.inr rfl, Or.inr rfl, Or.inr rfl, Or.inr rfl, Or.inr rfl, Or.inr rfl, Or.inr rfl, Or.inr rfl, Or.inr rfl, Or.inr rfl, Or.inr rfl, Or.inr rfl, Or.inr rfl, Or.inr rfl, Or.inr rfl, Or.inr rfl, Or.inr rfl, Or.inr rfl, Or.inr rfl, Or.inr rfl, Or.inr rfl, Or.inr rfl, Or.inr rfl, Or.inr rfl, Or.inr rfl, Or.inr rfl, Or.inr rfl, Or.inr rfl, Or.inr rfl, Or.inr rfl, Or.inr rfl, Or.inr rfl, Or.inr rfl, Or.inr rfl, Or.inr rfl, Or.inr rfl, Or.inr rfl, Or.inr rfl, Or.inr rfl, Or.inl rfl, Or.inr rfl, Or.inr rfl, Or.inr rfl, Or.inr rfl, Or.inr rfl, Or.inr rfl, Or.inr rfl, Or.inr rfl, Or.inr rfl, Or.inr rfl, Or.inr rfl, Or.inr rfl, Or.inr rfl, Or.inr rfl, Or.inr rfl, Or.inr rfl, Or.inr rfl, Or.inr rfl, Or.inr rfl, Or.inr rfl, Or.inr rfl, Or.inr rfl, Or.inr rfl, Or.inr rfl, Or.inr rfl, Or.inr rfl, trivial⟩, ⟨rfl, trivial⟩, ⟨rfl, trivial⟩, ⟨rfl, trivial⟩, ⟨rfl, trivial⟩, trivial⟩ hf2 (po := [(119, sq_119 a2), (126, ci_126), (143, ci_143), (144, sq_144 a2), (145, ci_145)]) (List.forall_mem_cons.mpr ⟨lx_po hH2 rfl (fun e2 q => cx_to_obj (N := 68) q rfl (otl_119c (a := a2) (mi := upi (upi (fun i => cx_toI (m119 i)) 0 (Int32.ofInt 0)) 41 ac2) (ml := fun i => cx_toL (m119 i)) (obd_119u hbd119 hac2))), (List.forall_mem_cons.mpr ⟨lx_po hH2 rfl (fun e2 q => cx_to_row q cx_anyU), (List.forall_mem_cons.mpr ⟨lx_po hH2 rfl (fun e2 q => cx_to_row q cx_anyU), (List.forall_mem_cons.mpr ⟨lx_po hH2 rfl (fun e2 q => cx_to_long q (fun i hi => p12U (hpb2 i hi))), (List.forall_mem_cons.mpr ⟨lx_po hH2 rfl (fun e2 q => cx_to_long q cx_anyL), (fun _ h => absurd h List.not_mem_nil)⟩)⟩)⟩)⟩)⟩) (List.all_eq_true.mp (List.all_eq_true.mp tk20m a (List.mem_range.mpr ha11)) a2 (List.mem_range.mpr ha2))
  refine lx_pop F0 (pc' := 1106) (ab_tbo lto_20 _ _ _ (List.mem_of_getElem? (i := 25) rfl)) rfl ?_
  refine lx_goto F0 (pc' := 1810) (ab_tbo lto_20 _ _ _ (List.mem_of_getElem? (i := 26) rfl)) rfl ?_
  have hX2 := cx_heap_far hH1 hf2 rfl
  refine K ls ws2 (lx_Lc hl1 hf2.1) ⟨lw_THn a2, sq_in ha2, hth2⟩ ?_ hlen2
  refine ⟨⟨List.forall_mem_cons.mpr ⟨?_, List.forall_mem_cons.mpr ⟨?_, fun q h => absurd h List.not_mem_nil⟩⟩, List.forall_mem_cons.mpr ⟨?_, List.forall_mem_cons.mpr ⟨?_, List.forall_mem_cons.mpr ⟨?_, List.forall_mem_cons.mpr ⟨?_, List.forall_mem_cons.mpr ⟨?_, fun q h => absurd h List.not_mem_nil⟩⟩⟩⟩⟩, List.forall_mem_cons.mpr ⟨?_, fun q h => absurd h List.not_mem_nil⟩⟩, ?_⟩
  · obtain ⟨ax, ex, wx, cx⟩ := hX2 78 _ rfl
    obtain ⟨ay, ey, wy, cy⟩ := hH2 143 _ rfl
    exact ⟨_, cx_row1 (cx_rowv wy cy), (cx_rowv wx cx).trans (congrArg some (cx_rowM (fun i hi => hEt i hi)))⟩
  · obtain ⟨ax, ex, wx, cx⟩ := hX2 79 _ rfl
    obtain ⟨ay, ey, wy, cy⟩ := hH2 144 _ rfl
    exact ⟨_, cx_row1 (cx_rowvL wy cy), (cx_rowvL wx cx).trans (congrArg some (cx_rowML (fun i hi => hEf2 i hi)))⟩
  · obtain ⟨ax, ex, wx, cx⟩ := hX2 77 _ rfl
    obtain ⟨ay, ey, wy, cy⟩ := hH2 119 _ rfl
    exact ⟨_, cx_fldv wy cy (x := cx_toI (m119 42)) rfl rfl, (cx_fldv wx cx (x := cx_toI (m77 7)) rfl rfl).trans (by rw [hEl])⟩
  · obtain ⟨ax, ex, wx, cx⟩ := hX2 77 _ rfl
    obtain ⟨ay, ey, wy, cy⟩ := hH2 119 _ rfl
    exact ⟨_, cx_fldv wy cy (x := cx_toI (m119 43)) rfl rfl, (cx_fldv wx cx (x := cx_toI (m77 8)) rfl rfl).trans (by rw [hEs])⟩
  · obtain ⟨ax, ex, wx, cx⟩ := hX2 77 _ rfl
    obtain ⟨ay, ey, wy, cy⟩ := hH2 119 _ rfl
    exact ⟨_, cx_fldv wy cy (x := cx_toI (m119 44)) rfl rfl, (cx_fldv wx cx (x := cx_toI (m77 9)) rfl rfl).trans (by rw [hEr])⟩
  · obtain ⟨ax, ex, wx, cx⟩ := hX2 77 _ rfl
    obtain ⟨ay, ey, wy, cy⟩ := hH2 119 _ rfl
    exact ⟨_, cx_fldv wy cy (x := ac2) rfl rfl, (cx_fldv wx cx (x := md2) rfl rfl).trans (by rw [hEm2])⟩
  · obtain ⟨ax, ex, wx, cx⟩ := hX2 77 _ rfl
    obtain ⟨ay, ey, wy, cy⟩ := hH2 119 _ rfl
    exact ⟨_, cx_fldv wy cy (x := cx_toI (m119 45)) rfl rfl, (cx_fldv wx cx (x := cx_toI (m77 11)) rfl rfl).trans (by rw [hEb])⟩
  · obtain ⟨ay, ey, wy, cy⟩ := hH2 119 _ rfl
    exact ⟨_, cx_fldv wy cy (x := cx_toI (m119 45)) rfl rfl, hbo.1, hbo.2⟩
  · obtain ⟨ay, ey, wy, cy⟩ := hH2 119 _ rfl
    exact ⟨_, _, _, cx_fldv wy cy (x := cx_toI (m119 42)) rfl rfl, cx_fldv wy cy (x := cx_toI (m119 43)) rfl rfl, cx_fldv wy cy (x := cx_toI (m119 44)) rfl rfl, hs4e⟩
theorem tk18a : (List.range 11).all (fun a => tr_3 (lw_THn a) [(0, ci_0), (1, ci_1), (77, ci_77), (119, sq_119 a), (126, ci_126), (78, ci_78), (79, ci_79), (143, ci_143), (144, sq_144 a)]) = true := by decide +kernel
theorem tk18x : (List.range 11).all (fun a => (lw_THn a).all (tr_1 (cx_M [0, 1, 77] [5935, 5936, 5937]) (lw_THn a) [(0, ci_0), (1, ci_1), (77, ci_77)])) = true := by decide +kernel
theorem tk18m : (List.range 11).all (fun a => (lw_THn a).all (tr_1 (cx_M [119, 126] [8616, 8658, 8659, 8660]) (lw_THn a) [(119, sq_119 a), (126, ci_126)])) = true := by decide +kernel
theorem tz_18 : ∀ th ∈ lw_THs, lw_TQ 1010 th := by
  intro th hmem p l e s m below meth c D A Q cs tS b L i0 cells slots xs iv ws ls F0 hcs hiv hL hL2 hl hth hEQ hlen K
  obtain ⟨a, ha11, hthE⟩ := sq_of hmem
  subst hthE
  have h3 := tr_3_ok (List.all_eq_true.mp tk18a a (List.mem_range.mpr ha11)) hth
  obtain ⟨a0, e0, w0, t0⟩ := h3 _ (List.mem_of_getElem? (i := 0) rfl)
  obtain ⟨a1, e1, w1, t1⟩ := h3 _ (List.mem_of_getElem? (i := 1) rfl)
  obtain ⟨a77, e77, w77, t77⟩ := h3 _ (List.mem_of_getElem? (i := 2) rfl)
  obtain ⟨a119, e119, w119, t119⟩ := h3 _ (List.mem_of_getElem? (i := 3) rfl)
  obtain ⟨a126, e126, w126, t126⟩ := h3 _ (List.mem_of_getElem? (i := 4) rfl)
  obtain ⟨a78, e78, w78, t78⟩ := h3 _ (List.mem_of_getElem? (i := 5) rfl)
  obtain ⟨a79, e79, w79, t79⟩ := h3 _ (List.mem_of_getElem? (i := 6) rfl)
  obtain ⟨a143, e143, w143, t143⟩ := h3 _ (List.mem_of_getElem? (i := 7) rfl)
  obtain ⟨a144, e144, w144, t144⟩ := h3 _ (List.mem_of_getElem? (i := 8) rfl)
  obtain ⟨m0, c0, b0⟩ := cx_of_obj (ci := 10) (N := 12) (tvs := ots_0) t0
  obtain ⟨r1, c1, u1⟩ := cx_of_row (t := 0) (N := 7) (Or.inl rfl) t1
  obtain ⟨m77, c77, b77⟩ := cx_of_obj (ci := 6) (N := 12) (tvs := ots_77) t77
  have hbd77 := obd_77_of b77
  obtain ⟨m119, c119, b119⟩ := cx_of_obj (ci := 11) (N := 68) (tvs := ots_119c a) t119
  have hbd119 := obd_119c_of b119
  obtain ⟨r2, c126, u126⟩ := cx_of_row (t := 0) (N := 7) (Or.inl rfl) t126
  obtain ⟨t, c78, u78⟩ := cx_of_row (t := 0) (N := 32) (Or.inl rfl) t78
  obtain ⟨f, c79, u79⟩ := cx_of_long (N := 32) t79
  obtain ⟨tm, c143, u143⟩ := cx_of_row (t := 0) (N := 32) (Or.inl rfl) t143
  obtain ⟨fm, c144, u144⟩ := cx_of_long (N := 32) t144
  have hX : cx_heap tS cs (h_xb (cx_toI (m0 11)) r1 (cx_toL (m77 6)) (cx_toI (m77 7)) (cx_toI (m77 8)) (cx_toI (m77 9)) (cx_toI (m77 10)) (cx_toI (m77 11))) ws := cx_heap_of (List.forall_mem_cons.mpr ⟨⟨a0, e0, w0, c0⟩, (List.forall_mem_cons.mpr ⟨⟨a1, e1, w1, c1⟩, (List.forall_mem_cons.mpr ⟨⟨a77, e77, w77, c77⟩, (fun _ h => absurd h List.not_mem_nil)⟩)⟩)⟩)
  have hM : cx_heap tS cs (h_mr (fun i => cx_toI (m119 i)) (fun i => cx_toL (m119 i)) r2) ws := cx_heap_of (List.forall_mem_cons.mpr ⟨⟨a119, e119, w119, c119⟩, (List.forall_mem_cons.mpr ⟨⟨a126, e126, w126, c126⟩, (fun _ h => absurd h List.not_mem_nil)⟩)⟩)
  have hE : cx_heap tS cs ([(78, .inr (.inl (0, 32, t))), (79, .inr (.inr (.inl (32, f)))), (143, .inr (.inl (0, 32, tm))), (144, .inr (.inr (.inl (32, fm))))]) ws := cx_heap_of (List.forall_mem_cons.mpr ⟨⟨a78, e78, w78, c78⟩, (List.forall_mem_cons.mpr ⟨⟨a79, e79, w79, c79⟩, (List.forall_mem_cons.mpr ⟨⟨a143, e143, w143, c143⟩, (List.forall_mem_cons.mpr ⟨⟨a144, e144, w144, c144⟩, (fun _ h => absurd h List.not_mem_nil)⟩)⟩)⟩)⟩)
  have ha0 : (ws.map (·.1))[0]? = some a0 := by rw [List.getElem?_map, w0]; rfl
  have ha119 : (ws.map (·.1))[119]? = some a119 := by rw [List.getElem?_map, w119]; rfl
  have hEt : ∀ i : Nat, i < 32 → t i = tm i := by
    obtain ⟨v, q2, q1⟩ := hEQ.1.1 ([143], 78) (List.mem_of_getElem? (i := 0) rfl)
    have q1 : rl_row ws 78 = some v := q1
    have q2 : rl_rows ws [143] = some v := q2
    rw [cx_rowv w78 c78] at q1
    rw [cx_row1 (cx_rowv w143 c143)] at q2
    exact cx_rowE (Option.some.inj (q1.trans q2.symm))
  have hEf : ∀ i : Nat, i < 32 → f i = fm i := by
    obtain ⟨v, q2, q1⟩ := hEQ.1.1 ([144], 79) (List.mem_of_getElem? (i := 1) rfl)
    have q1 : rl_row ws 79 = some v := q1
    have q2 : rl_rows ws [144] = some v := q2
    rw [cx_rowvL w79 c79] at q1
    rw [cx_row1 (cx_rowvL w144 c144)] at q2
    exact cx_rowEL (Option.some.inj (q1.trans q2.symm))
  have hEl : cx_toI (m77 7) = cx_toI (m119 42) := by
    obtain ⟨v, q2, q1⟩ := hEQ.1.2.1 ((119, 42), (77, 7)) (List.mem_of_getElem? (i := 0) rfl)
    have q1 : rl_fld ws (77, 7) = some v := q1
    have q2 : rl_fld ws (119, 42) = some v := q2
    rw [cx_fldv w77 c77 (x := cx_toI (m77 7)) rfl rfl] at q1
    rw [cx_fldv w119 c119 (x := cx_toI (m119 42)) rfl rfl] at q2
    exact Value.int.inj (Option.some.inj (q1.trans q2.symm))
  have hEs : cx_toI (m77 8) = cx_toI (m119 43) := by
    obtain ⟨v, q2, q1⟩ := hEQ.1.2.1 ((119, 43), (77, 8)) (List.mem_of_getElem? (i := 1) rfl)
    have q1 : rl_fld ws (77, 8) = some v := q1
    have q2 : rl_fld ws (119, 43) = some v := q2
    rw [cx_fldv w77 c77 (x := cx_toI (m77 8)) rfl rfl] at q1
    rw [cx_fldv w119 c119 (x := cx_toI (m119 43)) rfl rfl] at q2
    exact Value.int.inj (Option.some.inj (q1.trans q2.symm))
  have hEr : cx_toI (m77 9) = cx_toI (m119 44) := by
    obtain ⟨v, q2, q1⟩ := hEQ.1.2.1 ((119, 44), (77, 9)) (List.mem_of_getElem? (i := 2) rfl)
    have q1 : rl_fld ws (77, 9) = some v := q1
    have q2 : rl_fld ws (119, 44) = some v := q2
    rw [cx_fldv w77 c77 (x := cx_toI (m77 9)) rfl rfl] at q1
    rw [cx_fldv w119 c119 (x := cx_toI (m119 44)) rfl rfl] at q2
    exact Value.int.inj (Option.some.inj (q1.trans q2.symm))
  have hEm : cx_toI (m77 10) = cx_toI (m119 41) := by
    obtain ⟨v, q2, q1⟩ := hEQ.1.2.1 ((119, 41), (77, 10)) (List.mem_of_getElem? (i := 3) rfl)
    have q1 : rl_fld ws (77, 10) = some v := q1
    have q2 : rl_fld ws (119, 41) = some v := q2
    rw [cx_fldv w77 c77 (x := cx_toI (m77 10)) rfl rfl] at q1
    rw [cx_fldv w119 c119 (x := cx_toI (m119 41)) rfl rfl] at q2
    exact Value.int.inj (Option.some.inj (q1.trans q2.symm))
  have hEb : cx_toI (m77 11) = cx_toI (m119 45) := by
    obtain ⟨v, q2, q1⟩ := hEQ.1.2.1 ((119, 45), (77, 11)) (List.mem_of_getElem? (i := 4) rfl)
    have q1 : rl_fld ws (77, 11) = some v := q1
    have q2 : rl_fld ws (119, 45) = some v := q2
    rw [cx_fldv w77 c77 (x := cx_toI (m77 11)) rfl rfl] at q1
    rw [cx_fldv w119 c119 (x := cx_toI (m119 45)) rfl rfl] at q2
    exact Value.int.inj (Option.some.inj (q1.trans q2.symm))
  have hac : (Int.ofNat a) ≤ (cx_toI (m119 41)).toInt ∧ (cx_toI (m119 41)).toInt ≤ (Int.ofNat a) := hbd119.2.2.2.2.2.2.2.2.2.1
  have hac : (cx_toI (m119 41)).toInt = (a : Int) := by have h1 : (a : Int) ≤ (cx_toI (m119 41)).toInt := hac.1; have h2 : (cx_toI (m119 41)).toInt ≤ (a : Int) := hac.2; omega
  have hl4 : 0 ≤ (cx_toI (m119 42)).toInt ∧ (cx_toI (m119 42)).toInt ≤ 4 := hbd119.2.2.2.2.2.2.2.2.2.2.1
  have hs4 : 0 ≤ (cx_toI (m119 43)).toInt ∧ (cx_toI (m119 43)).toInt ≤ 4 := hbd119.2.2.2.2.2.2.2.2.2.2.2.1
  have hr4 : 0 ≤ (cx_toI (m119 44)).toInt ∧ (cx_toI (m119 44)).toInt ≤ 4 := hbd119.2.2.2.2.2.2.2.2.2.2.2.2.1
  obtain ⟨hbo, hs4e⟩ : (0 ≤ (cx_toI (m119 45)).toInt ∧ (cx_toI (m119 45)).toInt ≤ 31) ∧ (cx_toI (m119 42)).toInt + (cx_toI (m119 43)).toInt + (cx_toI (m119 44)).toInt = 4 := by
    obtain ⟨x, q1, q2, q3⟩ := hEQ.1.2.2 ((119, 45), 0, 31) (List.mem_of_getElem? (i := 0) rfl)
    have q1 : rl_fld ws (119, 45) = some (.int x) := q1
    rw [cx_fldv w119 c119 (x := cx_toI (m119 45)) rfl rfl] at q1
    obtain ⟨x1, y1, z1, p1, p2, p3, p4⟩ := hEQ.2
    rw [cx_fldv w119 c119 (x := cx_toI (m119 42)) rfl rfl] at p1
    rw [cx_fldv w119 c119 (x := cx_toI (m119 43)) rfl rfl] at p2
    rw [cx_fldv w119 c119 (x := cx_toI (m119 44)) rfl rfl] at p3
    rw [Value.int.inj (Option.some.inj q1), Value.int.inj (Option.some.inj p1), Value.int.inj (Option.some.inj p2), Value.int.inj (Option.some.inj p3)]
    exact ⟨⟨q2, q3⟩, p4⟩
  have hpb : ∀ x : Nat, x < 32 → 0 ≤ (fm x).toInt ∧ (fm x).toInt ≤ (1000000 * 12 ^ a : Int) := fun x hx => p12o (u144 x hx)
  obtain ⟨fs0, e0q, -⟩ := id c0
  subst e0q
  refine lx_x F0 hl (pc' := 1011) (ab_tbo lto_18 _ _ _ (List.mem_of_getElem? (i := 0) rfl)) rfl ha0 ?_
  refine lx_arg F0 hiv hL hL2 hl (z := 1) (pc' := 1017) rfl (ab_tbo lto_18 _ _ _ (List.mem_of_getElem? (i := 1) rfl)) (ab_tbo lto_18 _ _ _ (List.mem_of_getElem? (i := 2) rfl)) (ab_tbo lto_18 _ _ _ (List.mem_of_getElem? (i := 3) rfl)) (ab_tbo lto_18 _ _ _ (List.mem_of_getElem? (i := 4) rfl)) (ab_tbo lto_18 _ _ _ (List.mem_of_getElem? (i := 5) rfl)) rfl ?_
  refine lx_arg F0 hiv hL hL2 hl (z := 2) (pc' := 1023) rfl (ab_tbo lto_18 _ _ _ (List.mem_of_getElem? (i := 6) rfl)) (ab_tbo lto_18 _ _ _ (List.mem_of_getElem? (i := 7) rfl)) (ab_tbo lto_18 _ _ _ (List.mem_of_getElem? (i := 8) rfl)) (ab_tbo lto_18 _ _ _ (List.mem_of_getElem? (i := 9) rfl)) (ab_tbo lto_18 _ _ _ (List.mem_of_getElem? (i := 10) rfl)) rfl ?_
  refine lx_arg F0 hiv hL hL2 hl (z := 3) (pc' := 1029) rfl (ab_tbo lto_18 _ _ _ (List.mem_of_getElem? (i := 11) rfl)) (ab_tbo lto_18 _ _ _ (List.mem_of_getElem? (i := 12) rfl)) (ab_tbo lto_18 _ _ _ (List.mem_of_getElem? (i := 13) rfl)) (ab_tbo lto_18 _ _ _ (List.mem_of_getElem? (i := 14) rfl)) (ab_tbo lto_18 _ _ _ (List.mem_of_getElem? (i := 15) rfl)) rfl ?_
  obtain ⟨d1, hd1, Ct1⟩ := ct_drift (dy := cx_toI (m0 11)) (r := r1) (bf := cx_toL (m77 6)) (dl := cx_toI (m77 7)) (ds := cx_toI (m77 8)) (dr := cx_toI (m77 9)) (md := cx_toI (m77 10)) (bo := cx_toI (m77 11)) (l := xs (i0 + 1)) (s := xs (i0 + 2)) (q := xs (i0 + 3)) l D cs tS ws [.ref a0, .int (xs (i0 + 1)), .int (xs (i0 + 2)), .int (xs (i0 + 3))] hX ⟨⟨a0, ha0, rfl⟩, rfl, rfl, rfl, trivial⟩
  refine lx_call F0 hcs hl (pc' := 1032) (q := 146) (n := 3) (ci := 10) (As := [.int (xs (i0 + 1)), .int (xs (i0 + 2)), .int (xs (i0 + 3))]) (stk := []) (ab_tbo lto_18 _ _ _ (List.mem_of_getElem? (i := 16) rfl)) rfl rfl rfl w0 (by decide) ⟨d1, by omega, Ct1⟩ rfl (fun rv ws1 hp1 => ?_)
  obtain ⟨v, h1, ⟨z, rr, lx2, sx2, qx2, rfl, rfl, hdx⟩, hk1, hf1, hH1, hrv⟩ := hp1
  obtain rfl : rv = some (.int z) := by
    cases rv with
    | none => exact hrv.elim
    | some y => exact congrArg some hrv
  show ab_W p l e room_1 s m #[Value.ref b] below meth c D vwCl A Q cells slots 1032 ls [.int z] ws1
  refine lx_pop F0 (pc' := 1033) (ab_tbo lto_18 _ _ _ (List.mem_of_getElem? (i := 17) rfl)) rfl ?_
  have hl1 := lx_Lc hl hf1.1
  have hM1 := cx_heap_far hM hf1 rfl
  have ha119b : (ws1.map (·.1))[119]? = some a119 := by rw [hf1.1]; exact ha119
  refine lx_m F0 hl1 (pc' := 1034) (ab_tbo lto_18 _ _ _ (List.mem_of_getElem? (i := 18) rfl)) rfl ha119b ?_
  refine lx_arg F0 hiv hL hL2 hl1 (z := 1) (pc' := 1040) rfl (ab_tbo lto_18 _ _ _ (List.mem_of_getElem? (i := 19) rfl)) (ab_tbo lto_18 _ _ _ (List.mem_of_getElem? (i := 20) rfl)) (ab_tbo lto_18 _ _ _ (List.mem_of_getElem? (i := 21) rfl)) (ab_tbo lto_18 _ _ _ (List.mem_of_getElem? (i := 22) rfl)) (ab_tbo lto_18 _ _ _ (List.mem_of_getElem? (i := 23) rfl)) rfl ?_
  refine lx_arg F0 hiv hL hL2 hl1 (z := 2) (pc' := 1046) rfl (ab_tbo lto_18 _ _ _ (List.mem_of_getElem? (i := 24) rfl)) (ab_tbo lto_18 _ _ _ (List.mem_of_getElem? (i := 25) rfl)) (ab_tbo lto_18 _ _ _ (List.mem_of_getElem? (i := 26) rfl)) (ab_tbo lto_18 _ _ _ (List.mem_of_getElem? (i := 27) rfl)) (ab_tbo lto_18 _ _ _ (List.mem_of_getElem? (i := 28) rfl)) rfl ?_
  refine lx_arg F0 hiv hL hL2 hl1 (z := 3) (pc' := 1052) rfl (ab_tbo lto_18 _ _ _ (List.mem_of_getElem? (i := 29) rfl)) (ab_tbo lto_18 _ _ _ (List.mem_of_getElem? (i := 30) rfl)) (ab_tbo lto_18 _ _ _ (List.mem_of_getElem? (i := 31) rfl)) (ab_tbo lto_18 _ _ _ (List.mem_of_getElem? (i := 32) rfl)) (ab_tbo lto_18 _ _ _ (List.mem_of_getElem? (i := 33) rfl)) rfl ?_
  obtain ⟨a119c, e119c, w119c, c119c⟩ := hM1 119 _ rfl
  obtain ⟨fs119c, e119d, -⟩ := id c119c
  subst e119d
  have eadd : a119c = a119 := ab_ad_get ha119b w119c
  rw [eadd] at w119c
  obtain ⟨d2, hd2, Ct2⟩ := ct_mdrift (mi := fun i => cx_toI (m119 i)) (ml := fun i => cx_toL (m119 i)) (r := r2) (l := xs (i0 + 1)) (s := xs (i0 + 2)) (q := xs (i0 + 3)) l D cs tS ws1 [.ref a119, .int (xs (i0 + 1)), .int (xs (i0 + 2)), .int (xs (i0 + 3))] hM1 ⟨⟨a119, ha119b, rfl⟩, rfl, rfl, rfl, trivial⟩
  refine lx_call F0 hcs hl1 (pc' := 1055) (q := 226) (n := 3) (ci := 11) (As := [.int (xs (i0 + 1)), .int (xs (i0 + 2)), .int (xs (i0 + 3))]) (stk := []) (ab_tbo lto_18 _ _ _ (List.mem_of_getElem? (i := 34) rfl)) rfl rfl rfl w119c (by first | decide | exact (by decide : (1 : Nat) ≤ 8)) ⟨d2, by omega, Ct2⟩ rfl (fun rv2 ws2 hp2 => ?_)
  obtain ⟨v2, h2, ⟨z2, rr2, lm2, sm2, qm2, rfl, rfl, hdm⟩, hk2, hf2, hH2, hrv2⟩ := hp2
  obtain rfl : rv2 = some (.int z2) := by
    cases rv2 with
    | none => exact hrv2.elim
    | some y => exact congrArg some hrv2
  show ab_W p l e room_1 s m #[Value.ref b] below meth c D vwCl A Q cells slots 1055 ls [.int z2] ws2
  have hdd : z = z2 ∧ lx2 = lm2 ∧ sx2 = sm2 ∧ qx2 = qm2 ∧ (0 ≤ lm2.toInt ∧ lm2.toInt ≤ 4) ∧ (0 ≤ sm2.toInt ∧ sm2.toInt ≤ 4) ∧ (0 ≤ qm2.toInt ∧ qm2.toInt ≤ 4) ∧ lm2.toInt + sm2.toInt + qm2.toInt = 4 := by
    rw [hEl, hEs, hEr] at hdx
    unfold drA at hdx hdm
    rcases hdx with ⟨a1, a2, a3, a4, a5⟩ | ⟨a0, a1, a2, a3, a4, a5⟩ | ⟨a0, a1, a2, a3, a4, a5⟩ | ⟨a0, a1, a2, a3, a4, a5⟩ <;> rcases hdm with ⟨c1, c2, c3, c4, c5⟩ | ⟨c0, c1, c2, c3, c4, c5⟩ | ⟨c0, c1, c2, c3, c4, c5⟩ | ⟨c0, c1, c2, c3, c4, c5⟩ <;> first | (exfalso; omega) | skip
    · rw [a3, a4, a5, c3, c4, c5]; exact ⟨cx_i32 (by omega), rfl, rfl, rfl, hl4, hs4, hr4, hs4e⟩
    · rw [a3, a4, a5, c3, c4, c5]; exact ⟨cx_i32 (by omega), rfl, rfl, rfl, hl4, hs4, hr4, hs4e⟩
    · rw [a3, a4, a5, c3, c4, c5]; exact ⟨cx_i32 (by omega), rfl, rfl, rfl, hl4, hs4, hr4, hs4e⟩
    · rw [a3, a4, a5, c3, c4, c5]; exact ⟨cx_i32 (by omega), rfl, rfl, rfl, a0.1, a0.2.1, a0.2.2, a1⟩
  obtain ⟨hfin, hL9, hS9, hR9, hl9, hs9, hr9, hsum9⟩ := hdd
  have ha2 := ha11
  have hlen1 : ws1.length = 165 := by have := congrArg List.length hf1.1; simpa [hlen] using this
  have hlen2 : ws2.length = 165 := by have := congrArg List.length hf2.1; simpa [hlen1] using this
  have hth1 : ab_th tS (ab_tys cs) (lw_THn a) ws1 := lx_done (fl := [5935, 5936, 5937]) hth hX hH1 ⟨⟨rfl, rfl, Or.inr rfl, Or.inr rfl, Or.inr rfl, Or.inr rfl, Or.inr rfl, Or.inr rfl, Or.inr rfl, Or.inr rfl, Or.inr rfl, Or.inr rfl, Or.inr rfl, Or.inr rfl, trivial⟩, ⟨rfl, trivial⟩, ⟨rfl, rfl, Or.inr rfl, Or.inr rfl, Or.inr rfl, Or.inr rfl, Or.inr rfl, Or.inr rfl, Or.inr rfl, Or.inl rfl, Or.inl rfl, Or.inl rfl, Or.inr rfl, Or.inr rfl, trivial⟩, trivial⟩ hf1 (po := [(0, ci_0), (1, ci_1), (77, ci_77)]) (List.forall_mem_cons.mpr ⟨lx_po hH1 rfl (fun e2 q => cx_to_obj (N := 12) q rfl (otl_0 (mi := fun _ => cx_toI (m0 11)))), (List.forall_mem_cons.mpr ⟨lx_po hH1 rfl (fun e2 q => cx_to_row q cx_anyU), (List.forall_mem_cons.mpr ⟨lx_po hH1 rfl (fun e2 q => cx_to_obj (N := 12) q rfl (otl_77 (mi := upi (upi (upi (fun i => cx_toI (m77 i)) 7 lx2) 8 sx2) 9 qx2) (ml := fun i => cx_toL (m77 i)) hbd77)), (fun _ h => absurd h List.not_mem_nil)⟩)⟩)⟩) (List.all_eq_true.mp tk18x a (List.mem_range.mpr ha11))
  have hth2 : ab_th tS (ab_tys cs) (lw_THn a) ws2 := lx_done2 (fl := [8616, 8658, 8659, 8660]) hth1 hM1 hH2 ⟨⟨rfl, rfl, Or.inl rfl, Or.inr rfl, Or.inr rfl, Or.inr rfl, Or.inr rfl, Or.inr rfl, Or.inr rfl, Or.inr rfl, Or.inr rfl, Or.inr rfl, Or.inr rfl, Or.inr rfl, Or.inr rfl, Or.inr rfl, Or.inr rfl, Or.inr rfl, Or.inr rfl, Or.inr rfl, Or.inr rfl, Or.inr rfl, Or.inr rfl, Or.inr rfl, Or.inr rfl, Or.inr rfl, Or.inr rfl, Or.inr rfl, Or.inr rfl, Or.inr rfl, Or.inr rfl, Or.inr rfl, Or.inr rfl, Or.inr rfl, Or.inr rfl, Or.inr rfl, Or.inr rfl, Or.inr rfl, Or.inr rfl, Or.inr rfl, Or.inr rfl, Or.inr rfl, Or.inr rfl, Or.inr rfl, Or.inl rfl, Or.inl rfl, Or.inl rfl, Or.inr rfl, Or.inr rfl, Or.inr rfl, Or.inr rfl, Or.inr rfl, Or.inr rfl, Or.inr rfl, Or.inr rfl, Or.inr rfl, Or.inr rfl, Or.inr rfl, Or.inr rfl, Or.inr rfl, Or.inr rfl, Or.inr rfl, Or.inr rfl, Or.inr rfl, Or.inr rfl, Or.inr rfl, Or.inr rfl, Or.inr rfl, Or.inr rfl, Or.inr rfl, trivial⟩, ⟨rfl, trivial⟩, trivial⟩ hf2 (po := [(119, sq_119 a), (126, ci_126)]) (List.forall_mem_cons.mpr ⟨lx_po hH2 rfl (fun e2 q => cx_to_obj (N := 68) q rfl (otl_119c (a := a) (mi := upi (upi (upi (upi (fun i => cx_toI (m119 i)) 0 (Int32.ofInt 0)) 42 lm2) 43 sm2) 44 qm2) (ml := fun i => cx_toL (m119 i)) ⟨hbd119.1, hbd119.2.1, hbd119.2.2.1, hbd119.2.2.2.1, hbd119.2.2.2.2.1, hbd119.2.2.2.2.2.1, hbd119.2.2.2.2.2.2.1, hbd119.2.2.2.2.2.2.2.1, hbd119.2.2.2.2.2.2.2.2.1, hbd119.2.2.2.2.2.2.2.2.2.1, hl9, hs9, hr9, hbd119.2.2.2.2.2.2.2.2.2.2.2.2.2.1, hbd119.2.2.2.2.2.2.2.2.2.2.2.2.2.2⟩)), (List.forall_mem_cons.mpr ⟨lx_po hH2 rfl (fun e2 q => cx_to_row q cx_anyU), (fun _ h => absurd h List.not_mem_nil)⟩)⟩) (List.all_eq_true.mp tk18m a (List.mem_range.mpr ha11))
  refine lx_pop F0 (pc' := 1056) (ab_tbo lto_18 _ _ _ (List.mem_of_getElem? (i := 35) rfl)) rfl ?_
  refine lx_goto F0 (pc' := 1810) (ab_tbo lto_18 _ _ _ (List.mem_of_getElem? (i := 36) rfl)) rfl ?_
  have hX2 := cx_heap_far hH1 hf2 rfl
  have hE2 := cx_heap_far (cx_heap_far hE hf1 rfl) hf2 rfl
  refine K ls ws2 (lx_Lc hl1 hf2.1) ⟨lw_THn a, sq_in ha2, hth2⟩ ?_ hlen2
  refine ⟨⟨List.forall_mem_cons.mpr ⟨?_, List.forall_mem_cons.mpr ⟨?_, fun q h => absurd h List.not_mem_nil⟩⟩, List.forall_mem_cons.mpr ⟨?_, List.forall_mem_cons.mpr ⟨?_, List.forall_mem_cons.mpr ⟨?_, List.forall_mem_cons.mpr ⟨?_, List.forall_mem_cons.mpr ⟨?_, fun q h => absurd h List.not_mem_nil⟩⟩⟩⟩⟩, List.forall_mem_cons.mpr ⟨?_, fun q h => absurd h List.not_mem_nil⟩⟩, ?_⟩
  · obtain ⟨ax, ex, wx, cx⟩ := hE2 78 _ rfl
    obtain ⟨ay, ey, wy, cy⟩ := hE2 143 _ rfl
    exact ⟨_, cx_row1 (cx_rowv wy cy), (cx_rowv wx cx).trans (congrArg some (cx_rowM (fun i hi => hEt i hi)))⟩
  · obtain ⟨ax, ex, wx, cx⟩ := hE2 79 _ rfl
    obtain ⟨ay, ey, wy, cy⟩ := hE2 144 _ rfl
    exact ⟨_, cx_row1 (cx_rowvL wy cy), (cx_rowvL wx cx).trans (congrArg some (cx_rowML (fun i hi => hEf i hi)))⟩
  · obtain ⟨ax, ex, wx, cx⟩ := hX2 77 _ rfl
    obtain ⟨ay, ey, wy, cy⟩ := hH2 119 _ rfl
    exact ⟨_, cx_fldv wy cy (x := lm2) rfl rfl, (cx_fldv wx cx (x := lx2) rfl rfl).trans (by rw [hL9])⟩
  · obtain ⟨ax, ex, wx, cx⟩ := hX2 77 _ rfl
    obtain ⟨ay, ey, wy, cy⟩ := hH2 119 _ rfl
    exact ⟨_, cx_fldv wy cy (x := sm2) rfl rfl, (cx_fldv wx cx (x := sx2) rfl rfl).trans (by rw [hS9])⟩
  · obtain ⟨ax, ex, wx, cx⟩ := hX2 77 _ rfl
    obtain ⟨ay, ey, wy, cy⟩ := hH2 119 _ rfl
    exact ⟨_, cx_fldv wy cy (x := qm2) rfl rfl, (cx_fldv wx cx (x := qx2) rfl rfl).trans (by rw [hR9])⟩
  · obtain ⟨ax, ex, wx, cx⟩ := hX2 77 _ rfl
    obtain ⟨ay, ey, wy, cy⟩ := hH2 119 _ rfl
    exact ⟨_, cx_fldv wy cy (x := cx_toI (m119 41)) rfl rfl, (cx_fldv wx cx (x := cx_toI (m77 10)) rfl rfl).trans (by rw [hEm])⟩
  · obtain ⟨ax, ex, wx, cx⟩ := hX2 77 _ rfl
    obtain ⟨ay, ey, wy, cy⟩ := hH2 119 _ rfl
    exact ⟨_, cx_fldv wy cy (x := cx_toI (m119 45)) rfl rfl, (cx_fldv wx cx (x := cx_toI (m77 11)) rfl rfl).trans (by rw [hEb])⟩
  · obtain ⟨ay, ey, wy, cy⟩ := hH2 119 _ rfl
    exact ⟨_, cx_fldv wy cy (x := cx_toI (m119 45)) rfl rfl, hbo.1, hbo.2⟩
  · obtain ⟨ay, ey, wy, cy⟩ := hH2 119 _ rfl
    exact ⟨_, _, _, cx_fldv wy cy (x := lm2) rfl rfl, cx_fldv wy cy (x := sm2) rfl rfl, cx_fldv wy cy (x := qm2) rfl rfl, hsum9⟩
theorem tk22a : (List.range 11).all (fun a => tr_3 (lw_THn a) [(0, ci_0), (1, ci_1), (77, ci_77), (119, sq_119 a), (126, ci_126), (78, ci_78), (79, ci_79), (143, ci_143), (144, sq_144 a)]) = true := by decide +kernel
theorem tk22x : (List.range 11).all (fun a => (lw_THn a).all (tr_1 (cx_M [0, 1, 77] [5939]) (lw_THn a) [(0, ci_0), (1, ci_1), (77, ci_77)])) = true := by decide +kernel
theorem tk22m : (List.range 11).all (fun a => (lw_THn a).all (tr_1 (cx_M [119, 126] [8616, 8661]) (lw_THn a) [(119, sq_119 a), (126, ci_126)])) = true := by decide +kernel
theorem tz_22 : ∀ th ∈ lw_THs, lw_TQ 1165 th := by
  intro th hmem p l e s m below meth c D A Q cs tS b L i0 cells slots xs iv ws ls F0 hcs hiv hL hL2 hl hth hEQ hlen K
  obtain ⟨a, ha11, hthE⟩ := sq_of hmem
  subst hthE
  have h3 := tr_3_ok (List.all_eq_true.mp tk22a a (List.mem_range.mpr ha11)) hth
  obtain ⟨a0, e0, w0, t0⟩ := h3 _ (List.mem_of_getElem? (i := 0) rfl)
  obtain ⟨a1, e1, w1, t1⟩ := h3 _ (List.mem_of_getElem? (i := 1) rfl)
  obtain ⟨a77, e77, w77, t77⟩ := h3 _ (List.mem_of_getElem? (i := 2) rfl)
  obtain ⟨a119, e119, w119, t119⟩ := h3 _ (List.mem_of_getElem? (i := 3) rfl)
  obtain ⟨a126, e126, w126, t126⟩ := h3 _ (List.mem_of_getElem? (i := 4) rfl)
  obtain ⟨a78, e78, w78, t78⟩ := h3 _ (List.mem_of_getElem? (i := 5) rfl)
  obtain ⟨a79, e79, w79, t79⟩ := h3 _ (List.mem_of_getElem? (i := 6) rfl)
  obtain ⟨a143, e143, w143, t143⟩ := h3 _ (List.mem_of_getElem? (i := 7) rfl)
  obtain ⟨a144, e144, w144, t144⟩ := h3 _ (List.mem_of_getElem? (i := 8) rfl)
  obtain ⟨m0, c0, b0⟩ := cx_of_obj (ci := 10) (N := 12) (tvs := ots_0) t0
  obtain ⟨r1, c1, u1⟩ := cx_of_row (t := 0) (N := 7) (Or.inl rfl) t1
  obtain ⟨m77, c77, b77⟩ := cx_of_obj (ci := 6) (N := 12) (tvs := ots_77) t77
  have hbd77 := obd_77_of b77
  obtain ⟨m119, c119, b119⟩ := cx_of_obj (ci := 11) (N := 68) (tvs := ots_119c a) t119
  have hbd119 := obd_119c_of b119
  obtain ⟨r2, c126, u126⟩ := cx_of_row (t := 0) (N := 7) (Or.inl rfl) t126
  obtain ⟨t, c78, u78⟩ := cx_of_row (t := 0) (N := 32) (Or.inl rfl) t78
  obtain ⟨f, c79, u79⟩ := cx_of_long (N := 32) t79
  obtain ⟨tm, c143, u143⟩ := cx_of_row (t := 0) (N := 32) (Or.inl rfl) t143
  obtain ⟨fm, c144, u144⟩ := cx_of_long (N := 32) t144
  have hX : cx_heap tS cs (h_xb (cx_toI (m0 11)) r1 (cx_toL (m77 6)) (cx_toI (m77 7)) (cx_toI (m77 8)) (cx_toI (m77 9)) (cx_toI (m77 10)) (cx_toI (m77 11))) ws := cx_heap_of (List.forall_mem_cons.mpr ⟨⟨a0, e0, w0, c0⟩, (List.forall_mem_cons.mpr ⟨⟨a1, e1, w1, c1⟩, (List.forall_mem_cons.mpr ⟨⟨a77, e77, w77, c77⟩, (fun _ h => absurd h List.not_mem_nil)⟩)⟩)⟩)
  have hM : cx_heap tS cs (h_mr (fun i => cx_toI (m119 i)) (fun i => cx_toL (m119 i)) r2) ws := cx_heap_of (List.forall_mem_cons.mpr ⟨⟨a119, e119, w119, c119⟩, (List.forall_mem_cons.mpr ⟨⟨a126, e126, w126, c126⟩, (fun _ h => absurd h List.not_mem_nil)⟩)⟩)
  have hE : cx_heap tS cs ([(78, .inr (.inl (0, 32, t))), (79, .inr (.inr (.inl (32, f)))), (143, .inr (.inl (0, 32, tm))), (144, .inr (.inr (.inl (32, fm))))]) ws := cx_heap_of (List.forall_mem_cons.mpr ⟨⟨a78, e78, w78, c78⟩, (List.forall_mem_cons.mpr ⟨⟨a79, e79, w79, c79⟩, (List.forall_mem_cons.mpr ⟨⟨a143, e143, w143, c143⟩, (List.forall_mem_cons.mpr ⟨⟨a144, e144, w144, c144⟩, (fun _ h => absurd h List.not_mem_nil)⟩)⟩)⟩)⟩)
  have ha0 : (ws.map (·.1))[0]? = some a0 := by rw [List.getElem?_map, w0]; rfl
  have ha119 : (ws.map (·.1))[119]? = some a119 := by rw [List.getElem?_map, w119]; rfl
  have hEt : ∀ i : Nat, i < 32 → t i = tm i := by
    obtain ⟨v, q2, q1⟩ := hEQ.1.1 ([143], 78) (List.mem_of_getElem? (i := 0) rfl)
    have q1 : rl_row ws 78 = some v := q1
    have q2 : rl_rows ws [143] = some v := q2
    rw [cx_rowv w78 c78] at q1
    rw [cx_row1 (cx_rowv w143 c143)] at q2
    exact cx_rowE (Option.some.inj (q1.trans q2.symm))
  have hEf : ∀ i : Nat, i < 32 → f i = fm i := by
    obtain ⟨v, q2, q1⟩ := hEQ.1.1 ([144], 79) (List.mem_of_getElem? (i := 1) rfl)
    have q1 : rl_row ws 79 = some v := q1
    have q2 : rl_rows ws [144] = some v := q2
    rw [cx_rowvL w79 c79] at q1
    rw [cx_row1 (cx_rowvL w144 c144)] at q2
    exact cx_rowEL (Option.some.inj (q1.trans q2.symm))
  have hEl : cx_toI (m77 7) = cx_toI (m119 42) := by
    obtain ⟨v, q2, q1⟩ := hEQ.1.2.1 ((119, 42), (77, 7)) (List.mem_of_getElem? (i := 0) rfl)
    have q1 : rl_fld ws (77, 7) = some v := q1
    have q2 : rl_fld ws (119, 42) = some v := q2
    rw [cx_fldv w77 c77 (x := cx_toI (m77 7)) rfl rfl] at q1
    rw [cx_fldv w119 c119 (x := cx_toI (m119 42)) rfl rfl] at q2
    exact Value.int.inj (Option.some.inj (q1.trans q2.symm))
  have hEs : cx_toI (m77 8) = cx_toI (m119 43) := by
    obtain ⟨v, q2, q1⟩ := hEQ.1.2.1 ((119, 43), (77, 8)) (List.mem_of_getElem? (i := 1) rfl)
    have q1 : rl_fld ws (77, 8) = some v := q1
    have q2 : rl_fld ws (119, 43) = some v := q2
    rw [cx_fldv w77 c77 (x := cx_toI (m77 8)) rfl rfl] at q1
    rw [cx_fldv w119 c119 (x := cx_toI (m119 43)) rfl rfl] at q2
    exact Value.int.inj (Option.some.inj (q1.trans q2.symm))
  have hEr : cx_toI (m77 9) = cx_toI (m119 44) := by
    obtain ⟨v, q2, q1⟩ := hEQ.1.2.1 ((119, 44), (77, 9)) (List.mem_of_getElem? (i := 2) rfl)
    have q1 : rl_fld ws (77, 9) = some v := q1
    have q2 : rl_fld ws (119, 44) = some v := q2
    rw [cx_fldv w77 c77 (x := cx_toI (m77 9)) rfl rfl] at q1
    rw [cx_fldv w119 c119 (x := cx_toI (m119 44)) rfl rfl] at q2
    exact Value.int.inj (Option.some.inj (q1.trans q2.symm))
  have hEm : cx_toI (m77 10) = cx_toI (m119 41) := by
    obtain ⟨v, q2, q1⟩ := hEQ.1.2.1 ((119, 41), (77, 10)) (List.mem_of_getElem? (i := 3) rfl)
    have q1 : rl_fld ws (77, 10) = some v := q1
    have q2 : rl_fld ws (119, 41) = some v := q2
    rw [cx_fldv w77 c77 (x := cx_toI (m77 10)) rfl rfl] at q1
    rw [cx_fldv w119 c119 (x := cx_toI (m119 41)) rfl rfl] at q2
    exact Value.int.inj (Option.some.inj (q1.trans q2.symm))
  have hEb : cx_toI (m77 11) = cx_toI (m119 45) := by
    obtain ⟨v, q2, q1⟩ := hEQ.1.2.1 ((119, 45), (77, 11)) (List.mem_of_getElem? (i := 4) rfl)
    have q1 : rl_fld ws (77, 11) = some v := q1
    have q2 : rl_fld ws (119, 45) = some v := q2
    rw [cx_fldv w77 c77 (x := cx_toI (m77 11)) rfl rfl] at q1
    rw [cx_fldv w119 c119 (x := cx_toI (m119 45)) rfl rfl] at q2
    exact Value.int.inj (Option.some.inj (q1.trans q2.symm))
  have hac : (Int.ofNat a) ≤ (cx_toI (m119 41)).toInt ∧ (cx_toI (m119 41)).toInt ≤ (Int.ofNat a) := hbd119.2.2.2.2.2.2.2.2.2.1
  have hac : (cx_toI (m119 41)).toInt = (a : Int) := by have h1 : (a : Int) ≤ (cx_toI (m119 41)).toInt := hac.1; have h2 : (cx_toI (m119 41)).toInt ≤ (a : Int) := hac.2; omega
  have hl4 : 0 ≤ (cx_toI (m119 42)).toInt ∧ (cx_toI (m119 42)).toInt ≤ 4 := hbd119.2.2.2.2.2.2.2.2.2.2.1
  have hs4 : 0 ≤ (cx_toI (m119 43)).toInt ∧ (cx_toI (m119 43)).toInt ≤ 4 := hbd119.2.2.2.2.2.2.2.2.2.2.2.1
  have hr4 : 0 ≤ (cx_toI (m119 44)).toInt ∧ (cx_toI (m119 44)).toInt ≤ 4 := hbd119.2.2.2.2.2.2.2.2.2.2.2.2.1
  obtain ⟨hbo, hs4e⟩ : (0 ≤ (cx_toI (m119 45)).toInt ∧ (cx_toI (m119 45)).toInt ≤ 31) ∧ (cx_toI (m119 42)).toInt + (cx_toI (m119 43)).toInt + (cx_toI (m119 44)).toInt = 4 := by
    obtain ⟨x, q1, q2, q3⟩ := hEQ.1.2.2 ((119, 45), 0, 31) (List.mem_of_getElem? (i := 0) rfl)
    have q1 : rl_fld ws (119, 45) = some (.int x) := q1
    rw [cx_fldv w119 c119 (x := cx_toI (m119 45)) rfl rfl] at q1
    obtain ⟨x1, y1, z1, p1, p2, p3, p4⟩ := hEQ.2
    rw [cx_fldv w119 c119 (x := cx_toI (m119 42)) rfl rfl] at p1
    rw [cx_fldv w119 c119 (x := cx_toI (m119 43)) rfl rfl] at p2
    rw [cx_fldv w119 c119 (x := cx_toI (m119 44)) rfl rfl] at p3
    rw [Value.int.inj (Option.some.inj q1), Value.int.inj (Option.some.inj p1), Value.int.inj (Option.some.inj p2), Value.int.inj (Option.some.inj p3)]
    exact ⟨⟨q2, q3⟩, p4⟩
  have hpb : ∀ x : Nat, x < 32 → 0 ≤ (fm x).toInt ∧ (fm x).toInt ≤ (1000000 * 12 ^ a : Int) := fun x hx => p12o (u144 x hx)
  obtain ⟨fs0, e0q, -⟩ := id c0
  subst e0q
  refine lx_x F0 hl (pc' := 1166) (ab_tbo lto_22 _ _ _ (List.mem_of_getElem? (i := 0) rfl)) rfl ha0 ?_
  refine lx_arg F0 hiv hL hL2 hl (z := 1) (pc' := 1172) rfl (ab_tbo lto_22 _ _ _ (List.mem_of_getElem? (i := 1) rfl)) (ab_tbo lto_22 _ _ _ (List.mem_of_getElem? (i := 2) rfl)) (ab_tbo lto_22 _ _ _ (List.mem_of_getElem? (i := 3) rfl)) (ab_tbo lto_22 _ _ _ (List.mem_of_getElem? (i := 4) rfl)) (ab_tbo lto_22 _ _ _ (List.mem_of_getElem? (i := 5) rfl)) rfl ?_
  obtain ⟨d1, hd1, Ct1⟩ := ct_boat (dy := cx_toI (m0 11)) (r := r1) (bf := cx_toL (m77 6)) (dl := cx_toI (m77 7)) (ds := cx_toI (m77 8)) (dr := cx_toI (m77 9)) (md := cx_toI (m77 10)) (bo := cx_toI (m77 11)) (p := xs (i0 + 1)) l D cs tS ws [.ref a0, .int (xs (i0 + 1))] hX ⟨⟨a0, ha0, rfl⟩, rfl, trivial⟩
  refine lx_call F0 hcs hl (pc' := 1175) (q := 150) (n := 1) (ci := 10) (As := [.int (xs (i0 + 1))]) (stk := []) (ab_tbo lto_22 _ _ _ (List.mem_of_getElem? (i := 6) rfl)) rfl rfl rfl w0 (by decide) ⟨d1, by omega, Ct1⟩ rfl (fun rv ws1 hp1 => ?_)
  obtain ⟨v, h1, ⟨z, rr, bx2, rfl, rfl, hdx⟩, hk1, hf1, hH1, hrv⟩ := hp1
  obtain rfl : rv = some (.int z) := by
    cases rv with
    | none => exact hrv.elim
    | some y => exact congrArg some hrv
  show ab_W p l e room_1 s m #[Value.ref b] below meth c D vwCl A Q cells slots 1175 ls [.int z] ws1
  refine lx_pop F0 (pc' := 1176) (ab_tbo lto_22 _ _ _ (List.mem_of_getElem? (i := 7) rfl)) rfl ?_
  have hl1 := lx_Lc hl hf1.1
  have hM1 := cx_heap_far hM hf1 rfl
  have ha119b : (ws1.map (·.1))[119]? = some a119 := by rw [hf1.1]; exact ha119
  refine lx_m F0 hl1 (pc' := 1177) (ab_tbo lto_22 _ _ _ (List.mem_of_getElem? (i := 8) rfl)) rfl ha119b ?_
  refine lx_arg F0 hiv hL hL2 hl1 (z := 1) (pc' := 1183) rfl (ab_tbo lto_22 _ _ _ (List.mem_of_getElem? (i := 9) rfl)) (ab_tbo lto_22 _ _ _ (List.mem_of_getElem? (i := 10) rfl)) (ab_tbo lto_22 _ _ _ (List.mem_of_getElem? (i := 11) rfl)) (ab_tbo lto_22 _ _ _ (List.mem_of_getElem? (i := 12) rfl)) (ab_tbo lto_22 _ _ _ (List.mem_of_getElem? (i := 13) rfl)) rfl ?_
  obtain ⟨a119c, e119c, w119c, c119c⟩ := hM1 119 _ rfl
  obtain ⟨fs119c, e119d, -⟩ := id c119c
  subst e119d
  have eadd : a119c = a119 := ab_ad_get ha119b w119c
  rw [eadd] at w119c
  obtain ⟨d2, hd2, Ct2⟩ := ct_mboat (mi := fun i => cx_toI (m119 i)) (ml := fun i => cx_toL (m119 i)) (r := r2) (p := xs (i0 + 1)) l D cs tS ws1 [.ref a119, .int (xs (i0 + 1))] hM1 ⟨⟨a119, ha119b, rfl⟩, rfl, trivial⟩
  refine lx_call F0 hcs hl1 (pc' := 1186) (q := 233) (n := 1) (ci := 11) (As := [.int (xs (i0 + 1))]) (stk := []) (ab_tbo lto_22 _ _ _ (List.mem_of_getElem? (i := 14) rfl)) rfl rfl rfl w119c (by first | decide | exact (by decide : (1 : Nat) ≤ 8)) ⟨d2, by omega, Ct2⟩ rfl (fun rv2 ws2 hp2 => ?_)
  obtain ⟨v2, h2, ⟨z2, rr2, bm2, rfl, rfl, hdm⟩, hk2, hf2, hH2, hrv2⟩ := hp2
  obtain rfl : rv2 = some (.int z2) := by
    cases rv2 with
    | none => exact hrv2.elim
    | some y => exact congrArg some hrv2
  show ab_W p l e room_1 s m #[Value.ref b] below meth c D vwCl A Q cells slots 1186 ls [.int z2] ws2
  have hdd : z = z2 ∧ bx2 = bm2 ∧ (0 ≤ bm2.toInt ∧ bm2.toInt ≤ 31) := by
    rw [hEb] at hdx
    unfold boA at hdx hdm
    rcases hdx with ⟨a1, a2, a3⟩ | ⟨a1, a2, a3⟩ <;> rcases hdm with ⟨c1, c2, c3⟩ | ⟨c1, c2, c3⟩ <;> first | (exact absurd c1 a1) | (exact absurd a1 c1) | (rw [a2, a3, c2, c3]; exact ⟨rfl, rfl, hbo⟩) | (rw [a2, a3, c2, c3]; exact ⟨rfl, rfl, c1.1, by omega⟩)
  obtain ⟨hfin, hB9, hb9⟩ := hdd
  have ha2 := ha11
  have hlen1 : ws1.length = 165 := by have := congrArg List.length hf1.1; simpa [hlen] using this
  have hlen2 : ws2.length = 165 := by have := congrArg List.length hf2.1; simpa [hlen1] using this
  have hth1 : ab_th tS (ab_tys cs) (lw_THn a) ws1 := lx_done (fl := [5939]) hth hX hH1 ⟨⟨rfl, rfl, Or.inr rfl, Or.inr rfl, Or.inr rfl, Or.inr rfl, Or.inr rfl, Or.inr rfl, Or.inr rfl, Or.inr rfl, Or.inr rfl, Or.inr rfl, Or.inr rfl, Or.inr rfl, trivial⟩, ⟨rfl, trivial⟩, ⟨rfl, rfl, Or.inr rfl, Or.inr rfl, Or.inr rfl, Or.inr rfl, Or.inr rfl, Or.inr rfl, Or.inr rfl, Or.inr rfl, Or.inr rfl, Or.inr rfl, Or.inr rfl, Or.inl rfl, trivial⟩, trivial⟩ hf1 (po := [(0, ci_0), (1, ci_1), (77, ci_77)]) (List.forall_mem_cons.mpr ⟨lx_po hH1 rfl (fun e2 q => cx_to_obj (N := 12) q rfl (otl_0 (mi := fun _ => cx_toI (m0 11)))), (List.forall_mem_cons.mpr ⟨lx_po hH1 rfl (fun e2 q => cx_to_row q cx_anyU), (List.forall_mem_cons.mpr ⟨lx_po hH1 rfl (fun e2 q => cx_to_obj (N := 12) q rfl (otl_77 (mi := upi (fun i => cx_toI (m77 i)) 11 bx2) (ml := fun i => cx_toL (m77 i)) (by show (0 : Int) ≤ bx2.toInt ∧ bx2.toInt ≤ 31; rw [hB9]; exact hb9))), (fun _ h => absurd h List.not_mem_nil)⟩)⟩)⟩) (List.all_eq_true.mp tk22x a (List.mem_range.mpr ha11))
  have hth2 : ab_th tS (ab_tys cs) (lw_THn a) ws2 := lx_done2 (fl := [8616, 8661]) hth1 hM1 hH2 ⟨⟨rfl, rfl, Or.inl rfl, Or.inr rfl, Or.inr rfl, Or.inr rfl, Or.inr rfl, Or.inr rfl, Or.inr rfl, Or.inr rfl, Or.inr rfl, Or.inr rfl, Or.inr rfl, Or.inr rfl, Or.inr rfl, Or.inr rfl, Or.inr rfl, Or.inr rfl, Or.inr rfl, Or.inr rfl, Or.inr rfl, Or.inr rfl, Or.inr rfl, Or.inr rfl, Or.inr rfl, Or.inr rfl, Or.inr rfl, Or.inr rfl, Or.inr rfl, Or.inr rfl, Or.inr rfl, Or.inr rfl, Or.inr rfl, Or.inr rfl, Or.inr rfl, Or.inr rfl, Or.inr rfl, Or.inr rfl, Or.inr rfl, Or.inr rfl, Or.inr rfl, Or.inr rfl, Or.inr rfl, Or.inr rfl, Or.inr rfl, Or.inr rfl, Or.inr rfl, Or.inl rfl, Or.inr rfl, Or.inr rfl, Or.inr rfl, Or.inr rfl, Or.inr rfl, Or.inr rfl, Or.inr rfl, Or.inr rfl, Or.inr rfl, Or.inr rfl, Or.inr rfl, Or.inr rfl, Or.inr rfl, Or.inr rfl, Or.inr rfl, Or.inr rfl, Or.inr rfl, Or.inr rfl, Or.inr rfl, Or.inr rfl, Or.inr rfl, Or.inr rfl, trivial⟩, ⟨rfl, trivial⟩, trivial⟩ hf2 (po := [(119, sq_119 a), (126, ci_126)]) (List.forall_mem_cons.mpr ⟨lx_po hH2 rfl (fun e2 q => cx_to_obj (N := 68) q rfl (otl_119c (a := a) (mi := upi (upi (fun i => cx_toI (m119 i)) 0 (Int32.ofInt 0)) 45 bm2) (ml := fun i => cx_toL (m119 i)) ⟨hbd119.1, hbd119.2.1, hbd119.2.2.1, hbd119.2.2.2.1, hbd119.2.2.2.2.1, hbd119.2.2.2.2.2.1, hbd119.2.2.2.2.2.2.1, hbd119.2.2.2.2.2.2.2.1, hbd119.2.2.2.2.2.2.2.2.1, hbd119.2.2.2.2.2.2.2.2.2.1, hbd119.2.2.2.2.2.2.2.2.2.2.1, hbd119.2.2.2.2.2.2.2.2.2.2.2.1, hbd119.2.2.2.2.2.2.2.2.2.2.2.2.1, hbd119.2.2.2.2.2.2.2.2.2.2.2.2.2.1, hbd119.2.2.2.2.2.2.2.2.2.2.2.2.2.2⟩)), (List.forall_mem_cons.mpr ⟨lx_po hH2 rfl (fun e2 q => cx_to_row q cx_anyU), (fun _ h => absurd h List.not_mem_nil)⟩)⟩) (List.all_eq_true.mp tk22m a (List.mem_range.mpr ha11))
  refine lx_pop F0 (pc' := 1187) (ab_tbo lto_22 _ _ _ (List.mem_of_getElem? (i := 15) rfl)) rfl ?_
  refine lx_goto F0 (pc' := 1810) (ab_tbo lto_22 _ _ _ (List.mem_of_getElem? (i := 16) rfl)) rfl ?_
  have hX2 := cx_heap_far hH1 hf2 rfl
  have hE2 := cx_heap_far (cx_heap_far hE hf1 rfl) hf2 rfl
  refine K ls ws2 (lx_Lc hl1 hf2.1) ⟨lw_THn a, sq_in ha2, hth2⟩ ?_ hlen2
  refine ⟨⟨List.forall_mem_cons.mpr ⟨?_, List.forall_mem_cons.mpr ⟨?_, fun q h => absurd h List.not_mem_nil⟩⟩, List.forall_mem_cons.mpr ⟨?_, List.forall_mem_cons.mpr ⟨?_, List.forall_mem_cons.mpr ⟨?_, List.forall_mem_cons.mpr ⟨?_, List.forall_mem_cons.mpr ⟨?_, fun q h => absurd h List.not_mem_nil⟩⟩⟩⟩⟩, List.forall_mem_cons.mpr ⟨?_, fun q h => absurd h List.not_mem_nil⟩⟩, ?_⟩
  · obtain ⟨ax, ex, wx, cx⟩ := hE2 78 _ rfl
    obtain ⟨ay, ey, wy, cy⟩ := hE2 143 _ rfl
    exact ⟨_, cx_row1 (cx_rowv wy cy), (cx_rowv wx cx).trans (congrArg some (cx_rowM (fun i hi => hEt i hi)))⟩
  · obtain ⟨ax, ex, wx, cx⟩ := hE2 79 _ rfl
    obtain ⟨ay, ey, wy, cy⟩ := hE2 144 _ rfl
    exact ⟨_, cx_row1 (cx_rowvL wy cy), (cx_rowvL wx cx).trans (congrArg some (cx_rowML (fun i hi => hEf i hi)))⟩
  · obtain ⟨ax, ex, wx, cx⟩ := hX2 77 _ rfl
    obtain ⟨ay, ey, wy, cy⟩ := hH2 119 _ rfl
    exact ⟨_, cx_fldv wy cy (x := cx_toI (m119 42)) rfl rfl, (cx_fldv wx cx (x := cx_toI (m77 7)) rfl rfl).trans (by rw [hEl])⟩
  · obtain ⟨ax, ex, wx, cx⟩ := hX2 77 _ rfl
    obtain ⟨ay, ey, wy, cy⟩ := hH2 119 _ rfl
    exact ⟨_, cx_fldv wy cy (x := cx_toI (m119 43)) rfl rfl, (cx_fldv wx cx (x := cx_toI (m77 8)) rfl rfl).trans (by rw [hEs])⟩
  · obtain ⟨ax, ex, wx, cx⟩ := hX2 77 _ rfl
    obtain ⟨ay, ey, wy, cy⟩ := hH2 119 _ rfl
    exact ⟨_, cx_fldv wy cy (x := cx_toI (m119 44)) rfl rfl, (cx_fldv wx cx (x := cx_toI (m77 9)) rfl rfl).trans (by rw [hEr])⟩
  · obtain ⟨ax, ex, wx, cx⟩ := hX2 77 _ rfl
    obtain ⟨ay, ey, wy, cy⟩ := hH2 119 _ rfl
    exact ⟨_, cx_fldv wy cy (x := cx_toI (m119 41)) rfl rfl, (cx_fldv wx cx (x := cx_toI (m77 10)) rfl rfl).trans (by rw [hEm])⟩
  · obtain ⟨ax, ex, wx, cx⟩ := hX2 77 _ rfl
    obtain ⟨ay, ey, wy, cy⟩ := hH2 119 _ rfl
    exact ⟨_, cx_fldv wy cy (x := bm2) rfl rfl, (cx_fldv wx cx (x := bx2) rfl rfl).trans (by rw [hB9])⟩
  · obtain ⟨ay, ey, wy, cy⟩ := hH2 119 _ rfl
    exact ⟨_, cx_fldv wy cy (x := bm2) rfl rfl, hb9.1, hb9.2⟩
  · obtain ⟨ay, ey, wy, cy⟩ := hH2 119 _ rfl
    exact ⟨_, _, _, cx_fldv wy cy (x := cx_toI (m119 42)) rfl rfl, cx_fldv wy cy (x := cx_toI (m119 43)) rfl rfl, cx_fldv wy cy (x := cx_toI (m119 44)) rfl rfl, hs4e⟩
theorem tk23a : (List.range 11).all (fun a => tr_3 (lw_THn a) [(0, ci_0), (1, ci_1), (77, ci_77), (79, ci_79), (80, ci_80), (81, ci_81), (82, ci_82), (83, ci_83), (84, ci_84), (85, ci_85), (86, ci_86), (119, sq_119 a), (126, ci_126), (144, sq_144 a), (145, ci_145), (146, ci_146), (147, ci_147), (148, ci_148), (78, ci_78), (143, ci_143)]) = true := by decide +kernel
theorem tk23x : (List.range 11).all (fun a => (lw_THn a).all (tr_1 (cx_M [0, 1, 77, 79, 80, 81, 82, 83, 84, 85, 86] [5934]) (lw_THn a) [(0, ci_0), (1, ci_1), (77, ci_77), (79, ci_79), (80, ci_80), (81, ci_81), (82, ci_82), (83, ci_83), (84, ci_84), (85, ci_85), (86, ci_86)])) = true := by decide +kernel
theorem tk23m : (List.range 11).all (fun a => (lw_THn a).all (tr_1 (cx_M [119, 126, 144, 145, 146, 147, 148] [8616, 8665, 8666]) (lw_THn a) [(119, sq_119 a), (126, ci_126), (144, sq_144 a), (145, ci_145), (146, ci_146), (147, ci_147), (148, ci_148)])) = true := by decide +kernel
theorem tz_23 : ∀ th ∈ lw_THs, lw_TQ 1190 th := by
  intro th hmem p l e s m below meth c D A Q cs tS b L i0 cells slots xs iv ws ls F0 hcs hiv hL hL2 hl hth hEQ hlen K
  obtain ⟨a, ha11, hthE⟩ := sq_of hmem
  subst hthE
  have h3 := tr_3_ok (List.all_eq_true.mp tk23a a (List.mem_range.mpr ha11)) hth
  obtain ⟨a0, e0, w0, t0⟩ := h3 _ (List.mem_of_getElem? (i := 0) rfl)
  obtain ⟨a1, e1, w1, t1⟩ := h3 _ (List.mem_of_getElem? (i := 1) rfl)
  obtain ⟨a77, e77, w77, t77⟩ := h3 _ (List.mem_of_getElem? (i := 2) rfl)
  obtain ⟨a79, e79, w79, t79⟩ := h3 _ (List.mem_of_getElem? (i := 3) rfl)
  obtain ⟨a80, e80, w80, t80⟩ := h3 _ (List.mem_of_getElem? (i := 4) rfl)
  obtain ⟨a81, e81, w81, t81⟩ := h3 _ (List.mem_of_getElem? (i := 5) rfl)
  obtain ⟨a82, e82, w82, t82⟩ := h3 _ (List.mem_of_getElem? (i := 6) rfl)
  obtain ⟨a83, e83, w83, t83⟩ := h3 _ (List.mem_of_getElem? (i := 7) rfl)
  obtain ⟨a84, e84, w84, t84⟩ := h3 _ (List.mem_of_getElem? (i := 8) rfl)
  obtain ⟨a85, e85, w85, t85⟩ := h3 _ (List.mem_of_getElem? (i := 9) rfl)
  obtain ⟨a86, e86, w86, t86⟩ := h3 _ (List.mem_of_getElem? (i := 10) rfl)
  obtain ⟨a119, e119, w119, t119⟩ := h3 _ (List.mem_of_getElem? (i := 11) rfl)
  obtain ⟨a126, e126, w126, t126⟩ := h3 _ (List.mem_of_getElem? (i := 12) rfl)
  obtain ⟨a144, e144, w144, t144⟩ := h3 _ (List.mem_of_getElem? (i := 13) rfl)
  obtain ⟨a145, e145, w145, t145⟩ := h3 _ (List.mem_of_getElem? (i := 14) rfl)
  obtain ⟨a146, e146, w146, t146⟩ := h3 _ (List.mem_of_getElem? (i := 15) rfl)
  obtain ⟨a147, e147, w147, t147⟩ := h3 _ (List.mem_of_getElem? (i := 16) rfl)
  obtain ⟨a148, e148, w148, t148⟩ := h3 _ (List.mem_of_getElem? (i := 17) rfl)
  obtain ⟨a78, e78, w78, t78⟩ := h3 _ (List.mem_of_getElem? (i := 18) rfl)
  obtain ⟨a143, e143, w143, t143⟩ := h3 _ (List.mem_of_getElem? (i := 19) rfl)
  obtain ⟨m0, c0, b0⟩ := cx_of_obj (ci := 10) (N := 12) (tvs := ots_0) t0
  obtain ⟨r1, c1, u1⟩ := cx_of_row (t := 0) (N := 7) (Or.inl rfl) t1
  obtain ⟨m77, c77, b77⟩ := cx_of_obj (ci := 6) (N := 12) (tvs := ots_77) t77
  have hbd77 := obd_77_of b77
  obtain ⟨f, c79, u79⟩ := cx_of_long (N := 32) t79
  obtain ⟨g, c80, u80⟩ := cx_of_long (N := 32) t80
  have c81 := cx_of_rows (t := 4) (N := 3) (ks := [82, 83, 84]) (Or.inr rfl) t81
  obtain ⟨b0, c82, u82⟩ := cx_of_long (N := 32) t82
  obtain ⟨b1, c83, u83⟩ := cx_of_long (N := 32) t83
  obtain ⟨b2, c84, u84⟩ := cx_of_long (N := 32) t84
  obtain ⟨tr, c85, u85⟩ := cx_of_row (t := 0) (N := 3) (Or.inl rfl) t85
  obtain ⟨bs, c86, u86⟩ := cx_of_row (t := 0) (N := 3) (Or.inl rfl) t86
  obtain ⟨m119, c119, b119⟩ := cx_of_obj (ci := 11) (N := 68) (tvs := ots_119c a) t119
  have hbd119 := obd_119c_of b119
  obtain ⟨r2, c126, u126⟩ := cx_of_row (t := 0) (N := 7) (Or.inl rfl) t126
  obtain ⟨fm, c144, u144⟩ := cx_of_long (N := 32) t144
  obtain ⟨nm, c145, u145⟩ := cx_of_long (N := 32) t145
  obtain ⟨kp, c146, u146⟩ := cx_of_long (N := 32) t146
  obtain ⟨ro, c147, u147⟩ := cx_of_row (t := 0) (N := 3) (Or.inl rfl) t147
  obtain ⟨br, c148, u148⟩ := cx_of_row (t := 0) (N := 3) (Or.inl rfl) t148
  obtain ⟨t, c78, u78⟩ := cx_of_row (t := 0) (N := 32) (Or.inl rfl) t78
  obtain ⟨tm, c143, u143⟩ := cx_of_row (t := 0) (N := 32) (Or.inl rfl) t143
  have hX : cx_heap tS cs (h_xk (cx_toI (m0 11)) r1 (cx_toL (m77 6)) (cx_toI (m77 7)) (cx_toI (m77 8)) (cx_toI (m77 9)) (cx_toI (m77 10)) (cx_toI (m77 11)) f g b0 b1 b2 tr bs) ws := cx_heap_of (List.forall_mem_cons.mpr ⟨⟨a0, e0, w0, c0⟩, (List.forall_mem_cons.mpr ⟨⟨a1, e1, w1, c1⟩, (List.forall_mem_cons.mpr ⟨⟨a77, e77, w77, c77⟩, (List.forall_mem_cons.mpr ⟨⟨a79, e79, w79, c79⟩, (List.forall_mem_cons.mpr ⟨⟨a80, e80, w80, c80⟩, (List.forall_mem_cons.mpr ⟨⟨a81, e81, w81, c81⟩, (List.forall_mem_cons.mpr ⟨⟨a82, e82, w82, c82⟩, (List.forall_mem_cons.mpr ⟨⟨a83, e83, w83, c83⟩, (List.forall_mem_cons.mpr ⟨⟨a84, e84, w84, c84⟩, (List.forall_mem_cons.mpr ⟨⟨a85, e85, w85, c85⟩, (List.forall_mem_cons.mpr ⟨⟨a86, e86, w86, c86⟩, (fun _ h => absurd h List.not_mem_nil)⟩)⟩)⟩)⟩)⟩)⟩)⟩)⟩)⟩)⟩)⟩)
  have hM : cx_heap tS cs (h_mk (fun i => cx_toI (m119 i)) (fun i => cx_toL (m119 i)) r2 ro br fm nm kp) ws := cx_heap_of (List.forall_mem_cons.mpr ⟨⟨a119, e119, w119, c119⟩, (List.forall_mem_cons.mpr ⟨⟨a126, e126, w126, c126⟩, (List.forall_mem_cons.mpr ⟨⟨a144, e144, w144, c144⟩, (List.forall_mem_cons.mpr ⟨⟨a145, e145, w145, c145⟩, (List.forall_mem_cons.mpr ⟨⟨a146, e146, w146, c146⟩, (List.forall_mem_cons.mpr ⟨⟨a147, e147, w147, c147⟩, (List.forall_mem_cons.mpr ⟨⟨a148, e148, w148, c148⟩, (fun _ h => absurd h List.not_mem_nil)⟩)⟩)⟩)⟩)⟩)⟩)⟩)
  have hE : cx_heap tS cs ([(78, .inr (.inl (0, 32, t))), (143, .inr (.inl (0, 32, tm)))]) ws := cx_heap_of (List.forall_mem_cons.mpr ⟨⟨a78, e78, w78, c78⟩, (List.forall_mem_cons.mpr ⟨⟨a143, e143, w143, c143⟩, (fun _ h => absurd h List.not_mem_nil)⟩)⟩)
  have ha0 : (ws.map (·.1))[0]? = some a0 := by rw [List.getElem?_map, w0]; rfl
  have ha119 : (ws.map (·.1))[119]? = some a119 := by rw [List.getElem?_map, w119]; rfl
  have hEt : ∀ i : Nat, i < 32 → t i = tm i := by
    obtain ⟨v, q2, q1⟩ := hEQ.1.1 ([143], 78) (List.mem_of_getElem? (i := 0) rfl)
    have q1 : rl_row ws 78 = some v := q1
    have q2 : rl_rows ws [143] = some v := q2
    rw [cx_rowv w78 c78] at q1
    rw [cx_row1 (cx_rowv w143 c143)] at q2
    exact cx_rowE (Option.some.inj (q1.trans q2.symm))
  have hEf : ∀ i : Nat, i < 32 → f i = fm i := by
    obtain ⟨v, q2, q1⟩ := hEQ.1.1 ([144], 79) (List.mem_of_getElem? (i := 1) rfl)
    have q1 : rl_row ws 79 = some v := q1
    have q2 : rl_rows ws [144] = some v := q2
    rw [cx_rowvL w79 c79] at q1
    rw [cx_row1 (cx_rowvL w144 c144)] at q2
    exact cx_rowEL (Option.some.inj (q1.trans q2.symm))
  have hEl : cx_toI (m77 7) = cx_toI (m119 42) := by
    obtain ⟨v, q2, q1⟩ := hEQ.1.2.1 ((119, 42), (77, 7)) (List.mem_of_getElem? (i := 0) rfl)
    have q1 : rl_fld ws (77, 7) = some v := q1
    have q2 : rl_fld ws (119, 42) = some v := q2
    rw [cx_fldv w77 c77 (x := cx_toI (m77 7)) rfl rfl] at q1
    rw [cx_fldv w119 c119 (x := cx_toI (m119 42)) rfl rfl] at q2
    exact Value.int.inj (Option.some.inj (q1.trans q2.symm))
  have hEs : cx_toI (m77 8) = cx_toI (m119 43) := by
    obtain ⟨v, q2, q1⟩ := hEQ.1.2.1 ((119, 43), (77, 8)) (List.mem_of_getElem? (i := 1) rfl)
    have q1 : rl_fld ws (77, 8) = some v := q1
    have q2 : rl_fld ws (119, 43) = some v := q2
    rw [cx_fldv w77 c77 (x := cx_toI (m77 8)) rfl rfl] at q1
    rw [cx_fldv w119 c119 (x := cx_toI (m119 43)) rfl rfl] at q2
    exact Value.int.inj (Option.some.inj (q1.trans q2.symm))
  have hEr : cx_toI (m77 9) = cx_toI (m119 44) := by
    obtain ⟨v, q2, q1⟩ := hEQ.1.2.1 ((119, 44), (77, 9)) (List.mem_of_getElem? (i := 2) rfl)
    have q1 : rl_fld ws (77, 9) = some v := q1
    have q2 : rl_fld ws (119, 44) = some v := q2
    rw [cx_fldv w77 c77 (x := cx_toI (m77 9)) rfl rfl] at q1
    rw [cx_fldv w119 c119 (x := cx_toI (m119 44)) rfl rfl] at q2
    exact Value.int.inj (Option.some.inj (q1.trans q2.symm))
  have hEm : cx_toI (m77 10) = cx_toI (m119 41) := by
    obtain ⟨v, q2, q1⟩ := hEQ.1.2.1 ((119, 41), (77, 10)) (List.mem_of_getElem? (i := 3) rfl)
    have q1 : rl_fld ws (77, 10) = some v := q1
    have q2 : rl_fld ws (119, 41) = some v := q2
    rw [cx_fldv w77 c77 (x := cx_toI (m77 10)) rfl rfl] at q1
    rw [cx_fldv w119 c119 (x := cx_toI (m119 41)) rfl rfl] at q2
    exact Value.int.inj (Option.some.inj (q1.trans q2.symm))
  have hEb : cx_toI (m77 11) = cx_toI (m119 45) := by
    obtain ⟨v, q2, q1⟩ := hEQ.1.2.1 ((119, 45), (77, 11)) (List.mem_of_getElem? (i := 4) rfl)
    have q1 : rl_fld ws (77, 11) = some v := q1
    have q2 : rl_fld ws (119, 45) = some v := q2
    rw [cx_fldv w77 c77 (x := cx_toI (m77 11)) rfl rfl] at q1
    rw [cx_fldv w119 c119 (x := cx_toI (m119 45)) rfl rfl] at q2
    exact Value.int.inj (Option.some.inj (q1.trans q2.symm))
  have hac : (Int.ofNat a) ≤ (cx_toI (m119 41)).toInt ∧ (cx_toI (m119 41)).toInt ≤ (Int.ofNat a) := hbd119.2.2.2.2.2.2.2.2.2.1
  have hac : (cx_toI (m119 41)).toInt = (a : Int) := by have h1 : (a : Int) ≤ (cx_toI (m119 41)).toInt := hac.1; have h2 : (cx_toI (m119 41)).toInt ≤ (a : Int) := hac.2; omega
  have hl4 : 0 ≤ (cx_toI (m119 42)).toInt ∧ (cx_toI (m119 42)).toInt ≤ 4 := hbd119.2.2.2.2.2.2.2.2.2.2.1
  have hs4 : 0 ≤ (cx_toI (m119 43)).toInt ∧ (cx_toI (m119 43)).toInt ≤ 4 := hbd119.2.2.2.2.2.2.2.2.2.2.2.1
  have hr4 : 0 ≤ (cx_toI (m119 44)).toInt ∧ (cx_toI (m119 44)).toInt ≤ 4 := hbd119.2.2.2.2.2.2.2.2.2.2.2.2.1
  obtain ⟨hbo, hs4e⟩ : (0 ≤ (cx_toI (m119 45)).toInt ∧ (cx_toI (m119 45)).toInt ≤ 31) ∧ (cx_toI (m119 42)).toInt + (cx_toI (m119 43)).toInt + (cx_toI (m119 44)).toInt = 4 := by
    obtain ⟨x, q1, q2, q3⟩ := hEQ.1.2.2 ((119, 45), 0, 31) (List.mem_of_getElem? (i := 0) rfl)
    have q1 : rl_fld ws (119, 45) = some (.int x) := q1
    rw [cx_fldv w119 c119 (x := cx_toI (m119 45)) rfl rfl] at q1
    obtain ⟨x1, y1, z1, p1, p2, p3, p4⟩ := hEQ.2
    rw [cx_fldv w119 c119 (x := cx_toI (m119 42)) rfl rfl] at p1
    rw [cx_fldv w119 c119 (x := cx_toI (m119 43)) rfl rfl] at p2
    rw [cx_fldv w119 c119 (x := cx_toI (m119 44)) rfl rfl] at p3
    rw [Value.int.inj (Option.some.inj q1), Value.int.inj (Option.some.inj p1), Value.int.inj (Option.some.inj p2), Value.int.inj (Option.some.inj p3)]
    exact ⟨⟨q2, q3⟩, p4⟩
  have hpb : ∀ x : Nat, x < 32 → 0 ≤ (fm x).toInt ∧ (fm x).toInt ≤ (1000000 * 12 ^ a : Int) := fun x hx => p12o (u144 x hx)
  have hm0 : 0 ≤ (cx_toI (m77 10)).toInt := by rw [hEm]; omega
  have hm1 : (cx_toI (m77 10)).toInt ≤ 10 := by rw [hEm]; omega
  have hm2 : 0 ≤ (cx_toI (m119 41)).toInt := by omega
  have hm3 : (cx_toI (m119 41)).toInt ≤ 10 := by omega
  have hbN : (cx_toI (m119 45)).toInt = (((cx_toI (m119 45)).toInt.toNat : Nat) : Int) := (Int.toNat_of_nonneg hbo.1).symm
  have hbX : (cx_toI (m77 11)).toInt = (((cx_toI (m119 45)).toInt.toNat : Nat) : Int) := by rw [hEb]; exact hbN
  have hb32 : (cx_toI (m119 45)).toInt.toNat < 32 := by omega
  have hmm : ∀ x : Int32, 1 ≤ x.toInt → x.toInt ≤ 3 → x.toInt = ((x.toInt.toNat : Nat) : Int) := fun x h _ => (Int.toNat_of_nonneg (by omega)).symm
  obtain ⟨fs0, e0q, -⟩ := id c0
  subst e0q
  refine lx_x F0 hl (pc' := 1191) (ab_tbo lto_23 _ _ _ (List.mem_of_getElem? (i := 0) rfl)) rfl ha0 ?_
  refine lx_arg F0 hiv hL hL2 hl (z := 1) (pc' := 1197) rfl (ab_tbo lto_23 _ _ _ (List.mem_of_getElem? (i := 1) rfl)) (ab_tbo lto_23 _ _ _ (List.mem_of_getElem? (i := 2) rfl)) (ab_tbo lto_23 _ _ _ (List.mem_of_getElem? (i := 3) rfl)) (ab_tbo lto_23 _ _ _ (List.mem_of_getElem? (i := 4) rfl)) (ab_tbo lto_23 _ _ _ (List.mem_of_getElem? (i := 5) rfl)) rfl ?_
  refine lx_arg F0 hiv hL hL2 hl (z := 2) (pc' := 1203) rfl (ab_tbo lto_23 _ _ _ (List.mem_of_getElem? (i := 6) rfl)) (ab_tbo lto_23 _ _ _ (List.mem_of_getElem? (i := 7) rfl)) (ab_tbo lto_23 _ _ _ (List.mem_of_getElem? (i := 8) rfl)) (ab_tbo lto_23 _ _ _ (List.mem_of_getElem? (i := 9) rfl)) (ab_tbo lto_23 _ _ _ (List.mem_of_getElem? (i := 10) rfl)) rfl ?_
  refine lx_arg F0 hiv hL hL2 hl (z := 3) (pc' := 1209) rfl (ab_tbo lto_23 _ _ _ (List.mem_of_getElem? (i := 11) rfl)) (ab_tbo lto_23 _ _ _ (List.mem_of_getElem? (i := 12) rfl)) (ab_tbo lto_23 _ _ _ (List.mem_of_getElem? (i := 13) rfl)) (ab_tbo lto_23 _ _ _ (List.mem_of_getElem? (i := 14) rfl)) (ab_tbo lto_23 _ _ _ (List.mem_of_getElem? (i := 15) rfl)) rfl ?_
  obtain ⟨d1, hd1, Ct1⟩ := ct_seek (dy := cx_toI (m0 11)) (r := r1) (bf := cx_toL (m77 6)) (dl := cx_toI (m77 7)) (ds := cx_toI (m77 8)) (dr := cx_toI (m77 9)) (md := cx_toI (m77 10)) (bo := cx_toI (m77 11)) (f := f) (g := g) (a0 := b0) (a1 := b1) (a2 := b2) (tr := tr) (b := bs) (m := xs (i0 + 1)) (q := xs (i0 + 2)) (i := xs (i0 + 3)) hm0 hm1 (hmm _) hbX hb32 l D cs tS ws [.ref a0, .int (xs (i0 + 1)), .int (xs (i0 + 2)), .int (xs (i0 + 3))] hX ⟨⟨a0, ha0, rfl⟩, rfl, rfl, rfl, trivial⟩
  refine lx_call F0 hcs hl (pc' := 1212) (q := 151) (n := 3) (ci := 10) (As := [.int (xs (i0 + 1)), .int (xs (i0 + 2)), .int (xs (i0 + 3))]) (stk := []) (ab_tbo lto_23 _ _ _ (List.mem_of_getElem? (i := 16) rfl)) rfl rfl rfl w0 (by decide) ⟨d1, by omega, Ct1⟩ rfl (fun rv ws1 hp1 => ?_)
  obtain ⟨v, h1, ⟨z, rr, bfx, gx2, x0r, x1r, x2r, trx, bsx, rfl, rfl, hdx⟩, hk1, hf1, hH1, hrv⟩ := hp1
  obtain rfl : rv = some (.int z) := by
    cases rv with
    | none => exact hrv.elim
    | some y => exact congrArg some hrv
  show ab_W p l e room_1 s m #[Value.ref b] below meth c D vwCl A Q cells slots 1212 ls [.int z] ws1
  have hl1 := lx_Lc hl hf1.1
  have hM1 := cx_heap_far hM hf1 rfl
  have ha119b : (ws1.map (·.1))[119]? = some a119 := by rw [hf1.1]; exact ha119
  refine lx_m F0 hl1 (pc' := 1213) (ab_tbo lto_23 _ _ _ (List.mem_of_getElem? (i := 17) rfl)) rfl ha119b ?_
  refine lx_arg F0 hiv hL hL2 hl1 (z := 1) (pc' := 1219) rfl (ab_tbo lto_23 _ _ _ (List.mem_of_getElem? (i := 18) rfl)) (ab_tbo lto_23 _ _ _ (List.mem_of_getElem? (i := 19) rfl)) (ab_tbo lto_23 _ _ _ (List.mem_of_getElem? (i := 20) rfl)) (ab_tbo lto_23 _ _ _ (List.mem_of_getElem? (i := 21) rfl)) (ab_tbo lto_23 _ _ _ (List.mem_of_getElem? (i := 22) rfl)) rfl ?_
  refine lx_arg F0 hiv hL hL2 hl1 (z := 2) (pc' := 1225) rfl (ab_tbo lto_23 _ _ _ (List.mem_of_getElem? (i := 23) rfl)) (ab_tbo lto_23 _ _ _ (List.mem_of_getElem? (i := 24) rfl)) (ab_tbo lto_23 _ _ _ (List.mem_of_getElem? (i := 25) rfl)) (ab_tbo lto_23 _ _ _ (List.mem_of_getElem? (i := 26) rfl)) (ab_tbo lto_23 _ _ _ (List.mem_of_getElem? (i := 27) rfl)) rfl ?_
  refine lx_arg F0 hiv hL hL2 hl1 (z := 3) (pc' := 1231) rfl (ab_tbo lto_23 _ _ _ (List.mem_of_getElem? (i := 28) rfl)) (ab_tbo lto_23 _ _ _ (List.mem_of_getElem? (i := 29) rfl)) (ab_tbo lto_23 _ _ _ (List.mem_of_getElem? (i := 30) rfl)) (ab_tbo lto_23 _ _ _ (List.mem_of_getElem? (i := 31) rfl)) (ab_tbo lto_23 _ _ _ (List.mem_of_getElem? (i := 32) rfl)) rfl ?_
  obtain ⟨a119c, e119c, w119c, c119c⟩ := hM1 119 _ rfl
  obtain ⟨fs119c, e119d, -⟩ := id c119c
  subst e119d
  have eadd : a119c = a119 := ab_ad_get ha119b w119c
  rw [eadd] at w119c
  obtain ⟨d2, hd2, Ct2⟩ := ct_mseek (mi := fun i => cx_toI (m119 i)) (ml := fun i => cx_toL (m119 i)) (r := r2) (ro := ro) (br := br) (f := fm) (n := nm) (kp := kp) (m := xs (i0 + 1)) (q := xs (i0 + 2)) (i := xs (i0 + 3)) hm2 hm3 (hmm _) hbN hb32 l D cs tS ws1 [.ref a119, .int (xs (i0 + 1)), .int (xs (i0 + 2)), .int (xs (i0 + 3))] hM1 ⟨⟨a119, ha119b, rfl⟩, rfl, rfl, rfl, trivial⟩
  refine lx_call F0 hcs hl1 (pc' := 1234) (q := 237) (n := 3) (ci := 11) (As := [.int (xs (i0 + 1)), .int (xs (i0 + 2)), .int (xs (i0 + 3))]) (stk := [.int z]) (ab_tbo lto_23 _ _ _ (List.mem_of_getElem? (i := 33) rfl)) rfl rfl rfl w119c (by first | decide | exact (by decide : (1 : Nat) ≤ 8)) ⟨d2, by omega, Ct2⟩ rfl (fun rv2 ws2 hp2 => ?_)
  obtain ⟨v2, h2, ⟨z2, rr2, rox, brx, fm2, nm2, kp2, bl2, wt2, rfl, rfl, hfm2, hdm⟩, hk2, hf2, hH2, hrv2⟩ := hp2
  obtain rfl : rv2 = some (.int z2) := by
    cases rv2 with
    | none => exact hrv2.elim
    | some y => exact congrArg some hrv2
  show ab_W p l e room_1 s m #[Value.ref b] below meth c D vwCl A Q cells slots 1234 ls [.int z2, .int z] ws2
  have hEfk : ∀ i : Nat, i < 32 → f i = fm2 i := fun i hi => (hEf i hi).trans (hfm2 i hi).symm
  have ha2 := ha11
  have hfin : z = z2 := by
    rw [sumL_E 32 hEf, hEm] at hdx
    rcases hdx with x1 | ⟨x1, x2, x3⟩ | ⟨x1, x2, x3⟩ <;> rcases hdm with c1 | ⟨c1, c2, c3⟩ | ⟨c1, c2, c3⟩
    · exact skR_E x1 c1
    · exact (skR_O x1 c1).elim
    · exact (skR_O x1 c1).elim
    · exact (skR_O c1 x1).elim
    · rw [x3, c3]
    · exact absurd c2 x2
    · exact (skR_O c1 x1).elim
    · exact absurd x2 c2
    · obtain ⟨⟨y1, y2, y3, y4⟩, y5, y6⟩ := id c1
      have hmz := hmm (xs (i0 + 1)) y1 y2
      obtain ⟨e1, e2, -⟩ := ac_rl (a := a) (mm := (xs (i0 + 1)).toInt.toNat) (bN := (cx_toI (m119 45)).toInt.toNat) (mi := fun i => cx_toI (m119 i)) hEl hEs hEr (by rw [hEl]; exact hl4.1) (by rw [hEs]; exact hs4.1) (by rw [hEr]; exact hr4.1) (by rw [hEl, hEs, hEr]; exact hs4e) ⟨y3, y4⟩ hEf hpb (by omega) (by omega) (by omega) hb32
      have hI := ab_clamp (x := xs (i0 + 3)) c2.1
      obtain ⟨w, hw⟩ : ∃ w, (tP (cx_toI (m77 7)) (cx_toI (m77 8)) (cx_toI (m77 9)) (xs (i0 + 2)) (xs (i0 + 1)).toInt.toNat ((cx_toI (m119 45)).toInt.toNat) f (Int64.ofNat 0) [] (Int64.ofInt (-1), [])).2[(xs (i0 + 3)).toNatClampNeg]? = some w := ⟨_, List.getElem?_eq_getElem (by rw [e2]; omega)⟩
      exact cx_i32 ((x3 w hw).trans (c3 w (by rw [← e1]; exact hw)).symm)
  have hlen1 : ws1.length = 165 := by have := congrArg List.length hf1.1; simpa [hlen] using this
  have hlen2 : ws2.length = 165 := by have := congrArg List.length hf2.1; simpa [hlen1] using this
  have hth1 : ab_th tS (ab_tys cs) (lw_THn a) ws1 := lx_done (fl := [5934]) hth hX hH1 ⟨⟨rfl, rfl, Or.inr rfl, Or.inr rfl, Or.inr rfl, Or.inr rfl, Or.inr rfl, Or.inr rfl, Or.inr rfl, Or.inr rfl, Or.inr rfl, Or.inr rfl, Or.inr rfl, Or.inr rfl, trivial⟩, ⟨rfl, trivial⟩, ⟨rfl, rfl, Or.inr rfl, Or.inr rfl, Or.inr rfl, Or.inr rfl, Or.inr rfl, Or.inr rfl, Or.inl rfl, Or.inr rfl, Or.inr rfl, Or.inr rfl, Or.inr rfl, Or.inr rfl, trivial⟩, ⟨rfl, trivial⟩, ⟨rfl, trivial⟩, ⟨rfl, trivial⟩, ⟨rfl, trivial⟩, ⟨rfl, trivial⟩, ⟨rfl, trivial⟩, ⟨rfl, trivial⟩, ⟨rfl, trivial⟩, trivial⟩ hf1 (po := [(0, ci_0), (1, ci_1), (77, ci_77), (79, ci_79), (80, ci_80), (81, ci_81), (82, ci_82), (83, ci_83), (84, ci_84), (85, ci_85), (86, ci_86)]) (List.forall_mem_cons.mpr ⟨lx_po hH1 rfl (fun e2 q => cx_to_obj (N := 12) q rfl (otl_0 (mi := fun _ => cx_toI (m0 11)))), (List.forall_mem_cons.mpr ⟨lx_po hH1 rfl (fun e2 q => cx_to_row q cx_anyU), (List.forall_mem_cons.mpr ⟨lx_po hH1 rfl (fun e2 q => cx_to_obj (N := 12) q rfl (otl_77 (mi := fun i => cx_toI (m77 i)) (ml := upl (fun i => cx_toL (m77 i)) 6 bfx) hbd77)), (List.forall_mem_cons.mpr ⟨lx_po hH1 rfl (fun e2 q => cx_to_long q cx_anyL), (List.forall_mem_cons.mpr ⟨lx_po hH1 rfl (fun e2 q => cx_to_long q cx_anyL), (List.forall_mem_cons.mpr ⟨lx_po hH1 rfl (fun e2 q => cx_to_rows q), (List.forall_mem_cons.mpr ⟨lx_po hH1 rfl (fun e2 q => cx_to_long q cx_anyL), (List.forall_mem_cons.mpr ⟨lx_po hH1 rfl (fun e2 q => cx_to_long q cx_anyL), (List.forall_mem_cons.mpr ⟨lx_po hH1 rfl (fun e2 q => cx_to_long q cx_anyL), (List.forall_mem_cons.mpr ⟨lx_po hH1 rfl (fun e2 q => cx_to_row q cx_anyU), (List.forall_mem_cons.mpr ⟨lx_po hH1 rfl (fun e2 q => cx_to_row q cx_anyU), (fun _ h => absurd h List.not_mem_nil)⟩)⟩)⟩)⟩)⟩)⟩)⟩)⟩)⟩)⟩)⟩) (List.all_eq_true.mp tk23x a (List.mem_range.mpr ha11))
  have hth2 : ab_th tS (ab_tys cs) (lw_THn a) ws2 := lx_done2 (fl := [8616, 8665, 8666]) hth1 hM1 hH2 ⟨⟨rfl, rfl, Or.inl rfl, Or.inr rfl, Or.inr rfl, Or.inr rfl, Or.inr rfl, Or.inr rfl, Or.inr rfl, Or.inr rfl, Or.inr rfl, Or.inr rfl, Or.inr rfl, Or.inr rfl, Or.inr rfl, Or.inr rfl, Or.inr rfl, Or.inr rfl, Or.inr rfl, Or.inr rfl, Or.inr rfl, Or.inr rfl, Or.inr rfl, Or.inr rfl, Or.inr rfl, Or.inr rfl, Or.inr rfl, Or.inr rfl, Or.inr rfl, Or.inr rfl, Or.inr rfl, Or.inr rfl, Or.inr rfl, Or.inr rfl, Or.inr rfl, Or.inr rfl, Or.inr rfl, Or.inr rfl, Or.inr rfl, Or.inr rfl, Or.inr rfl, Or.inr rfl, Or.inr rfl, Or.inr rfl, Or.inr rfl, Or.inr rfl, Or.inr rfl, Or.inr rfl, Or.inr rfl, Or.inr rfl, Or.inr rfl, Or.inl rfl, Or.inl rfl, Or.inr rfl, Or.inr rfl, Or.inr rfl, Or.inr rfl, Or.inr rfl, Or.inr rfl, Or.inr rfl, Or.inr rfl, Or.inr rfl, Or.inr rfl, Or.inr rfl, Or.inr rfl, Or.inr rfl, Or.inr rfl, Or.inr rfl, Or.inr rfl, Or.inr rfl, trivial⟩, ⟨rfl, trivial⟩, ⟨rfl, trivial⟩, ⟨rfl, trivial⟩, ⟨rfl, trivial⟩, ⟨rfl, trivial⟩, ⟨rfl, trivial⟩, trivial⟩ hf2 (po := [(119, sq_119 a), (126, ci_126), (144, sq_144 a), (145, ci_145), (146, ci_146), (147, ci_147), (148, ci_148)]) (List.forall_mem_cons.mpr ⟨lx_po hH2 rfl (fun e2 q => cx_to_obj (N := 68) q rfl (otl_119c (a := a) (mi := upi (fun i => cx_toI (m119 i)) 0 (Int32.ofInt 0)) (ml := upl (upl (fun i => cx_toL (m119 i)) 49 bl2) 50 wt2) hbd119)), (List.forall_mem_cons.mpr ⟨lx_po hH2 rfl (fun e2 q => cx_to_row q cx_anyU), (List.forall_mem_cons.mpr ⟨lx_po hH2 rfl (fun e2 q => cx_to_long q (fun i hi => p12U (by rw [hfm2 i hi]; exact hpb i hi))), (List.forall_mem_cons.mpr ⟨lx_po hH2 rfl (fun e2 q => cx_to_long q cx_anyL), (List.forall_mem_cons.mpr ⟨lx_po hH2 rfl (fun e2 q => cx_to_long q cx_anyL), (List.forall_mem_cons.mpr ⟨lx_po hH2 rfl (fun e2 q => cx_to_row q cx_anyU), (List.forall_mem_cons.mpr ⟨lx_po hH2 rfl (fun e2 q => cx_to_row q cx_anyU), (fun _ h => absurd h List.not_mem_nil)⟩)⟩)⟩)⟩)⟩)⟩)⟩) (List.all_eq_true.mp tk23m a (List.mem_range.mpr ha11))
  refine lx_eq F0 (pc' := 1810) (ab_tbo lto_23 _ _ _ (List.mem_of_getElem? (i := 34) rfl)) rfl hfin ?_
  have hX2 := cx_heap_far hH1 hf2 rfl
  have hE2 := cx_heap_far (cx_heap_far hE hf1 rfl) hf2 rfl
  refine K ls ws2 (lx_Lc hl1 hf2.1) ⟨lw_THn a, sq_in ha2, hth2⟩ ?_ hlen2
  refine ⟨⟨List.forall_mem_cons.mpr ⟨?_, List.forall_mem_cons.mpr ⟨?_, fun q h => absurd h List.not_mem_nil⟩⟩, List.forall_mem_cons.mpr ⟨?_, List.forall_mem_cons.mpr ⟨?_, List.forall_mem_cons.mpr ⟨?_, List.forall_mem_cons.mpr ⟨?_, List.forall_mem_cons.mpr ⟨?_, fun q h => absurd h List.not_mem_nil⟩⟩⟩⟩⟩, List.forall_mem_cons.mpr ⟨?_, fun q h => absurd h List.not_mem_nil⟩⟩, ?_⟩
  · obtain ⟨ax, ex, wx, cx⟩ := hE2 78 _ rfl
    obtain ⟨ay, ey, wy, cy⟩ := hE2 143 _ rfl
    exact ⟨_, cx_row1 (cx_rowv wy cy), (cx_rowv wx cx).trans (congrArg some (cx_rowM (fun i hi => hEt i hi)))⟩
  · obtain ⟨ax, ex, wx, cx⟩ := hX2 79 _ rfl
    obtain ⟨ay, ey, wy, cy⟩ := hH2 144 _ rfl
    exact ⟨_, cx_row1 (cx_rowvL wy cy), (cx_rowvL wx cx).trans (congrArg some (cx_rowML (fun i hi => hEfk i hi)))⟩
  · obtain ⟨ax, ex, wx, cx⟩ := hX2 77 _ rfl
    obtain ⟨ay, ey, wy, cy⟩ := hH2 119 _ rfl
    exact ⟨_, cx_fldv wy cy (x := cx_toI (m119 42)) rfl rfl, (cx_fldv wx cx (x := cx_toI (m77 7)) rfl rfl).trans (by rw [hEl])⟩
  · obtain ⟨ax, ex, wx, cx⟩ := hX2 77 _ rfl
    obtain ⟨ay, ey, wy, cy⟩ := hH2 119 _ rfl
    exact ⟨_, cx_fldv wy cy (x := cx_toI (m119 43)) rfl rfl, (cx_fldv wx cx (x := cx_toI (m77 8)) rfl rfl).trans (by rw [hEs])⟩
  · obtain ⟨ax, ex, wx, cx⟩ := hX2 77 _ rfl
    obtain ⟨ay, ey, wy, cy⟩ := hH2 119 _ rfl
    exact ⟨_, cx_fldv wy cy (x := cx_toI (m119 44)) rfl rfl, (cx_fldv wx cx (x := cx_toI (m77 9)) rfl rfl).trans (by rw [hEr])⟩
  · obtain ⟨ax, ex, wx, cx⟩ := hX2 77 _ rfl
    obtain ⟨ay, ey, wy, cy⟩ := hH2 119 _ rfl
    exact ⟨_, cx_fldv wy cy (x := cx_toI (m119 41)) rfl rfl, (cx_fldv wx cx (x := cx_toI (m77 10)) rfl rfl).trans (by rw [hEm])⟩
  · obtain ⟨ax, ex, wx, cx⟩ := hX2 77 _ rfl
    obtain ⟨ay, ey, wy, cy⟩ := hH2 119 _ rfl
    exact ⟨_, cx_fldv wy cy (x := cx_toI (m119 45)) rfl rfl, (cx_fldv wx cx (x := cx_toI (m77 11)) rfl rfl).trans (by rw [hEb])⟩
  · obtain ⟨ay, ey, wy, cy⟩ := hH2 119 _ rfl
    exact ⟨_, cx_fldv wy cy (x := cx_toI (m119 45)) rfl rfl, hbo.1, hbo.2⟩
  · obtain ⟨ay, ey, wy, cy⟩ := hH2 119 _ rfl
    exact ⟨_, _, _, cx_fldv wy cy (x := cx_toI (m119 42)) rfl rfl, cx_fldv wy cy (x := cx_toI (m119 43)) rfl rfl, cx_fldv wy cy (x := cx_toI (m119 44)) rfl rfl, hs4e⟩
theorem tk24a : (List.range 11).all (fun a => tr_3 (lw_THn a) [(0, ci_0), (1, ci_1), (77, ci_77), (79, ci_79), (80, ci_80), (81, ci_81), (82, ci_82), (83, ci_83), (84, ci_84), (85, ci_85), (86, ci_86), (119, sq_119 a), (126, ci_126), (144, sq_144 a), (145, ci_145), (146, ci_146), (147, ci_147), (148, ci_148), (78, ci_78), (143, ci_143)]) = true := by decide +kernel
theorem tk24x : (List.range 11).all (fun a => (lw_THn a).all (tr_1 (cx_M [0, 1, 77, 79, 80, 81, 82, 83, 84, 85, 86] [5934]) (lw_THn a) [(0, ci_0), (1, ci_1), (77, ci_77), (79, ci_79), (80, ci_80), (81, ci_81), (82, ci_82), (83, ci_83), (84, ci_84), (85, ci_85), (86, ci_86)])) = true := by decide +kernel
theorem tk24m : (List.range 11).all (fun a => (lw_THn a).all (tr_1 (cx_M [119, 126, 144, 145, 146, 147, 148] [8616, 8665, 8666]) (lw_THn a) [(119, sq_119 a), (126, ci_126), (144, sq_144 a), (145, ci_145), (146, ci_146), (147, ci_147), (148, ci_148)])) = true := by decide +kernel
theorem tz_24 : ∀ th ∈ lw_THs, lw_TQ 1239 th := by
  intro th hmem p l e s m below meth c D A Q cs tS b L i0 cells slots xs iv ws ls F0 hcs hiv hL hL2 hl hth hEQ hlen K
  obtain ⟨a, ha11, hthE⟩ := sq_of hmem
  subst hthE
  have h3 := tr_3_ok (List.all_eq_true.mp tk24a a (List.mem_range.mpr ha11)) hth
  obtain ⟨a0, e0, w0, t0⟩ := h3 _ (List.mem_of_getElem? (i := 0) rfl)
  obtain ⟨a1, e1, w1, t1⟩ := h3 _ (List.mem_of_getElem? (i := 1) rfl)
  obtain ⟨a77, e77, w77, t77⟩ := h3 _ (List.mem_of_getElem? (i := 2) rfl)
  obtain ⟨a79, e79, w79, t79⟩ := h3 _ (List.mem_of_getElem? (i := 3) rfl)
  obtain ⟨a80, e80, w80, t80⟩ := h3 _ (List.mem_of_getElem? (i := 4) rfl)
  obtain ⟨a81, e81, w81, t81⟩ := h3 _ (List.mem_of_getElem? (i := 5) rfl)
  obtain ⟨a82, e82, w82, t82⟩ := h3 _ (List.mem_of_getElem? (i := 6) rfl)
  obtain ⟨a83, e83, w83, t83⟩ := h3 _ (List.mem_of_getElem? (i := 7) rfl)
  obtain ⟨a84, e84, w84, t84⟩ := h3 _ (List.mem_of_getElem? (i := 8) rfl)
  obtain ⟨a85, e85, w85, t85⟩ := h3 _ (List.mem_of_getElem? (i := 9) rfl)
  obtain ⟨a86, e86, w86, t86⟩ := h3 _ (List.mem_of_getElem? (i := 10) rfl)
  obtain ⟨a119, e119, w119, t119⟩ := h3 _ (List.mem_of_getElem? (i := 11) rfl)
  obtain ⟨a126, e126, w126, t126⟩ := h3 _ (List.mem_of_getElem? (i := 12) rfl)
  obtain ⟨a144, e144, w144, t144⟩ := h3 _ (List.mem_of_getElem? (i := 13) rfl)
  obtain ⟨a145, e145, w145, t145⟩ := h3 _ (List.mem_of_getElem? (i := 14) rfl)
  obtain ⟨a146, e146, w146, t146⟩ := h3 _ (List.mem_of_getElem? (i := 15) rfl)
  obtain ⟨a147, e147, w147, t147⟩ := h3 _ (List.mem_of_getElem? (i := 16) rfl)
  obtain ⟨a148, e148, w148, t148⟩ := h3 _ (List.mem_of_getElem? (i := 17) rfl)
  obtain ⟨a78, e78, w78, t78⟩ := h3 _ (List.mem_of_getElem? (i := 18) rfl)
  obtain ⟨a143, e143, w143, t143⟩ := h3 _ (List.mem_of_getElem? (i := 19) rfl)
  obtain ⟨m0, c0, b0⟩ := cx_of_obj (ci := 10) (N := 12) (tvs := ots_0) t0
  obtain ⟨r1, c1, u1⟩ := cx_of_row (t := 0) (N := 7) (Or.inl rfl) t1
  obtain ⟨m77, c77, b77⟩ := cx_of_obj (ci := 6) (N := 12) (tvs := ots_77) t77
  have hbd77 := obd_77_of b77
  obtain ⟨f, c79, u79⟩ := cx_of_long (N := 32) t79
  obtain ⟨g, c80, u80⟩ := cx_of_long (N := 32) t80
  have c81 := cx_of_rows (t := 4) (N := 3) (ks := [82, 83, 84]) (Or.inr rfl) t81
  obtain ⟨b0, c82, u82⟩ := cx_of_long (N := 32) t82
  obtain ⟨b1, c83, u83⟩ := cx_of_long (N := 32) t83
  obtain ⟨b2, c84, u84⟩ := cx_of_long (N := 32) t84
  obtain ⟨tr, c85, u85⟩ := cx_of_row (t := 0) (N := 3) (Or.inl rfl) t85
  obtain ⟨bs, c86, u86⟩ := cx_of_row (t := 0) (N := 3) (Or.inl rfl) t86
  obtain ⟨m119, c119, b119⟩ := cx_of_obj (ci := 11) (N := 68) (tvs := ots_119c a) t119
  have hbd119 := obd_119c_of b119
  obtain ⟨r2, c126, u126⟩ := cx_of_row (t := 0) (N := 7) (Or.inl rfl) t126
  obtain ⟨fm, c144, u144⟩ := cx_of_long (N := 32) t144
  obtain ⟨nm, c145, u145⟩ := cx_of_long (N := 32) t145
  obtain ⟨kp, c146, u146⟩ := cx_of_long (N := 32) t146
  obtain ⟨ro, c147, u147⟩ := cx_of_row (t := 0) (N := 3) (Or.inl rfl) t147
  obtain ⟨br, c148, u148⟩ := cx_of_row (t := 0) (N := 3) (Or.inl rfl) t148
  obtain ⟨t, c78, u78⟩ := cx_of_row (t := 0) (N := 32) (Or.inl rfl) t78
  obtain ⟨tm, c143, u143⟩ := cx_of_row (t := 0) (N := 32) (Or.inl rfl) t143
  have hX : cx_heap tS cs (h_xk (cx_toI (m0 11)) r1 (cx_toL (m77 6)) (cx_toI (m77 7)) (cx_toI (m77 8)) (cx_toI (m77 9)) (cx_toI (m77 10)) (cx_toI (m77 11)) f g b0 b1 b2 tr bs) ws := cx_heap_of (List.forall_mem_cons.mpr ⟨⟨a0, e0, w0, c0⟩, (List.forall_mem_cons.mpr ⟨⟨a1, e1, w1, c1⟩, (List.forall_mem_cons.mpr ⟨⟨a77, e77, w77, c77⟩, (List.forall_mem_cons.mpr ⟨⟨a79, e79, w79, c79⟩, (List.forall_mem_cons.mpr ⟨⟨a80, e80, w80, c80⟩, (List.forall_mem_cons.mpr ⟨⟨a81, e81, w81, c81⟩, (List.forall_mem_cons.mpr ⟨⟨a82, e82, w82, c82⟩, (List.forall_mem_cons.mpr ⟨⟨a83, e83, w83, c83⟩, (List.forall_mem_cons.mpr ⟨⟨a84, e84, w84, c84⟩, (List.forall_mem_cons.mpr ⟨⟨a85, e85, w85, c85⟩, (List.forall_mem_cons.mpr ⟨⟨a86, e86, w86, c86⟩, (fun _ h => absurd h List.not_mem_nil)⟩)⟩)⟩)⟩)⟩)⟩)⟩)⟩)⟩)⟩)⟩)
  have hM : cx_heap tS cs (h_mk (fun i => cx_toI (m119 i)) (fun i => cx_toL (m119 i)) r2 ro br fm nm kp) ws := cx_heap_of (List.forall_mem_cons.mpr ⟨⟨a119, e119, w119, c119⟩, (List.forall_mem_cons.mpr ⟨⟨a126, e126, w126, c126⟩, (List.forall_mem_cons.mpr ⟨⟨a144, e144, w144, c144⟩, (List.forall_mem_cons.mpr ⟨⟨a145, e145, w145, c145⟩, (List.forall_mem_cons.mpr ⟨⟨a146, e146, w146, c146⟩, (List.forall_mem_cons.mpr ⟨⟨a147, e147, w147, c147⟩, (List.forall_mem_cons.mpr ⟨⟨a148, e148, w148, c148⟩, (fun _ h => absurd h List.not_mem_nil)⟩)⟩)⟩)⟩)⟩)⟩)⟩)
  have hE : cx_heap tS cs ([(78, .inr (.inl (0, 32, t))), (143, .inr (.inl (0, 32, tm)))]) ws := cx_heap_of (List.forall_mem_cons.mpr ⟨⟨a78, e78, w78, c78⟩, (List.forall_mem_cons.mpr ⟨⟨a143, e143, w143, c143⟩, (fun _ h => absurd h List.not_mem_nil)⟩)⟩)
  have ha0 : (ws.map (·.1))[0]? = some a0 := by rw [List.getElem?_map, w0]; rfl
  have ha119 : (ws.map (·.1))[119]? = some a119 := by rw [List.getElem?_map, w119]; rfl
  have hEt : ∀ i : Nat, i < 32 → t i = tm i := by
    obtain ⟨v, q2, q1⟩ := hEQ.1.1 ([143], 78) (List.mem_of_getElem? (i := 0) rfl)
    have q1 : rl_row ws 78 = some v := q1
    have q2 : rl_rows ws [143] = some v := q2
    rw [cx_rowv w78 c78] at q1
    rw [cx_row1 (cx_rowv w143 c143)] at q2
    exact cx_rowE (Option.some.inj (q1.trans q2.symm))
  have hEf : ∀ i : Nat, i < 32 → f i = fm i := by
    obtain ⟨v, q2, q1⟩ := hEQ.1.1 ([144], 79) (List.mem_of_getElem? (i := 1) rfl)
    have q1 : rl_row ws 79 = some v := q1
    have q2 : rl_rows ws [144] = some v := q2
    rw [cx_rowvL w79 c79] at q1
    rw [cx_row1 (cx_rowvL w144 c144)] at q2
    exact cx_rowEL (Option.some.inj (q1.trans q2.symm))
  have hEl : cx_toI (m77 7) = cx_toI (m119 42) := by
    obtain ⟨v, q2, q1⟩ := hEQ.1.2.1 ((119, 42), (77, 7)) (List.mem_of_getElem? (i := 0) rfl)
    have q1 : rl_fld ws (77, 7) = some v := q1
    have q2 : rl_fld ws (119, 42) = some v := q2
    rw [cx_fldv w77 c77 (x := cx_toI (m77 7)) rfl rfl] at q1
    rw [cx_fldv w119 c119 (x := cx_toI (m119 42)) rfl rfl] at q2
    exact Value.int.inj (Option.some.inj (q1.trans q2.symm))
  have hEs : cx_toI (m77 8) = cx_toI (m119 43) := by
    obtain ⟨v, q2, q1⟩ := hEQ.1.2.1 ((119, 43), (77, 8)) (List.mem_of_getElem? (i := 1) rfl)
    have q1 : rl_fld ws (77, 8) = some v := q1
    have q2 : rl_fld ws (119, 43) = some v := q2
    rw [cx_fldv w77 c77 (x := cx_toI (m77 8)) rfl rfl] at q1
    rw [cx_fldv w119 c119 (x := cx_toI (m119 43)) rfl rfl] at q2
    exact Value.int.inj (Option.some.inj (q1.trans q2.symm))
  have hEr : cx_toI (m77 9) = cx_toI (m119 44) := by
    obtain ⟨v, q2, q1⟩ := hEQ.1.2.1 ((119, 44), (77, 9)) (List.mem_of_getElem? (i := 2) rfl)
    have q1 : rl_fld ws (77, 9) = some v := q1
    have q2 : rl_fld ws (119, 44) = some v := q2
    rw [cx_fldv w77 c77 (x := cx_toI (m77 9)) rfl rfl] at q1
    rw [cx_fldv w119 c119 (x := cx_toI (m119 44)) rfl rfl] at q2
    exact Value.int.inj (Option.some.inj (q1.trans q2.symm))
  have hEm : cx_toI (m77 10) = cx_toI (m119 41) := by
    obtain ⟨v, q2, q1⟩ := hEQ.1.2.1 ((119, 41), (77, 10)) (List.mem_of_getElem? (i := 3) rfl)
    have q1 : rl_fld ws (77, 10) = some v := q1
    have q2 : rl_fld ws (119, 41) = some v := q2
    rw [cx_fldv w77 c77 (x := cx_toI (m77 10)) rfl rfl] at q1
    rw [cx_fldv w119 c119 (x := cx_toI (m119 41)) rfl rfl] at q2
    exact Value.int.inj (Option.some.inj (q1.trans q2.symm))
  have hEb : cx_toI (m77 11) = cx_toI (m119 45) := by
    obtain ⟨v, q2, q1⟩ := hEQ.1.2.1 ((119, 45), (77, 11)) (List.mem_of_getElem? (i := 4) rfl)
    have q1 : rl_fld ws (77, 11) = some v := q1
    have q2 : rl_fld ws (119, 45) = some v := q2
    rw [cx_fldv w77 c77 (x := cx_toI (m77 11)) rfl rfl] at q1
    rw [cx_fldv w119 c119 (x := cx_toI (m119 45)) rfl rfl] at q2
    exact Value.int.inj (Option.some.inj (q1.trans q2.symm))
  have hac : (Int.ofNat a) ≤ (cx_toI (m119 41)).toInt ∧ (cx_toI (m119 41)).toInt ≤ (Int.ofNat a) := hbd119.2.2.2.2.2.2.2.2.2.1
  have hac : (cx_toI (m119 41)).toInt = (a : Int) := by have h1 : (a : Int) ≤ (cx_toI (m119 41)).toInt := hac.1; have h2 : (cx_toI (m119 41)).toInt ≤ (a : Int) := hac.2; omega
  have hl4 : 0 ≤ (cx_toI (m119 42)).toInt ∧ (cx_toI (m119 42)).toInt ≤ 4 := hbd119.2.2.2.2.2.2.2.2.2.2.1
  have hs4 : 0 ≤ (cx_toI (m119 43)).toInt ∧ (cx_toI (m119 43)).toInt ≤ 4 := hbd119.2.2.2.2.2.2.2.2.2.2.2.1
  have hr4 : 0 ≤ (cx_toI (m119 44)).toInt ∧ (cx_toI (m119 44)).toInt ≤ 4 := hbd119.2.2.2.2.2.2.2.2.2.2.2.2.1
  obtain ⟨hbo, hs4e⟩ : (0 ≤ (cx_toI (m119 45)).toInt ∧ (cx_toI (m119 45)).toInt ≤ 31) ∧ (cx_toI (m119 42)).toInt + (cx_toI (m119 43)).toInt + (cx_toI (m119 44)).toInt = 4 := by
    obtain ⟨x, q1, q2, q3⟩ := hEQ.1.2.2 ((119, 45), 0, 31) (List.mem_of_getElem? (i := 0) rfl)
    have q1 : rl_fld ws (119, 45) = some (.int x) := q1
    rw [cx_fldv w119 c119 (x := cx_toI (m119 45)) rfl rfl] at q1
    obtain ⟨x1, y1, z1, p1, p2, p3, p4⟩ := hEQ.2
    rw [cx_fldv w119 c119 (x := cx_toI (m119 42)) rfl rfl] at p1
    rw [cx_fldv w119 c119 (x := cx_toI (m119 43)) rfl rfl] at p2
    rw [cx_fldv w119 c119 (x := cx_toI (m119 44)) rfl rfl] at p3
    rw [Value.int.inj (Option.some.inj q1), Value.int.inj (Option.some.inj p1), Value.int.inj (Option.some.inj p2), Value.int.inj (Option.some.inj p3)]
    exact ⟨⟨q2, q3⟩, p4⟩
  have hpb : ∀ x : Nat, x < 32 → 0 ≤ (fm x).toInt ∧ (fm x).toInt ≤ (1000000 * 12 ^ a : Int) := fun x hx => p12o (u144 x hx)
  have hm0 : 0 ≤ (cx_toI (m77 10)).toInt := by rw [hEm]; omega
  have hm1 : (cx_toI (m77 10)).toInt ≤ 10 := by rw [hEm]; omega
  have hm2 : 0 ≤ (cx_toI (m119 41)).toInt := by omega
  have hm3 : (cx_toI (m119 41)).toInt ≤ 10 := by omega
  have hbN : (cx_toI (m119 45)).toInt = (((cx_toI (m119 45)).toInt.toNat : Nat) : Int) := (Int.toNat_of_nonneg hbo.1).symm
  have hbX : (cx_toI (m77 11)).toInt = (((cx_toI (m119 45)).toInt.toNat : Nat) : Int) := by rw [hEb]; exact hbN
  have hb32 : (cx_toI (m119 45)).toInt.toNat < 32 := by omega
  have hmm : ∀ x : Int32, 1 ≤ x.toInt → x.toInt ≤ 3 → x.toInt = ((x.toInt.toNat : Nat) : Int) := fun x h _ => (Int.toNat_of_nonneg (by omega)).symm
  obtain ⟨fs0, e0q, -⟩ := id c0
  subst e0q
  refine lx_x F0 hl (pc' := 1240) (ab_tbo lto_24 _ _ _ (List.mem_of_getElem? (i := 0) rfl)) rfl ha0 ?_
  refine lx_arg F0 hiv hL hL2 hl (z := 1) (pc' := 1246) rfl (ab_tbo lto_24 _ _ _ (List.mem_of_getElem? (i := 1) rfl)) (ab_tbo lto_24 _ _ _ (List.mem_of_getElem? (i := 2) rfl)) (ab_tbo lto_24 _ _ _ (List.mem_of_getElem? (i := 3) rfl)) (ab_tbo lto_24 _ _ _ (List.mem_of_getElem? (i := 4) rfl)) (ab_tbo lto_24 _ _ _ (List.mem_of_getElem? (i := 5) rfl)) rfl ?_
  refine lx_arg F0 hiv hL hL2 hl (z := 2) (pc' := 1252) rfl (ab_tbo lto_24 _ _ _ (List.mem_of_getElem? (i := 6) rfl)) (ab_tbo lto_24 _ _ _ (List.mem_of_getElem? (i := 7) rfl)) (ab_tbo lto_24 _ _ _ (List.mem_of_getElem? (i := 8) rfl)) (ab_tbo lto_24 _ _ _ (List.mem_of_getElem? (i := 9) rfl)) (ab_tbo lto_24 _ _ _ (List.mem_of_getElem? (i := 10) rfl)) rfl ?_
  obtain ⟨d1, hd1, Ct1⟩ := ct_chance (dy := cx_toI (m0 11)) (r := r1) (bf := cx_toL (m77 6)) (dl := cx_toI (m77 7)) (ds := cx_toI (m77 8)) (dr := cx_toI (m77 9)) (md := cx_toI (m77 10)) (bo := cx_toI (m77 11)) (f := f) (g := g) (a0 := b0) (a1 := b1) (a2 := b2) (tr := tr) (b := bs) (m := xs (i0 + 1)) (q := xs (i0 + 2)) hm0 hm1 (hmm _) hbX hb32 l D cs tS ws [.ref a0, .int (xs (i0 + 1)), .int (xs (i0 + 2))] hX ⟨⟨a0, ha0, rfl⟩, rfl, rfl, trivial⟩
  refine lx_call F0 hcs hl (pc' := 1255) (q := 152) (n := 2) (ci := 10) (As := [.int (xs (i0 + 1)), .int (xs (i0 + 2))]) (stk := []) (ab_tbo lto_24 _ _ _ (List.mem_of_getElem? (i := 11) rfl)) rfl rfl rfl w0 (by decide) ⟨d1, by omega, Ct1⟩ rfl (fun rv ws1 hp1 => ?_)
  obtain ⟨v, h1, ⟨z, rr, bfx, gx2, x0r, x1r, x2r, trx, bsx, rfl, rfl, hdx⟩, hk1, hf1, hH1, hrv⟩ := hp1
  obtain rfl : rv = some (.int z) := by
    cases rv with
    | none => exact hrv.elim
    | some y => exact congrArg some hrv
  show ab_W p l e room_1 s m #[Value.ref b] below meth c D vwCl A Q cells slots 1255 ls [.int z] ws1
  refine lx_pop F0 (pc' := 1256) (ab_tbo lto_24 _ _ _ (List.mem_of_getElem? (i := 12) rfl)) rfl ?_
  have hl1 := lx_Lc hl hf1.1
  have hM1 := cx_heap_far hM hf1 rfl
  have ha119b : (ws1.map (·.1))[119]? = some a119 := by rw [hf1.1]; exact ha119
  refine lx_m F0 hl1 (pc' := 1257) (ab_tbo lto_24 _ _ _ (List.mem_of_getElem? (i := 13) rfl)) rfl ha119b ?_
  refine lx_arg F0 hiv hL hL2 hl1 (z := 1) (pc' := 1263) rfl (ab_tbo lto_24 _ _ _ (List.mem_of_getElem? (i := 14) rfl)) (ab_tbo lto_24 _ _ _ (List.mem_of_getElem? (i := 15) rfl)) (ab_tbo lto_24 _ _ _ (List.mem_of_getElem? (i := 16) rfl)) (ab_tbo lto_24 _ _ _ (List.mem_of_getElem? (i := 17) rfl)) (ab_tbo lto_24 _ _ _ (List.mem_of_getElem? (i := 18) rfl)) rfl ?_
  refine lx_arg F0 hiv hL hL2 hl1 (z := 2) (pc' := 1269) rfl (ab_tbo lto_24 _ _ _ (List.mem_of_getElem? (i := 19) rfl)) (ab_tbo lto_24 _ _ _ (List.mem_of_getElem? (i := 20) rfl)) (ab_tbo lto_24 _ _ _ (List.mem_of_getElem? (i := 21) rfl)) (ab_tbo lto_24 _ _ _ (List.mem_of_getElem? (i := 22) rfl)) (ab_tbo lto_24 _ _ _ (List.mem_of_getElem? (i := 23) rfl)) rfl ?_
  obtain ⟨a119c, e119c, w119c, c119c⟩ := hM1 119 _ rfl
  obtain ⟨fs119c, e119d, -⟩ := id c119c
  subst e119d
  have eadd : a119c = a119 := ab_ad_get ha119b w119c
  rw [eadd] at w119c
  obtain ⟨d2, hd2, Ct2⟩ := ct_mchance (mi := fun i => cx_toI (m119 i)) (ml := fun i => cx_toL (m119 i)) (r := r2) (ro := ro) (br := br) (f := fm) (n := nm) (kp := kp) (m := xs (i0 + 1)) (q := xs (i0 + 2)) hm2 hm3 (hmm _) hbN hb32 (fun hO => wS_ne hpb (by have h1 := hmm _ hO.1.1 hO.1.2.1; have h2 := hO.1.1; omega) (by have h1 := hmm _ hO.1.1 hO.1.2.1; have h2 := hO.2.2; have h3 : (cx_toI (m119 41)).toInt + 2 * (xs (i0 + 1)).toInt ≤ 10 := h2; omega) hO.2.1) l D cs tS ws1 [.ref a119, .int (xs (i0 + 1)), .int (xs (i0 + 2))] hM1 ⟨⟨a119, ha119b, rfl⟩, rfl, rfl, trivial⟩
  refine lx_call F0 hcs hl1 (pc' := 1272) (q := 238) (n := 2) (ci := 11) (As := [.int (xs (i0 + 1)), .int (xs (i0 + 2))]) (stk := []) (ab_tbo lto_24 _ _ _ (List.mem_of_getElem? (i := 24) rfl)) rfl rfl rfl w119c (by first | decide | exact (by decide : (1 : Nat) ≤ 8)) ⟨d2, by omega, Ct2⟩ rfl (fun rv2 ws2 hp2 => ?_)
  obtain ⟨v2, h2, ⟨z2, rr2, rox, brx, fm2, nm2, kp2, bl2, wt2, rfl, rfl, hfm2, hdm⟩, hk2, hf2, hH2, hrv2⟩ := hp2
  obtain rfl : rv2 = some (.int z2) := by
    cases rv2 with
    | none => exact hrv2.elim
    | some y => exact congrArg some hrv2
  show ab_W p l e room_1 s m #[Value.ref b] below meth c D vwCl A Q cells slots 1272 ls [.int z2] ws2
  have hEfk : ∀ i : Nat, i < 32 → f i = fm2 i := fun i hi => (hEf i hi).trans (hfm2 i hi).symm
  have ha2 := ha11
  have hfin : z = z2 := by
    rw [sumL_E 32 hEf, hEm] at hdx
    rcases hdx with x1 | ⟨x1, x2⟩ <;> rcases hdm with c1 | ⟨c1, c2⟩
    · exact skR_E x1 c1
    · exact (skR_O x1 c1).elim
    · exact (skR_O c1 x1).elim
    · obtain ⟨⟨y1, y2, y3, y4⟩, y5, y6⟩ := id c1
      have hmz := hmm (xs (i0 + 1)) y1 y2
      exact ch_E (a := a) (mm := (xs (i0 + 1)).toInt.toNat) (bN := (cx_toI (m119 45)).toInt.toNat) (mi := fun i => cx_toI (m119 i)) (m := xs (i0 + 1)) (md := cx_toI (m119 41)) hEl hEs hEr (by rw [hEl]; exact hl4.1) (by rw [hEs]; exact hs4.1) (by rw [hEr]; exact hr4.1) (by rw [hEl, hEs, hEr]; exact hs4e) ⟨y3, y4⟩ hEf hpb (by omega) (by omega) (by omega) hb32 y5 x2 c2
  have hlen1 : ws1.length = 165 := by have := congrArg List.length hf1.1; simpa [hlen] using this
  have hlen2 : ws2.length = 165 := by have := congrArg List.length hf2.1; simpa [hlen1] using this
  have hth1 : ab_th tS (ab_tys cs) (lw_THn a) ws1 := lx_done (fl := [5934]) hth hX hH1 ⟨⟨rfl, rfl, Or.inr rfl, Or.inr rfl, Or.inr rfl, Or.inr rfl, Or.inr rfl, Or.inr rfl, Or.inr rfl, Or.inr rfl, Or.inr rfl, Or.inr rfl, Or.inr rfl, Or.inr rfl, trivial⟩, ⟨rfl, trivial⟩, ⟨rfl, rfl, Or.inr rfl, Or.inr rfl, Or.inr rfl, Or.inr rfl, Or.inr rfl, Or.inr rfl, Or.inl rfl, Or.inr rfl, Or.inr rfl, Or.inr rfl, Or.inr rfl, Or.inr rfl, trivial⟩, ⟨rfl, trivial⟩, ⟨rfl, trivial⟩, ⟨rfl, trivial⟩, ⟨rfl, trivial⟩, ⟨rfl, trivial⟩, ⟨rfl, trivial⟩, ⟨rfl, trivial⟩, ⟨rfl, trivial⟩, trivial⟩ hf1 (po := [(0, ci_0), (1, ci_1), (77, ci_77), (79, ci_79), (80, ci_80), (81, ci_81), (82, ci_82), (83, ci_83), (84, ci_84), (85, ci_85), (86, ci_86)]) (List.forall_mem_cons.mpr ⟨lx_po hH1 rfl (fun e2 q => cx_to_obj (N := 12) q rfl (otl_0 (mi := fun _ => cx_toI (m0 11)))), (List.forall_mem_cons.mpr ⟨lx_po hH1 rfl (fun e2 q => cx_to_row q cx_anyU), (List.forall_mem_cons.mpr ⟨lx_po hH1 rfl (fun e2 q => cx_to_obj (N := 12) q rfl (otl_77 (mi := fun i => cx_toI (m77 i)) (ml := upl (fun i => cx_toL (m77 i)) 6 bfx) hbd77)), (List.forall_mem_cons.mpr ⟨lx_po hH1 rfl (fun e2 q => cx_to_long q cx_anyL), (List.forall_mem_cons.mpr ⟨lx_po hH1 rfl (fun e2 q => cx_to_long q cx_anyL), (List.forall_mem_cons.mpr ⟨lx_po hH1 rfl (fun e2 q => cx_to_rows q), (List.forall_mem_cons.mpr ⟨lx_po hH1 rfl (fun e2 q => cx_to_long q cx_anyL), (List.forall_mem_cons.mpr ⟨lx_po hH1 rfl (fun e2 q => cx_to_long q cx_anyL), (List.forall_mem_cons.mpr ⟨lx_po hH1 rfl (fun e2 q => cx_to_long q cx_anyL), (List.forall_mem_cons.mpr ⟨lx_po hH1 rfl (fun e2 q => cx_to_row q cx_anyU), (List.forall_mem_cons.mpr ⟨lx_po hH1 rfl (fun e2 q => cx_to_row q cx_anyU), (fun _ h => absurd h List.not_mem_nil)⟩)⟩)⟩)⟩)⟩)⟩)⟩)⟩)⟩)⟩)⟩) (List.all_eq_true.mp tk24x a (List.mem_range.mpr ha11))
  have hth2 : ab_th tS (ab_tys cs) (lw_THn a) ws2 := lx_done2 (fl := [8616, 8665, 8666]) hth1 hM1 hH2 ⟨⟨rfl, rfl, Or.inl rfl, Or.inr rfl, Or.inr rfl, Or.inr rfl, Or.inr rfl, Or.inr rfl, Or.inr rfl, Or.inr rfl, Or.inr rfl, Or.inr rfl, Or.inr rfl, Or.inr rfl, Or.inr rfl, Or.inr rfl, Or.inr rfl, Or.inr rfl, Or.inr rfl, Or.inr rfl, Or.inr rfl, Or.inr rfl, Or.inr rfl, Or.inr rfl, Or.inr rfl, Or.inr rfl, Or.inr rfl, Or.inr rfl, Or.inr rfl, Or.inr rfl, Or.inr rfl, Or.inr rfl, Or.inr rfl, Or.inr rfl, Or.inr rfl, Or.inr rfl, Or.inr rfl, Or.inr rfl, Or.inr rfl, Or.inr rfl, Or.inr rfl, Or.inr rfl, Or.inr rfl, Or.inr rfl, Or.inr rfl, Or.inr rfl, Or.inr rfl, Or.inr rfl, Or.inr rfl, Or.inr rfl, Or.inr rfl, Or.inl rfl, Or.inl rfl, Or.inr rfl, Or.inr rfl, Or.inr rfl, Or.inr rfl, Or.inr rfl, Or.inr rfl, Or.inr rfl, Or.inr rfl, Or.inr rfl, Or.inr rfl, Or.inr rfl, Or.inr rfl, Or.inr rfl, Or.inr rfl, Or.inr rfl, Or.inr rfl, Or.inr rfl, trivial⟩, ⟨rfl, trivial⟩, ⟨rfl, trivial⟩, ⟨rfl, trivial⟩, ⟨rfl, trivial⟩, ⟨rfl, trivial⟩, ⟨rfl, trivial⟩, trivial⟩ hf2 (po := [(119, sq_119 a), (126, ci_126), (144, sq_144 a), (145, ci_145), (146, ci_146), (147, ci_147), (148, ci_148)]) (List.forall_mem_cons.mpr ⟨lx_po hH2 rfl (fun e2 q => cx_to_obj (N := 68) q rfl (otl_119c (a := a) (mi := upi (fun i => cx_toI (m119 i)) 0 (Int32.ofInt 0)) (ml := upl (upl (fun i => cx_toL (m119 i)) 49 bl2) 50 wt2) hbd119)), (List.forall_mem_cons.mpr ⟨lx_po hH2 rfl (fun e2 q => cx_to_row q cx_anyU), (List.forall_mem_cons.mpr ⟨lx_po hH2 rfl (fun e2 q => cx_to_long q (fun i hi => p12U (by rw [hfm2 i hi]; exact hpb i hi))), (List.forall_mem_cons.mpr ⟨lx_po hH2 rfl (fun e2 q => cx_to_long q cx_anyL), (List.forall_mem_cons.mpr ⟨lx_po hH2 rfl (fun e2 q => cx_to_long q cx_anyL), (List.forall_mem_cons.mpr ⟨lx_po hH2 rfl (fun e2 q => cx_to_row q cx_anyU), (List.forall_mem_cons.mpr ⟨lx_po hH2 rfl (fun e2 q => cx_to_row q cx_anyU), (fun _ h => absurd h List.not_mem_nil)⟩)⟩)⟩)⟩)⟩)⟩)⟩) (List.all_eq_true.mp tk24m a (List.mem_range.mpr ha11))
  refine lx_pop F0 (pc' := 1273) (ab_tbo lto_24 _ _ _ (List.mem_of_getElem? (i := 25) rfl)) rfl ?_
  refine lx_goto F0 (pc' := 1810) (ab_tbo lto_24 _ _ _ (List.mem_of_getElem? (i := 26) rfl)) rfl ?_
  have hX2 := cx_heap_far hH1 hf2 rfl
  have hE2 := cx_heap_far (cx_heap_far hE hf1 rfl) hf2 rfl
  refine K ls ws2 (lx_Lc hl1 hf2.1) ⟨lw_THn a, sq_in ha2, hth2⟩ ?_ hlen2
  refine ⟨⟨List.forall_mem_cons.mpr ⟨?_, List.forall_mem_cons.mpr ⟨?_, fun q h => absurd h List.not_mem_nil⟩⟩, List.forall_mem_cons.mpr ⟨?_, List.forall_mem_cons.mpr ⟨?_, List.forall_mem_cons.mpr ⟨?_, List.forall_mem_cons.mpr ⟨?_, List.forall_mem_cons.mpr ⟨?_, fun q h => absurd h List.not_mem_nil⟩⟩⟩⟩⟩, List.forall_mem_cons.mpr ⟨?_, fun q h => absurd h List.not_mem_nil⟩⟩, ?_⟩
  · obtain ⟨ax, ex, wx, cx⟩ := hE2 78 _ rfl
    obtain ⟨ay, ey, wy, cy⟩ := hE2 143 _ rfl
    exact ⟨_, cx_row1 (cx_rowv wy cy), (cx_rowv wx cx).trans (congrArg some (cx_rowM (fun i hi => hEt i hi)))⟩
  · obtain ⟨ax, ex, wx, cx⟩ := hX2 79 _ rfl
    obtain ⟨ay, ey, wy, cy⟩ := hH2 144 _ rfl
    exact ⟨_, cx_row1 (cx_rowvL wy cy), (cx_rowvL wx cx).trans (congrArg some (cx_rowML (fun i hi => hEfk i hi)))⟩
  · obtain ⟨ax, ex, wx, cx⟩ := hX2 77 _ rfl
    obtain ⟨ay, ey, wy, cy⟩ := hH2 119 _ rfl
    exact ⟨_, cx_fldv wy cy (x := cx_toI (m119 42)) rfl rfl, (cx_fldv wx cx (x := cx_toI (m77 7)) rfl rfl).trans (by rw [hEl])⟩
  · obtain ⟨ax, ex, wx, cx⟩ := hX2 77 _ rfl
    obtain ⟨ay, ey, wy, cy⟩ := hH2 119 _ rfl
    exact ⟨_, cx_fldv wy cy (x := cx_toI (m119 43)) rfl rfl, (cx_fldv wx cx (x := cx_toI (m77 8)) rfl rfl).trans (by rw [hEs])⟩
  · obtain ⟨ax, ex, wx, cx⟩ := hX2 77 _ rfl
    obtain ⟨ay, ey, wy, cy⟩ := hH2 119 _ rfl
    exact ⟨_, cx_fldv wy cy (x := cx_toI (m119 44)) rfl rfl, (cx_fldv wx cx (x := cx_toI (m77 9)) rfl rfl).trans (by rw [hEr])⟩
  · obtain ⟨ax, ex, wx, cx⟩ := hX2 77 _ rfl
    obtain ⟨ay, ey, wy, cy⟩ := hH2 119 _ rfl
    exact ⟨_, cx_fldv wy cy (x := cx_toI (m119 41)) rfl rfl, (cx_fldv wx cx (x := cx_toI (m77 10)) rfl rfl).trans (by rw [hEm])⟩
  · obtain ⟨ax, ex, wx, cx⟩ := hX2 77 _ rfl
    obtain ⟨ay, ey, wy, cy⟩ := hH2 119 _ rfl
    exact ⟨_, cx_fldv wy cy (x := cx_toI (m119 45)) rfl rfl, (cx_fldv wx cx (x := cx_toI (m77 11)) rfl rfl).trans (by rw [hEb])⟩
  · obtain ⟨ay, ey, wy, cy⟩ := hH2 119 _ rfl
    exact ⟨_, cx_fldv wy cy (x := cx_toI (m119 45)) rfl rfl, hbo.1, hbo.2⟩
  · obtain ⟨ay, ey, wy, cy⟩ := hH2 119 _ rfl
    exact ⟨_, _, _, cx_fldv wy cy (x := cx_toI (m119 42)) rfl rfl, cx_fldv wy cy (x := cx_toI (m119 43)) rfl rfl, cx_fldv wy cy (x := cx_toI (m119 44)) rfl rfl, hs4e⟩
end
