noncomputable section
theorem cx_heap_of {tS : Nat} {cs : Nat → ClassId} {h : cx_H} {ws : va_W} (H : ∀ q ∈ h, ∃ a2 e2, ws[q.1]? = some (a2, e2) ∧ cx_cell (ws.map (·.1)) tS cs q.2 e2) : cx_heap tS cs h ws := fun k c hk => H _ (cx_hg_mem hk)
theorem cx_nth {ws : va_W} {tS k N i a2 t : Nat} {cs : Nat → ClassId} {ad : List Nat} {f : Nat → Int32} {e2 : va_E} (hw : ws[k]? = some (a2, e2)) (hc : cx_cell ad tS cs (.inr (.inl (t, N, f))) e2) (hi : i < N) : rl_nth (rl_row ws k) i = some (.int (f i)) := by
  obtain ⟨-, rfl⟩ := hc
  unfold rl_row
  rw [hw]
  show ((List.range N).map (fun i => Value.int (f i)))[i]? = _
  rw [List.getElem?_map, List.getElem?_range hi]
  rfl
theorem cn_eq {f g : Nat → Int32} {b : Nat} : ∀ k : Nat, (∀ c : Nat, c < k → (g (24 * b + c)).toInt = (f c).toInt + 1 ∧ -1 ≤ (f c).toInt) → cn_x f k = cn_m g b k
  | 0, _ => rfl
  | k + 1, h => by
    rw [cn_x, cn_m, cn_eq k (fun c hc => h c (by omega))]
    obtain ⟨h1, h2⟩ := h k (by omega)
    have e1 : (Int32.ofInt (-1)).toInt = -1 := by decide +kernel
    by_cases q : f k = Int32.ofInt (-1)
    · rw [if_pos q, if_pos (by rw [h1, q, e1]; decide)]
    · have q2 : ¬ (f k).toInt = -1 := fun z => q (cx_i32 (by rw [z, e1]))
      rw [if_neg q, if_neg (by omega)]
def F4 (f0 f1 f2 f3 : Nat → Int32) : Nat → Nat → Int32 := fun i => bif Nat.beq i 0 then f0 else bif Nat.beq i 1 then f1 else bif Nat.beq i 2 then f2 else f3
def ots_0 : List ab_TV := [some (.inr (.inl [1])), some (.inr (.inl [2])), some (.inr (.inl [15])), some (.inr (.inl [21])), some (.inr (.inl [43])), some (.inr (.inl [68])), some (.inr (.inl [77])), some (.inr (.inl [87])), some (.inr (.inl [101])), some (.inr (.inl [107])), some (.inr (.inl [113])), some (.inl (false, .negSucc 2147483647, .ofNat 2147483647))]
theorem otl_0 {dy : Int32} : cx_tl ots_0 (vs_0 dy) := ⟨⟨_, rfl, List.mem_cons_self⟩, ⟨_, rfl, List.mem_cons_self⟩, ⟨_, rfl, List.mem_cons_self⟩, ⟨_, rfl, List.mem_cons_self⟩, ⟨_, rfl, List.mem_cons_self⟩, ⟨_, rfl, List.mem_cons_self⟩, ⟨_, rfl, List.mem_cons_self⟩, ⟨_, rfl, List.mem_cons_self⟩, ⟨_, rfl, List.mem_cons_self⟩, ⟨_, rfl, List.mem_cons_self⟩, ⟨_, rfl, List.mem_cons_self⟩, ⟨dy, rfl, lw_fullI dy⟩, trivial⟩
def ots_119 : List ab_TV := [some (.inl (false, .negSucc 2147483647, .ofNat 2147483647)), some (.inl (false, .negSucc 2147483647, .ofNat 2147483647)), some (.inr (.inl [120])), some (.inr (.inl [121])), some (.inr (.inl [122])), some (.inr (.inl [123])), some (.inr (.inl [124])), some (.inr (.inl [125])), some (.inl (false, .ofNat 0, .ofNat 4)), some (.inr (.inl [126])), some (.inl (false, .negSucc 8, .ofNat 9)), some (.inl (false, .negSucc 8, .ofNat 9)), some (.inl (false, .ofNat 0, .ofNat 99)), some (.inr (.inl [127])), some (.inr (.inl [128])), some (.inr (.inl [129])), some (.inr (.inl [130])), some (.inr (.inl [131])), some (.inr (.inl [132])), some (.inr (.inl [133])), some (.inr (.inl [134])), some (.inl (false, .ofNat 0, .ofNat 1)), some (.inl (false, .negSucc 2147483647, .ofNat 2147483647)), some (.inl (false, .negSucc 2147483647, .ofNat 2147483647)), some (.inl (false, .ofNat 0, .ofNat 1)), some (.inr (.inl [135])), some (.inl (false, .negSucc 2147483647, .ofNat 2147483647)), some (.inl (false, .ofNat 0, .ofNat 4)), some (.inr (.inl [136])), some (.inl (false, .ofNat 1, .ofNat 24)), some (.inl (false, .negSucc 2147483647, .ofNat 2147483647)), some (.inl (false, .ofNat 0, .ofNat 20)), some (.inr (.inl [137])), some (.inr (.inl [138])), some (.inr (.inl [139])), some (.inr (.inl [140])), some (.inr (.inl [141])), some (.inr (.inl [142])), some (.inr (.inl [143])), some (.inr (.inl [144])), some (.inr (.inl [145])), some (.inl (false, .ofNat 0, .ofNat 10)), some (.inl (false, .ofNat 0, .ofNat 4)), some (.inl (false, .ofNat 0, .ofNat 4)), some (.inl (false, .ofNat 0, .ofNat 4)), some (.inl (false, .negSucc 2147483647, .ofNat 2147483647)), some (.inr (.inl [146])), some (.inr (.inl [147])), some (.inr (.inl [148])), some (.inl (true, .negSucc 9223372036854775807, .ofNat 9223372036854775807)), some (.inl (true, .negSucc 9223372036854775807, .ofNat 9223372036854775807)), some (.inr (.inl [149])), some (.inr (.inl [150])), some (.inr (.inl [151])), some (.inr (.inl [152])), some (.inl (false, .ofNat 0, .ofNat 40)), some (.inr (.inl [153])), some (.inr (.inl [154])), some (.inr (.inl [155])), some (.inr (.inl [156])), some (.inr (.inl [157])), some (.inl (false, .ofNat 0, .ofNat 20)), some (.inr (.inl [158])), some (.inr (.inl [159])), some (.inr (.inl [160])), some (.inr (.inl [161])), some (.inr (.inl [162])), some (.inr (.inl [163]))]
/-- the bounds of the reference's numbers -/
def obd_119 (mi : Nat → Int32) : Prop := ((Int.ofNat 0) ≤ (mi 8).toInt ∧ (mi 8).toInt ≤ (Int.ofNat 4)) ∧ ((Int.negSucc 8) ≤ (mi 10).toInt ∧ (mi 10).toInt ≤ (Int.ofNat 9)) ∧ ((Int.negSucc 8) ≤ (mi 11).toInt ∧ (mi 11).toInt ≤ (Int.ofNat 9)) ∧ ((Int.ofNat 0) ≤ (mi 12).toInt ∧ (mi 12).toInt ≤ (Int.ofNat 99)) ∧ ((Int.ofNat 0) ≤ (mi 21).toInt ∧ (mi 21).toInt ≤ (Int.ofNat 1)) ∧ ((Int.ofNat 0) ≤ (mi 24).toInt ∧ (mi 24).toInt ≤ (Int.ofNat 1)) ∧ ((Int.ofNat 0) ≤ (mi 27).toInt ∧ (mi 27).toInt ≤ (Int.ofNat 4)) ∧ ((Int.ofNat 1) ≤ (mi 29).toInt ∧ (mi 29).toInt ≤ (Int.ofNat 24)) ∧ ((Int.ofNat 0) ≤ (mi 31).toInt ∧ (mi 31).toInt ≤ (Int.ofNat 20)) ∧ ((Int.ofNat 0) ≤ (mi 41).toInt ∧ (mi 41).toInt ≤ (Int.ofNat 10)) ∧ ((Int.ofNat 0) ≤ (mi 42).toInt ∧ (mi 42).toInt ≤ (Int.ofNat 4)) ∧ ((Int.ofNat 0) ≤ (mi 43).toInt ∧ (mi 43).toInt ≤ (Int.ofNat 4)) ∧ ((Int.ofNat 0) ≤ (mi 44).toInt ∧ (mi 44).toInt ≤ (Int.ofNat 4)) ∧ ((Int.ofNat 0) ≤ (mi 55).toInt ∧ (mi 55).toInt ≤ (Int.ofNat 40)) ∧ ((Int.ofNat 0) ≤ (mi 61).toInt ∧ (mi 61).toInt ≤ (Int.ofNat 20))
theorem lx_fullL (x : Int64) : (Int.negSucc 9223372036854775807) ≤ x.toInt ∧ x.toInt ≤ Int.ofNat 9223372036854775807 := by
  have h1 := Int64.le_toInt x
  have h2 := Int64.toInt_lt x
  constructor
  · have e1 : (Int.negSucc 9223372036854775807) = -2 ^ 63 := by decide
    rw [e1]; exact h1
  · have e1 : Int.ofNat 9223372036854775807 = 2 ^ 63 - 1 := by decide
    rw [e1]; omega
theorem otl_119 {mi : Nat → Int32} {ml : Nat → Int64} (hb : obd_119 mi) : cx_tl ots_119 (vs_119 mi ml) := ⟨⟨_, rfl, lw_fullI _⟩, ⟨_, rfl, lw_fullI _⟩, ⟨_, rfl, List.mem_cons_self⟩, ⟨_, rfl, List.mem_cons_self⟩, ⟨_, rfl, List.mem_cons_self⟩, ⟨_, rfl, List.mem_cons_self⟩, ⟨_, rfl, List.mem_cons_self⟩, ⟨_, rfl, List.mem_cons_self⟩, ⟨_, rfl, hb.1⟩, ⟨_, rfl, List.mem_cons_self⟩, ⟨_, rfl, hb.2.1⟩, ⟨_, rfl, hb.2.2.1⟩, ⟨_, rfl, hb.2.2.2.1⟩, ⟨_, rfl, List.mem_cons_self⟩, ⟨_, rfl, List.mem_cons_self⟩, ⟨_, rfl, List.mem_cons_self⟩, ⟨_, rfl, List.mem_cons_self⟩, ⟨_, rfl, List.mem_cons_self⟩, ⟨_, rfl, List.mem_cons_self⟩, ⟨_, rfl, List.mem_cons_self⟩, ⟨_, rfl, List.mem_cons_self⟩, ⟨_, rfl, hb.2.2.2.2.1⟩, ⟨_, rfl, lw_fullI _⟩, ⟨_, rfl, lw_fullI _⟩, ⟨_, rfl, hb.2.2.2.2.2.1⟩, ⟨_, rfl, List.mem_cons_self⟩, ⟨_, rfl, lw_fullI _⟩, ⟨_, rfl, hb.2.2.2.2.2.2.1⟩, ⟨_, rfl, List.mem_cons_self⟩, ⟨_, rfl, hb.2.2.2.2.2.2.2.1⟩, ⟨_, rfl, lw_fullI _⟩, ⟨_, rfl, hb.2.2.2.2.2.2.2.2.1⟩, ⟨_, rfl, List.mem_cons_self⟩, ⟨_, rfl, List.mem_cons_self⟩, ⟨_, rfl, List.mem_cons_self⟩, ⟨_, rfl, List.mem_cons_self⟩, ⟨_, rfl, List.mem_cons_self⟩, ⟨_, rfl, List.mem_cons_self⟩, ⟨_, rfl, List.mem_cons_self⟩, ⟨_, rfl, List.mem_cons_self⟩, ⟨_, rfl, List.mem_cons_self⟩, ⟨_, rfl, hb.2.2.2.2.2.2.2.2.2.1⟩, ⟨_, rfl, hb.2.2.2.2.2.2.2.2.2.2.1⟩, ⟨_, rfl, hb.2.2.2.2.2.2.2.2.2.2.2.1⟩, ⟨_, rfl, hb.2.2.2.2.2.2.2.2.2.2.2.2.1⟩, ⟨_, rfl, lw_fullI _⟩, ⟨_, rfl, List.mem_cons_self⟩, ⟨_, rfl, List.mem_cons_self⟩, ⟨_, rfl, List.mem_cons_self⟩, ⟨_, rfl, lx_fullL _⟩, ⟨_, rfl, lx_fullL _⟩, ⟨_, rfl, List.mem_cons_self⟩, ⟨_, rfl, List.mem_cons_self⟩, ⟨_, rfl, List.mem_cons_self⟩, ⟨_, rfl, List.mem_cons_self⟩, ⟨_, rfl, hb.2.2.2.2.2.2.2.2.2.2.2.2.2.1⟩, ⟨_, rfl, List.mem_cons_self⟩, ⟨_, rfl, List.mem_cons_self⟩, ⟨_, rfl, List.mem_cons_self⟩, ⟨_, rfl, List.mem_cons_self⟩, ⟨_, rfl, List.mem_cons_self⟩, ⟨_, rfl, hb.2.2.2.2.2.2.2.2.2.2.2.2.2.2⟩, ⟨_, rfl, List.mem_cons_self⟩, ⟨_, rfl, List.mem_cons_self⟩, ⟨_, rfl, List.mem_cons_self⟩, ⟨_, rfl, List.mem_cons_self⟩, ⟨_, rfl, List.mem_cons_self⟩, ⟨_, rfl, List.mem_cons_self⟩, trivial⟩
theorem bd_119_of {ad : List Nat} {tS : Nat} {m : Nat → Value} (h : ab_tl ad tS ots_119 ((List.range 68).map m)) : obd_119 (fun i => cx_toI (m i)) := ⟨cx_bdI h (i := 8) rfl, cx_bdI h (i := 10) rfl, cx_bdI h (i := 11) rfl, cx_bdI h (i := 12) rfl, cx_bdI h (i := 21) rfl, cx_bdI h (i := 24) rfl, cx_bdI h (i := 27) rfl, cx_bdI h (i := 29) rfl, cx_bdI h (i := 31) rfl, cx_bdI h (i := 41) rfl, cx_bdI h (i := 42) rfl, cx_bdI h (i := 43) rfl, cx_bdI h (i := 44) rfl, cx_bdI h (i := 55) rfl, cx_bdI h (i := 61) rfl⟩
theorem tk36a : lw_THs.all (fun th => tr_3 th [(0, ci_0), (1, ci_1), (113, ci_113), (114, ci_114), (115, ci_115), (116, ci_116), (117, ci_117), (118, ci_118), (119, ci_119), (126, ci_126), (163, ci_163)]) = true := by decide +kernel
theorem tk36x : lw_THs.all (fun th => th.all (tr_1 (cx_M [0, 1, 113, 114, 115, 116, 117, 118] []) th [(0, ci_0), (1, ci_1), (113, ci_113), (114, ci_114), (115, ci_115), (116, ci_116), (117, ci_117), (118, ci_118)])) = true := by decide +kernel
theorem tk36m : lw_THs.all (fun th => th.all (tr_1 (cx_M [119, 126, 163] [8616]) th [(119, ci_119), (126, ci_126), (163, ci_163)])) = true := by decide +kernel
theorem tz_36 : ∀ th ∈ lw_THs, lw_TQ 1699 th := by
  intro th hm p l e s m below meth c D A Q cs tS b L i0 cells slots xs iv ws ls F0 hcs hiv hL hL2 hl hth hEQ hlen K
  have h3 := tr_3_ok (List.all_eq_true.mp tk36a th hm) hth
  obtain ⟨a0, e0, w0, t0⟩ := h3 _ (List.mem_of_getElem? (i := 0) rfl)
  obtain ⟨a1, e1, w1, t1⟩ := h3 _ (List.mem_of_getElem? (i := 1) rfl)
  obtain ⟨a113, e113, w113, t113⟩ := h3 _ (List.mem_of_getElem? (i := 2) rfl)
  obtain ⟨a114, e114, w114, t114⟩ := h3 _ (List.mem_of_getElem? (i := 3) rfl)
  obtain ⟨a115, e115, w115, t115⟩ := h3 _ (List.mem_of_getElem? (i := 4) rfl)
  obtain ⟨a116, e116, w116, t116⟩ := h3 _ (List.mem_of_getElem? (i := 5) rfl)
  obtain ⟨a117, e117, w117, t117⟩ := h3 _ (List.mem_of_getElem? (i := 6) rfl)
  obtain ⟨a118, e118, w118, t118⟩ := h3 _ (List.mem_of_getElem? (i := 7) rfl)
  obtain ⟨a119, e119, w119, t119⟩ := h3 _ (List.mem_of_getElem? (i := 8) rfl)
  obtain ⟨a126, e126, w126, t126⟩ := h3 _ (List.mem_of_getElem? (i := 9) rfl)
  obtain ⟨a163, e163, w163, t163⟩ := h3 _ (List.mem_of_getElem? (i := 10) rfl)
  obtain ⟨m0, c0, -⟩ := cx_of_obj (ci := 10) (N := 12) (tvs := ots_0) t0
  obtain ⟨r1, c1, -⟩ := cx_of_row (t := 0) (N := 7) (Or.inl rfl) t1
  obtain ⟨m113, c113, -⟩ := cx_of_obj (ci := 2) (N := 1) (tvs := [some (.inr (.inl [114]))]) t113
  have c114 := cx_of_rows (t := 3) (N := 4) (ks := [115, 116, 117, 118]) (Or.inl rfl) t114
  obtain ⟨f0, c115, -⟩ := cx_of_row (t := 0) (N := 24) (Or.inl rfl) t115
  obtain ⟨f1, c116, -⟩ := cx_of_row (t := 0) (N := 24) (Or.inl rfl) t116
  obtain ⟨f2, c117, -⟩ := cx_of_row (t := 0) (N := 24) (Or.inl rfl) t117
  obtain ⟨f3, c118, -⟩ := cx_of_row (t := 0) (N := 24) (Or.inl rfl) t118
  obtain ⟨mm, c119, b119⟩ := cx_of_obj (ci := 11) (N := 68) (tvs := ots_119) t119
  have hbd := bd_119_of b119
  obtain ⟨r2, c126, -⟩ := cx_of_row (t := 0) (N := 7) (Or.inl rfl) t126
  obtain ⟨g, c163, -⟩ := cx_of_row (t := 0) (N := 96) (Or.inl rfl) t163
  have hX : cx_heap tS cs (h_xd (cx_toI (m0 11)) r1 (F4 f0 f1 f2 f3)) ws := cx_heap_of (List.forall_mem_cons.mpr ⟨⟨a0, e0, w0, c0⟩, (List.forall_mem_cons.mpr ⟨⟨a1, e1, w1, c1⟩, (List.forall_mem_cons.mpr ⟨⟨a113, e113, w113, c113⟩, (List.forall_mem_cons.mpr ⟨⟨a114, e114, w114, c114⟩, (List.forall_mem_cons.mpr ⟨⟨a115, e115, w115, c115⟩, (List.forall_mem_cons.mpr ⟨⟨a116, e116, w116, c116⟩, (List.forall_mem_cons.mpr ⟨⟨a117, e117, w117, c117⟩, (List.forall_mem_cons.mpr ⟨⟨a118, e118, w118, c118⟩, (fun _ h => absurd h List.not_mem_nil)⟩)⟩)⟩)⟩)⟩)⟩)⟩)⟩)
  have hM : cx_heap tS cs (h_md (fun i => cx_toI (mm i)) (fun i => cx_toL (mm i)) r2 g) ws := cx_heap_of (List.forall_mem_cons.mpr ⟨⟨a119, e119, w119, c119⟩, (List.forall_mem_cons.mpr ⟨⟨a126, e126, w126, c126⟩, (List.forall_mem_cons.mpr ⟨⟨a163, e163, w163, c163⟩, (fun _ h => absurd h List.not_mem_nil)⟩)⟩)⟩)
  have ha0 : (ws.map (·.1))[0]? = some a0 := by rw [List.getElem?_map, w0]; rfl
  have ha119 : (ws.map (·.1))[119]? = some a119 := by rw [List.getElem?_map, w119]; rfl
  have hrel : ∀ bb cc : Nat, bb < 4 → cc < 24 → (g (24 * bb + cc)).toInt = (F4 f0 f1 f2 f3 bb cc).toInt + 1 ∧ -1 ≤ (F4 f0 f1 f2 f3 bb cc).toInt ∧ (F4 f0 f1 f2 f3 bb cc).toInt ≤ 30 := fun bb cc hb hc => by
    obtain ⟨x, y, q1, q2, q3⟩ := hEQ.2 bb cc hb hc
    rw [cx_nth w163 c163 (show 24 * bb + cc < 96 by omega)] at q2
    have q2 : g (24 * bb + cc) = y := Value.int.inj (Option.some.inj q2)
    rw [q2]
    rcases (show bb = 0 ∨ bb = 1 ∨ bb = 2 ∨ bb = 3 by omega) with rfl | rfl | rfl | rfl
    · rw [cx_nth w115 c115 hc] at q1; rw [show F4 f0 f1 f2 f3 0 cc = x from Value.int.inj (Option.some.inj q1)]; exact q3
    · rw [cx_nth w116 c116 hc] at q1; rw [show F4 f0 f1 f2 f3 1 cc = x from Value.int.inj (Option.some.inj q1)]; exact q3
    · rw [cx_nth w117 c117 hc] at q1; rw [show F4 f0 f1 f2 f3 2 cc = x from Value.int.inj (Option.some.inj q1)]; exact q3
    · rw [cx_nth w118 c118 hc] at q1; rw [show F4 f0 f1 f2 f3 3 cc = x from Value.int.inj (Option.some.inj q1)]; exact q3
  obtain ⟨fs0, e0q, -⟩ := id c0
  subst e0q
  refine lx_x F0 hl (pc' := 1700) (ab_tbo lto_36 _ _ _ (List.mem_of_getElem? (i := 0) rfl)) rfl ha0 ?_
  refine lx_arg F0 hiv hL hL2 hl (z := 1) (pc' := 1706) rfl (ab_tbo lto_36 _ _ _ (List.mem_of_getElem? (i := 1) rfl)) (ab_tbo lto_36 _ _ _ (List.mem_of_getElem? (i := 2) rfl)) (ab_tbo lto_36 _ _ _ (List.mem_of_getElem? (i := 3) rfl)) (ab_tbo lto_36 _ _ _ (List.mem_of_getElem? (i := 4) rfl)) (ab_tbo lto_36 _ _ _ (List.mem_of_getElem? (i := 5) rfl)) rfl ?_
  refine lx_arg F0 hiv hL hL2 hl (z := 2) (pc' := 1712) rfl (ab_tbo lto_36 _ _ _ (List.mem_of_getElem? (i := 6) rfl)) (ab_tbo lto_36 _ _ _ (List.mem_of_getElem? (i := 7) rfl)) (ab_tbo lto_36 _ _ _ (List.mem_of_getElem? (i := 8) rfl)) (ab_tbo lto_36 _ _ _ (List.mem_of_getElem? (i := 9) rfl)) (ab_tbo lto_36 _ _ _ (List.mem_of_getElem? (i := 10) rfl)) rfl ?_
  refine lx_arg F0 hiv hL hL2 hl (z := 3) (pc' := 1718) rfl (ab_tbo lto_36 _ _ _ (List.mem_of_getElem? (i := 11) rfl)) (ab_tbo lto_36 _ _ _ (List.mem_of_getElem? (i := 12) rfl)) (ab_tbo lto_36 _ _ _ (List.mem_of_getElem? (i := 13) rfl)) (ab_tbo lto_36 _ _ _ (List.mem_of_getElem? (i := 14) rfl)) (ab_tbo lto_36 _ _ _ (List.mem_of_getElem? (i := 15) rfl)) rfl ?_
  obtain ⟨d1, hd1, Ct1⟩ := ct_drawn (dy := cx_toI (m0 11)) (b := xs (i0 + 1)) (c := xs (i0 + 2)) (n := xs (i0 + 3)) (r := r1) (F := F4 f0 f1 f2 f3) l D cs tS ws [.ref a0, .int (xs (i0 + 1)), .int (xs (i0 + 2)), .int (xs (i0 + 3))] hX ⟨⟨a0, ha0, rfl⟩, rfl, rfl, rfl, trivial⟩
  refine lx_call F0 hcs hl (pc' := 1721) (q := 164) (n := 3) (ci := 10) (As := [.int (xs (i0 + 1)), .int (xs (i0 + 2)), .int (xs (i0 + 3))]) (stk := []) (ab_tbo lto_36 _ _ _ (List.mem_of_getElem? (i := 16) rfl)) rfl rfl rfl w0 (by decide) ⟨d1, by omega, Ct1⟩ rfl (fun rv ws1 hp1 => ?_)
  obtain ⟨v, h1, ⟨z, rr, F2, rfl, rfl, hdr⟩, hk1, hf1, hH1, hrv⟩ := hp1
  obtain rfl : rv = some (.int z) := by
    cases rv with
    | none => exact hrv.elim
    | some y => exact congrArg some hrv
  show ab_W p l e room_1 s m #[Value.ref b] below meth c D vwCl A Q cells slots 1721 ls [.int z] ws1
  refine lx_pop F0 (pc' := 1722) (ab_tbo lto_36 _ _ _ (List.mem_of_getElem? (i := 17) rfl)) rfl ?_
  have hl1 := lx_Lc hl hf1.1
  have hM1 := cx_heap_far hM hf1 rfl
  have ha119b : (ws1.map (·.1))[119]? = some a119 := by rw [hf1.1]; exact ha119
  refine lx_m F0 hl1 (pc' := 1723) (ab_tbo lto_36 _ _ _ (List.mem_of_getElem? (i := 18) rfl)) rfl ha119b ?_
  refine lx_arg F0 hiv hL hL2 hl1 (z := 1) (pc' := 1729) rfl (ab_tbo lto_36 _ _ _ (List.mem_of_getElem? (i := 19) rfl)) (ab_tbo lto_36 _ _ _ (List.mem_of_getElem? (i := 20) rfl)) (ab_tbo lto_36 _ _ _ (List.mem_of_getElem? (i := 21) rfl)) (ab_tbo lto_36 _ _ _ (List.mem_of_getElem? (i := 22) rfl)) (ab_tbo lto_36 _ _ _ (List.mem_of_getElem? (i := 23) rfl)) rfl ?_
  refine lx_arg F0 hiv hL hL2 hl1 (z := 2) (pc' := 1735) rfl (ab_tbo lto_36 _ _ _ (List.mem_of_getElem? (i := 24) rfl)) (ab_tbo lto_36 _ _ _ (List.mem_of_getElem? (i := 25) rfl)) (ab_tbo lto_36 _ _ _ (List.mem_of_getElem? (i := 26) rfl)) (ab_tbo lto_36 _ _ _ (List.mem_of_getElem? (i := 27) rfl)) (ab_tbo lto_36 _ _ _ (List.mem_of_getElem? (i := 28) rfl)) rfl ?_
  refine lx_arg F0 hiv hL hL2 hl1 (z := 3) (pc' := 1741) rfl (ab_tbo lto_36 _ _ _ (List.mem_of_getElem? (i := 29) rfl)) (ab_tbo lto_36 _ _ _ (List.mem_of_getElem? (i := 30) rfl)) (ab_tbo lto_36 _ _ _ (List.mem_of_getElem? (i := 31) rfl)) (ab_tbo lto_36 _ _ _ (List.mem_of_getElem? (i := 32) rfl)) (ab_tbo lto_36 _ _ _ (List.mem_of_getElem? (i := 33) rfl)) rfl ?_
  obtain ⟨a119c, e119c, w119c, c119c⟩ := hM1 119 _ rfl
  obtain ⟨fs119c, e119d, -⟩ := id c119c
  subst e119d
  have eadd : a119c = a119 := ab_ad_get ha119b w119c
  rw [eadd] at w119c
  obtain ⟨d2, hd2, Ct2⟩ := ct_mdrawn (b := xs (i0 + 1)) (c := xs (i0 + 2)) (n := xs (i0 + 3)) (mi := fun i => cx_toI (mm i)) (ml := fun i => cx_toL (mm i)) (r := r2) (g := g) l D cs tS ws1 [.ref a119, .int (xs (i0 + 1)), .int (xs (i0 + 2)), .int (xs (i0 + 3))] hM1 ⟨⟨a119, ha119b, rfl⟩, rfl, rfl, rfl, trivial⟩
  refine lx_call F0 hcs hl1 (pc' := 1744) (q := 256) (n := 3) (ci := 11) (As := [.int (xs (i0 + 1)), .int (xs (i0 + 2)), .int (xs (i0 + 3))]) (stk := []) (ab_tbo lto_36 _ _ _ (List.mem_of_getElem? (i := 34) rfl)) rfl rfl rfl w119c (by first | decide | exact (by decide : (1 : Nat) ≤ 8)) ⟨d2, by omega, Ct2⟩ rfl (fun rv2 ws2 hp2 => ?_)
  obtain ⟨v2, h2, ⟨z2, rr2, g2, rfl, rfl, hdm⟩, hk2, hf2, hH2, hrv2⟩ := hp2
  obtain rfl : rv2 = some (.int z2) := by
    cases rv2 with
    | none => exact hrv2.elim
    | some y => exact congrArg some hrv2
  show ab_W p l e room_1 s m #[Value.ref b] below meth c D vwCl A Q cells slots 1744 ls [.int z2] ws2
  have hth1 : ab_th tS (ab_tys cs) th ws1 := lx_done (fl := []) hth hX hH1 ⟨⟨rfl, rfl, Or.inr rfl, Or.inr rfl, Or.inr rfl, Or.inr rfl, Or.inr rfl, Or.inr rfl, Or.inr rfl, Or.inr rfl, Or.inr rfl, Or.inr rfl, Or.inr rfl, Or.inr rfl, trivial⟩, ⟨rfl, trivial⟩, ⟨rfl, rfl, Or.inr rfl, trivial⟩, ⟨rfl, trivial⟩, ⟨rfl, trivial⟩, ⟨rfl, trivial⟩, ⟨rfl, trivial⟩, ⟨rfl, trivial⟩, trivial⟩ hf1 (po := [(0, ci_0), (1, ci_1), (113, ci_113), (114, ci_114), (115, ci_115), (116, ci_116), (117, ci_117), (118, ci_118)]) (List.forall_mem_cons.mpr ⟨lx_po hH1 rfl (fun e2 q => cx_to_obj (N := 12) q rfl otl_0), (List.forall_mem_cons.mpr ⟨lx_po hH1 rfl (fun e2 q => cx_to_row q cx_anyU), (List.forall_mem_cons.mpr ⟨lx_po hH1 rfl (fun e2 q => cx_to_obj (N := 1) q rfl ⟨⟨_, rfl, List.mem_cons_self⟩, trivial⟩), (List.forall_mem_cons.mpr ⟨lx_po hH1 rfl (fun e2 q => cx_to_rows q), (List.forall_mem_cons.mpr ⟨lx_po hH1 rfl (fun e2 q => cx_to_row q cx_anyU), (List.forall_mem_cons.mpr ⟨lx_po hH1 rfl (fun e2 q => cx_to_row q cx_anyU), (List.forall_mem_cons.mpr ⟨lx_po hH1 rfl (fun e2 q => cx_to_row q cx_anyU), (List.forall_mem_cons.mpr ⟨lx_po hH1 rfl (fun e2 q => cx_to_row q cx_anyU), (fun _ h => absurd h List.not_mem_nil)⟩)⟩)⟩)⟩)⟩)⟩)⟩)⟩) (List.all_eq_true.mp tk36x th hm)
  have hlen1 : ws1.length = 165 := by have := congrArg List.length hf1.1; simpa [hlen] using this
  have hbd2 : obd_119 (upi (fun i => cx_toI (mm i)) 0 (Int32.ofInt 0)) := hbd
  have hth2 : ab_th tS (ab_tys cs) th ws2 := lx_done (fl := [8616]) hth1 hM1 hH2 ⟨⟨rfl, rfl, Or.inl rfl, Or.inr rfl, Or.inr rfl, Or.inr rfl, Or.inr rfl, Or.inr rfl, Or.inr rfl, Or.inr rfl, Or.inr rfl, Or.inr rfl, Or.inr rfl, Or.inr rfl, Or.inr rfl, Or.inr rfl, Or.inr rfl, Or.inr rfl, Or.inr rfl, Or.inr rfl, Or.inr rfl, Or.inr rfl, Or.inr rfl, Or.inr rfl, Or.inr rfl, Or.inr rfl, Or.inr rfl, Or.inr rfl, Or.inr rfl, Or.inr rfl, Or.inr rfl, Or.inr rfl, Or.inr rfl, Or.inr rfl, Or.inr rfl, Or.inr rfl, Or.inr rfl, Or.inr rfl, Or.inr rfl, Or.inr rfl, Or.inr rfl, Or.inr rfl, Or.inr rfl, Or.inr rfl, Or.inr rfl, Or.inr rfl, Or.inr rfl, Or.inr rfl, Or.inr rfl, Or.inr rfl, Or.inr rfl, Or.inr rfl, Or.inr rfl, Or.inr rfl, Or.inr rfl, Or.inr rfl, Or.inr rfl, Or.inr rfl, Or.inr rfl, Or.inr rfl, Or.inr rfl, Or.inr rfl, Or.inr rfl, Or.inr rfl, Or.inr rfl, Or.inr rfl, Or.inr rfl, Or.inr rfl, Or.inr rfl, Or.inr rfl, trivial⟩, ⟨rfl, trivial⟩, ⟨rfl, trivial⟩, trivial⟩ hf2 (po := [(119, ci_119), (126, ci_126), (163, ci_163)]) (List.forall_mem_cons.mpr ⟨lx_po hH2 rfl (fun e2 q => cx_to_obj (N := 68) q rfl (otl_119 hbd2)), (List.forall_mem_cons.mpr ⟨lx_po hH2 rfl (fun e2 q => cx_to_row q cx_anyU), (List.forall_mem_cons.mpr ⟨lx_po hH2 rfl (fun e2 q => cx_to_row q cx_anyU), (fun _ h => absurd h List.not_mem_nil)⟩)⟩)⟩) (List.all_eq_true.mp tk36m th hm)
  have hlen2 : ws2.length = 165 := by have := congrArg List.length hf2.1; simpa [hlen1] using this
  have hfin : z = z2 ∧ ∀ bb cc : Nat, bb < 4 → cc < 24 → (g2 (24 * bb + cc)).toInt = (F2 bb cc).toInt + 1 ∧ -1 ≤ (F2 bb cc).toInt ∧ (F2 bb cc).toInt ≤ 30 := by
    rcases hdr with ⟨q1, q2, q3⟩ | ⟨q1, q2, q3, q4⟩ | ⟨q1, q2, q3, q4⟩ | ⟨q1, q2, q3, q4, q5⟩ <;> rcases hdm with ⟨s1, s2, s3⟩ | ⟨s1, s2, s3, s4⟩ | ⟨s1, s2, s3, s4⟩ | ⟨s1, s2, s3, s4, s5⟩
    · exact ⟨cx_i32 (by omega), by rw [q3, s3]; exact hrel⟩
    · exact absurd s1 q1
    · exact absurd s1 q1
    · exact absurd s1 q1
    · exact absurd q1 s1
    · exact ⟨cx_i32 (by omega), by rw [q4, s4]; exact hrel⟩
    · omega
    · omega
    · exact absurd q1 s1
    · omega
    · exact ⟨cx_i32 (by omega), by rw [q4, s4]; exact hrel⟩
    · omega
    · exact absurd q1 s1
    · omega
    · omega
    · have hB : ((xs (i0 + 1)).toNatClampNeg : Int) = (xs (i0 + 1)).toInt := ab_clamp q1.1.1
      have hC : ((xs (i0 + 2)).toNatClampNeg : Int) = (xs (i0 + 2)).toInt := ab_clamp q1.2.1
      have kc1 : (Int32.ofInt 1).toInt = 1 := by decide +kernel
      have hnw : ∀ bb cc : Nat, bb < 4 → cc < 24 → (g2 (24 * bb + cc)).toInt = (F2 bb cc).toInt + 1 ∧ -1 ≤ (F2 bb cc).toInt ∧ (F2 bb cc).toInt ≤ 30 := fun bb cc hb hc => by
        rw [q5, s5]
        by_cases eb : bb = (xs (i0 + 1)).toNatClampNeg
        · have u1 : ∀ f, up2 (F4 f0 f1 f2 f3) (xs (i0 + 1)).toNatClampNeg f bb = f := fun f => by
            unfold up2
            rw [eb, Nat.beq_refl]
            rfl
          rw [u1]
          by_cases ec : cc = (xs (i0 + 2)).toNatClampNeg
          · unfold upd
            rw [if_pos (by omega), if_pos ec, cx_addc (by omega) (by omega)]
            omega
          · unfold upd
            rw [if_neg (by omega), if_neg ec, ← eb]
            exact hrel bb cc hb hc
        · have u1 : ∀ f, up2 (F4 f0 f1 f2 f3) (xs (i0 + 1)).toNatClampNeg f bb = F4 f0 f1 f2 f3 bb := fun f => by
            unfold up2
            have : Nat.beq bb (xs (i0 + 1)).toNatClampNeg = false := by
              cases hq : Nat.beq bb (xs (i0 + 1)).toNatClampNeg with
              | false => rfl
              | true => exact absurd (Nat.eq_of_beq_eq_true hq) eb
            rw [this]
            rfl
          rw [u1]
          unfold upd
          rw [if_neg (by omega)]
          exact hrel bb cc hb hc
      refine ⟨cx_i32 ?_, hnw⟩
      rw [q4, s4]
      exact cn_eq 24 (fun cc hc => ⟨(hnw _ cc (by omega) hc).1, (hnw _ cc (by omega) hc).2.1⟩)
  refine lx_pop F0 (pc' := 1745) (ab_tbo lto_36 _ _ _ (List.mem_of_getElem? (i := 35) rfl)) rfl ?_
  refine lx_goto F0 (pc' := 1810) (ab_tbo lto_36 _ _ _ (List.mem_of_getElem? (i := 36) rfl)) rfl ?_
  refine K ls ws2 (lx_Lc hl1 hf2.1) ⟨th, hm, hth2⟩ ⟨?_, fun bb cc hb hc => ?_⟩ hlen2
  · exact ⟨fun q h => absurd h List.not_mem_nil, fun q h => absurd h List.not_mem_nil, fun q h => absurd h List.not_mem_nil⟩
  · have hX2 := cx_heap_far hH1 hf2 rfl
    obtain ⟨ag, eg, wg, cg⟩ := hH2 163 _ rfl
    refine ⟨F2 bb cc, g2 (24 * bb + cc), ?_, cx_nth wg cg (by omega), hfin.2 bb cc hb hc⟩
    rcases (show bb = 0 ∨ bb = 1 ∨ bb = 2 ∨ bb = 3 by omega) with rfl | rfl | rfl | rfl
    · obtain ⟨ag, eg, wg, cg⟩ := hX2 115 _ rfl; exact cx_nth wg cg hc
    · obtain ⟨ag, eg, wg, cg⟩ := hX2 116 _ rfl; exact cx_nth wg cg hc
    · obtain ⟨ag, eg, wg, cg⟩ := hX2 117 _ rfl; exact cx_nth wg cg hc
    · obtain ⟨ag, eg, wg, cg⟩ := hX2 118 _ rfl; exact cx_nth wg cg hc
theorem sm_eq {f g : Nat → Int32} {b : Nat} : ∀ k : Nat, (∀ c : Nat, c < k → (g (24 * b + c)).toInt = (f c).toInt + 1 ∧ -1 ≤ (f c).toInt) → sm_x f k = sm_m g b k
  | 0, _ => rfl
  | k + 1, h => by
    rw [sm_x, sm_m, sm_eq k (fun c hc => h c (by omega))]
    obtain ⟨h1, h2⟩ := h k (by omega)
    by_cases q : 0 < (f k).toInt
    · rw [if_pos q, if_neg (by omega)]; omega
    · rw [if_neg q]; split <;> omega
theorem tz_37 : ∀ th ∈ lw_THs, lw_TQ 1748 th := by
  intro th hm p l e s m below meth c D A Q cs tS b L i0 cells slots xs iv ws ls F0 hcs hiv hL hL2 hl hth hEQ hlen K
  have h3 := tr_3_ok (List.all_eq_true.mp tk36a th hm) hth
  obtain ⟨a0, e0, w0, t0⟩ := h3 _ (List.mem_of_getElem? (i := 0) rfl)
  obtain ⟨a1, e1, w1, t1⟩ := h3 _ (List.mem_of_getElem? (i := 1) rfl)
  obtain ⟨a113, e113, w113, t113⟩ := h3 _ (List.mem_of_getElem? (i := 2) rfl)
  obtain ⟨a114, e114, w114, t114⟩ := h3 _ (List.mem_of_getElem? (i := 3) rfl)
  obtain ⟨a115, e115, w115, t115⟩ := h3 _ (List.mem_of_getElem? (i := 4) rfl)
  obtain ⟨a116, e116, w116, t116⟩ := h3 _ (List.mem_of_getElem? (i := 5) rfl)
  obtain ⟨a117, e117, w117, t117⟩ := h3 _ (List.mem_of_getElem? (i := 6) rfl)
  obtain ⟨a118, e118, w118, t118⟩ := h3 _ (List.mem_of_getElem? (i := 7) rfl)
  obtain ⟨a119, e119, w119, t119⟩ := h3 _ (List.mem_of_getElem? (i := 8) rfl)
  obtain ⟨a126, e126, w126, t126⟩ := h3 _ (List.mem_of_getElem? (i := 9) rfl)
  obtain ⟨a163, e163, w163, t163⟩ := h3 _ (List.mem_of_getElem? (i := 10) rfl)
  obtain ⟨m0, c0, -⟩ := cx_of_obj (ci := 10) (N := 12) (tvs := ots_0) t0
  obtain ⟨r1, c1, -⟩ := cx_of_row (t := 0) (N := 7) (Or.inl rfl) t1
  obtain ⟨m113, c113, -⟩ := cx_of_obj (ci := 2) (N := 1) (tvs := [some (.inr (.inl [114]))]) t113
  have c114 := cx_of_rows (t := 3) (N := 4) (ks := [115, 116, 117, 118]) (Or.inl rfl) t114
  obtain ⟨f0, c115, -⟩ := cx_of_row (t := 0) (N := 24) (Or.inl rfl) t115
  obtain ⟨f1, c116, -⟩ := cx_of_row (t := 0) (N := 24) (Or.inl rfl) t116
  obtain ⟨f2, c117, -⟩ := cx_of_row (t := 0) (N := 24) (Or.inl rfl) t117
  obtain ⟨f3, c118, -⟩ := cx_of_row (t := 0) (N := 24) (Or.inl rfl) t118
  obtain ⟨mm, c119, b119⟩ := cx_of_obj (ci := 11) (N := 68) (tvs := ots_119) t119
  have hbd := bd_119_of b119
  obtain ⟨r2, c126, -⟩ := cx_of_row (t := 0) (N := 7) (Or.inl rfl) t126
  obtain ⟨g, c163, -⟩ := cx_of_row (t := 0) (N := 96) (Or.inl rfl) t163
  have hX : cx_heap tS cs (h_xd (cx_toI (m0 11)) r1 (F4 f0 f1 f2 f3)) ws := cx_heap_of (List.forall_mem_cons.mpr ⟨⟨a0, e0, w0, c0⟩, (List.forall_mem_cons.mpr ⟨⟨a1, e1, w1, c1⟩, (List.forall_mem_cons.mpr ⟨⟨a113, e113, w113, c113⟩, (List.forall_mem_cons.mpr ⟨⟨a114, e114, w114, c114⟩, (List.forall_mem_cons.mpr ⟨⟨a115, e115, w115, c115⟩, (List.forall_mem_cons.mpr ⟨⟨a116, e116, w116, c116⟩, (List.forall_mem_cons.mpr ⟨⟨a117, e117, w117, c117⟩, (List.forall_mem_cons.mpr ⟨⟨a118, e118, w118, c118⟩, (fun _ h => absurd h List.not_mem_nil)⟩)⟩)⟩)⟩)⟩)⟩)⟩)⟩)
  have hM : cx_heap tS cs (h_md (fun i => cx_toI (mm i)) (fun i => cx_toL (mm i)) r2 g) ws := cx_heap_of (List.forall_mem_cons.mpr ⟨⟨a119, e119, w119, c119⟩, (List.forall_mem_cons.mpr ⟨⟨a126, e126, w126, c126⟩, (List.forall_mem_cons.mpr ⟨⟨a163, e163, w163, c163⟩, (fun _ h => absurd h List.not_mem_nil)⟩)⟩)⟩)
  have ha0 : (ws.map (·.1))[0]? = some a0 := by rw [List.getElem?_map, w0]; rfl
  have ha119 : (ws.map (·.1))[119]? = some a119 := by rw [List.getElem?_map, w119]; rfl
  have hrel : ∀ bb cc : Nat, bb < 4 → cc < 24 → (g (24 * bb + cc)).toInt = (F4 f0 f1 f2 f3 bb cc).toInt + 1 ∧ -1 ≤ (F4 f0 f1 f2 f3 bb cc).toInt ∧ (F4 f0 f1 f2 f3 bb cc).toInt ≤ 30 := fun bb cc hb hc => by
    obtain ⟨x, y, q1, q2, q3⟩ := hEQ.2 bb cc hb hc
    rw [cx_nth w163 c163 (show 24 * bb + cc < 96 by omega)] at q2
    have q2 : g (24 * bb + cc) = y := Value.int.inj (Option.some.inj q2)
    rw [q2]
    rcases (show bb = 0 ∨ bb = 1 ∨ bb = 2 ∨ bb = 3 by omega) with rfl | rfl | rfl | rfl
    · rw [cx_nth w115 c115 hc] at q1; rw [show F4 f0 f1 f2 f3 0 cc = x from Value.int.inj (Option.some.inj q1)]; exact q3
    · rw [cx_nth w116 c116 hc] at q1; rw [show F4 f0 f1 f2 f3 1 cc = x from Value.int.inj (Option.some.inj q1)]; exact q3
    · rw [cx_nth w117 c117 hc] at q1; rw [show F4 f0 f1 f2 f3 2 cc = x from Value.int.inj (Option.some.inj q1)]; exact q3
    · rw [cx_nth w118 c118 hc] at q1; rw [show F4 f0 f1 f2 f3 3 cc = x from Value.int.inj (Option.some.inj q1)]; exact q3
  obtain ⟨fs0, e0q, -⟩ := id c0
  subst e0q
  refine lx_x F0 hl (pc' := 1749) (ab_tbo lto_37 _ _ _ (List.mem_of_getElem? (i := 0) rfl)) rfl ha0 ?_
  refine lx_arg F0 hiv hL hL2 hl (z := 1) (pc' := 1755) rfl (ab_tbo lto_37 _ _ _ (List.mem_of_getElem? (i := 1) rfl)) (ab_tbo lto_37 _ _ _ (List.mem_of_getElem? (i := 2) rfl)) (ab_tbo lto_37 _ _ _ (List.mem_of_getElem? (i := 3) rfl)) (ab_tbo lto_37 _ _ _ (List.mem_of_getElem? (i := 4) rfl)) (ab_tbo lto_37 _ _ _ (List.mem_of_getElem? (i := 5) rfl)) rfl ?_
  refine lx_arg F0 hiv hL hL2 hl (z := 2) (pc' := 1761) rfl (ab_tbo lto_37 _ _ _ (List.mem_of_getElem? (i := 6) rfl)) (ab_tbo lto_37 _ _ _ (List.mem_of_getElem? (i := 7) rfl)) (ab_tbo lto_37 _ _ _ (List.mem_of_getElem? (i := 8) rfl)) (ab_tbo lto_37 _ _ _ (List.mem_of_getElem? (i := 9) rfl)) (ab_tbo lto_37 _ _ _ (List.mem_of_getElem? (i := 10) rfl)) rfl ?_
  obtain ⟨d1, hd1, Ct1⟩ := ct_cd (dy := cx_toI (m0 11)) (b := xs (i0 + 1)) (w := xs (i0 + 2)) (r := r1) (F := F4 f0 f1 f2 f3) (fun bb cc hb hc => (hrel bb cc hb hc).2.2) l D cs tS ws [.ref a0, .int (xs (i0 + 1)), .int (xs (i0 + 2))] hX ⟨⟨a0, ha0, rfl⟩, rfl, rfl, trivial⟩
  refine lx_call F0 hcs hl (pc' := 1764) (q := 165) (n := 2) (ci := 10) (As := [.int (xs (i0 + 1)), .int (xs (i0 + 2))]) (stk := []) (ab_tbo lto_37 _ _ _ (List.mem_of_getElem? (i := 11) rfl)) rfl rfl rfl w0 (by decide) ⟨d1, by omega, Ct1⟩ rfl (fun rv ws1 hp1 => ?_)
  obtain ⟨v, h1, ⟨z, rr, rfl, rfl, hdr⟩, hk1, hf1, hH1, hrv⟩ := hp1
  obtain rfl : rv = some (.int z) := by
    cases rv with
    | none => exact hrv.elim
    | some y => exact congrArg some hrv
  show ab_W p l e room_1 s m #[Value.ref b] below meth c D vwCl A Q cells slots 1764 ls [.int z] ws1
  have hl1 := lx_Lc hl hf1.1
  have hM1 := cx_heap_far hM hf1 rfl
  have ha119b : (ws1.map (·.1))[119]? = some a119 := by rw [hf1.1]; exact ha119
  refine lx_m F0 hl1 (pc' := 1765) (ab_tbo lto_37 _ _ _ (List.mem_of_getElem? (i := 12) rfl)) rfl ha119b ?_
  refine lx_arg F0 hiv hL hL2 hl1 (z := 1) (pc' := 1771) rfl (ab_tbo lto_37 _ _ _ (List.mem_of_getElem? (i := 13) rfl)) (ab_tbo lto_37 _ _ _ (List.mem_of_getElem? (i := 14) rfl)) (ab_tbo lto_37 _ _ _ (List.mem_of_getElem? (i := 15) rfl)) (ab_tbo lto_37 _ _ _ (List.mem_of_getElem? (i := 16) rfl)) (ab_tbo lto_37 _ _ _ (List.mem_of_getElem? (i := 17) rfl)) rfl ?_
  refine lx_arg F0 hiv hL hL2 hl1 (z := 2) (pc' := 1777) rfl (ab_tbo lto_37 _ _ _ (List.mem_of_getElem? (i := 18) rfl)) (ab_tbo lto_37 _ _ _ (List.mem_of_getElem? (i := 19) rfl)) (ab_tbo lto_37 _ _ _ (List.mem_of_getElem? (i := 20) rfl)) (ab_tbo lto_37 _ _ _ (List.mem_of_getElem? (i := 21) rfl)) (ab_tbo lto_37 _ _ _ (List.mem_of_getElem? (i := 22) rfl)) rfl ?_
  obtain ⟨a119c, e119c, w119c, c119c⟩ := hM1 119 _ rfl
  obtain ⟨fs119c, e119d, -⟩ := id c119c
  subst e119d
  have eadd : a119c = a119 := ab_ad_get ha119b w119c
  rw [eadd] at w119c
  obtain ⟨d2, hd2, Ct2⟩ := ct_mcd (b := xs (i0 + 1)) (w := xs (i0 + 2)) (mi := fun i => cx_toI (mm i)) (ml := fun i => cx_toL (mm i)) (r := r2) (g := g) (fun bb cc hb hc => by have := hrel bb cc hb hc; omega) l D cs tS ws1 [.ref a119, .int (xs (i0 + 1)), .int (xs (i0 + 2))] hM1 ⟨⟨a119, ha119b, rfl⟩, rfl, rfl, trivial⟩
  refine lx_call F0 hcs hl1 (pc' := 1780) (q := 258) (n := 2) (ci := 11) (As := [.int (xs (i0 + 1)), .int (xs (i0 + 2))]) (stk := [.int z]) (ab_tbo lto_37 _ _ _ (List.mem_of_getElem? (i := 23) rfl)) rfl rfl rfl w119c (by first | decide | exact (by decide : (1 : Nat) ≤ 8)) ⟨d2, by omega, Ct2⟩ rfl (fun rv2 ws2 hp2 => ?_)
  obtain ⟨v2, h2, ⟨z2, rr2, rfl, rfl, hdm⟩, hk2, hf2, hH2, hrv2⟩ := hp2
  obtain rfl : rv2 = some (.int z2) := by
    cases rv2 with
    | none => exact hrv2.elim
    | some y => exact congrArg some hrv2
  show ab_W p l e room_1 s m #[Value.ref b] below meth c D vwCl A Q cells slots 1780 ls [.int z2, .int z] ws2
  have hth1 : ab_th tS (ab_tys cs) th ws1 := lx_done (fl := []) hth hX hH1 ⟨⟨rfl, rfl, Or.inr rfl, Or.inr rfl, Or.inr rfl, Or.inr rfl, Or.inr rfl, Or.inr rfl, Or.inr rfl, Or.inr rfl, Or.inr rfl, Or.inr rfl, Or.inr rfl, Or.inr rfl, trivial⟩, ⟨rfl, trivial⟩, ⟨rfl, rfl, Or.inr rfl, trivial⟩, ⟨rfl, trivial⟩, ⟨rfl, trivial⟩, ⟨rfl, trivial⟩, ⟨rfl, trivial⟩, ⟨rfl, trivial⟩, trivial⟩ hf1 (po := [(0, ci_0), (1, ci_1), (113, ci_113), (114, ci_114), (115, ci_115), (116, ci_116), (117, ci_117), (118, ci_118)]) (List.forall_mem_cons.mpr ⟨lx_po hH1 rfl (fun e2 q => cx_to_obj (N := 12) q rfl otl_0), (List.forall_mem_cons.mpr ⟨lx_po hH1 rfl (fun e2 q => cx_to_row q cx_anyU), (List.forall_mem_cons.mpr ⟨lx_po hH1 rfl (fun e2 q => cx_to_obj (N := 1) q rfl ⟨⟨_, rfl, List.mem_cons_self⟩, trivial⟩), (List.forall_mem_cons.mpr ⟨lx_po hH1 rfl (fun e2 q => cx_to_rows q), (List.forall_mem_cons.mpr ⟨lx_po hH1 rfl (fun e2 q => cx_to_row q cx_anyU), (List.forall_mem_cons.mpr ⟨lx_po hH1 rfl (fun e2 q => cx_to_row q cx_anyU), (List.forall_mem_cons.mpr ⟨lx_po hH1 rfl (fun e2 q => cx_to_row q cx_anyU), (List.forall_mem_cons.mpr ⟨lx_po hH1 rfl (fun e2 q => cx_to_row q cx_anyU), (fun _ h => absurd h List.not_mem_nil)⟩)⟩)⟩)⟩)⟩)⟩)⟩)⟩) (List.all_eq_true.mp tk36x th hm)
  have hlen1 : ws1.length = 165 := by have := congrArg List.length hf1.1; simpa [hlen] using this
  have hbd2 : obd_119 (upi (fun i => cx_toI (mm i)) 0 (Int32.ofInt 0)) := hbd
  have hth2 : ab_th tS (ab_tys cs) th ws2 := lx_done (fl := [8616]) hth1 hM1 hH2 ⟨⟨rfl, rfl, Or.inl rfl, Or.inr rfl, Or.inr rfl, Or.inr rfl, Or.inr rfl, Or.inr rfl, Or.inr rfl, Or.inr rfl, Or.inr rfl, Or.inr rfl, Or.inr rfl, Or.inr rfl, Or.inr rfl, Or.inr rfl, Or.inr rfl, Or.inr rfl, Or.inr rfl, Or.inr rfl, Or.inr rfl, Or.inr rfl, Or.inr rfl, Or.inr rfl, Or.inr rfl, Or.inr rfl, Or.inr rfl, Or.inr rfl, Or.inr rfl, Or.inr rfl, Or.inr rfl, Or.inr rfl, Or.inr rfl, Or.inr rfl, Or.inr rfl, Or.inr rfl, Or.inr rfl, Or.inr rfl, Or.inr rfl, Or.inr rfl, Or.inr rfl, Or.inr rfl, Or.inr rfl, Or.inr rfl, Or.inr rfl, Or.inr rfl, Or.inr rfl, Or.inr rfl, Or.inr rfl, Or.inr rfl, Or.inr rfl, Or.inr rfl, Or.inr rfl, Or.inr rfl, Or.inr rfl, Or.inr rfl, Or.inr rfl, Or.inr rfl, Or.inr rfl, Or.inr rfl, Or.inr rfl, Or.inr rfl, Or.inr rfl, Or.inr rfl, Or.inr rfl, Or.inr rfl, Or.inr rfl, Or.inr rfl, Or.inr rfl, Or.inr rfl, trivial⟩, ⟨rfl, trivial⟩, ⟨rfl, trivial⟩, trivial⟩ hf2 (po := [(119, ci_119), (126, ci_126), (163, ci_163)]) (List.forall_mem_cons.mpr ⟨lx_po hH2 rfl (fun e2 q => cx_to_obj (N := 68) q rfl (otl_119 hbd2)), (List.forall_mem_cons.mpr ⟨lx_po hH2 rfl (fun e2 q => cx_to_row q cx_anyU), (List.forall_mem_cons.mpr ⟨lx_po hH2 rfl (fun e2 q => cx_to_row q cx_anyU), (fun _ h => absurd h List.not_mem_nil)⟩)⟩)⟩) (List.all_eq_true.mp tk36m th hm)
  have hlen2 : ws2.length = 165 := by have := congrArg List.length hf2.1; simpa [hlen1] using this
  have hfin : z = z2 ∧ ∀ bb cc : Nat, bb < 4 → cc < 24 → (g (24 * bb + cc)).toInt = (F4 f0 f1 f2 f3 bb cc).toInt + 1 ∧ -1 ≤ (F4 f0 f1 f2 f3 bb cc).toInt ∧ (F4 f0 f1 f2 f3 bb cc).toInt ≤ 30 := by
    refine ⟨?_, hrel⟩
    by_cases hq : 0 ≤ (xs (i0 + 1)).toInt ∧ (xs (i0 + 1)).toInt < 4
    · have hB : ((xs (i0 + 1)).toNatClampNeg : Int) = (xs (i0 + 1)).toInt := ab_clamp hq.1
      rw [cn_eq (g := g) (b := (xs (i0 + 1)).toNatClampNeg) 24 (fun cc hc => ⟨(hrel _ cc (by omega) hc).1, (hrel _ cc (by omega) hc).2.1⟩), sm_eq (g := g) (b := (xs (i0 + 1)).toNatClampNeg) 24 (fun cc hc => ⟨(hrel _ cc (by omega) hc).1, (hrel _ cc (by omega) hc).2.1⟩)] at hdr
      exact cd_same hdr hdm
    · unfold cd_ans at hdr hdm
      exact cx_i32 (by omega)
  refine lx_eq F0 (pc' := 1810) (ab_tbo lto_37 _ _ _ (List.mem_of_getElem? (i := 24) rfl)) rfl hfin.1 ?_
  refine K ls ws2 (lx_Lc hl1 hf2.1) ⟨th, hm, hth2⟩ ⟨?_, fun bb cc hb hc => ?_⟩ hlen2
  · exact ⟨fun q h => absurd h List.not_mem_nil, fun q h => absurd h List.not_mem_nil, fun q h => absurd h List.not_mem_nil⟩
  · have hX2 := cx_heap_far hH1 hf2 rfl
    obtain ⟨ag, eg, wg, cg⟩ := hH2 163 _ rfl
    refine ⟨F4 f0 f1 f2 f3 bb cc, g (24 * bb + cc), ?_, cx_nth wg cg (by omega), hfin.2 bb cc hb hc⟩
    rcases (show bb = 0 ∨ bb = 1 ∨ bb = 2 ∨ bb = 3 by omega) with rfl | rfl | rfl | rfl
    · obtain ⟨ag, eg, wg, cg⟩ := hX2 115 _ rfl; exact cx_nth wg cg hc
    · obtain ⟨ag, eg, wg, cg⟩ := hX2 116 _ rfl; exact cx_nth wg cg hc
    · obtain ⟨ag, eg, wg, cg⟩ := hX2 117 _ rfl; exact cx_nth wg cg hc
    · obtain ⟨ag, eg, wg, cg⟩ := hX2 118 _ rfl; exact cx_nth wg cg hc
end
