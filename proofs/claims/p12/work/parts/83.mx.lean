noncomputable section
section LX
variable {p : Program} {l : Launch} {e : Env} {s : State} {m : MethodId} {below : List Frame} {meth : Method} {c : Code} {D : va_G} {A : Nat → Prop} {Q : State → Prop}
variable {tS b L cells slots i0 : Nat} {xs : Nat → Int32} {cs : Nat → ClassId} {iv : Int32} {pc pc' : Nat} {ls : Array Slot} {stk : List Value} {ws : va_W}
/-- the class's object -/
theorem lx_x (F : lw_F p s m meth c A D cs tS b L xs) (hl : lw_Lc b iv ws ls) (hd : decode code pc = .ok (.aload_n 1, 1)) (hp : pc' = pc + 1) {a : Nat} (ha : (ws.map (·.1))[0]? = some a) (k : ab_W p l e room_1 s m #[Value.ref b] below meth c D vwCl A Q cells slots pc' ls (.ref a :: stk) ws) : ab_W p l e room_1 s m #[Value.ref b] below meth c D vwCl A Q cells slots pc ls stk ws := by
  subst hp
  obtain ⟨l1, l2, l3, ⟨a2, l4, l5⟩, l6⟩ := hl
  rw [l4] at ha
  cases ha
  exact fun H locs hP hD hS => lv_aload_n F.1 F.2.1 hd rfl l5 (k H locs hP hD hS)
/-- the reference -/
theorem lx_m (F : lw_F p s m meth c A D cs tS b L xs) (hl : lw_Lc b iv ws ls) (hd : decode code pc = .ok (.aload_n 2, 1)) (hp : pc' = pc + 1) {a : Nat} (ha : (ws.map (·.1))[119]? = some a) (k : ab_W p l e room_1 s m #[Value.ref b] below meth c D vwCl A Q cells slots pc' ls (.ref a :: stk) ws) : ab_W p l e room_1 s m #[Value.ref b] below meth c D vwCl A Q cells slots pc ls stk ws := by
  subst hp
  obtain ⟨l1, l2, l3, l4, ⟨a2, l5, l6⟩, l7⟩ := hl
  rw [l5] at ha
  cases ha
  exact fun H locs hP hD hS => lv_aload_n F.1 F.2.1 hd rfl l6 (k H locs hP hD hS)
/-- an int of the script -/
theorem lx_arg (F : lw_F p s m meth c A D cs tS b L xs) (hiv : iv.toInt = (i0 : Int)) (hL : i0 + 6 ≤ L) (hL2 : L ≤ 3072) (hl : lw_Lc b iv ws ls) {z : Nat} (hz : Nat.ble z 5 = true) (d0 : decode code pc = .ok (.aload_n 0, 1)) (d1 : decode code (pc + 1) = .ok (.iload 4, 2)) (d2 : decode code (pc + 3) = .ok (.iconst (z : Int), 1)) (d3 : decode code (pc + 4) = .ok (.iadd, 1)) (d4 : decode code (pc + 5) = .ok (.iaload, 1)) (hp : pc' = pc + 6) (k : ab_W p l e room_1 s m #[Value.ref b] below meth c D vwCl A Q cells slots pc' ls (.int (xs (i0 + z)) :: stk) ws) : ab_W p l e room_1 s m #[Value.ref b] below meth c D vwCl A Q cells slots pc ls stk ws := by
  subst hp
  have hz := Nat.le_of_ble_eq_true hz
  obtain ⟨hx, hb, hml, hown, hts, hK, hA, hZ, hT, hX, hbl, hbA⟩ := F
  obtain ⟨l1, l2, w1, -, -, -, w3⟩ := hl
  have ez : (Int32.ofInt (z : Int)).toInt = (z : Int) := by
    rw [Int32.toInt_ofInt]
    exact ab_bm (by omega) (by omega)
  have es : (iv + Int32.ofInt (z : Int)).toInt = ((i0 + z : Nat) : Int) := by
    rw [Int32.toInt_add, ez, hiv]
    rw [ab_bm (by omega) (by omega)]
    omega
  have ec := ab_clamp (x := iv + Int32.ofInt (z : Int)) (by omega)
  have ec2 : (iv + Int32.ofInt (z : Int)).toNatClampNeg = i0 + z := by omega
  intro H locs hP hD hS
  refine lv_aload_n hx hb d0 rfl w1 ?_
  refine lv_iload hx hb d1 w3 ?_
  refine lv_iconst hx hb d2 rfl ?_
  refine lv_iadd hx hb d3 ?_
  refine va_sld hx hb hX hbl hbA hS ?_ d4 ?_
  · rintro (q | q)
    · rw [Int32.lt_iff_toInt_lt, es, show (0 : Int32).toInt = 0 from rfl] at q; omega
    · omega
  · rw [ec2]
    exact k H locs hP hD hS
theorem lx_call (F : lw_F p s m meth c A D cs tS b L xs) (hcs : cells ≤ 601024 ∧ slots ≤ 7293033) (hl : lw_Lc b iv ws ls) {cp q n ci k0 a : Nat} {As fs : List Value} {Post : Option Value → va_W → Prop} (hd : decode code pc = .ok (.invokevirtual cp, 3)) (hT : TbL.2.2.2.2 cp = some (.inr q)) (hM : MtF q = (n, ci, false)) (hn : As.length = n) (hw : ws[k0]? = some (a, .inr (ci, fs))) (hr : (stk.map fun v => v.category).sum ≤ 8) (hCt : ∃ d', d' ≤ 1000 ∧ ab_Ct l (ZZ.1 q) (ab_wM ZZ q) (ab_rm d' 0 0) 0 0 D vwCl cs tS (.ref a :: As) ws Post) (hp : pc' = pc + 3)
    (k : ∀ rv ws', Post rv ws' → ab_W p l e room_1 s m #[Value.ref b] below meth c D vwCl A Q cells slots pc' ls (rv.toList ++ stk) ws') : ab_W p l e room_1 s m #[Value.ref b] below meth c D vwCl A Q cells slots pc ls (As.reverse ++ .ref a :: stk) ws := by
  subst hp
  obtain ⟨hx, hb, hml, hown, hts, hK, hA, hZ, hTs, hX, hbl, hbA⟩ := F
  have hB : ∀ w ∈ ab_BIG, w.before #[Value.ref b] s = true := fun w hw => hts w (ab_BIG_in w hw)
  obtain ⟨d', hd', Ct⟩ := hCt
  obtain ⟨s1, s2, s3, s4, s5, s6, s7⟩ := MOKL.2.1 cp q hT
  rw [hM] at s4 s7
  obtain ⟨t1, t2, Tb, N, t3⟩ := s7 rfl
  have hroom : (ab_rm d' 0 0).frames + 1 ≤ room_1.frames ∧ 8 + (ZZ.2.2.1 q + 11) + (ab_rm d' 0 0).locals ≤ room_1.locals := ⟨by show d' + 1 ≤ 2048; omega, by show 8 + (ZZ.2.2.1 q + 11) + 40 * d' ≤ 84000; omega⟩
  have hcB : CallB room_1 s #[Value.ref b] R_law cp (ZZ.1 q) (ZZ.2.1 q) (ZZ.2.2.1 q) (ZZ.2.2.2.1 q) (ab_wM ZZ q) (ab_rm d' 0 0) 0 0 n := callB_of n hts (lw_good s3) rfl rfl rfl (hB _ s2) (hB _ s1) s4 hroom
  intro H locs hP hD hS
  exact ab_callV ⟨hx, hb, hml, hown, hts⟩ Ct ⟨hcB, hB _ t1, hB _ t2⟩ (va_recv hK hP t3 hw) hP hD hS hA hK hZ hTs hn hl.1 hr hd ⟨hcs.1, hcs.2⟩ (fun rv ws' H1 locs1 hpo hP1 hD1 hS1 => k rv ws' hpo H1 locs1 hP1 hD1 hS1)
theorem lx_pop (F : lw_F p s m meth c A D cs tS b L xs) {x : Int32} (hd : decode code pc = .ok (.pop, 1)) (hp : pc' = pc + 1) (k : ab_W p l e room_1 s m #[Value.ref b] below meth c D vwCl A Q cells slots pc' ls stk ws) : ab_W p l e room_1 s m #[Value.ref b] below meth c D vwCl A Q cells slots pc ls (.int x :: stk) ws := by
  subst hp
  exact fun H locs hP hD hS => lv_pop F.1 F.2.1 hd rfl (k H locs hP hD hS)
theorem lx_goto (F : lw_F p s m meth c A D cs tS b L xs) {off : Int} (hd : decode code pc = .ok (.goto off, 3)) (ht : ab_tgt pc off = some pc') (k : ab_W p l e room_1 s m #[Value.ref b] below meth c D vwCl A Q cells slots pc' ls stk ws) : ab_W p l e room_1 s m #[Value.ref b] below meth c D vwCl A Q cells slots pc ls stk ws :=
  fun H locs hP hD hS => lv_goto F.1 F.2.1 hd (ab_tgt_ok ht) (k H locs hP hD hS)
theorem lx_eq (F : lw_F p s m meth c A D cs tS b L xs) {x y : Int32} {off : Int} (hd : decode code pc = .ok (.if_icmp .eq off, 3)) (ht : ab_tgt pc off = some pc') (hxy : x = y) (k : ab_W p l e room_1 s m #[Value.ref b] below meth c D vwCl A Q cells slots pc' ls stk ws) : ab_W p l e room_1 s m #[Value.ref b] below meth c D vwCl A Q cells slots pc ls (.int y :: .int x :: stk) ws := by
  subst hxy
  exact fun H locs hP hD hS => ab_row_icmp F.1 F.2.1 hd (ab_tgt_ok ht) (fun _ => k H locs hP hD hS) (fun hc => absurd (show x.toInt = x.toInt from rfl) hc)
theorem lx_Lc {ws' : va_W} (hl : lw_Lc b iv ws ls) (h : ws'.map (·.1) = ws.map (·.1)) : lw_Lc b iv ws' ls := by
  unfold lw_Lc
  rw [h]
  exact hl
end LX
/-- exact values out of what is known by intervals -/
def cx_toI (x : Value) : Int32 := match x with
  | .int y => y
  | _ => 0
def cx_toL (x : Value) : Int64 := match x with
  | .long y => y
  | _ => 0
def cx_mk1 (t : ab_TV) (x : Value) : cx_V := match t with
  | some (.inr (.inl [k])) => .inr (.inl k)
  | some (.inl (true, _, _)) => .inl (.long (cx_toL x))
  | some (.inl (false, _, _)) => .inl (.int (cx_toI x))
  | _ => .inl x
theorem cx_mk1_ok {ad : List Nat} {tS : Nat} {t : ab_TV} {x : Value} (h : ab_tv ad tS t x) : cx_val ad tS (cx_mk1 t x) x := by
  unfold cx_mk1
  split
  · rename_i k
    obtain ⟨k', a2, h1, h2, h3⟩ := h
    have e1 : k' = k := by simpa using h1
    subst e1
    exact ⟨a2, h2, h3⟩
  · obtain ⟨y, h1, -⟩ := h
    rw [h1]
    rfl
  · obtain ⟨y, h1, -⟩ := h
    rw [h1]
    rfl
  · rfl
def cx_mk : List ab_TV → List Value → List cx_V
  | t :: ts, x :: xs => cx_mk1 t x :: cx_mk ts xs
  | _, _ => []
theorem cx_mk_ok {ad : List Nat} {tS : Nat} : ∀ {ts : List ab_TV} {xs : List Value}, ab_tl ad tS ts xs → cx_all (cx_val ad tS) (cx_mk ts xs) xs
  | [], [], _ => trivial
  | _ :: _, _ :: _, h => ⟨cx_mk1_ok h.1, cx_mk_ok h.2⟩
  | [], _ :: _, h => h.elim
  | _ :: _, [], h => h.elim
/-- the bounds of an int among the fields -/
theorem cx_bdI {ad : List Nat} {tS N i : Nat} {lo hi : Int} {ts : List ab_TV} {m : Nat → Value} (h : ab_tl ad tS ts ((List.range N).map m)) (ht : ts[i]? = some (some (.inl (false, lo, hi)))) : lo ≤ (cx_toI (m i)).toInt ∧ (cx_toI (m i)).toInt ≤ hi := by
  obtain ⟨x, h1, h2⟩ := sg_tl_get h ht
  rw [List.getElem?_map] at h1
  by_cases hi' : i < N
  · rw [List.getElem?_range hi'] at h1
    have e1 : m i = x := Option.some.inj h1
    obtain ⟨y, e2, g1, g2⟩ := h2
    rw [e1, e2]
    exact ⟨g1, g2⟩
  · rw [List.getElem?_eq_none (by simpa using hi')] at h1
    cases h1
theorem cx_lst {fs : List Value} {N : Nat} (h : fs.length = N) : ∃ m : Nat → Value, fs = (List.range N).map m := by
  refine ⟨fun i => fs.getD i (.int 0), ?_⟩
  apply List.ext_getElem?
  intro i
  rw [List.getElem?_map]
  by_cases hi : i < N
  · rw [List.getElem?_range hi]
    have hi2 : i < fs.length := by omega
    rw [List.getElem?_eq_getElem hi2]
    show some fs[i] = some (fs.getD i (.int 0))
    rw [List.getD_eq_getElem?_getD, List.getElem?_eq_getElem hi2]
    rfl
  · rw [List.getElem?_eq_none (by omega), List.getElem?_eq_none (by simpa using hi)]
    rfl
theorem cx_of_obj {ad : List Nat} {tS ci N : Nat} {cs : Nat → ClassId} {tvs : List ab_TV} {e : va_E} (h : ab_tc ad tS (ab_tys cs) (ci, N, .inr (.inr (.inr (.inr tvs)))) e) : ∃ m : Nat → Value, cx_cell ad tS cs (.inl (ci, cx_mk tvs ((List.range N).map m))) e ∧ ab_tl ad tS tvs ((List.range N).map m) := by
  obtain ⟨fs, rfl, hl, ht⟩ := sg_tcO h
  obtain ⟨m, rfl⟩ := cx_lst hl
  exact ⟨m, ⟨_, rfl, cx_mk_ok ht⟩, ht⟩
theorem cx_of_row {ad : List Nat} {tS t N : Nat} {cs : Nat → ClassId} {U : List ab_Iv} {e : va_E} (ht : t = 0 ∨ t = 2) (h : ab_tc ad tS (ab_tys cs) (t, N, .inl U) e) : ∃ f : Nat → Int32, cx_cell ad tS cs (.inr (.inl (t, N, f))) e ∧ ∀ i, i < N → ab_inU U (f i).toInt := by
  match e, h with
  | .inr (ci, fs), ⟨_, _, tvs, h3, _⟩ => cases h3
  | .inl (cA, N', .inl f), ⟨h1, ⟨ty, h2, _⟩, _, h4⟩ =>
    have e1 : cA = cs t := by
      rcases ht with rfl | rfl
      · have h5 : some (cs 0, FieldType.int) = some (cA, ty) := h2
        cases h5
        rfl
      · have h5 : some (cs 2, FieldType.boolean) = some (cA, ty) := h2
        cases h5
        rfl
    have e2 : N' = N := h1
    subst e1; subst e2
    rcases h4 with ⟨U', h6, h7⟩ | ⟨vs, h6, _⟩ | ⟨ks, h6, _⟩
    · cases h6
      exact ⟨f, ⟨ht, rfl⟩, h7⟩
    · cases h6
    · cases h6
  | .inl (cA, N', .inr (.inl f)), ⟨_, h2, _⟩ =>
    rcases ht with rfl | rfl
    · have h5 : some (cs 0, FieldType.int) = some (cA, FieldType.long) := h2
      cases h5
    · have h5 : some (cs 2, FieldType.boolean) = some (cA, FieldType.long) := h2
      cases h5
  | .inl (cA, N', .inr (.inr (.inr (.inr f)))), ⟨_, ⟨tt, h2⟩, _⟩ =>
    rcases ht with rfl | rfl
    · have h5 : some (cs 0, FieldType.int) = some (cA, FieldType.array tt) := h2
      cases h5
    · have h5 : some (cs 2, FieldType.boolean) = some (cA, FieldType.array tt) := h2
      cases h5
  | .inl (cA, N', .inr (.inr (.inl f))), h => exact h.elim
  | .inl (cA, N', .inr (.inr (.inr (.inl f)))), h => exact h.elim
theorem cx_of_long {ad : List Nat} {tS N : Nat} {cs : Nat → ClassId} {U : List ab_Iv} {e : va_E} (h : ab_tc ad tS (ab_tys cs) (1, N, .inl U) e) : ∃ f : Nat → Int64, cx_cell ad tS cs (.inr (.inr (.inl (N, f)))) e ∧ ∀ i, i < N → ab_inU U (f i).toInt := by
  match e, h with
  | .inr (ci, fs), ⟨_, _, tvs, h3, _⟩ => cases h3
  | .inl (cA, N', .inl f), ⟨_, _, h3, _⟩ => cases h3
  | .inl (cA, N', .inr (.inl f)), ⟨h1, h2, _, h4⟩ =>
    have e1 : cA = cs 1 := by
      have h5 : some (cs 1, FieldType.long) = some (cA, FieldType.long) := h2
      cases h5
      rfl
    have e2 : N' = N := h1
    subst e1; subst e2
    rcases h4 with ⟨U', h6, h7⟩ | ⟨vs, h6, _⟩
    · cases h6
      exact ⟨f, rfl, h7⟩
    · cases h6
  | .inl (cA, N', .inr (.inr (.inr (.inr f)))), ⟨_, ⟨tt, h2⟩, _⟩ =>
    have h5 : some (cs 1, FieldType.long) = some (cA, FieldType.array tt) := h2
    cases h5
  | .inl (cA, N', .inr (.inr (.inl f))), h => exact h.elim
  | .inl (cA, N', .inr (.inr (.inr (.inl f)))), h => exact h.elim
theorem cx_of_rows {ad : List Nat} {tS t N : Nat} {cs : Nat → ClassId} {ks : List Nat} {e : va_E} (ht : t = 3 ∨ t = 4) (h : ab_tc ad tS (ab_tys cs) (t, N, .inr (.inr (.inr (.inl ks)))) e) : cx_cell ad tS cs (.inr (.inr (.inr (t, ks)))) e := by
  match e, h with
  | .inr (ci, fs), ⟨_, _, tvs, h3, _⟩ => cases h3
  | .inl (cA, N', .inl f), ⟨_, _, _, h4⟩ =>
    rcases h4 with ⟨U', h6, _⟩ | ⟨vs, h6, _⟩ | ⟨ks, h6, _⟩ <;> cases h6
  | .inl (cA, N', .inr (.inl f)), ⟨_, _, _, h4⟩ =>
    rcases h4 with ⟨U', h6, _⟩ | ⟨vs, h6, _⟩ <;> cases h6
  | .inl (cA, N', .inr (.inr (.inr (.inr f)))), ⟨h1, ⟨tt, h2⟩, ks', h3, h4, h5⟩ =>
    cases h3
    subst h4
    rcases ht with rfl | rfl
    · have h6 : some (cs 3, FieldType.array .int) = some (cA, FieldType.array tt) := h2
      cases h6
      exact ⟨f, .int, rfl, rfl, h5⟩
    · have h6 : some (cs 4, FieldType.array .long) = some (cA, FieldType.array tt) := h2
      cases h6
      exact ⟨f, .long, rfl, rfl, h5⟩
  | .inl (cA, N', .inr (.inr (.inl f))), h => exact h.elim
  | .inl (cA, N', .inr (.inr (.inr (.inl f)))), h => exact h.elim
/-- and back -/
theorem cx_to_row {ad : List Nat} {tS t N : Nat} {cs : Nat → ClassId} {U : List ab_Iv} {e : va_E} {f : Nat → Int32} (h : cx_cell ad tS cs (.inr (.inl (t, N, f))) e) (hU : ∀ i, i < N → ab_inU U (f i).toInt) : ab_tc ad tS (ab_tys cs) (t, N, .inl U) e := by
  obtain ⟨ht, rfl⟩ := h
  rcases ht with h0 | h0
  · have h0 : t = 0 := h0
    subst h0
    exact ⟨rfl, ⟨.int, rfl, Or.inl rfl⟩, rfl, Or.inl ⟨U, rfl, hU⟩⟩
  · have h0 : t = 2 := h0
    subst h0
    exact ⟨rfl, ⟨.boolean, rfl, Or.inr rfl⟩, rfl, Or.inl ⟨U, rfl, hU⟩⟩
theorem cx_to_long {ad : List Nat} {tS N : Nat} {cs : Nat → ClassId} {U : List ab_Iv} {e : va_E} {f : Nat → Int64} (h : cx_cell ad tS cs (.inr (.inr (.inl (N, f)))) e) (hU : ∀ i, i < N → ab_inU U (f i).toInt) : ab_tc ad tS (ab_tys cs) (1, N, .inl U) e := by
  have h : e = .inl (cs 1, N, .inr (.inl f)) := h
  subst h
  exact ⟨rfl, rfl, rfl, Or.inl ⟨U, rfl, hU⟩⟩
theorem cx_to_rows {ad : List Nat} {tS t : Nat} {cs : Nat → ClassId} {ks : List Nat} {e : va_E} (h : cx_cell ad tS cs (.inr (.inr (.inr (t, ks)))) e) : ab_tc ad tS (ab_tys cs) (t, ks.length, .inr (.inr (.inr (.inl ks)))) e := by
  obtain ⟨f, ty, rfl, h2, h3⟩ := h
  exact ⟨rfl, ⟨ty, h2⟩, ks, rfl, rfl, h3⟩
/-- an exact value within what is wanted -/
def cx_tv (t : ab_TV) (v : cx_V) : Prop := match t with
  | none => True
  | some (.inl q) => bif q.1 then (∃ y : Int64, v = .inl (.long y) ∧ q.2.1 ≤ y.toInt ∧ y.toInt ≤ q.2.2) else (∃ y : Int32, v = .inl (.int y) ∧ q.2.1 ≤ y.toInt ∧ y.toInt ≤ q.2.2)
  | some (.inr (.inl ks)) => ∃ k, v = .inr (.inl k) ∧ k ∈ ks
  | some (.inr (.inr _)) => v = .inr (.inr ())
def cx_tl : List ab_TV → List cx_V → Prop
  | [], [] => True
  | t :: ts, v :: vs => cx_tv t v ∧ cx_tl ts vs
  | _, _ => False
theorem cx_tv_ok {ad : List Nat} {tS : Nat} {t : ab_TV} {v : cx_V} {x : Value} (h : cx_tv t v) (hv : cx_val ad tS v x) : ab_tv ad tS t x := by
  match t, h with
  | none, _ => trivial
  | some (.inl (true, lo, hi)), h =>
    obtain ⟨y, e1, h1, h2⟩ := h
    subst e1
    exact ⟨y, hv, h1, h2⟩
  | some (.inl (false, lo, hi)), h =>
    obtain ⟨y, e1, h1, h2⟩ := h
    subst e1
    exact ⟨y, hv, h1, h2⟩
  | some (.inr (.inl ks)), h =>
    obtain ⟨k, e1, h1⟩ := h
    subst e1
    obtain ⟨a, h2, h3⟩ := hv
    exact ⟨k, a, h1, h2, h3⟩
  | some (.inr (.inr u)), h =>
    have h : v = .inr (.inr ()) := h
    subst h
    exact hv
theorem cx_tl_ok {ad : List Nat} {tS : Nat} : ∀ {ts : List ab_TV} {vs : List cx_V} {xs : List Value}, cx_tl ts vs → cx_all (cx_val ad tS) vs xs → ab_tl ad tS ts xs
  | [], [], [], _, _ => trivial
  | t :: ts, v :: vs, x :: xs, h, g => ⟨cx_tv_ok h.1 g.1, cx_tl_ok h.2 g.2⟩
  | [], [], _ :: _, _, g => g.elim
  | _ :: _, _ :: _, [], _, g => g.elim
  | [], _ :: _, _, h, _ => h.elim
  | _ :: _, [], _, h, _ => h.elim
theorem cx_tl_len : ∀ {ts : List ab_TV} {vs : List cx_V}, cx_tl ts vs → ts.length = vs.length
  | [], [], _ => rfl
  | _ :: _, _ :: _, h => congrArg Nat.succ (cx_tl_len h.2)
  | [], _ :: _, h => h.elim
  | _ :: _, [], h => h.elim
theorem cx_to_obj {ad : List Nat} {tS ci N : Nat} {cs : Nat → ClassId} {tvs : List ab_TV} {vs : List cx_V} {e : va_E} (h : cx_cell ad tS cs (.inl (ci, vs)) e) (hN : vs.length = N) (ht : cx_tl tvs vs) : ab_tc ad tS (ab_tys cs) (ci, N, .inr (.inr (.inr (.inr tvs)))) e := by
  obtain ⟨fs, rfl, h2⟩ := h
  have h2 : cx_all (cx_val ad tS) vs fs := h2
  exact ⟨rfl, by rw [← hN]; exact (cx_all_len h2).symm, tvs, rfl, cx_tl_ok ht h2⟩
/-- two lists of fields, the same where g does not let them differ -/
def cx_same (g : Nat → Bool) : Nat → List cx_V → List cx_V → Prop
  | _, [], [] => True
  | i, v :: vs, w :: ws => (g i = true ∨ v = w) ∧ cx_same g (i + 1) vs ws
  | _, _, _ => False
theorem cx_same_get {g : Nat → Bool} : ∀ {vs ws : List cx_V} {i : Nat}, cx_same g i vs ws → ∀ f, g (i + f) = false → vs[f]? = ws[f]?
  | [], [], _, _, _, _ => rfl
  | v :: vs, w :: ws, i, h, 0, hg => by
    rcases h.1 with q | q
    · rw [Nat.add_zero, q] at hg
      cases hg
    · rw [q]; rfl
  | v :: vs, w :: ws, i, h, f + 1, hg => by
    rw [List.getElem?_cons_succ, List.getElem?_cons_succ]
    exact cx_same_get h.2 f (by rw [show i + 1 + f = i + (f + 1) by omega]; exact hg)
  | [], _ :: _, _, h, _, _ => h.elim
  | _ :: _, [], _, h, _, _ => h.elim
theorem cx_val_fn {ad : List Nat} {tS : Nat} {v : cx_V} {x y : Value} (h : cx_val ad tS v x) (g : cx_val ad tS v y) : x = y := by
  match v, h, g with
  | .inl w, h, g =>
    have h : x = w := h
    have g : y = w := g
    rw [h, g]
  | .inr (.inl k), ⟨a, h1, h2⟩, ⟨b, g1, g2⟩ =>
    rw [h1] at g1
    cases g1
    rw [h2, g2]
  | .inr (.inr _), h, g =>
    have h : x = .ref tS := h
    have g : y = .ref tS := g
    rw [h, g]
theorem cx_all_same {ad : List Nat} {tS f : Nat} {vs ws : List cx_V} {xs ys : List Value} (h : cx_all (cx_val ad tS) vs xs) (g : cx_all (cx_val ad tS) ws ys) (e : vs[f]? = ws[f]?) : ys[f]? = xs[f]? := by
  cases q : vs[f]? with
  | some v =>
    obtain ⟨x, h1, h2⟩ := cx_all_get h q
    obtain ⟨y, g1, g2⟩ := cx_all_get g (e.symm.trans q)
    rw [h1, g1, cx_val_fn h2 g2]
  | none =>
    have l1 := cx_all_len h
    have l2 := cx_all_len g
    have q1 := List.getElem?_eq_none_iff.mp q
    have q2 := List.getElem?_eq_none_iff.mp (e.symm.trans q)
    rw [List.getElem?_eq_none (by omega), List.getElem?_eq_none (by omega)]
/-- objects stay objects of their class, and only these fields of theirs change -/
def cx_knd (fl : List Nat) : cx_H → cx_H → Prop
  | [], [] => True
  | (k, c) :: h, (k', c') :: h' => (k = k' ∧ match c, c' with
    | .inl q, .inl q' => q.1 = q'.1 ∧ cx_same (fun f => ab_mem (ab_fc k f) fl) 0 q.2 q'.2
    | .inr _, .inr _ => True
    | _, _ => False) ∧ cx_knd fl h h'
  | _, _ => False
theorem cx_knd_get {k : Nat} {fl : List Nat} : ∀ {h h' : cx_H}, cx_knd fl h h' → ∀ {ci : Nat} {vs : List cx_V}, cx_hg h k = some (.inl (ci, vs)) → ∃ vs', cx_hg h' k = some (.inl (ci, vs')) ∧ cx_same (fun f => ab_mem (ab_fc k f) fl) 0 vs vs'
  | [], [], _, ci, vs, h0 => by cases h0
  | (k1, c) :: h, (k2, c') :: h', hk, ci, vs, h0 => by
    obtain ⟨⟨e1, hc⟩, hr⟩ := hk
    subst e1
    rw [cx_hg_cons] at h0
    rw [cx_hg_cons]
    cases hb : Nat.beq k1 k with
    | false =>
      rw [hb] at h0
      exact cx_knd_get hr h0
    | true =>
      rw [hb] at h0
      have e2 : k1 = k := Nat.eq_of_beq_eq_true hb
      subst e2
      have h0 : c = .inl (ci, vs) := Option.some.inj h0
      subst h0
      match c', hc with
      | .inl (ci2, vs'), hc =>
        obtain ⟨hc1, hc2⟩ := hc
        have hc1 : ci = ci2 := hc1
        subst hc1
        exact ⟨vs', rfl, hc2⟩
      | .inr _, hc => exact hc.elim
  | [], _ :: _, hk, _, _, _ => hk.elim
  | _ :: _, [], hk, _, _, _ => hk.elim
def cx_M (ks fl : List Nat) (k : Nat) : Bool := ab_mem k ks || ab_mem k fl
theorem cx_gr {tS : Nat} {cs : Nat → ClassId} {fl : List Nat} {h h' : cx_H} {ws ws' : va_W} (hH : cx_heap tS cs h ws) (hH' : cx_heap tS cs h' ws') (hk : cx_knd fl h h') (hf : cx_fr (h.map (·.1)) ws ws') : ab_gr (cx_M (h.map (·.1)) fl) ws ws' := by
  have hll : ws'.length = ws.length := by
    have := congrArg List.length hf.1
    simpa using this
  refine ⟨⟨[], by rw [hf.1]; simp, rfl⟩, fun k hlt hM => hf.2 k (fun q => ?_), fun k a2 e2 hw => ?_⟩
  · unfold cx_M at hM
    rw [ab_mem_iff.mpr q] at hM
    cases hM
  · have hlt : k < ws.length := (List.getElem?_eq_some_iff.mp hw).1
    cases hg : cx_hg h k with
    | none =>
      have := hf.2 k (cx_hg_none hg)
      exact ⟨e2, this.trans hw, ab_fr.refl⟩
    | some c =>
      obtain ⟨a3, e3, g1, g2⟩ := hH k c hg
      rw [hw] at g1
      cases g1
      have had : (ws'.map (·.1))[k]? = some a2 := by rw [hf.1, List.getElem?_map, hw]; rfl
      have hlt' : k < ws'.length := by omega
      obtain ⟨q, hq⟩ : ∃ q, ws'[k]? = some q := ⟨_, List.getElem?_eq_getElem hlt'⟩
      have eq1 : q.1 = a2 := by
        rw [List.getElem?_map, hq] at had
        exact Option.some.inj had
      obtain ⟨a4, e4⟩ := q
      have eq1 : a4 = a2 := eq1
      subst eq1
      refine ⟨e4, hq, ?_⟩
      match c, hg, g2 with
      | .inl (ci, vs), hg, ⟨fs, e5, hal⟩ =>
        obtain ⟨vs', hg', hsm⟩ := cx_knd_get hk hg
        obtain ⟨a5, e6, g3, ⟨fs', e7, hal'⟩⟩ := hH' k _ hg'
        rw [hq] at g3
        cases g3
        rw [hf.1] at hal'
        rw [e5, e7]
        exact ⟨fs', rfl, fun f hf0 => by
          have hm : ab_mem (ab_fc k f) fl = false := by
            unfold cx_M at hf0
            exact (Bool.or_eq_false_iff.mp hf0).2
          exact cx_all_same hal hal' (cx_same_get hsm f (by rw [Nat.zero_add]; exact hm))⟩
      | .inr (.inl q), hg, ⟨_, e5⟩ => rw [e5]; trivial
      | .inr (.inr (.inl q)), hg, e5 =>
        have e5 : e2 = .inl (cs 1, q.1, .inr (.inl q.2)) := e5
        rw [e5]; trivial
      | .inr (.inr (.inr q)), hg, ⟨f, ty, e5, _⟩ => rw [e5]; trivial
/-- cells that a call leaves alone -/
theorem cx_heap_far {tS : Nat} {cs : Nat → ClassId} {h : cx_H} {ks : List Nat} {ws ws' : va_W} (hH : cx_heap tS cs h ws) (hf : cx_fr ks ws ws') (hd : h.all (fun q => !ab_mem q.1 ks) = true) : cx_heap tS cs h ws' := by
  intro k c hc
  obtain ⟨a2, e2, g1, g2⟩ := hH k c hc
  have hm := List.all_eq_true.mp hd _ (cx_hg_mem hc)
  have hn : k ∉ ks := fun q => by
    rw [ab_mem_iff.mpr q] at hm
    cases hm
  exact ⟨a2, e2, (hf.2 k hn).trans g1, by rw [hf.1]; exact g2⟩
theorem lx_done {tS : Nat} {cs : Nat → ClassId} {fl : List Nat} {h h' : cx_H} {ws ws' : va_W} {th po : ab_TH} (hth : ab_th tS (ab_tys cs) th ws) (hH : cx_heap tS cs h ws) (hH' : cx_heap tS cs h' ws') (hk : cx_knd fl h h') (hf : cx_fr (h.map (·.1)) ws ws') (hpo : ab_th tS (ab_tys cs) po ws') (hc : th.all (tr_1 (cx_M (h.map (·.1)) fl) th po) = true) : ab_th tS (ab_tys cs) th ws' := fun q hq => tr_1_ok hth (cx_gr hH hH' hk hf) hpo (List.all_eq_true.mp hc q hq)
/-- a template for one cell out of the cell -/
theorem lx_po {tS k : Nat} {cs : Nat → ClassId} {h' : cx_H} {ws' : va_W} {c : cx_C} {t : ab_TC} (hH' : cx_heap tS cs h' ws') (hg : cx_hg h' k = some c) (ht : ∀ e2, cx_cell (ws'.map (·.1)) tS cs c e2 → ab_tc (ws'.map (·.1)) tS (ab_tys cs) t e2) : ∃ a2 e2, ws'[(k, t).1]? = some (a2, e2) ∧ ab_tc (ws'.map (·.1)) tS (ab_tys cs) (k, t).2 e2 := by
  obtain ⟨a2, e2, g1, g2⟩ := hH' k c hg
  exact ⟨a2, e2, g1, ht e2 g2⟩
/-- any int -/
theorem cx_anyI (x : Int32) : (Int.negSucc 2147483647) ≤ x.toInt ∧ x.toInt ≤ Int.ofNat 2147483647 := lw_fullI x
theorem cx_anyU {N : Nat} {f : Nat → Int32} : ∀ i, i < N → ab_inU [(Int.negSucc 2147483647, Int.ofNat 2147483647)] (f i).toInt := fun i _ => ⟨_, List.mem_cons_self, lw_fullI (f i)⟩
end
