noncomputable section
/-- what is known of a method's code -/
def cx_G (j : Nat) (tb : List (Nat × Instr × Nat)) (T : ab_Tb) (rt : Option FieldType) : Prop :=
  plainName (ZZ.1 j).cls = true ∧ (∀ pc i len, (pc, i, len) ∈ tb → decode (ZZ.2.1 j) pc = .ok (i, len)) ∧ ab_MOK ZZ MtF wFF bFF vwCl T (ZZ.1 j).cls ∧ ZZ.2.2.2.1 j = rt
theorem cx_G.of {j : Nat} (h : ab_GOK ZZ MtF wFF bFF vwCl BdF j) : cx_G j (BdF j).1 (BdF j).2.1 (ZZ.2.2.2.1 j) := ⟨h.1, h.2.1, h.2.2.1, rfl⟩
/-- from this place of method j, with these locals, stack and cells: it returns, and P holds of answer and cells -/
def cx_T (d j : Nat) (ks : List Nat) (pc : Nat) (S : cx_S) (P : Option cx_V → cx_H → Prop) : Prop :=
  ∀ (p : Program) (l : Launch) (e : Env) (s : State) (m : MethodId) (args : Array Value) (below : List Frame) (meth : Method) (c : Code) (D : va_G) (A : Nat → Prop) (cs : Nat → ClassId) (tS : Nat) (w0 : va_W),
    ab_X l ZZ j d D vwCl cs tS p s m args meth c A → S.2.2.map (·.1) = ks → ∀ (ls : Array Slot) (stk : List Value) (ws : va_W), cx_fr ks w0 ws → cx_sat tS cs (ZZ.2.2.1 j) S ls stk ws →
    ab_W p l e (ab_rm d 0 0) s m args below meth c D vwCl A (MQ below (ab_Qc D vwCl cs A (cx_Po tS cs ks w0 P)) args s 0 0 A) 0 0 pc ls stk ws
/-- a method's contract, exactly -/
def cx_Ct (d j : Nat) (vs : List cx_V) (h : cx_H) (P : Option cx_V → cx_H → Prop) : Prop := ∀ (l : Launch) (D : va_G) (cs : Nat → ClassId) (tS : Nat) (ws : va_W) (xs : List Value), cx_heap tS cs h ws → cx_all (cx_val (ws.map (·.1)) tS) vs xs → ∃ d', d' ≤ d ∧ ab_Ct l (ZZ.1 j) (ab_wM ZZ j) (ab_rm d' 0 0) 0 0 D vwCl cs tS xs ws (cx_Po tS cs (h.map (·.1)) ws P)
theorem cx_Ct.mono {d d2 j : Nat} {vs : List cx_V} {h : cx_H} {P P2 : Option cx_V → cx_H → Prop} (C : cx_Ct d j vs h P) (hd : d ≤ d2) (hP : ∀ r h', P r h' → P2 r h') : cx_Ct d2 j vs h P2 := fun l D cs tS ws xs h1 h2 => by
  obtain ⟨d', g1, g2⟩ := C l D cs tS ws xs h1 h2
  refine ⟨d', by omega, ab_Ct_mono g2 (fun rv ws' q => ?_)⟩
  obtain ⟨r, h', q1, q2⟩ := q
  exact ⟨r, h', hP r h' q1, q2⟩
theorem cx_Ct.of {d j : Nat} {tb : List (Nat × Instr × Nat)} {T : ab_Tb} {rt : Option FieldType} (G : cx_G j tb T rt) {nL : Nat} (hn : ZZ.2.2.1 j = nL) {vs : List cx_V} {h : cx_H} {P : Option cx_V → cx_H → Prop} (hk : vs.all cx_kn = true) (hl : Nat.ble (cx_lay vs).length nL = true) (k : cx_T d j (h.map (·.1)) 0 (cx_ent vs nL, [], h) P) : cx_Ct d j vs h P := by
  subst hn
  intro l D cs tS ws xs h1 h2
  refine ⟨d, Nat.le_refl _, ab_Ct_of G.1 (fun p e s m below meth c A X => ?_)⟩
  exact k p l e s m xs.toArray below meth c D A cs tS ws X rfl _ [] ws cx_fr.refl ⟨h1, cx_ent_ok h2 hk (Nat.le_of_ble_eq_true hl), trivial⟩
section CXR
variable {d j : Nat} {ks : List Nat} {pc pc' : Nat} {tb : List (Nat × Instr × Nat)} {T : ab_Tb} {rt : Option FieldType} {L L' : List (Option cx_V)} {r : List cx_V} {h h' : cx_H} {P : Option cx_V → cx_H → Prop} {ix : Nat}
theorem ex_iconst (G : cx_G j tb T rt) {n : Int} (hi : tb[ix]? = some (pc, .iconst n, 1)) (hp : pc' = pc + 1) (k : cx_T d j ks pc' (L, .inl (.int (Int32.ofInt n)) :: r, h) P) : cx_T d j ks pc (L, r, h) P := by
  subst hp
  intro p l e s m args below meth c D A cs tS w0 X hk ls stk ws hf S H locs hP hD hS
  exact lv_iconst X.1 X.2.1 (G.2.1 _ _ _ (List.mem_of_getElem? hi)) rfl (k p l e s m args below meth c D A cs tS w0 X hk ls ((.int (Int32.ofInt n)) :: stk) (ws) (hf) ⟨S.1, S.2.1, rfl, S.2.2⟩ H locs hP hD hS)
theorem cx_i8 {n : Int} (h1 : -128 ≤ n) (h2 : n ≤ 127) : (Int8.ofInt n).toInt32 = Int32.ofInt n := Int32.toInt_inj.mp (by rw [ab_i8 h1 h2, Int32.toInt_ofInt]; exact (ab_bm (by omega) (by omega)).symm)
theorem cx_i16 {n : Int} (h1 : -32768 ≤ n) (h2 : n ≤ 32767) : (Int16.ofInt n).toInt32 = Int32.ofInt n := Int32.toInt_inj.mp (by rw [ab_i16 h1 h2, Int32.toInt_ofInt]; exact (ab_bm (by omega) (by omega)).symm)
theorem cx_oi {n : Int} (h1 : -2147483648 ≤ n) (h2 : n ≤ 2147483647) : (Int32.ofInt n).toInt = n := by rw [Int32.toInt_ofInt]; exact ab_bm h1 h2
theorem ex_bipush (G : cx_G j tb T rt) {n : Int} (hi : tb[ix]? = some (pc, .bipush n, 2)) (hn : (ab_le (.negSucc 127) n && ab_le n (.ofNat 127)) = true) (hp : pc' = pc + 2) (k : cx_T d j ks pc' (L, .inl (.int (Int32.ofInt n)) :: r, h) P) : cx_T d j ks pc (L, r, h) P := by
  subst hp
  intro p l e s m args below meth c D A cs tS w0 X hk ls stk ws hf S H locs hP hD hS
  rw [Bool.and_eq_true, ab_le_iff, ab_le_iff] at hn
  have e1 := cx_i8 hn.1 hn.2
  refine lv_bipush X.1 X.2.1 (G.2.1 _ _ _ (List.mem_of_getElem? hi)) rfl ?_
  rw [e1]
  exact (k p l e s m args below meth c D A cs tS w0 X hk ls (.int (Int32.ofInt n) :: stk) (ws) (hf) ⟨S.1, S.2.1, rfl, S.2.2⟩ H locs hP hD hS)
theorem ex_sipush (G : cx_G j tb T rt) {n : Int} (hi : tb[ix]? = some (pc, .sipush n, 3)) (hn : (ab_le (.negSucc 32767) n && ab_le n (.ofNat 32767)) = true) (hp : pc' = pc + 3) (k : cx_T d j ks pc' (L, .inl (.int (Int32.ofInt n)) :: r, h) P) : cx_T d j ks pc (L, r, h) P := by
  subst hp
  intro p l e s m args below meth c D A cs tS w0 X hk ls stk ws hf S H locs hP hD hS
  rw [Bool.and_eq_true, ab_le_iff, ab_le_iff] at hn
  have e1 := cx_i16 hn.1 hn.2
  refine lv_sipush X.1 X.2.1 (G.2.1 _ _ _ (List.mem_of_getElem? hi)) rfl ?_
  rw [e1]
  exact (k p l e s m args below meth c D A cs tS w0 X hk ls (.int (Int32.ofInt n) :: stk) (ws) (hf) ⟨S.1, S.2.1, rfl, S.2.2⟩ H locs hP hD hS)
theorem ex_lconst (G : cx_G j tb T rt) {n : Fin 2} (hi : tb[ix]? = some (pc, .lconst n, 1)) (hp : pc' = pc + 1) (k : cx_T d j ks pc' (L, .inl (.long (Int64.ofNat n.val)) :: r, h) P) : cx_T d j ks pc (L, r, h) P := by
  subst hp
  intro p l e s m args below meth c D A cs tS w0 X hk ls stk ws hf S H locs hP hD hS
  exact lv_lconst X.1 X.2.1 (G.2.1 _ _ _ (List.mem_of_getElem? hi)) rfl (k p l e s m args below meth c D A cs tS w0 X hk ls ((.long (Int64.ofNat n.val)) :: stk) (ws) (hf) ⟨S.1, S.2.1, rfl, S.2.2⟩ H locs hP hD hS)
theorem ex_ldc (G : cx_G j tb T rt) {cp : Nat} {n : Int} (hi : tb[ix]? = some (pc, .ldc cp, 2)) (hT : T.2.1 cp = some n) (hp : pc' = pc + 2) (k : cx_T d j ks pc' (L, .inl (.int (Int32.ofInt n)) :: r, h) P) : cx_T d j ks pc (L, r, h) P := by
  subst hp
  intro p l e s m args below meth c D A cs tS w0 X hk ls stk ws hf S H locs hP hD hS
  obtain ⟨w, hw, hm⟩ := (ab_TOK_mono G.2.2.1.1 (Ts := ab_wM ZZ j) (fun w hw => List.mem_cons_of_mem _ hw)).2.1 cp n hT
  have e1 : w = Int32.ofInt n := by rw [← hw, Int32.ofInt_toInt]
  refine lv_ldc X.1 X.2.1 X.2.2.2.1 (X.2.2.2.2.1 _ hm) (G.2.1 _ _ _ (List.mem_of_getElem? hi)) ?_
  rw [e1]
  exact (k p l e s m args below meth c D A cs tS w0 X hk ls (.int (Int32.ofInt n) :: stk) (ws) (hf) ⟨S.1, S.2.1, rfl, S.2.2⟩ H locs hP hD hS)
theorem ex_ldc_w (G : cx_G j tb T rt) {cp : Nat} {n : Int} (hi : tb[ix]? = some (pc, .ldc_w cp, 3)) (hT : T.2.1 cp = some n) (hp : pc' = pc + 3) (k : cx_T d j ks pc' (L, .inl (.int (Int32.ofInt n)) :: r, h) P) : cx_T d j ks pc (L, r, h) P := by
  subst hp
  intro p l e s m args below meth c D A cs tS w0 X hk ls stk ws hf S H locs hP hD hS
  obtain ⟨w, hw, hm⟩ := (ab_TOK_mono G.2.2.1.1 (Ts := ab_wM ZZ j) (fun w hw => List.mem_cons_of_mem _ hw)).2.1 cp n hT
  have e1 : w = Int32.ofInt n := by rw [← hw, Int32.ofInt_toInt]
  refine lv_ldcw X.1 X.2.1 X.2.2.2.1 (X.2.2.2.2.1 _ hm) (G.2.1 _ _ _ (List.mem_of_getElem? hi)) ?_
  rw [e1]
  exact (k p l e s m args below meth c D A cs tS w0 X hk ls (.int (Int32.ofInt n) :: stk) (ws) (hf) ⟨S.1, S.2.1, rfl, S.2.2⟩ H locs hP hD hS)
theorem ex_ldc2_w (G : cx_G j tb T rt) {cp : Nat} {n : Int} (hi : tb[ix]? = some (pc, .ldc2_w cp, 3)) (hT : T.2.2.1 cp = some n) (hp : pc' = pc + 3) (k : cx_T d j ks pc' (L, .inl (.long (Int64.ofInt n)) :: r, h) P) : cx_T d j ks pc (L, r, h) P := by
  subst hp
  intro p l e s m args below meth c D A cs tS w0 X hk ls stk ws hf S H locs hP hD hS
  obtain ⟨w, hw, hm⟩ := (ab_TOK_mono G.2.2.1.1 (Ts := ab_wM ZZ j) (fun w hw => List.mem_cons_of_mem _ hw)).2.2.1 cp n hT
  have e1 : w = Int64.ofInt n := by rw [← hw, Int64.ofInt_toInt]
  refine lv_ldc2 X.1 X.2.1 X.2.2.2.1 (X.2.2.2.2.1 _ hm) (G.2.1 _ _ _ (List.mem_of_getElem? hi)) ?_
  rw [e1]
  exact (k p l e s m args below meth c D A cs tS w0 X hk ls (.long (Int64.ofInt n) :: stk) (ws) (hf) ⟨S.1, S.2.1, rfl, S.2.2⟩ H locs hP hD hS)
theorem ex_iload_n (G : cx_G j tb T rt) {i : Fin 4} {x : Int32} (hi : tb[ix]? = some (pc, .iload_n i, 1)) (hl : L[(i : Nat)]? = some (some (.inl (.int x)))) (hp : pc' = pc + 1) (k : cx_T d j ks pc' (L, .inl (.int x) :: r, h) P) : cx_T d j ks pc (L, r, h) P := by
  subst hp
  intro p l e s m args below meth c D A cs tS w0 X hk ls stk ws hf S H locs hP hD hS
  obtain ⟨y, hy, hv⟩ := S.2.1.2.2.2 _ _ hl
  have hv : y = .int x := hv
  subst hv
  exact lv_iload_n X.1 X.2.1 (G.2.1 _ _ _ (List.mem_of_getElem? hi)) rfl hy (k p l e s m args below meth c D A cs tS w0 X hk ls (.int x :: stk) (ws) (hf) ⟨S.1, S.2.1, rfl, S.2.2⟩ H locs hP hD hS)
theorem ex_iload (G : cx_G j tb T rt) {i : Nat} {x : Int32} (hi : tb[ix]? = some (pc, .iload i, 2)) (hl : L[i]? = some (some (.inl (.int x)))) (hp : pc' = pc + 2) (k : cx_T d j ks pc' (L, .inl (.int x) :: r, h) P) : cx_T d j ks pc (L, r, h) P := by
  subst hp
  intro p l e s m args below meth c D A cs tS w0 X hk ls stk ws hf S H locs hP hD hS
  obtain ⟨y, hy, hv⟩ := S.2.1.2.2.2 _ _ hl
  have hv : y = .int x := hv
  subst hv
  exact lv_iload X.1 X.2.1 (G.2.1 _ _ _ (List.mem_of_getElem? hi)) hy (k p l e s m args below meth c D A cs tS w0 X hk ls (.int x :: stk) (ws) (hf) ⟨S.1, S.2.1, rfl, S.2.2⟩ H locs hP hD hS)
theorem ex_lload_n (G : cx_G j tb T rt) {i : Fin 4} {x : Int64} (hi : tb[ix]? = some (pc, .lload_n i, 1)) (hl : L[(i : Nat)]? = some (some (.inl (.long x)))) (hp : pc' = pc + 1) (k : cx_T d j ks pc' (L, .inl (.long x) :: r, h) P) : cx_T d j ks pc (L, r, h) P := by
  subst hp
  intro p l e s m args below meth c D A cs tS w0 X hk ls stk ws hf S H locs hP hD hS
  obtain ⟨y, hy, hv⟩ := S.2.1.2.2.2 _ _ hl
  have hv : y = .long x := hv
  subst hv
  exact lv_lload_n X.1 X.2.1 (G.2.1 _ _ _ (List.mem_of_getElem? hi)) rfl hy (k p l e s m args below meth c D A cs tS w0 X hk ls (.long x :: stk) (ws) (hf) ⟨S.1, S.2.1, rfl, S.2.2⟩ H locs hP hD hS)
theorem ex_lload (G : cx_G j tb T rt) {i : Nat} {x : Int64} (hi : tb[ix]? = some (pc, .lload i, 2)) (hl : L[i]? = some (some (.inl (.long x)))) (hp : pc' = pc + 2) (k : cx_T d j ks pc' (L, .inl (.long x) :: r, h) P) : cx_T d j ks pc (L, r, h) P := by
  subst hp
  intro p l e s m args below meth c D A cs tS w0 X hk ls stk ws hf S H locs hP hD hS
  obtain ⟨y, hy, hv⟩ := S.2.1.2.2.2 _ _ hl
  have hv : y = .long x := hv
  subst hv
  exact lv_lload X.1 X.2.1 (G.2.1 _ _ _ (List.mem_of_getElem? hi)) hy (k p l e s m args below meth c D A cs tS w0 X hk ls (.long x :: stk) (ws) (hf) ⟨S.1, S.2.1, rfl, S.2.2⟩ H locs hP hD hS)
theorem ex_aload_n (G : cx_G j tb T rt) {i : Fin 4} {k0 : Nat} (hi : tb[ix]? = some (pc, .aload_n i, 1)) (hl : L[(i : Nat)]? = some (some (.inr (.inl k0)))) (hp : pc' = pc + 1) (k : cx_T d j ks pc' (L, .inr (.inl k0) :: r, h) P) : cx_T d j ks pc (L, r, h) P := by
  subst hp
  intro p l e s m args below meth c D A cs tS w0 X hk ls stk ws hf S H locs hP hD hS
  obtain ⟨y, hy, hv⟩ := S.2.1.2.2.2 _ _ hl
  obtain ⟨a, ha, e1⟩ := id hv
  subst e1
  exact lv_aload_n X.1 X.2.1 (G.2.1 _ _ _ (List.mem_of_getElem? hi)) rfl hy (k p l e s m args below meth c D A cs tS w0 X hk ls (.ref a :: stk) (ws) (hf) ⟨S.1, S.2.1, hv, S.2.2⟩ H locs hP hD hS)
theorem ex_aload (G : cx_G j tb T rt) {i : Nat} {k0 : Nat} (hi : tb[ix]? = some (pc, .aload i, 2)) (hl : L[i]? = some (some (.inr (.inl k0)))) (hp : pc' = pc + 2) (k : cx_T d j ks pc' (L, .inr (.inl k0) :: r, h) P) : cx_T d j ks pc (L, r, h) P := by
  subst hp
  intro p l e s m args below meth c D A cs tS w0 X hk ls stk ws hf S H locs hP hD hS
  obtain ⟨y, hy, hv⟩ := S.2.1.2.2.2 _ _ hl
  obtain ⟨a, ha, e1⟩ := id hv
  subst e1
  exact lv_aload X.1 X.2.1 (G.2.1 _ _ _ (List.mem_of_getElem? hi)) hy (k p l e s m args below meth c D A cs tS w0 X hk ls (.ref a :: stk) (ws) (hf) ⟨S.1, S.2.1, hv, S.2.2⟩ H locs hP hD hS)
theorem ex_istore_n (G : cx_G j tb T rt) {i : Fin 4} {x : Int32} (hi : tb[ix]? = some (pc, .istore_n i, 1)) (hb : Nat.ble ((i : Nat) + 1) L.length = true) (hL : (cx_clr L (i : Nat)).set (i : Nat) (some (.inl (.int x))) = L') (hp : pc' = pc + 1) (k : cx_T d j ks pc' (L', r, h) P) : cx_T d j ks pc (L, .inl (.int x) :: r, h) P := by
  subst hp
  intro p l e s m args below meth c D A cs tS w0 X hk ls stk ws hf S H locs hP hD hS
  subst hL
  obtain ⟨y, stk1, rfl, hv, Sr⟩ := cx_top S.2.2
  have hv : y = .int x := hv
  subst hv
  have hlt : ((i : Nat) : Nat) < ZZ.2.2.1 j := by
    have := Nat.le_of_ble_eq_true hb
    rw [S.2.1.2.2.1] at this
    exact this
  have hw := ab_knowns_has (ls := ls) S.2.1.2.1
  rw [S.2.1.1] at hw
  exact lv_istore_n X.1 X.2.1 (G.2.1 _ _ _ (List.mem_of_getElem? hi)) rfl hw hlt rfl (fun ls2 h2 => (k p l e s m args below meth c D A cs tS w0 X hk ls2 (stk1) (ws) (hf) ⟨S.1, cx_loc_st1 S.2.1 (v := .inl (.int x)) rfl hlt h2, Sr⟩ H locs hP hD hS))
theorem ex_istore (G : cx_G j tb T rt) {i : Nat} {x : Int32} (hi : tb[ix]? = some (pc, .istore i, 2)) (hb : Nat.ble (i + 1) L.length = true) (hL : (cx_clr L i).set i (some (.inl (.int x))) = L') (hp : pc' = pc + 2) (k : cx_T d j ks pc' (L', r, h) P) : cx_T d j ks pc (L, .inl (.int x) :: r, h) P := by
  subst hp
  intro p l e s m args below meth c D A cs tS w0 X hk ls stk ws hf S H locs hP hD hS
  subst hL
  obtain ⟨y, stk1, rfl, hv, Sr⟩ := cx_top S.2.2
  have hv : y = .int x := hv
  subst hv
  have hlt : (i : Nat) < ZZ.2.2.1 j := by
    have := Nat.le_of_ble_eq_true hb
    rw [S.2.1.2.2.1] at this
    exact this
  have hw := ab_knowns_has (ls := ls) S.2.1.2.1
  rw [S.2.1.1] at hw
  exact lv_istore X.1 X.2.1 (G.2.1 _ _ _ (List.mem_of_getElem? hi)) hw hlt rfl (fun ls2 h2 => (k p l e s m args below meth c D A cs tS w0 X hk ls2 (stk1) (ws) (hf) ⟨S.1, cx_loc_st1 S.2.1 (v := .inl (.int x)) rfl hlt h2, Sr⟩ H locs hP hD hS))
theorem ex_astore_n (G : cx_G j tb T rt) {i : Fin 4} {k0 : Nat} (hi : tb[ix]? = some (pc, .astore_n i, 1)) (hb : Nat.ble ((i : Nat) + 1) L.length = true) (hL : (cx_clr L (i : Nat)).set (i : Nat) (some (.inr (.inl k0))) = L') (hp : pc' = pc + 1) (k : cx_T d j ks pc' (L', r, h) P) : cx_T d j ks pc (L, .inr (.inl k0) :: r, h) P := by
  subst hp
  intro p l e s m args below meth c D A cs tS w0 X hk ls stk ws hf S H locs hP hD hS
  subst hL
  obtain ⟨y, stk1, rfl, hv, Sr⟩ := cx_top S.2.2
  obtain ⟨a, ha, e1⟩ := id hv
  subst e1
  have hlt : ((i : Nat) : Nat) < ZZ.2.2.1 j := by
    have := Nat.le_of_ble_eq_true hb
    rw [S.2.1.2.2.1] at this
    exact this
  have hw := ab_knowns_has (ls := ls) S.2.1.2.1
  rw [S.2.1.1] at hw
  exact lv_astore_n X.1 X.2.1 (G.2.1 _ _ _ (List.mem_of_getElem? hi)) rfl hw hlt rfl (fun ls2 h2 => (k p l e s m args below meth c D A cs tS w0 X hk ls2 (stk1) (ws) (hf) ⟨S.1, cx_loc_st1 S.2.1 (v := .inr (.inl k0)) hv hlt h2, Sr⟩ H locs hP hD hS))
theorem ex_lstore_n (G : cx_G j tb T rt) {i : Fin 4} {x : Int64} (hi : tb[ix]? = some (pc, .lstore_n i, 1)) (hb : Nat.ble ((i : Nat) + 1 + 1) L.length = true) (hL : ((cx_clr L (i : Nat)).set (i : Nat) (some (.inl (.long x)))).set ((i : Nat) + 1) none = L') (hp : pc' = pc + 1) (k : cx_T d j ks pc' (L', r, h) P) : cx_T d j ks pc (L, .inl (.long x) :: r, h) P := by
  subst hp
  intro p l e s m args below meth c D A cs tS w0 X hk ls stk ws hf S H locs hP hD hS
  subst hL
  obtain ⟨y, stk1, rfl, hv, Sr⟩ := cx_top S.2.2
  have hv : y = .long x := hv
  subst hv
  have hlt : ((i : Nat) : Nat) + 1 < ZZ.2.2.1 j := by
    have := Nat.le_of_ble_eq_true hb
    rw [S.2.1.2.2.1] at this
    exact this
  have hw := ab_knowns_has (ls := ls) S.2.1.2.1
  rw [S.2.1.1] at hw
  exact lv_lstore_n X.1 X.2.1 (G.2.1 _ _ _ (List.mem_of_getElem? hi)) rfl hw hlt rfl (fun ls2 h2 => (k p l e s m args below meth c D A cs tS w0 X hk ls2 (stk1) (ws) (hf) ⟨S.1, cx_loc_st2 S.2.1 (v := .inl (.long x)) rfl hlt h2, Sr⟩ H locs hP hD hS))
theorem ex_lstore (G : cx_G j tb T rt) {i : Nat} {x : Int64} (hi : tb[ix]? = some (pc, .lstore i, 2)) (hb : Nat.ble (i + 1 + 1) L.length = true) (hL : ((cx_clr L i).set i (some (.inl (.long x)))).set (i + 1) none = L') (hp : pc' = pc + 2) (k : cx_T d j ks pc' (L', r, h) P) : cx_T d j ks pc (L, .inl (.long x) :: r, h) P := by
  subst hp
  intro p l e s m args below meth c D A cs tS w0 X hk ls stk ws hf S H locs hP hD hS
  subst hL
  obtain ⟨y, stk1, rfl, hv, Sr⟩ := cx_top S.2.2
  have hv : y = .long x := hv
  subst hv
  have hlt : (i : Nat) + 1 < ZZ.2.2.1 j := by
    have := Nat.le_of_ble_eq_true hb
    rw [S.2.1.2.2.1] at this
    exact this
  have hw := ab_knowns_has (ls := ls) S.2.1.2.1
  rw [S.2.1.1] at hw
  exact lv_lstore X.1 X.2.1 (G.2.1 _ _ _ (List.mem_of_getElem? hi)) hw hlt rfl (fun ls2 h2 => (k p l e s m args below meth c D A cs tS w0 X hk ls2 (stk1) (ws) (hf) ⟨S.1, cx_loc_st2 S.2.1 (v := .inl (.long x)) rfl hlt h2, Sr⟩ H locs hP hD hS))
theorem ex_iinc (G : cx_G j tb T rt) {i : Nat} {z : Int} {x : Int32} (hi : tb[ix]? = some (pc, .iinc i z, 3)) (hl : L[i]? = some (some (.inl (.int x)))) (hb : Nat.ble (i + 1) L.length = true) (hL : (cx_clr L i).set i (some (.inl (.int (x + Int32.ofInt z)))) = L') (hp : pc' = pc + 3) (k : cx_T d j ks pc' (L', r, h) P) : cx_T d j ks pc (L, r, h) P := by
  subst hp
  intro p l e s m args below meth c D A cs tS w0 X hk ls stk ws hf S H locs hP hD hS
  subst hL
  have hlt : (i : Nat) < ZZ.2.2.1 j := by
    have := Nat.le_of_ble_eq_true hb
    rw [S.2.1.2.2.1] at this
    exact this
  have hw := ab_knowns_has (ls := ls) S.2.1.2.1
  rw [S.2.1.1] at hw
  obtain ⟨y, hy, hv⟩ := S.2.1.2.2.2 _ _ hl
  have hv : y = .int x := hv
  subst hv
  obtain ⟨kk, hkk⟩ := List.getElem?_of_mem (ab_knowns_in hy)
  exact lv_iinc X.1 X.2.1 (G.2.1 _ _ _ (List.mem_of_getElem? hi)) hw hkk rfl hlt rfl (fun ls2 h2 => (k p l e s m args below meth c D A cs tS w0 X hk ls2 (stk) (ws) (hf) ⟨S.1, cx_loc_st1 S.2.1 (v := .inl (.int (x + Int32.ofInt z))) rfl hlt h2, S.2.2⟩ H locs hP hD hS))
theorem ex_iincK (G : cx_G j tb T rt) {i : Nat} {z : Int} {x y : Int32} (hi : tb[ix]? = some (pc, .iinc i z, 3)) (hy : x + Int32.ofInt z = y) (hl : L[i]? = some (some (.inl (.int x)))) (hb : Nat.ble (i + 1) L.length = true) (hL : (cx_clr L i).set i (some (.inl (.int y))) = L') (hp : pc' = pc + 3) (k : cx_T d j ks pc' (L', r, h) P) : cx_T d j ks pc (L, r, h) P := by
  subst hy
  exact ex_iinc G hi hl hb hL hp k
theorem ex_iadd (G : cx_G j tb T rt) {x y : Int32} (hi : tb[ix]? = some (pc, .iadd, 1)) (hp : pc' = pc + 1) (k : cx_T d j ks pc' (L, .inl (.int (x + y)) :: r, h) P) : cx_T d j ks pc (L, .inl (.int y) :: .inl (.int x) :: r, h) P := by
  subst hp
  intro p l e s m args below meth c D A cs tS w0 X hk ls stk ws hf S H locs hP hD hS
  obtain ⟨y1, stk1, rfl, hv1, S1⟩ := cx_top S.2.2
  obtain ⟨x1, stk2, rfl, hv2, S2⟩ := cx_top S1
  have hv1 : y1 = .int y := hv1
  have hv2 : x1 = .int x := hv2
  subst hv1
  subst hv2
  exact lv_iadd X.1 X.2.1 (G.2.1 _ _ _ (List.mem_of_getElem? hi)) (k p l e s m args below meth c D A cs tS w0 X hk ls (.int (x + y) :: stk2) (ws) (hf) ⟨S.1, S.2.1, rfl, S2⟩ H locs hP hD hS)
theorem ex_isub (G : cx_G j tb T rt) {x y : Int32} (hi : tb[ix]? = some (pc, .isub, 1)) (hp : pc' = pc + 1) (k : cx_T d j ks pc' (L, .inl (.int (x - y)) :: r, h) P) : cx_T d j ks pc (L, .inl (.int y) :: .inl (.int x) :: r, h) P := by
  subst hp
  intro p l e s m args below meth c D A cs tS w0 X hk ls stk ws hf S H locs hP hD hS
  obtain ⟨y1, stk1, rfl, hv1, S1⟩ := cx_top S.2.2
  obtain ⟨x1, stk2, rfl, hv2, S2⟩ := cx_top S1
  have hv1 : y1 = .int y := hv1
  have hv2 : x1 = .int x := hv2
  subst hv1
  subst hv2
  exact lv_isub X.1 X.2.1 (G.2.1 _ _ _ (List.mem_of_getElem? hi)) (k p l e s m args below meth c D A cs tS w0 X hk ls (.int (x - y) :: stk2) (ws) (hf) ⟨S.1, S.2.1, rfl, S2⟩ H locs hP hD hS)
theorem ex_imul (G : cx_G j tb T rt) {x y : Int32} (hi : tb[ix]? = some (pc, .imul, 1)) (hp : pc' = pc + 1) (k : cx_T d j ks pc' (L, .inl (.int (x * y)) :: r, h) P) : cx_T d j ks pc (L, .inl (.int y) :: .inl (.int x) :: r, h) P := by
  subst hp
  intro p l e s m args below meth c D A cs tS w0 X hk ls stk ws hf S H locs hP hD hS
  obtain ⟨y1, stk1, rfl, hv1, S1⟩ := cx_top S.2.2
  obtain ⟨x1, stk2, rfl, hv2, S2⟩ := cx_top S1
  have hv1 : y1 = .int y := hv1
  have hv2 : x1 = .int x := hv2
  subst hv1
  subst hv2
  exact lv_imul X.1 X.2.1 (G.2.1 _ _ _ (List.mem_of_getElem? hi)) (k p l e s m args below meth c D A cs tS w0 X hk ls (.int (x * y) :: stk2) (ws) (hf) ⟨S.1, S.2.1, rfl, S2⟩ H locs hP hD hS)
theorem ex_iand (G : cx_G j tb T rt) {x y : Int32} (hi : tb[ix]? = some (pc, .iand, 1)) (hp : pc' = pc + 1) (k : cx_T d j ks pc' (L, .inl (.int (x &&& y)) :: r, h) P) : cx_T d j ks pc (L, .inl (.int y) :: .inl (.int x) :: r, h) P := by
  subst hp
  intro p l e s m args below meth c D A cs tS w0 X hk ls stk ws hf S H locs hP hD hS
  obtain ⟨y1, stk1, rfl, hv1, S1⟩ := cx_top S.2.2
  obtain ⟨x1, stk2, rfl, hv2, S2⟩ := cx_top S1
  have hv1 : y1 = .int y := hv1
  have hv2 : x1 = .int x := hv2
  subst hv1
  subst hv2
  exact lv_iand X.1 X.2.1 (G.2.1 _ _ _ (List.mem_of_getElem? hi)) (k p l e s m args below meth c D A cs tS w0 X hk ls (.int (x &&& y) :: stk2) (ws) (hf) ⟨S.1, S.2.1, rfl, S2⟩ H locs hP hD hS)
theorem ex_ior (G : cx_G j tb T rt) {x y : Int32} (hi : tb[ix]? = some (pc, .ior, 1)) (hp : pc' = pc + 1) (k : cx_T d j ks pc' (L, .inl (.int (x ||| y)) :: r, h) P) : cx_T d j ks pc (L, .inl (.int y) :: .inl (.int x) :: r, h) P := by
  subst hp
  intro p l e s m args below meth c D A cs tS w0 X hk ls stk ws hf S H locs hP hD hS
  obtain ⟨y1, stk1, rfl, hv1, S1⟩ := cx_top S.2.2
  obtain ⟨x1, stk2, rfl, hv2, S2⟩ := cx_top S1
  have hv1 : y1 = .int y := hv1
  have hv2 : x1 = .int x := hv2
  subst hv1
  subst hv2
  exact lv_ior X.1 X.2.1 (G.2.1 _ _ _ (List.mem_of_getElem? hi)) (k p l e s m args below meth c D A cs tS w0 X hk ls (.int (x ||| y) :: stk2) (ws) (hf) ⟨S.1, S.2.1, rfl, S2⟩ H locs hP hD hS)
theorem ex_ishl (G : cx_G j tb T rt) {x y : Int32} (hi : tb[ix]? = some (pc, .ishl, 1)) (hp : pc' = pc + 1) (k : cx_T d j ks pc' (L, .inl (.int (x <<< (y &&& 31))) :: r, h) P) : cx_T d j ks pc (L, .inl (.int y) :: .inl (.int x) :: r, h) P := by
  subst hp
  intro p l e s m args below meth c D A cs tS w0 X hk ls stk ws hf S H locs hP hD hS
  obtain ⟨y1, stk1, rfl, hv1, S1⟩ := cx_top S.2.2
  obtain ⟨x1, stk2, rfl, hv2, S2⟩ := cx_top S1
  have hv1 : y1 = .int y := hv1
  have hv2 : x1 = .int x := hv2
  subst hv1
  subst hv2
  exact lv_ishl X.1 X.2.1 (G.2.1 _ _ _ (List.mem_of_getElem? hi)) (k p l e s m args below meth c D A cs tS w0 X hk ls (.int (x <<< (y &&& 31)) :: stk2) (ws) (hf) ⟨S.1, S.2.1, rfl, S2⟩ H locs hP hD hS)
theorem ex_ishr (G : cx_G j tb T rt) {x y : Int32} (hi : tb[ix]? = some (pc, .ishr, 1)) (hp : pc' = pc + 1) (k : cx_T d j ks pc' (L, .inl (.int (x >>> (y &&& 31))) :: r, h) P) : cx_T d j ks pc (L, .inl (.int y) :: .inl (.int x) :: r, h) P := by
  subst hp
  intro p l e s m args below meth c D A cs tS w0 X hk ls stk ws hf S H locs hP hD hS
  obtain ⟨y1, stk1, rfl, hv1, S1⟩ := cx_top S.2.2
  obtain ⟨x1, stk2, rfl, hv2, S2⟩ := cx_top S1
  have hv1 : y1 = .int y := hv1
  have hv2 : x1 = .int x := hv2
  subst hv1
  subst hv2
  exact lv_ishr X.1 X.2.1 (G.2.1 _ _ _ (List.mem_of_getElem? hi)) (k p l e s m args below meth c D A cs tS w0 X hk ls (.int (x >>> (y &&& 31)) :: stk2) (ws) (hf) ⟨S.1, S.2.1, rfl, S2⟩ H locs hP hD hS)
theorem ex_idiv (G : cx_G j tb T rt) {x y : Int32} (hi : tb[ix]? = some (pc, .idiv, 1)) (hz : ¬ y = 0) (hp : pc' = pc + 1) (k : cx_T d j ks pc' (L, .inl (.int (x / y)) :: r, h) P) : cx_T d j ks pc (L, .inl (.int y) :: .inl (.int x) :: r, h) P := by
  subst hp
  intro p l e s m args below meth c D A cs tS w0 X hk ls stk ws hf S H locs hP hD hS
  obtain ⟨y1, stk1, rfl, hv1, S1⟩ := cx_top S.2.2
  obtain ⟨x1, stk2, rfl, hv2, S2⟩ := cx_top S1
  have hv1 : y1 = .int y := hv1
  have hv2 : x1 = .int x := hv2
  subst hv1
  subst hv2
  exact lv_idiv X.1 X.2.1 (G.2.1 _ _ _ (List.mem_of_getElem? hi)) hz (k p l e s m args below meth c D A cs tS w0 X hk ls (.int (x / y) :: stk2) (ws) (hf) ⟨S.1, S.2.1, rfl, S2⟩ H locs hP hD hS)
theorem ex_irem (G : cx_G j tb T rt) {x y : Int32} (hi : tb[ix]? = some (pc, .irem, 1)) (hz : ¬ y = 0) (hp : pc' = pc + 1) (k : cx_T d j ks pc' (L, .inl (.int (x - x / y * y)) :: r, h) P) : cx_T d j ks pc (L, .inl (.int y) :: .inl (.int x) :: r, h) P := by
  subst hp
  intro p l e s m args below meth c D A cs tS w0 X hk ls stk ws hf S H locs hP hD hS
  obtain ⟨y1, stk1, rfl, hv1, S1⟩ := cx_top S.2.2
  obtain ⟨x1, stk2, rfl, hv2, S2⟩ := cx_top S1
  have hv1 : y1 = .int y := hv1
  have hv2 : x1 = .int x := hv2
  subst hv1
  subst hv2
  exact lv_irem X.1 X.2.1 (G.2.1 _ _ _ (List.mem_of_getElem? hi)) hz (k p l e s m args below meth c D A cs tS w0 X hk ls (.int (x - x / y * y) :: stk2) (ws) (hf) ⟨S.1, S.2.1, rfl, S2⟩ H locs hP hD hS)
theorem ex_ladd (G : cx_G j tb T rt) {x y : Int64} (hi : tb[ix]? = some (pc, .ladd, 1)) (hp : pc' = pc + 1) (k : cx_T d j ks pc' (L, .inl (.long (x + y)) :: r, h) P) : cx_T d j ks pc (L, .inl (.long y) :: .inl (.long x) :: r, h) P := by
  subst hp
  intro p l e s m args below meth c D A cs tS w0 X hk ls stk ws hf S H locs hP hD hS
  obtain ⟨y1, stk1, rfl, hv1, S1⟩ := cx_top S.2.2
  obtain ⟨x1, stk2, rfl, hv2, S2⟩ := cx_top S1
  have hv1 : y1 = .long y := hv1
  have hv2 : x1 = .long x := hv2
  subst hv1
  subst hv2
  exact lv_ladd X.1 X.2.1 (G.2.1 _ _ _ (List.mem_of_getElem? hi)) (k p l e s m args below meth c D A cs tS w0 X hk ls (.long (x + y) :: stk2) (ws) (hf) ⟨S.1, S.2.1, rfl, S2⟩ H locs hP hD hS)
theorem ex_lsub (G : cx_G j tb T rt) {x y : Int64} (hi : tb[ix]? = some (pc, .lsub, 1)) (hp : pc' = pc + 1) (k : cx_T d j ks pc' (L, .inl (.long (x - y)) :: r, h) P) : cx_T d j ks pc (L, .inl (.long y) :: .inl (.long x) :: r, h) P := by
  subst hp
  intro p l e s m args below meth c D A cs tS w0 X hk ls stk ws hf S H locs hP hD hS
  obtain ⟨y1, stk1, rfl, hv1, S1⟩ := cx_top S.2.2
  obtain ⟨x1, stk2, rfl, hv2, S2⟩ := cx_top S1
  have hv1 : y1 = .long y := hv1
  have hv2 : x1 = .long x := hv2
  subst hv1
  subst hv2
  exact lv_lsub X.1 X.2.1 (G.2.1 _ _ _ (List.mem_of_getElem? hi)) (k p l e s m args below meth c D A cs tS w0 X hk ls (.long (x - y) :: stk2) (ws) (hf) ⟨S.1, S.2.1, rfl, S2⟩ H locs hP hD hS)
theorem ex_lmul (G : cx_G j tb T rt) {x y : Int64} (hi : tb[ix]? = some (pc, .lmul, 1)) (hp : pc' = pc + 1) (k : cx_T d j ks pc' (L, .inl (.long (x * y)) :: r, h) P) : cx_T d j ks pc (L, .inl (.long y) :: .inl (.long x) :: r, h) P := by
  subst hp
  intro p l e s m args below meth c D A cs tS w0 X hk ls stk ws hf S H locs hP hD hS
  obtain ⟨y1, stk1, rfl, hv1, S1⟩ := cx_top S.2.2
  obtain ⟨x1, stk2, rfl, hv2, S2⟩ := cx_top S1
  have hv1 : y1 = .long y := hv1
  have hv2 : x1 = .long x := hv2
  subst hv1
  subst hv2
  exact lv_lmul X.1 X.2.1 (G.2.1 _ _ _ (List.mem_of_getElem? hi)) (k p l e s m args below meth c D A cs tS w0 X hk ls (.long (x * y) :: stk2) (ws) (hf) ⟨S.1, S.2.1, rfl, S2⟩ H locs hP hD hS)
theorem ex_ldiv (G : cx_G j tb T rt) {x y : Int64} (hi : tb[ix]? = some (pc, .ldiv, 1)) (hz : ¬ y = 0) (hp : pc' = pc + 1) (k : cx_T d j ks pc' (L, .inl (.long (x / y)) :: r, h) P) : cx_T d j ks pc (L, .inl (.long y) :: .inl (.long x) :: r, h) P := by
  subst hp
  intro p l e s m args below meth c D A cs tS w0 X hk ls stk ws hf S H locs hP hD hS
  obtain ⟨y1, stk1, rfl, hv1, S1⟩ := cx_top S.2.2
  obtain ⟨x1, stk2, rfl, hv2, S2⟩ := cx_top S1
  have hv1 : y1 = .long y := hv1
  have hv2 : x1 = .long x := hv2
  subst hv1
  subst hv2
  exact lv_ldiv X.1 X.2.1 (G.2.1 _ _ _ (List.mem_of_getElem? hi)) hz (k p l e s m args below meth c D A cs tS w0 X hk ls (.long (x / y) :: stk2) (ws) (hf) ⟨S.1, S.2.1, rfl, S2⟩ H locs hP hD hS)
theorem ex_lrem (G : cx_G j tb T rt) {x y : Int64} (hi : tb[ix]? = some (pc, .lrem, 1)) (hz : ¬ y = 0) (hp : pc' = pc + 1) (k : cx_T d j ks pc' (L, .inl (.long (x - x / y * y)) :: r, h) P) : cx_T d j ks pc (L, .inl (.long y) :: .inl (.long x) :: r, h) P := by
  subst hp
  intro p l e s m args below meth c D A cs tS w0 X hk ls stk ws hf S H locs hP hD hS
  obtain ⟨y1, stk1, rfl, hv1, S1⟩ := cx_top S.2.2
  obtain ⟨x1, stk2, rfl, hv2, S2⟩ := cx_top S1
  have hv1 : y1 = .long y := hv1
  have hv2 : x1 = .long x := hv2
  subst hv1
  subst hv2
  exact lv_lrem X.1 X.2.1 (G.2.1 _ _ _ (List.mem_of_getElem? hi)) hz (k p l e s m args below meth c D A cs tS w0 X hk ls (.long (x - x / y * y) :: stk2) (ws) (hf) ⟨S.1, S.2.1, rfl, S2⟩ H locs hP hD hS)
theorem ex_lcmp (G : cx_G j tb T rt) {x y : Int64} (hi : tb[ix]? = some (pc, .lcmp, 1)) (hp : pc' = pc + 1) (k : cx_T d j ks pc' (L, .inl (.int (lg_cmp x y)) :: r, h) P) : cx_T d j ks pc (L, .inl (.long y) :: .inl (.long x) :: r, h) P := by
  subst hp
  intro p l e s m args below meth c D A cs tS w0 X hk ls stk ws hf S H locs hP hD hS
  obtain ⟨y1, stk1, rfl, hv1, S1⟩ := cx_top S.2.2
  obtain ⟨x1, stk2, rfl, hv2, S2⟩ := cx_top S1
  have hv1 : y1 = .long y := hv1
  have hv2 : x1 = .long x := hv2
  subst hv1
  subst hv2
  exact W.lcmp X.1 X.2.1 (G.2.1 _ _ _ (List.mem_of_getElem? hi)) (k p l e s m args below meth c D A cs tS w0 X hk ls (.int (lg_cmp x y) :: stk2) (ws) (hf) ⟨S.1, S.2.1, rfl, S2⟩ H locs hP hD hS)
theorem ex_ineg (G : cx_G j tb T rt) {x : Int32} (hi : tb[ix]? = some (pc, .ineg, 1)) (hp : pc' = pc + 1) (k : cx_T d j ks pc' (L, .inl (.int (-x)) :: r, h) P) : cx_T d j ks pc (L, .inl (.int x) :: r, h) P := by
  subst hp
  intro p l e s m args below meth c D A cs tS w0 X hk ls stk ws hf S H locs hP hD hS
  obtain ⟨x1, stk1, rfl, hv, S1⟩ := cx_top S.2.2
  have hv : x1 = .int x := hv
  subst hv
  exact lv_ineg X.1 X.2.1 (G.2.1 _ _ _ (List.mem_of_getElem? hi)) (k p l e s m args below meth c D A cs tS w0 X hk ls (.int (-x) :: stk1) (ws) (hf) ⟨S.1, S.2.1, rfl, S1⟩ H locs hP hD hS)
theorem ex_i2l (G : cx_G j tb T rt) {x : Int32} (hi : tb[ix]? = some (pc, .i2l, 1)) (hp : pc' = pc + 1) (k : cx_T d j ks pc' (L, .inl (.long (x.toInt64)) :: r, h) P) : cx_T d j ks pc (L, .inl (.int x) :: r, h) P := by
  subst hp
  intro p l e s m args below meth c D A cs tS w0 X hk ls stk ws hf S H locs hP hD hS
  obtain ⟨x1, stk1, rfl, hv, S1⟩ := cx_top S.2.2
  have hv : x1 = .int x := hv
  subst hv
  exact lv_i2l X.1 X.2.1 (G.2.1 _ _ _ (List.mem_of_getElem? hi)) rfl (k p l e s m args below meth c D A cs tS w0 X hk ls (.long (x.toInt64) :: stk1) (ws) (hf) ⟨S.1, S.2.1, rfl, S1⟩ H locs hP hD hS)
theorem ex_l2i (G : cx_G j tb T rt) {x : Int64} (hi : tb[ix]? = some (pc, .l2i, 1)) (hp : pc' = pc + 1) (k : cx_T d j ks pc' (L, .inl (.int (x.toInt32)) :: r, h) P) : cx_T d j ks pc (L, .inl (.long x) :: r, h) P := by
  subst hp
  intro p l e s m args below meth c D A cs tS w0 X hk ls stk ws hf S H locs hP hD hS
  obtain ⟨x1, stk1, rfl, hv, S1⟩ := cx_top S.2.2
  have hv : x1 = .long x := hv
  subst hv
  exact lv_l2i X.1 X.2.1 (G.2.1 _ _ _ (List.mem_of_getElem? hi)) rfl (k p l e s m args below meth c D A cs tS w0 X hk ls (.int (x.toInt32) :: stk1) (ws) (hf) ⟨S.1, S.2.1, rfl, S1⟩ H locs hP hD hS)
theorem ex_dup (G : cx_G j tb T rt) {v : cx_V} (hi : tb[ix]? = some (pc, .dup, 1)) (hv : cx_k1 (some (some v)) = true) (hp : pc' = pc + 1) (k : cx_T d j ks pc' (L, v :: v :: r, h) P) : cx_T d j ks pc (L, v :: r, h) P := by
  subst hp
  intro p l e s m args below meth c D A cs tS w0 X hk ls stk ws hf S H locs hP hD hS
  obtain ⟨x1, stk1, rfl, hx, S1⟩ := cx_top S.2.2
  exact lv_dup X.1 X.2.1 (G.2.1 _ _ _ (List.mem_of_getElem? hi)) (cx_cat1 hv hx) (k p l e s m args below meth c D A cs tS w0 X hk ls (x1 :: x1 :: stk1) (ws) (hf) ⟨S.1, S.2.1, hx, hx, S1⟩ H locs hP hD hS)
theorem ex_pop (G : cx_G j tb T rt) {v : cx_V} (hi : tb[ix]? = some (pc, .pop, 1)) (hv : cx_k1 (some (some v)) = true) (hp : pc' = pc + 1) (k : cx_T d j ks pc' (L, r, h) P) : cx_T d j ks pc (L, v :: r, h) P := by
  subst hp
  intro p l e s m args below meth c D A cs tS w0 X hk ls stk ws hf S H locs hP hD hS
  obtain ⟨x1, stk1, rfl, hx, S1⟩ := cx_top S.2.2
  exact lv_pop X.1 X.2.1 (G.2.1 _ _ _ (List.mem_of_getElem? hi)) (cx_cat1 hv hx) (k p l e s m args below meth c D A cs tS w0 X hk ls (stk1) (ws) (hf) ⟨S.1, S.2.1, S1⟩ H locs hP hD hS)
theorem ex_dup2 (G : cx_G j tb T rt) {v w : cx_V} (hi : tb[ix]? = some (pc, .dup2, 1)) (hv : cx_k1 (some (some v)) = true) (hw : cx_k1 (some (some w)) = true) (hp : pc' = pc + 1) (k : cx_T d j ks pc' (L, v :: w :: v :: w :: r, h) P) : cx_T d j ks pc (L, v :: w :: r, h) P := by
  subst hp
  intro p l e s m args below meth c D A cs tS w0 X hk ls stk ws hf S H locs hP hD hS
  obtain ⟨x1, stk1, rfl, hx, S1⟩ := cx_top S.2.2
  obtain ⟨x2, stk2, rfl, hx2, S2⟩ := cx_top S1
  exact lv_dup2_11 X.1 X.2.1 (G.2.1 _ _ _ (List.mem_of_getElem? hi)) (cx_cat1 hv hx) (cx_cat1 hw hx2) (k p l e s m args below meth c D A cs tS w0 X hk ls (x1 :: x2 :: x1 :: x2 :: stk2) (ws) (hf) ⟨S.1, S.2.1, hx, hx2, hx, hx2, S2⟩ H locs hP hD hS)
theorem ex_goto (G : cx_G j tb T rt) {off : Int} (hi : tb[ix]? = some (pc, .goto off, 3)) (ht : ab_tgt pc off = some pc') (k : cx_T d j ks pc' (L, r, h) P) : cx_T d j ks pc (L, r, h) P := by
  intro p l e s m args below meth c D A cs tS w0 X hk ls stk ws hf S H locs hP hD hS
  exact lv_goto X.1 X.2.1 (G.2.1 _ _ _ (List.mem_of_getElem? hi)) (ab_tgt_ok ht) (k p l e s m args below meth c D A cs tS w0 X hk ls (stk) (ws) (hf) S H locs hP hD hS)
theorem ex_if (G : cx_G j tb T rt) {co : Jvm.ClassFile.Cond} {off : Int} {t : Nat} {x : Int32} (hi : tb[ix]? = some (pc, .ifCond co off, 3)) (ht : ab_tgt pc off = some t) (hp : pc' = pc + 3) (k1 : ab_ch co x.toInt 0 → cx_T d j ks t (L, r, h) P) (k2 : ¬ ab_ch co x.toInt 0 → cx_T d j ks pc' (L, r, h) P) : cx_T d j ks pc (L, .inl (.int x) :: r, h) P := by
  subst hp
  intro p l e s m args below meth c D A cs tS w0 X hk ls stk ws hf S H locs hP hD hS
  obtain ⟨x1, stk1, rfl, hv, S1⟩ := cx_top S.2.2
  have hv : x1 = .int x := hv
  subst hv
  exact ab_row_if X.1 X.2.1 (G.2.1 _ _ _ (List.mem_of_getElem? hi)) (ab_tgt_ok ht) (fun hc => (k1 hc p l e s m args below meth c D A cs tS w0 X hk ls (stk1) (ws) (hf) ⟨S.1, S.2.1, S1⟩ H locs hP hD hS)) (fun hc => (k2 hc p l e s m args below meth c D A cs tS w0 X hk ls (stk1) (ws) (hf) ⟨S.1, S.2.1, S1⟩ H locs hP hD hS))
theorem ex_icmp (G : cx_G j tb T rt) {co : Jvm.ClassFile.Cond} {off : Int} {t : Nat} {x y : Int32} (hi : tb[ix]? = some (pc, .if_icmp co off, 3)) (ht : ab_tgt pc off = some t) (hp : pc' = pc + 3) (k1 : ab_ch co x.toInt y.toInt → cx_T d j ks t (L, r, h) P) (k2 : ¬ ab_ch co x.toInt y.toInt → cx_T d j ks pc' (L, r, h) P) : cx_T d j ks pc (L, .inl (.int y) :: .inl (.int x) :: r, h) P := by
  subst hp
  intro p l e s m args below meth c D A cs tS w0 X hk ls stk ws hf S H locs hP hD hS
  obtain ⟨y1, stk1, rfl, hv1, S1⟩ := cx_top S.2.2
  obtain ⟨x1, stk2, rfl, hv2, S2⟩ := cx_top S1
  have hv1 : y1 = .int y := hv1
  have hv2 : x1 = .int x := hv2
  subst hv1
  subst hv2
  exact ab_row_icmp X.1 X.2.1 (G.2.1 _ _ _ (List.mem_of_getElem? hi)) (ab_tgt_ok ht) (fun hc => (k1 hc p l e s m args below meth c D A cs tS w0 X hk ls (stk2) (ws) (hf) ⟨S.1, S.2.1, S2⟩ H locs hP hD hS)) (fun hc => (k2 hc p l e s m args below meth c D A cs tS w0 X hk ls (stk2) (ws) (hf) ⟨S.1, S.2.1, S2⟩ H locs hP hD hS))
theorem ex_tabOut (G : cx_G j tb T rt) {df lo hi' : Int} {os : Array Int} {len t : Nat} {x : Int32} (hi : tb[ix]? = some (pc, .tableswitch df lo hi' os, len)) (hx : x.toInt < lo ∨ hi' < x.toInt) (ht : ab_tgt pc df = some t) (k : cx_T d j ks t (L, r, h) P) : cx_T d j ks pc (L, .inl (.int x) :: r, h) P := by
  intro p l e s m args below meth c D A cs tS w0 X hk ls stk ws hf S H locs hP hD hS
  obtain ⟨x1, stk1, rfl, hv, S1⟩ := cx_top S.2.2
  have hv : x1 = .int x := hv
  subst hv
  exact lv_tableOut X.1 X.2.1 (G.2.1 _ _ _ (List.mem_of_getElem? hi)) hx (ab_tgt_ok ht) (k p l e s m args below meth c D A cs tS w0 X hk ls (stk1) (ws) (hf) ⟨S.1, S.2.1, S1⟩ H locs hP hD hS)
theorem ex_tabIn (G : cx_G j tb T rt) {df lo hi' off : Int} {os : Array Int} {len t : Nat} {x : Int32} (hi : tb[ix]? = some (pc, .tableswitch df lo hi' os, len)) (h1 : ¬ x.toInt < lo) (h2 : ¬ hi' < x.toInt) (ho : os[(x.toInt - lo).toNat]? = some off) (ht : ab_tgt pc off = some t) (k : cx_T d j ks t (L, r, h) P) : cx_T d j ks pc (L, .inl (.int x) :: r, h) P := by
  intro p l e s m args below meth c D A cs tS w0 X hk ls stk ws hf S H locs hP hD hS
  obtain ⟨x1, stk1, rfl, hv, S1⟩ := cx_top S.2.2
  have hv : x1 = .int x := hv
  subst hv
  exact lv_tableIn X.1 X.2.1 (G.2.1 _ _ _ (List.mem_of_getElem? hi)) h1 h2 ho (ab_tgt_ok ht) (k p l e s m args below meth c D A cs tS w0 X hk ls (stk1) (ws) (hf) ⟨S.1, S.2.1, S1⟩ H locs hP hD hS)
theorem ex_lookup (G : cx_G j tb T rt) {df off : Int} {os : Array (Int × Int)} {len t : Nat} {x : Int32} (hi : tb[ix]? = some (pc, .lookupswitch df os, len)) (hs : (os.toList.zip (os.toList.drop 1)).all (fun (a, next) => a.1 < next.1) = true) (ho : Op.lookupswitch.offset os.toList df x.toInt = off) (ht : ab_tgt pc off = some t) (k : cx_T d j ks t (L, r, h) P) : cx_T d j ks pc (L, .inl (.int x) :: r, h) P := by
  intro p l e s m args below meth c D A cs tS w0 X hk ls stk ws hf S H locs hP hD hS
  obtain ⟨x1, stk1, rfl, hv, S1⟩ := cx_top S.2.2
  have hv : x1 = .int x := hv
  subst hv
  exact lv_lookup X.1 X.2.1 (G.2.1 _ _ _ (List.mem_of_getElem? hi)) hs ho (ab_tgt_ok ht) (k p l e s m args below meth c D A cs tS w0 X hk ls (stk1) (ws) (hf) ⟨S.1, S.2.1, S1⟩ H locs hP hD hS)
theorem ex_getfield (G : cx_G j tb T rt) {cp ci f : Nat} {ty : FieldType} {fin : Bool} {k0 : Nat} {vs : List cx_V} {v : cx_V} (hi : tb[ix]? = some (pc, .getfield cp, 3)) (hT : T.1 cp = some (ci, f, ty, fin)) (hc : cx_hg h k0 = some (.inl (ci, vs))) (hv0 : vs[f]? = some v) (hp : pc' = pc + 3) (k : cx_T d j ks pc' (L, v :: r, h) P) : cx_T d j ks pc (L, .inr (.inl k0) :: r, h) P := by
  subst hp
  intro p l e s m args below meth c D A cs tS w0 X hk ls stk ws hf S H locs hP hD hS
  obtain ⟨x1, stk1, rfl, hv, S1⟩ := cx_top S.2.2
  obtain ⟨a, ha, e1⟩ := hv
  subst e1
  obtain ⟨a2, e2, hw, hcell⟩ := S.1 _ _ hc
  have ea := ab_ad_get ha hw
  subst ea
  obtain ⟨fs, rfl, hall⟩ := hcell
  obtain ⟨y, hy, hyv⟩ := cx_all_get hall hv0
  obtain ⟨hx, hbc, hml, hown, hts, hK, hA, hZ, hTs, hr, hlocks, hname⟩ := id X
  obtain ⟨C, Tb, N, ty0, f1, f2, f3, f4, f5, f6, f7, f8, f9⟩ := (ab_TOK_mono G.2.2.1.1 (Ts := ab_wM ZZ j) (fun w hw => List.mem_cons_of_mem _ hw)).1 cp _ hT
  exact va_get hx hbc hts f3 hown hK hP k0 hw f1 f f2 (hts _ f4) (fun _ z => z) hy (G.2.1 _ _ _ (List.mem_of_getElem? hi)) (k p l e s m args below meth c D A cs tS w0 X hk ls (y :: stk1) (ws) (hf) ⟨S.1, S.2.1, hyv, S1⟩ H locs hP hD hS)
theorem ex_putfield (G : cx_G j tb T rt) {cp ci f : Nat} {ty : FieldType} {k0 : Nat} {vs : List cx_V} {w : Value} {vz : cx_V} (hi : tb[ix]? = some (pc, .putfield cp, 3)) (hT : T.1 cp = some (ci, f, ty, false)) (hc : cx_hg h k0 = some (.inl (ci, vs))) (hv0 : vs[f]? = some vz) (hn : narrow ty w = w) (hfi : fits ty w = true) (hh : cx_hs h k0 (.inl (ci, vs.set f (.inl w))) = h') (hp : pc' = pc + 3) (k : cx_T d j ks pc' (L, r, h') P) : cx_T d j ks pc (L, .inl w :: .inr (.inl k0) :: r, h) P := by
  subst hp
  intro p l e s m args below meth c D A cs tS w0 X hk ls stk ws hf S H locs hP hD hS
  subst hh
  obtain ⟨y1, stk1, rfl, hv1, S1⟩ := cx_top S.2.2
  have hv1 : y1 = w := hv1
  subst hv1
  obtain ⟨x1, stk2, rfl, hv, S2⟩ := cx_top S1
  obtain ⟨a, ha, e1⟩ := hv
  subst e1
  obtain ⟨a2, e2, hw, hcell⟩ := S.1 _ _ hc
  have ea := ab_ad_get ha hw
  subst ea
  obtain ⟨fs, rfl, hall⟩ := hcell
  have hlt : f < fs.length := by
    rw [← cx_all_len hall]
    exact (List.getElem?_eq_some_iff.mp hv0).1
  obtain ⟨hx, hbc, hml, hown, hts, hK, hA, hZ, hTs, hr, hlocks, hname⟩ := id X
  obtain ⟨C, Tb, N, ty0, f1, f2, f3, f4, f5, f6, f7, f8, f9⟩ := (ab_TOK_mono G.2.2.1.1 (Ts := ab_wM ZZ j) (fun w hw => List.mem_cons_of_mem _ hw)).1 cp _ hT
  refine va_put hx hbc hts f3 ty0 f8 f9 hown hK hP hD hS k0 hw f1 f f2 (hts _ f4) (fun _ z => z) f5 f7 hn hfi hlt (G.2.1 _ _ _ (List.mem_of_getElem? hi)) (fun H1 locs1 hP1 hD1 hS1 => ?_)
  exact (k p l e s m args below meth c D A cs tS w0 X (by rw [cx_hs_key]; exact hk) ls (stk2) (_) (hf.set hw (by rw [← hk]; exact cx_hg_key hc)) (cx_sat_set S.2.1 S2 hw (cx_heap_set S.1 hw hc ⟨_, rfl, cx_all_set hall f rfl⟩)) H1 locs1 hP1 hD1 hS1)
theorem ex_iaload (G : cx_G j tb T rt) {k0 N : Nat} {f : Nat → Int32} {i : Int32} (hi : tb[ix]? = some (pc, .iaload, 1)) (hc : cx_hg h k0 = some (.inr (.inl (0, N, f)))) (hi0 : 0 ≤ i.toInt) (hiN : i.toInt < N) (hp : pc' = pc + 1) (k : cx_T d j ks pc' (L, .inl (.int (f i.toNatClampNeg)) :: r, h) P) : cx_T d j ks pc (L, .inl (.int i) :: .inr (.inl k0) :: r, h) P := by
  subst hp
  intro p l e s m args below meth c D A cs tS w0 X hk ls stk ws hf S H locs hP hD hS
  obtain ⟨y1, stk1, rfl, hv1, S1⟩ := cx_top S.2.2
  have hv1 : y1 = .int i := hv1
  subst hv1
  obtain ⟨x1, stk2, rfl, hv, S2⟩ := cx_top S1
  obtain ⟨a, ha, e1⟩ := hv
  subst e1
  obtain ⟨a2, e2, hw, hcell⟩ := S.1 _ _ hc
  have ea := ab_ad_get ha hw
  subst ea
  obtain ⟨-, e3⟩ := hcell
  subst e3
  have hcl := ab_clamp (x := i) hi0
  have hin : vp_in i N := ab_vpin hi0 hiN
  exact va_iald X.1 X.2.1 X.2.2.2.2.2.1 hP k0 0 hw rfl hin (G.2.1 _ _ _ (List.mem_of_getElem? hi)) (k p l e s m args below meth c D A cs tS w0 X hk ls (.int (f i.toNatClampNeg) :: stk2) (ws) (hf) ⟨S.1, S.2.1, rfl, S2⟩ H locs hP hD hS)
theorem ex_baload (G : cx_G j tb T rt) {k0 N : Nat} {f : Nat → Int32} {i : Int32} (hi : tb[ix]? = some (pc, .baload, 1)) (hc : cx_hg h k0 = some (.inr (.inl (2, N, f)))) (hi0 : 0 ≤ i.toInt) (hiN : i.toInt < N) (hp : pc' = pc + 1) (k : cx_T d j ks pc' (L, .inl (.int (f i.toNatClampNeg)) :: r, h) P) : cx_T d j ks pc (L, .inl (.int i) :: .inr (.inl k0) :: r, h) P := by
  subst hp
  intro p l e s m args below meth c D A cs tS w0 X hk ls stk ws hf S H locs hP hD hS
  obtain ⟨y1, stk1, rfl, hv1, S1⟩ := cx_top S.2.2
  have hv1 : y1 = .int i := hv1
  subst hv1
  obtain ⟨x1, stk2, rfl, hv, S2⟩ := cx_top S1
  obtain ⟨a, ha, e1⟩ := hv
  subst e1
  obtain ⟨a2, e2, hw, hcell⟩ := S.1 _ _ hc
  have ea := ab_ad_get ha hw
  subst ea
  obtain ⟨-, e3⟩ := hcell
  subst e3
  have hcl := ab_clamp (x := i) hi0
  have hin : vp_in i N := ab_vpin hi0 hiN
  exact va_zald X.1 X.2.1 X.2.2.2.2.2.1 hP k0 2 hw rfl hin (G.2.1 _ _ _ (List.mem_of_getElem? hi)) (k p l e s m args below meth c D A cs tS w0 X hk ls (.int (f i.toNatClampNeg) :: stk2) (ws) (hf) ⟨S.1, S.2.1, rfl, S2⟩ H locs hP hD hS)
theorem ex_laload (G : cx_G j tb T rt) {k0 N : Nat} {f : Nat → Int64} {i : Int32} (hi : tb[ix]? = some (pc, .laload, 1)) (hc : cx_hg h k0 = some (.inr (.inr (.inl (N, f))))) (hi0 : 0 ≤ i.toInt) (hiN : i.toInt < N) (hp : pc' = pc + 1) (k : cx_T d j ks pc' (L, .inl (.long (f i.toNatClampNeg)) :: r, h) P) : cx_T d j ks pc (L, .inl (.int i) :: .inr (.inl k0) :: r, h) P := by
  subst hp
  intro p l e s m args below meth c D A cs tS w0 X hk ls stk ws hf S H locs hP hD hS
  obtain ⟨y1, stk1, rfl, hv1, S1⟩ := cx_top S.2.2
  have hv1 : y1 = .int i := hv1
  subst hv1
  obtain ⟨x1, stk2, rfl, hv, S2⟩ := cx_top S1
  obtain ⟨a, ha, e1⟩ := hv
  subst e1
  obtain ⟨a2, e2, hw, hcell⟩ := S.1 _ _ hc
  have ea := ab_ad_get ha hw
  subst ea
  have e3 := hcell
  subst e3
  have hcl := ab_clamp (x := i) hi0
  have hin : vp_in i N := ab_vpin hi0 hiN
  exact va_lald X.1 X.2.1 X.2.2.2.2.2.1 hP k0 1 hw rfl hin (G.2.1 _ _ _ (List.mem_of_getElem? hi)) (k p l e s m args below meth c D A cs tS w0 X hk ls (.long (f i.toNatClampNeg) :: stk2) (ws) (hf) ⟨S.1, S.2.1, rfl, S2⟩ H locs hP hD hS)
theorem ex_aaload (G : cx_G j tb T rt) {k0 t k1 : Nat} {kk : List Nat} {i : Int32} (hi : tb[ix]? = some (pc, .aaload, 1)) (hc : cx_hg h k0 = some (.inr (.inr (.inr (t, kk))))) (hi0 : 0 ≤ i.toInt) (hk1 : kk[i.toNatClampNeg]? = some k1) (hp : pc' = pc + 1) (k : cx_T d j ks pc' (L, .inr (.inl k1) :: r, h) P) : cx_T d j ks pc (L, .inl (.int i) :: .inr (.inl k0) :: r, h) P := by
  subst hp
  intro p l e s m args below meth c D A cs tS w0 X hk ls stk ws hf S H locs hP hD hS
  obtain ⟨y1, stk1, rfl, hv1, S1⟩ := cx_top S.2.2
  have hv1 : y1 = .int i := hv1
  subst hv1
  obtain ⟨x1, stk2, rfl, hv, S2⟩ := cx_top S1
  obtain ⟨a, ha, e1⟩ := hv
  subst e1
  obtain ⟨a2, e2, hw, hcell⟩ := S.1 _ _ hc
  have ea := ab_ad_get ha hw
  subst ea
  obtain ⟨f, ty, rfl, hty, hel⟩ := hcell
  have hcl := ab_clamp (x := i) hi0
  have hlt : i.toNatClampNeg < kk.length := (List.getElem?_eq_some_iff.mp hk1).1
  have hin : vp_in i kk.length := ab_vpin hi0 (by omega)
  obtain ⟨b, hb1, hb2⟩ := hel _ _ hk1
  refine W.aald (v := va_rf (f i.toNatClampNeg)) (ty := .array ty) X.1 X.2.1 (hP k0 _ hw) ((X.2.2.2.2.2.1.2 t _ hty).1 kk.length (fun j => va_rf (f j))) rfl (fun q => by cases q) (by show ¬ (i < 0 ∨ (arrV _ _ _).slots.size ≤ _); rw [arrV_size]; exact hin) (by show (arrV _ _ _).slots[_]? = _; rw [arrV_read _ _ hlt]) rfl rfl (G.2.1 _ _ _ (List.mem_of_getElem? hi)) ?_
  rw [hb2]
  exact (k p l e s m args below meth c D A cs tS w0 X hk ls (.ref b :: stk2) (ws) (hf) ⟨S.1, S.2.1, ⟨b, hb1, rfl⟩, S2⟩ H locs hP hD hS)
theorem ex_iastore (G : cx_G j tb T rt) {k0 N : Nat} {f : Nat → Int32} {i : Int32} {x : Int32} (hi : tb[ix]? = some (pc, .iastore, 1)) (hc : cx_hg h k0 = some (.inr (.inl (0, N, f)))) (hi0 : 0 ≤ i.toInt) (hiN : i.toInt < N) (hh : cx_hs h k0 (.inr (.inl (0, N, upd f i.toNatClampNeg x))) = h') (hp : pc' = pc + 1) (k : cx_T d j ks pc' (L, r, h') P) : cx_T d j ks pc (L, .inl (.int x) :: .inl (.int i) :: .inr (.inl k0) :: r, h) P := by
  subst hp
  intro p l e s m args below meth c D A cs tS w0 X hk ls stk ws hf S H locs hP hD hS
  subst hh
  obtain ⟨z1, stk0, rfl, hv0, S0⟩ := cx_top S.2.2
  have hv0 : z1 = .int x := hv0
  subst hv0
  obtain ⟨y1, stk1, rfl, hv1, S1⟩ := cx_top S0
  have hv1 : y1 = .int i := hv1
  subst hv1
  obtain ⟨x1, stk2, rfl, hv, S2⟩ := cx_top S1
  obtain ⟨a, ha, e1⟩ := hv
  subst e1
  obtain ⟨a2, e2, hw, hcell⟩ := S.1 _ _ hc
  have ea := ab_ad_get ha hw
  subst ea
  obtain ⟨-, e3⟩ := hcell
  subst e3
  have hcl := ab_clamp (x := i) hi0
  have hin : vp_in i N := ab_vpin hi0 hiN
  refine va_iast X.1 X.2.1 X.2.2.2.2.2.1 hP hD hS k0 0 hw rfl hin (G.2.1 _ _ _ (List.mem_of_getElem? hi)) (fun H1 locs1 hP1 hD1 hS1 => ?_)
  exact (k p l e s m args below meth c D A cs tS w0 X (by rw [cx_hs_key]; exact hk) ls (stk2) (_) (hf.set hw (by rw [← hk]; exact cx_hg_key hc)) (cx_sat_set S.2.1 S2 hw (cx_heap_set S.1 hw hc ⟨Or.inl rfl, rfl⟩)) H1 locs1 hP1 hD1 hS1)
theorem ex_bastore (G : cx_G j tb T rt) {k0 N : Nat} {f : Nat → Int32} {i : Int32} {x : Int32} (hi : tb[ix]? = some (pc, .bastore, 1)) (hc : cx_hg h k0 = some (.inr (.inl (2, N, f)))) (hi0 : 0 ≤ i.toInt) (hiN : i.toInt < N) (hh : cx_hs h k0 (.inr (.inl (2, N, upd f i.toNatClampNeg (vp_nar .boolean x)))) = h') (hp : pc' = pc + 1) (k : cx_T d j ks pc' (L, r, h') P) : cx_T d j ks pc (L, .inl (.int x) :: .inl (.int i) :: .inr (.inl k0) :: r, h) P := by
  subst hp
  intro p l e s m args below meth c D A cs tS w0 X hk ls stk ws hf S H locs hP hD hS
  subst hh
  obtain ⟨z1, stk0, rfl, hv0, S0⟩ := cx_top S.2.2
  have hv0 : z1 = .int x := hv0
  subst hv0
  obtain ⟨y1, stk1, rfl, hv1, S1⟩ := cx_top S0
  have hv1 : y1 = .int i := hv1
  subst hv1
  obtain ⟨x1, stk2, rfl, hv, S2⟩ := cx_top S1
  obtain ⟨a, ha, e1⟩ := hv
  subst e1
  obtain ⟨a2, e2, hw, hcell⟩ := S.1 _ _ hc
  have ea := ab_ad_get ha hw
  subst ea
  obtain ⟨-, e3⟩ := hcell
  subst e3
  have hcl := ab_clamp (x := i) hi0
  have hin : vp_in i N := ab_vpin hi0 hiN
  refine va_zast X.1 X.2.1 X.2.2.2.2.2.1 hP hD hS k0 2 hw rfl hin (G.2.1 _ _ _ (List.mem_of_getElem? hi)) (fun H1 locs1 hP1 hD1 hS1 => ?_)
  exact (k p l e s m args below meth c D A cs tS w0 X (by rw [cx_hs_key]; exact hk) ls (stk2) (_) (hf.set hw (by rw [← hk]; exact cx_hg_key hc)) (cx_sat_set S.2.1 S2 hw (cx_heap_set S.1 hw hc ⟨Or.inr rfl, rfl⟩)) H1 locs1 hP1 hD1 hS1)
theorem ex_lastore (G : cx_G j tb T rt) {k0 N : Nat} {f : Nat → Int64} {i : Int32} {x : Int64} (hi : tb[ix]? = some (pc, .lastore, 1)) (hc : cx_hg h k0 = some (.inr (.inr (.inl (N, f))))) (hi0 : 0 ≤ i.toInt) (hiN : i.toInt < N) (hh : cx_hs h k0 (.inr (.inr (.inl (N, vp_updL f i.toNatClampNeg x)))) = h') (hp : pc' = pc + 1) (k : cx_T d j ks pc' (L, r, h') P) : cx_T d j ks pc (L, .inl (.long x) :: .inl (.int i) :: .inr (.inl k0) :: r, h) P := by
  subst hp
  intro p l e s m args below meth c D A cs tS w0 X hk ls stk ws hf S H locs hP hD hS
  subst hh
  obtain ⟨z1, stk0, rfl, hv0, S0⟩ := cx_top S.2.2
  have hv0 : z1 = .long x := hv0
  subst hv0
  obtain ⟨y1, stk1, rfl, hv1, S1⟩ := cx_top S0
  have hv1 : y1 = .int i := hv1
  subst hv1
  obtain ⟨x1, stk2, rfl, hv, S2⟩ := cx_top S1
  obtain ⟨a, ha, e1⟩ := hv
  subst e1
  obtain ⟨a2, e2, hw, hcell⟩ := S.1 _ _ hc
  have ea := ab_ad_get ha hw
  subst ea
  have e3 := hcell
  subst e3
  have hcl := ab_clamp (x := i) hi0
  have hin : vp_in i N := ab_vpin hi0 hiN
  refine va_last X.1 X.2.1 X.2.2.2.2.2.1 hP hD hS k0 1 hw rfl hin (G.2.1 _ _ _ (List.mem_of_getElem? hi)) (fun H1 locs1 hP1 hD1 hS1 => ?_)
  exact (k p l e s m args below meth c D A cs tS w0 X (by rw [cx_hs_key]; exact hk) ls (stk2) (_) (hf.set hw (by rw [← hk]; exact cx_hg_key hc)) (cx_sat_set S.2.1 S2 hw (cx_heap_set S.1 hw hc rfl)) H1 locs1 hP1 hD1 hS1)
theorem ex_ireturn (G : cx_G j tb T (some .int)) {x : Int32} (hi : tb[ix]? = some (pc, .ireturn, 1)) (k : P (some (.inl (.int x))) h) : cx_T d j ks pc (L, [.inl (.int x)], h) P := by
  intro p l e s m args below meth c D A cs tS w0 X hk ls stk ws hf S H locs hP hD hS
  obtain ⟨hx, hbc, hml, hown, hts, hK, hA, hZ, hTs, hr, hlocks, hname⟩ := id X
  obtain ⟨x1, stk1, rfl, hv, S1⟩ := cx_top S.2.2
  have hv : x1 = .int x := hv
  subst hv
  have e1 := cx_nil S1
  subst e1
  have hend : ∀ (o : Option Value), cx_rv (cx_val (ws.map (·.1)) tS) (some (.inl (.int x))) o → ∀ t : State, t.heap = H → s.WarmedH t.vm → ab_Qc D vwCl cs A (cx_Po tS cs ks w0 P) args s (.returned o) t := fun o ho t ht hW => ⟨⟨o, ws, rfl, ⟨(some (.inl (.int x))), h, k, hk, hf, S.1, ho⟩, by rw [ht]; exact hP, hD, va_K.moved hW.alike hK⟩, hS.F ht⟩
  exact W.iret hx hbc (hr.trans G.2.2.2) (hend (some (.int x)) rfl) hS.2.2 (G.2.1 _ _ _ (List.mem_of_getElem? hi)) hlocks
theorem ex_zreturn (G : cx_G j tb T (some .boolean)) {x : Int32} (hi : tb[ix]? = some (pc, .ireturn, 1)) (hb : x = 0 ∨ x = 1) (k : P (some (.inl (.int x))) h) : cx_T d j ks pc (L, [.inl (.int x)], h) P := by
  intro p l e s m args below meth c D A cs tS w0 X hk ls stk ws hf S H locs hP hD hS
  obtain ⟨hx, hbc, hml, hown, hts, hK, hA, hZ, hTs, hr, hlocks, hname⟩ := id X
  obtain ⟨x1, stk1, rfl, hv, S1⟩ := cx_top S.2.2
  have hv : x1 = .int x := hv
  subst hv
  have e1 := cx_nil S1
  subst e1
  have hend : ∀ (o : Option Value), cx_rv (cx_val (ws.map (·.1)) tS) (some (.inl (.int x))) o → ∀ t : State, t.heap = H → s.WarmedH t.vm → ab_Qc D vwCl cs A (cx_Po tS cs ks w0 P) args s (.returned o) t := fun o ho t ht hW => ⟨⟨o, ws, rfl, ⟨(some (.inl (.int x))), h, k, hk, hf, S.1, ho⟩, by rw [ht]; exact hP, hD, va_K.moved hW.alike hK⟩, hS.F ht⟩
  rcases hb with rfl | rfl
  · exact W.zret hx hbc (hr.trans G.2.2.2) rfl (hend (some (.int 0)) rfl) hS.2.2 (G.2.1 _ _ _ (List.mem_of_getElem? hi)) hlocks
  · exact W.zret hx hbc (hr.trans G.2.2.2) rfl (hend (some (.int 1)) rfl) hS.2.2 (G.2.1 _ _ _ (List.mem_of_getElem? hi)) hlocks
theorem ex_lreturn (G : cx_G j tb T (some .long)) {x : Int64} (hi : tb[ix]? = some (pc, .lreturn, 1)) (k : P (some (.inl (.long x))) h) : cx_T d j ks pc (L, [.inl (.long x)], h) P := by
  intro p l e s m args below meth c D A cs tS w0 X hk ls stk ws hf S H locs hP hD hS
  obtain ⟨hx, hbc, hml, hown, hts, hK, hA, hZ, hTs, hr, hlocks, hname⟩ := id X
  obtain ⟨x1, stk1, rfl, hv, S1⟩ := cx_top S.2.2
  have hv : x1 = .long x := hv
  subst hv
  have e1 := cx_nil S1
  subst e1
  have hend : ∀ (o : Option Value), cx_rv (cx_val (ws.map (·.1)) tS) (some (.inl (.long x))) o → ∀ t : State, t.heap = H → s.WarmedH t.vm → ab_Qc D vwCl cs A (cx_Po tS cs ks w0 P) args s (.returned o) t := fun o ho t ht hW => ⟨⟨o, ws, rfl, ⟨(some (.inl (.long x))), h, k, hk, hf, S.1, ho⟩, by rw [ht]; exact hP, hD, va_K.moved hW.alike hK⟩, hS.F ht⟩
  exact W.lret hx hbc (hr.trans G.2.2.2) (hend (some (.long x)) rfl) hS.2.2 (G.2.1 _ _ _ (List.mem_of_getElem? hi)) hlocks
theorem ex_return_ (G : cx_G j tb T none) (hi : tb[ix]? = some (pc, .return_, 1)) (k : P none h) : cx_T d j ks pc (L, [], h) P := by
  intro p l e s m args below meth c D A cs tS w0 X hk ls stk ws hf S H locs hP hD hS
  obtain ⟨hx, hbc, hml, hown, hts, hK, hA, hZ, hTs, hr, hlocks, hname⟩ := id X
  have e1 := cx_nil S.2.2
  subst e1
  have hend : ∀ (o : Option Value), cx_rv (cx_val (ws.map (·.1)) tS) none o → ∀ t : State, t.heap = H → s.WarmedH t.vm → ab_Qc D vwCl cs A (cx_Po tS cs ks w0 P) args s (.returned o) t := fun o ho t ht hW => ⟨⟨o, ws, rfl, ⟨none, h, k, hk, hf, S.1, ho⟩, by rw [ht]; exact hP, hD, va_K.moved hW.alike hK⟩, hS.F ht⟩
  exact W.vret hx hbc (hr.trans G.2.2.2) (hend none trivial) hS.2.2 (G.2.1 _ _ _ (List.mem_of_getElem? hi)) hlocks
end CXR
end
