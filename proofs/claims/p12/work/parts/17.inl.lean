noncomputable section
def ab_kn (e : ab_En) (v : ab_SV) : Bool := ab_ldv 0 e v || (ab_ldv 1 e v || ab_ldv 2 e v)
/-- arguments as locals -/
def ab_lay (e : ab_En) : List ab_SV → List ab_SV
  | [] => []
  | v :: r => bif ab_ldv 1 e v then v :: none :: ab_lay e r else v :: ab_lay e r
theorem ab_lay_ok {ρ : Nat → Value} {n : Nat} {ad : List Nat} {tS : Nat} {e : ab_En} (he : ab_env ρ n e) : ∀ {as : List ab_SV} {vs : List Value}, ab_all2 (ab_val ρ n ad tS) as vs → as.all (ab_kn e) = true → (ab_lay e as).length = (lg_sl vs).length ∧ ∀ (i : Nat) v, (ab_lay e as)[i]? = some (some v) → ∃ x : Value, (lg_sl vs)[i]? = some (Slot.val x) ∧ ab_val ρ n ad tS (some v) x
  | [], [], _, _ => ⟨rfl, fun i v h => by simp [ab_lay] at h⟩
  | a :: as, x :: xs, h, hk => by
    rw [List.all_cons, Bool.and_eq_true] at hk
    obtain ⟨h1, h2⟩ := ab_lay_ok he h.2 hk.2
    cases hb : ab_ldv 1 e a with
    | true =>
      obtain ⟨⟨y, rfl⟩, -⟩ := ab_ldv_ok he hb h.1
      have e1 : ab_lay e (a :: as) = a :: none :: ab_lay e as := by rw [ab_lay, hb]; rfl
      have e2 : lg_sl (Value.long y :: xs) = Slot.val (.long y) :: Slot.second :: lg_sl xs := rfl
      rw [e1, e2]
      refine ⟨by simp [h1], fun i v hv => ?_⟩
      match i, hv with
      | 0, hv => simp at hv; subst hv; exact ⟨_, rfl, h.1⟩
      | 1, hv => simp at hv
      | i + 2, hv =>
        obtain ⟨w, w1, w2⟩ := h2 i v (by simpa using hv)
        exact ⟨w, by simpa using w1, w2⟩
    | false =>
      have hcat : x.category = 1 := by
        unfold ab_kn at hk
        rw [hb, Bool.false_or] at hk
        exact ab_cat1 he hk.1 h.1
      have e1 : ab_lay e (a :: as) = a :: ab_lay e as := by rw [ab_lay, hb]; rfl
      have e2 : lg_sl (x :: xs) = Slot.val x :: lg_sl xs := by
        show (if x.category = 2 then [Slot.val x, Slot.second] else [Slot.val x]) ++ lg_sl xs = _
        rw [if_neg (by omega)]
        rfl
      rw [e1, e2]
      refine ⟨by simp [h1], fun i v hv => ?_⟩
      match i, hv with
      | 0, hv => simp at hv; subst hv; exact ⟨_, rfl, h.1⟩
      | i + 1, hv =>
        obtain ⟨w, w1, w2⟩ := h2 i v (by simpa using hv)
        exact ⟨w, by simpa using w1, w2⟩
  | [], _ :: _, h, _ => h.elim
  | _ :: _, [], h, _ => h.elim
def ab_nones : Nat → List ab_SV
  | 0 => []
  | k + 1 => none :: ab_nones k
theorem ab_nones_len : ∀ k, (ab_nones k).length = k
  | 0 => rfl
  | k + 1 => by simp [ab_nones, ab_nones_len k]
theorem ab_nones_get : ∀ {k i : Nat} {v : ab_SV}, (ab_nones k)[i]? = some v → v = none
  | 0, i, v, h => by simp [ab_nones] at h
  | k + 1, 0, v, h => by simp [ab_nones] at h; exact h.symm
  | k + 1, i + 1, v, h => ab_nones_get (k := k) (i := i) (by simpa [ab_nones] using h)
def ab_ent (e : ab_En) (as : List ab_SV) (nL : Nat) : List ab_SV := ab_lay e as ++ ab_nones (nL - (ab_lay e as).length)
theorem ab_ent_ok {ρ : Nat → Value} {n : Nat} {ad : List Nat} {tS nL : Nat} {e : ab_En} (he : ab_env ρ n e) {as : List ab_SV} {vs : List Value} (h : ab_all2 (ab_val ρ n ad tS) as vs) (hk : as.all (ab_kn e) = true) (hl : (ab_lay e as).length ≤ nL) : ab_loc ρ n ad tS nL (ab_ent e as nL) ((lg_sl vs ++ List.replicate (nL - (lg_sl vs).length) Slot.unset).toArray) := by
  obtain ⟨h1, h2⟩ := ab_lay_ok he h hk
  have hv := lv_entry vs (n := nL) (by omega)
  refine ⟨hv.1, hv.2.1, ?_, fun i v hiv => ?_⟩
  · unfold ab_ent
    rw [List.length_append, ab_nones_len]
    omega
  · unfold ab_ent at hiv
    by_cases hlt : i < (ab_lay e as).length
    · rw [List.getElem?_append_left hlt] at hiv
      obtain ⟨x, x1, x2⟩ := h2 i v hiv
      refine ⟨x, ?_, x2⟩
      rw [List.getElem?_toArray, List.getElem?_append_left (by omega)]
      exact x1
    · rw [List.getElem?_append_right (by omega)] at hiv
      cases ab_nones_get hiv
/-- the answer that a return gives -/
def ab_fin (rt : Option FieldType) (i : Instr) (st : ab_St) : Option (Option ab_SV) := match rt, i, st.2.2.2.2 with
  | none, .return_, [] => some none
  | some .int, .ireturn, [v] => bif ab_ldv 0 st.2.1 v then some (some v) else none
  | some .boolean, .ireturn, [v] => bif ab_bool st.2.1 v then some (some v) else none
  | some .long, .lreturn, [v] => bif ab_ldv 1 st.2.1 v then some (some v) else none
  | _, _, _ => none
/-- a contract's end -/
def ab_Qc (D : va_G) (cl : List vw_C) (cs : Nat → ClassId) (A : Nat → Prop) (Post : Option Value → va_W → Prop) : Array Value → State → Outcome → State → Prop := fun _ st oc t => (∃ rv ws', oc = .returned rv ∧ Post rv ws' ∧ va_P D cl ws' t.heap ∧ va_D A ws' ∧ va_K D cl (ab_tys cs) t) ∧ va_F A st t
section ABN
variable {p : Program} {l : Launch} {e : Env} {R : Room} {s : State} {m : MethodId} {args : Array Value} {below : List Frame} {meth : Method} {c : Code} {D : va_G} {cl : List vw_C} {A : Nat → Prop}
variable {tS : Nat} {cs : Nat → ClassId} {nL pc : Nat} {cc : ByteArray} {Post : Option Value → va_W → Prop}
theorem ab_fin_ok (hx : p.tables.exec = Jvm.exec) (hb : c.code = cc) {rt : Option FieldType} (hr : meth.sig.returnType = rt) (hlocks : meth.locks = false) (hK : va_K D cl (ab_tys cs) s) {i : Instr} {len : Nat} (hd : decode cc pc = .ok (i, len)) (hlen : len = 1) {st : ab_St} {rv : Option ab_SV} (h : ab_fin rt i st = some rv) {ρ : Nat → Value} {ls : Array Slot} {stk : List Value} {ws : va_W} (S : ab_sat ρ tS (ab_tys cs) nL st ls stk ws)
    (hP : ∀ x, ab_rv (ab_val ρ st.1 (ws.map (·.1)) tS) rv x → Post x ws) : ab_W p l e R s m args below meth c D cl A (MQ below (ab_Qc D cl cs A Post) args s 0 0 A) 0 0 pc ls stk ws := by
  subst hlen
  intro H locs hPw hD hS
  obtain ⟨n, en, hp, L, sk⟩ := st
  have hend : ∀ (o : Option Value), Post o ws → ∀ t : State, t.heap = H → s.WarmedH t.vm → ab_Qc D cl cs A Post args s (.returned o) t := fun o ho t ht hW => ⟨⟨o, ws, rfl, ho, by rw [ht]; exact hPw, hD, va_K.moved hW.alike hK⟩, hS.F ht⟩
  unfold ab_fin at h
  split at h
  · rename_i hsk
    simp only at hsk
    subst hsk
    cases h
    match stk, S with
    | [], S => exact W.vret hx hb hr (hend none (hP none trivial)) hS.2.2 hd hlocks
    | _ :: _, S => exact S.2.2.2.elim
  · rename_i v hsk
    simp only at hsk
    subst hsk
    cases hv : ab_ldv 0 en v with
    | false => rw [hv] at h; simp at h
    | true =>
      rw [hv] at h
      simp only [cond_true] at h
      cases h
      obtain ⟨x, stk', rfl, hx1, S1⟩ := ab_sat_top S
      obtain ⟨⟨y, rfl⟩, -⟩ := ab_ldv_ok S.1 hv hx1
      match stk', S1 with
      | [], S1 => exact W.iret hx hb hr (hend _ (hP (some (.int y)) hx1)) hS.2.2 hd hlocks
      | _ :: _, S1 => exact S1.2.2.2.elim
  · rename_i v hsk
    simp only at hsk
    subst hsk
    cases hv : ab_bool en v with
    | false => rw [hv] at h; simp at h
    | true =>
      rw [hv] at h
      simp only [cond_true] at h
      cases h
      obtain ⟨x, stk', rfl, hx1, S1⟩ := ab_sat_top S
      match stk', S1 with
      | [], S1 =>
        rcases ab_bool_ok S.1 hv hx1 with rfl | rfl
        · exact W.zret hx hb hr rfl (hend _ (hP (some (.int 0)) hx1)) hS.2.2 hd hlocks
        · exact W.zret hx hb hr rfl (hend _ (hP (some (.int 1)) hx1)) hS.2.2 hd hlocks
      | _ :: _, S1 => exact S1.2.2.2.elim
  · rename_i v hsk
    simp only at hsk
    subst hsk
    cases hv : ab_ldv 1 en v with
    | false => rw [hv] at h; simp at h
    | true =>
      rw [hv] at h
      simp only [cond_true] at h
      cases h
      obtain ⟨x, stk', rfl, hx1, S1⟩ := ab_sat_top S
      obtain ⟨⟨y, rfl⟩, -⟩ := ab_ldv_ok S.1 hv hx1
      match stk', S1 with
      | [], S1 => exact W.lret hx hb hr (hend _ (hP (some (.long y)) hx1)) hS.2.2 hd hlocks
      | _ :: _, S1 => exact S1.2.2.2.elim
  · cases h
end ABN
/-- what holds in a method's body -/
def ab_X (l : Launch) (Z : ab_Ms) (j d : Nat) (D : va_G) (cl : List vw_C) (cs : Nat → ClassId) (tS : Nat) (p : Program) (s : State) (m : MethodId) (args : Array Value) (meth : Method) (c : Code) (A : Nat → Prop) : Prop :=
  p.tables.exec = Jvm.exec ∧ c.code = Z.2.1 j ∧ c.maxLocals = Z.2.2.1 j ∧ s.vm.findClass (Z.1 j).cls = some m.cls ∧ (∀ w ∈ ab_wM Z j, w.before args s = true) ∧ va_K D cl (ab_tys cs) s ∧ (∀ q, s.heap.size ≤ q → A q) ∧ va_Z "SandFlags$Rota" "CODE_OF_ONE" "[I" (.ref tS) A s s.heap ∧ va_T .int tS 4 ab_code1 A s s.heap ∧ meth.sig.returnType = Z.2.2.2.1 j ∧ meth.locks = false ∧ meth.name = (Z.1 j).name
/-- a method's contract out of its body -/
theorem ab_Ct_of {l : Launch} {Z : ab_Ms} {j d : Nat} {D : va_G} {cl : List vw_C} {cs : Nat → ClassId} {tS : Nat} {vs : List Value} {ws : va_W} {Post : Option Value → va_W → Prop} (hy : plainName (Z.1 j).cls = true)
    (go : ∀ (p : Program) (e : Env) (s : State) (m : MethodId) (below : List Frame) (meth : Method) (c : Code) (A : Nat → Prop), ab_X l Z j d D cl cs tS p s m vs.toArray meth c A → ab_W p l e (ab_rm d 0 0) s m vs.toArray below meth c D cl A (MQ below (ab_Qc D cl cs A Post) vs.toArray s 0 0 A) 0 0 0 ((lg_sl vs ++ List.replicate (Z.2.2.1 j - (lg_sl vs).length) Slot.unset).toArray) [] ws) : ab_Ct l (Z.1 j) (ab_wM Z j) (ab_rm d 0 0) 0 0 D cl cs tS vs ws Post := by
  intro sz
  refine Met.ofW (cc := Z.2.1 j) (maxL := Z.2.2.1 j) (ret := Z.2.2.2.1 j) hy rfl ?_
  intro p e s m args below meth c s₁ B hml hv
  obtain ⟨rfl, hsz, hP, hK, hD, hZ, hT⟩ := hv
  subst hsz
  rw [lg_entry_eq]
  have hA : ∀ q, s.heap.size ≤ q → va_A ws s.heap.size q := fun q h => Or.inr h
  exact go p e s m below meth c (va_A ws s.heap.size) ⟨B.exec, B.bytes, hml, findClass_of_methodNamed B.named, atoms_spec (ws := ab_wM Z j) B.pre, hK, hA, hZ, hT, B.returns, B.notSynchronized, (name_of_methodNamed B.named B.method).1⟩ s.heap [] hP hD va_S.rf
end
