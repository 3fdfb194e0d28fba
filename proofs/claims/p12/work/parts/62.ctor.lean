noncomputable section
/-- words that are no good words: grids of ints and of longs can be made; private constructors within the nest -/
def ab_nests : List (Nat × MethodName) := [(47, ⟨"SandFlags$Water", "<init>", "()V"⟩), (54, ⟨"SandFlags$Search", "<init>", "()V"⟩), (61, ⟨"SandFlags$Children", "<init>", "()V"⟩), (68, ⟨"SandFlags$Reports", "<init>", "()V"⟩), (75, ⟨"SandFlags$RuleBook", "<init>", "()V"⟩)]
def ab_GS (U : State) : Prop := va_AOA .int U ∧ va_AOA .long U ∧ ∀ q ∈ ab_nests, va_Nw (.methodLinkNest "SandFlags" q.1 q.2 "SandFlags") U
theorem ab_GS.warm {s U : State} (hW : s.WarmedH U.vm) (h : ab_GS s) : ab_GS U := ⟨h.1.moved hW.alike, h.2.1.moved hW.alike, fun q hq => va_Nw.warmM hW (h.2.2 q hq)⟩
theorem ab_GS.same {s U : State} (hv : s.vm = U.vm) (h : ab_GS s) : ab_GS U := by
  have e : s.vm.Alike U.vm := by rw [hv]; exact Vm.Alike.refl _
  exact ⟨h.1.moved e, h.2.1.moved e, fun q hq => (h.2.2 q hq).same rfl hv⟩
def ab_CtG (l : Launch) (y : MethodName) (wy : List Cond) (rm : Room) (mc ms : Nat) (D : va_G) (cl : List vw_C) (cs : Nat → ClassId) (tS : Nat) (vs : List Value) (ws : va_W) (Post : Option Value → va_W → Prop) : Prop :=
  ∀ sz : Nat, Met l y wy rm (va_Pc vs (fun U => U.heap.size = sz ∧ ab_Wd D cl cs tS (va_A ws sz) ws U ∧ ab_GS U))
    (fun _ st oc t => (∃ rv ws', oc = .returned rv ∧ Post rv ws' ∧ va_P D cl ws' t.heap ∧ va_D (va_A ws sz) ws' ∧ va_K D cl (ab_tys cs) t) ∧ va_F (va_A ws sz) st t) mc ms (va_A ws sz)
section ABI
variable {p : Program} {l : Launch} {e : Env} {R : Room} {s : State} {m : MethodId} {args : Array Value} {below : List Frame} {meth : Method} {c : Code} {H : Heap} {locs : List Loc} {cells slots mc ms pc : Nat} {Q : State → Prop} {ls : Array Slot} {rest : List Value} {D : va_G} {cl : List vw_C} {A : Nat → Prop} {cs : Nat → ClassId} {tS : Nat}
variable {y : MethodName} {bytes cc : ByteArray} {maxL nL n index : Nat} {wy : List Cond} {rm : Room} {Ts : List Cond} {own host : String} {b : Addr} {As : List Value} {ws : va_W} {Post : Option Value → va_W → Prop}
theorem ab_callI (S : CallFix p m c cc nL s args Ts own) (hM : ab_CtG l y wy rm mc ms D cl cs tS (.ref b :: As) ws Post) (cw : (CallB R s args own index y bytes maxL none wy rm mc ms n ∨ va_CN R s args own index y host bytes maxL none wy rm mc ms n) ∧ y.name = "<init>" ∧ (Cond.instanceMethod y).before args s = true)
    (hP : va_P D cl ws H) (hD : va_D A ws) (hS : va_S A s.heap H locs) (hA : ∀ q, s.heap.size ≤ q → A q) (hK : va_K D cl (ab_tys cs) s) (hZ : va_Z "SandFlags$Rota" "CODE_OF_ONE" "[I" (.ref tS) A s s.heap) (hT : va_T .int tS 4 ab_code1 A s s.heap) (hG : ab_GS s)
    (hn : As.length = n) (hsize : ls.size = nL) (hW : (rest.map fun v => v.category).sum ≤ 8) (hdg : decode cc pc = .ok (.invokespecial index, 3)) (hf : cells + mc ≤ R.cells ∧ slots + ms ≤ R.slots)
    (kk : ∀ (rv : Option Value) (ws' : va_W) (H1 : Heap) (locs1 : List Loc), Post rv ws' → va_P D cl ws' H1 → va_D A ws' → va_S A s.heap H1 locs1 → W p l e R s m args below meth c H1 locs1 (cells + mc) (slots + ms) Q (F0 m (pc + 3) ls (rv.toList ++ rest))) : W p l e R s m args below meth c H locs cells slots Q (F0 m pc ls (As.reverse ++ .ref b :: rest)) := by
  have hAA : ∀ q, va_A ws H.size q → A q := by
    intro q hq
    rcases hq with ⟨k, e, h⟩ | h
    · exact hD.2 k (q, e) h
    · exact hA q (by have := hS.1; omega)
  have hpre : PreS s H (va_Pc (.ref b :: As) (fun U => U.heap.size = H.size ∧ ab_Wd D cl cs tS (va_A ws H.size) ws U ∧ ab_GS U)) (.ref b :: As) := ⟨fun a U g mk q => ⟨q.1, q.2.1, ab_Wd_blind q.2.2.1, q.2.2.2.same rfl⟩, fun U hU hW => ⟨rfl, by rw [hU], ab_Wd_now hP hD hS hA hK hZ hT hU hW rfl, hG.warm hW⟩⟩
  have hrun : va_Run p l e R s m args below meth c H locs cells slots mc ms (F0 m pc ls (As.reverse ++ .ref b :: rest)) rest (fun st oc t => (∃ rv ws', oc = .returned rv ∧ Post rv ws' ∧ va_P D cl ws' t.heap ∧ va_D (va_A ws H.size) ws' ∧ va_K D cl (ab_tys cs) t) ∧ va_F (va_A ws H.size) st t) (va_A ws H.size) := by
    obtain ⟨cw1, cw2, cw3⟩ := cw
    rcases cw1 with cw1 | cw1
    · exact va_runI (g := F0 m pc ls (As.reverse ++ .ref b :: rest)) S (hM H.size) ⟨cw1, cw2, cw3⟩ hpre rfl hn hsize rfl (lv_room hW) hdg hf
    · exact va_runIN (g := F0 m pc ls (As.reverse ++ .ref b :: rest)) S (hM H.size) ⟨cw1, cw2, cw3⟩ hpre rfl hn hsize rfl (lv_room hW) hdg hf
  refine ab_callG hrun hS (fun q _ h => hAA q h) hAA (fun _ _ _ q => q.2) (fun v st₀ t H1 locs1 h0 ht hal hq hS1 => ?_)
  obtain ⟨⟨rv, ws', h1, h2, h3, h4, h5⟩, -⟩ := hq
  cases h1
  rw [ht] at h3
  exact kk v ws' H1 locs1 h2 h3 (h4.weaken (fun _ q _ h => hAA q.1 h)) hS1
end ABI
theorem ab_CtG_of {l : Launch} {Z : ab_Ms} {j d mc ms : Nat} {D : va_G} {cl : List vw_C} {cs : Nat → ClassId} {tS : Nat} {vs : List Value} {ws : va_W} {Post : Option Value → va_W → Prop} (hy : plainName (Z.1 j).cls = true)
    (go : ∀ (p : Program) (e : Env) (s : State) (m : MethodId) (below : List Frame) (meth : Method) (c : Code) (A : Nat → Prop), ab_X l Z j d D cl cs tS p s m vs.toArray meth c A → ab_GS s → ab_W p l e (ab_rm d mc ms) s m vs.toArray below meth c D cl A (MQ below (ab_Qc D cl cs A Post) vs.toArray s mc ms A) 0 0 0 ((lg_sl vs ++ List.replicate (Z.2.2.1 j - (lg_sl vs).length) Slot.unset).toArray) [] ws) : ab_CtG l (Z.1 j) (ab_wM Z j) (ab_rm d mc ms) mc ms D cl cs tS vs ws Post := by
  intro sz
  refine Met.ofW (cc := Z.2.1 j) (maxL := Z.2.2.1 j) (ret := Z.2.2.2.1 j) hy rfl ?_
  intro p e s m args below meth c s₁ B hml hv
  obtain ⟨rfl, hsz, ⟨hP, hK, hD, hZ, hT⟩, hG⟩ := hv
  subst hsz
  rw [lg_entry_eq]
  have hA : ∀ q, s.heap.size ≤ q → va_A ws s.heap.size q := fun q h => Or.inr h
  exact go p e s m below meth c (va_A ws s.heap.size) ⟨B.exec, B.bytes, hml, findClass_of_methodNamed B.named, atoms_spec (ws := ab_wM Z j) B.pre, hK, hA, hZ, hT, B.returns, B.notSynchronized, (name_of_methodNamed B.named B.method).1⟩ hG s.heap [] hP hD va_S.rf
/-- a constructor's summary: the object's cell, the number of cells behind, cells, slots, arguments, what is asked, what holds -/
abbrev ab_Nk : Type := Nat × Nat × Nat × Nat × List ab_TV × ab_TH × ab_TH
def ab_PN (tS : Nat) (tys : List (ClassId × FieldType)) (ws : va_W) (S : ab_Nk) (rv : Option Value) (ws' : va_W) : Prop := rv = none ∧ (∃ more, ws'.map (·.1) = ws.map (·.1) ++ more) ∧ ws'.length = S.2.1 ∧ (∀ k, k < S.1 → ws'[k]? = ws[k]?) ∧ ab_th tS tys S.2.2.2.2.2.2 ws'
def ab_NOK (l : Launch) (Z : ab_Ms) (d : Nat) (D : va_G) (cl : List vw_C) (cs : Nat → ClassId) (tS : Nat) (j : Nat) (S : ab_Nk) : Prop := ∀ (ws : va_W) (vs : List Value), ws.length = S.1 + 1 → ab_tl (ws.map (·.1)) tS S.2.2.2.2.1 vs → ab_th tS (ab_tys cs) S.2.2.2.2.2.1 ws → ab_CtG l (Z.1 j) (ab_wM Z j) (ab_rm d S.2.2.1 S.2.2.2.1) S.2.2.1 S.2.2.2.1 D cl cs tS vs ws (ab_PN tS (ab_tys cs) ws S)
abbrev ab_Xt : Type := Nat × Nat × Nat × ab_St
def ab_aty (a : ArrayType) : Option Nat := match a with
  | .int => some 0
  | .long => some 1
  | .boolean => some 2
  | _ => none
/-- a constructor called: the stack's arguments, then the world that it leaves -/
def ab_cn (S : ab_Nk) (K : Nat) (st : ab_St) : Option ab_St := match st with
  | (n, e, h, L, sk) => bif (Nat.ble S.2.2.2.2.1.length sk.length && Nat.ble (sk.drop S.2.2.2.2.1.length).length 4) && ((ab_leVs e (sk.take S.2.2.2.2.1.length).reverse S.2.2.2.2.1 && ab_leH e h S.2.2.2.2.2.1) && (Nat.beq K (S.1 + 1) && ab_hk S.1 S.2.2.2.2.2.2)) then some ((ab_inH S.2.2.2.2.2.2 n e).2.1, (ab_inH S.2.2.2.2.2.2 n e).2.2, (ab_inH S.2.2.2.2.2.2 n e).1 ++ h, L, sk.drop S.2.2.2.2.1.length) else none
def ab_oi (st : ab_St) : Option ab_St := match st with
  | (n, e, h, L, some (.inr (.inl ks)) :: r) => bif Nat.ble r.length 4 then some (n, e, h, L, r) else none
  | _ => none
def ab_xst (kc : Nat → Bool) (stp : Instr → Nat → Nat → ab_St → Option (List (Nat × ab_St))) (mc ms : Nat) (Nw : Nat → Option ab_TC) (Ar : Nat → Option (Nat × Nat)) (Sp : Nat → Option (Option (Nat × ab_Nk))) (i : Instr) (len pc : Nat) (x : ab_Xt) : Option (List (Nat × ab_Xt)) := match i with
  | .newarray a => (match ab_aty a with
    | some t => (match ab_na kc t x.1 x.2.2.2 with
      | some q => bif Nat.beq len 2 && (Nat.ble (x.2.1 + 1) mc && Nat.ble (x.2.2.1 + q.1) ms) then some [(pc + 2, (x.1 + 1, x.2.1 + 1, x.2.2.1 + q.1, q.2))] else none
      | none => none)
    | none => none)
  | .new ix => (match Nw ix with
    | some tc => bif Nat.beq len 3 && (Nat.ble (x.2.1 + 1) mc && Nat.ble (x.2.2.1 + tc.2.1) ms) then some [(pc + 3, (x.1 + 1, x.2.1 + 1, x.2.2.1 + tc.2.1, ab_gal [(x.1, tc)] x.1 x.2.2.2.1 x.2.2.2.2.1 x.2.2.2.2.2.1 x.2.2.2.2.2.2.1 x.2.2.2.2.2.2.2))] else none
    | none => none)
  | .multianewarray ix dm => (match Ar ix with
    | some t => (match ab_mn t.1 t.2 x.1 x.2.2.2 with
      | some q => bif (Nat.beq len 4 && Nat.beq dm 2) && (Nat.ble (x.2.1 + (1 + q.1)) mc && Nat.ble (x.2.2.1 + (q.1 + q.1 * q.2.1)) ms) then some [(pc + 4, (x.1 + (1 + q.1), x.2.1 + 1 + q.1, x.2.2.1 + q.1 + q.1 * q.2.1, q.2.2))] else none
      | none => none)
    | none => none)
  | .invokespecial ix => (match Sp ix with
    | some none => (match ab_oi x.2.2.2 with
      | some st => bif Nat.beq len 3 then some [(pc + 3, (x.1, x.2.1, x.2.2.1, st))] else none
      | none => none)
    | some (some q) => (match ab_cn q.2 x.1 x.2.2.2 with
      | some st => bif Nat.beq len 3 && (Nat.ble (x.2.1 + q.2.2.2.1) mc && Nat.ble (x.2.2.1 + q.2.2.2.2.1) ms) then some [(pc + 3, (q.2.2.1, x.2.1 + q.2.2.2.1, x.2.2.1 + q.2.2.2.2.1, st))] else none
      | none => none)
    | none => none)
  | i => (match stp i len pc x.2.2.2 with
    | some sl => some (sl.map (fun w => (w.1, (x.1, x.2.1, x.2.2.1, w.2))))
    | none => none)
def ab_xrun (tb : List (Nat × Instr × Nat)) (xs : Instr → Nat → Nat → ab_Xt → Option (List (Nat × ab_Xt))) (ter : Nat → Instr → Nat → ab_Xt → Bool) : Nat → Nat → ab_Xt → Bool
  | 0, _, _ => false
  | f + 1, pc, x => match ab_lk tb pc with
    | none => false
    | some q => bif ab_ret q.1 then ter pc q.1 q.2 x else (match xs q.1 q.2 pc x with
      | none => false
      | some sl => sl.all (fun w => ab_xrun tb xs ter f w.1 w.2))
theorem ab_xrun_ok {tb : List (Nat × Instr × Nat)} {xs : Instr → Nat → Nat → ab_Xt → Option (List (Nat × ab_Xt))} {ter : Nat → Instr → Nat → ab_Xt → Bool} {cc : ByteArray} {P : Nat → ab_Xt → Prop} (htb : ∀ pc i len, (pc, i, len) ∈ tb → decode cc pc = .ok (i, len))
    (hs : ∀ i len pc x sl, decode cc pc = .ok (i, len) → xs i len pc x = some sl → (∀ w ∈ sl, P w.1 w.2) → P pc x) (ht : ∀ i len pc x, decode cc pc = .ok (i, len) → ter pc i len x = true → P pc x) : ∀ (f pc : Nat) (x : ab_Xt), ab_xrun tb xs ter f pc x = true → P pc x
  | 0, _, _, h => by simp [ab_xrun] at h
  | f + 1, pc, x, h => by
    rw [ab_xrun] at h
    split at h
    · cases h
    · rename_i q hq
      have hd := htb _ _ _ (ab_lk_mem hq)
      cases hr : ab_ret q.1 with
      | true => rw [hr] at h; exact ht _ _ _ _ hd h
      | false =>
        rw [hr] at h
        simp only [cond_false] at h
        split at h
        · cases h
        · rename_i sl hsl
          exact hs _ _ _ _ sl hd hsl (fun w hw => ab_xrun_ok htb hs ht f w.1 w.2 (List.all_eq_true.mp h w hw))
/-- what a constructor's own pool says -/
def ab_XOK (l : Launch) (Z : ab_Ms) (d : Nat) (D : va_G) (cl : List vw_C) (cs : Nat → ClassId) (tS : Nat) (own : String) (Nw : Nat → Option ab_TC) (Ar : Nat → Option (Nat × Nat)) (Sp : Nat → Option (Option (Nat × ab_Nk))) : Prop :=
  (Cond.arrayClass .int ∈ Z.2.2.2.2 ∧ Cond.arrayClass .long ∈ Z.2.2.2.2 ∧ Cond.arrayClass .boolean ∈ Z.2.2.2.2) ∧
  (∀ ix tc, Nw ix = some tc → ∃ (C : String) (T : u_T) (N ci : Nat) (ty : Nat → FieldType) (fs : List Value), (Cond.classLink own ix C ∈ Z.2.2.2.2 ∧ Cond.instantiable C N ∈ Z.2.2.2.2 ∧ Cond.initialized C ∈ Z.2.2.2.2) ∧ (∀ w ∈ u_ws C T N, w ∈ Z.2.2.2.2) ∧ (∀ k, k < N → parseFieldDescriptor (T k).2.2.1 = some (ty k)) ∧ cl[ci]? = some (C, T, N) ∧ (∀ j, j < N → defaultValue (ty j) = vp_V fs j) ∧ tc.2.1 = N ∧ ∀ ad, ab_tc ad tS (ab_tys cs) tc (.inr (ci, fs))) ∧
  (∀ ix t, Ar ix = some t → (t = (0, 3) ∧ Cond.classLink own ix "[[I" ∈ Z.2.2.2.2) ∨ (t = (1, 4) ∧ Cond.classLink own ix "[[J" ∈ Z.2.2.2.2)) ∧
  (∀ ix, Sp ix = some none → Cond.methodLink own ix Lib.objectInit ∈ Z.2.2.2.2 ∧ Cond.instanceMethod Lib.objectInit ∈ Z.2.2.2.2 ∧ Cond.code Lib.objectInit ⟨#[0xb1]⟩ 1 none ∈ Z.2.2.2.2) ∧
  (∀ ix j S, Sp ix = some (some (j, S)) → ∃ d', d' + 1 ≤ d ∧ ab_NOK l Z d' D cl cs tS j S ∧ (Cond.methodLink own ix (Z.1 j) ∈ Z.2.2.2.2 ∨ (own = "SandFlags" ∧ (ix, Z.1 j) ∈ ab_nests)) ∧ Cond.initialized (Z.1 j).cls ∈ Z.2.2.2.2 ∧ Cond.code (Z.1 j) (Z.2.1 j) (Z.2.2.1 j) none ∈ Z.2.2.2.2 ∧ Z.2.2.2.1 j = none ∧ Z.2.2.1 j ≤ 21 ∧ Cond.instanceMethod (Z.1 j) ∈ Z.2.2.2.2 ∧ (Z.1 j).name = "<init>" ∧ ((Z.1 j).cls ≠ "java/lang/invoke/MethodHandle" ∧ (Z.1 j).cls ≠ "java/lang/invoke/VarHandle" ∧ (parseMethodDescriptor (Z.1 j).desc).map (fun d => d.parameters.length) = some (S.2.2.2.2.1.length - 1)) ∧ ∃ r, S.2.2.2.2.1 = some (.inr (.inl [S.1])) :: r)
theorem ab_hk_get {k : Nat} {th : ab_TH} {n : Nat} {e : ab_En} (h : ab_hk k th = true) : ∃ c, ab_hg (ab_inH th n e).1 k = some c := by
  cases hq : ab_hg (ab_inH th n e).1 k with
  | some c => exact ⟨c, rfl⟩
  | none => rw [ab_inH_none hq] at h; cases h
def ab_J (ρ0 : Nat → Value) (n0 ko : Nat) (ws0 : va_W) : (Nat → Value) → Nat → va_W → Prop := fun ρ n ws => ab_ext ρ0 ρ n0 n ∧ (∃ more, ws.map (·.1) = ws0.map (·.1) ++ more) ∧ ∀ k, k < ko → ws[k]? = ws0[k]?
theorem ab_J_JG {ρ0 : Nat → Value} {n0 ko : Nat} {ws0 : va_W} (h0 : ko ≤ ws0.length) : ab_JG (ab_J ρ0 n0 ko ws0) := by
  intro ρ n ws ρ' n' nw h hx
  obtain ⟨h1, ⟨more, hm⟩, h2⟩ := h
  have hl : ws0.length ≤ ws.length := by
    have := congrArg List.length hm
    simp at this
    omega
  exact ⟨h1.trans hx, ⟨more ++ nw.map (·.1), by rw [List.map_append, hm, List.append_assoc]⟩, fun k hk => by rw [List.getElem?_append_left (by omega)]; exact h2 k hk⟩
theorem ab_J_IC {ρ0 : Nat → Value} {n0 ko : Nat} {ws0 : va_W} {M : Nat → Bool} (h0 : ko ≤ ws0.length) (hM : ∀ k, k < ko → M k = false) : ab_IC (ab_J ρ0 n0 ko ws0) M := by
  intro ρ n ws ρ' n' ws' h hx hg
  obtain ⟨h1, ⟨more, hm⟩, h2⟩ := h
  have hl : ws0.length ≤ ws.length := by
    have := congrArg List.length hm
    simp at this
    omega
  exact ⟨h1.trans hx, ⟨more, by rw [hg.ad]; exact hm⟩, fun k hk => by rw [hg.2.1 k (by omega) (hM k hk)]; exact h2 k hk⟩
theorem ab_zI {ad : List Nat} {tS N : Nat} {cs : Nat → ClassId} : ab_tc ad tS (ab_tys cs) (0, N, .inl [(.ofNat 0, .ofNat 0)]) (.inl (cs 0, (N, .inl (fun _ => 0)))) := ⟨rfl, ⟨.int, rfl, Or.inl rfl⟩, rfl, Or.inl ⟨_, rfl, fun i _ => ⟨_, List.mem_singleton.mpr rfl, by show (0 : Int) ≤ (0 : Int32).toInt; decide, by show (0 : Int32).toInt ≤ (0 : Int); decide⟩⟩⟩
theorem ab_zZ {ad : List Nat} {tS N : Nat} {cs : Nat → ClassId} : ab_tc ad tS (ab_tys cs) (2, N, .inl [(.ofNat 0, .ofNat 0)]) (.inl (cs 2, (N, .inl (fun _ => 0)))) := ⟨rfl, ⟨.boolean, rfl, Or.inr rfl⟩, rfl, Or.inl ⟨_, rfl, fun i _ => ⟨_, List.mem_singleton.mpr rfl, by show (0 : Int) ≤ (0 : Int32).toInt; decide, by show (0 : Int32).toInt ≤ (0 : Int); decide⟩⟩⟩
theorem ab_zL {ad : List Nat} {tS N : Nat} {cs : Nat → ClassId} : ab_tc ad tS (ab_tys cs) (1, N, .inl [(.ofNat 0, .ofNat 0)]) (.inl (cs 1, (N, .inr (.inl (fun _ => 0))))) := ⟨rfl, rfl, rfl, Or.inl ⟨_, rfl, fun i _ => ⟨_, List.mem_singleton.mpr rfl, by show (0 : Int) ≤ (0 : Int64).toInt; decide, by show (0 : Int64).toInt ≤ (0 : Int); decide⟩⟩⟩
theorem ab_zI2 {kc : Nat → Bool} {ad : List Nat} {tS N K : Nat} {cs : Nat → ClassId} : ab_tc ad tS (ab_tys cs) (0, N, ab_nz kc 0 K N) (.inl (cs 0, (N, .inl (fun _ => 0)))) := by
  unfold ab_nz
  cases kc K with
  | false => exact ab_zI
  | true =>
    refine ⟨rfl, ⟨.int, rfl, Or.inl rfl⟩, rfl, Or.inr (Or.inr ⟨_, rfl, by simp, fun i k hk => ?_⟩)⟩
    have : k = .ofNat 0 := by
      have := List.mem_of_getElem? hk
      exact (List.mem_replicate.mp this).2
    rw [this]
    rfl
theorem ab_zL2 {kc : Nat → Bool} {ad : List Nat} {tS N K : Nat} {cs : Nat → ClassId} : ab_tc ad tS (ab_tys cs) (1, N, ab_nz kc 1 K N) (.inl (cs 1, (N, .inr (.inl (fun _ => 0))))) := by
  unfold ab_nz
  cases kc K <;> exact ab_zL
theorem ab_zZ2 {kc : Nat → Bool} {ad : List Nat} {tS N K : Nat} {cs : Nat → ClassId} : ab_tc ad tS (ab_tys cs) (2, N, ab_nz kc 2 K N) (.inl (cs 2, (N, .inl (fun _ => 0)))) := by
  unfold ab_nz
  cases kc K <;> exact ab_zZ
section ABK
variable {p : Program} {l : Launch} {e : Env} {s : State} {m : MethodId} {args : Array Value} {below : List Frame} {meth : Method} {c : Code} {D : va_G} {cl : List vw_C} {A : Nat → Prop} {Q : State → Prop}
variable {tS : Nat} {cs : Nat → ClassId} {d d0 j mc ms : Nat} {Mt : ab_Mt} {T : ab_Tb} {O : ab_Cf} {M : Nat → Bool} {Z : ab_Ms} {wF : List Cond × List Cond} {bF : ByteArray × ByteArray}
variable {Nw : Nat → Option ab_TC} {Ar : Nat → Option (Nat × Nat)} {Sp : Nat → Option (Option (Nat × ab_Nk))} {ρ0 : Nat → Value} {n0 ko : Nat} {ws0 : va_W}
theorem ab_oi_ok (X : ab_X l Z j d D cl cs tS p s m args meth c A) (hd1 : 1 ≤ d) {I : (Nat → Value) → Nat → va_W → Prop} {ix pc cells slots : Nat} {st st' : ab_St} (hw : Cond.methodLink (Z.1 j).cls ix Lib.objectInit ∈ Z.2.2.2.2 ∧ Cond.instanceMethod Lib.objectInit ∈ Z.2.2.2.2 ∧ Cond.code Lib.objectInit ⟨#[0xb1]⟩ 1 none ∈ Z.2.2.2.2) (hd : decode (Z.2.1 j) pc = .ok (.invokespecial ix, 3)) (h : ab_oi st = some st')
    (k : ab_Ok p l e (ab_rm d mc ms) s m args below meth c D cl A Q I tS (ab_tys cs) (Z.2.2.1 j) cells slots (pc + 3) st') : ab_Ok p l e (ab_rm d mc ms) s m args below meth c D cl A Q I tS (ab_tys cs) (Z.2.2.1 j) cells slots pc st := by
  obtain ⟨hx, hb, hml, hown, hts, hK, hA, hZ, hT, hr, hlocks, hname⟩ := X
  have hB : ∀ w ∈ Z.2.2.2.2, w.before args s = true := fun w hw => hts w (List.mem_cons_of_mem _ hw)
  unfold ab_oi at h
  split at h
  · rename_i n en hp L ks r
    cases hb2 : Nat.ble r.length 4 with
    | false => rw [hb2] at h; simp at h
    | true =>
      rw [hb2] at h
      simp only [cond_true] at h
      cases h
      intro ρ ls stk ws hi S H locs hP hD hS
      obtain ⟨y, stk', rfl, hy, S1⟩ := ab_sat_top S
      obtain ⟨k0, a, -, -, rfl⟩ := hy
      have hlen := ab_all2_len S1.2.2.2
      have := ab_catsum stk'
      have hb4 := Nat.le_of_ble_eq_true hb2
      have hlen2 : r.length = stk'.length := hlen
      refine W.objInit hx hb hown (hB _ hw.1) (hB _ hw.2.1) (hB _ hw.2.2) rfl (by rw [hml]; exact S.2.2.1.1) rfl hd hd1 (by show 2 * 0 + (stk'.map fun v => v.category).sum + 12 ≤ 40 * d; omega) (k _ _ _ _ hi S1 H locs hP hD hS)
  · cases h
theorem ab_cn_ok (X : ab_X l Z j d D cl cs tS p s m args meth c A) (hGS : ab_GS s) (hG : ∀ w ∈ Z.2.2.2.2, goodWord w = true) (h0 : ws0.length = ko + 1) {ix pc cells slots K jj d' : Nat} {S : ab_Nk} {st st' : ab_St} (hd' : d' + 1 ≤ d) (hN : ab_NOK l Z d' D cl cs tS jj S) (hlk : Cond.methodLink (Z.1 j).cls ix (Z.1 jj) ∈ Z.2.2.2.2 ∨ ((Z.1 j).cls = "SandFlags" ∧ (ix, Z.1 jj) ∈ ab_nests)) (hini : Cond.initialized (Z.1 jj).cls ∈ Z.2.2.2.2) (hcode : Cond.code (Z.1 jj) (Z.2.1 jj) (Z.2.2.1 jj) none ∈ Z.2.2.2.2) (hret : Z.2.2.2.1 jj = none) (hml2 : Z.2.2.1 jj ≤ 21) (hinst : Cond.instanceMethod (Z.1 jj) ∈ Z.2.2.2.2) (hnm : (Z.1 jj).name = "<init>") (hdesc : (Z.1 jj).cls ≠ "java/lang/invoke/MethodHandle" ∧ (Z.1 jj).cls ≠ "java/lang/invoke/VarHandle" ∧ (parseMethodDescriptor (Z.1 jj).desc).map (fun d => d.parameters.length) = some (S.2.2.2.2.1.length - 1)) {r0 : List ab_TV} (hrc : S.2.2.2.2.1 = some (.inr (.inl [S.1])) :: r0)
    (hd : decode (Z.2.1 j) pc = .ok (.invokespecial ix, 3)) (h : ab_cn S K st = some st') (hcs : cells + S.2.2.1 ≤ mc ∧ slots + S.2.2.2.1 ≤ ms)
    (k : ab_Ok p l e (ab_rm d mc ms) s m args below meth c D cl A Q (ab_IK (ab_J ρ0 n0 ko ws0) S.2.1) tS (ab_tys cs) (Z.2.2.1 j) (cells + S.2.2.1) (slots + S.2.2.2.1) (pc + 3) st') : ab_Ok p l e (ab_rm d mc ms) s m args below meth c D cl A Q (ab_IK (ab_J ρ0 n0 ko ws0) K) tS (ab_tys cs) (Z.2.2.1 j) cells slots pc st := by
  obtain ⟨hx, hb, hml, hown, hts, hK, hA, hZ, hT, hr, hlocks, hname⟩ := X
  have hB : ∀ w ∈ Z.2.2.2.2, w.before args s = true := fun w hw => hts w (List.mem_cons_of_mem _ hw)
  obtain ⟨n, en, hp, L, sk⟩ := st
  simp only [ab_cn] at h
  cases hb0 : ((Nat.ble S.2.2.2.2.1.length sk.length && Nat.ble (sk.drop S.2.2.2.2.1.length).length 4) && ((ab_leVs en (sk.take S.2.2.2.2.1.length).reverse S.2.2.2.2.1 && ab_leH en hp S.2.2.2.2.2.1) && (Nat.beq K (S.1 + 1) && ab_hk S.1 S.2.2.2.2.2.2))) with
  | false => rw [hb0] at h; simp at h
  | true =>
    rw [hb0] at h
    simp only [cond_true] at h
    cases h
    simp only [Bool.and_eq_true] at hb0
    obtain ⟨⟨b1, b2⟩, ⟨b3, b4⟩, b5, b6⟩ := hb0
    have b1 := Nat.le_of_ble_eq_true b1
    have b2 := Nat.le_of_ble_eq_true b2
    have b5 : K = S.1 + 1 := Nat.eq_of_beq_eq_true b5
    intro ρ ls stk ws hi Sa H locs hP hD hS
    have hlen : ws.length = K := hi.2
    obtain ⟨⟨j1, ⟨mr, j2⟩, j3⟩, -⟩ := id hi
    have hko : ko ≤ S.1 := by
      have := congrArg List.length j2
      simp at this
      omega
    have hall : ab_all2 (ab_val ρ n (ws.map (·.1)) tS) (sk.take S.2.2.2.2.1.length ++ sk.drop S.2.2.2.2.1.length) stk := by rw [List.take_append_drop]; exact Sa.2.2.2
    obtain ⟨m1, m2, rfl, hm1, hm2⟩ := ab_all2_split hall
    have hl1 := ab_all2_len hm1
    have hl2 := ab_all2_len hm2
    rw [List.length_take] at hl1
    have htl := ab_leVs_ok Sa.1 b3 (ab_all2_rev hm1)
    have hth := ab_leH_ok Sa.1 b4 Sa.2.1
    have Ct := hN ws m1.reverse (by omega) htl hth
    have hcat : (m2.map fun v => v.category).sum ≤ 8 := by have := ab_catsum m2; omega
    rw [hrc] at htl
    match hv : m1.reverse, htl with
    | [], htl => exact htl.elim
    | v0 :: As, htl =>
      obtain ⟨⟨k1, b, hk1, hb9, rfl⟩, -⟩ := htl
      rw [hv] at Ct
      have hm1e : m1 = As.reverse ++ [.ref b] := by
        have := congrArg List.reverse hv
        rw [List.reverse_reverse] at this
        rw [this, List.reverse_cons]
      have hAl : As.length = S.2.2.2.2.1.length - 1 := by
        have : m1.length = As.length + 1 := by rw [hm1e]; simp
        omega
      rw [show m1 ++ m2 = As.reverse ++ .ref b :: m2 by rw [hm1e, List.append_assoc]; rfl]
      have hwm : ab_wM Z jj = Cond.code (Z.1 jj) (Z.2.1 jj) (Z.2.2.1 jj) none :: Z.2.2.2.2 := by unfold ab_wM; rw [hret]
      have hgood : GoodIn (ab_wM Z j) (ab_wM Z jj) := by rw [hwm]; exact ab_goodB hG hcode rfl
      have hroom : (ab_rm d' S.2.2.1 S.2.2.2.1).frames + 1 ≤ (ab_rm d mc ms).frames ∧ 8 + (Z.2.2.1 jj + 11) + (ab_rm d' S.2.2.1 S.2.2.2.1).locals ≤ (ab_rm d mc ms).locals := ⟨by show d' + 1 ≤ d; omega, by show 8 + (Z.2.2.1 jj + 11) + 40 * d' ≤ 40 * d; omega⟩
      refine ab_callI (host := "SandFlags") (bytes := Z.2.1 jj) (maxL := Z.2.2.1 jj) ⟨hx, hb, hml, hown, hts⟩ Ct ⟨?_, hnm, hB _ hinst⟩ hP hD hS hA hK hZ hT hGS hAl Sa.2.2.1.1 hcat hd hcs (fun rv ws' H1 locs1 hpo hP1 hD1 hS1 => ?_)
      · rcases hlk with hlk | ⟨ho, hnest⟩
        · exact Or.inl (callB_of (S.2.2.2.2.1.length - 1) hts hgood hwm rfl rfl (hB _ hini) (hB _ hlk) hdesc hroom)
        · refine Or.inr (va_cnB (S.2.2.2.2.1.length - 1) hts hgood hwm rfl rfl ?_ (hB _ hini) hdesc hroom)
          have := hGS.2.2 _ hnest
          rw [ho]
          exact this
      · obtain ⟨rfl, ⟨more, hm⟩, q3, q4, q5⟩ := hpo
        obtain ⟨ρ', x1, x2, x3⟩ := ab_inH_ok Sa.1 q5
        refine k ρ' ls _ ws' ⟨⟨j1.trans x1, ⟨mr ++ more, by rw [hm, j2, List.append_assoc]⟩, fun k' hk' => by rw [q4 k' (by omega)]; exact j3 k' hk'⟩, q3⟩ ⟨x2, ?_, ?_, ?_⟩ H1 locs1 hP1 hD1 hS1
        · intro k' c' hc'
          have hc2 : ab_hg ((ab_inH S.2.2.2.2.2.2 n en).1 ++ hp) k' = some c' := hc'
          rw [ab_hg_app] at hc2
          cases hE : ab_hg (ab_inH S.2.2.2.2.2.2 n en).1 k' with
          | some c2 =>
            rw [hE] at hc2
            cases hc2
            exact x3 k' _ hE
          | none =>
            rw [hE] at hc2
            obtain ⟨a, x, g1, g2⟩ := Sa.2.1 k' c' hc2
            have hlt : k' < ws.length := (List.getElem?_eq_some_iff.mp g1).1
            have hne : k' ≠ S.1 := by
              intro q
              obtain ⟨c3, hc3⟩ := ab_hk_get (n := n) (e := en) b6
              rw [q, hc3] at hE
              cases hE
            refine ⟨a, x, by rw [q4 k' (by omega)]; exact g1, ?_⟩
            rw [hm]
            exact ab_acok_ad (ab_acok_ext x1 g2)
        · rw [hm]; exact ab_loc_ad (ab_loc_ext x1 Sa.2.2.1)
        · rw [hm]; exact ab_stk_ad (ab_stk_ext x1 hm2)
theorem ab_xst_ok {kc : Nat → Bool} (X : ab_X l Z j d D cl cs tS p s m args meth c A) (hGS : ab_GS s) (hG : ∀ w ∈ Z.2.2.2.2, goodWord w = true) (hd2 : 2 ≤ d) (hFI : ab_FI l wF D cl cs tS) (hFL : ab_FL l wF D cl cs tS) (hMO : ab_MOK Z Mt wF bF cl T (Z.1 j).cls) (CO : ab_CO l Z d0 D cl cs tS M O) (hd0 : d0 + 1 ≤ d) (hini : (Z.1 j).name = "<init>") (hXO : ab_XOK l Z d D cl cs tS (Z.1 j).cls Nw Ar Sp) (h0 : ws0.length = ko + 1) (hMk : ∀ k, k < ko → M k = false) :
    ∀ i len pc (x : ab_Xt) sl, decode (Z.2.1 j) pc = .ok (i, len) → ab_xst kc (ab_step T Mt O (Z.2.2.1 j) M true) mc ms Nw Ar Sp i len pc x = some sl → (∀ w ∈ sl, (w.2.2.1 ≤ mc ∧ w.2.2.2.1 ≤ ms) → ab_Ok p l e (ab_rm d mc ms) s m args below meth c D cl A Q (ab_IK (ab_J ρ0 n0 ko ws0) w.2.1) tS (ab_tys cs) (Z.2.2.1 j) w.2.2.1 w.2.2.2.1 w.1 w.2.2.2.2) → (x.2.1 ≤ mc ∧ x.2.2.1 ≤ ms) → ab_Ok p l e (ab_rm d mc ms) s m args below meth c D cl A Q (ab_IK (ab_J ρ0 n0 ko ws0) x.1) tS (ab_tys cs) (Z.2.2.1 j) x.2.1 x.2.2.1 pc x.2.2.2 := by
  intro i len pc x sl hd h k hcs
  have X' := X
  obtain ⟨hx, hb, hml, hown, hts, hK, hA, hZ, hT, hr, hlocks, hname⟩ := X
  have hB : ∀ w ∈ Z.2.2.2.2, w.before args s = true := fun w hw => hts w (List.mem_cons_of_mem _ hw)
  obtain ⟨⟨o1, o2, o3⟩, oN, oA, oI, oS⟩ := hXO
  have hJ : ab_JG (ab_J ρ0 n0 ko ws0) := ab_J_JG (by omega)
  have hI : s.vm.findClass ("[" ++ FieldType.int.toString) = some (cs 0) := (hK.2 0 (cs 0, .int) rfl).2
  have hL : s.vm.findClass ("[" ++ FieldType.long.toString) = some (cs 1) := (hK.2 1 (cs 1, .long) rfl).2
  have hZb : s.vm.findClass ("[" ++ FieldType.boolean.toString) = some (cs 2) := (hK.2 2 (cs 2, .boolean) rfl).2
  have hII : s.vm.findClass ("[" ++ (FieldType.array .int).toString) = some (cs 3) := (hK.2 3 (cs 3, .array .int) rfl).2
  have hLL : s.vm.findClass ("[" ++ (FieldType.array .long).toString) = some (cs 4) := (hK.2 4 (cs 4, .array .long) rfl).2
  obtain ⟨K, cells, slots, st⟩ := x
  unfold ab_xst at h
  split at h
  · rename_i a
    split at h
    · rename_i t ht
      split at h
      · rename_i q hq
        cases hb2 : (Nat.beq len 2 && (Nat.ble (cells + 1) mc && Nat.ble (slots + q.1) ms)) with
        | false => rw [hb2] at h; simp at h
        | true =>
          rw [hb2] at h
          simp only [cond_true] at h
          cases h
          simp only [Bool.and_eq_true] at hb2
          obtain ⟨b1, b2, b3⟩ := hb2
          have b1 : len = 2 := Nat.eq_of_beq_eq_true b1
          subst b1
          have b2 := Nat.le_of_ble_eq_true b2
          have b3 := Nat.le_of_ble_eq_true b3
          have k1 := k _ List.mem_cons_self ⟨b2, b3⟩
          match a, ht with
          | .int, ht =>
            cases ht
            exact ab_s_newa (z := fun N => (N, .inl (fun _ => 0))) (ty := .int) hJ hx hb rfl (hB _ o1) hI (fun _ q => q) (fun _ _ => rfl) (by decide) (fun _ _ => ab_zI2) hK hA hd hq b2 b3 k1
          | .long, ht =>
            cases ht
            exact ab_s_newa (z := fun N => (N, .inr (.inl (fun _ => 0)))) (ty := .long) hJ hx hb rfl (hB _ o2) hL (fun _ q => q) (fun _ _ => rfl) (by decide) (fun _ _ => ab_zL2) hK hA hd hq b2 b3 k1
          | .boolean, ht =>
            cases ht
            exact ab_s_newa (z := fun N => (N, .inl (fun _ => 0))) (ty := .boolean) hJ hx hb rfl (hB _ o3) hZb (fun _ q => q) (fun _ _ => rfl) (by decide) (fun _ _ => ab_zZ2) hK hA hd hq b2 b3 k1
      · cases h
    · cases h
  · rename_i ix
    split at h
    · rename_i tc htc
      cases hb2 : (Nat.beq len 3 && (Nat.ble (cells + 1) mc && Nat.ble (slots + tc.2.1) ms)) with
      | false => rw [hb2] at h; simp at h
      | true =>
        rw [hb2] at h
        simp only [cond_true] at h
        cases h
        simp only [Bool.and_eq_true] at hb2
        obtain ⟨b1, b2, b3⟩ := hb2
        have b1 : len = 3 := Nat.eq_of_beq_eq_true b1
        subst b1
        have b2 := Nat.le_of_ble_eq_true b2
        have b3 := Nat.le_of_ble_eq_true b3
        have k1 := k _ List.mem_cons_self ⟨b2, b3⟩
        obtain ⟨C, Tb, N, ci, ty, fs, ⟨c1, c2, c3⟩, c4, c5, c6, c7, c8, c9⟩ := oN ix tc htc
        subst c8
        exact ab_s_newo hJ hx hb hB c4 ty c5 hown (hB _ c1) (hB _ c2) (hB _ c3) c6 c7 c9 hK hA hd b2 b3 k1
    · cases h
  · rename_i ix dm
    split at h
    · rename_i t ht
      split at h
      · rename_i q hq
        cases hb2 : ((Nat.beq len 4 && Nat.beq dm 2) && (Nat.ble (cells + (1 + q.1)) mc && Nat.ble (slots + (q.1 + q.1 * q.2.1)) ms)) with
        | false => rw [hb2] at h; simp at h
        | true =>
          rw [hb2] at h
          simp only [cond_true] at h
          cases h
          simp only [Bool.and_eq_true] at hb2
          obtain ⟨⟨b1, b4⟩, b2, b3⟩ := hb2
          have b1 : len = 4 := Nat.eq_of_beq_eq_true b1
          have b4 : dm = 2 := Nat.eq_of_beq_eq_true b4
          subst b1
          subst b4
          have b2 := Nat.le_of_ble_eq_true b2
          have b3 := Nat.le_of_ble_eq_true b3
          have k1 := k _ List.mem_cons_self ⟨by show cells + 1 + q.1 ≤ mc; omega, by show slots + q.1 + q.1 * q.2.1 ≤ ms; omega⟩
          rcases oA ix t ht with ⟨rfl, w1⟩ | ⟨rfl, w1⟩
          · exact ab_s_mna (z := fun N => (N, .inl (fun _ => 0))) (ty := .int) hJ hx hb hown (hB _ w1) hGS.1 (hB _ o1) hI hII rfl (fun _ _ => rfl) (fun _ _ => ab_zI) (by decide) rfl rfl hA hd hq b2 b3 k1
          · exact ab_s_mna (z := fun N => (N, .inr (.inl (fun _ => 0)))) (ty := .long) hJ hx hb hown (hB _ w1) hGS.2.1 (hB _ o2) hL hLL rfl (fun _ _ => rfl) (fun _ _ => ab_zL) (by decide) rfl rfl hA hd hq b2 b3 k1
      · cases h
    · cases h
  · rename_i ix
    split at h
    · rename_i hsp
      split at h
      · rename_i st' hst'
        cases hb2 : Nat.beq len 3 with
        | false => rw [hb2] at h; simp at h
        | true =>
          rw [hb2] at h
          simp only [cond_true] at h
          cases h
          have b1 : len = 3 := Nat.eq_of_beq_eq_true hb2
          subst b1
          exact ab_oi_ok X' (by omega) (oI ix hsp) hd hst' (k _ List.mem_cons_self hcs)
      · cases h
    · rename_i q hsp
      split at h
      · rename_i st' hst'
        cases hb2 : (Nat.beq len 3 && (Nat.ble (cells + q.2.2.2.1) mc && Nat.ble (slots + q.2.2.2.2.1) ms)) with
        | false => rw [hb2] at h; simp at h
        | true =>
          rw [hb2] at h
          simp only [cond_true] at h
          cases h
          simp only [Bool.and_eq_true] at hb2
          obtain ⟨b1, b2, b3⟩ := hb2
          have b1 : len = 3 := Nat.eq_of_beq_eq_true b1
          subst b1
          have b2 := Nat.le_of_ble_eq_true b2
          have b3 := Nat.le_of_ble_eq_true b3
          have k1 := k _ List.mem_cons_self ⟨b2, b3⟩
          obtain ⟨jj, S⟩ := q
          obtain ⟨d', a1, a2, a3, a4, a5, a6, a7, a8, a9, a10, r0, a11⟩ := oS ix jj S hsp
          exact ab_cn_ok X' hGS hG h0 a1 a2 a3 a4 a5 a6 a7 a8 a9 a10 a11 hd hst' ⟨b2, b3⟩ k1
      · cases h
    · cases h
  · split at h
    · rename_i sl' hsl'
      cases h
      refine ab_ctx_step hcs (ab_IK_IC (ab_J_IC (by omega) hMk)) X' hG hd2 hFI hFL hMO CO hd0 (fun _ => hini) _ len pc st sl' hd hsl' (fun w hw => ?_)
      exact k (w.1, (K, cells, slots, w.2)) (List.mem_map.mpr ⟨w, hw, rfl⟩) hcs
    · cases h
end ABK
def ab_xter (S : ab_Nk) (pc : Nat) (i : Instr) (len : Nat) (x : ab_Xt) : Bool := match i, x.2.2.2.2.2.2.2 with
  | .return_, [] => (Nat.beq len 1 && Nat.beq x.1 S.2.1) && ((Nat.beq x.2.1 S.2.2.1 && Nat.beq x.2.2.1 S.2.2.2.1) && ab_leH x.2.2.2.2.1 x.2.2.2.2.2.1 S.2.2.2.2.2.2)
  | _, _ => false
def ab_nen (S : ab_Nk) : List ab_SV × ab_AH × Nat × ab_En := match ab_inVs S.2.2.2.2.1 0 [] with
  | (svs, n1, e1) => match ab_inH S.2.2.2.2.2.1 n1 e1 with
    | (h, n0, e0) => (svs, h, n0, e0)
def ab_nchk (kc : Nat → Bool) (tb : List (Nat × Instr × Nat)) (stp : Instr → Nat → Nat → ab_St → Option (List (Nat × ab_St))) (nL : Nat) (Nw : Nat → Option ab_TC) (Ar : Nat → Option (Nat × Nat)) (Sp : Nat → Option (Option (Nat × ab_Nk))) (S : ab_Nk) (fuel : Nat) : Bool := match ab_nen S with
  | (svs, h, n0, e0) => (svs.all (ab_kn e0) && Nat.ble (ab_lay e0 svs).length nL) && ab_xrun tb (ab_xst kc stp S.2.2.1 S.2.2.2.1 Nw Ar Sp) (ab_xter S) fuel 0 (S.1 + 1, 0, 0, (n0, e0, h, ab_ent e0 svs nL, []))
theorem ab_ctor_ok {kc : Nat → Bool} {l : Launch} {Z : ab_Ms} {Mt : ab_Mt} {wF : List Cond × List Cond} {bF : ByteArray × ByteArray} {D : va_G} {cl : List vw_C} {cs : Nat → ClassId} {tS d0 j fuel : Nat} {Bd : ab_Bd} {O : ab_Cf} {S : ab_Nk} {Nw : Nat → Option ab_TC} {Ar : Nat → Option (Nat × Nat)} {Sp : Nat → Option (Option (Nat × ab_Nk))} (hGl : ab_Gl l Z wF D cl cs tS) (hG : ab_GOK Z Mt wF bF cl Bd j) (h1 : 1 ≤ d0) (hnm : (Z.1 j).name = "<init>") (hrt : Z.2.2.2.1 j = none) (CO : ab_CO l Z d0 D cl cs tS (fun k => Nat.ble S.1 k) O) (hXO : ab_XOK l Z (d0 + 1) D cl cs tS (Z.1 j).cls Nw Ar Sp)
    (hc : ab_nchk kc (Bd j).1 (ab_step (Bd j).2.1 Mt O (Z.2.2.1 j) (fun k => Nat.ble S.1 k) true) (Z.2.2.1 j) Nw Ar Sp S fuel = true) : ab_NOK l Z (d0 + 1) D cl cs tS j S := by
  intro ws vs hlen htl hth
  refine ab_CtG_of hG.1 (fun p ev s m below meth c A X hGS => ?_)
  obtain ⟨ρ1, x1, x2, x3⟩ := ab_inVs_ok (ρ := fun _ => .null) (n := 0) (e := []) (fun q hq => by cases hq) htl
  obtain ⟨ρ0, y1, y2, y3⟩ := ab_inH_ok x2 hth
  have hen : ab_nen S = ((ab_inVs S.2.2.2.2.1 0 []).1, (ab_inH S.2.2.2.2.2.1 (ab_inVs S.2.2.2.2.1 0 []).2.1 (ab_inVs S.2.2.2.2.1 0 []).2.2).1, (ab_inH S.2.2.2.2.2.1 (ab_inVs S.2.2.2.2.1 0 []).2.1 (ab_inVs S.2.2.2.2.1 0 []).2.2).2.1, (ab_inH S.2.2.2.2.2.1 (ab_inVs S.2.2.2.2.1 0 []).2.1 (ab_inVs S.2.2.2.2.1 0 []).2.2).2.2) := rfl
  have hv : ab_all2 (ab_val ρ0 (ab_inH S.2.2.2.2.2.1 (ab_inVs S.2.2.2.2.1 0 []).2.1 (ab_inVs S.2.2.2.2.1 0 []).2.2).2.1 (ws.map (·.1)) tS) (ab_inVs S.2.2.2.2.1 0 []).1 vs := ab_stk_ext y1 x3
  generalize (ab_inVs S.2.2.2.2.1 0 []).1 = svs at hen hv
  generalize (ab_inH S.2.2.2.2.2.1 (ab_inVs S.2.2.2.2.1 0 []).2.1 (ab_inVs S.2.2.2.2.1 0 []).2.2).1 = hp0 at hen y3
  generalize (ab_inH S.2.2.2.2.2.1 (ab_inVs S.2.2.2.2.1 0 []).2.1 (ab_inVs S.2.2.2.2.1 0 []).2.2).2.1 = n0 at hen y3 hv y2
  generalize (ab_inH S.2.2.2.2.2.1 (ab_inVs S.2.2.2.2.1 0 []).2.1 (ab_inVs S.2.2.2.2.1 0 []).2.2).2.2 = e0 at hen y2
  unfold ab_nchk at hc
  rw [hen] at hc
  simp only at hc
  rw [Bool.and_eq_true, Bool.and_eq_true] at hc
  obtain ⟨⟨k1, k2⟩, k3⟩ := hc
  have hMk : ∀ k, k < S.1 → (fun k => Nat.ble S.1 k) k = false := by
    intro k hk
    show Nat.ble S.1 k = false
    cases hq : Nat.ble S.1 k with
    | false => rfl
    | true => have := Nat.le_of_ble_eq_true hq; omega
  have hrun := ab_xrun_ok (cc := Z.2.1 j) (P := fun pc x => (x.2.1 ≤ S.2.2.1 ∧ x.2.2.1 ≤ S.2.2.2.1) → ab_Ok p l ev (ab_rm (d0 + 1) S.2.2.1 S.2.2.2.1) s m vs.toArray below meth c D cl A (MQ below (ab_Qc D cl cs A (ab_PN tS (ab_tys cs) ws S)) vs.toArray s S.2.2.1 S.2.2.2.1 A) (ab_IK (ab_J ρ0 n0 S.1 ws) x.1) tS (ab_tys cs) (Z.2.2.1 j) x.2.1 x.2.2.1 pc x.2.2.2) hG.2.1
    (ab_xst_ok X hGS hGl.1 (show 2 ≤ d0 + 1 by omega) hGl.2.1 hGl.2.2 hG.2.2.1 CO (Nat.le_refl _) hnm hXO hlen hMk) (fun i len pc x hd ht hcs => ?_) fuel 0 _ k3 ⟨Nat.zero_le _, Nat.zero_le _⟩
  · exact hrun ρ0 _ [] ws ⟨⟨ab_ext.refl, ⟨[], by simp⟩, fun _ _ => rfl⟩, hlen⟩ ⟨y2, y3, ab_ent_ok y2 hv k1 (Nat.le_of_ble_eq_true k2), trivial⟩
  · obtain ⟨hx, hbc, hml, hown, htw, hK, hA, hZ, hT, hrt2, hlocks, hname⟩ := X
    obtain ⟨K, cells, slots, n, en, hp, L, sk⟩ := x
    intro ρ ls stk w hi Sa H locs hP hD hS
    unfold ab_xter at ht
    split at ht
    · rename_i hsk
      simp only [Bool.and_eq_true] at ht
      obtain ⟨⟨t1, t2⟩, ⟨t3, t4⟩, t5⟩ := ht
      have t1 : len = 1 := Nat.eq_of_beq_eq_true t1
      have t2 : K = S.2.1 := Nat.eq_of_beq_eq_true t2
      have t3 : cells = S.2.2.1 := Nat.eq_of_beq_eq_true t3
      have t4 : slots = S.2.2.2.1 := Nat.eq_of_beq_eq_true t4
      have hsk2 : sk = [] := hsk
      subst t1; subst t2; subst hsk2
      obtain ⟨⟨i1, i2, i3⟩, i4⟩ := hi
      have hth2 := ab_leH_ok Sa.1 t5 Sa.2.1
      match stk, Sa with
      | [], Sa =>
        show W p l ev (ab_rm (d0 + 1) S.2.2.1 S.2.2.2.1) s m vs.toArray below meth c H locs cells slots (MQ below (ab_Qc D cl cs A (ab_PN tS (ab_tys cs) ws S)) vs.toArray s S.2.2.1 S.2.2.2.1 A) (F0 m pc ls [])
        rw [← t3, ← t4]
        exact W.vret hx hbc (hrt2.trans hrt) (fun t ht hW => ⟨⟨none, w, rfl, ⟨rfl, i2, i4, i3, hth2⟩, by rw [ht]; exact hP, hD, va_K.moved hW.alike hK⟩, hS.F ht⟩) hS.2.2 hd hlocks
      | _ :: _, Sa => exact Sa.2.2.2.elim
    · cases ht
end
