noncomputable section
def nw_E : String := "java/lang/IllegalArgumentException"
def nw_names : List String := ["java/lang/RuntimeException", "java/lang/Exception"]
theorem nw_same {ws w : va_W} (h : ab_gr (fun _ => false) ws w) : w = ws := by
  apply List.ext_getElem?
  intro k
  by_cases hk : k < ws.length
  · exact h.2.1 k hk rfl
  · have h2 := h.leq
    rw [List.getElem?_eq_none (by omega), List.getElem?_eq_none (by omega)]
def nw_decl : List MethodName := [⟨"java/lang/RuntimeException", "<init>", "(Ljava/lang/String;)V"⟩, ⟨"java/lang/Exception", "<init>", "(Ljava/lang/String;)V"⟩, ⟨"java/lang/Throwable", "<init>", "(Ljava/lang/String;)V"⟩]
def nw_bad : List Cond := Cond.castable nw_E nw_E :: nw_decl.map Cond.declares
/-- what a throw needs of the state -/
def nw_Z (A : Nat → Prop) (sa : Nat) (U : State) (H : Heap) : Prop := vx_Zq Bundle.tN "UNASSIGNED_STACK" Bundle.steD A U H ∧ vx_Zq Bundle.tN "SUPPRESSED_SENTINEL" Bundle.listD A U H ∧ vk_R RX10 246 "no such place" sa U ∧ (Cond.castable nw_E nw_E).before #[] U = true ∧ ∀ x ∈ nw_decl, va_Nw (.declares x) U
theorem nw_cm {s U : State} {X Y : String} {a1 a2 : Array Value} (hal : s.vm.Alike U.vm) (h : (Cond.castable X Y).before a1 s = true) : (Cond.castable X Y).before a2 U = true := by
  obtain ⟨c1, c2, h1, h2, h3⟩ := Cond.castable_spec h
  have g1 : U.vm.findClass X = some c1 := by rw [hal.findClass]; exact h1
  have g2 : U.vm.findClass Y = some c2 := by rw [hal.findClass]; exact h2
  have g3 : U.vm.assignable c1 c2 = true := by rw [hal.assignable]; exact h3
  simp [Cond.before, Cond.holds, Cond.value, g1, g2, g3]
theorem nw_tb {u U : State} {x : MethodName} {a1 a2 : Array Value} (hv : u.vm = U.vm) (h : (Cond.declares x).before a1 u = true) : (Cond.declares x).before a2 U = true := va_tabs rfl hv h
theorem nw_Z_blind {A : Nat → Prop} {sa : Nat} {U : State} {g : JFrame} {mk : MethodId} {a : Array Value} (h : nw_Z A sa U U.heap) : nw_Z A sa (U.calling g mk a) (U.calling g mk a).heap :=
  ⟨vx_Zq.moved (u := U) (U := U.calling g mk a) (Vm.Alike.refl U.vm) h.1, vx_Zq.moved (u := U) (U := U.calling g mk a) (Vm.Alike.refl U.vm) h.2.1, vk_R.same (u := U) (U := U.calling g mk a) rfl h.2.2.1, nw_cm (U := U.calling g mk a) (Vm.Alike.refl U.vm) h.2.2.2.1, fun x hx => nw_tb (u := U) (U := U.calling g mk a) (a1 := #[]) rfl (h.2.2.2.2 x hx)⟩
theorem nw_Z_now {A : Nat → Prop} {sa sz : Nat} {s U : State} {H : Heap} {locs : List Loc} {ws : va_W} (h : nw_Z A sa s s.heap) (hD : va_D A ws) (hS : va_S A s.heap H locs) (hA : ∀ q, s.heap.size ≤ q → A q) (hU : U.heap = H) (hW : s.WarmedH U.vm) (hsz : H.size = sz) : nw_Z (va_A ws sz) sa U U.heap := by
  have hAA : ∀ q, va_A ws sz q → A q := by
    intro q hq
    rcases hq with ⟨k, e, h⟩ | h
    · exact hD.2 k (q, e) h
    · exact hA q (by have := hS.1; omega)
  refine ⟨?_, ?_, vk_R.warm hW h.2.2.1, nw_cm hW.alike h.2.2.2.1, fun x hx => va_Nw.warmD hW (h.2.2.2.2 x hx)⟩
  · rw [hU]
    exact vx_Zq.moved hW.alike ((h.1.kept (fun a h1 h2 => hS.2.1 a h1 h2)).narrow hAA)
  · rw [hU]
    exact vx_Zq.moved hW.alike ((h.2.1.kept (fun a h1 h2 => hS.2.1 a h1 h2)).narrow hAA)
def nw_M (_ : Nat) : Bool := false
def nw_th : ab_TH := [(0, ci_0), (77, ci_77), (79, ci_79)]
def nw_ta : List ab_TV := [some (.inr (.inl [0])), some (.inl (false, .negSucc 2147483647, .ofNat 2147483647)), some (.inl (false, .ofNat 0, .ofNat 1))]
def nw_S : ab_Sm := (nw_ta, nw_th, [], [])
abbrev nw_O : ab_Cf := ab_OO (ab_SLl [(71, sm_71_0)]) (fun k => ab_mem k [70, 171]) BdF ZZ MtF nw_M 2000 1
def nw_ter (w : Nat × ab_St) : Bool := match w.2.2.2.2.2 with
  | [] => Nat.beq w.1 19
  | [v] => (Nat.beq w.1 11 || Nat.beq w.1 37) && (ab_num w.2.2.1 true v).isSome
  | _ => false
def nw_chk : Bool := match ab_en nw_S with
  | (svs, h, n0, e0) => (svs.all (ab_kn e0) && Nat.ble (ab_lay e0 svs).length (ZZ.2.2.1 149)) && (match ab_run (BdF 149).1 [19] (ab_step (BdF 149).2.1 MtF nw_O (ZZ.2.2.1 149) nw_M (BdF 149).2.2) 2000 0 (n0, e0, h, ab_ent e0 svs (ZZ.2.2.1 149), []) with
    | some ts => ts.all nw_ter
    | none => false)
theorem nw_ck : nw_chk = true := by decide +kernel
theorem nd_11 : decode (ZZ.2.1 149) 11 = .ok (.lreturn, 1) := by decide +kernel
theorem nd_37 : decode (ZZ.2.1 149) 37 = .ok (.lreturn, 1) := by decide +kernel
theorem nd_19 : decode (ZZ.2.1 149) 19 = .ok (.new 244, 3) := by decide +kernel
theorem nd_22 : decode (ZZ.2.1 149) 22 = .ok (.dup, 1) := by decide +kernel
theorem nd_23 : decode (ZZ.2.1 149) 23 = .ok (.ldc 246, 2) := by decide +kernel
theorem nd_25 : decode (ZZ.2.1 149) 25 = .ok (.invokespecial 248, 3) := by decide +kernel
theorem nd_28 : decode (ZZ.2.1 149) 28 = .ok (.athrow, 1) := by decide +kernel
theorem nw_w1 : Cond.classLink RX10 244 nw_E ∈ ab_BIG := ab_inB (i := 1177) (by decide +kernel) (by decide +kernel)
theorem nw_w2 : Cond.initialized nw_E ∈ ab_BIG := ab_inB (i := 103) (by decide +kernel) (by decide +kernel)
theorem nw_w4 : Cond.classLink R_law 13 nw_E ∈ ab_BIG := ab_inB (i := 1172) (by decide +kernel) (by decide +kernel)
theorem nw_at : ∀ w ∈ (vx_atS RX10 248 nw_E nw_names).filter goodWord, w ∈ ab_BIG := by decide +kernel
theorem nw_at2 : ∀ w ∈ (vx_atS RX10 248 nw_E nw_names).filter (fun w => !goodWord w), w ∈ nw_bad := by decide +kernel
theorem nw_ot : ∀ w ∈ Cond.classLink RX10 244 nw_E :: Cond.initialized nw_E :: vx_atS RX10 248 nw_E nw_names, vx_ot w = true := by decide +kernel
theorem nw_bads {A : Nat → Prop} {sa : Nat} {U : State} {H : Heap} {a : Array Value} (h : nw_Z A sa U H) : ∀ w ∈ nw_bad, w.before a U = true := fun w hw => by
  rcases List.mem_cons.mp hw with rfl | hw
  · exact nw_cm (Vm.Alike.refl _) h.2.2.2.1
  · obtain ⟨x, hx, rfl⟩ := List.mem_map.mp hw
    exact nw_tb (a1 := #[]) rfl (h.2.2.2.2 x hx)
section NOW
variable {l : Launch} {D : va_G} {cs : Nat → ClassId} {tS : Nat} {ws : va_W} {sz sa : Nat}
def nw_Pc (D : va_G) (cs : Nat → ClassId) (tS sz sa : Nat) (ws : va_W) (vs : List Value) : Array Value → State → Prop := va_Pc vs (fun U => U.heap.size = sz ∧ ab_Wd D vwCl cs tS (va_A ws sz) ws U ∧ nw_Z (va_A ws sz) sa U U.heap)
def nw_B (D : va_G) (cs : Nat → ClassId) (A : Nat → Prop) (ws : va_W) (t : State) : Prop := va_P D vwCl ws t.heap ∧ va_D A ws ∧ va_K D vwCl (ab_tys cs) t
abbrev nw_Qc (D : va_G) (cs : Nat → ClassId) (A : Nat → Prop) (ws : va_W) : Array Value → State → Outcome → State → Prop := va_Ql (fun _ (_ : Unit) => True) (fun _ t => nw_B D cs A ws t) A
abbrev nw_XC (D : va_G) (cs : Nat → ClassId) (A : Nat → Prop) (ws : va_W) : String → State → State → Prop := vx_X (fun (_ : Unit) => True) (fun E _ t => E = nw_E ∧ nw_B D cs A ws t) A
theorem nw_met (hlt : l.stackTraces = false) (hGl : ab_Gl l ZZ wFF D vwCl cs tS) {vs : List Value} (htl : ab_tl (ws.map (·.1)) tS nw_ta vs) (hth : ab_th tS (ab_tys cs) nw_th ws) : vx_Met l (ZZ.1 149) (ab_wM ZZ 149) (ab_rm 8 1 6) (nw_Pc D cs tS sz sa ws vs) (nw_Qc D cs (va_A ws sz) ws) (nw_XC D cs (va_A ws sz) ws) 1 6 (va_A ws sz) := by
  refine vx_ofW (cc := ZZ.2.1 149) (maxL := ZZ.2.2.1 149) (ret := ZZ.2.2.2.1 149) gok_149.1 rfl ?_
  intro p e s m args below meth c s₁ B hml hex hv
  obtain ⟨rfl, hsz, ⟨hP, hK, hD, hZ, hT⟩, hNZ⟩ := hv
  subst hsz
  rw [lg_entry_eq]
  have hA : ∀ q, s.heap.size ≤ q → va_A ws s.heap.size q := fun q h => Or.inr h
  have X : ab_X l ZZ 149 8 D vwCl cs tS p s m vs.toArray meth c (va_A ws s.heap.size) := ⟨B.exec, B.bytes, hml, findClass_of_methodNamed B.named, atoms_spec (ws := ab_wM ZZ 149) B.pre, hK, hA, hZ, hT, B.returns, B.notSynchronized, (name_of_methodNamed B.named B.method).1⟩
  have CO : ab_CO l ZZ (2 + 1) D vwCl cs tS nw_M nw_O := sg_CO hGl (by decide) (List.forall_mem_cons.mpr ⟨ab_SOK_mono (sok_71_0 hGl) (by decide), fun _ h => absurd h List.not_mem_nil⟩) (List.forall_mem_cons.mpr ⟨gok_70, List.forall_mem_cons.mpr ⟨gok_171, fun _ h => absurd h List.not_mem_nil⟩⟩)
  have key : ab_W p l e (ab_rm 8 1 6) s m vs.toArray below meth c D vwCl (va_A ws s.heap.size) (vx_MQ below (nw_Qc D cs (va_A ws s.heap.size) ws) (nw_XC D cs (va_A ws s.heap.size) ws) vs.toArray s 1 6 (va_A ws s.heap.size)) 0 0 0 ((lg_sl vs ++ List.replicate (ZZ.2.2.1 149 - (lg_sl vs).length) Slot.unset).toArray) [] ws := by
    obtain ⟨ρ1, x1, x2, x3⟩ := ab_inVs_ok (ρ := fun _ => .null) (n := 0) (e := []) (fun q hq => by cases hq) htl
    obtain ⟨ρ0, y1, y2, y3⟩ := ab_inH_ok x2 hth
    have hen : ab_en nw_S = ((ab_inVs nw_ta 0 []).1, (ab_inH nw_th (ab_inVs nw_ta 0 []).2.1 (ab_inVs nw_ta 0 []).2.2).1, (ab_inH nw_th (ab_inVs nw_ta 0 []).2.1 (ab_inVs nw_ta 0 []).2.2).2.1, (ab_inH nw_th (ab_inVs nw_ta 0 []).2.1 (ab_inVs nw_ta 0 []).2.2).2.2) := rfl
    have hv : ab_all2 (ab_val ρ0 (ab_inH nw_th (ab_inVs nw_ta 0 []).2.1 (ab_inVs nw_ta 0 []).2.2).2.1 (ws.map (·.1)) tS) (ab_inVs nw_ta 0 []).1 vs := ab_stk_ext y1 x3
    generalize (ab_inVs nw_ta 0 []).1 = svs at hen hv
    generalize (ab_inH nw_th (ab_inVs nw_ta 0 []).2.1 (ab_inVs nw_ta 0 []).2.2).1 = h0 at hen y3
    generalize (ab_inH nw_th (ab_inVs nw_ta 0 []).2.1 (ab_inVs nw_ta 0 []).2.2).2.1 = n0 at hen y3 hv y2
    generalize (ab_inH nw_th (ab_inVs nw_ta 0 []).2.1 (ab_inVs nw_ta 0 []).2.2).2.2 = e0 at hen y2
    have hc := nw_ck
    unfold nw_chk at hc
    rw [hen] at hc
    simp only at hc
    rw [Bool.and_eq_true, Bool.and_eq_true] at hc
    obtain ⟨⟨k1, k2⟩, k3⟩ := hc
    split at k3
    · rename_i ts hts
      have hrun := ab_run_ok (cc := ZZ.2.1 149) (P := fun pc st => ab_Ok p l e (ab_rm 8 1 6) s m vs.toArray below meth c D vwCl (va_A ws s.heap.size) (vx_MQ below (nw_Qc D cs (va_A ws s.heap.size) ws) (nw_XC D cs (va_A ws s.heap.size) ws) vs.toArray s 1 6 (va_A ws s.heap.size)) (fun ρ' n' w => ab_ext ρ0 ρ' n0 n' ∧ ab_gr nw_M ws w) tS (ab_tys cs) (ZZ.2.2.1 149) 0 0 pc st) gok_149.2.1 (ab_ctx_step ⟨Nat.zero_le _, Nat.zero_le _⟩ ab_IC_of X hGl.1 (by decide) hGl.2.1 hGl.2.2 gok_149.2.2.1 CO (by decide) gok_149.2.2.2) 2000 0 _ ts hts (fun w hw => ?_)
      · exact hrun ρ0 _ [] ws ⟨ab_ext.refl, ab_gr.refl⟩ ⟨y2, y3, ab_ent_ok y2 hv k1 (Nat.le_of_ble_eq_true k2), trivial⟩
      · have ht := List.all_eq_true.mp k3 w hw
        obtain ⟨pc, n, en, hp, L, sk⟩ := w
        intro ρ ls stk u hi Sa H locs hP1 hD1 hS1
        have eu : u = ws := nw_same hi.2
        subst eu
        have hB : ∀ t : State, s.vm.Alike t.vm → H.size ≤ t.heap.size → (∀ q : Nat, q < H.size → t.heap[q]? = H[q]?) → nw_B D cs (va_A u s.heap.size) u t := fun t h1 h2 h3 => ⟨hP1.kept (fun k q hk => h3 q.1 (vx_lt hP1 hk)), hD, va_K.moved h1 hK⟩
        unfold nw_ter at ht
        simp only at ht
        split at ht
        · have e1 : pc = 19 := Nat.eq_of_beq_eq_true ht
          subst e1
          have e2 : stk = [] := by
            match stk, Sa.2.2.2 with
            | [], _ => rfl
            | _ :: _, q => exact q.elim
          subst e2
          have hts2 : ∀ w ∈ ab_BIG, w.before vs.toArray s = true := fun w hw => X.2.2.2.2.1 w (List.mem_cons_of_mem _ hw)
          refine vx_throwS (own := RX10) (cls := nw_E) (text := "no such place") (names := nw_names) (sa := sa) (A := va_A u s.heap.size) X.1 X.2.1 hlt X.2.2.2.1 (by decide +kernel) (by decide +kernel) (hts2 _ nw_w1) (hts2 _ nw_w2) hNZ.2.2.1 (vx_hat (fun w hw => hts2 w (nw_at w hw)) nw_at2 (nw_bads hNZ)) nw_ot hNZ.1 hNZ.2.1 hS1 (by rw [Sa.2.2.1.1]; exact hml.symm) nd_19 nd_22 nd_23 nd_25 nd_28 (fun x hx => (hex x hx).elim) (by decide) (by decide) (by decide) (by decide) B.notSynchronized (fun t h1 h2 h3 => ⟨(), trivial, ⟨rfl, hB t h1 h2 h3⟩, ?_⟩) hS1.2.2 (by decide) (by decide)
          exact ⟨Nat.le_trans hS1.1 h2, fun q h4 h5 => by rw [h3 q (Nat.lt_of_lt_of_le h4 hS1.1)]; exact hS1.2.1 q h4 h5⟩
        · rename_i v
          rw [Bool.and_eq_true, Bool.or_eq_true] at ht
          obtain ⟨t1, t2⟩ := ht
          obtain ⟨⟨i, q⟩, hq⟩ := Option.isSome_iff_exists.mp t2
          match stk, Sa.2.2.2 with
          | [x], hst =>
            obtain ⟨-, -, -, y, rfl, -⟩ := ab_numL Sa.1 hq hst.1
            refine W.widen (k := 1) (n := 6) (by decide) (by decide) (vx_ret ?_)
            have hq2 : ∀ t : State, t.heap = H → s.WarmedH t.vm → nw_Qc D cs (va_A u s.heap.size) u vs.toArray s (.returned (some (.long y))) t := fun t h1 h2 => ⟨⟨y, (), rfl, trivial, hB t h2.alike (by rw [h1]; exact Nat.le_refl _) (fun q _ => by rw [h1])⟩, hS1.F h1⟩
            rcases t1 with t1 | t1
            · have e1 : pc = 11 := Nat.eq_of_beq_eq_true t1
              subst e1
              exact W.lret X.1 X.2.1 B.returns hq2 hS1.2.2 nd_11 B.notSynchronized
            · have e1 : pc = 37 := Nat.eq_of_beq_eq_true t1
              subst e1
              exact W.lret X.1 X.2.1 B.returns hq2 hS1.2.2 nd_37 B.notSynchronized
          | [], hst => exact hst.elim
          | _ :: _ :: _, hst => exact hst.2.elim
        · cases ht
    · cases k3
  exact key s.heap [] hP hD va_S.rf
end NOW
end
