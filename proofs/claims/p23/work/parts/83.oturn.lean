noncomputable section
def nx_ta (lo hi : Int) : List ab_TV := [some (.inr (.inl [0])), some (.inl (false, lo, hi)), some (.inl (false, .ofNat 0, .ofNat 0))]
def nx_S (lo hi : Int) : ab_Sm := (nx_ta lo hi, nw_th, [], [])
def nx_ter (w : Nat × ab_St) : Bool := Nat.beq w.1 19 && w.2.2.2.2.2.isEmpty
def nx_chk (lo hi : Int) : Bool := match ab_en (nx_S lo hi) with
  | (svs, h, n0, e0) => (svs.all (ab_kn e0) && Nat.ble (ab_lay e0 svs).length (ZZ.2.2.1 149)) && (match ab_run (BdF 149).1 [19] (ab_step (BdF 149).2.1 MtF nw_O (ZZ.2.2.1 149) nw_M (BdF 149).2.2) 2000 0 (n0, e0, h, ab_ent e0 svs (ZZ.2.2.1 149), []) with
    | some ts => ts.all nx_ter
    | none => false)
theorem nx_ckA : nx_chk (.negSucc 2147483647) (.negSucc 0) = true := by decide +kernel
theorem nx_ckB : nx_chk (.ofNat 32) (.ofNat 2147483647) = true := by decide +kernel
section NOWX
variable {l : Launch} {D : va_G} {cs : Nat → ClassId} {tS : Nat} {ws : va_W} {sz sa : Nat}
abbrev nx_Qc (D : va_G) (cs : Nat → ClassId) (A : Nat → Prop) (ws : va_W) : Array Value → State → Outcome → State → Prop := va_Ql (fun _ (_ : Unit) => False) (fun _ t => nw_B D cs A ws t) A
theorem nx_met {lo hi : Int} (hck : nx_chk lo hi = true) (hlt : l.stackTraces = false) (hGl : ab_Gl l ZZ wFF D vwCl cs tS) {vs : List Value} (htl : ab_tl (ws.map (·.1)) tS (nx_ta lo hi) vs) (hth : ab_th tS (ab_tys cs) nw_th ws) : vx_Met l (ZZ.1 149) (ab_wM ZZ 149) (ab_rm 8 1 6) (nw_Pc D cs tS sz sa ws vs) (nx_Qc D cs (va_A ws sz) ws) (nw_XC D cs (va_A ws sz) ws) 1 6 (va_A ws sz) := by
  refine vx_ofW (cc := ZZ.2.1 149) (maxL := ZZ.2.2.1 149) (ret := ZZ.2.2.2.1 149) gok_149.1 rfl ?_
  intro p e s m args below meth c s₁ B hml hex hv
  obtain ⟨rfl, hsz, ⟨hP, hK, hD, hZ, hT⟩, hNZ⟩ := hv
  subst hsz
  rw [lg_entry_eq]
  have hA : ∀ q, s.heap.size ≤ q → va_A ws s.heap.size q := fun q h => Or.inr h
  have X : ab_X l ZZ 149 8 D vwCl cs tS p s m vs.toArray meth c (va_A ws s.heap.size) := ⟨B.exec, B.bytes, hml, findClass_of_methodNamed B.named, atoms_spec (ws := ab_wM ZZ 149) B.pre, hK, hA, hZ, hT, B.returns, B.notSynchronized, (name_of_methodNamed B.named B.method).1⟩
  have CO : ab_CO l ZZ (2 + 1) D vwCl cs tS nw_M nw_O := sg_CO hGl (by decide) (List.forall_mem_cons.mpr ⟨ab_SOK_mono (sok_71_0 hGl) (by decide), fun _ h => absurd h List.not_mem_nil⟩) (List.forall_mem_cons.mpr ⟨gok_70, List.forall_mem_cons.mpr ⟨gok_171, fun _ h => absurd h List.not_mem_nil⟩⟩)
  have key : ab_W p l e (ab_rm 8 1 6) s m vs.toArray below meth c D vwCl (va_A ws s.heap.size) (vx_MQ below (nx_Qc D cs (va_A ws s.heap.size) ws) (nw_XC D cs (va_A ws s.heap.size) ws) vs.toArray s 1 6 (va_A ws s.heap.size)) 0 0 0 ((lg_sl vs ++ List.replicate (ZZ.2.2.1 149 - (lg_sl vs).length) Slot.unset).toArray) [] ws := by
    obtain ⟨ρ1, x1, x2, x3⟩ := ab_inVs_ok (ρ := fun _ => .null) (n := 0) (e := []) (fun q hq => by cases hq) htl
    obtain ⟨ρ0, y1, y2, y3⟩ := ab_inH_ok x2 hth
    have hen : ab_en (nx_S lo hi) = ((ab_inVs (nx_ta lo hi) 0 []).1, (ab_inH nw_th (ab_inVs (nx_ta lo hi) 0 []).2.1 (ab_inVs (nx_ta lo hi) 0 []).2.2).1, (ab_inH nw_th (ab_inVs (nx_ta lo hi) 0 []).2.1 (ab_inVs (nx_ta lo hi) 0 []).2.2).2.1, (ab_inH nw_th (ab_inVs (nx_ta lo hi) 0 []).2.1 (ab_inVs (nx_ta lo hi) 0 []).2.2).2.2) := rfl
    have hv : ab_all2 (ab_val ρ0 (ab_inH nw_th (ab_inVs (nx_ta lo hi) 0 []).2.1 (ab_inVs (nx_ta lo hi) 0 []).2.2).2.1 (ws.map (·.1)) tS) (ab_inVs (nx_ta lo hi) 0 []).1 vs := ab_stk_ext y1 x3
    generalize (ab_inVs (nx_ta lo hi) 0 []).1 = svs at hen hv
    generalize (ab_inH nw_th (ab_inVs (nx_ta lo hi) 0 []).2.1 (ab_inVs (nx_ta lo hi) 0 []).2.2).1 = h0 at hen y3
    generalize (ab_inH nw_th (ab_inVs (nx_ta lo hi) 0 []).2.1 (ab_inVs (nx_ta lo hi) 0 []).2.2).2.1 = n0 at hen y3 hv y2
    generalize (ab_inH nw_th (ab_inVs (nx_ta lo hi) 0 []).2.1 (ab_inVs (nx_ta lo hi) 0 []).2.2).2.2 = e0 at hen y2
    have hc := hck
    unfold nx_chk at hc
    rw [hen] at hc
    simp only at hc
    rw [Bool.and_eq_true, Bool.and_eq_true] at hc
    obtain ⟨⟨k1, k2⟩, k3⟩ := hc
    split at k3
    · rename_i ts hts
      have hrun := ab_run_ok (cc := ZZ.2.1 149) (P := fun pc st => ab_Ok p l e (ab_rm 8 1 6) s m vs.toArray below meth c D vwCl (va_A ws s.heap.size) (vx_MQ below (nx_Qc D cs (va_A ws s.heap.size) ws) (nw_XC D cs (va_A ws s.heap.size) ws) vs.toArray s 1 6 (va_A ws s.heap.size)) (fun ρ' n' w => ab_ext ρ0 ρ' n0 n' ∧ ab_gr nw_M ws w) tS (ab_tys cs) (ZZ.2.2.1 149) 0 0 pc st) gok_149.2.1 (ab_ctx_step ⟨Nat.zero_le _, Nat.zero_le _⟩ ab_IC_of X hGl.1 (by decide) hGl.2.1 hGl.2.2 gok_149.2.2.1 CO (by decide) gok_149.2.2.2) 2000 0 _ ts hts (fun w hw => ?_)
      · exact hrun ρ0 _ [] ws ⟨ab_ext.refl, ab_gr.refl⟩ ⟨y2, y3, ab_ent_ok y2 hv k1 (Nat.le_of_ble_eq_true k2), trivial⟩
      · have ht := List.all_eq_true.mp k3 w hw
        obtain ⟨pc, n, en, hp, L, sk⟩ := w
        intro ρ ls stk u hi Sa H locs hP1 hD1 hS1
        have eu : u = ws := nw_same hi.2
        subst eu
        have hB : ∀ t : State, s.vm.Alike t.vm → H.size ≤ t.heap.size → (∀ q : Nat, q < H.size → t.heap[q]? = H[q]?) → nw_B D cs (va_A u s.heap.size) u t := fun t h1 h2 h3 => ⟨hP1.kept (fun k q hk => h3 q.1 (vx_lt hP1 hk)), hD, va_K.moved h1 hK⟩
        unfold nx_ter at ht
        rw [Bool.and_eq_true] at ht
        have e1 : pc = 19 := Nat.eq_of_beq_eq_true ht.1
        subst e1
        have e0 : sk = [] := List.isEmpty_iff.mp ht.2
        subst e0
        have e2 : stk = [] := by
          match stk, Sa.2.2.2 with
          | [], _ => rfl
          | _ :: _, q => exact q.elim
        subst e2
        have hts2 : ∀ w ∈ ab_BIG, w.before vs.toArray s = true := fun w hw => X.2.2.2.2.1 w (List.mem_cons_of_mem _ hw)
        refine vx_throwS (own := RX10) (cls := nw_E) (text := "no such place") (names := nw_names) (sa := sa) (A := va_A u s.heap.size) X.1 X.2.1 hlt X.2.2.2.1 (by decide +kernel) (by decide +kernel) (hts2 _ nw_w1) (hts2 _ nw_w2) hNZ.2.2.1 (vx_hat (fun w hw => hts2 w (nw_at w hw)) nw_at2 (nw_bads hNZ)) nw_ot hNZ.1 hNZ.2.1 hS1 (by rw [Sa.2.2.1.1]; exact hml.symm) nd_19 nd_22 nd_23 nd_25 nd_28 (fun x hx => (hex x hx).elim) (by decide) (by decide) (by decide) (by decide) B.notSynchronized (fun t h1 h2 h3 => ⟨(), trivial, ⟨rfl, hB t h1 h2 h3⟩, ?_⟩) hS1.2.2 (by decide) (by decide)
        exact ⟨Nat.le_trans hS1.1 h2, fun q h4 h5 => by rw [h3 q (Nat.lt_of_lt_of_le h4 hS1.1)]; exact hS1.2.1 q h4 h5⟩
    · cases k3
  exact key s.heap [] hP hD va_S.rf
abbrev nx_Ql (D : va_G) (cs : Nat → ClassId) (A : Nat → Prop) (ws : va_W) (a3 : Nat) (C : Int32 → (Nat → Int64) → Prop) : Array Value → State → Outcome → State → Prop := va_Qi (fun r (u : va_W) => ∃ f' : Nat → Int64, C r f' ∧ u = ws.set 164 (a3, .inl (cs 1, 1, .inr (.inl f')))) (fun u t => nw_B D cs A u t) A
theorem nl_metX {lo hi : Int} (hck : nx_chk lo hi = true) (hlt : l.stackTraces = false) (hGl : ab_Gl l ZZ wFF D vwCl cs tS) {a0 a3 : Nat} {fs : List Value} {f : Nat → Int64} {xp xa : Int32} (hw0 : ws[0]? = some (a0, .inr (10, fs))) (hw1 : ws[164]? = some (a3, .inl (cs 1, 1, .inr (.inl f)))) (hxp : lo ≤ xp.toInt ∧ xp.toInt ≤ hi) (hxa : 0 ≤ xa.toInt ∧ xa.toInt ≤ 0) (hth : ab_th tS (ab_tys cs) nw_th ws) :
    Met l nl_y nl_w (ab_rm 10 1 6) (nw_Pc D cs tS sz sa ws [.ref a0, .int xp, .int xa, .ref a3]) (nx_Ql D cs (va_A ws sz) ws a3 (fun r f2 => r = 1)) 1 6 (va_A ws sz) := by
  have htl : ab_tl (ws.map (·.1)) tS (nx_ta lo hi) [.ref a0, .int xp, .int xa] := ⟨⟨0, a0, by simp, ab_ad_of hw0, rfl⟩, ⟨xp, rfl, hxp⟩, ⟨xa, rfl, hxa⟩, trivial⟩
  refine va_MetW (cc := method_3_code) (maxL := 5) (ret := some .int) (hh := [(0, 9, 12, 13)]) (by decide) rfl ?_
  intro p e s m args below meth c s₁ B hml hv
  obtain ⟨rfl, hsz, ⟨hP, hK, hD, hZ, hT⟩, hNZ⟩ := hv
  subst hsz
  rw [lg_entry_eq]
  have hx := B.exec
  have hb := B.bytes
  have hl := lv_entry [.ref a0, .int xp, .int xa, .ref a3] (n := 5) (Nat.le_of_ble_eq_true rfl)
  have hts : ∀ w ∈ nl_w, w.before [Value.ref a0, .int xp, .int xa, .ref a3].toArray s = true := atoms_spec (ws := nl_w) B.pre
  have hB : ∀ w ∈ ab_BIG, w.before [Value.ref a0, .int xp, .int xa, .ref a3].toArray s = true := fun w hw => hts w (List.mem_cons_of_mem _ hw)
  have hown : s.vm.findClass R_law = some m.cls := findClass_of_methodNamed B.named
  have hA : ∀ q, s.heap.size ≤ q → va_A ws s.heap.size q := fun q h => Or.inr h
  have hAA : ∀ q, q < s.heap.size → va_A ws s.heap.size q → va_A ws s.heap.size q := fun _ _ h => h
  have htab : c.exceptionTable.toList = [⟨0, 9, 12, 13⟩] := vx_table (x := nl_y) B (hB _ nl_w0)
  have hM := nx_met hck (sz := s.heap.size) (sa := sa) (ws := ws) hlt hGl htl hth
  refine lv_aload_n hx hb nl_d0 rfl (lv_at hl 3 rfl) ?_
  refine lv_iconst (v := 0) hx hb nl_d1 rfl ?_
  refine lv_aload_n hx hb nl_d2 rfl (lv_at hl 0 rfl) ?_
  refine lv_iload_n hx hb nl_d3 rfl (lv_at hl 1 rfl) ?_
  refine lv_iload_n hx hb nl_d4 rfl (lv_at hl 2 rfl) ?_
  refine vx_calll (A0 := va_A ws s.heap.size) (H0 := s.heap) (A1 := va_A ws s.heap.size) (AX := va_A ws s.heap.size) (rest := [.int 0, .ref a3]) (vx_runV (As := [.int xp, .int xa]) (b := a0) (C := RX10) (cc := method_3_code) (nL := 5) (own := R_law) ⟨hx, hb, hml, hown, hts⟩ hM ⟨callB_of 2 hts (nl_good nl_w4) rfl rfl rfl (hB _ nl_w5) (hB _ nl_w1) ⟨by decide +kernel, by decide +kernel, by decide +kernel⟩ ⟨by decide +kernel, by decide +kernel⟩, hB _ nl_w2, hB _ nl_w3⟩ ⟨fun a U g mk q => ⟨q.1, q.2.1, ab_Wd_blind q.2.2.1, nw_Z_blind q.2.2.2⟩, va_recv hK hP (show vwCl[10]? = some (RX10, TX10, 12) from rfl) hw0, fun U hU hW => ⟨rfl, by rw [hU], ab_Wd_now hP hD va_S.rf hA hK hZ hT hU hW rfl, nw_Z_now hNZ hD va_S.rf hA hU hW rfl⟩⟩ rfl rfl hl.1 rfl (lv_room (Nat.le_of_ble_eq_true rfl)) nl_d5 ⟨by decide +kernel, by decide +kernel⟩) va_S.rf hAA (fun _ h => h) hAA ?_ ?_
  · intro E ce q9 u t H1 locs1 ht hal _ hBX hsz hkeep hS1 hce hcv hcl
    obtain ⟨rfl, hBB⟩ := hBX
    refine ct_catch (own := R_law) (name := nw_E) (E := nw_E) (x := ⟨0, 9, 12, 13⟩) (more := []) hown htab rfl (by decide) (hB _ nw_w4) (nw_cm (Vm.Alike.refl _) hNZ.2.2.2.1) hce hcv hcl ?_
    refine lv_astore (i := 4) hx hb nl_d12 hl (by decide) rfl (fun ls1 hl1 => ?_)
    refine lv_iconst (v := 1) hx hb nl_d14 rfl ?_
    exact W.iret hx hb B.returns (fun t2 h1 h2 => ⟨⟨1, ws, rfl, ⟨f, rfl, (ab_set_self hw1).symm⟩, ⟨by rw [h1, ← ht]; exact hBB.1, hBB.2.1, va_K.moved h2.alike hK⟩⟩, hS1.F h1⟩) hS1.2.2 nl_d15 B.notSynchronized
  · intro r u t H1 locs1 ht hal hF
    exact hF.elim
theorem nl_metR {y : Int64} {Post : Option Value → va_W → Prop} (hPost : ∀ rv w2, Post rv w2 → rv = some (.long y) ∧ w2 = ws) {a0 a3 : Nat} {fs : List Value} {f : Nat → Int64} {xp xa : Int32} (hw0 : ws[0]? = some (a0, .inr (10, fs))) (hw1 : ws[164]? = some (a3, .inl (cs 1, 1, .inr (.inl f)))) (hCt : ∃ d1, d1 ≤ 8 ∧ ab_Ct l (ZZ.1 149) (ab_wM ZZ 149) (ab_rm d1 0 0) 0 0 D vwCl cs tS [.ref a0, .int xp, .int xa] ws Post) :
    Met l nl_y nl_w (ab_rm 10 1 6) (nw_Pc D cs tS sz sa ws [.ref a0, .int xp, .int xa, .ref a3]) (nx_Ql D cs (va_A ws sz) ws a3 (fun r f2 => r = 0 ∧ f2 0 = y)) 1 6 (va_A ws sz) := by
  obtain ⟨d1, hd1, Ct1⟩ := hCt
  have hfy : vp_updL f (0 : Int32).toNatClampNeg y 0 = y := by
    unfold vp_updL
    rw [if_pos (by decide +kernel)]
  refine va_MetW (cc := method_3_code) (maxL := 5) (ret := some .int) (hh := [(0, 9, 12, 13)]) (by decide) rfl ?_
  intro p e s m args below meth c s₁ B hml hv
  obtain ⟨rfl, hsz, ⟨hP, hK, hD, hZ, hT⟩, hNZ⟩ := hv
  subst hsz
  rw [lg_entry_eq]
  have hx := B.exec
  have hb := B.bytes
  have hl := lv_entry [.ref a0, .int xp, .int xa, .ref a3] (n := 5) (Nat.le_of_ble_eq_true rfl)
  have hts : ∀ w ∈ nl_w, w.before [Value.ref a0, .int xp, .int xa, .ref a3].toArray s = true := atoms_spec (ws := nl_w) B.pre
  have hB : ∀ w ∈ ab_BIG, w.before [Value.ref a0, .int xp, .int xa, .ref a3].toArray s = true := fun w hw => hts w (List.mem_cons_of_mem _ hw)
  have hown : s.vm.findClass R_law = some m.cls := findClass_of_methodNamed B.named
  have hA : ∀ q, s.heap.size ≤ q → va_A ws s.heap.size q := fun q h => Or.inr h
  refine lv_aload_n hx hb nl_d0 rfl (lv_at hl 3 rfl) ?_
  refine lv_iconst (v := 0) hx hb nl_d1 rfl ?_
  refine lv_aload_n hx hb nl_d2 rfl (lv_at hl 0 rfl) ?_
  refine lv_iload_n hx hb nl_d3 rfl (lv_at hl 1 rfl) ?_
  refine lv_iload_n hx hb nl_d4 rfl (lv_at hl 2 rfl) ?_
  have hcB : CallB (ab_rm 10 1 6) s [Value.ref a0, .int xp, .int xa, .ref a3].toArray R_law 7 (ZZ.1 149) (ZZ.2.1 149) (ZZ.2.2.1 149) (ZZ.2.2.2.1 149) (ab_wM ZZ 149) (ab_rm d1 0 0) 0 0 2 := callB_of 2 hts (nl_good nl_w4) rfl rfl rfl (hB _ nl_w5) (hB _ nl_w1) ⟨by decide +kernel, by decide +kernel, by decide +kernel⟩ ⟨by show d1 + 1 ≤ 10; omega, by show 8 + (3 + 11) + 40 * d1 ≤ 400; omega⟩
  refine ab_callV (rest := [.int 0, .ref a3]) (As := [.int xp, .int xa]) (nL := 5) (own := R_law) ⟨hx, hb, hml, hown, hts⟩ Ct1 ⟨hcB, hB _ nl_w2, hB _ nl_w3⟩ (va_recv hK hP (show vwCl[10]? = some (RX10, TX10, 12) from rfl) hw0) hP hD va_S.rf hA hK hZ hT rfl hl.1 (Nat.le_of_ble_eq_true rfl) nl_d5 ⟨by decide, by decide⟩ (fun rv w2 H1 locs1 hpo hP1 hD1 hS1 => ?_)
  obtain ⟨rfl, rfl⟩ := hPost rv w2 hpo
  refine va_last hx hb hK hP1 hD1 hS1 164 1 (cA := cs 1) (n := 1) hw1 rfl (ab_vpin (by decide) (by decide)) nl_d8 (fun H2 locs2 hP2 hD2 hS2 => ?_)
  refine lv_goto (tgt := 16) hx hb nl_d9 (by decide) ?_
  refine lv_iconst (v := 0) hx hb nl_d16 rfl ?_
  refine W.widen (k := 1) (n := 6) (by decide) (by decide) ?_
  exact W.iret hx hb B.returns (fun t2 h1 h2 => ⟨⟨0, _, rfl, ⟨_, ⟨rfl, hfy⟩, rfl⟩, ⟨by rw [h1]; exact hP2, hD2, va_K.moved h2.alike hK⟩⟩, hS2.F h1⟩) hS2.2.2 nl_d17 B.notSynchronized
end NOWX
section LCX
variable {p : Program} {l : Launch} {e : Env} {s : State} {m : MethodId} {below : List Frame} {meth : Method} {c : Code} {D : va_G} {A : Nat → Prop} {Q : State → Prop} {cs : Nat → ClassId} {tS b L sa cells slots : Nat} {xs : Nat → Int32} {ws : va_W}
theorem nx_call {C : Int32 → (Nat → Int64) → Prop} (F : lw_F p s m meth c A D cs tS b L xs) (hNZ : nw_Z A sa s s.heap) (hcs : cells + 1 ≤ 601024 ∧ slots + 6 ≤ 7293033) {a0 a3 : Nat} {fs : List Value} {f : Nat → Int64} {xp xa : Int32} (hw0 : ws[0]? = some (a0, .inr (10, fs))) (hw1 : ws[164]? = some (a3, .inl (cs 1, 1, .inr (.inl f)))) (hMet : ∀ sz, Met l nl_y nl_w (ab_rm 10 1 6) (nw_Pc D cs tS sz sa ws [.ref a0, .int xp, .int xa, .ref a3]) (nx_Ql D cs (va_A ws sz) ws a3 C) 1 6 (va_A ws sz)) {ls : Array Slot} (hsize : ls.size = 8)
    (K : ∀ (r : Int32) (f' : Nat → Int64), C r f' → ab_W p l e room_1 s m #[Value.ref b] below meth c D vwCl A Q (cells + 1) (slots + 6) 1134 ls [.int r] (ws.set 164 (a3, .inl (cs 1, 1, .inr (.inl f'))))) :
    ab_W p l e room_1 s m #[Value.ref b] below meth c D vwCl A Q cells slots 1131 ls [.ref a3, .int xa, .int xp, .ref a0] ws := by
  intro H locs hP hD hS
  obtain ⟨hx, hb, hml, hown, hts, hK, hA, hZ, hT, hX, hbl, hbA⟩ := F
  have hB : ∀ w ∈ ab_BIG, w.before #[Value.ref b] s = true := fun w hw => hts w (ab_BIG_in w hw)
  have hAA : ∀ q, va_A ws H.size q → A q := by
    intro q hq
    rcases hq with ⟨k, e, h⟩ | h
    · exact hD.2 k (q, e) h
    · exact hA q (by have := hS.1; omega)
  have cw : vx_CSW room_1 s #[Value.ref b] R_law 109 nl_y method_3_code 5 (some .int) [(0, 9, 12, 13)] nl_w (ab_rm 10 1 6) 1 6 4 := by
    refine ⟨⟨rfl, rfl, by decide +kernel, by decide +kernel, pay_in hts (lw_good nl_w0), List.mem_cons_self⟩, hB _ nl_w0, hB _ nl_w8, ⟨by decide +kernel, by decide +kernel⟩, fun sig h => ?_, hB _ nl_w6, hB _ nl_w7⟩
    have h2 : (parseMethodDescriptor nl_y.desc).map (fun d => d.parameters.length) = some 4 := by decide +kernel
    rw [h] at h2
    exact (Option.some.inj h2).symm
  refine ab_callG (A1 := va_A ws H.size) (rest := []) (vx_runSW (As := [.ref a0, .int xp, .int xa, .ref a3]) (cc := code) (nL := 8) (own := R_law) ⟨hx, hb, hml, hown, hts⟩ (hMet H.size) cw ⟨fun a U g mk q => ⟨q.1, q.2.1, ab_Wd_blind q.2.2.1, nw_Z_blind q.2.2.2⟩, fun U hU hW => ⟨rfl, by rw [hU], ab_Wd_now hP hD hS hA hK hZ hT hU hW rfl, nw_Z_now hNZ hD hS hA hU hW rfl⟩⟩ rfl rfl hsize rfl (lv_room (Nat.le_of_ble_eq_true rfl)) nl_d1131 hcs) hS (fun q _ h => hAA q h) hAA (fun _ _ _ q => q.2) (fun v st₀ t H1 locs1 h0 ht hal hq hS1 => ?_)
  obtain ⟨⟨r, u, hv, ⟨f', hC, hu⟩, hBB⟩, -⟩ := hq
  cases hv
  subst hu
  exact K r f' hC H1 locs1 (by rw [← ht]; exact hBB.1) (hBB.2.1.weaken (fun _ q _ h => hAA q.1 h)) hS1
end LCX
/-- what is known exactly is known once -/
theorem cx_all_fn {ad : List Nat} {tS : Nat} : ∀ {vs : List cx_V} {xs ys : List Value}, cx_all (cx_val ad tS) vs xs → cx_all (cx_val ad tS) vs ys → xs = ys
  | [], [], [], _, _ => rfl
  | v :: vs, x :: xs, y :: ys, h, g => by rw [cx_val_fn h.1 g.1, cx_all_fn h.2 g.2]
  | [], _ :: _, _, h, _ => h.elim
  | [], [], _ :: _, _, g => g.elim
  | _ :: _, [], _, h, _ => h.elim
  | _ :: _, _ :: _, [], _, g => g.elim
def cx_flat (c : cx_C) : Bool := match c with
  | .inr (.inr (.inr _)) => false
  | _ => true
theorem cx_cell_fn {ad : List Nat} {tS : Nat} {cs : Nat → ClassId} {c : cx_C} {e e2 : va_E} (hc : cx_flat c = true) (h : cx_cell ad tS cs c e) (g : cx_cell ad tS cs c e2) : e = e2 := by
  match c, hc, h, g with
  | .inl q, _, ⟨fs, h1, h2⟩, ⟨gs, g1, g2⟩ => rw [h1, g1, cx_all_fn h2 g2]
  | .inr (.inl q), _, ⟨_, h1⟩, ⟨_, g1⟩ => rw [h1, g1]
  | .inr (.inr (.inl q)), _, h, g =>
    have h : e = .inl (cs 1, q.1, .inr (.inl q.2)) := h
    have g : e2 = .inl (cs 1, q.1, .inr (.inl q.2)) := g
    rw [h, g]
theorem cx_ws_at {tS k : Nat} {cs : Nat → ClassId} {h h' : cx_H} {ks : List Nat} {ws ws' : va_W} {c : cx_C} (hf : cx_fr ks ws ws') (H : cx_heap tS cs h ws) (H' : cx_heap tS cs h' ws') (h1 : cx_hg h k = some c) (h2 : cx_hg h' k = some c) (hc : cx_flat c = true) : ws'[k]? = ws[k]? := by
  obtain ⟨a, e, g1, g2⟩ := H k c h1
  obtain ⟨a2, e2, g3, g4⟩ := H' k c h2
  have ha : (ws'.map (·.1))[k]? = (ws.map (·.1))[k]? := by rw [hf.1]
  rw [List.getElem?_map, List.getElem?_map, g1, g3] at ha
  have ha : a2 = a := Option.some.inj ha
  rw [hf.1] at g4
  rw [g1, g3, ha, cx_cell_fn hc g4 g2]
theorem cx_ws_eq {tS : Nat} {cs : Nat → ClassId} {h : cx_H} {ks : List Nat} {ws ws' : va_W} (hk : h.map (·.1) = ks) (hf : cx_fr ks ws ws') (H : cx_heap tS cs h ws) (H' : cx_heap tS cs h ws') (hc : h.all (fun q => cx_flat q.2) = true) : ws' = ws := by
  apply List.ext_getElem?
  intro k
  by_cases hm : k ∈ ks
  · subst hk
    cases hg : cx_hg h k with
    | none => exact absurd hm (cx_hg_none hg)
    | some c => exact cx_ws_at hf H H' hg hg (List.all_eq_true.mp hc _ (cx_hg_mem hg))
  · exact hf.2 k hm
/-- a turn that needs what a throw needs -/
def lw_TPn (pc0 : Nat) (th : ab_TH) : Prop := ∀ (p : Program) (l : Launch) (e : Env) (s : State) (m : MethodId) (below : List Frame) (meth : Method) (c : Code) (D : va_G) (A : Nat → Prop) (Q : State → Prop) (cs : Nat → ClassId) (tS b L i0 cells slots sa : Nat) (xs : Nat → Int32) (iv : Int32) (ws : va_W) (ls : Array Slot), lw_F p s m meth c A D cs tS b L xs → l.stackTraces = false → nw_Z A sa s s.heap → (cells + 1 ≤ 601024 ∧ slots + 6 ≤ 7293033) → iv.toInt = (i0 : Int) → i0 + 6 ≤ L → L ≤ 3072 → lw_Lc b iv ws ls → ab_th tS (ab_tys cs) th ws → rx_EQ ws → ws.length = 165 →
  (∀ (ls' : Array Slot) (ws' : va_W), lw_Lc b iv ws' ls' → (∃ th ∈ lw_THs, ab_th tS (ab_tys cs) th ws') → rx_EQ ws' → ws'.length = 165 → ab_W p l e room_1 s m #[Value.ref b] below meth c D vwCl A Q (cells + 1) (slots + 6) 1837 ls' [] ws') → ab_W p l e room_1 s m #[Value.ref b] below meth c D vwCl A Q cells slots pc0 ls [] ws
theorem nz_fullL (x : Int64) : (Int.negSucc 9223372036854775807) ≤ x.toInt ∧ x.toInt ≤ (Int.ofNat 9223372036854775807) := by
  have h1 := Int64.le_toInt x
  have h2 := Int64.toInt_lt x
  rw [show Int.negSucc 9223372036854775807 = -9223372036854775808 from rfl, show Int.ofNat 9223372036854775807 = 9223372036854775807 from rfl]
  omega
def nz_need : ab_TH := [(0, ci_0), (77, ci_77), (79, ci_79), (164, ci_164)]
def nz_full (c : ab_TC) : Bool := match c with
  | (t, N, .inl [q]) => (Nat.beq t 1 && Nat.beq N 1) && (ab_le q.1 (.negSucc 9223372036854775807) && ab_le (.ofNat 9223372036854775807) q.2)
  | _ => false
def nz_b (th : ab_TH) : Bool := ab_leH (ab_inH th 0 []).2.2 (ab_inH th 0 []).1 nz_need && th.all (fun q => !(Nat.beq q.1 164) || nz_full q.2)
theorem nz_cells : lw_THs.all nz_b = true := by decide +kernel
theorem nz_full_ok {ad : List Nat} {tS : Nat} {cs : Nat → ClassId} {c : ab_TC} {f : Nat → Int64} (h : nz_full c = true) : ab_tc ad tS (ab_tys cs) c (.inl (cs 1, 1, .inr (.inl f))) := by
  unfold nz_full at h
  split at h
  · rename_i t N q
    rw [Bool.and_eq_true, Bool.and_eq_true, Bool.and_eq_true, ab_le_iff, ab_le_iff] at h
    obtain ⟨⟨h1, h2⟩, h3, h4⟩ := h
    have e1 : t = 1 := Nat.eq_of_beq_eq_true h1
    have e2 : N = 1 := Nat.eq_of_beq_eq_true h2
    subst e1; subst e2
    exact ⟨rfl, rfl, rfl, Or.inl ⟨_, rfl, fun i _ => ⟨q, List.mem_singleton.mpr rfl, Int.le_trans h3 (nz_fullL (f i)).1, Int.le_trans (nz_fullL (f i)).2 h4⟩⟩⟩
  · cases h
theorem tk21a : (List.range 11).all (fun a => tr_3 (lw_THn a) [(0, ci_0), (77, ci_77), (79, ci_79), (119, sq_119 a), (144, sq_144 a)]) = true := by decide +kernel
theorem tk21m : (List.range 11).all (fun a => (lw_THn a).all (tr_1 (cx_M [119] [8616]) (lw_THn a) [(119, sq_119 a)])) = true := by decide +kernel
theorem tk21e : rl_fr (cx_M [119] [8616]) RP = true := by decide +kernel
theorem tk21x : XS.all (fun k => !cx_M [119] [8616] k) = true := by decide +kernel
/-- what the law knows behind its own now: whether it threw, and what it holds if not -/
def nwC (x1 x2 : Int32) (f : Nat → Int64) (r : Int32) (g : Nat → Int64) : Prop := (r = 0 ∧ ¬ x2.toInt = 0 ∧ g 0 = sumL f 32) ∨ (r = 0 ∧ x2.toInt = 0 ∧ (0 ≤ x1.toInt ∧ x1.toInt < 32) ∧ g 0 = f x1.toNatClampNeg) ∨ (r = 1 ∧ x2.toInt = 0 ∧ ¬ (0 ≤ x1.toInt ∧ x1.toInt < 32))
theorem tz_21 : ∀ th ∈ lw_THs, lw_TPn 1109 th := by
  intro th hmem p l e s m below meth c D A Q cs tS b L i0 cells slots sa xs iv ws ls F0 hlt hNZ hcs hiv hL hL2 hl hth hEQ hlen K
  obtain ⟨a, ha11, hthE⟩ := sq_of hmem
  have hcl := List.all_eq_true.mp nz_cells th hmem
  unfold nz_b at hcl
  rw [Bool.and_eq_true] at hcl
  obtain ⟨hle, call⟩ := hcl
  obtain ⟨ρ9, -, e9, p9⟩ := ab_inH_ok (ρ := fun _ => .null) (n := 0) (e := []) (fun q hq => by cases hq) hth
  have hneed : ab_th tS (ab_tys cs) nz_need ws := ab_leH_ok e9 hle p9
  have hnth : ab_th tS (ab_tys cs) nw_th ws := fun q hq => by
    simp only [nw_th, List.mem_cons, List.not_mem_nil, or_false] at hq
    rcases hq with rfl | rfl | rfl
    · exact hneed _ (List.mem_of_getElem? (i := 0) rfl)
    · exact hneed _ (List.mem_of_getElem? (i := 1) rfl)
    · exact hneed _ (List.mem_of_getElem? (i := 2) rfl)
  obtain ⟨a3, e3, hw3, ht3⟩ := hneed (164, ci_164) (List.mem_of_getElem? (i := 3) rfl)
  obtain ⟨f3, rfl, -⟩ := sg_tcL ht3
  subst hthE
  have h3 := tr_3_ok (List.all_eq_true.mp tk21a a (List.mem_range.mpr ha11)) hth
  obtain ⟨a0, e0, w0, t0⟩ := h3 _ (List.mem_of_getElem? (i := 0) rfl)
  obtain ⟨a77, e77, w77, t77⟩ := h3 _ (List.mem_of_getElem? (i := 1) rfl)
  obtain ⟨a79, e79, w79, t79⟩ := h3 _ (List.mem_of_getElem? (i := 2) rfl)
  obtain ⟨a119, e119, w119, t119⟩ := h3 _ (List.mem_of_getElem? (i := 3) rfl)
  obtain ⟨a144, e144, w144, t144⟩ := h3 _ (List.mem_of_getElem? (i := 4) rfl)
  obtain ⟨m0, c0, b0⟩ := cx_of_obj (ci := 10) (N := 12) (tvs := ots_0) t0
  obtain ⟨m77, c77, b77⟩ := cx_of_obj (ci := 6) (N := 12) (tvs := ots_77) t77
  obtain ⟨f, c79, u79⟩ := cx_of_long (N := 32) t79
  obtain ⟨m119, c119, b119⟩ := cx_of_obj (ci := 11) (N := 68) (tvs := ots_119c a) t119
  have hbd119 := obd_119c_of b119
  obtain ⟨fm, c144, u144⟩ := cx_of_long (N := 32) t144
  have hX : cx_heap tS cs [(0, .inl (10, [.inr (.inl 1), .inr (.inl 2), .inr (.inl 15), .inr (.inl 21), .inr (.inl 43), .inr (.inl 68), .inr (.inl 77), .inr (.inl 87), .inr (.inl 101), .inr (.inl 107), .inr (.inl 113), .inl (.int (cx_toI (m0 11)))])), (77, .inl (6, [.inr (.inl 78), .inr (.inl 79), .inr (.inl 80), .inr (.inl 81), .inr (.inl 85), .inr (.inl 86), .inl (.long (cx_toL (m77 6))), .inl (.int (cx_toI (m77 7))), .inl (.int (cx_toI (m77 8))), .inl (.int (cx_toI (m77 9))), .inl (.int (cx_toI (m77 10))), .inl (.int (cx_toI (m77 11)))])), (79, .inr (.inr (.inl (32, f))))] ws := cx_heap_of (List.forall_mem_cons.mpr ⟨⟨a0, e0, w0, c0⟩, (List.forall_mem_cons.mpr ⟨⟨a77, e77, w77, c77⟩, (List.forall_mem_cons.mpr ⟨⟨a79, e79, w79, c79⟩, (fun _ h => absurd h List.not_mem_nil)⟩)⟩)⟩)
  have hM : cx_heap tS cs [(119, .inl (11, vs_119 (fun i => cx_toI (m119 i)) (fun i => cx_toL (m119 i)))), (144, .inr (.inr (.inl (32, fm))))] ws := cx_heap_of (List.forall_mem_cons.mpr ⟨⟨a119, e119, w119, c119⟩, (List.forall_mem_cons.mpr ⟨⟨a144, e144, w144, c144⟩, (fun _ h => absurd h List.not_mem_nil)⟩)⟩)
  have hEf : ∀ i : Nat, i < 32 → f i = fm i := by
    obtain ⟨v, q2, q1⟩ := hEQ.1.1 ([144], 79) (List.mem_of_getElem? (i := 1) rfl)
    have q1 : rl_row ws 79 = some v := q1
    have q2 : rl_rows ws [144] = some v := q2
    rw [cx_rowvL w79 c79] at q1
    rw [cx_row1 (cx_rowvL w144 c144)] at q2
    exact cx_rowEL (Option.some.inj (q1.trans q2.symm))
  have ha0 : (ws.map (·.1))[0]? = some a0 := by rw [List.getElem?_map, w0]; rfl
  have ha119 : (ws.map (·.1))[119]? = some a119 := by rw [List.getElem?_map, w119]; rfl
  have ha164 : (ws.map (·.1))[164]? = some a3 := by rw [List.getElem?_map, hw3]; rfl
  obtain ⟨fs0, e0q, -⟩ := id c0
  subst e0q
  have k0 : (Int32.ofInt 0).toInt = 0 := by decide +kernel
  have k1 : (Int32.ofInt 1).toInt = 1 := by decide +kernel
  have hcs0 : cells ≤ 601024 ∧ slots ≤ 7293033 := ⟨by omega, by omega⟩
  have K2 : ∀ (r : Int32) (f' : Nat → Int64) (wq : va_W) (ls1 : Array Slot) (b1 b2 b3 : Nat), nwC (xs (i0 + 1)) (xs (i0 + 2)) f r f' → lw_Lc b iv wq ls1 → lv_has ls1 8 [(5, .int r), (0, .ref b), (1, .ref b1), (2, .ref b2), (3, .ref b3), (4, .int iv)] → cx_fr [164] ws wq → wq[164]? = some (a3, .inl (cs 1, 1, .inr (.inl f'))) → ab_th tS (ab_tys cs) (lw_THn a) wq → rx_EQ wq → wq.length = 165 → (ws.map (·.1))[0]? = some b1 → (ws.map (·.1))[119]? = some b2 → (ws.map (·.1))[164]? = some b3 → ab_W p l e room_1 s m #[Value.ref b] below meth c D vwCl A Q (cells + 1) (slots + 6) 1136 ls1 [] wq := by
    intro r f' wq ls1 b1 b2 b3 hC hlc hl1 hf164 w164q hthq hEQq hlenq l4 l6 l8
    have hMq := cx_heap_far hM hf164 rfl
    have ha119q : (wq.map (·.1))[119]? = some a119 := by rw [hf164.1]; exact ha119
    obtain ⟨a119c, e119c, w119c, c119c⟩ := hMq 119 _ rfl
    obtain ⟨fs119c, e119d, -⟩ := id c119c
    subst e119d
    have eadd : a119c = a119 := ab_ad_get ha119q w119c
    rw [eadd] at w119c
    have KC : ∀ al : Int32, ((al.toInt = 0 ∧ (xs (i0 + 2)).toInt = 0) ∨ (¬ al.toInt = 0 ∧ ¬ (xs (i0 + 2)).toInt = 0)) → ab_W p l e room_1 s m #[Value.ref b] below meth c D vwCl A Q (cells + 1) (slots + 6) 1157 ls1 [.int al, .int (xs (i0 + 1)), .ref a119] wq := by
      intro al hal
      obtain ⟨d2, hd2, Ct2⟩ := ct_mnow (mi := fun i => cx_toI (m119 i)) (ml := fun i => cx_toL (m119 i)) (f := fm) (p := xs (i0 + 1)) (al := al) l D cs tS wq [.ref a119, .int (xs (i0 + 1)), .int al] hMq ⟨⟨a119, ha119q, rfl⟩, rfl, rfl, trivial⟩
      refine lx_call F0 hcs hlc (pc' := 1160) (q := 232) (n := 2) (ci := 11) (As := [.int (xs (i0 + 1)), .int al]) (stk := []) (ab_tbo lto_21 _ _ _ (List.mem_of_getElem? (i := 33) rfl)) rfl rfl rfl w119c (by decide) ⟨d2, by omega, Ct2⟩ rfl (fun rv2 ws2 hp2 => ?_)
      obtain ⟨v2, h2, ⟨y, z, rfl, rfl, hnw⟩, hk2, hf2, hH2, hrv2⟩ := hp2
      obtain rfl : rv2 = some (.long y) := by
        cases rv2 with
        | none => exact hrv2.elim
        | some y9 => exact congrArg some hrv2
      show ab_W p l e room_1 s m #[Value.ref b] below meth c D vwCl A Q (cells + 1) (slots + 6) 1160 ls1 [.long y] ws2
      have hrz : (r = 0 ∧ z = Int32.ofInt 0 ∧ f' 0 = y) ∨ (r = 1 ∧ z = Int32.ofInt 1) := by
        unfold nwC at hC
        unfold nwA at hnw
        rcases hC with ⟨p1, p2, p3⟩ | ⟨p1, p2, p3, p4⟩ | ⟨p1, p2, p3⟩ <;> rcases hnw with ⟨q1, q2, q3⟩ | ⟨q1, q2, q3, q4⟩ | ⟨q1, q2, q3⟩
        · exact Or.inl ⟨p1, q2, by rw [p3, q3]; exact sumL_E 32 hEf⟩
        · exfalso; omega
        · exfalso; omega
        · exfalso; omega
        · have hI := ab_clamp (x := xs (i0 + 1)) p3.1
          exact Or.inl ⟨p1, q3, by rw [p4, q4]; exact hEf _ (by omega)⟩
        · exact absurd p3 q2
        · exfalso; omega
        · exact absurd q2 p3
        · exact Or.inr ⟨p1, q3⟩
      have e144 : ws2[144]? = wq[144]? := cx_ws_at hf2 hMq hH2 rfl rfl rfl
      have hf9 : cx_fr [119] wq ws2 := ⟨hf2.1, fun k hk => by
        by_cases q : k = 144
        · rw [q]; exact e144
        · exact hf2.2 k (fun zz => by
            have zz : k ∈ [119, 144] := zz
            rcases List.mem_cons.mp zz with z1 | z1
            · exact hk (by rw [z1]; exact List.mem_cons_self)
            · rcases List.mem_cons.mp z1 with z2 | z2
              · exact q z2
              · cases z2)⟩
      have hM9 : cx_heap tS cs [(119, .inl (11, vs_119 (fun i => cx_toI (m119 i)) (fun i => cx_toL (m119 i))))] wq := cx_heap_sub hMq ⟨rfl, trivial⟩
      have hH9 : cx_heap tS cs [(119, .inl (11, vs_119 (upi (fun i => cx_toI (m119 i)) 0 z) (fun i => cx_toL (m119 i))))] ws2 := cx_heap_sub hH2 ⟨rfl, trivial⟩
      have hkd : cx_knd [8616] [(119, .inl (11, vs_119 (fun i => cx_toI (m119 i)) (fun i => cx_toL (m119 i))))] [(119, .inl (11, vs_119 (upi (fun i => cx_toI (m119 i)) 0 z) (fun i => cx_toL (m119 i))))] := ⟨⟨rfl, rfl, Or.inl rfl, Or.inr rfl, Or.inr rfl, Or.inr rfl, Or.inr rfl, Or.inr rfl, Or.inr rfl, Or.inr rfl, Or.inr rfl, Or.inr rfl, Or.inr rfl, Or.inr rfl, Or.inr rfl, Or.inr rfl, Or.inr rfl, Or.inr rfl, Or.inr rfl, Or.inr rfl, Or.inr rfl, Or.inr rfl, Or.inr rfl, Or.inr rfl, Or.inr rfl, Or.inr rfl, Or.inr rfl, Or.inr rfl, Or.inr rfl, Or.inr rfl, Or.inr rfl, Or.inr rfl, Or.inr rfl, Or.inr rfl, Or.inr rfl, Or.inr rfl, Or.inr rfl, Or.inr rfl, Or.inr rfl, Or.inr rfl, Or.inr rfl, Or.inr rfl, Or.inr rfl, Or.inr rfl, Or.inr rfl, Or.inr rfl, Or.inr rfl, Or.inr rfl, Or.inr rfl, Or.inr rfl, Or.inr rfl, Or.inr rfl, Or.inr rfl, Or.inr rfl, Or.inr rfl, Or.inr rfl, Or.inr rfl, Or.inr rfl, Or.inr rfl, Or.inr rfl, Or.inr rfl, Or.inr rfl, Or.inr rfl, Or.inr rfl, Or.inr rfl, Or.inr rfl, Or.inr rfl, Or.inr rfl, Or.inr rfl, Or.inr rfl, trivial⟩, trivial⟩
      have hgr : ab_gr (cx_M [119] [8616]) wq ws2 := cx_gr hM9 hH9 hkd hf9
      have hth2 : ab_th tS (ab_tys cs) (lw_THn a) ws2 := lx_done2 (fl := [8616]) hthq hM9 hH9 hkd hf9 (po := [(119, sq_119 a)]) (List.forall_mem_cons.mpr ⟨lx_po hH9 rfl (fun e2 q => cx_to_obj (N := 68) q rfl (otl_119c (a := a) (mi := upi (fun i => cx_toI (m119 i)) 0 z) (ml := fun i => cx_toL (m119 i)) hbd119)), (fun _ h => absurd h List.not_mem_nil)⟩) (List.all_eq_true.mp tk21m a (List.mem_range.mpr ha11))
      have hEQ2 : rx_EQ ws2 := ⟨rl_fr_ok tk21e hgr hEQq.1, XQ_fr tk21x hgr hEQq.2⟩
      have hlen2 : ws2.length = 165 := by have := congrArg List.length hf2.1; simpa [hlenq] using this
      have w164r : ws2[164]? = some (a3, .inl (cs 1, 1, .inr (.inl f'))) := (hf9.2 164 (by decide)).trans w164q
      intro H2 locs2 hP2 hD2 hS2
      refine lv_lstore (i := 6) F0.1 F0.2.1 (ab_tbo lto_21 _ _ _ (List.mem_of_getElem? (i := 34) rfl)) hl1 (by decide) rfl (fun ls2 hl2 => ?_)
      have hlc2 : lw_Lc b iv ws2 ls2 := by
        obtain ⟨g1, g2, g3, ⟨c1, g4, g5⟩, ⟨c2, g6, g7⟩, ⟨c3, g8, g9⟩, g10⟩ := hlc
        refine ⟨hl2.1, hl2.2.1, lv_at hl2 2 rfl, ⟨b1, by rw [hf2.1, hf164.1]; exact l4, lv_at hl2 3 rfl⟩, ⟨b2, by rw [hf2.1, hf164.1]; exact l6, lv_at hl2 4 rfl⟩, ⟨b3, by rw [hf2.1, hf164.1]; exact l8, lv_at hl2 5 rfl⟩, lv_at hl2 6 rfl⟩
      have KE : ab_W p l e room_1 s m #[Value.ref b] below meth c D vwCl A Q (cells + 1) (slots + 6) 1837 ls2 [] ws2 := K ls2 ws2 hlc2 ⟨lw_THn a, sq_in ha11, hth2⟩ hEQ2 hlen2
      have ha119r : (ws2.map (·.1))[119]? = some a119 := by rw [hf2.1]; exact ha119q
      have KD : ab_W p l e room_1 s m #[Value.ref b] below meth c D vwCl A Q (cells + 1) (slots + 6) 1162 ls2 [] ws2 := by
        refine lx_m F0 hlc2 (pc' := 1163) (ab_tbo lto_21 _ _ _ (List.mem_of_getElem? (i := 35) rfl)) rfl ha119r ?_
        obtain ⟨a119r, e119r, w119r, c119r⟩ := hH9 119 _ rfl
        obtain ⟨fs119r, e119s, -⟩ := id c119r
        subst e119s
        have eadr : a119r = a119 := ab_ad_get ha119r w119r
        rw [eadr] at w119r
        obtain ⟨d4, hd4, Ct3⟩ := ct_mth (mi := upi (fun i => cx_toI (m119 i)) 0 z) (ml := fun i => cx_toL (m119 i)) l D cs tS ws2 [.ref a119] hH9 ⟨⟨a119, ha119r, rfl⟩, trivial⟩
        refine lx_call F0 hcs hlc2 (pc' := 1166) (q := 260) (n := 0) (ci := 11) (As := []) (stk := []) (ab_tbo lto_21 _ _ _ (List.mem_of_getElem? (i := 36) rfl)) rfl rfl rfl w119r (by decide) ⟨d4, by omega, Ct3⟩ rfl (fun rv3 ws3 hp3 => ?_)
        obtain ⟨v3, h4, ⟨rfl, rfl⟩, hk4, hf4, hH4, hrv3⟩ := hp3
        obtain rfl : rv3 = some (.int z) := by
          cases rv3 with
          | none => exact hrv3.elim
          | some y9 => exact congrArg some hrv3
        have e3 : ws3 = ws2 := cx_ws_eq rfl hf4 hH9 hH4 rfl
        subst e3
        show ab_W p l e room_1 s m #[Value.ref b] below meth c D vwCl A Q (cells + 1) (slots + 6) 1166 ls2 [.int z] ws3
        intro H3 locs3 hP3 hD3 hS3
        have hr5 : ls2[5]? = some (Slot.val (.int r)) := lv_at hl2 1 rfl
        refine lv_iload (i := 5) F0.1 F0.2.1 (ab_tbo lto_21 _ _ _ (List.mem_of_getElem? (i := 37) rfl)) hr5 ?_
        refine lv_icmp_eq (tgt := 1173) F0.1 F0.2.1 (ab_tbo lto_21 _ _ _ (List.mem_of_getElem? (i := 38) rfl)) (by decide) (fun _ => ?_) (fun hn => ?_)
        · refine lv_iload (i := 5) F0.1 F0.2.1 (ab_tbo lto_21 _ _ _ (List.mem_of_getElem? (i := 41) rfl)) hr5 ?_
          refine lv_if_ne (tgt := 1189) F0.1 F0.2.1 (ab_tbo lto_21 _ _ _ (List.mem_of_getElem? (i := 42) rfl)) (by decide) (fun hr => ?_) (fun hr => ?_)
          · refine lv_goto (tgt := 1837) F0.1 F0.2.1 (ab_tbo lto_21 _ _ _ (List.mem_of_getElem? (i := 51) rfl)) (by decide) ?_
            exact KE H3 locs3 hP3 hD3 hS3
          · have hy : f' 0 = y := by
              rcases hrz with ⟨-, -, q⟩ | ⟨q, -⟩
              · exact q
              · rw [q] at hr; exact absurd hr (by decide)
            refine lv_aload_n F0.1 F0.2.1 (ab_tbo lto_21 _ _ _ (List.mem_of_getElem? (i := 43) rfl)) rfl (lv_at hl2 5 rfl) ?_
            have eb3 : a3 = b3 := by
              rw [ha164] at l8
              exact Option.some.inj l8
            subst eb3
            refine lv_iconst (v := 0) F0.1 F0.2.1 (ab_tbo lto_21 _ _ _ (List.mem_of_getElem? (i := 44) rfl)) rfl ?_
            refine va_lald F0.1 F0.2.1 F0.2.2.2.2.2.1 hP3 164 1 (cA := cs 1) (n := 1) w164r rfl (ab_vpin (by decide) (by decide)) (ab_tbo lto_21 _ _ _ (List.mem_of_getElem? (i := 45) rfl)) ?_
            refine lv_lload (i := 6) F0.1 F0.2.1 (ab_tbo lto_21 _ _ _ (List.mem_of_getElem? (i := 46) rfl)) (lv_at hl2 0 rfl) ?_
            refine W.lcmp F0.1 F0.2.1 (ab_tbo lto_21 _ _ _ (List.mem_of_getElem? (i := 47) rfl)) ?_
            have hz0 : (0 : Int32).toNatClampNeg = 0 := by decide +kernel
            rw [hz0, hy]
            have hcc : lg_cmp y y = 0 := by
              rcases cx_cmp y y with ⟨-, q⟩ | ⟨q, -⟩ | ⟨-, q⟩
              · exact absurd q (Int.lt_irrefl _)
              · exact Int32.toInt_inj.mp (q.trans (by decide))
              · exact absurd q (Int.lt_irrefl _)
            rw [hcc]
            refine lv_if_eq (tgt := 1189) F0.1 F0.2.1 (ab_tbo lto_21 _ _ _ (List.mem_of_getElem? (i := 48) rfl)) (by decide) (fun _ => ?_) (fun hn => absurd rfl hn)
            refine lv_goto (tgt := 1837) F0.1 F0.2.1 (ab_tbo lto_21 _ _ _ (List.mem_of_getElem? (i := 51) rfl)) (by decide) ?_
            exact KE H3 locs3 hP3 hD3 hS3
        · exfalso
          rcases hrz with ⟨q1, q2, -⟩ | ⟨q1, q2⟩
          · rw [q1, q2] at hn; exact hn (by decide)
          · rw [q1, q2] at hn; exact hn (by decide)
      exact KD H2 locs2 hP2 hD2 hS2
    refine lx_m F0 hlc (pc' := 1137) (ab_tbo lto_21 _ _ _ (List.mem_of_getElem? (i := 18) rfl)) rfl ha119q ?_
    refine lx_arg F0 hiv hL hL2 hlc (z := 1) (pc' := 1143) rfl (ab_tbo lto_21 _ _ _ (List.mem_of_getElem? (i := 19) rfl)) (ab_tbo lto_21 _ _ _ (List.mem_of_getElem? (i := 20) rfl)) (ab_tbo lto_21 _ _ _ (List.mem_of_getElem? (i := 21) rfl)) (ab_tbo lto_21 _ _ _ (List.mem_of_getElem? (i := 22) rfl)) (ab_tbo lto_21 _ _ _ (List.mem_of_getElem? (i := 23) rfl)) rfl ?_
    refine lx_arg F0 hiv hL hL2 hlc (z := 2) (pc' := 1149) rfl (ab_tbo lto_21 _ _ _ (List.mem_of_getElem? (i := 24) rfl)) (ab_tbo lto_21 _ _ _ (List.mem_of_getElem? (i := 25) rfl)) (ab_tbo lto_21 _ _ _ (List.mem_of_getElem? (i := 26) rfl)) (ab_tbo lto_21 _ _ _ (List.mem_of_getElem? (i := 27) rfl)) (ab_tbo lto_21 _ _ _ (List.mem_of_getElem? (i := 28) rfl)) rfl ?_
    intro H2 locs2 hP2 hD2 hS2
    refine lv_if_eq (tgt := 1156) F0.1 F0.2.1 (ab_tbo lto_21 _ _ _ (List.mem_of_getElem? (i := 29) rfl)) (by decide) (fun hx0 => ?_) (fun hx0 => ?_)
    · refine lv_iconst (v := Int32.ofInt 0) F0.1 F0.2.1 (ab_tbo lto_21 _ _ _ (List.mem_of_getElem? (i := 32) rfl)) rfl ?_
      exact KC (Int32.ofInt 0) (Or.inl ⟨k0, by rw [hx0]; decide⟩) H2 locs2 hP2 hD2 hS2
    · refine lv_iconst (v := Int32.ofInt 1) F0.1 F0.2.1 (ab_tbo lto_21 _ _ _ (List.mem_of_getElem? (i := 30) rfl)) rfl ?_
      refine lv_goto (tgt := 1157) F0.1 F0.2.1 (ab_tbo lto_21 _ _ _ (List.mem_of_getElem? (i := 31) rfl)) (by decide) ?_
      exact KC (Int32.ofInt 1) (Or.inr ⟨by rw [k1]; decide, fun q => hx0 (Int32.toInt_inj.mp (q.trans (by decide)))⟩) H2 locs2 hP2 hD2 hS2
  have KB : ∀ (r : Int32) (f' : Nat → Int64), nwC (xs (i0 + 1)) (xs (i0 + 2)) f r f' → ab_W p l e room_1 s m #[Value.ref b] below meth c D vwCl A Q (cells + 1) (slots + 6) 1134 ls [.int r] (ws.set 164 (a3, .inl (cs 1, 1, .inr (.inl f')))) := by
    intro r f' hC H locs hP hD hS
    obtain ⟨l1, l2, l3, ⟨b1, l4, l5⟩, ⟨b2, l6, l7⟩, ⟨b3, l8, l9⟩, l10⟩ := hl
    have had := ab_ad_set (e' := .inl (cs 1, 1, .inr (.inl f'))) hw3
    have hls : lv_has ls 8 [(0, .ref b), (1, .ref b1), (2, .ref b2), (3, .ref b3), (4, .int iv)] := by
      refine ⟨l1, l2, fun q hq => ?_⟩
      simp only [List.mem_cons, List.not_mem_nil, or_false] at hq
      rcases hq with rfl | rfl | rfl | rfl | rfl
      · exact l3
      · exact l5
      · exact l7
      · exact l9
      · exact l10
    refine lv_istore (i := 5) (lv' := [(5, .int r), (0, .ref b), (1, .ref b1), (2, .ref b2), (3, .ref b3), (4, .int iv)]) F0.1 F0.2.1 (ab_tbo lto_21 _ _ _ (List.mem_of_getElem? (i := 17) rfl)) hls (by decide) rfl (fun ls1 hl1 => ?_)
    have hlc : lw_Lc b iv (ws.set 164 (a3, .inl (cs 1, 1, .inr (.inl f')))) ls1 := by
      refine ⟨hl1.1, hl1.2.1, lv_at hl1 1 rfl, ⟨b1, by rw [had]; exact l4, lv_at hl1 2 rfl⟩, ⟨b2, by rw [had]; exact l6, lv_at hl1 3 rfl⟩, ⟨b3, by rw [had]; exact l8, lv_at hl1 4 rfl⟩, lv_at hl1 5 rfl⟩
    have hthq : ab_th tS (ab_tys cs) (lw_THn a) (ws.set 164 (a3, .inl (cs 1, 1, .inr (.inl f')))) := fun q hq => by
      rw [had]
      by_cases e164 : q.1 = 164
      · have hq2 := List.all_eq_true.mp call q hq
        rw [e164] at hq2
        have hq3 : nz_full q.2 = true := hq2
        exact ⟨a3, _, by rw [e164]; exact List.getElem?_set_self (List.getElem?_eq_some_iff.mp hw3).1, nz_full_ok hq3⟩
      · obtain ⟨a9, e1, g1, g2⟩ := hth q hq
        exact ⟨a9, e1, by rw [List.getElem?_set_ne (fun z => e164 z.symm)]; exact g1, g2⟩
    have hEQq : rx_EQ (ws.set 164 (a3, .inl (cs 1, 1, .inr (.inl f')))) := ⟨rl_fr_ok (M := fun k => Nat.beq k 164) (by decide +kernel) (ab_gr.set hw3 rfl trivial) hEQ.1, XQ_fr (M := fun k => Nat.beq k 164) (by decide +kernel) (ab_gr.set hw3 rfl trivial) hEQ.2⟩
    exact K2 r f' _ ls1 b1 b2 b3 hC hlc hl1 (cx_fr.set cx_fr.refl hw3 (by decide)) (List.getElem?_set_self (List.getElem?_eq_some_iff.mp hw3).1) hthq hEQq (by rw [List.length_set]; exact hlen) l4 l6 l8 H locs hP hD hS
  have KA : ∀ al : Int32, ((al = Int32.ofInt 0 ∧ (xs (i0 + 2)).toInt = 0) ∨ (al = Int32.ofInt 1 ∧ ¬ (xs (i0 + 2)).toInt = 0)) → ab_W p l e room_1 s m #[Value.ref b] below meth c D vwCl A Q cells slots 1130 ls [.int al, .int (xs (i0 + 1)), .ref a0] ws := by
    intro al hal H locs hP hD hS
    obtain ⟨l1, l2, l3, l45, l67, ⟨b3, l8, l9⟩, l10⟩ := id hl
    have eb3 : a3 = b3 := by
      rw [ha164] at l8
      exact Option.some.inj l8
    subst eb3
    refine lv_aload_n F0.1 F0.2.1 (ab_tbo lto_21 _ _ _ (List.mem_of_getElem? (i := 15) rfl)) rfl l9 ?_
    have hpost : ∀ {P : Option cx_V → cx_H → Prop} {yy : Int64}, (∀ v h2, P v h2 → v = some (.inl (.long yy)) ∧ h2 = [(0, .inl (10, [.inr (.inl 1), .inr (.inl 2), .inr (.inl 15), .inr (.inl 21), .inr (.inl 43), .inr (.inl 68), .inr (.inl 77), .inr (.inl 87), .inr (.inl 101), .inr (.inl 107), .inr (.inl 113), .inl (.int (cx_toI (m0 11)))])), (77, .inl (6, [.inr (.inl 78), .inr (.inl 79), .inr (.inl 80), .inr (.inl 81), .inr (.inl 85), .inr (.inl 86), .inl (.long (cx_toL (m77 6))), .inl (.int (cx_toI (m77 7))), .inl (.int (cx_toI (m77 8))), .inl (.int (cx_toI (m77 9))), .inl (.int (cx_toI (m77 10))), .inl (.int (cx_toI (m77 11)))])), (79, .inr (.inr (.inl (32, f))))]) → ∀ rv w2, cx_Po tS cs [0, 77, 79] ws P rv w2 → rv = some (.long yy) ∧ w2 = ws := by
      intro P yy hPP rv w2 hpo
      obtain ⟨v, h2, hv, hk, hf, hH, hrv⟩ := hpo
      obtain ⟨rfl, rfl⟩ := hPP v h2 hv
      refine ⟨?_, cx_ws_eq (ks := [0, 77, 79]) (by rfl) hf hX hH (by rfl)⟩
      cases rv with
      | none => exact hrv.elim
      | some y9 => exact congrArg some hrv
    rcases hal with ⟨q1, q2⟩ | ⟨q1, q2⟩
    · subst q1
      by_cases hv : 0 ≤ (xs (i0 + 1)).toInt ∧ (xs (i0 + 1)).toInt < 32
      · obtain ⟨d1, hd1, Ct1⟩ := ct_nowB (dy := cx_toI (m0 11)) (bf := cx_toL (m77 6)) (dl := cx_toI (m77 7)) (ds := cx_toI (m77 8)) (dr := cx_toI (m77 9)) (md := cx_toI (m77 10)) (bo := cx_toI (m77 11)) (f := f) (p := xs (i0 + 1)) (al := Int32.ofInt 0) k0 hv l D cs tS ws [.ref a0, .int (xs (i0 + 1)), .int (Int32.ofInt 0)] hX ⟨⟨a0, ha0, rfl⟩, rfl, rfl, trivial⟩
        exact nx_call (C := fun r f2 => r = 0 ∧ f2 0 = f (xs (i0 + 1)).toNatClampNeg) F0 hNZ hcs w0 hw3 (fun sz => nl_metR (hpost (fun v h2 h => h)) w0 hw3 ⟨d1, by omega, Ct1⟩) l1 (fun r f2 hC => KB r f2 (Or.inr (Or.inl ⟨hC.1, q2, hv, hC.2⟩))) H locs hP hD hS
      · rcases (show (xs (i0 + 1)).toInt ≤ -1 ∨ 32 ≤ (xs (i0 + 1)).toInt by omega) with hv2 | hv2
        · exact nx_call (C := fun r f2 => r = 1) F0 hNZ hcs w0 hw3 (fun sz => nl_metX nx_ckA hlt ab_Gl_ok w0 hw3 ⟨(lw_fullI _).1, hv2⟩ ⟨by rw [k0]; decide, by rw [k0]; decide⟩ hnth) l1 (fun r f2 hC => KB r f2 (Or.inr (Or.inr ⟨hC, q2, hv⟩))) H locs hP hD hS
        · exact nx_call (C := fun r f2 => r = 1) F0 hNZ hcs w0 hw3 (fun sz => nl_metX nx_ckB hlt ab_Gl_ok w0 hw3 ⟨hv2, (lw_fullI _).2⟩ ⟨by rw [k0]; decide, by rw [k0]; decide⟩ hnth) l1 (fun r f2 hC => KB r f2 (Or.inr (Or.inr ⟨hC, q2, hv⟩))) H locs hP hD hS
    · subst q1
      obtain ⟨d1, hd1, Ct1⟩ := ct_nowA (dy := cx_toI (m0 11)) (bf := cx_toL (m77 6)) (dl := cx_toI (m77 7)) (ds := cx_toI (m77 8)) (dr := cx_toI (m77 9)) (md := cx_toI (m77 10)) (bo := cx_toI (m77 11)) (f := f) (p := xs (i0 + 1)) (al := Int32.ofInt 1) (by rw [k1]; decide) l D cs tS ws [.ref a0, .int (xs (i0 + 1)), .int (Int32.ofInt 1)] hX ⟨⟨a0, ha0, rfl⟩, rfl, rfl, trivial⟩
      exact nx_call (C := fun r f2 => r = 0 ∧ f2 0 = sumL f 32) F0 hNZ hcs w0 hw3 (fun sz => nl_metR (hpost (fun v h2 h => h)) w0 hw3 ⟨d1, by omega, Ct1⟩) l1 (fun r f2 hC => KB r f2 (Or.inl ⟨hC.1, q2, hC.2⟩)) H locs hP hD hS
  refine lx_x F0 hl (pc' := 1110) (ab_tbo lto_21 _ _ _ (List.mem_of_getElem? (i := 0) rfl)) rfl ha0 ?_
  refine lx_arg F0 hiv hL hL2 hl (z := 1) (pc' := 1116) rfl (ab_tbo lto_21 _ _ _ (List.mem_of_getElem? (i := 1) rfl)) (ab_tbo lto_21 _ _ _ (List.mem_of_getElem? (i := 2) rfl)) (ab_tbo lto_21 _ _ _ (List.mem_of_getElem? (i := 3) rfl)) (ab_tbo lto_21 _ _ _ (List.mem_of_getElem? (i := 4) rfl)) (ab_tbo lto_21 _ _ _ (List.mem_of_getElem? (i := 5) rfl)) rfl ?_
  refine lx_arg F0 hiv hL hL2 hl (z := 2) (pc' := 1122) rfl (ab_tbo lto_21 _ _ _ (List.mem_of_getElem? (i := 6) rfl)) (ab_tbo lto_21 _ _ _ (List.mem_of_getElem? (i := 7) rfl)) (ab_tbo lto_21 _ _ _ (List.mem_of_getElem? (i := 8) rfl)) (ab_tbo lto_21 _ _ _ (List.mem_of_getElem? (i := 9) rfl)) (ab_tbo lto_21 _ _ _ (List.mem_of_getElem? (i := 10) rfl)) rfl ?_
  intro H locs hP hD hS
  refine lv_if_eq (tgt := 1129) F0.1 F0.2.1 (ab_tbo lto_21 _ _ _ (List.mem_of_getElem? (i := 11) rfl)) (by decide) (fun hx0 => ?_) (fun hx0 => ?_)
  · refine lv_iconst (v := Int32.ofInt 0) F0.1 F0.2.1 (ab_tbo lto_21 _ _ _ (List.mem_of_getElem? (i := 14) rfl)) rfl ?_
    exact KA (Int32.ofInt 0) (Or.inl ⟨rfl, by rw [hx0]; decide⟩) H locs hP hD hS
  · refine lv_iconst (v := Int32.ofInt 1) F0.1 F0.2.1 (ab_tbo lto_21 _ _ _ (List.mem_of_getElem? (i := 12) rfl)) rfl ?_
    refine lv_goto (tgt := 1130) F0.1 F0.2.1 (ab_tbo lto_21 _ _ _ (List.mem_of_getElem? (i := 13) rfl)) (by decide) ?_
    exact KA (Int32.ofInt 1) (Or.inr ⟨rfl, fun q => hx0 (Int32.toInt_inj.mp (q.trans (by decide)))⟩) H locs hP hD hS
def nz_loc (L : List ab_SV) : Bool := (lw_sv 7 L[0]? && lw_rf 0 L[1]?) && ((lw_rf 119 L[2]? && lw_rf 164 L[3]?) && lw_sv 0 L[4]?)
theorem nz_Lc {iv : Int32} {i0 b n tS : Nat} {xs : Nat → Int32} {M : Nat → Bool} {ws0 w : va_W} {ρ : Nat → Value} {en : ab_En} {hp : ab_AH} {Lc sk : List ab_SV} {ls : Array Slot} {stk : List Value} {tys : List (ClassId × FieldType)} (hi : lw_I iv i0 b xs M ws0 ρ n w) (S : ab_sat ρ tS tys 8 (n, en, hp, Lc, sk) ls stk w) (h : nz_loc Lc = true) : lw_Lc b iv w ls := by
  unfold nz_loc at h
  simp only [Bool.and_eq_true] at h
  obtain ⟨⟨t1, t2⟩, ⟨t3, t4⟩, t5⟩ := h
  obtain ⟨⟨i1, i2, i3, i4⟩, i5⟩ := hi
  have hloc := S.2.2.1.2.2.2
  obtain ⟨v0, w0, x0⟩ := hloc 0 _ (lw_sv_ok t1)
  obtain ⟨v1, w1, x1⟩ := hloc 1 _ (lw_rf_ok t2)
  obtain ⟨v2, w2, x2⟩ := hloc 2 _ (lw_rf_ok t3)
  obtain ⟨v3, w3, x3⟩ := hloc 3 _ (lw_rf_ok t4)
  obtain ⟨v4, w4, x4⟩ := hloc 4 _ (lw_sv_ok t5)
  have x0 : v0 = ρ 7 := x0.2
  have x4 : v4 = ρ 0 := x4.2
  rw [x0, i3] at w0
  rw [x4, i1] at w4
  obtain ⟨a1, y1, rfl⟩ := lw_one x1
  obtain ⟨a2, y2, rfl⟩ := lw_one x2
  obtain ⟨a3, y3, rfl⟩ := lw_one x3
  exact ⟨S.2.2.1.1, S.2.2.1.2.1, w0, ⟨a1, y1, w1⟩, ⟨a2, y2, w2⟩, ⟨a3, y3, w3⟩, w4⟩
abbrev nz_O : ab_Cf := ab_OO (ab_SLl []) (fun k => ab_mem k []) BdF ZZ MtF nw_M 2000 0
end
