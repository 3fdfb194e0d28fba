noncomputable section
def nl_y : MethodName := ⟨"SandFlagsLaw", "now", "(LSandFlags;IZ[J)I"⟩
def nl_w : List Cond := Cond.codeWith nl_y method_3_code 5 (some .int) [(0, 9, 12, 13)] :: ab_BIG
theorem nl_w0 : Cond.codeWith nl_y method_3_code 5 (some .int) [(0, 9, 12, 13)] ∈ ab_BIG := ab_inB (i := 1171) (by decide +kernel) (by decide +kernel)
theorem nl_w1 : Cond.methodLink R_law 7 (ZZ.1 149) ∈ ab_BIG := ab_inB (i := 1173) (by decide +kernel) (by decide +kernel)
theorem nl_w2 : Cond.instanceMethod (ZZ.1 149) ∈ ab_BIG := ab_inB (i := 1174) (by decide +kernel) (by decide +kernel)
theorem nl_w3 : Cond.selects RX10 (ZZ.1 149) (ZZ.1 149) ∈ ab_BIG := ab_inB (i := 1175) (by decide +kernel) (by decide +kernel)
theorem nl_w4 : Cond.code (ZZ.1 149) (ZZ.2.1 149) (ZZ.2.2.1 149) (ZZ.2.2.2.1 149) ∈ ab_BIG := ab_inB (i := 1176) (by decide +kernel) (by decide +kernel)
theorem nl_w5 : Cond.initialized (ZZ.1 149).cls ∈ ab_BIG := ab_inB (i := 85) (by decide +kernel) (by decide +kernel)
theorem nl_w6 : Cond.methodLink R_law 109 nl_y ∈ ab_BIG := ab_inB (i := 1169) (by decide +kernel) (by decide +kernel)
theorem nl_w7 : Cond.static nl_y ∈ ab_BIG := ab_inB (i := 1170) (by decide +kernel) (by decide +kernel)
theorem nl_w8 : Cond.initialized nl_y.cls ∈ ab_BIG := ab_inB (i := 84) (by decide +kernel) (by decide +kernel)
theorem nl_d0 : decode method_3_code 0 = .ok (.aload_n 3, 1) := by decide +kernel
theorem nl_d1 : decode method_3_code 1 = .ok (.iconst 0, 1) := by decide +kernel
theorem nl_d2 : decode method_3_code 2 = .ok (.aload_n 0, 1) := by decide +kernel
theorem nl_d3 : decode method_3_code 3 = .ok (.iload_n 1, 1) := by decide +kernel
theorem nl_d4 : decode method_3_code 4 = .ok (.iload_n 2, 1) := by decide +kernel
theorem nl_d5 : decode method_3_code 5 = .ok (.invokevirtual 7, 3) := by decide +kernel
theorem nl_d8 : decode method_3_code 8 = .ok (.lastore, 1) := by decide +kernel
theorem nl_d9 : decode method_3_code 9 = .ok (.goto 7, 3) := by decide +kernel
theorem nl_d12 : decode method_3_code 12 = .ok (.astore 4, 2) := by decide +kernel
theorem nl_d14 : decode method_3_code 14 = .ok (.iconst 1, 1) := by decide +kernel
theorem nl_d15 : decode method_3_code 15 = .ok (.ireturn, 1) := by decide +kernel
theorem nl_d16 : decode method_3_code 16 = .ok (.iconst 0, 1) := by decide +kernel
theorem nl_d17 : decode method_3_code 17 = .ok (.ireturn, 1) := by decide +kernel
theorem nl_good {v w : Cond} (hc : w ∈ ab_BIG) : GoodIn (v :: ab_BIG) (w :: ab_BIG) := by
  intro x hx
  rcases List.mem_cons.mp hx with rfl | hx
  · exact ⟨List.mem_cons_of_mem _ hc, good_of_word (ab_BIG_good _ hc)⟩
  · exact ⟨List.mem_cons_of_mem _ hx, good_of_word (ab_BIG_good _ hx)⟩
section LNW
variable {l : Launch} {D : va_G} {cs : Nat → ClassId} {tS : Nat} {ws : va_W} {sz sa : Nat}
abbrev nl_Qc (D : va_G) (cs : Nat → ClassId) (A : Nat → Prop) (ws : va_W) (a3 : Nat) : Array Value → State → Outcome → State → Prop := va_Qi (fun r (u : va_W) => (r = 0 ∨ r = 1) ∧ ∃ f' : Nat → Int64, u = ws.set 164 (a3, .inl (cs 1, 1, .inr (.inl f')))) (fun u t => nw_B D cs A u t) A
theorem nl_met (hlt : l.stackTraces = false) (hGl : ab_Gl l ZZ wFF D vwCl cs tS) {a0 a3 : Nat} {fs : List Value} {f : Nat → Int64} {xp xa : Int32} (hw0 : ws[0]? = some (a0, .inr (10, fs))) (hw1 : ws[164]? = some (a3, .inl (cs 1, 1, .inr (.inl f)))) (hxa : 0 ≤ xa.toInt ∧ xa.toInt ≤ 1) (hth : ab_th tS (ab_tys cs) nw_th ws) :
    Met l nl_y nl_w (ab_rm 10 1 6) (nw_Pc D cs tS sz sa ws [.ref a0, .int xp, .int xa, .ref a3]) (nl_Qc D cs (va_A ws sz) ws a3) 1 6 (va_A ws sz) := by
  have htl : ab_tl (ws.map (·.1)) tS nw_ta [.ref a0, .int xp, .int xa] := ⟨⟨0, a0, by simp, ab_ad_of hw0, rfl⟩, ⟨xp, rfl, lw_fullI xp⟩, ⟨xa, rfl, hxa⟩, trivial⟩
  refine va_MetW (cc := method_3_code) (maxL := 5) (ret := some .int) (hh := [(0, 9, 12, 13)]) (by decide) rfl ?_
  intro p e s m args below meth c s₁ B hml hv
  obtain ⟨rfl, hsz, ⟨hP, hK, hD, hZ, hT⟩, hNZ⟩ := hv
  subst hsz
  rw [lg_entry_eq]
  have hx := B.exec
  have hb := B.bytes
  have hl := lv_entry [.ref a0, .int xp, .int xa, .ref a3] (n := 5) (Nat.le_of_ble_eq_true rfl)
  have hts : ∀ w ∈ nl_w, w.before [Value.ref a0, .int xp, .int xa, .ref a3].toArray s = true := atoms_spec (ws := nl_w) B.pre
  have hB : ∀ w ∈ ab_BIG, w.before [Value.ref a0, .int xp, .int xa, .ref a3].toArray s = true := fun w hw => hts w (List.mem_cons_of_mem _ hw)
  have hown : s.vm.findClass R_law = some m.cls := findClass_of_methodNamed B.named
  have hA : ∀ q, s.heap.size ≤ q → va_A ws s.heap.size q := fun q h => Or.inr h
  have hAA : ∀ q, q < s.heap.size → va_A ws s.heap.size q → va_A ws s.heap.size q := fun _ _ h => h
  have htab : c.exceptionTable.toList = [⟨0, 9, 12, 13⟩] := vx_table (x := nl_y) B (hB _ nl_w0)
  have hM := nw_met (sz := s.heap.size) (sa := sa) (ws := ws) hlt hGl htl hth
  refine lv_aload_n hx hb nl_d0 rfl (lv_at hl 3 rfl) ?_
  refine lv_iconst (v := 0) hx hb nl_d1 rfl ?_
  refine lv_aload_n hx hb nl_d2 rfl (lv_at hl 0 rfl) ?_
  refine lv_iload_n hx hb nl_d3 rfl (lv_at hl 1 rfl) ?_
  refine lv_iload_n hx hb nl_d4 rfl (lv_at hl 2 rfl) ?_
  refine vx_calll (A0 := va_A ws s.heap.size) (H0 := s.heap) (A1 := va_A ws s.heap.size) (AX := va_A ws s.heap.size) (rest := [.int 0, .ref a3]) (vx_runV (As := [.int xp, .int xa]) (b := a0) (C := RX10) (cc := method_3_code) (nL := 5) (own := R_law) ⟨hx, hb, hml, hown, hts⟩ hM ⟨callB_of 2 hts (nl_good nl_w4) rfl rfl rfl (hB _ nl_w5) (hB _ nl_w1) ⟨by decide +kernel, by decide +kernel, by decide +kernel⟩ ⟨by decide +kernel, by decide +kernel⟩, hB _ nl_w2, hB _ nl_w3⟩ ⟨fun a U g mk q => ⟨q.1, q.2.1, ab_Wd_blind q.2.2.1, nw_Z_blind q.2.2.2⟩, va_recv hK hP (show vwCl[10]? = some (RX10, TX10, 12) from rfl) hw0, fun U hU hW => ⟨rfl, by rw [hU], ab_Wd_now hP hD va_S.rf hA hK hZ hT hU hW rfl, nw_Z_now hNZ hD va_S.rf hA hU hW rfl⟩⟩ rfl rfl hl.1 rfl (lv_room (Nat.le_of_ble_eq_true rfl)) nl_d5 ⟨by decide +kernel, by decide +kernel⟩) va_S.rf hAA (fun _ h => h) hAA ?_ ?_
  · intro E ce q9 u t H1 locs1 ht hal _ hBX hsz hkeep hS1 hce hcv hcl
    obtain ⟨rfl, hBB⟩ := hBX
    refine ct_catch (own := R_law) (name := nw_E) (E := nw_E) (x := ⟨0, 9, 12, 13⟩) (more := []) hown htab rfl (by decide) (hB _ nw_w4) (nw_cm (Vm.Alike.refl _) hNZ.2.2.2.1) hce hcv hcl ?_
    refine lv_astore (i := 4) hx hb nl_d12 hl (by decide) rfl (fun ls1 hl1 => ?_)
    refine lv_iconst (v := 1) hx hb nl_d14 rfl ?_
    exact W.iret hx hb B.returns (fun t2 h1 h2 => ⟨⟨1, ws, rfl, ⟨Or.inr rfl, f, (ab_set_self hw1).symm⟩, ⟨by rw [h1, ← ht]; exact hBB.1, hBB.2.1, va_K.moved h2.alike hK⟩⟩, hS1.F h1⟩) hS1.2.2 nl_d15 B.notSynchronized
  · intro r u t H1 locs1 ht hal _ hBB hsz hkeep hS1
    have hP1 : va_P D vwCl ws H1 := by rw [← ht]; exact hBB.1
    refine va_last hx hb hK hP1 hBB.2.1 hS1 164 1 (cA := cs 1) (n := 1) hw1 rfl (ab_vpin (by decide) (by decide)) nl_d8 (fun H2 locs2 hP2 hD2 hS2 => ?_)
    refine lv_goto (tgt := 16) hx hb nl_d9 (by decide) ?_
    refine lv_iconst (v := 0) hx hb nl_d16 rfl ?_
    exact W.iret hx hb B.returns (fun t2 h1 h2 => ⟨⟨0, _, rfl, ⟨Or.inl rfl, _, rfl⟩, ⟨by rw [h1]; exact hP2, hD2, va_K.moved h2.alike hK⟩⟩, hS2.F h1⟩) hS2.2.2 nl_d17 B.notSynchronized
end LNW
section LCL
variable {p : Program} {l : Launch} {e : Env} {s : State} {m : MethodId} {below : List Frame} {meth : Method} {c : Code} {D : va_G} {A : Nat → Prop} {Q : State → Prop} {cs : Nat → ClassId} {tS b L sa cells slots : Nat} {xs : Nat → Int32} {ws : va_W}
theorem nl_d1131 : decode code 1131 = .ok (.invokestatic 109, 3) := by decide +kernel
theorem nl_d1134 : decode code 1134 = .ok (.istore 5, 2) := by decide +kernel
theorem nl_call (F : lw_F p s m meth c A D cs tS b L xs) (hlt : l.stackTraces = false) (hNZ : nw_Z A sa s s.heap) (hcs : cells + 1 ≤ 601024 ∧ slots + 6 ≤ 7293033) {a0 a3 : Nat} {fs : List Value} {f : Nat → Int64} {xp xa : Int32} (hw0 : ws[0]? = some (a0, .inr (10, fs))) (hw1 : ws[164]? = some (a3, .inl (cs 1, 1, .inr (.inl f)))) (hxa : 0 ≤ xa.toInt ∧ xa.toInt ≤ 1) (hth : ab_th tS (ab_tys cs) nw_th ws) {ls : Array Slot} (hsize : ls.size = 8)
    (K : ∀ (r : Int32) (f' : Nat → Int64), ab_W p l e room_1 s m #[Value.ref b] below meth c D vwCl A Q (cells + 1) (slots + 6) 1134 ls [.int r] (ws.set 164 (a3, .inl (cs 1, 1, .inr (.inl f'))))) :
    ab_W p l e room_1 s m #[Value.ref b] below meth c D vwCl A Q cells slots 1131 ls [.ref a3, .int xa, .int xp, .ref a0] ws := by
  intro H locs hP hD hS
  obtain ⟨hx, hb, hml, hown, hts, hK, hA, hZ, hT, hX, hbl, hbA⟩ := F
  have hB : ∀ w ∈ ab_BIG, w.before #[Value.ref b] s = true := fun w hw => hts w (ab_BIG_in w hw)
  have hAA : ∀ q, va_A ws H.size q → A q := by
    intro q hq
    rcases hq with ⟨k, e, h⟩ | h
    · exact hD.2 k (q, e) h
    · exact hA q (by have := hS.1; omega)
  have cw : vx_CSW room_1 s #[Value.ref b] R_law 109 nl_y method_3_code 5 (some .int) [(0, 9, 12, 13)] nl_w (ab_rm 10 1 6) 1 6 4 := by
    refine ⟨⟨rfl, rfl, by decide +kernel, by decide +kernel, pay_in hts (lw_good nl_w0), List.mem_cons_self⟩, hB _ nl_w0, hB _ nl_w8, ⟨by decide +kernel, by decide +kernel⟩, fun sig h => ?_, hB _ nl_w6, hB _ nl_w7⟩
    have h2 : (parseMethodDescriptor nl_y.desc).map (fun d => d.parameters.length) = some 4 := by decide +kernel
    rw [h] at h2
    exact (Option.some.inj h2).symm
  refine ab_callG (A1 := va_A ws H.size) (rest := []) (vx_runSW (As := [.ref a0, .int xp, .int xa, .ref a3]) (cc := code) (nL := 8) (own := R_law) ⟨hx, hb, hml, hown, hts⟩ (nl_met (sz := H.size) (sa := sa) (ws := ws) hlt ab_Gl_ok hw0 hw1 hxa hth) cw ⟨fun a U g mk q => ⟨q.1, q.2.1, ab_Wd_blind q.2.2.1, nw_Z_blind q.2.2.2⟩, fun U hU hW => ⟨rfl, by rw [hU], ab_Wd_now hP hD hS hA hK hZ hT hU hW rfl, nw_Z_now hNZ hD hS hA hU hW rfl⟩⟩ rfl rfl hsize rfl (lv_room (Nat.le_of_ble_eq_true rfl)) nl_d1131 hcs) hS (fun q _ h => hAA q h) hAA (fun _ _ _ q => q.2) (fun v st₀ t H1 locs1 h0 ht hal hq hS1 => ?_)
  obtain ⟨⟨r, u, hv, ⟨-, f', hu⟩, hBB⟩, -⟩ := hq
  cases hv
  subst hu
  exact K r f' H1 locs1 (by rw [← ht]; exact hBB.1) (hBB.2.1.weaken (fun _ q _ h => hAA q.1 h)) hS1
end LCL
end
