noncomputable section
def st_tb : List (Nat × Instr × Nat) := [(37, .bipush 63, 2), (39, .iand, 1), (40, .tableswitch 1770 0 38 #[172, 209, 258, 307, 344, 393, 442, 503, 576, 625, 650, 687, 748, 797, 834, 871, 896, 933, 970, 1019, 1032, 1069, 1125, 1150, 1199, 1236, 1289, 1314, 1339, 1364, 1413, 1438, 1475, 1548, 1597, 1634, 1659, 1708, 1745], 172)]
theorem st_tbo : (st_tb.all fun q => decide (decode code q.1 = .ok q.2)) = true := by decide +kernel
def st_ann : List Nat := [1810, 212, 249, 298, 347, 384, 433, 482, 543, 616, 665, 690, 727, 788, 837, 874, 911, 936, 973, 1010, 1059, 1072, 1109, 1165, 1190, 1239, 1276, 1329, 1354, 1379, 1404, 1453, 1478, 1515, 1588, 1637, 1674, 1699, 1748, 1785]
theorem st_d23 : decode code 23 = .ok (.iload 4, 2) := by decide +kernel
theorem st_d25 : decode code 25 = .ok (.aload_n 0, 1) := by decide +kernel
theorem st_d26 : decode code 26 = .ok (.arraylength, 1) := by decide +kernel
theorem st_d27 : decode code 27 = .ok (.bipush 6, 2) := by decide +kernel
theorem st_d29 : decode code 29 = .ok (.isub, 1) := by decide +kernel
theorem st_d30 : decode code 30 = .ok (.if_icmp .gt 1786, 3) := by decide +kernel
theorem st_d33 : decode code 33 = .ok (.aload_n 0, 1) := by decide +kernel
theorem st_d34 : decode code 34 = .ok (.iload 4, 2) := by decide +kernel
theorem st_d36 : decode code 36 = .ok (.iaload, 1) := by decide +kernel
theorem st_d1810 : decode code 1810 = .ok (.iinc 4 6, 3) := by decide +kernel
theorem st_d1813 : decode code 1813 = .ok (.goto (-1790), 3) := by decide +kernel
theorem st_d1816 : decode code 1816 = .ok (.iconst 1, 1) := by decide +kernel
theorem st_d1817 : decode code 1817 = .ok (.ireturn, 1) := by decide +kernel
theorem st_d0 : decode code 0 = .ok (.new 8, 3) := by decide +kernel
theorem st_d3 : decode code 3 = .ok (.dup, 1) := by decide +kernel
theorem st_d4 : decode code 4 = .ok (.invokespecial 15, 3) := by decide +kernel
theorem st_d7 : decode code 7 = .ok (.astore_n 1, 1) := by decide +kernel
theorem st_d8 : decode code 8 = .ok (.new 16, 3) := by decide +kernel
theorem st_d11 : decode code 11 = .ok (.dup, 1) := by decide +kernel
theorem st_d12 : decode code 12 = .ok (.invokespecial 18, 3) := by decide +kernel
theorem st_d15 : decode code 15 = .ok (.astore_n 2, 1) := by decide +kernel
theorem st_d16 : decode code 16 = .ok (.iconst 1, 1) := by decide +kernel
theorem st_d17 : decode code 17 = .ok (.newarray .long, 2) := by decide +kernel
theorem st_d19 : decode code 19 = .ok (.astore_n 3, 1) := by decide +kernel
theorem st_d20 : decode code 20 = .ok (.iconst 0, 1) := by decide +kernel
theorem st_d21 : decode code 21 = .ok (.istore 4, 2) := by decide +kernel
theorem st_tn {pc : Nat} (h : ∀ th ∈ lw_THs, lw_TQ pc th) : ∀ th ∈ lw_THs, lw_TPn pc th := fun th hm p l e s m below meth c D A Q cs tS b L i0 cells slots sa xs iv ws ls F _ _ hcs hiv hL hL2 hl hth hEQ hlen K => lw_wid (h th hm p l e s m below meth c D A Q cs tS b L i0 (cells + 1) (slots + 6) xs iv ws ls F hcs hiv hL hL2 hl hth hEQ hlen K)
theorem st_turns : ∀ pc ∈ st_ann, pc = 1810 ∨ ∀ th ∈ lw_THs, lw_TPn pc th := List.forall_mem_cons.mpr ⟨Or.inl rfl, (List.forall_mem_cons.mpr ⟨Or.inr (st_tn tz_0), (List.forall_mem_cons.mpr ⟨Or.inr (st_tn tz_1), (List.forall_mem_cons.mpr ⟨Or.inr (st_tn tz_2), (List.forall_mem_cons.mpr ⟨Or.inr (st_tn tz_3), (List.forall_mem_cons.mpr ⟨Or.inr (st_tn tz_4), (List.forall_mem_cons.mpr ⟨Or.inr (st_tn tz_5), (List.forall_mem_cons.mpr ⟨Or.inr (st_tn tz_6), (List.forall_mem_cons.mpr ⟨Or.inr (st_tn tz_7), (List.forall_mem_cons.mpr ⟨Or.inr (st_tn tz_8), (List.forall_mem_cons.mpr ⟨Or.inr (st_tn tz_9), (List.forall_mem_cons.mpr ⟨Or.inr (st_tn tz_10), (List.forall_mem_cons.mpr ⟨Or.inr (st_tn tz_11), (List.forall_mem_cons.mpr ⟨Or.inr (st_tn tz_12), (List.forall_mem_cons.mpr ⟨Or.inr (st_tn tz_13), (List.forall_mem_cons.mpr ⟨Or.inr (st_tn tz_14), (List.forall_mem_cons.mpr ⟨Or.inr (st_tn tz_15), (List.forall_mem_cons.mpr ⟨Or.inr (st_tn tz_16), (List.forall_mem_cons.mpr ⟨Or.inr (st_tn tz_17), (List.forall_mem_cons.mpr ⟨Or.inr (st_tn tz_18), (List.forall_mem_cons.mpr ⟨Or.inr (st_tn tz_19), (List.forall_mem_cons.mpr ⟨Or.inr (st_tn tz_20), (List.forall_mem_cons.mpr ⟨Or.inr tz_21, (List.forall_mem_cons.mpr ⟨Or.inr (st_tn tz_22), (List.forall_mem_cons.mpr ⟨Or.inr (st_tn tz_23), (List.forall_mem_cons.mpr ⟨Or.inr (st_tn tz_24), (List.forall_mem_cons.mpr ⟨Or.inr (st_tn tz_25), (List.forall_mem_cons.mpr ⟨Or.inr (st_tn tz_26), (List.forall_mem_cons.mpr ⟨Or.inr (st_tn tz_27), (List.forall_mem_cons.mpr ⟨Or.inr (st_tn tz_28), (List.forall_mem_cons.mpr ⟨Or.inr (st_tn tz_29), (List.forall_mem_cons.mpr ⟨Or.inr (st_tn tz_30), (List.forall_mem_cons.mpr ⟨Or.inr (st_tn tz_31), (List.forall_mem_cons.mpr ⟨Or.inr (st_tn tz_32), (List.forall_mem_cons.mpr ⟨Or.inr (st_tn tz_33), (List.forall_mem_cons.mpr ⟨Or.inr (st_tn tz_34), (List.forall_mem_cons.mpr ⟨Or.inr (st_tn tz_35), (List.forall_mem_cons.mpr ⟨Or.inr (st_tn tz_36), (List.forall_mem_cons.mpr ⟨Or.inr (st_tn tz_37), (List.forall_mem_cons.mpr ⟨Or.inr (st_tn tz_38), (fun _ h => absurd h List.not_mem_nil)⟩)⟩)⟩)⟩)⟩)⟩)⟩)⟩)⟩)⟩)⟩)⟩)⟩)⟩)⟩)⟩)⟩)⟩)⟩)⟩)⟩)⟩)⟩)⟩)⟩)⟩)⟩)⟩)⟩)⟩)⟩)⟩)⟩)⟩)⟩)⟩)⟩)⟩)⟩)⟩
def st_37 : ab_St := ((lw_sg []).1, (lw_sg []).2.1, (lw_sg []).2.2.1, (lw_sg []).2.2.2.1, [some (.inl 1)])
def st_emp (l : List ab_SV) : Bool := match l with
  | [] => true
  | _ => false
def st_ter (w : Nat × ab_St) : Bool := (st_emp w.2.2.2.2.2 && nz_loc w.2.2.2.2.1) && ab_mem w.1 st_ann
def st_chk : Bool := match ab_run st_tb st_ann (lw_stp st_tb (ab_step TbL MtF nz_O 8 nw_M false) (fun _ _ => none)) 2000 37 st_37 with
  | some ts => ts.all st_ter
  | none => false
theorem st_ck : st_chk = true := by decide +kernel
section STL
variable {p : Program} {l : Launch} {e : Env} {s : State} {m : MethodId} {below : List Frame} {meth : Method} {c : Code} {D : va_G} {A : Nat → Prop} {cs : Nat → ClassId} {tS b L sa : Nat} {xs : Nat → Int32}
/-- from the switch to the turn's end -/
theorem st_turn {Q : State → Prop} (F : lw_F p s m meth c A D cs tS b L xs) (hlt : l.stackTraces = false) (hNZ : nw_Z A sa s s.heap) {cells slots i0 : Nat} (hcs : cells + 1 ≤ 601024 ∧ slots + 6 ≤ 7293033) {iv : Int32} (hiv : iv.toInt = (i0 : Int)) (hL : i0 + 6 ≤ L) (hL2 : L ≤ 3072) {ws : va_W} {ls : Array Slot} (hl : lw_Lc b iv ws ls) {th : ab_TH} (hm : th ∈ lw_THs) (hth : ab_th tS (ab_tys cs) th ws) (hEQ : rx_EQ ws) (hlen : ws.length = 165)
    (K : ∀ (ls' : Array Slot) (ws' : va_W), lw_Lc b iv ws' ls' → (∃ th ∈ lw_THs, ab_th tS (ab_tys cs) th ws') → rx_EQ ws' → ws'.length = 165 → ab_W p l e room_1 s m #[Value.ref b] below meth c D vwCl A Q (cells + 1) (slots + 6) 1810 ls' [] ws') :
    ab_W p l e room_1 s m #[Value.ref b] below meth c D vwCl A Q cells slots 37 ls [.int (xs i0)] ws := by
  have hth0 : ab_th tS (ab_tys cs) [] ws := fun q hq => by cases hq
  obtain ⟨ρ, hi, S⟩ := lw_sg_ok (M := nw_M) (xs := xs) hiv (by omega) hl hth0
  have CO : ab_CO l ZZ (1 + 0) D vwCl cs tS nw_M nz_O := sg_CO ab_Gl_ok (by decide) (fun _ h => absurd h List.not_mem_nil) (fun _ h => absurd h List.not_mem_nil)
  have hc := st_ck
  unfold st_chk at hc
  split at hc
  · rename_i ts hts
    have hrun := ab_run_ok (cc := code) (P := fun pc st => ab_Ok p l e room_1 s m #[Value.ref b] below meth c D vwCl A Q (lw_I iv i0 b xs nw_M ws) tS (ab_tys cs) 8 cells slots pc st) (ab_tbd st_tbo) (lw_stp_ok F ⟨by omega, by omega⟩ MOKL lw_nj CO (by decide) hiv hL hL2 (ab_tbd st_tbo) (fun _ _ _ _ h => by cases h)) 2000 37 _ ts hts (fun w hw => ?_)
    · refine hrun ρ ls [.int (xs i0)] ws hi ⟨S.1, S.2.1, S.2.2.1, ⟨?_, ?_⟩, trivial⟩
      · have h8 := hi.1.2.2.2
        show 1 < (lw_sg []).1
        omega
      · have h1 := hi.1.2.1 0 (by decide)
        exact h1.symm
    · have ht := List.all_eq_true.mp hc w hw
      obtain ⟨pc, n, en, hp, Lc, sk⟩ := w
      intro ρ' ls' stk u hi' Sa
      have eu : u = ws := nw_same hi'.2
      subst eu
      unfold st_ter at ht
      rw [Bool.and_eq_true, Bool.and_eq_true] at ht
      obtain ⟨⟨t1, t2⟩, t3⟩ := ht
      have hlc := nz_Lc hi' Sa t2
      have esk : sk = [] := by
        have t4 : st_emp sk = true := t1
        cases sk with
        | nil => rfl
        | cons a b => cases t4
      subst esk
      have estk : stk = [] := by
        match stk, Sa.2.2.2 with
        | [], _ => rfl
        | _ :: _, q => exact q.elim
      subst estk
      rcases st_turns pc (ab_mem_iff.mp t3) with h | h
      · subst h
        exact lw_wid (K ls' u hlc ⟨th, hm, hth⟩ hEQ hlen)
      · exact h th hm p l e s m below meth c D A Q cs tS b L i0 cells slots sa xs iv u ls' F hlt hNZ hcs hiv hL hL2 hlc hth hEQ hlen K
  · cases hc
theorem st_loop (F : lw_F p s m meth c A D cs tS b L xs) (hA2 : ∀ q, A q → s.heap.size ≤ q) (hlt : l.stackTraces = false) (hNZ : nw_Z A sa s s.heap) (hr : meth.sig.returnType = ret) (hlocks : meth.locks = false) (hL : L ≤ 3072) : ∀ (n t : Nat), t + n = 513 → ∀ (iv : Int32) (ls : Array Slot) (ws : va_W), iv.toInt = ((6 * t : Nat) : Int) → 6 * t ≤ L → lw_Lc b iv ws ls → (∃ th ∈ lw_THs, ab_th tS (ab_tys cs) th ws) → rx_EQ ws → ws.length = 165 →
    ab_W p l e room_1 s m #[Value.ref b] below meth c D vwCl A (lw_Z below #[Value.ref b] s) (165 + t) (63622 + 6 * t) 23 ls [] ws := by
  intro n
  induction n with
  | zero =>
    intro t ht iv ls ws hiv hle
    exact absurd hle (by omega)
  | succ n ih =>
    intro t ht iv ls ws hiv hle hl hth hEQ hlen H locs hP hD hS
    obtain ⟨hx, hb, hml, hown, hts, hK, hA, hZ, hT, hX, hbl, hbA⟩ := id F
    obtain ⟨l1, l2, l3, l4, l5, l6, l10⟩ := id hl
    have e6 : (Int8.ofInt 6).toInt32.toInt = 6 := by decide
    have eL : (Int32.ofNat L).toInt = (L : Int) := ab_i32n (by omega)
    have es : (Int32.ofNat L - (Int8.ofInt 6).toInt32).toInt = (L : Int) - 6 := by
      rw [Int32.toInt_sub, eL, e6, ab_bm (by omega) (by omega)]
    refine lv_iload hx hb st_d23 l10 ?_
    refine lv_aload_n hx hb st_d25 rfl l3 ?_
    refine va_slen hx hb hX hbl hbA hS st_d26 ?_
    refine lv_bipush hx hb st_d27 rfl ?_
    refine lv_isub hx hb st_d29 ?_
    refine ab_row_icmp (t := 1816) hx hb st_d30 (by decide) (fun hc => ?_) (fun hc => ?_)
    · refine lv_iconst (v := 1) hx hb st_d1816 rfl ?_
      refine va_forget (fun q hq => hA2 _ (hS.2.2 q hq)) ?_
      refine W.widen (k := 601024) (n := 7293033) (by omega) (by omega) ?_
      exact lw_ret hx hb hr hlocks st_d1817
    · have hc2 : ¬ (Int32.ofNat L - (Int8.ofInt 6).toInt32).toInt < iv.toInt := hc
      rw [es] at hc2
      have h6 : 6 * t + 6 ≤ L := by omega
      have hcl := ab_clamp (x := iv) (by omega)
      have ecl : iv.toNatClampNeg = 6 * t := by omega
      refine lv_aload_n hx hb st_d33 rfl l3 ?_
      refine lv_iload hx hb st_d34 l10 ?_
      refine va_sld hx hb hX hbl hbA hS (ab_vpin (by omega) (by omega)) st_d36 ?_
      rw [ecl]
      obtain ⟨th, hm, hth⟩ := hth
      refine st_turn F hlt hNZ (cells := 165 + t) (slots := 63622 + 6 * t) (i0 := 6 * t) ⟨by omega, by omega⟩ hiv h6 hL hl hm hth hEQ hlen (fun ls' ws' hl' hth' hEQ' hlen' H1 locs1 hP1 hD1 hS1 => ?_) H locs hP hD hS
      obtain ⟨k1, k2, k3, ⟨b1, k4, k5⟩, ⟨b2, k6, k7⟩, ⟨b3, k8, k9⟩, k10⟩ := hl'
      have hls : lv_has ls' 8 [(4, .int iv), (0, .ref b), (1, .ref b1), (2, .ref b2), (3, .ref b3)] := by
        refine ⟨k1, k2, fun q hq => ?_⟩
        simp only [List.mem_cons, List.not_mem_nil, or_false] at hq
        rcases hq with rfl | rfl | rfl | rfl | rfl
        · exact k10
        · exact k3
        · exact k5
        · exact k7
        · exact k9
      refine lv_iinc (k := 0) hx hb st_d1810 hls rfl rfl (by decide) rfl (fun ls2 hl2 => ?_)
      refine lv_goto (tgt := 23) hx hb st_d1813 (by decide) ?_
      have hiv2 : (iv + Int32.ofInt 6).toInt = ((6 * (t + 1) : Nat) : Int) := by
        rw [Int32.toInt_add, show (Int32.ofInt 6).toInt = 6 from by decide, ab_bm (by omega) (by omega)]
        omega
      have hnx := ih (t + 1) (by omega) (iv + Int32.ofInt 6) ls2 ws' hiv2 (by omega) ⟨hl2.1, hl2.2.1, lv_at hl2 1 rfl, ⟨b1, k4, lv_at hl2 2 rfl⟩, ⟨b2, k6, lv_at hl2 3 rfl⟩, ⟨b3, k8, lv_at hl2 4 rfl⟩, lv_at hl2 0 rfl⟩ hth' hEQ' hlen'
      rw [show 165 + (t + 1) = 165 + t + 1 by omega, show 63622 + 6 * (t + 1) = 63622 + 6 * t + 6 by omega] at hnx
      exact hnx H1 locs1 hP1 hD1 hS1
end STL
theorem st_w1 : Cond.code (ZZ.1 127) (ZZ.2.1 127) (ZZ.2.2.1 127) none ∈ ab_BIG := ab_inB (i := 108) (by decide +kernel) (by decide +kernel)
theorem st_w2 : Cond.code (ZZ.1 178) (ZZ.2.1 178) (ZZ.2.2.1 178) none ∈ ab_BIG := ab_inB (i := 1251) (by decide +kernel) (by decide +kernel)
theorem st_w3 : Cond.methodLink R_law 15 (ZZ.1 127) ∈ lw_tbl := List.mem_of_getElem? (i := 106) (by decide +kernel)
theorem st_w4 : Cond.methodLink R_law 18 (ZZ.1 178) ∈ lw_tbl := List.mem_of_getElem? (i := 1249) (by decide +kernel)
theorem st_w5 : Cond.instanceMethod (ZZ.1 127) ∈ lw_tbl := List.mem_of_getElem? (i := 107) (by decide +kernel)
theorem st_w6 : Cond.instanceMethod (ZZ.1 178) ∈ lw_tbl := List.mem_of_getElem? (i := 1250) (by decide +kernel)
theorem st_w7 : Cond.initialized (ZZ.1 127).cls ∈ lw_tbl := List.mem_of_getElem? (i := 85) (by decide +kernel)
theorem st_w8 : Cond.initialized (ZZ.1 178).cls ∈ lw_tbl := List.mem_of_getElem? (i := 97) (by decide +kernel)
theorem st_w9 : Cond.classLink R_law 8 RX10 ∈ lw_tbl := List.mem_of_getElem? (i := 104) (by decide +kernel)
theorem st_w10 : Cond.classLink R_law 16 RX11 ∈ lw_tbl := List.mem_of_getElem? (i := 1247) (by decide +kernel)
theorem st_w11 : Cond.instantiable RX10 12 ∈ lw_tbl := List.mem_of_getElem? (i := 105) (by decide +kernel)
theorem st_w12 : Cond.instantiable RX11 68 ∈ lw_tbl := List.mem_of_getElem? (i := 1248) (by decide +kernel)
theorem st_w13 : Cond.arrayClass .long ∈ lw_tbl := List.mem_of_getElem? (i := 342) (by decide +kernel)
theorem whole_start {p : Program} {e : Env} {s : State} {m : MethodId} {below : List Frame} {meth : Method} {c : Code} (l : Launch) (hlt : l.stackTraces = false) {b L : Nat} {xs : Nat → Int32} (hL : L ≤ 3072) (C0 : lw_At p s m meth c b L xs) : W p l e room_1 s m #[Value.ref b] below meth c s.heap [] 0 0 (lw_Z below #[Value.ref b] s) (entryFrame m ([Value.ref b] : List Value).toArray 8) := by
  obtain ⟨hx, hb, hr, hml, hown, hts, hX, hbl, hlocks, hgv⟩ := id C0
  have hB : ∀ w ∈ ab_BIG, w.before #[Value.ref b] s = true := fun w hw => hts w (ab_BIG_in w hw)
  have hA : ∀ q : Nat, s.heap.size ≤ q → (fun q : Nat => s.heap.size ≤ q) q := fun _ h => h
  have hbA : ¬ (fun q : Nat => s.heap.size ≤ q) b := Nat.not_le.mpr hbl
  obtain ⟨D, cs, hK⟩ := st_K hts
  have hGS := st_GS hts
  obtain ⟨tS, sa, hZ, hT, hNZ⟩ := st_stat (A := fun q : Nat => s.heap.size ≤ q) hts hgv (fun a ha => Nat.not_le.mpr ha)
  have F : lw_F p s m meth c (fun q : Nat => s.heap.size ≤ q) D cs tS b L xs := ⟨hx, hb, hml, hown, hts, hK, hA, hZ, hT, hX, hbl, hbA⟩
  have hS : va_S (fun q : Nat => s.heap.size ≤ q) s.heap s.heap [] := va_S.rf
  have hP : va_P D vwCl [] s.heap := fun k q h => by simp at h
  have hD : va_D (fun q : Nat => s.heap.size ≤ q) [] := ⟨fun i j p q h => by simp at h, fun k q h => by simp at h⟩
  have hl := lv_entry ([.ref b]) (n := 8) (Nat.le_of_ble_eq_true rfl)
  rw [lg_entry_eq]
  generalize (lg_sl ([.ref b]) ++ List.replicate (8 - (lg_sl ([.ref b])).length) Slot.unset).toArray = ls at hl ⊢
  have hl : lv_has ls 8 [(0, .ref b)] := hl
  -- new SandFlags
  refine va_new (ci := 10) (fs := fl_10.map ab_dfv) (C := RX10) (T := TX10) (N := 12) hx hb hts (fun w hw => ab_BIG_in w (inB10 w hw)) tyX10 tyX10_ok hown (hts _ st_w9) (hts _ st_w11) (hts _ st_w7) hK hP hD hS hA rfl fd_10 (Nat.le_of_ble_eq_true rfl) (Nat.le_of_ble_eq_true rfl) st_d0 (fun q0 H0 hP0 hD0 hS0 => ?_)
  have hP0 : va_P D vwCl [(q0, .inr (10, fl_10.map ab_dfv))] H0 := hP0
  have hD0 : va_D (fun q : Nat => s.heap.size ≤ q) [(q0, .inr (10, fl_10.map ab_dfv))] := hD0
  refine lv_dup hx hb st_d3 rfl ?_
  have hM1 := nok_127 (l := l) (D := D) (cs := cs) (tS := tS) ab_Gl_ok [(q0, .inr (10, fl_10.map ab_dfv))] [.ref q0] rfl ⟨⟨0, q0, List.mem_singleton.mpr rfl, rfl, rfl⟩, trivial⟩ (fun q hq => by
    have e1 : q = (0, fr_10) := by simpa [nk_127] using hq
    subst e1
    exact ⟨q0, _, rfl, ft_10 _⟩)
  refine ab_callI (As := []) (rest := [.ref q0]) (nL := 8) (cc := code) (own := R_law) (host := "") ⟨hx, hb, hml, hown, hts⟩ hM1 ⟨Or.inl (callB_of 0 hts (lw_good st_w1) rfl rfl rfl (hts _ st_w7) (hts _ st_w3) ⟨by decide +kernel, by decide +kernel, by decide +kernel⟩ ⟨by decide +kernel, by decide +kernel⟩), rfl, hts _ st_w5⟩ hP0 hD0 hS0 hA hK hZ hT hGS rfl hl.1 (Nat.le_of_ble_eq_true rfl) st_d4 ⟨by decide +kernel, by decide +kernel⟩ (fun rv w1 H1 locs1 hpo hP1 hD1 hS1 => ?_)
  obtain ⟨rfl, ⟨more1, hmore1⟩, hlen1, -, hth1⟩ := hpo
  have hmore1 : w1.map (·.1) = [q0] ++ more1 := hmore1
  refine W.widen (k := 119) (n := 13500) (by decide +kernel) (by decide +kernel) ?_
  have hlen1 : w1.length = 119 := hlen1
  have hth1 : ab_th tS (ab_tys cs) tg_26 w1 := hth1
  refine lv_astore_n (lv' := [(1, .ref q0), (0, .ref b)]) hx hb st_d7 rfl hl (by decide) rfl (fun ls hl => ?_)
  -- new SandFlagsModel
  refine va_new (ci := 11) (fs := fl_11.map ab_dfv) (C := RX11) (T := TX11) (N := 68) hx hb hts (fun w hw => ab_BIG_in w (inB11 w hw)) tyX11 tyX11_ok hown (hts _ st_w10) (hts _ st_w12) (hts _ st_w8) hK hP1 hD1 hS1 hA rfl fd_11 (Nat.le_of_ble_eq_true rfl) (Nat.le_of_ble_eq_true rfl) st_d8 (fun q1 H2 hP2 hD2 hS2 => ?_)
  refine lv_dup hx hb st_d11 rfl ?_
  have hat : (w1 ++ [(q1, Sum.inr (11, fl_11.map ab_dfv))] : va_W)[119]? = some (q1, Sum.inr (11, fl_11.map ab_dfv)) := by
    rw [List.getElem?_append_right (by omega), show 119 - w1.length = 0 by omega]
    rfl
  have hM2 := nok_178 (l := l) (D := D) (cs := cs) (tS := tS) ab_Gl_ok (w1 ++ [(q1, Sum.inr (11, fl_11.map ab_dfv))]) [.ref q1] (by rw [List.length_append, hlen1]; rfl) ⟨⟨119, q1, List.mem_singleton.mpr rfl, by rw [List.getElem?_map, hat]; rfl, rfl⟩, trivial⟩ (fun q hq => by
    have e1 : q = (119, fr_11) := by simpa [nk_178] using hq
    subst e1
    exact ⟨q1, _, hat, ft_11 _⟩)
  refine ab_callI (As := []) (rest := [.ref q1]) (nL := 8) (cc := code) (own := R_law) (host := "") ⟨hx, hb, hml, hown, hts⟩ hM2 ⟨Or.inl (callB_of 0 hts (lw_good st_w2) rfl rfl rfl (hts _ st_w8) (hts _ st_w4) ⟨by decide +kernel, by decide +kernel, by decide +kernel⟩ ⟨by decide +kernel, by decide +kernel⟩), rfl, hts _ st_w6⟩ hP2 hD2 hS2 hA hK hZ hT hGS rfl hl.1 (Nat.le_of_ble_eq_true rfl) st_d12 ⟨by decide +kernel, by decide +kernel⟩ (fun rv w2 H3 locs3 hpo hP3 hD3 hS3 => ?_)
  obtain ⟨rfl, ⟨more2, hmore2⟩, hlen2, hkeep2, hth2⟩ := hpo
  refine W.widen (k := 164) (n := 63621) (by decide +kernel) (by decide +kernel) ?_
  have hlen2 : w2.length = 164 := hlen2
  have hth2 : ab_th tS (ab_tys cs) tg_27 w2 := hth2
  have hkeep2 : ∀ k, k < 119 → w2[k]? = (w1 ++ [(q1, Sum.inr (11, fl_11.map ab_dfv))] : va_W)[k]? := hkeep2
  refine lv_astore_n (lv' := [(2, .ref q1), (1, .ref q0), (0, .ref b)]) hx hb st_d15 rfl hl (by decide) rfl (fun ls hl => ?_)
  refine lv_iconst (v := 1) hx hb st_d16 rfl ?_
  refine va_newa (atype := .long) (a0 := (1, .inr (.inl (fun _ => 0)))) (ty := .long) hx hb (hts _ st_w13) rfl hK hP3 hD3 hS3 hA (fun cA => rfl) (by decide) rfl (by decide) (Nat.le_of_ble_eq_true rfl) (Nat.le_of_ble_eq_true rfl) st_d17 (fun q2 cA H4 hK4 hP4 hD4 hS4 => ?_)
  have ec : cA = cs 1 := by
    have h1 : s.vm.findClass ("[" ++ FieldType.long.toString) = some cA := (hK4.2 (ab_tys cs).length (cA, .long) (by simp)).2
    have h2 : s.vm.findClass ("[" ++ FieldType.long.toString) = some (cs 1) := (hK.2 1 (cs 1, .long) rfl).2
    rw [h2] at h1
    exact (Option.some.inj h1).symm
  subst ec
  refine lv_astore_n (lv' := [(3, .ref q2), (2, .ref q1), (1, .ref q0), (0, .ref b)]) hx hb st_d19 rfl hl (by decide) rfl (fun ls hl => ?_)
  refine lv_iconst (v := 0) hx hb st_d20 rfl ?_
  refine lv_istore (lv' := [(4, .int 0), (3, .ref q2), (2, .ref q1), (1, .ref q0), (0, .ref b)]) hx hb st_d21 hl (by decide) rfl (fun ls hl => ?_)
  have hat2 : (w2 ++ [(q2, Sum.inl (cs 1, 1, .inr (.inl (fun _ => 0))))] : va_W)[164]? = some (q2, Sum.inl (cs 1, 1, .inr (.inl (fun _ => 0)))) := by
    rw [List.getElem?_append_right (by omega), show 164 - w2.length = 0 by omega]
    rfl
  have k2 : ∀ k, k < w2.length → (w2 ++ [(q2, Sum.inl (cs 1, 1, .inr (.inl (fun _ => 0))))] : va_W)[k]? = w2[k]? := fun k hk => List.getElem?_append_left hk
  have k1 : ∀ k, k < w1.length → (w2 ++ [(q2, Sum.inl (cs 1, 1, .inr (.inl (fun _ => 0))))] : va_W)[k]? = w1[k]? := fun k hk => by
    rw [k2 k (by omega), hkeep2 k (by omega), List.getElem?_append_left hk]
  have a2 : (w2 ++ [(q2, Sum.inl (cs 1, 1, .inr (.inl (fun _ => 0))))] : va_W).map (·.1) = w2.map (·.1) ++ [q2] := by simp
  have a1 : (w2 ++ [(q2, Sum.inl (cs 1, 1, .inr (.inl (fun _ => 0))))] : va_W).map (·.1) = w1.map (·.1) ++ ([q1] ++ more2 ++ [q2]) := by
    rw [a2, hmore2]
    simp
  have h3 : ab_th tS (ab_tys cs) st_o (w2 ++ [(q2, Sum.inl (cs 1, 1, .inr (.inl (fun _ => 0))))]) := fun q hq => by
    have e1 : q = (164, (1, 1, .inl [(.ofNat 0, .ofNat 0)])) := by simpa [st_o] using hq
    subst e1
    exact ⟨q2, _, hat2, ab_zL⟩
  have ad0 : ((w2 ++ [(q2, Sum.inl (cs 1, 1, .inr (.inl (fun _ => 0))))] : va_W).map (·.1))[0]? = some q0 := by
    rw [a1, hmore1]
    rfl
  have ad1 : ((w2 ++ [(q2, Sum.inl (cs 1, 1, .inr (.inl (fun _ => 0))))] : va_W).map (·.1))[119]? = some q1 := by
    have hlm : (w1.map (·.1)).length = 119 := by rw [List.length_map]; exact hlen1
    rw [a1, List.getElem?_append_right (by omega), hlm]
    rfl
  have ad2 : ((w2 ++ [(q2, Sum.inl (cs 1, 1, .inr (.inl (fun _ => 0))))] : va_W).map (·.1))[164]? = some q2 := by
    rw [List.getElem?_map, hat2]
    rfl
  exact st_loop F (fun q h => h) hlt hNZ hr hlocks hL 513 0 rfl 0 ls _ (by decide) (Nat.zero_le _) ⟨hl.1, hl.2.1, lv_at hl 4 rfl, ⟨q0, ad0, lv_at hl 3 rfl⟩, ⟨q1, ad1, lv_at hl 2 rfl⟩, ⟨q2, ad2, lv_at hl 1 rfl⟩, lv_at hl 0 rfl⟩ ⟨lw_TH_0, List.mem_of_getElem? (i := 0) rfl, st_fit hth1 hth2 h3 k1 k2 a1 a2⟩ (st_eqs hth1 hth2 k1 k2 a1 a2) (by rw [List.length_append, hlen2]; rfl) H4 locs3 hP4 hD4 hS4
end
