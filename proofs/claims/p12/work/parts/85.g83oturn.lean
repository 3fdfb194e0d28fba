noncomputable section
/-- a turn that needs what a throw needs -/
def lw_TPn (pc0 : Nat) (th : ab_TH) : Prop := ∀ (p : Program) (l : Launch) (e : Env) (s : State) (m : MethodId) (below : List Frame) (meth : Method) (c : Code) (D : va_G) (A : Nat → Prop) (Q : State → Prop) (cs : Nat → ClassId) (tS b L i0 cells slots sa : Nat) (xs : Nat → Int32) (iv : Int32) (ws : va_W) (ls : Array Slot), lw_F p s m meth c A D cs tS b L xs → l.stackTraces = false → nw_Z A sa s s.heap → (cells + 1 ≤ 601024 ∧ slots + 6 ≤ 7293033) → iv.toInt = (i0 : Int) → i0 + 6 ≤ L → L ≤ 3072 → lw_Lc b iv ws ls → ab_th tS (ab_tys cs) th ws → rx_EQ ws → ws.length = 165 →
  (∀ (ls' : Array Slot) (ws' : va_W), lw_Lc b iv ws' ls' → (∃ th ∈ lw_THs, ab_th tS (ab_tys cs) th ws') → rx_EQ ws' → ws'.length = 165 → ab_W p l e room_1 s m #[Value.ref b] below meth c D vwCl A Q (cells + 1) (slots + 6) 1810 ls' [] ws') → ab_W p l e room_1 s m #[Value.ref b] below meth c D vwCl A Q cells slots pc0 ls [] ws
def nz_01 (e : ab_En) (v : ab_SV) : Bool := match ab_num e false v with
  | some x => ab_le (.ofNat 0) x.2.1 && ab_le x.2.2.1 (.ofNat 1)
  | none => false
def nz_loc (L : List ab_SV) : Bool := (lw_sv 7 L[0]? && lw_rf 0 L[1]?) && ((lw_rf 119 L[2]? && lw_rf 164 L[3]?) && lw_sv 0 L[4]?)
theorem nz_Lc {iv : Int32} {i0 b n tS : Nat} {xs : Nat → Int32} {M : Nat → Bool} {ws0 w : va_W} {ρ : Nat → Value} {en : ab_En} {hp : ab_AH} {Lc sk : List ab_SV} {ls : Array Slot} {stk : List Value} {tys : List (ClassId × FieldType)} (hi : lw_I iv i0 b xs M ws0 ρ n w) (S : ab_sat ρ tS tys 8 (n, en, hp, Lc, sk) ls stk w) (h : nz_loc Lc = true) : lw_Lc b iv w ls := by
  unfold nz_loc at h
  simp only [Bool.and_eq_true] at h
  obtain ⟨⟨t1, t2⟩, ⟨t3, t4⟩, t5⟩ := h
  obtain ⟨⟨i1, i2, i3, i4⟩, i5⟩ := hi
  have hloc := S.2.2.1.2.2.2
  obtain ⟨v0, w0, x0⟩ := hloc 0 _ (lw_sv_ok t1)
  obtain ⟨v1, w1, x1⟩ := hloc 1 _ (lw_rf_ok t2)
  obtain ⟨v2, w2, x2⟩ := hloc 2 _ (lw_rf_ok t3)
  obtain ⟨v3, w3, x3⟩ := hloc 3 _ (lw_rf_ok t4)
  obtain ⟨v4, w4, x4⟩ := hloc 4 _ (lw_sv_ok t5)
  have x0 : v0 = ρ 7 := x0.2
  have x4 : v4 = ρ 0 := x4.2
  rw [x0, i3] at w0
  rw [x4, i1] at w4
  obtain ⟨a1, y1, rfl⟩ := lw_one x1
  obtain ⟨a2, y2, rfl⟩ := lw_one x2
  obtain ⟨a3, y3, rfl⟩ := lw_one x3
  exact ⟨S.2.2.1.1, S.2.2.1.2.1, w0, ⟨a1, y1, w1⟩, ⟨a2, y2, w2⟩, ⟨a3, y3, w3⟩, w4⟩
theorem nz_fullL (x : Int64) : (Int.negSucc 9223372036854775807) ≤ x.toInt ∧ x.toInt ≤ (Int.ofNat 9223372036854775807) := by
  have h1 := Int64.le_toInt x
  have h2 := Int64.toInt_lt x
  rw [show Int.negSucc 9223372036854775807 = -9223372036854775808 from rfl, show Int.ofNat 9223372036854775807 = 9223372036854775807 from rfl]
  omega
def nz_ter (w : Nat × ab_St) : Bool := (Nat.beq w.1 1131 && nz_loc w.2.2.2.2.1) && (match w.2.2.2.2.2 with
  | [v1, v2, v3, v4] => (lw_rf 164 (some v1) && nz_01 w.2.2.1 v2) && ((ab_num w.2.2.1 false v3).isSome && lw_rf 0 (some v4))
  | _ => false)
abbrev nz_O : ab_Cf := ab_OO (ab_SLl []) (fun k => ab_mem k []) BdF ZZ MtF nw_M 2000 0
def nz_chk : Bool := match ab_run lwt_21 [1131] (lw_stp lwt_21 (ab_step TbL MtF nz_O 8 nw_M false) (fun _ _ => none)) 2000 1109 (lw_sg []) with
  | some ts => ts.all nz_ter
  | none => false
theorem nz_ck : nz_chk = true := by decide +kernel
def nz_need : ab_TH := [(0, ci_0), (77, ci_77), (79, ci_79), (164, ci_164)]
def nz_full (c : ab_TC) : Bool := match c with
  | (t, N, .inl [q]) => (Nat.beq t 1 && Nat.beq N 1) && (ab_le q.1 (.negSucc 9223372036854775807) && ab_le (.ofNat 9223372036854775807) q.2)
  | _ => false
def nz_b (th : ab_TH) : Bool := ab_leH (ab_inH th 0 []).2.2 (ab_inH th 0 []).1 nz_need && th.all (fun q => !(Nat.beq q.1 164) || nz_full q.2)
theorem nz_cells : lw_THs.all nz_b = true := by decide +kernel
theorem nz_full_ok {ad : List Nat} {tS : Nat} {cs : Nat → ClassId} {c : ab_TC} {f : Nat → Int64} (h : nz_full c = true) : ab_tc ad tS (ab_tys cs) c (.inl (cs 1, 1, .inr (.inl f))) := by
  unfold nz_full at h
  split at h
  · rename_i t N q
    rw [Bool.and_eq_true, Bool.and_eq_true, Bool.and_eq_true, ab_le_iff, ab_le_iff] at h
    obtain ⟨⟨h1, h2⟩, h3, h4⟩ := h
    have e1 : t = 1 := Nat.eq_of_beq_eq_true h1
    have e2 : N = 1 := Nat.eq_of_beq_eq_true h2
    subst e1; subst e2
    exact ⟨rfl, rfl, rfl, Or.inl ⟨_, rfl, fun i _ => ⟨q, List.mem_singleton.mpr rfl, Int.le_trans h3 (nz_fullL (f i)).1, Int.le_trans (nz_fullL (f i)).2 h4⟩⟩⟩
  · cases h
theorem tz_21 : ∀ th ∈ lw_THs, lw_TPn 1109 th := by
  intro th hmem p l e s m below meth c D A Q cs tS b L i0 cells slots sa xs iv ws ls F hlt hNZ hcs hiv hL hL2 hl hth hEQ hlen K
  have hcl := List.all_eq_true.mp nz_cells th hmem
  unfold nz_b at hcl
  rw [Bool.and_eq_true] at hcl
  obtain ⟨hle, call⟩ := hcl
  obtain ⟨ρ9, -, e9, p9⟩ := ab_inH_ok (ρ := fun _ => .null) (n := 0) (e := []) (fun q hq => by cases hq) hth
  have hneed : ab_th tS (ab_tys cs) nz_need ws := ab_leH_ok e9 hle p9
  have hnth : ab_th tS (ab_tys cs) nw_th ws := fun q hq => by
    simp only [nw_th, List.mem_cons, List.not_mem_nil, or_false] at hq
    rcases hq with rfl | rfl | rfl
    · exact hneed _ (List.mem_of_getElem? (i := 0) rfl)
    · exact hneed _ (List.mem_of_getElem? (i := 1) rfl)
    · exact hneed _ (List.mem_of_getElem? (i := 2) rfl)
  obtain ⟨a0, e0, hw0, ht0⟩ := hneed (0, ci_0) (List.mem_of_getElem? (i := 0) rfl)
  obtain ⟨fs, rfl, -, -⟩ := sg_tcO ht0
  obtain ⟨a3, e3, hw3, ht3⟩ := hneed (164, ci_164) (List.mem_of_getElem? (i := 3) rfl)
  obtain ⟨f, rfl, -⟩ := sg_tcL ht3
  -- behind the call
  have KB : ∀ ls : Array Slot, lw_Lc b iv ws ls → ∀ (r : Int32) (f' : Nat → Int64), ab_W p l e room_1 s m #[Value.ref b] below meth c D vwCl A Q (cells + 1) (slots + 6) 1134 ls [.int r] (ws.set 164 (a3, .inl (cs 1, 1, .inr (.inl f')))) := by
    intro ls hl r f' H locs hP hD hS
    obtain ⟨l1, l2, l3, ⟨b1, l4, l5⟩, ⟨b2, l6, l7⟩, ⟨b3, l8, l9⟩, l10⟩ := hl
    have had := ab_ad_set (e' := .inl (cs 1, 1, .inr (.inl f'))) hw3
    have hls : lv_has ls 8 [(0, .ref b), (1, .ref b1), (2, .ref b2), (3, .ref b3), (4, .int iv)] := by
      refine ⟨l1, l2, fun q hq => ?_⟩
      simp only [List.mem_cons, List.not_mem_nil, or_false] at hq
      rcases hq with rfl | rfl | rfl | rfl | rfl
      · exact l3
      · exact l5
      · exact l7
      · exact l9
      · exact l10
    refine lv_istore (i := 5) F.1 F.2.1 nl_d1134 hls (by decide) rfl (fun ls1 hl1 => ?_)
    have hlc : lw_Lc b iv (ws.set 164 (a3, .inl (cs 1, 1, .inr (.inl f')))) ls1 := by
      refine ⟨hl1.1, hl1.2.1, lv_at hl1 1 rfl, ⟨b1, by rw [had]; exact l4, lv_at hl1 2 rfl⟩, ⟨b2, by rw [had]; exact l6, lv_at hl1 3 rfl⟩, ⟨b3, by rw [had]; exact l8, lv_at hl1 4 rfl⟩, lv_at hl1 5 rfl⟩
    have hth2 : ab_th tS (ab_tys cs) th (ws.set 164 (a3, .inl (cs 1, 1, .inr (.inl f')))) := fun q hq => by
      rw [had]
      by_cases e164 : q.1 = 164
      · have hq2 := List.all_eq_true.mp call q hq
        rw [e164] at hq2
        have hq3 : nz_full q.2 = true := hq2
        exact ⟨a3, _, by rw [e164]; exact List.getElem?_set_self (List.getElem?_eq_some_iff.mp hw3).1, nz_full_ok hq3⟩
      · obtain ⟨a, e1, g1, g2⟩ := hth q hq
        exact ⟨a, e1, by rw [List.getElem?_set_ne (fun z => e164 z.symm)]; exact g1, g2⟩
    have hEQ2 : rx_EQ (ws.set 164 (a3, .inl (cs 1, 1, .inr (.inl f')))) := ⟨rl_fr_ok (M := fun k => Nat.beq k 164) (by decide +kernel) (ab_gr.set hw3 rfl trivial) hEQ.1, XQ_fr (M := fun k => Nat.beq k 164) (by decide +kernel) (ab_gr.set hw3 rfl trivial) hEQ.2⟩
    exact nz_all th hmem p l e s m below meth c D A Q cs tS b L i0 (cells + 1) (slots + 6) xs iv _ ls1 F hcs hiv hL hL2 hlc hth2 hEQ2 (by rw [List.length_set]; exact hlen) K H locs hP hD hS
  have hth0 : ab_th tS (ab_tys cs) [] ws := fun q hq => by cases hq
  obtain ⟨ρ, hi, S⟩ := lw_sg_ok (M := nw_M) (xs := xs) hiv (by omega) hl hth0
  have CO : ab_CO l ZZ (1 + 0) D vwCl cs tS nw_M nz_O := sg_CO ab_Gl_ok (by decide) (fun _ h => absurd h List.not_mem_nil) (fun _ h => absurd h List.not_mem_nil)
  have hc := nz_ck
  unfold nz_chk at hc
  split at hc
  · rename_i ts hts
    have hrun := ab_run_ok (cc := code) (P := fun pc st => ab_Ok p l e room_1 s m #[Value.ref b] below meth c D vwCl A Q (lw_I iv i0 b xs nw_M ws) tS (ab_tys cs) 8 cells slots pc st) (ab_tbo lto_21) (lw_stp_ok F ⟨by omega, by omega⟩ MOKL lw_nj CO (by decide) hiv hL hL2 (ab_tbo lto_21) (fun _ _ _ _ h => by cases h)) 2000 1109 _ ts hts (fun w hw => ?_)
    · exact hrun ρ ls [] ws hi S
    · have ht := List.all_eq_true.mp hc w hw
      obtain ⟨pc, n, en, hp, Lc, sk⟩ := w
      intro ρ' ls' stk u hi' Sa
      have eu : u = ws := nw_same hi'.2
      subst eu
      unfold nz_ter at ht
      rw [Bool.and_eq_true, Bool.and_eq_true] at ht
      obtain ⟨⟨t0, tl⟩, ht⟩ := ht
      have hlc := nz_Lc hi' Sa tl
      have epc : pc = 1131 := Nat.eq_of_beq_eq_true t0
      subst epc
      split at ht
      · rename_i v1 v2 v3 v4 hsk
        have hsk2 : sk = [v1, v2, v3, v4] := hsk
        subst hsk2
        rw [Bool.and_eq_true, Bool.and_eq_true, Bool.and_eq_true] at ht
        obtain ⟨⟨t1, t2⟩, t3, t4⟩ := ht
        have q1 : v1 = some (.inr (.inl [164])) := Option.some.inj (lw_rf_ok t1)
        have q4 : v4 = some (.inr (.inl [0])) := Option.some.inj (lw_rf_ok t4)
        subst q1; subst q4
        match stk, Sa.2.2.2 with
        | [y1, y2, y3, y4], hst =>
          obtain ⟨s1, s2, s3, s4, -⟩ := hst
          obtain ⟨z1, g1, rfl⟩ := lw_one s1
          obtain ⟨z4, g4, rfl⟩ := lw_one s4
          have e1 : a3 = z1 := ab_ad_get g1 hw3
          have e4 : a0 = z4 := ab_ad_get g4 hw0
          subst e1; subst e4
          obtain ⟨⟨i3, r3⟩, hr3⟩ := Option.isSome_iff_exists.mp t3
          obtain ⟨-, -, -, x3, rfl, -⟩ := ab_numI Sa.1 hr3 s3
          unfold nz_01 at t2
          split at t2
          · rename_i x hx
            obtain ⟨i2, r2⟩ := x
            rw [Bool.and_eq_true, ab_le_iff, ab_le_iff] at t2
            obtain ⟨-, -, -, x2, rfl, -, k1, k2, -⟩ := ab_numI Sa.1 hx s2
            exact nl_call F hlt hNZ hcs hw0 hw3 ⟨Int.le_trans t2.1 k1, Int.le_trans k2 t2.2⟩ hnth Sa.2.2.1.1 (KB ls' hlc)
          · cases t2
        | [], hst => exact hst.elim
        | [_], hst => exact hst.2.elim
        | [_, _], hst => exact hst.2.2.elim
        | [_, _, _], hst => exact hst.2.2.2.elim
        | _ :: _ :: _ :: _ :: _ :: _, hst => exact hst.2.2.2.2.elim
      · cases ht
  · cases hc
end
