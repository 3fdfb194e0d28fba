noncomputable section
def R_law : String := "SandFlagsLaw"
/-- what holds in the law's body -/
def lw_F (p : Program) (s : State) (m : MethodId) (meth : Method) (c : Code) (A : Nat → Prop) (D : va_G) (cs : Nat → ClassId) (tS b L : Nat) (xs : Nat → Int32) : Prop :=
  p.tables.exec = Jvm.exec ∧ c.code = code ∧ c.maxLocals = 8 ∧ s.vm.findClass R_law = some m.cls ∧ (∀ w ∈ lw_tbl, w.before #[Value.ref b] s = true) ∧ va_K D vwCl (ab_tys cs) s ∧ (∀ q, s.heap.size ≤ q → A q) ∧ va_Z "SandFlags$Rota" "CODE_OF_ONE" "[I" (.ref tS) A s s.heap ∧ va_T .int tS 4 ab_code1 A s s.heap ∧ va_X b L xs s s.heap ∧ b < s.heap.size ∧ ¬ A b
theorem lw_good {w : Cond} (hc : w ∈ ab_BIG) : GoodIn lw_tbl (w :: ab_BIG) := by
  intro v hv
  rcases List.mem_cons.mp hv with rfl | hv
  · exact ⟨ab_BIG_in _ hc, good_of_word (ab_BIG_good _ hc)⟩
  · exact ⟨ab_BIG_in _ hv, good_of_word (ab_BIG_good _ hv)⟩
section LAW
variable {p : Program} {l : Launch} {e : Env} {s : State} {m : MethodId} {below : List Frame} {meth : Method} {c : Code} {D : va_G} {A : Nat → Prop} {Q : State → Prop}
variable {I : (Nat → Value) → Nat → va_W → Prop} {tS b L cells slots d0 : Nat} {xs : Nat → Int32} {cs : Nat → ClassId} {T : ab_Tb} {O : ab_Cf} {M : Nat → Bool}
theorem lw_step (F : lw_F p s m meth c A D cs tS b L xs) (hcs : cells ≤ 601024 ∧ slots ≤ 7293033) (hI : ab_IC I M) (hMO : ab_MOK ZZ MtF wFF bFF vwCl T R_law) (hnj : ∀ ix k, T.2.2.2.2 ix ≠ some (.inl k)) (CO : ab_CO l ZZ d0 D vwCl cs tS M O) (hd0 : d0 ≤ 1000) :
    ∀ i len pc st sl, decode code pc = .ok (i, len) → ab_step T MtF O 8 M false i len pc st = some sl → (∀ w ∈ sl, ab_Ok p l e room_1 s m #[Value.ref b] below meth c D vwCl A Q I tS (ab_tys cs) 8 cells slots w.1 w.2) → ab_Ok p l e room_1 s m #[Value.ref b] below meth c D vwCl A Q I tS (ab_tys cs) 8 cells slots pc st := by
  intro i len pc st sl hd h k
  obtain ⟨hx, hb, hml, hown, hts, hK, hA, hZ, hT, hX, hbl, hbA⟩ := F
  have hB : ∀ w ∈ ab_BIG, w.before #[Value.ref b] s = true := fun w hw => hts w (ab_BIG_in w hw)
  refine ab_step_ok hI hx hb hown hts hK hZ hT (fun q => by cases q) (ab_TOK_mono hMO.1 ab_BIG_in) (fun ix kk st st' h1 h2 h3 h4 => absurd h1 (hnj ix kk)) (fun ix j' st sl h1 h2 h3 h4 => ?_) hd h k
  obtain ⟨s1, s2, s3, s4, s5, s6, s7⟩ := hMO.2.1 ix j' h1
  have hroom : ∀ d', d' ≤ d0 → (ab_rm d' 0 0).frames + 1 ≤ room_1.frames ∧ 8 + (ZZ.2.2.1 j' + 11) + (ab_rm d' 0 0).locals ≤ room_1.locals := fun d' hd' => ⟨by show d' + 1 ≤ 2048; omega, by show 8 + (ZZ.2.2.1 j' + 11) + 40 * d' ≤ 84000; omega⟩
  have hcB : ∀ d', d' ≤ d0 → CallB room_1 s #[Value.ref b] R_law ix (ZZ.1 j') (ZZ.2.1 j') (ZZ.2.2.1 j') (ZZ.2.2.2.1 j') (ab_wM ZZ j') (ab_rm d' 0 0) 0 0 (MtF j').1 := fun d' hd' => callB_of (MtF j').1 hts (lw_good s3) rfl rfl rfl (hB _ s2) (hB _ s1) s4 (hroom d' hd')
  cases hst : (MtF j').2.2 with
  | true =>
    refine ab_call_ok (q := ("", fun _ => ("", "", "", false), 0)) hI ⟨hx, hb, hml, hown, hts⟩ hK hA hZ hT hcs CO (fun q => by rw [hst] at q; cases q) (fun q => by rw [hst] at q; cases q) (fun _ d' hd' => ⟨hcB d' hd', hB _ (s6 hst)⟩) h2 h3 h4
  | false =>
    obtain ⟨t1, t2, Tb, N, t3⟩ := s7 hst
    refine ab_call_ok (q := ((ZZ.1 j').cls, Tb, N)) hI ⟨hx, hb, hml, hown, hts⟩ hK hA hZ hT hcs CO (fun _ => t3) (fun _ d' hd' => ⟨hcB d' hd', hB _ t1, hB _ t2⟩) (fun q => by rw [hst] at q; cases q) h2 h3 h4
end LAW
/-- the turn's numbers: 0 the place in the script, 1 .. 6 the six ints, 7 the script -/
def lw_I (iv : Int32) (i0 b : Nat) (xs : Nat → Int32) (M : Nat → Bool) (ws0 : va_W) : (Nat → Value) → Nat → va_W → Prop := fun ρ n ws => (ρ 0 = .int iv ∧ (∀ k, k < 6 → ρ (1 + k) = .int (xs (i0 + k))) ∧ ρ 7 = .ref b ∧ 8 ≤ n) ∧ ab_gr M ws0 ws
theorem lw_I_IC {iv : Int32} {i0 b : Nat} {xs : Nat → Int32} {M : Nat → Bool} {ws0 : va_W} : ab_IC (lw_I iv i0 b xs M ws0) M := by
  intro ρ n ws ρ' n' ws' h hx hg
  obtain ⟨⟨h1, h2, h3, h4⟩, h5⟩ := h
  have hn : n ≤ n' := hx.1
  exact ⟨⟨by rw [hx.2 0 (by omega)]; exact h1, fun k hk => by rw [hx.2 (1 + k) (by omega)]; exact h2 k hk, by rw [hx.2 7 (by omega)]; exact h3, by omega⟩, h5.trans hg⟩
def lw_is4 (q : Option (Instr × Nat)) : Bool := match q with
  | some (.iload j, n) => Nat.beq j 4 && Nat.beq n 2
  | _ => false
def lw_isk (q : Option (Instr × Nat)) : Option Nat := match q with
  | some (.iconst k, n) => bif (ab_le (.ofNat 0) k && ab_le k (.ofNat 5)) && Nat.beq n 1 then some k.toNat else none
  | _ => none
def lw_isa (q : Option (Instr × Nat)) : Bool := match q with
  | some (.iadd, n) => Nat.beq n 1
  | _ => false
def lw_isl (q : Option (Instr × Nat)) : Bool := match q with
  | some (.iaload, n) => Nat.beq n 1
  | _ => false
def lw_sv (i : Nat) (v : Option ab_SV) : Bool := match v with
  | some (some (.inl j)) => Nat.beq j i
  | _ => false
/-- script[i + k] -/
def lw_mac (tb : List (Nat × Instr × Nat)) (pc : Nat) (st : ab_St) : Option (List (Nat × ab_St)) := match lw_isk (ab_lk tb (pc + 3)) with
  | some k => bif (lw_is4 (ab_lk tb (pc + 1)) && (lw_isa (ab_lk tb (pc + 4)) && lw_isl (ab_lk tb (pc + 5)))) && (lw_sv 7 st.2.2.2.1[0]? && lw_sv 0 st.2.2.2.1[4]?) then some [(pc + 6, (st.1, st.2.1, st.2.2.1, st.2.2.2.1, some (.inl (1 + k)) :: st.2.2.2.2))] else none
  | none => none
theorem lw_is4_ok {q : Option (Instr × Nat)} (h : lw_is4 q = true) : q = some (.iload 4, 2) := by
  unfold lw_is4 at h
  split at h
  · rw [Bool.and_eq_true] at h
    have h1 := Nat.eq_of_beq_eq_true h.1
    have h2 := Nat.eq_of_beq_eq_true h.2
    subst h1; subst h2; rfl
  · cases h
theorem lw_isa_ok {q : Option (Instr × Nat)} (h : lw_isa q = true) : q = some (.iadd, 1) := by
  unfold lw_isa at h
  split at h
  · have h2 := Nat.eq_of_beq_eq_true h
    subst h2; rfl
  · cases h
theorem lw_isl_ok {q : Option (Instr × Nat)} (h : lw_isl q = true) : q = some (.iaload, 1) := by
  unfold lw_isl at h
  split at h
  · have h2 := Nat.eq_of_beq_eq_true h
    subst h2; rfl
  · cases h
theorem lw_isk_ok {q : Option (Instr × Nat)} {k : Nat} (h : lw_isk q = some k) : q = some (.iconst (k : Int), 1) ∧ k ≤ 5 := by
  unfold lw_isk at h
  split at h
  · rename_i z n
    cases hb : ((ab_le (.ofNat 0) z && ab_le z (.ofNat 5)) && Nat.beq n 1) with
    | false => rw [hb] at h; simp at h
    | true =>
      rw [hb] at h
      simp only [cond_true] at h
      cases h
      simp only [Bool.and_eq_true, ab_le_iff] at hb
      obtain ⟨⟨b1, b2⟩, b3⟩ := hb
      have h2 := Nat.eq_of_beq_eq_true b3
      subst h2
      have b1 : (0 : Int) ≤ z := b1
      have b2 : z ≤ 5 := b2
      refine ⟨?_, by omega⟩
      rw [Int.toNat_of_nonneg b1]
  · cases h
theorem lw_sv_ok {i : Nat} {v : Option ab_SV} (h : lw_sv i v = true) : v = some (some (.inl i)) := by
  unfold lw_sv at h
  split at h
  · rw [Nat.eq_of_beq_eq_true h]
  · cases h
section LAM
variable {p : Program} {l : Launch} {e : Env} {s : State} {m : MethodId} {below : List Frame} {meth : Method} {c : Code} {D : va_G} {A : Nat → Prop} {Q : State → Prop}
variable {tS b L cells slots i0 : Nat} {xs : Nat → Int32} {cs : Nat → ClassId} {M : Nat → Bool} {iv : Int32} {ws0 : va_W}
theorem lw_mac_ok (F : lw_F p s m meth c A D cs tS b L xs) (hiv : iv.toInt = (i0 : Int)) (hL : i0 + 6 ≤ L) (hL2 : L ≤ 3072) {tb : List (Nat × Instr × Nat)} (htb : ∀ pc i len, (pc, i, len) ∈ tb → decode code pc = .ok (i, len)) {pc : Nat} {st : ab_St} {sl : List (Nat × ab_St)} (hd : decode code pc = .ok (.aload_n 0, 1)) (h : lw_mac tb pc st = some sl)
    (k : ∀ w ∈ sl, ab_Ok p l e room_1 s m #[Value.ref b] below meth c D vwCl A Q (lw_I iv i0 b xs M ws0) tS (ab_tys cs) 8 cells slots w.1 w.2) : ab_Ok p l e room_1 s m #[Value.ref b] below meth c D vwCl A Q (lw_I iv i0 b xs M ws0) tS (ab_tys cs) 8 cells slots pc st := by
  obtain ⟨hx, hb, hml, hown, hts, hK, hA, hZ, hT, hX, hbl, hbA⟩ := F
  unfold lw_mac at h
  split at h
  · rename_i z hz
    cases hbb : ((lw_is4 (ab_lk tb (pc + 1)) && (lw_isa (ab_lk tb (pc + 4)) && lw_isl (ab_lk tb (pc + 5)))) && (lw_sv 7 st.2.2.2.1[0]? && lw_sv 0 st.2.2.2.1[4]?)) with
    | false => rw [hbb] at h; simp at h
    | true =>
      rw [hbb] at h
      simp only [cond_true] at h
      cases h
      simp only [Bool.and_eq_true] at hbb
      obtain ⟨⟨b1, b2, b3⟩, b4, b5⟩ := hbb
      obtain ⟨z1, z2⟩ := lw_isk_ok hz
      have e1 := htb _ _ _ (ab_lk_mem (lw_is4_ok b1))
      have e2 := htb _ _ _ (ab_lk_mem z1)
      have e3 := htb _ _ _ (ab_lk_mem (lw_isa_ok b2))
      have e4 := htb _ _ _ (ab_lk_mem (lw_isl_ok b3))
      have k1 := k _ List.mem_cons_self
      intro ρ ls stk ws hi S H locs hP hD hS
      obtain ⟨⟨i1, i2, i3, i4⟩, i5⟩ := id hi
      obtain ⟨v0, w1, w2⟩ := S.2.2.1.2.2.2 0 _ (lw_sv_ok b4)
      obtain ⟨v4, w3, w4⟩ := S.2.2.1.2.2.2 4 _ (lw_sv_ok b5)
      have w2 : v0 = ρ 7 := w2.2
      have w4 : v4 = ρ 0 := w4.2
      rw [w2, i3] at w1
      rw [w4, i1] at w3
      have ez : (Int32.ofInt (z : Int)).toInt = (z : Int) := by
        rw [Int32.toInt_ofInt]
        exact ab_bm (by omega) (by omega)
      have es : (iv + Int32.ofInt (z : Int)).toInt = ((i0 + z : Nat) : Int) := by
        rw [Int32.toInt_add, ez, hiv]
        rw [ab_bm (by omega) (by omega)]
        omega
      have ec := ab_clamp (x := iv + Int32.ofInt (z : Int)) (by omega)
      have ec2 : (iv + Int32.ofInt (z : Int)).toNatClampNeg = i0 + z := by omega
      refine lv_aload_n hx hb hd rfl w1 ?_
      refine lv_iload hx hb e1 w3 ?_
      refine lv_iconst hx hb e2 rfl ?_
      refine lv_iadd hx hb e3 ?_
      refine va_sld hx hb hX hbl hbA hS ?_ e4 ?_
      · rintro (q | q)
        · rw [Int32.lt_iff_toInt_lt, es, show (0 : Int32).toInt = 0 from rfl] at q; omega
        · omega
      · rw [ec2]
        exact k1 ρ ls (.int (xs (i0 + z)) :: stk) ws hi ⟨S.1, S.2.1, S.2.2.1, (show ab_all2 (ab_val ρ st.1 (ws.map (·.1)) tS) (some (.inl (1 + z)) :: st.2.2.2.2) (.int (xs (i0 + z)) :: stk) from ⟨⟨by omega, (i2 z (by omega)).symm⟩, S.2.2.2⟩)⟩ H locs hP hD hS
  · cases h
/-- if_icmpeq of one number with itself -/
def lw_same (co : Jvm.ClassFile.Cond) (off : Int) (pc : Nat) (st : ab_St) : Option (List (Nat × ab_St)) := match co, st.2.2.2.2, ab_tgt pc off with
  | .eq, some (.inl i) :: some (.inl j) :: r, some t => bif Nat.beq i j && ab_ldv 0 st.2.1 (some (.inl i)) then some [(t, (st.1, st.2.1, st.2.2.1, st.2.2.2.1, r))] else none
  | _, _, _ => none
theorem lw_same_ok (F : lw_F p s m meth c A D cs tS b L xs) {I : (Nat → Value) → Nat → va_W → Prop} {co : Jvm.ClassFile.Cond} {off : Int} {pc : Nat} {st : ab_St} {sl : List (Nat × ab_St)} (hd : decode code pc = .ok (.if_icmp co off, 3)) (h : lw_same co off pc st = some sl)
    (k : ∀ w ∈ sl, ab_Ok p l e room_1 s m #[Value.ref b] below meth c D vwCl A Q I tS (ab_tys cs) 8 cells slots w.1 w.2) : ab_Ok p l e room_1 s m #[Value.ref b] below meth c D vwCl A Q I tS (ab_tys cs) 8 cells slots pc st := by
  obtain ⟨hx, hb, -⟩ := F
  obtain ⟨n, en, hp, Lc, sk⟩ := st
  unfold lw_same at h
  split at h
  · rename_i i j r t hsk ht
    cases hbb : (Nat.beq i j && ab_ldv 0 en (some (.inl i))) with
    | false => rw [hbb] at h; simp at h
    | true =>
      rw [hbb] at h
      simp only [cond_true] at h
      cases h
      rw [Bool.and_eq_true] at hbb
      have e1 : i = j := Nat.eq_of_beq_eq_true hbb.1
      subst e1
      have k1 := k _ List.mem_cons_self
      intro ρ ls stk ws hi S H locs hP hD hS
      have hsk2 : sk = some (.inl i) :: some (.inl i) :: r := hsk
      subst hsk2
      obtain ⟨x, stk1, rfl, hx1, S1⟩ := ab_sat_top S
      obtain ⟨y, stk2, rfl, hy1, S2⟩ := ab_sat_top S1
      obtain ⟨⟨z, rfl⟩, -⟩ := ab_ldv_ok S.1 hbb.2 hx1
      have e2 : y = .int z := by
        have a1 : Value.int z = ρ i := hx1.2
        have a2 : y = ρ i := hy1.2
        rw [a2, a1]
      subst e2
      refine ab_row_icmp hx hb hd (ab_tgt_ok ht) (fun _ => k1 ρ ls stk2 ws hi S2 H locs hP hD hS) (fun hc => absurd (show z.toInt = z.toInt from rfl) hc)
  · cases h
def lw_stp (tb : List (Nat × Instr × Nat)) (stp : Instr → Nat → Nat → ab_St → Option (List (Nat × ab_St))) (nw : Nat → ab_St → Option (List (Nat × ab_St))) (i : Instr) (len pc : Nat) (st : ab_St) : Option (List (Nat × ab_St)) := match i with
  | .aload_n z => bif Nat.beq z.val 0 then (bif Nat.beq len 1 then lw_mac tb pc st else none) else stp (.aload_n z) len pc st
  | .if_icmp co off => (match lw_same co off pc st with
    | some sl => bif Nat.beq len 3 then some sl else none
    | none => stp (.if_icmp co off) len pc st)
  | .invokestatic ix => bif Nat.beq ix 109 then (bif Nat.beq len 3 then nw pc st else none) else stp (.invokestatic ix) len pc st
  | i => stp i len pc st
theorem lw_stp_ok {T : ab_Tb} {O : ab_Cf} {d0 : Nat} {nw : Nat → ab_St → Option (List (Nat × ab_St))} (F : lw_F p s m meth c A D cs tS b L xs) (hcs : cells ≤ 601024 ∧ slots ≤ 7293033) (hMO : ab_MOK ZZ MtF wFF bFF vwCl T R_law) (hnj : ∀ ix k, T.2.2.2.2 ix ≠ some (.inl k)) (CO : ab_CO l ZZ d0 D vwCl cs tS M O) (hd0 : d0 ≤ 1000) (hiv : iv.toInt = (i0 : Int)) (hL : i0 + 6 ≤ L) (hL2 : L ≤ 3072) {tb : List (Nat × Instr × Nat)} (htb : ∀ pc i len, (pc, i, len) ∈ tb → decode code pc = .ok (i, len))
    (hnw : ∀ pc st sl, decode code pc = .ok (.invokestatic 109, 3) → nw pc st = some sl → (∀ w ∈ sl, ab_Ok p l e room_1 s m #[Value.ref b] below meth c D vwCl A Q (lw_I iv i0 b xs M ws0) tS (ab_tys cs) 8 cells slots w.1 w.2) → ab_Ok p l e room_1 s m #[Value.ref b] below meth c D vwCl A Q (lw_I iv i0 b xs M ws0) tS (ab_tys cs) 8 cells slots pc st) :
    ∀ i len pc st sl, decode code pc = .ok (i, len) → lw_stp tb (ab_step T MtF O 8 M false) nw i len pc st = some sl → (∀ w ∈ sl, ab_Ok p l e room_1 s m #[Value.ref b] below meth c D vwCl A Q (lw_I iv i0 b xs M ws0) tS (ab_tys cs) 8 cells slots w.1 w.2) → ab_Ok p l e room_1 s m #[Value.ref b] below meth c D vwCl A Q (lw_I iv i0 b xs M ws0) tS (ab_tys cs) 8 cells slots pc st := by
  intro i len pc st sl hd h k
  have gen := fun (i : Instr) (hd : decode code pc = .ok (i, len)) (h : ab_step T MtF O 8 M false i len pc st = some sl) => lw_step (l := l) (e := e) (below := below) (Q := Q) F hcs (lw_I_IC (iv := iv) (i0 := i0) (b := b) (xs := xs) (M := M) (ws0 := ws0)) hMO hnj CO hd0 i len pc st sl hd h k
  unfold lw_stp at h
  split at h
  · rename_i z
    cases hz : Nat.beq z.val 0 with
    | false => rw [hz] at h; exact gen _ hd h
    | true =>
      rw [hz] at h
      simp only [cond_true] at h
      cases hl : Nat.beq len 1 with
      | false => rw [hl] at h; simp at h
      | true =>
        rw [hl] at h
        simp only [cond_true] at h
        have e1 : len = 1 := Nat.eq_of_beq_eq_true hl
        subst e1
        have e2 : z = 0 := by
          have := Nat.eq_of_beq_eq_true hz
          exact Fin.ext this
        subst e2
        exact lw_mac_ok F hiv hL hL2 htb hd h k
  · rename_i co off
    split at h
    · rename_i sl' hsl'
      cases hl : Nat.beq len 3 with
      | false => rw [hl] at h; simp at h
      | true =>
        rw [hl] at h
        simp only [cond_true] at h
        cases h
        have e1 : len = 3 := Nat.eq_of_beq_eq_true hl
        subst e1
        exact lw_same_ok F hd hsl' k
    · exact gen _ hd h
  · rename_i ix
    cases hz : Nat.beq ix 109 with
    | false => rw [hz] at h; exact gen _ hd h
    | true =>
      rw [hz] at h
      simp only [cond_true] at h
      cases hl : Nat.beq len 3 with
      | false => rw [hl] at h; simp at h
      | true =>
        rw [hl] at h
        simp only [cond_true] at h
        have e1 : len = 3 := Nat.eq_of_beq_eq_true hl
        subst e1
        have e2 : ix = 109 := Nat.eq_of_beq_eq_true hz
        subst e2
        exact hnw pc st sl hd h k
  · exact gen _ hd h
end LAM
end
