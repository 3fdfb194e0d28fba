noncomputable section
def ab_lk (l : List (Nat × Instr × Nat)) (pc : Nat) : Option (Instr × Nat) := @List.rec (Nat × Instr × Nat) (fun _ => Option (Instr × Nat)) none (fun q _ ih => @Bool.rec (fun _ => Option (Instr × Nat)) ih (some q.2) (Nat.beq q.1 pc)) l
theorem ab_lk_cons {q : Nat × Instr × Nat} {r : List (Nat × Instr × Nat)} {i : Nat} : ab_lk (q :: r) i = bif Nat.beq q.1 i then some q.2 else ab_lk r i := by
  show @Bool.rec (fun _ => Option (Instr × Nat)) (ab_lk r i) (some q.2) (Nat.beq q.1 i) = _
  cases Nat.beq q.1 i <;> rfl
/-- the row at pc and those behind it -/
def ab_ls (l : List (Nat × Instr × Nat)) (pc : Nat) : List (Nat × Instr × Nat) := @List.rec (Nat × Instr × Nat) (fun _ => List (Nat × Instr × Nat)) [] (fun q r ih => @Bool.rec (fun _ => List (Nat × Instr × Nat)) ih (q :: r) (Nat.beq q.1 pc)) l
theorem ab_ls_cons {q : Nat × Instr × Nat} {r : List (Nat × Instr × Nat)} {i : Nat} : ab_ls (q :: r) i = bif Nat.beq q.1 i then q :: r else ab_ls r i := by
  show @Bool.rec (fun _ => List (Nat × Instr × Nat)) (ab_ls r i) (q :: r) (Nat.beq q.1 i) = _
  cases Nat.beq q.1 i <;> rfl
theorem ab_ls_sub {pc : Nat} : ∀ {l : List (Nat × Instr × Nat)} {x : Nat × Instr × Nat}, x ∈ ab_ls l pc → x ∈ l
  | [], x, h => h
  | q :: r, x, h => by
    rw [ab_ls_cons] at h
    cases hb : Nat.beq q.1 pc with
    | true => rw [hb] at h; exact h
    | false => rw [hb] at h; exact List.mem_cons_of_mem _ (ab_ls_sub h)
theorem ab_lk_mem : ∀ {tb : List (Nat × Instr × Nat)} {pc : Nat} {q : Instr × Nat}, ab_lk tb pc = some q → (pc, q) ∈ tb
  | [], pc, q, h => by cases h
  | w :: r, pc, q, h => by
    rw [ab_lk_cons] at h
    cases hb : Nat.beq w.1 pc with
    | true =>
      rw [hb] at h
      simp only [cond_true] at h
      cases h
      have e1 : w.1 = pc := Nat.eq_of_beq_eq_true hb
      subst e1
      exact List.mem_cons_self
    | false =>
      rw [hb] at h
      simp only [cond_false] at h
      exact List.mem_cons_of_mem _ (ab_lk_mem h)
def ab_ret (i : Instr) : Bool := match i with
  | .ireturn => true
  | .lreturn => true
  | .return_ => true
  | _ => false
def ab_mem (k : Nat) (l : List Nat) : Bool := @List.rec Nat (fun _ => Bool) false (fun j _ ih => @Bool.rec (fun _ => Bool) ih true (Nat.beq j k)) l
theorem ab_mem_cons {k j : Nat} {r : List Nat} : ab_mem k (j :: r) = (Nat.beq j k || ab_mem k r) := by
  show @Bool.rec (fun _ => Bool) (ab_mem k r) true (Nat.beq j k) = _
  cases Nat.beq j k <;> rfl
theorem ab_mem_nil {k : Nat} : ab_mem k [] = false := rfl
theorem ab_mem_iff {k : Nat} : ∀ {l : List Nat}, ab_mem k l = true ↔ k ∈ l
  | [] => by simp [ab_mem_nil]
  | j :: r => by
    rw [ab_mem_cons, Bool.or_eq_true, ab_mem_iff, List.mem_cons]
    constructor
    · rintro (h | h)
      · exact Or.inl (Nat.eq_of_beq_eq_true h).symm
      · exact Or.inr h
    · rintro (h | h)
      · left; rw [h]; exact Nat.beq_refl j
      · exact Or.inr h
def ab_cur (tb cur : List (Nat × Instr × Nat)) (pc : Nat) : List (Nat × Instr × Nat) := match cur with
  | [] => ab_ls tb pc
  | q :: r => bif Nat.beq q.1 pc then q :: r else ab_ls tb pc
theorem ab_cur_sub {tb cur : List (Nat × Instr × Nat)} {pc : Nat} (hc : ∀ x ∈ cur, x ∈ tb) : ∀ x ∈ ab_cur tb cur pc, x ∈ tb := by
  intro x hx
  match cur, hc, hx with
  | [], hc, hx => exact ab_ls_sub hx
  | q :: r, hc, hx =>
    rw [ab_cur] at hx
    cases hb : Nat.beq q.1 pc with
    | true => rw [hb] at hx; exact hc x hx
    | false => rw [hb] at hx; exact ab_ls_sub hx
/-- cur: the rows from the place on, as far as they are known -/
def ab_run1 (tb : List (Nat × Instr × Nat)) (ann : List Nat) (stp : Instr → Nat → Nat → ab_St → Option (List (Nat × ab_St))) : Nat → List (Nat × Instr × Nat) → Nat → ab_St → Option (List (Nat × ab_St))
  | 0, _, _, _ => none
  | f + 1, cur, pc, st => match ab_cur tb cur pc with
    | [] => none
    | q :: r => bif Nat.beq q.1 pc then (bif ab_ret q.2.1 then some [(pc, st)] else (match stp q.2.1 q.2.2 pc st with
      | none => none
      | some sl => ab_seq (fun w => bif ab_mem w.1 ann then some [w] else ab_run1 tb ann stp f r w.1 w.2) sl)) else none
def ab_run (tb : List (Nat × Instr × Nat)) (ann : List Nat) (stp : Instr → Nat → Nat → ab_St → Option (List (Nat × ab_St))) (f pc : Nat) (st : ab_St) : Option (List (Nat × ab_St)) := ab_run1 tb ann stp f [] pc st
theorem ab_run1_ok {tb : List (Nat × Instr × Nat)} {ann : List Nat} {stp : Instr → Nat → Nat → ab_St → Option (List (Nat × ab_St))} {cc : ByteArray} {P : Nat → ab_St → Prop} (htb : ∀ pc i len, (pc, i, len) ∈ tb → decode cc pc = .ok (i, len))
    (hs : ∀ i len pc st sl, decode cc pc = .ok (i, len) → stp i len pc st = some sl → (∀ w ∈ sl, P w.1 w.2) → P pc st) : ∀ (f : Nat) (cur : List (Nat × Instr × Nat)) (pc : Nat) (st : ab_St) (ts : List (Nat × ab_St)), (∀ x ∈ cur, x ∈ tb) → ab_run1 tb ann stp f cur pc st = some ts → (∀ w ∈ ts, P w.1 w.2) → P pc st
  | 0, _, _, _, _, _, h, _ => by simp [ab_run1] at h
  | f + 1, cur, pc, st, ts, hc, h, k => by
    rw [ab_run1] at h
    have hsub := ab_cur_sub (pc := pc) hc
    revert h hsub
    generalize ab_cur tb cur pc = C
    intro h hsub
    match C, h, hsub with
    | [], h, _ => cases h
    | (pc', i, len) :: r, h, hsub =>
      simp only at h
      cases hb : Nat.beq pc' pc with
      | false => rw [hb] at h; cases h
      | true =>
        rw [hb] at h
        have e1 : pc' = pc := Nat.eq_of_beq_eq_true hb
        subst e1
        simp only [cond_true] at h
        have hd := htb pc' i len (hsub _ List.mem_cons_self)
        cases hr : ab_ret i with
        | true =>
          rw [hr] at h
          simp only [cond_true] at h
          cases h
          exact k _ List.mem_cons_self
        | false =>
          rw [hr] at h
          simp only [cond_false] at h
          split at h
          · cases h
          · rename_i sl hsl
            refine hs _ _ _ _ sl hd hsl (fun w hw => ?_)
            obtain ⟨x, h1, h2⟩ := ab_seq_in h hw
            cases ha : ab_mem w.1 ann with
            | true =>
              rw [ha] at h1
              simp only [cond_true] at h1
              cases h1
              exact k w (h2 w List.mem_cons_self)
            | false =>
              rw [ha] at h1
              simp only [cond_false] at h1
              exact ab_run1_ok htb hs f r w.1 w.2 x (fun y hy => hsub y (List.mem_cons_of_mem _ hy)) h1 (fun v hv => k v (h2 v hv))
theorem ab_run_ok {tb : List (Nat × Instr × Nat)} {ann : List Nat} {stp : Instr → Nat → Nat → ab_St → Option (List (Nat × ab_St))} {cc : ByteArray} {P : Nat → ab_St → Prop} (htb : ∀ pc i len, (pc, i, len) ∈ tb → decode cc pc = .ok (i, len))
    (hs : ∀ i len pc st sl, decode cc pc = .ok (i, len) → stp i len pc st = some sl → (∀ w ∈ sl, P w.1 w.2) → P pc st) (f pc : Nat) (st : ab_St) (ts : List (Nat × ab_St)) (h : ab_run tb ann stp f pc st = some ts) (k : ∀ w ∈ ts, P w.1 w.2) : P pc st :=
  ab_run1_ok htb hs f [] pc st ts (fun _ hx => by cases hx) h k
def ab_rm (d mc ms : Nat) : Room := { frames := d, cells := mc, slots := ms, locals := 40 * d }
/-- names, code, locals, answers of the own methods; the words that all of them need -/
abbrev ab_Ms : Type := (Nat → MethodName) × (Nat → ByteArray) × (Nat → Nat) × (Nat → Option FieldType) × List Cond
def ab_wM (Z : ab_Ms) (j : Nat) : List Cond := Cond.code (Z.1 j) (Z.2.1 j) (Z.2.2.1 j) (Z.2.2.2.1 j) :: Z.2.2.2.2
/-- what a call's outcomes mean -/
def ab_Po (M : Nat → Bool) (tS : Nat) (tys : List (ClassId × FieldType)) (ρ : Nat → Value) (n : Nat) (ws : va_W) (outs : List ab_Oc) (rv : Option Value) (ws' : va_W) : Prop := ∃ o ∈ outs, ∃ ρ', ab_ext ρ ρ' n o.1 ∧ ab_env ρ' o.1 o.2.1 ∧ ab_heap ρ' o.1 tS tys o.2.2.1 ws' ∧ ab_gr M ws ws' ∧ ab_rv (ab_val ρ' o.1 (ws'.map (·.1)) tS) o.2.2.2 rv
def ab_CO (l : Launch) (Z : ab_Ms) (d : Nat) (D : va_G) (cl : List vw_C) (cs : Nat → ClassId) (tS : Nat) (M : Nat → Bool) (O : ab_Cf) : Prop := ∀ j n e h as outs, O j n e h as = some outs → ∀ (ρ : Nat → Value) (ws : va_W) (vs : List Value), ab_env ρ n e → ab_heap ρ n tS (ab_tys cs) h ws → ab_all2 (ab_val ρ n (ws.map (·.1)) tS) as vs → ∃ d', d' ≤ d ∧ ab_Ct l (Z.1 j) (ab_wM Z j) (ab_rm d' 0 0) 0 0 D cl cs tS vs ws (ab_Po M tS (ab_tys cs) ρ n ws outs)
theorem ab_catsum (l : List Value) : (l.map fun v => v.category).sum ≤ 2 * l.length := by
  induction l with
  | nil => simp
  | cons v r ih =>
    have : v.category ≤ 2 := by rcases lv_cat v with h | h <;> omega
    simp only [List.map_cons, List.sum_cons, List.length_cons]
    omega
section ABL
variable {p : Program} {l : Launch} {e : Env} {R : Room} {s : State} {m : MethodId} {args : Array Value} {below : List Frame} {meth : Method} {c : Code} {D : va_G} {cl : List vw_C} {A : Nat → Prop} {Q : State → Prop}
variable {I : (Nat → Value) → Nat → va_W → Prop} {tS : Nat} {cs : Nat → ClassId} {nL cells slots pc ix j d : Nat} {st : ab_St} {cc : ByteArray} {sl : List ab_St} {Ts : List Cond} {own : String} {Mt : ab_Mt} {O : ab_Cf} {M : Nat → Bool} {Z : ab_Ms}
/-- behind a call -/
theorem ab_after (hI : ab_IC I M) {n : Nat} {L r : List ab_SV} {ρ : Nat → Value} {ls : Array Slot} {rest : List Value} {ws ws' : va_W} {outs : List ab_Oc} {rv : Option Value} (hi : I ρ n ws) (hl : ab_loc ρ n (ws.map (·.1)) tS nL L ls) (hr : ab_all2 (ab_val ρ n (ws.map (·.1)) tS) r rest) (h : ab_Po M tS (ab_tys cs) ρ n ws outs rv ws')
    (k : ∀ w ∈ outs.map (fun o => ((o.1, o.2.1, o.2.2.1, L, o.2.2.2.toList ++ r) : ab_St)), ab_Ok p l e R s m args below meth c D cl A Q I tS (ab_tys cs) nL cells slots pc w) : ab_W p l e R s m args below meth c D cl A Q cells slots pc ls (rv.toList ++ rest) ws' := by
  obtain ⟨o, ho, ρ', hx, he, hh, hg, hv⟩ := h
  obtain ⟨⟨more, hm, -⟩, hun⟩ := id hg
  refine k _ (List.mem_map.mpr ⟨o, ho, rfl⟩) ρ' ls _ ws' (hI _ _ _ _ _ _ hi hx hg) ⟨he, hh, ?_, ?_⟩
  · rw [hm]; exact ab_loc_ad (ab_loc_ext hx hl)
  · refine ab_all2_app ?_ (by rw [hm]; exact ab_stk_ad (ab_stk_ext hx hr))
    match o, hv with
    | (n', e', h', none), hv =>
      cases rv with
      | none => trivial
      | some x => exact hv.elim
    | (n', e', h', some v), hv =>
      cases rv with
      | none => exact hv.elim
      | some x => exact ⟨hv, trivial⟩
theorem ab_call_ok (hI : ab_IC I M) (S : CallFix p m c cc nL s args Ts own) (hK : va_K D cl (ab_tys cs) s) (hA : ∀ q, s.heap.size ≤ q → A q)
    (hZ : va_Z "SandFlags$Rota" "CODE_OF_ONE" "[I" (.ref tS) A s s.heap) (hT : va_T .int tS 4 ab_code1 A s s.heap) (hcs : cells ≤ R.cells ∧ slots ≤ R.slots) (CO : ab_CO l Z d D cl cs tS M O)
    {q : vw_C} (hq : (Mt j).2.2 = false → cl[(Mt j).2.1]? = some q)
    (hV : (Mt j).2.2 = false → ∀ d', d' ≤ d → CallW R s args own q.1 ix (Z.1 j) (Z.2.1 j) (Z.2.2.1 j) (Z.2.2.2.1 j) (ab_wM Z j) (ab_rm d' 0 0) 0 0 (Mt j).1)
    (hSt : (Mt j).2.2 = true → ∀ d', d' ≤ d → CallB R s args own ix (Z.1 j) (Z.2.1 j) (Z.2.2.1 j) (Z.2.2.2.1 j) (ab_wM Z j) (ab_rm d' 0 0) 0 0 (Mt j).1 ∧ (Cond.static (Z.1 j)).before args s = true)
    (hd : decode cc pc = .ok (bif (Mt j).2.2 then .invokestatic ix else .invokevirtual ix, 3)) (h : ab_call (Mt j).1 (Mt j).2.1 (Mt j).2.2 (O j) st = some sl) (k : ∀ w ∈ sl, ab_Ok p l e R s m args below meth c D cl A Q I tS (ab_tys cs) nL cells slots (pc + 3) w) : ab_Ok p l e R s m args below meth c D cl A Q I tS (ab_tys cs) nL cells slots pc st := by
  obtain ⟨n, en, hp, L, sk⟩ := st
  simp only [ab_call] at h
  generalize hkk : (bif (Mt j).2.2 then (Mt j).1 else (Mt j).1 + 1) = kk at h
  cases hb : (Nat.ble kk sk.length && (Nat.ble (sk.drop kk).length 4 && ((Mt j).2.2 || ab_rcv (Mt j).2.1 hp (sk.take kk).reverse))) with
  | false => rw [hb] at h; simp at h
  | true =>
    rw [hb] at h
    simp only [cond_true] at h
    rw [Bool.and_eq_true, Bool.and_eq_true, Bool.or_eq_true] at hb
    obtain ⟨hb1, hb2, hb3⟩ := hb
    have hb1 := Nat.le_of_ble_eq_true hb1
    have hb2 := Nat.le_of_ble_eq_true hb2
    split at h
    · rename_i outs ho
      cases h
      intro ρ ls stk ws hi Sa H locs hP hD hS
      have hall : ab_all2 (ab_val ρ n (ws.map (·.1)) tS) (sk.take kk ++ sk.drop kk) stk := by rw [List.take_append_drop]; exact Sa.2.2.2
      obtain ⟨m1, m2, rfl, hm1, hm2⟩ := ab_all2_split hall
      have hl1 := ab_all2_len hm1
      have hl2 := ab_all2_len hm2
      rw [List.length_take] at hl1
      obtain ⟨d', hd', Ct⟩ := CO j n en hp _ outs ho ρ ws m1.reverse Sa.1 Sa.2.1 (ab_all2_rev hm1)
      have hcat : (m2.map fun v => v.category).sum ≤ 8 := by have := ab_catsum m2; omega
      cases hst : (Mt j).2.2 with
      | true =>
        rw [hst] at hd hkk
        simp only [cond_true] at hd hkk
        rw [show m1 ++ m2 = m1.reverse.reverse ++ m2 by rw [List.reverse_reverse]]
        refine ab_callS S Ct (hSt hst d' hd') hP hD hS hA hK hZ hT (by rw [List.length_reverse]; omega) Sa.2.2.1.1 hcat hd ⟨hcs.1, hcs.2⟩ (fun rv ws' H1 locs1 hpo hP1 hD1 hS1 => ?_)
        exact ab_after hI hi Sa.2.2.1 hm2 hpo k H1 locs1 hP1 hD1 hS1
      | false =>
        rw [hst] at hd hkk hb3
        simp only [cond_false] at hd hkk
        simp only [Bool.false_eq_true, false_or] at hb3
        have hrev := ab_all2_rev hm1
        unfold ab_rcv at hb3
        split at hb3
        · rename_i k0 ars hars
          split at hb3
          · rename_i ci' N svs hc
            have hci : ci' = (Mt j).2.1 := Nat.eq_of_beq_eq_true hb3
            rw [hars] at hrev
            match hv : m1.reverse, hrev with
            | [], hrev => exact hrev.elim
            | v0 :: As, hrev =>
              obtain ⟨⟨k1, b, hk1, hb4, rfl⟩, hAs⟩ := hrev
              have hk2 : k1 = k0 := by simpa using hk1
              subst hk2
              obtain ⟨a2, e2, hw, hac⟩ := Sa.2.1 _ _ hc
              have ea := ab_ad_get hb4 hw
              subst ea
              obtain ⟨fs, rfl, -, -⟩ := ab_acok_obj hac
              rw [hci] at hw
              have hm1e : m1 = As.reverse ++ [.ref a2] := by
                have := congrArg List.reverse hv
                rw [List.reverse_reverse] at this
                rw [this, List.reverse_cons]
              rw [hv] at Ct
              have hlen : m1.length = As.length + 1 := by rw [hm1e]; simp
              rw [show m1 ++ m2 = As.reverse ++ .ref a2 :: m2 by rw [hm1e, List.append_assoc]; rfl]
              refine ab_callV S Ct (hV hst d' hd') (va_recv hK hP (hq hst) hw) hP hD hS hA hK hZ hT (by omega) Sa.2.2.1.1 hcat hd ⟨hcs.1, hcs.2⟩ (fun rv ws' H1 locs1 hpo hP1 hD1 hS1 => ?_)
              exact ab_after hI hi Sa.2.2.1 hm2 hpo k H1 locs1 hP1 hD1 hS1
          · cases hb3
        · cases hb3
    · cases h
end ABL
end
