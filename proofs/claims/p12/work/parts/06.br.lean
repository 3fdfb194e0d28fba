noncomputable section
def ab_tgt (pc : Nat) (off : Int) : Option Nat := match Int.add (Int.ofNat pc) off with
  | .ofNat t => some t
  | .negSucc _ => none
theorem ab_tgt_ok {pc t : Nat} {off : Int} (h : ab_tgt pc off = some t) : (pc : Int) + off = (t : Int) := by
  unfold ab_tgt at h
  split at h
  · rename_i k hk
    cases h
    exact hk
  · cases h
/-- a better interval, if it is one; and of the number that it comes from -/
def ab_cutB (i : Nat) (q : ab_Q) (v : ab_Iv) (e : ab_En) : ab_En := bif Nat.beq q.2.2.1 i then e else match ab_eg e q.2.2.1 with
  | some (false, w) => (q.2.2.1, false, ab_max w.1 (Int.sub v.1 q.2.2.2), ab_min w.2.1 (Int.sub v.2 q.2.2.2), w.2.2.1, w.2.2.2) :: e
  | _ => e
def ab_cutE (i : Nat) (q : ab_Q) (v : ab_Iv) (e : ab_En) : ab_En := bif ab_le v.1 q.1 && ab_le q.2.1 v.2 then e else (i, false, v.1, v.2, q.2.2.1, q.2.2.2) :: ab_cutB i q v e
theorem ab_cutB_ok {ρ : Nat → Value} {n i : Nat} {q : ab_Q} {v : ab_Iv} {e : ab_En} {x : Int32} (he : ab_env ρ n e) (hq : ab_inQ ρ n x q) (h1 : v.1 ≤ x.toInt) (h2 : x.toInt ≤ v.2) : ab_env ρ n (ab_cutB i q v e) := by
  unfold ab_cutB
  cases Nat.beq q.2.2.1 i with
  | true => exact he
  | false =>
    simp only [cond_false]
    split
    · rename_i w hw
      intro u hu
      rcases List.mem_cons.mp hu with rfl | hu
      · obtain ⟨b1, b2, b3⟩ := he _ (ab_eg_mem hw)
        obtain ⟨-, -, -, z, hz, hxz⟩ := hq
        rcases b3 with ⟨b, -⟩ | ⟨-, y, c1, c2, c3, c4⟩
        · cases b
        · have e1 : y = z := by
            have c1' : ρ q.2.2.1 = .int y := c1
            rw [hz] at c1'
            cases c1'
            rfl
          subst e1
          simp only at c2 c3
          refine ⟨b1, b2, Or.inr ⟨rfl, y, c1, ?_, ?_, c4⟩⟩
          · simp only [ab_max_eq, ab_subE]; omega
          · simp only [ab_min_eq, ab_subE]; omega
      · exact he u hu
    · exact he
theorem ab_cutE_ok {ρ : Nat → Value} {n i : Nat} {q : ab_Q} {v : ab_Iv} {e : ab_En} {x : Int32} (he : ab_env ρ n e) (hi : i < n) (hx : ρ i = .int x) (hq : ab_inQ ρ n x q) (h1 : v.1 ≤ x.toInt) (h2 : x.toInt ≤ v.2) : ab_env ρ n (ab_cutE i q v e) := by
  unfold ab_cutE
  cases ab_le v.1 q.1 && ab_le q.2.1 v.2 with
  | true => exact he
  | false =>
    intro w hw
    rcases List.mem_cons.mp hw with rfl | hw
    · exact ⟨hi, hq.2.2.1, Or.inr ⟨rfl, x, hx, h1, h2, hq.2.2.2⟩⟩
    · exact ab_cutB_ok he hq h1 h2 w hw
def ab_ifc (c : Jvm.ClassFile.Cond) (off : Int) (pc : Nat) (st : ab_St) : Option (List (Nat × ab_St)) := match st with
  | (n, e, h, L, b :: r) => match ab_num e false b, ab_tgt pc off with
    | some x, some t => some ((ab_rel c x.2.1 x.2.2.1 (.ofNat 0) (.ofNat 0)).map (fun w => (t, (n, ab_cutE x.1 x.2 w.1 e, h, L, r))) ++ (ab_rel (ab_not c) x.2.1 x.2.2.1 (.ofNat 0) (.ofNat 0)).map (fun w => (pc + 3, (n, ab_cutE x.1 x.2 w.1 e, h, L, r))))
    | _, _ => none
  | _ => none
def ab_icmp (c : Jvm.ClassFile.Cond) (off : Int) (pc : Nat) (st : ab_St) : Option (List (Nat × ab_St)) := match st with
  | (n, e, h, L, a :: b :: r) => match ab_num e false a, ab_num e false b, ab_tgt pc off with
    | some y, some x, some t => some ((ab_rel c x.2.1 x.2.2.1 y.2.1 y.2.2.1).map (fun w => (t, (n, ab_cutE x.1 x.2 w.1 (ab_cutE y.1 y.2 w.2 e), h, L, r))) ++ (ab_rel (ab_not c) x.2.1 x.2.2.1 y.2.1 y.2.2.1).map (fun w => (pc + 3, (n, ab_cutE x.1 x.2 w.1 (ab_cutE y.1 y.2 w.2 e), h, L, r))))
    | _, _, _ => none
  | _ => none
/-- a switch by a table: the case of the value v and those behind it -/
def ab_swT (pc : Nat) (i : Nat) (q : ab_Q) (n : Nat) (e : ab_En) (r : ab_AH × List ab_SV × List ab_SV) : Int → List Int → Option (List (Nat × ab_St))
  | _, [] => some []
  | v, o :: os => match ab_tgt pc o, ab_swT pc i q n e r (Int.add v (.ofNat 1)) os with
    | some t, some l => some (bif ab_le q.1 v && ab_le v q.2.1 then (t, (n, ab_cutE i q (v, v) e, r)) :: l else l)
    | _, _ => none
def ab_tsw (d lo hi : Int) (os : List Int) (pc : Nat) (st : ab_St) : Option (List (Nat × ab_St)) := match st with
  | (n, e, h, L, b :: r) => match ab_num e false b, ab_tgt pc d with
    | some x, some t => bif ab_le (Int.add lo (.ofNat os.length)) (Int.add hi (.ofNat 1)) && ab_le (Int.add hi (.ofNat 1)) (Int.add lo (.ofNat os.length)) then (match ab_swT pc x.1 x.2 n e (h, L, r) lo os with
      | some l => some (l ++ ((ab_iv1 x.2.1 (ab_min x.2.2.1 (Int.sub lo (.ofNat 1)))) ++ (ab_iv1 (ab_max x.2.1 (Int.add hi (.ofNat 1))) x.2.2.1)).map (fun w => (t, (n, ab_cutE x.1 x.2 w e, h, L, r))))
      | none => none) else none
    | _, _ => none
  | _ => none
def ab_swL (pc : Nat) (i : Nat) (q : ab_Q) (n : Nat) (e : ab_En) (r : ab_AH × List ab_SV × List ab_SV) (d : Int) : List (Int × Int) → Option (List (Nat × ab_St))
  | [] => (match ab_tgt pc d with
    | some t => some [(t, (n, e, r))]
    | none => none)
  | o :: os => match ab_tgt pc o.2, ab_swL pc i q n e r d os with
    | some t, some l => some (bif ab_le q.1 o.1 && ab_le o.1 q.2.1 then (t, (n, ab_cutE i q (o.1, o.1) e, r)) :: l else l)
    | _, _ => none
def ab_lsw (d : Int) (os : List (Int × Int)) (pc : Nat) (st : ab_St) : Option (List (Nat × ab_St)) := match st with
  | (n, e, h, L, b :: r) => match ab_num e false b with
    | some x => bif (os.zip (os.drop 1)).all (fun (a, next) => a.1 < next.1) then ab_swL pc x.1 x.2 n e (h, L, r) d os else none
    | none => none
  | _ => none
theorem ab_swT_ok {ρ : Nat → Value} {pc i n : Nat} {q : ab_Q} {e : ab_En} {r : ab_AH × List ab_SV × List ab_SV} {x : Int32} (hq : ab_inQ ρ n x q) : ∀ (os : List Int) (v : Int) (l : List (Nat × ab_St)), ab_swT pc i q n e r v os = some l → ∀ (k : Nat) (o : Int), os[k]? = some o → x.toInt = v + k → ∃ t : Nat, (pc : Int) + o = (t : Int) ∧ (t, (n, ab_cutE i q (x.toInt, x.toInt) e, r)) ∈ l
  | [], v, l, h, k, o, hk, _ => by simp at hk
  | o' :: os, v, l, h, k, o, hk, hx => by
    simp only [ab_swT] at h
    split at h
    · rename_i t l' ht hl
      cases h
      match k, hk with
      | 0, hk =>
        have e1 : x.toInt = v := by simpa using hx
        simp at hk
        subst hk
        rw [show (ab_le q.1 v && ab_le v q.2.1) = true by rw [Bool.and_eq_true, ab_le_iff, ab_le_iff, ← e1]; exact ⟨hq.1, hq.2.1⟩]
        exact ⟨t, ab_tgt_ok ht, by rw [e1]; exact List.mem_cons_self⟩
      | k + 1, hk =>
        obtain ⟨t', h1, h2⟩ := ab_swT_ok hq os (Int.add v (.ofNat 1)) l' hl k o (by simpa using hk) (by rw [ab_addE, ab_of1, hx]; push_cast; omega)
        refine ⟨t', h1, ?_⟩
        cases ab_le q.1 v && ab_le v q.2.1 with
        | true => exact List.mem_cons_of_mem _ h2
        | false => exact h2
    · cases h
theorem ab_swL_ok {ρ : Nat → Value} {pc i n : Nat} {q : ab_Q} {e : ab_En} {r : ab_AH × List ab_SV × List ab_SV} {d : Int} {x : Int32} (he : ab_env ρ n e) (hi : i < n) (hxi : ρ i = .int x) (hq : ab_inQ ρ n x q) : ∀ (os : List (Int × Int)) (l : List (Nat × ab_St)), ab_swL pc i q n e r d os = some l → ∃ (t : Nat) (e' : ab_En), (pc : Int) + Op.lookupswitch.offset os d x.toInt = (t : Int) ∧ ab_env ρ n e' ∧ (t, (n, e', r)) ∈ l
  | [], l, h => by
    simp only [ab_swL] at h
    split at h
    · rename_i t ht
      cases h
      exact ⟨t, e, ab_tgt_ok ht, he, List.mem_cons_self⟩
    · cases h
  | o' :: os, l, h => by
    simp only [ab_swL] at h
    split at h
    · rename_i t l' ht hl
      cases h
      rw [show Op.lookupswitch.offset (o' :: os) d x.toInt = if o'.1 = x.toInt then o'.2 else Op.lookupswitch.offset os d x.toInt from rfl]
      by_cases hk : o'.1 = x.toInt
      · rw [if_pos hk, hk]
        rw [show (ab_le q.1 x.toInt && ab_le x.toInt q.2.1) = true by rw [Bool.and_eq_true, ab_le_iff, ab_le_iff]; exact ⟨hq.1, hq.2.1⟩]
        exact ⟨t, _, ab_tgt_ok ht, ab_cutE_ok he hi hxi hq (by simp) (by simp), List.mem_cons_self⟩
      · rw [if_neg hk]
        obtain ⟨t', e', h1, h3, h2⟩ := ab_swL_ok he hi hxi hq os l' hl
        refine ⟨t', e', h1, h3, ?_⟩
        cases ab_le q.1 o'.1 && ab_le o'.1 q.2.1 with
        | true => exact List.mem_cons_of_mem _ h2
        | false => exact h2
    · cases h
section ABB
variable {p : Program} {l : Launch} {e : Env} {R : Room} {s : State} {m : MethodId} {args : Array Value} {below : List Frame} {meth : Method} {c : Code} {D : va_G} {cl : List vw_C} {A : Nat → Prop} {Q : State → Prop}
variable {I : (Nat → Value) → Nat → va_W → Prop} {tS : Nat} {tys : List (ClassId × FieldType)} {nL cells slots pc pc' : Nat} {st st' : ab_St} {cc : ByteArray} {sl : List (Nat × ab_St)}
theorem ab_row_if (hx : p.tables.exec = Jvm.exec) (hb : c.code = cc) {co : Jvm.ClassFile.Cond} {off : Int} {t : Nat} {x : Int32} {H : Heap} {locs : List Loc} {ls : Array Slot} {rest : List Value} (hd : decode cc pc = .ok (.ifCond co off, 3)) (ht : (pc : Int) + off = (t : Int))
    (k1 : ab_ch co x.toInt 0 → W p l e R s m args below meth c H locs cells slots Q (F0 m t ls rest)) (k2 : ¬ ab_ch co x.toInt 0 → W p l e R s m args below meth c H locs cells slots Q (F0 m (pc + 3) ls rest)) : W p l e R s m args below meth c H locs cells slots Q (F0 m pc ls (.int x :: rest)) := by
  have z : (0 : Int32).toInt = 0 := by decide
  have a1 : x < 0 ↔ x.toInt < 0 := by rw [Int32.lt_iff_toInt_lt, z]
  have a2 : 0 < x ↔ 0 < x.toInt := by rw [Int32.lt_iff_toInt_lt, z]
  have a3 : x ≤ 0 ↔ x.toInt ≤ 0 := by rw [Int32.le_iff_toInt_le, z]
  have a4 : 0 ≤ x ↔ 0 ≤ x.toInt := by rw [Int32.le_iff_toInt_le, z]
  have a5 : x = 0 ↔ x.toInt = 0 := by rw [← Int32.toInt_inj, z]
  cases co with
  | eq => exact lv_if_eq hx hb hd ht (fun h => k1 (a5.mp h)) (fun h => k2 (fun q => h (a5.mpr q)))
  | ne => exact lv_if_ne hx hb hd ht (fun h => k1 (fun q => h (a5.mpr q))) (fun h => k2 (fun q => q (a5.mp h)))
  | lt => exact lv_if_lt hx hb hd ht (fun h => k1 (a1.mp h)) (fun h => k2 (fun q => h (a1.mpr q)))
  | ge => exact lv_if_ge hx hb hd ht (fun h => k1 (a4.mp h)) (fun h => k2 (fun q => h (a4.mpr q)))
  | gt => exact lv_if_gt hx hb hd ht (fun h => k1 (a2.mp h)) (fun h => k2 (fun q => h (a2.mpr q)))
  | le => exact lv_if_le hx hb hd ht (fun h => k1 (a3.mp h)) (fun h => k2 (fun q => h (a3.mpr q)))
theorem ab_row_icmp (hx : p.tables.exec = Jvm.exec) (hb : c.code = cc) {co : Jvm.ClassFile.Cond} {off : Int} {t : Nat} {x y : Int32} {H : Heap} {locs : List Loc} {ls : Array Slot} {rest : List Value} (hd : decode cc pc = .ok (.if_icmp co off, 3)) (ht : (pc : Int) + off = (t : Int))
    (k1 : ab_ch co x.toInt y.toInt → W p l e R s m args below meth c H locs cells slots Q (F0 m t ls rest)) (k2 : ¬ ab_ch co x.toInt y.toInt → W p l e R s m args below meth c H locs cells slots Q (F0 m (pc + 3) ls rest)) : W p l e R s m args below meth c H locs cells slots Q (F0 m pc ls (.int y :: .int x :: rest)) := by
  have a1 : x < y ↔ x.toInt < y.toInt := Int32.lt_iff_toInt_lt
  have a2 : y < x ↔ y.toInt < x.toInt := Int32.lt_iff_toInt_lt
  have a3 : x ≤ y ↔ x.toInt ≤ y.toInt := Int32.le_iff_toInt_le
  have a4 : y ≤ x ↔ y.toInt ≤ x.toInt := Int32.le_iff_toInt_le
  have a5 : x = y ↔ x.toInt = y.toInt := Int32.toInt_inj.symm
  cases co with
  | eq => exact lv_icmp_eq hx hb hd ht (fun h => k1 (a5.mp h)) (fun h => k2 (fun q => h (a5.mpr q)))
  | ne => exact lv_icmp_ne hx hb hd ht (fun h => k1 (fun q => h (a5.mpr q))) (fun h => k2 (fun q => q (a5.mp h)))
  | lt => exact lv_icmp_lt hx hb hd ht (fun h => k1 (a1.mp h)) (fun h => k2 (fun q => h (a1.mpr q)))
  | ge => exact lv_icmp_ge hx hb hd ht (fun h => k1 (a4.mp h)) (fun h => k2 (fun q => h (a4.mpr q)))
  | gt => exact lv_icmp_gt hx hb hd ht (fun h => k1 (a2.mp h)) (fun h => k2 (fun q => h (a2.mpr q)))
  | le => exact lv_icmp_le hx hb hd ht (fun h => k1 (a3.mp h)) (fun h => k2 (fun q => h (a3.mpr q)))
theorem ab_s_ifc (hx : p.tables.exec = Jvm.exec) (hb : c.code = cc) {co : Jvm.ClassFile.Cond} {off : Int} (hd : decode cc pc = .ok (.ifCond co off, 3)) (h : ab_ifc co off pc st = some sl)
    (k : ∀ w ∈ sl, ab_Ok p l e R s m args below meth c D cl A Q I tS tys nL cells slots w.1 w.2) : ab_Ok p l e R s m args below meth c D cl A Q I tS tys nL cells slots pc st := by
  match st, h with
  | (n, en, hp, L, []), h => simp [ab_ifc] at h
  | (n, en, hp, L, b :: r), h =>
    simp only [ab_ifc] at h
    split at h
    · rename_i x t hxx ht
      cases h
      intro ρ ls stk ws hi S H locs hP hD hS
      obtain ⟨vb, stk2, rfl, hvb, S2⟩ := ab_sat_top S
      obtain ⟨x1, rfl, hr, hlt, hq⟩ := ab_inQ_of S.1 hxx hvb
      refine ab_row_if hx hb hd (ab_tgt_ok ht) (fun hc => ?_) (fun hc => ?_)
      · obtain ⟨w, hw, w1, w2, -, -⟩ := ab_rel_ok (c := co) hq.1 hq.2.1 (Int.le_refl 0) (Int.le_refl 0) hc
        exact k _ (List.mem_append_left _ (List.mem_map.mpr ⟨w, hw, rfl⟩)) ρ ls stk2 ws hi ⟨ab_cutE_ok S.1 hlt hr hq w1 w2, S2.2⟩ H locs hP hD hS
      · obtain ⟨w, hw, w1, w2, -, -⟩ := ab_rel_ok (c := ab_not co) hq.1 hq.2.1 (Int.le_refl 0) (Int.le_refl 0) (ab_not_ch hc)
        exact k _ (List.mem_append_right _ (List.mem_map.mpr ⟨w, hw, rfl⟩)) ρ ls stk2 ws hi ⟨ab_cutE_ok S.1 hlt hr hq w1 w2, S2.2⟩ H locs hP hD hS
    · cases h
theorem ab_s_icmp (hx : p.tables.exec = Jvm.exec) (hb : c.code = cc) {co : Jvm.ClassFile.Cond} {off : Int} (hd : decode cc pc = .ok (.if_icmp co off, 3)) (h : ab_icmp co off pc st = some sl)
    (k : ∀ w ∈ sl, ab_Ok p l e R s m args below meth c D cl A Q I tS tys nL cells slots w.1 w.2) : ab_Ok p l e R s m args below meth c D cl A Q I tS tys nL cells slots pc st := by
  match st, h with
  | (n, en, hp, L, []), h => simp [ab_icmp] at h
  | (n, en, hp, L, [a]), h => simp [ab_icmp] at h
  | (n, en, hp, L, a :: b :: r), h =>
    simp only [ab_icmp] at h
    split at h
    · rename_i y x t hyy hxx ht
      cases h
      intro ρ ls stk ws hi S H locs hP hD hS
      obtain ⟨va, stk1, rfl, hva, S1⟩ := ab_sat_top S
      obtain ⟨vb, stk2, rfl, hvb, S2⟩ := ab_sat_top S1
      obtain ⟨y1, rfl, hry, hlty, hqy⟩ := ab_inQ_of S.1 hyy hva
      obtain ⟨x1, rfl, hr, hlt, hq⟩ := ab_inQ_of S.1 hxx hvb
      refine ab_row_icmp hx hb hd (ab_tgt_ok ht) (fun hc => ?_) (fun hc => ?_)
      · obtain ⟨w, hw, w1, w2, w3, w4⟩ := ab_rel_ok (c := co) hq.1 hq.2.1 hqy.1 hqy.2.1 hc
        exact k _ (List.mem_append_left _ (List.mem_map.mpr ⟨w, hw, rfl⟩)) ρ ls stk2 ws hi ⟨ab_cutE_ok (ab_cutE_ok S.1 hlty hry hqy w3 w4) hlt hr hq w1 w2, S2.2⟩ H locs hP hD hS
      · obtain ⟨w, hw, w1, w2, w3, w4⟩ := ab_rel_ok (c := ab_not co) hq.1 hq.2.1 hqy.1 hqy.2.1 (ab_not_ch hc)
        exact k _ (List.mem_append_right _ (List.mem_map.mpr ⟨w, hw, rfl⟩)) ρ ls stk2 ws hi ⟨ab_cutE_ok (ab_cutE_ok S.1 hlty hry hqy w3 w4) hlt hr hq w1 w2, S2.2⟩ H locs hP hD hS
    · cases h
theorem ab_s_tsw (hx : p.tables.exec = Jvm.exec) (hb : c.code = cc) {d lo hi : Int} {os : Array Int} {len : Nat} (hd : decode cc pc = .ok (.tableswitch d lo hi os, len)) (h : ab_tsw d lo hi os.toList pc st = some sl)
    (k : ∀ w ∈ sl, ab_Ok p l e R s m args below meth c D cl A Q I tS tys nL cells slots w.1 w.2) : ab_Ok p l e R s m args below meth c D cl A Q I tS tys nL cells slots pc st := by
  match st, h with
  | (n, en, hp, L, []), h => simp [ab_tsw] at h
  | (n, en, hp, L, b :: r), h =>
    simp only [ab_tsw] at h
    split at h
    · rename_i x t hxx ht
      cases hlen : (ab_le (Int.add lo (.ofNat os.toList.length)) (Int.add hi (.ofNat 1)) && ab_le (Int.add hi (.ofNat 1)) (Int.add lo (.ofNat os.toList.length))) with
      | false => rw [hlen] at h; simp at h
      | true =>
        rw [hlen] at h
        simp only [cond_true] at h
        rw [Bool.and_eq_true, ab_le_iff, ab_le_iff] at hlen
        simp only [ab_addE, ab_of1] at hlen
        split at h
        · rename_i l' hl'
          cases h
          intro ρ ls stk ws hi' S H locs hP hD hS
          obtain ⟨vb, stk2, rfl, hvb, S2⟩ := ab_sat_top S
          obtain ⟨x1, rfl, hr, hlt, hq⟩ := ab_inQ_of S.1 hxx hvb
          have hL : Int.ofNat os.toList.length = (os.size : Int) := by simp
          rw [hL] at hlen
          by_cases h1 : x1.toInt < lo
          · refine lv_tableOut hx hb hd (Or.inl h1) (ab_tgt_ok ht) ?_
            have hm := ab_iv1_in (l := x.2.1) (h := ab_min x.2.2.1 (Int.sub lo (.ofNat 1))) (x := x1.toInt) hq.1 (by have := hq.2.1; rw [ab_min_eq, ab_subE, ab_of1]; omega)
            exact k _ (List.mem_append_right _ (List.mem_map.mpr ⟨_, List.mem_append_left _ hm, rfl⟩)) ρ ls stk2 ws hi' ⟨ab_cutE_ok S.1 hlt hr hq hq.1 (by have := hq.2.1; rw [ab_min_eq, ab_subE, ab_of1]; omega), S2.2⟩ H locs hP hD hS
          · by_cases h2 : hi < x1.toInt
            · refine lv_tableOut hx hb hd (Or.inr h2) (ab_tgt_ok ht) ?_
              have hm := ab_iv1_in (l := ab_max x.2.1 (Int.add hi (.ofNat 1))) (h := x.2.2.1) (x := x1.toInt) (by have := hq.1; rw [ab_max_eq, ab_addE, ab_of1]; omega) hq.2.1
              exact k _ (List.mem_append_right _ (List.mem_map.mpr ⟨_, List.mem_append_right _ hm, rfl⟩)) ρ ls stk2 ws hi' ⟨ab_cutE_ok S.1 hlt hr hq (by have := hq.1; rw [ab_max_eq, ab_addE, ab_of1]; omega) hq.2.1, S2.2⟩ H locs hP hD hS
            · have hk : (x1.toInt - lo).toNat < os.size := by omega
              have hget : os[(x1.toInt - lo).toNat]? = some os[(x1.toInt - lo).toNat] := by simp [hk]
              obtain ⟨t', ht', hm⟩ := ab_swT_ok hq os.toList lo l' hl' (x1.toInt - lo).toNat _ (by rw [Array.getElem?_toList]; exact hget) (by omega)
              refine lv_tableIn hx hb hd h1 h2 hget ht' ?_
              exact k _ (List.mem_append_left _ hm) ρ ls stk2 ws hi' ⟨ab_cutE_ok S.1 hlt hr hq (Int.le_refl _) (Int.le_refl _), S2.2⟩ H locs hP hD hS
        · cases h
    · cases h
theorem ab_s_lsw (hx : p.tables.exec = Jvm.exec) (hb : c.code = cc) {d : Int} {os : Array (Int × Int)} {len : Nat} (hd : decode cc pc = .ok (.lookupswitch d os, len)) (h : ab_lsw d os.toList pc st = some sl)
    (k : ∀ w ∈ sl, ab_Ok p l e R s m args below meth c D cl A Q I tS tys nL cells slots w.1 w.2) : ab_Ok p l e R s m args below meth c D cl A Q I tS tys nL cells slots pc st := by
  match st, h with
  | (n, en, hp, L, []), h => simp [ab_lsw] at h
  | (n, en, hp, L, b :: r), h =>
    simp only [ab_lsw] at h
    split at h
    · rename_i x hxx
      cases hs : ((os.toList.zip (os.toList.drop 1)).all (fun (a, next) => a.1 < next.1)) with
      | false => rw [hs] at h; simp at h
      | true =>
        rw [hs] at h
        simp only [cond_true] at h
        intro ρ ls stk ws hi' S H locs hP hD hS
        obtain ⟨vb, stk2, rfl, hvb, S2⟩ := ab_sat_top S
        obtain ⟨x1, rfl, hr, hlt, hq⟩ := ab_inQ_of S.1 hxx hvb
        obtain ⟨t, e', h1, h2, h3⟩ := ab_swL_ok S.1 hlt hr hq os.toList sl h
        exact lv_lookup hx hb hd hs rfl h1 (k _ h3 ρ ls stk2 ws hi' ⟨h2, S2.2⟩ H locs hP hD hS)
    · cases h
end ABB
end
