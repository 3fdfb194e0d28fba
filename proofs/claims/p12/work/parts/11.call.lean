noncomputable section
section ABF
variable {p : Program} {l : Launch} {e : Env} {R : Room} {s : State} {m : MethodId} {args : Array Value} {below : List Frame} {meth : Method} {c : Code} {D : va_G} {cl : List vw_C} {A : Nat → Prop} {Q : State → Prop}
variable {I : (Nat → Value) → Nat → va_W → Prop} {tS : Nat} {cs : Nat → ClassId} {nL cells slots pc pc' : Nat} {st st' : ab_St} {cc : ByteArray} {sl : List ab_St}
theorem ab_s_fillI {M : Nat → Bool} (hM : ab_IM I M)
    (row : ∀ (q1 N1 a1 : Nat) (g : Nat → Int32) (x : Int32) (ws : va_W) (H : Heap) (locs : List Loc) (ls : Array Slot) (rest : List Value), va_P D cl ws H → va_D A ws → va_S A s.heap H locs → ls.size = nL → rest.length ≤ 4 → ws[q1]? = some (a1, .inl (cs 0, N1, .inl g)) → N1 ≤ 1000000 → (∀ (H1 : Heap) (locs1 : List Loc), va_P D cl (ws.set q1 (a1, .inl (cs 0, N1, .inl (fun i => if i < N1 then x else g i)))) H1 → va_D A (ws.set q1 (a1, .inl (cs 0, N1, .inl (fun i => if i < N1 then x else g i)))) → va_S A s.heap H1 locs1 → W p l e R s m args below meth c H1 locs1 cells slots Q (F0 m pc' ls rest)) → W p l e R s m args below meth c H locs cells slots Q (F0 m pc ls (.int x :: .ref a1 :: rest)))
    (h : ab_fill 0 false M st = some st') (k : ab_Ok p l e R s m args below meth c D cl A Q I tS (ab_tys cs) nL cells slots pc' st') : ab_Ok p l e R s m args below meth c D cl A Q I tS (ab_tys cs) nL cells slots pc st := by
  unfold ab_fill at h
  split at h
  · rename_i n en hp L a kd r
    split at h
    · rename_i x hx
      cases hb : (kd.all M && Nat.ble r.length 4) with
      | false => rw [hb] at h; simp at h
      | true =>
        rw [hb] at h
        simp only [cond_true] at h
        rw [Bool.and_eq_true] at hb
        obtain ⟨hb4, hb5⟩ := hb
        split at h
        · rename_i E hE
          cases h
          intro ρ ls stk ws hi S H locs hP hD hS
          obtain ⟨va, stk1, rfl, hva, S1⟩ := ab_sat_top S
          obtain ⟨vd, stk5, rfl, hvd, S5⟩ := ab_sat_top S1
          obtain ⟨y, rfl, -, -, hq⟩ := ab_inQ_of S.1 hx hva
          obtain ⟨k1, b1, hk1, had1, rfl⟩ := hvd
          obtain ⟨c1, K1, hc1, hf1⟩ := ab_wrE_in hE k1 hk1
          obtain ⟨a1, e1, hw1, hac1⟩ := S.2.1 _ _ hc1
          have ea1 := ab_ad_get had1 hw1
          subst ea1
          have hf1' := hf1
          cases hg1 : (Nat.beq c1.1 0 && Nat.ble c1.2.1 1000000) with
          | false => rw [hg1] at hf1; simp at hf1
          | true =>
            rw [hg1] at hf1
            simp only [cond_true] at hf1
            obtain ⟨t1, N1, K1'⟩ := c1
            rw [Bool.and_eq_true] at hg1
            have ht1 : t1 = 0 := Nat.eq_of_beq_eq_true hg1.1
            have hN1 : N1 ≤ 1000000 := Nat.le_of_ble_eq_true hg1.2
            subst ht1
            have hnf : ∀ svs, K1' ≠ .inr (.inr (.inr (.inr svs))) := by
              intro svs q
              subst q
              cases ho : Nat.beq kd.length 1 with
              | true => rw [ho] at hf1; simp at hf1
              | false => rw [ho] at hf1; simp [ab_uni] at hf1
            obtain ⟨g, rfl⟩ := ab_acok_int hac1 (Or.inl rfl) hnf
            have hlen := ab_all2_len S5.2.2.2
            have hr8 := Nat.le_of_ble_eq_true hb5
            simp only at hlen
            refine row k1 N1 _ g y ws H locs ls stk5 hP hD hS S.2.2.1.1 (by omega) hw1 hN1 (fun H1 locs1 hP1 hD1 hS1 => ?_)
            have hMk : M k1 = true := List.all_eq_true.mp hb4 k1 hk1
            refine k ρ ls stk5 _ (hM _ _ _ _ _ _ _ hi hw1 hMk trivial) (ab_sat_world S5 hw1 ?_) H1 locs1 hP1 hD1 hS1
            refine ab_heap_wr S.2.1 hE hk1 hw1 (fun c K hc hf hac => ?_) (fun j c K e3 hj hjk hf hac => ?_)
            · rw [hc1] at hc
              cases hc
              rw [hf1'] at hf
              cases hf
              obtain ⟨q1, q2, -⟩ := hac1
              cases ho : Nat.beq kd.length 1 with
              | true =>
                rw [ho] at hf1
                simp only [cond_true] at hf1
                split at hf1
                · cases hf1
                · cases hf1
                  exact ⟨q1, q2, Or.inl ⟨_, rfl, fun i hi' => by simp only [if_pos hi']; exact ⟨_, List.mem_cons_self, hq.1, hq.2.1⟩⟩⟩
              | false =>
                rw [ho] at hf1
                simp only [cond_false] at hf1
                split at hf1
                · cases hf1
                  exact ⟨q1, q2, Or.inl ⟨_, rfl, fun i hi' => by simp only [if_pos hi']; exact ab_insU_new hq.1 hq.2.1⟩⟩
                · cases hf1
            · cases hg3 : (Nat.beq c.1 0 && Nat.ble c.2.1 1000000) with
              | false => rw [hg3] at hf; simp at hf
              | true =>
                rw [hg3] at hf
                simp only [cond_true] at hf
                cases ho : Nat.beq kd.length 1 with
                | true => exact absurd (ab_one ho hj hk1) hjk
                | false =>
                  rw [ho] at hf
                  simp only [cond_false] at hf
                  split at hf
                  · rename_i U3 hU3
                    cases hf
                    obtain ⟨t3, N3, K3⟩ := c
                    rw [Bool.and_eq_true] at hg3
                    have ht3 : t3 = 0 := Nat.eq_of_beq_eq_true hg3.1
                    subst ht3
                    have hK3 := ab_uni_eq hU3
                    simp only at hK3
                    subst hK3
                    obtain ⟨g3, rfl⟩ := ab_acok_int hac (Or.inl rfl) (fun _ q => by cases q)
                    have hin3 := ab_acok_uniI hac
                    obtain ⟨q1, q2, -⟩ := hac
                    exact ⟨q1, q2, Or.inl ⟨_, rfl, fun i hi' => ab_insU_old (hin3 i hi')⟩⟩
                  · cases hf
        · cases h
    · cases h
  · cases h
theorem ab_s_fillL {M : Nat → Bool} (hM : ab_IM I M)
    (row : ∀ (q1 N1 a1 : Nat) (g : Nat → Int64) (x : Int64) (ws : va_W) (H : Heap) (locs : List Loc) (ls : Array Slot) (rest : List Value), va_P D cl ws H → va_D A ws → va_S A s.heap H locs → ls.size = nL → rest.length ≤ 4 → ws[q1]? = some (a1, .inl (cs 1, N1, .inr (.inl g))) → N1 ≤ 1000000 → (∀ (H1 : Heap) (locs1 : List Loc), va_P D cl (ws.set q1 (a1, .inl (cs 1, N1, .inr (.inl (fun i => if i < N1 then x else g i))))) H1 → va_D A (ws.set q1 (a1, .inl (cs 1, N1, .inr (.inl (fun i => if i < N1 then x else g i))))) → va_S A s.heap H1 locs1 → W p l e R s m args below meth c H1 locs1 cells slots Q (F0 m pc' ls rest)) → W p l e R s m args below meth c H locs cells slots Q (F0 m pc ls (.long x :: .ref a1 :: rest)))
    (h : ab_fill 1 true M st = some st') (k : ab_Ok p l e R s m args below meth c D cl A Q I tS (ab_tys cs) nL cells slots pc' st') : ab_Ok p l e R s m args below meth c D cl A Q I tS (ab_tys cs) nL cells slots pc st := by
  unfold ab_fill at h
  split at h
  · rename_i n en hp L a kd r
    split at h
    · rename_i x hx
      cases hb : (kd.all M && Nat.ble r.length 4) with
      | false => rw [hb] at h; simp at h
      | true =>
        rw [hb] at h
        simp only [cond_true] at h
        rw [Bool.and_eq_true] at hb
        obtain ⟨hb4, hb5⟩ := hb
        split at h
        · rename_i E hE
          cases h
          intro ρ ls stk ws hi S H locs hP hD hS
          obtain ⟨va, stk1, rfl, hva, S1⟩ := ab_sat_top S
          obtain ⟨vd, stk5, rfl, hvd, S5⟩ := ab_sat_top S1
          obtain ⟨-, -, -, y, rfl, -, hq1, hq2⟩ := ab_numL S.1 hx hva
          obtain ⟨k1, b1, hk1, had1, rfl⟩ := hvd
          obtain ⟨c1, K1, hc1, hf1⟩ := ab_wrE_in hE k1 hk1
          obtain ⟨a1, e1, hw1, hac1⟩ := S.2.1 _ _ hc1
          have ea1 := ab_ad_get had1 hw1
          subst ea1
          have hf1' := hf1
          cases hg1 : (Nat.beq c1.1 1 && Nat.ble c1.2.1 1000000) with
          | false => rw [hg1] at hf1; simp at hf1
          | true =>
            rw [hg1] at hf1
            simp only [cond_true] at hf1
            obtain ⟨t1, N1, K1'⟩ := c1
            rw [Bool.and_eq_true] at hg1
            have ht1 : t1 = 1 := Nat.eq_of_beq_eq_true hg1.1
            have hN1 : N1 ≤ 1000000 := Nat.le_of_ble_eq_true hg1.2
            subst ht1
            have hnf : ∀ svs, K1' ≠ .inr (.inr (.inr (.inr svs))) := by
              intro svs q
              subst q
              cases ho : Nat.beq kd.length 1 with
              | true => rw [ho] at hf1; simp at hf1
              | false => rw [ho] at hf1; simp [ab_uni] at hf1
            obtain ⟨g, rfl⟩ := ab_acok_long hac1 hnf
            have hlen := ab_all2_len S5.2.2.2
            have hr8 := Nat.le_of_ble_eq_true hb5
            simp only at hlen
            refine row k1 N1 _ g y ws H locs ls stk5 hP hD hS S.2.2.1.1 (by omega) hw1 hN1 (fun H1 locs1 hP1 hD1 hS1 => ?_)
            have hMk : M k1 = true := List.all_eq_true.mp hb4 k1 hk1
            refine k ρ ls stk5 _ (hM _ _ _ _ _ _ _ hi hw1 hMk trivial) (ab_sat_world S5 hw1 ?_) H1 locs1 hP1 hD1 hS1
            refine ab_heap_wr S.2.1 hE hk1 hw1 (fun c K hc hf hac => ?_) (fun j c K e3 hj hjk hf hac => ?_)
            · rw [hc1] at hc
              cases hc
              rw [hf1'] at hf
              cases hf
              obtain ⟨q1, q2, -⟩ := hac1
              cases ho : Nat.beq kd.length 1 with
              | true =>
                rw [ho] at hf1
                simp only [cond_true] at hf1
                split at hf1
                · cases hf1
                · cases hf1
                  exact ⟨q1, q2, Or.inl ⟨_, rfl, fun i hi' => by simp only [if_pos hi']; exact ⟨_, List.mem_cons_self, hq1, hq2⟩⟩⟩
              | false =>
                rw [ho] at hf1
                simp only [cond_false] at hf1
                split at hf1
                · cases hf1
                  exact ⟨q1, q2, Or.inl ⟨_, rfl, fun i hi' => by simp only [if_pos hi']; exact ab_insU_new hq1 hq2⟩⟩
                · cases hf1
            · cases hg3 : (Nat.beq c.1 1 && Nat.ble c.2.1 1000000) with
              | false => rw [hg3] at hf; simp at hf
              | true =>
                rw [hg3] at hf
                simp only [cond_true] at hf
                cases ho : Nat.beq kd.length 1 with
                | true => exact absurd (ab_one ho hj hk1) hjk
                | false =>
                  rw [ho] at hf
                  simp only [cond_false] at hf
                  split at hf
                  · rename_i U3 hU3
                    cases hf
                    obtain ⟨t3, N3, K3⟩ := c
                    rw [Bool.and_eq_true] at hg3
                    have ht3 : t3 = 1 := Nat.eq_of_beq_eq_true hg3.1
                    subst ht3
                    have hK3 := ab_uni_eq hU3
                    simp only at hK3
                    subst hK3
                    obtain ⟨g3, rfl⟩ := ab_acok_long hac (fun _ q => by cases q)
                    have hin3 := ab_acok_uniL hac
                    obtain ⟨q1, q2, -⟩ := hac
                    exact ⟨q1, q2, Or.inl ⟨_, rfl, fun i hi' => ab_insU_old (hin3 i hi')⟩⟩
                  · cases hf
        · cases h
    · cases h
  · cases h
end ABF
/-- what a call may do to the world: cells are added, others change only where M lets it -/
def ab_gr (M : Nat → Bool) (ws ws' : va_W) : Prop := (∃ more : List Nat, ws'.map (·.1) = ws.map (·.1) ++ more ∧ more = []) ∧ (∀ k : Nat, k < ws.length → M k = false → ws'[k]? = ws[k]?) ∧ ∀ (k a : Nat) (e : va_E), ws[k]? = some (a, e) → ∃ e', ws'[k]? = some (a, e') ∧ ab_fr M k e e'
theorem ab_gr.refl {M : Nat → Bool} {ws : va_W} : ab_gr M ws ws := ⟨⟨[], by simp, rfl⟩, fun _ _ _ => rfl, fun _ _ e h => ⟨e, h, ab_fr.refl⟩⟩
theorem ab_gr.len {M : Nat → Bool} {ws ws' : va_W} (h : ab_gr M ws ws') : ws.length ≤ ws'.length := by
  obtain ⟨⟨more, hm, -⟩, -⟩ := h
  have := congrArg List.length hm
  simp at this
  omega
theorem ab_gr.ad {M : Nat → Bool} {ws ws' : va_W} (h : ab_gr M ws ws') : ws'.map (·.1) = ws.map (·.1) := by
  obtain ⟨⟨more, hm, rfl⟩, -⟩ := h
  rw [hm, List.append_nil]
theorem ab_gr.leq {M : Nat → Bool} {ws ws' : va_W} (h : ab_gr M ws ws') : ws'.length = ws.length := by
  have := congrArg List.length h.ad
  simpa using this
theorem ab_gr.trans {M : Nat → Bool} {ws ws' ws2 : va_W} (h : ab_gr M ws ws') (k : ab_gr M ws' ws2) : ab_gr M ws ws2 := by
  have hl := h.len
  obtain ⟨⟨m1, h1, e1⟩, h2, h3⟩ := h
  obtain ⟨⟨m2, k1, e2⟩, k2, k3⟩ := k
  refine ⟨⟨m1 ++ m2, by rw [k1, h1, List.append_assoc], by rw [e1, e2]; rfl⟩, fun i hi hM => by rw [k2 i (by omega) hM, h2 i hi hM], fun i a e hi => ?_⟩
  obtain ⟨e1, g1, g2⟩ := h3 i a e hi
  obtain ⟨e2, g3, g4⟩ := k3 i a e1 g1
  exact ⟨e2, g3, g2.trans g4⟩
theorem ab_gr.weaken {M M' : Nat → Bool} {ws ws' : va_W} (h : ab_gr M ws ws') (hM : ∀ k, M k = true → M' k = true) : ab_gr M' ws ws' :=
  ⟨h.1, fun k hk hf => h.2.1 k hk (by
    cases hq : M k with
    | false => rfl
    | true => rw [hM k hq] at hf; cases hf), fun k a e he => by
      obtain ⟨e1, g1, g2⟩ := h.2.2 k a e he
      exact ⟨e1, g1, g2.weaken hM⟩⟩
theorem ab_gr.set {M : Nat → Bool} {ws : va_W} {k a : Nat} {e e' : va_E} (h : ws[k]? = some (a, e)) (hM : M k = true) (hF : ab_fr M k e e') : ab_gr M ws (ws.set k (a, e')) :=
  ⟨⟨[], by rw [ab_ad_set h]; simp, rfl⟩, fun j _ hj => by
    by_cases q : k = j
    · subst q; rw [hM] at hj; cases hj
    · rw [List.getElem?_set_ne q], fun j b e1 hj => by
      by_cases q : k = j
      · subst q
        rw [h] at hj
        cases hj
        exact ⟨e', by rw [List.getElem?_set_self (List.getElem?_eq_some_iff.mp h).1], hF⟩
      · exact ⟨e1, by rw [List.getElem?_set_ne q]; exact hj, ab_fr.refl⟩⟩
theorem ab_val_ad {ρ : Nat → Value} {n : Nat} {ad more : List Nat} {tS : Nat} {v : ab_SV} {x : Value} (k : ab_val ρ n ad tS v x) : ab_val ρ n (ad ++ more) tS v x := by
  match v, k with
  | none, _ => trivial
  | some (.inl i), k => exact k
  | some (.inr (.inl ks)), ⟨k, a, h1, h2, h3⟩ =>
    have hl : k < ad.length := (List.getElem?_eq_some_iff.mp h2).1
    exact ⟨k, a, h1, by rw [List.getElem?_append_left hl]; exact h2, h3⟩
  | some (.inr (.inr _)), k => exact k
theorem ab_stk_ad {ρ : Nat → Value} {n : Nat} {ad more : List Nat} {tS : Nat} {L : List ab_SV} {st : List Value} (k : ab_all2 (ab_val ρ n ad tS) L st) : ab_all2 (ab_val ρ n (ad ++ more) tS) L st := ab_all2_mono (fun _ _ q => ab_val_ad q) k
theorem ab_loc_ad {ρ : Nat → Value} {n : Nat} {ad more : List Nat} {tS nL : Nat} {L : List ab_SV} {ls : Array Slot} (k : ab_loc ρ n ad tS nL L ls) : ab_loc ρ n (ad ++ more) tS nL L ls :=
  ⟨k.1, k.2.1, k.2.2.1, fun i v hv => by
    obtain ⟨x, h1, h2⟩ := k.2.2.2 i v hv
    exact ⟨x, h1, ab_val_ad h2⟩⟩
def ab_IC (I : (Nat → Value) → Nat → va_W → Prop) (M : Nat → Bool) : Prop := ∀ ρ n ws ρ' n' ws', I ρ n ws → ab_ext ρ ρ' n n' → ab_gr M ws ws' → I ρ' n' ws'
theorem ab_IC.e {I : (Nat → Value) → Nat → va_W → Prop} {M : Nat → Bool} (h : ab_IC I M) : ab_IE I := fun _ _ _ _ _ hi hx => h _ _ _ _ _ _ hi hx ab_gr.refl
theorem ab_IC.m {I : (Nat → Value) → Nat → va_W → Prop} {M : Nat → Bool} (h : ab_IC I M) : ab_IM I M := fun _ _ _ _ _ _ _ hi hw hM hF => h _ _ _ _ _ _ hi ab_ext.refl (ab_gr.set hw hM hF)
def ab_code1 (j : Nat) : Value := .int (match j with
  | 0 => 1
  | 1 => 5
  | 2 => 25
  | _ => 125)
/-- the world of a method, and the static row -/
def ab_Wd (D : va_G) (cl : List vw_C) (cs : Nat → ClassId) (tS : Nat) (A : Nat → Prop) (ws : va_W) (U : State) : Prop :=
  va_P D cl ws U.heap ∧ va_K D cl (ab_tys cs) U ∧ va_D A ws ∧ va_Z "SandFlags$Rota" "CODE_OF_ONE" "[I" (.ref tS) A U U.heap ∧ va_T .int tS 4 ab_code1 A U U.heap
/-- a method's contract, from one world and arguments -/
def ab_Ct (l : Launch) (y : MethodName) (wy : List Cond) (rm : Room) (mc ms : Nat) (D : va_G) (cl : List vw_C) (cs : Nat → ClassId) (tS : Nat) (vs : List Value) (ws : va_W) (Post : Option Value → va_W → Prop) : Prop :=
  ∀ sz : Nat, Met l y wy rm (va_Pc vs (fun U => U.heap.size = sz ∧ ab_Wd D cl cs tS (va_A ws sz) ws U))
    (fun _ st oc t => (∃ rv ws', oc = .returned rv ∧ Post rv ws' ∧ va_P D cl ws' t.heap ∧ va_D (va_A ws sz) ws' ∧ va_K D cl (ab_tys cs) t) ∧ va_F (va_A ws sz) st t) mc ms (va_A ws sz)
theorem ab_Wd_blind {D : va_G} {cl : List vw_C} {cs : Nat → ClassId} {tS : Nat} {A : Nat → Prop} {ws : va_W} {U : State} {g : JFrame} {mk : MethodId} {a : Array Value} (h : ab_Wd D cl cs tS A ws U) : ab_Wd D cl cs tS A ws (U.calling g mk a) := by
  obtain ⟨h1, h2, h3, h4, h5⟩ := h
  exact ⟨h1, va_K.moved (u := U) (U := U.calling g mk a) (Vm.Alike.refl U.vm) h2, h3, va_Z.moved (u := U) (U := U.calling g mk a) (Vm.Alike.refl U.vm) h4, va_T.moved (u := U) (U := U.calling g mk a) (Vm.Alike.refl U.vm) h5⟩
section ABC
variable {p : Program} {l : Launch} {e : Env} {R : Room} {s : State} {m : MethodId} {args : Array Value} {below : List Frame} {meth : Method} {c : Code} {D : va_G} {cl : List vw_C} {A : Nat → Prop} {Q : State → Prop} {H : Heap} {locs : List Loc} {cells slots : Nat}
variable {pc : Nat} {ls : Array Slot} {rest st0 : List Value} {mc ms : Nat} {free A1 : Addr → Prop} {cs : Nat → ClassId} {tS : Nat}
theorem ab_callG {Qa : State → Outcome → State → Prop} (hr : va_Run p l e R s m args below meth c H locs cells slots mc ms (F0 m pc ls st0) rest Qa free) (hS : va_S A s.heap H locs) (hA : ∀ q, q < H.size → A1 q → A q) (hf : ∀ q, free q → A q) (hF : ∀ st oc t, Qa st oc t → va_F A1 st t)
    (kk : ∀ (v : Option Value) (st₀ t : State) (H1 : Heap) (locs1 : List Loc), st₀.heap = H → t.heap = H1 → s.vm.Alike t.vm → Qa st₀ (.returned v) t → va_S A s.heap H1 locs1 → W p l e R s m args below meth c H1 locs1 (cells + mc) (slots + ms) Q (F0 m (pc + 3) ls (v.toList ++ rest))) : W p l e R s m args below meth c H locs cells slots Q (F0 m pc ls st0) := by
  intro T hT X
  obtain ⟨v, st₀, t, T', L, h0, X', hL, e1, e2, hQ, st⟩ := hr T hT X
  obtain ⟨hz, hk⟩ := hF _ _ _ hQ
  rw [h0] at hz hk
  obtain ⟨t2, a1, b1⟩ := kk v st₀ t T'.heap (locs ++ L) h0 e1.symm (by rw [← e2]; exact X'.warmed.alike) hQ
    ⟨Nat.le_trans hS.1 (by rw [e1]; exact hz), fun q h1 h2 => by rw [e1, hk q (Nat.lt_of_lt_of_le h1 hS.1) (fun z => h2 (hA q (Nat.lt_of_lt_of_le h1 hS.1) z))]; exact hS.2.1 q h1 h2, fun q hq => by
      rcases List.mem_append.mp hq with h | h
      · exact hS.2.2 q h
      · exact hf _ (hL q h)⟩ T' rfl X'
  exact ⟨t2, st t2 a1, b1⟩
/-- the static row, at another state of the same method -/
theorem ab_Wd_now {ws : va_W} {sz : Nat} {U : State} (hP : va_P D cl ws H) (hD : va_D A ws) (hS : va_S A s.heap H locs) (hA : ∀ q, s.heap.size ≤ q → A q) (hK : va_K D cl (ab_tys cs) s) (hZ : va_Z "SandFlags$Rota" "CODE_OF_ONE" "[I" (.ref tS) A s s.heap) (hT : va_T .int tS 4 ab_code1 A s s.heap) (hU : U.heap = H) (hW : s.WarmedH U.vm) (hsz : H.size = sz) : ab_Wd D cl cs tS (va_A ws sz) ws U := by
  have hAA : ∀ q, va_A ws sz q → A q := by
    intro q hq
    rcases hq with ⟨k, e, h⟩ | h
    · exact hD.2 k (q, e) h
    · exact hA q (by have := hS.1; omega)
  refine ⟨by rw [hU]; exact hP, va_K.moved hW.alike hK, hD.self, ?_, ?_⟩
  · rw [hU]
    exact va_Z.moved hW.alike ((hZ.kept (fun a h1 h2 => hS.2.1 a h1 h2)).narrow hAA)
  · rw [hU]
    exact va_T.moved hW.alike ((hT.kept (fun a h1 h2 => hS.2.1 a h1 h2)).narrow hAA)
variable {y : MethodName} {bytes cc : ByteArray} {maxL nL n index : Nat} {ret : Option FieldType} {wy : List Cond} {rm : Room} {Ts : List Cond} {own C : String} {b : Addr} {As : List Value} {ws : va_W} {Post : Option Value → va_W → Prop}
theorem ab_callV (S : CallFix p m c cc nL s args Ts own) (hM : ab_Ct l y wy rm mc ms D cl cs tS (.ref b :: As) ws Post) (cw : CallW R s args own C index y bytes maxL ret wy rm mc ms n) (hrecv : ∃ cellB : Cell, H[b]? = some cellB ∧ cellB.vm.isStatics = false ∧ s.vm.findClass C = some cellB.cls)
    (hP : va_P D cl ws H) (hD : va_D A ws) (hS : va_S A s.heap H locs) (hA : ∀ q, s.heap.size ≤ q → A q) (hK : va_K D cl (ab_tys cs) s) (hZ : va_Z "SandFlags$Rota" "CODE_OF_ONE" "[I" (.ref tS) A s s.heap) (hT : va_T .int tS 4 ab_code1 A s s.heap)
    (hn : As.length = n) (hsize : ls.size = nL) (hW : (rest.map fun v => v.category).sum ≤ 8) (hdg : decode cc pc = .ok (.invokevirtual index, 3)) (hf : cells + mc ≤ R.cells ∧ slots + ms ≤ R.slots)
    (kk : ∀ (rv : Option Value) (ws' : va_W) (H1 : Heap) (locs1 : List Loc), Post rv ws' → va_P D cl ws' H1 → va_D A ws' → va_S A s.heap H1 locs1 → W p l e R s m args below meth c H1 locs1 (cells + mc) (slots + ms) Q (F0 m (pc + 3) ls (rv.toList ++ rest))) : W p l e R s m args below meth c H locs cells slots Q (F0 m pc ls (As.reverse ++ .ref b :: rest)) := by
  have hAA : ∀ q, va_A ws H.size q → A q := by
    intro q hq
    rcases hq with ⟨k, e, h⟩ | h
    · exact hD.2 k (q, e) h
    · exact hA q (by have := hS.1; omega)
  refine ab_callG (va_runV (g := F0 m pc ls (As.reverse ++ .ref b :: rest)) S (hM H.size) cw ⟨fun a U g mk q => ⟨q.1, q.2.1, ab_Wd_blind q.2.2⟩, hrecv, fun U hU hW => ⟨rfl, by rw [hU], ab_Wd_now hP hD hS hA hK hZ hT hU hW rfl⟩⟩ rfl hn hsize rfl (lv_room hW) hdg hf) hS (fun q _ h => hAA q h) hAA (fun _ _ _ q => q.2) (fun v st₀ t H1 locs1 h0 ht hal hq hS1 => ?_)
  obtain ⟨⟨rv, ws', h1, h2, h3, h4, h5⟩, -⟩ := hq
  cases h1
  rw [ht] at h3
  exact kk v ws' H1 locs1 h2 h3 (h4.weaken (fun _ q _ h => hAA q.1 h)) hS1
theorem ab_callS (S : CallFix p m c cc nL s args Ts own) (hM : ab_Ct l y wy rm mc ms D cl cs tS As ws Post) (cw : CallB R s args own index y bytes maxL ret wy rm mc ms n ∧ (Cond.static y).before args s = true)
    (hP : va_P D cl ws H) (hD : va_D A ws) (hS : va_S A s.heap H locs) (hA : ∀ q, s.heap.size ≤ q → A q) (hK : va_K D cl (ab_tys cs) s) (hZ : va_Z "SandFlags$Rota" "CODE_OF_ONE" "[I" (.ref tS) A s s.heap) (hT : va_T .int tS 4 ab_code1 A s s.heap)
    (hn : As.length = n) (hsize : ls.size = nL) (hW : (rest.map fun v => v.category).sum ≤ 8) (hdg : decode cc pc = .ok (.invokestatic index, 3)) (hf : cells + mc ≤ R.cells ∧ slots + ms ≤ R.slots)
    (kk : ∀ (rv : Option Value) (ws' : va_W) (H1 : Heap) (locs1 : List Loc), Post rv ws' → va_P D cl ws' H1 → va_D A ws' → va_S A s.heap H1 locs1 → W p l e R s m args below meth c H1 locs1 (cells + mc) (slots + ms) Q (F0 m (pc + 3) ls (rv.toList ++ rest))) : W p l e R s m args below meth c H locs cells slots Q (F0 m pc ls (As.reverse ++ rest)) := by
  have hAA : ∀ q, va_A ws H.size q → A q := by
    intro q hq
    rcases hq with ⟨k, e, h⟩ | h
    · exact hD.2 k (q, e) h
    · exact hA q (by have := hS.1; omega)
  refine ab_callG (va_runS (g := F0 m pc ls (As.reverse ++ rest)) S (hM H.size) cw ⟨fun a U g mk q => ⟨q.1, q.2.1, ab_Wd_blind q.2.2⟩, fun U hU hW => ⟨rfl, by rw [hU], ab_Wd_now hP hD hS hA hK hZ hT hU hW rfl⟩⟩ rfl hn hsize rfl (lv_room hW) hdg hf) hS (fun q _ h => hAA q h) hAA (fun _ _ _ q => q.2) (fun v st₀ t H1 locs1 h0 ht hal hq hS1 => ?_)
  obtain ⟨⟨rv, ws', h1, h2, h3, h4, h5⟩, -⟩ := hq
  cases h1
  rw [ht] at h3
  exact kk v ws' H1 locs1 h2 h3 (h4.weaken (fun _ q _ h => hAA q.1 h)) hS1
end ABC
end
