noncomputable section
/-- arraycopy from place 0 to place 0 -/
def ab_uni (K : ab_AK) : Option (List ab_Iv) := match K with
  | .inl U => some U
  | _ => none
def ab_srcU (t0 : Nat) (hi : Int) (h : ab_AH) (k : Nat) : Option (List ab_Iv) := match ab_hg h k with
  | some c => bif Nat.beq c.1 t0 && ab_le hi (.ofNat c.2.1) then ab_uni c.2.2 else none
  | none => none
def ab_insA (US U : List ab_Iv) : List ab_Iv := US.foldr ab_insU U
theorem ab_insA_old {US U : List ab_Iv} {x : Int} (h : ab_inU U x) : ab_inU (ab_insA US U) x := by
  unfold ab_insA
  induction US with
  | nil => exact h
  | cons v r ih => exact ab_insU_old ih
theorem ab_insA_new {US U : List ab_Iv} {x : Int} (h : ab_inU US x) : ab_inU (ab_insA US U) x := by
  unfold ab_insA
  induction US with
  | nil => obtain ⟨v, hv, -⟩ := h; cases hv
  | cons v r ih =>
    obtain ⟨w, hw, h1, h2⟩ := h
    rcases List.mem_cons.mp hw with rfl | hw
    · exact ab_insU_new h1 h2
    · exact ab_insU_old (ih ⟨w, hw, h1, h2⟩)
def ab_zero (e : ab_En) (v : ab_SV) : Bool := match ab_num e false v with
  | some x => ab_0le x.2.1 && ab_le x.2.2.1 (.ofNat 0)
  | none => false
def ab_cpy (t0 : Nat) (M : Nat → Bool) (st : ab_St) : Option ab_St := match st with
  | (n, e, h, L, a :: dp :: some (.inr (.inl kd)) :: sp :: some (.inr (.inl ks)) :: r) => (match ab_num e false a, ab_seq (ab_srcU t0 (match ab_num e false a with
      | some x => x.2.2.1
      | none => .ofNat 0) h) ks with
    | some x, some US => bif ab_zero e dp && (ab_zero e sp && (ab_0le x.2.1 && (kd.all M && Nat.ble r.length 8))) then
      (match ab_wrE (fun c => bif Nat.beq c.1 t0 && ab_le x.2.2.1 (.ofNat c.2.1) then (match ab_uni c.2.2 with
        | some U => some (.inl (ab_insA US U))
        | none => none) else none) h kd with
      | some E => some (n, e, E ++ h, L, r)
      | none => none) else none
    | _, _ => none)
  | _ => none
def ab_fill (t0 : Nat) (lg : Bool) (M : Nat → Bool) (st : ab_St) : Option ab_St := match st with
  | (n, e, h, L, a :: some (.inr (.inl kd)) :: r) => (match ab_num e lg a with
    | some x => bif kd.all M && Nat.ble r.length 4 then
      (match ab_wrE (fun c => bif Nat.beq c.1 t0 && Nat.ble c.2.1 1000000 then (bif Nat.beq kd.length 1 then (match c.2.2 with
          | .inr (.inr (.inr _)) => none
          | _ => some (.inl [(x.2.1, x.2.2.1)])) else (match ab_uni c.2.2 with
        | some U => some (.inl (ab_insU (x.2.1, x.2.2.1) U))
        | none => none)) else none) h kd with
      | some E => some (n, e, E ++ h, L, r)
      | none => none) else none
    | none => none)
  | _ => none
theorem ab_zero_ok {ρ : Nat → Value} {n : Nat} {ad : List Nat} {tS : Nat} {e : ab_En} {v : ab_SV} {x : Value} (he : ab_env ρ n e) (h : ab_zero e v = true) (hv : ab_val ρ n ad tS v x) : x = .int 0 := by
  unfold ab_zero at h
  split at h
  · rename_i q hq
    unfold ab_0le at h
    rw [Bool.and_eq_true, ab_le_iff, ab_le_iff, ab_of0] at h
    obtain ⟨y, rfl, -, -, h2⟩ := ab_inQ_of he hq hv
    have h3 := h2.1
    have h4 := h2.2.1
    rw [show y = 0 from Int32.toInt_inj.mp (by rw [show y.toInt = 0 by omega]; decide)]
  · cases h
theorem ab_uni_eq {K : ab_AK} {U : List ab_Iv} (h : ab_uni K = some U) : K = .inl U := by
  unfold ab_uni at h
  split at h
  · cases h; rfl
  · cases h
theorem ab_acok_uniI {ρ : Nat → Value} {n : Nat} {ad : List Nat} {tS t0 N : Nat} {tys : List (ClassId × FieldType)} {U : List ab_Iv} {cA : ClassId} {N' : Nat} {f : Nat → Int32} (h : ab_acok ρ n ad tS tys (t0, N, .inl U) (.inl (cA, N', .inl f))) : ∀ i, i < N → ab_inU U (f i).toInt := by
  obtain ⟨a1, a2, h3⟩ := h
  simp only at a1
  subst a1
  rcases h3 with ⟨U, q, h4⟩ | ⟨i, q, -⟩ | ⟨i, q, -⟩
  · cases q; exact h4
  · cases q
  · cases q
theorem ab_acok_uniL {ρ : Nat → Value} {n : Nat} {ad : List Nat} {tS t0 N : Nat} {tys : List (ClassId × FieldType)} {U : List ab_Iv} {cA : ClassId} {N' : Nat} {f : Nat → Int64} (h : ab_acok ρ n ad tS tys (t0, N, .inl U) (.inl (cA, N', .inr (.inl f)))) : ∀ i, i < N → ab_inU U (f i).toInt := by
  obtain ⟨a1, a2, h3⟩ := h
  simp only at a1
  subst a1
  rcases h3 with ⟨U, q, h4⟩ | ⟨i, q, -⟩
  · cases q; exact h4
  · cases q
/-- behind a write that leaves other cells: the heap, from what holds of each cell that may have been written -/
theorem ab_heap_wr {ρ : Nat → Value} {n tS : Nat} {tys : List (ClassId × FieldType)} {f : ab_AC → Option ab_AK} {h E : ab_AH} {ks : List Nat} {ws : va_W} {kk a2 : Nat} {e2 e' : va_E} (hH : ab_heap ρ n tS tys h ws) (hE : ab_wrE f h ks = some E) (hkk : kk ∈ ks) (hw : ws[kk]? = some (a2, e2))
    (hnew : ∀ c K, ab_hg h kk = some c → f c = some K → ab_acok ρ n (ws.map (·.1)) tS tys c e2 → ab_acok ρ n (ws.map (·.1)) tS tys (c.1, c.2.1, K) e')
    (hold : ∀ j c K e3, j ∈ ks → j ≠ kk → f c = some K → ab_acok ρ n (ws.map (·.1)) tS tys c e3 → ab_acok ρ n (ws.map (·.1)) tS tys (c.1, c.2.1, K) e3) : ab_heap ρ n tS tys (E ++ h) (ws.set kk (a2, e')) := by
  intro j cj hcj
  rw [ab_ad_set hw]
  have hl : kk < ws.length := (List.getElem?_eq_some_iff.mp hw).1
  rcases ab_wrE_get hE j cj hcj with ⟨hj, c1, K1, hc1, hf1, rfl⟩ | ⟨hj, hcj⟩
  · obtain ⟨a3, e3, hw3, hac3⟩ := hH j c1 hc1
    by_cases hjk : j = kk
    · subst hjk
      rw [hw] at hw3
      cases hw3
      exact ⟨a2, e', List.getElem?_set_self hl, hnew c1 K1 hc1 hf1 hac3⟩
    · exact ⟨a3, e3, by rw [List.getElem?_set_ne (fun q => hjk q.symm)]; exact hw3, hold j c1 K1 e3 hj hjk hf1 hac3⟩
  · by_cases hjk : j = kk
    · subst hjk; exact absurd hkk hj
    · obtain ⟨a3, e3, hw3, hac3⟩ := hH j cj hcj
      exact ⟨a3, e3, by rw [List.getElem?_set_ne (fun q => hjk q.symm)]; exact hw3, hac3⟩
section ABR
variable {p : Program} {l : Launch} {e : Env} {R : Room} {s : State} {m : MethodId} {args : Array Value} {below : List Frame} {meth : Method} {c : Code} {D : va_G} {cl : List vw_C} {A : Nat → Prop} {Q : State → Prop}
variable {I : (Nat → Value) → Nat → va_W → Prop} {tS : Nat} {cs : Nat → ClassId} {nL cells slots pc pc' : Nat} {st st' : ab_St} {cc : ByteArray} {sl : List ab_St}
theorem ab_s_aald
    (row : ∀ (q0 t0 N a : Nat) (cA : ClassId) (t : FieldType) (f : Nat → Option Nat) (i : Int32) (ws : va_W) (H : Heap) (locs : List Loc) (ls : Array Slot) (rest : List Value), va_P D cl ws H → ws[q0]? = some (a, .inl (cA, N, .inr (.inr (.inr (.inr f))))) → (ab_tys cs)[t0]? = some (cA, .array t) → vp_in i N → W p l e R s m args below meth c H locs cells slots Q (F0 m pc' ls (va_rf (f i.toNatClampNeg) :: rest)) → W p l e R s m args below meth c H locs cells slots Q (F0 m pc ls (.int i :: .ref a :: rest)))
    (h : ab_aald st = some st') (k : ab_Ok p l e R s m args below meth c D cl A Q I tS (ab_tys cs) nL cells slots pc' st') : ab_Ok p l e R s m args below meth c D cl A Q I tS (ab_tys cs) nL cells slots pc st := by
  unfold ab_aald at h
  split at h
  · rename_i n en hp L a kk r
    split at h
    · rename_i x t0 N ks hx hc
      cases hb : (ab_0le x.2.1 && ab_le (Int.add x.2.2.1 (.ofNat 1)) (.ofNat N)) with
      | false => rw [hb] at h; simp at h
      | true =>
        rw [hb] at h
        simp only [cond_true] at h
        cases h
        unfold ab_0le at hb
        rw [Bool.and_eq_true, ab_le_iff, ab_le_iff, ab_of0, ab_addE, ab_of1] at hb
        have hN : Int.ofNat N = (N : Int) := rfl
        rw [hN] at hb
        intro ρ ls stk ws hi S H locs hP hD hS
        obtain ⟨va, stk1, rfl, hva, S1⟩ := ab_sat_top S
        obtain ⟨vb, stk2, rfl, hvb, S2⟩ := ab_sat_top S1
        obtain ⟨y, rfl, -, -, hq⟩ := ab_inQ_of S.1 hx hva
        obtain ⟨k1, aa, hk1, had, rfl⟩ := hvb
        have hk2 : k1 = kk := by simpa using hk1
        subst hk2
        obtain ⟨a2, e2, hw, hac⟩ := S.2.1 _ _ hc
        have ea := ab_ad_get had hw
        subst ea
        obtain ⟨cA, t, f, rfl, ht, hlen, hel⟩ := ab_acok_ref hac
        have y1 := hq.1
        have y2 := hq.2.1
        have hcl := ab_clamp (x := y) (by omega)
        obtain ⟨kq, hkq⟩ : ∃ kq, ks[y.toNatClampNeg]? = some kq := ⟨ks[y.toNatClampNeg]'(by omega), by simp⟩
        obtain ⟨b, hb1, hb2⟩ := hel _ _ hkq
        refine row _ t0 N _ cA t f y ws H locs ls stk2 hP hw ht (ab_vpin (by omega) (by omega)) ?_
        rw [hb2]
        exact k ρ ls (.ref b :: stk2) ws hi ⟨S2.1, S2.2.1, S2.2.2.1, ⟨kq, b, ab_slice_in (by omega) (by omega) hb.1 hkq, hb1, rfl⟩, S2.2.2.2⟩ H locs hP hD hS
    · cases h
  · cases h
theorem ab_s_aldS (hI : ab_IE I) (tb : List Int)
    (row : ∀ (i : Int32) (v : Int) (H : Heap) (locs : List Loc) (ls : Array Slot) (rest : List Value), va_S A s.heap H locs → tb[i.toNatClampNeg]? = some v → vp_in i tb.length → (∀ x : Int32, x.toInt = v → W p l e R s m args below meth c H locs cells slots Q (F0 m pc' ls (.int x :: rest))) → W p l e R s m args below meth c H locs cells slots Q (F0 m pc ls (.int i :: .ref tS :: rest)))
    (h : ab_aldS tb st = some sl) (k : ∀ w ∈ sl, ab_Ok p l e R s m args below meth c D cl A Q I tS (ab_tys cs) nL cells slots pc' w) : ab_Ok p l e R s m args below meth c D cl A Q I tS (ab_tys cs) nL cells slots pc st := by
  unfold ab_aldS at h
  split at h
  · rename_i n en hp L a u r
    split at h
    · rename_i x hx
      cases hb : (ab_0le x.2.1 && ab_le (Int.add x.2.2.1 (.ofNat 1)) (.ofNat tb.length)) with
      | false => rw [hb] at h; simp at h
      | true =>
        rw [hb] at h
        simp only [cond_true] at h
        cases h
        unfold ab_0le at hb
        rw [Bool.and_eq_true, ab_le_iff, ab_le_iff, ab_of0, ab_addE, ab_of1] at hb
        have hN : Int.ofNat tb.length = (tb.length : Int) := rfl
        rw [hN] at hb
        intro ρ ls stk ws hi S H locs hP hD hS
        obtain ⟨va, stk1, rfl, hva, S1⟩ := ab_sat_top S
        obtain ⟨vb, stk2, rfl, hvb, S2⟩ := ab_sat_top S1
        obtain ⟨y, rfl, -, -, hq⟩ := ab_inQ_of S.1 hx hva
        have hvb2 : vb = .ref tS := hvb
        subst hvb2
        have y1 := hq.1
        have y2 := hq.2.1
        have hcl := ab_clamp (x := y) (by omega)
        obtain ⟨v, hv⟩ : ∃ v, tb[y.toNatClampNeg]? = some v := ⟨tb[y.toNatClampNeg]'(by omega), by simp⟩
        refine row y v H locs ls stk2 hS hv (ab_vpin (by omega) (by omega)) (fun z hz => ?_)
        exact k _ (List.mem_map.mpr ⟨v, ab_slice_in (by omega) (by omega) hb.1 hv, rfl⟩) _ ls (.int z :: stk2) ws (hI _ _ _ _ _ hi (ab_ext.up (.int z))) (ab_sat_pushI S2 (by omega) (by omega) (Or.inl ⟨rfl, rfl⟩)) H locs hP hD hS
    · cases h
  · cases h
theorem ab_s_cpyI {M : Nat → Bool} (hM : ab_IM I M)
    (row : ∀ (q0 q1 N0 N1 a0 a1 : Nat) (f g : Nat → Int32) (i : Int32) (ws : va_W) (H : Heap) (locs : List Loc) (ls : Array Slot) (rest : List Value), va_P D cl ws H → va_D A ws → va_S A s.heap H locs → ls.size = nL → rest.length ≤ 8 → ws[q0]? = some (a0, .inl (cs 0, N0, .inl f)) → ws[q1]? = some (a1, .inl (cs 0, N1, .inl g)) → 0 ≤ i.toInt → i.toInt ≤ N0 → i.toInt ≤ N1 → (∀ (H1 : Heap) (locs1 : List Loc), va_P D cl (ws.set q1 (a1, .inl (cs 0, N1, .inl (va_cpy f g 0 0 i.toNatClampNeg)))) H1 → va_D A (ws.set q1 (a1, .inl (cs 0, N1, .inl (va_cpy f g 0 0 i.toNatClampNeg)))) → va_S A s.heap H1 locs1 → W p l e R s m args below meth c H1 locs1 cells slots Q (F0 m pc' ls rest)) → W p l e R s m args below meth c H locs cells slots Q (F0 m pc ls (.int i :: .int 0 :: .ref a1 :: .int 0 :: .ref a0 :: rest)))
    (h : ab_cpy 0 M st = some st') (k : ab_Ok p l e R s m args below meth c D cl A Q I tS (ab_tys cs) nL cells slots pc' st') : ab_Ok p l e R s m args below meth c D cl A Q I tS (ab_tys cs) nL cells slots pc st := by
  unfold ab_cpy at h
  split at h
  · rename_i n en hp L a dp kd sp ks r
    split at h
    · rename_i x US hx hUS
      rw [hx] at hUS
      simp only at hUS
      cases hb : (ab_zero en dp && (ab_zero en sp && (ab_0le x.2.1 && (kd.all M && Nat.ble r.length 8)))) with
      | false => rw [hb] at h; simp at h
      | true =>
        rw [hb] at h
        simp only [cond_true] at h
        rw [Bool.and_eq_true, Bool.and_eq_true, Bool.and_eq_true, Bool.and_eq_true] at hb
        obtain ⟨hb1, hb2, hb3, hb4, hb5⟩ := hb
        unfold ab_0le at hb3
        rw [ab_le_iff, ab_of0] at hb3
        split at h
        · rename_i E hE
          cases h
          intro ρ ls stk ws hi S H locs hP hD hS
          obtain ⟨va, stk1, rfl, hva, S1⟩ := ab_sat_top S
          obtain ⟨vdp, stk2, rfl, hvdp, S2⟩ := ab_sat_top S1
          obtain ⟨vd, stk3, rfl, hvd, S3⟩ := ab_sat_top S2
          obtain ⟨vsp, stk4, rfl, hvsp, S4⟩ := ab_sat_top S3
          obtain ⟨vs, stk5, rfl, hvs, S5⟩ := ab_sat_top S4
          obtain ⟨y, rfl, -, -, hq⟩ := ab_inQ_of S.1 hx hva
          have e1 := ab_zero_ok S.1 hb1 hvdp
          have e2 := ab_zero_ok S.1 hb2 hvsp
          subst e1 e2
          obtain ⟨k1, b1, hk1, had1, rfl⟩ := hvd
          obtain ⟨k0, b0, hk0, had0, rfl⟩ := hvs
          obtain ⟨U0, hU0, hU0s⟩ := ab_seq_in hUS hk0
          unfold ab_srcU at hU0
          split at hU0
          · rename_i c0 hc0
            cases hg : (Nat.beq c0.1 0 && ab_le x.2.2.1 (.ofNat c0.2.1)) with
            | false => rw [hg] at hU0; simp at hU0
            | true =>
              rw [hg] at hU0
              simp only [cond_true] at hU0
              rw [Bool.and_eq_true, ab_le_iff] at hg
              obtain ⟨a0, e0, hw0, hac0⟩ := S.2.1 _ _ hc0
              have ea0 := ab_ad_get had0 hw0
              subst ea0
              obtain ⟨c1, K1, hc1, hf1⟩ := ab_wrE_in hE k1 hk1
              obtain ⟨a1, e1, hw1, hac1⟩ := S.2.1 _ _ hc1
              have ea1 := ab_ad_get had1 hw1
              subst ea1
              obtain ⟨t0, N0, K0⟩ := c0
              have ht0 : t0 = 0 := Nat.eq_of_beq_eq_true hg.1
              subst ht0
              have hK0 := ab_uni_eq hU0
              simp only at hK0
              subst hK0
              obtain ⟨f, rfl⟩ := ab_acok_int hac0 (Or.inl rfl) (fun _ q => by cases q)
              have hf1' := hf1
              cases hg1 : (Nat.beq c1.1 0 && ab_le x.2.2.1 (.ofNat c1.2.1)) with
              | false => rw [hg1] at hf1; simp at hf1
              | true =>
                rw [hg1] at hf1
                simp only [cond_true] at hf1
                rw [Bool.and_eq_true, ab_le_iff] at hg1
                split at hf1
                · rename_i U1 hU1
                  cases hf1
                  obtain ⟨t1, N1, K1'⟩ := c1
                  have ht1 : t1 = 0 := Nat.eq_of_beq_eq_true hg1.1
                  subst ht1
                  have hK1 := ab_uni_eq hU1
                  simp only at hK1
                  subst hK1
                  obtain ⟨g, rfl⟩ := ab_acok_int hac1 (Or.inl rfl) (fun _ q => by cases q)
                  have z0 : x.2.2.1 ≤ (N0 : Int) := hg.2
                  have z1 : x.2.2.1 ≤ (N1 : Int) := hg1.2
                  have y1 := hq.1
                  have y2 := hq.2.1
                  have hlen := ab_all2_len S5.2.2.2
                  have hr8 := Nat.le_of_ble_eq_true hb5
                  simp only at hlen
                  refine row k0 k1 N0 N1 _ _ f g y ws H locs ls stk5 hP hD hS S.2.2.1.1 (by omega) hw0 hw1 (by omega) (by omega) (by omega) (fun H1 locs1 hP1 hD1 hS1 => ?_)
                  have hMk : M k1 = true := List.all_eq_true.mp hb4 k1 hk1
                  refine k ρ ls stk5 _ (hM _ _ _ _ _ _ _ hi hw1 hMk trivial) (ab_sat_world S5 hw1 ?_) H1 locs1 hP1 hD1 hS1
                  have hin0 := ab_acok_uniI hac0
                  refine ab_heap_wr S.2.1 hE hk1 hw1 (fun c K hc hf hac => ?_) (fun j c K e3 hj hjk hf hac => ?_)
                  · rw [hc1] at hc
                    cases hc
                    rw [hf1'] at hf
                    cases hf
                    have hin1 := ab_acok_uniI hac1
                    obtain ⟨q1, q2, -⟩ := hac1
                    refine ⟨q1, q2, Or.inl ⟨_, rfl, fun i hi' => ?_⟩⟩
                    unfold va_cpy
                    have hcl := ab_clamp (x := y) (by omega)
                    by_cases hc : 0 ≤ i ∧ i < 0 + y.toNatClampNeg
                    · rw [if_pos hc]
                      refine ab_insA_new ?_
                      obtain ⟨v, hv, v1, v2⟩ := hin0 (0 + (i - 0)) (by omega)
                      exact ⟨v, hU0s v hv, v1, v2⟩
                    · rw [if_neg hc]
                      exact ab_insA_old (hin1 i hi')
                  · cases hg3 : (Nat.beq c.1 0 && ab_le x.2.2.1 (.ofNat c.2.1)) with
                    | false => rw [hg3] at hf; simp at hf
                    | true =>
                      rw [hg3] at hf
                      simp only [cond_true] at hf
                      rw [Bool.and_eq_true] at hg3
                      split at hf
                      · rename_i U3 hU3
                        cases hf
                        obtain ⟨t3, N3, K3⟩ := c
                        have ht3 : t3 = 0 := Nat.eq_of_beq_eq_true hg3.1
                        subst ht3
                        have hK3 := ab_uni_eq hU3
                        simp only at hK3
                        subst hK3
                        obtain ⟨g3, rfl⟩ := ab_acok_int hac (Or.inl rfl) (fun _ q => by cases q)
                        have hin3 := ab_acok_uniI hac
                        obtain ⟨q1, q2, -⟩ := hac
                        exact ⟨q1, q2, Or.inl ⟨_, rfl, fun i hi' => ab_insA_old (hin3 i hi')⟩⟩
                      · cases hf
                · cases hf1
          · cases hU0
        · cases h
    · cases h
  · cases h
theorem ab_s_cpyL {M : Nat → Bool} (hM : ab_IM I M)
    (row : ∀ (q0 q1 N0 N1 a0 a1 : Nat) (f g : Nat → Int64) (i : Int32) (ws : va_W) (H : Heap) (locs : List Loc) (ls : Array Slot) (rest : List Value), va_P D cl ws H → va_D A ws → va_S A s.heap H locs → ls.size = nL → rest.length ≤ 8 → ws[q0]? = some (a0, .inl (cs 1, N0, .inr (.inl f))) → ws[q1]? = some (a1, .inl (cs 1, N1, .inr (.inl g))) → 0 ≤ i.toInt → i.toInt ≤ N0 → i.toInt ≤ N1 → (∀ (H1 : Heap) (locs1 : List Loc), va_P D cl (ws.set q1 (a1, .inl (cs 1, N1, .inr (.inl (va_cpy f g 0 0 i.toNatClampNeg))))) H1 → va_D A (ws.set q1 (a1, .inl (cs 1, N1, .inr (.inl (va_cpy f g 0 0 i.toNatClampNeg))))) → va_S A s.heap H1 locs1 → W p l e R s m args below meth c H1 locs1 cells slots Q (F0 m pc' ls rest)) → W p l e R s m args below meth c H locs cells slots Q (F0 m pc ls (.int i :: .int 0 :: .ref a1 :: .int 0 :: .ref a0 :: rest)))
    (h : ab_cpy 1 M st = some st') (k : ab_Ok p l e R s m args below meth c D cl A Q I tS (ab_tys cs) nL cells slots pc' st') : ab_Ok p l e R s m args below meth c D cl A Q I tS (ab_tys cs) nL cells slots pc st := by
  unfold ab_cpy at h
  split at h
  · rename_i n en hp L a dp kd sp ks r
    split at h
    · rename_i x US hx hUS
      rw [hx] at hUS
      simp only at hUS
      cases hb : (ab_zero en dp && (ab_zero en sp && (ab_0le x.2.1 && (kd.all M && Nat.ble r.length 8)))) with
      | false => rw [hb] at h; simp at h
      | true =>
        rw [hb] at h
        simp only [cond_true] at h
        rw [Bool.and_eq_true, Bool.and_eq_true, Bool.and_eq_true, Bool.and_eq_true] at hb
        obtain ⟨hb1, hb2, hb3, hb4, hb5⟩ := hb
        unfold ab_0le at hb3
        rw [ab_le_iff, ab_of0] at hb3
        split at h
        · rename_i E hE
          cases h
          intro ρ ls stk ws hi S H locs hP hD hS
          obtain ⟨va, stk1, rfl, hva, S1⟩ := ab_sat_top S
          obtain ⟨vdp, stk2, rfl, hvdp, S2⟩ := ab_sat_top S1
          obtain ⟨vd, stk3, rfl, hvd, S3⟩ := ab_sat_top S2
          obtain ⟨vsp, stk4, rfl, hvsp, S4⟩ := ab_sat_top S3
          obtain ⟨vs, stk5, rfl, hvs, S5⟩ := ab_sat_top S4
          obtain ⟨y, rfl, -, -, hq⟩ := ab_inQ_of S.1 hx hva
          have e1 := ab_zero_ok S.1 hb1 hvdp
          have e2 := ab_zero_ok S.1 hb2 hvsp
          subst e1 e2
          obtain ⟨k1, b1, hk1, had1, rfl⟩ := hvd
          obtain ⟨k0, b0, hk0, had0, rfl⟩ := hvs
          obtain ⟨U0, hU0, hU0s⟩ := ab_seq_in hUS hk0
          unfold ab_srcU at hU0
          split at hU0
          · rename_i c0 hc0
            cases hg : (Nat.beq c0.1 1 && ab_le x.2.2.1 (.ofNat c0.2.1)) with
            | false => rw [hg] at hU0; simp at hU0
            | true =>
              rw [hg] at hU0
              simp only [cond_true] at hU0
              rw [Bool.and_eq_true, ab_le_iff] at hg
              obtain ⟨a0, e0, hw0, hac0⟩ := S.2.1 _ _ hc0
              have ea0 := ab_ad_get had0 hw0
              subst ea0
              obtain ⟨c1, K1, hc1, hf1⟩ := ab_wrE_in hE k1 hk1
              obtain ⟨a1, e1, hw1, hac1⟩ := S.2.1 _ _ hc1
              have ea1 := ab_ad_get had1 hw1
              subst ea1
              obtain ⟨t0, N0, K0⟩ := c0
              have ht0 : t0 = 1 := Nat.eq_of_beq_eq_true hg.1
              subst ht0
              have hK0 := ab_uni_eq hU0
              simp only at hK0
              subst hK0
              obtain ⟨f, rfl⟩ := ab_acok_long hac0 (fun _ q => by cases q)
              have hf1' := hf1
              cases hg1 : (Nat.beq c1.1 1 && ab_le x.2.2.1 (.ofNat c1.2.1)) with
              | false => rw [hg1] at hf1; simp at hf1
              | true =>
                rw [hg1] at hf1
                simp only [cond_true] at hf1
                rw [Bool.and_eq_true, ab_le_iff] at hg1
                split at hf1
                · rename_i U1 hU1
                  cases hf1
                  obtain ⟨t1, N1, K1'⟩ := c1
                  have ht1 : t1 = 1 := Nat.eq_of_beq_eq_true hg1.1
                  subst ht1
                  have hK1 := ab_uni_eq hU1
                  simp only at hK1
                  subst hK1
                  obtain ⟨g, rfl⟩ := ab_acok_long hac1 (fun _ q => by cases q)
                  have z0 : x.2.2.1 ≤ (N0 : Int) := hg.2
                  have z1 : x.2.2.1 ≤ (N1 : Int) := hg1.2
                  have y1 := hq.1
                  have y2 := hq.2.1
                  have hlen := ab_all2_len S5.2.2.2
                  have hr8 := Nat.le_of_ble_eq_true hb5
                  simp only at hlen
                  refine row k0 k1 N0 N1 _ _ f g y ws H locs ls stk5 hP hD hS S.2.2.1.1 (by omega) hw0 hw1 (by omega) (by omega) (by omega) (fun H1 locs1 hP1 hD1 hS1 => ?_)
                  have hMk : M k1 = true := List.all_eq_true.mp hb4 k1 hk1
                  refine k ρ ls stk5 _ (hM _ _ _ _ _ _ _ hi hw1 hMk trivial) (ab_sat_world S5 hw1 ?_) H1 locs1 hP1 hD1 hS1
                  have hin0 := ab_acok_uniL hac0
                  refine ab_heap_wr S.2.1 hE hk1 hw1 (fun c K hc hf hac => ?_) (fun j c K e3 hj hjk hf hac => ?_)
                  · rw [hc1] at hc
                    cases hc
                    rw [hf1'] at hf
                    cases hf
                    have hin1 := ab_acok_uniL hac1
                    obtain ⟨q1, q2, -⟩ := hac1
                    refine ⟨q1, q2, Or.inl ⟨_, rfl, fun i hi' => ?_⟩⟩
                    unfold va_cpy
                    have hcl := ab_clamp (x := y) (by omega)
                    by_cases hc : 0 ≤ i ∧ i < 0 + y.toNatClampNeg
                    · rw [if_pos hc]
                      refine ab_insA_new ?_
                      obtain ⟨v, hv, v1, v2⟩ := hin0 (0 + (i - 0)) (by omega)
                      exact ⟨v, hU0s v hv, v1, v2⟩
                    · rw [if_neg hc]
                      exact ab_insA_old (hin1 i hi')
                  · cases hg3 : (Nat.beq c.1 1 && ab_le x.2.2.1 (.ofNat c.2.1)) with
                    | false => rw [hg3] at hf; simp at hf
                    | true =>
                      rw [hg3] at hf
                      simp only [cond_true] at hf
                      rw [Bool.and_eq_true] at hg3
                      split at hf
                      · rename_i U3 hU3
                        cases hf
                        obtain ⟨t3, N3, K3⟩ := c
                        have ht3 : t3 = 1 := Nat.eq_of_beq_eq_true hg3.1
                        subst ht3
                        have hK3 := ab_uni_eq hU3
                        simp only at hK3
                        subst hK3
                        obtain ⟨g3, rfl⟩ := ab_acok_long hac (fun _ q => by cases q)
                        have hin3 := ab_acok_uniL hac
                        obtain ⟨q1, q2, -⟩ := hac
                        exact ⟨q1, q2, Or.inl ⟨_, rfl, fun i hi' => ab_insA_old (hin3 i hi')⟩⟩
                      · cases hf
                · cases hf1
          · cases hU0
        · cases h
    · cases h
  · cases h
end ABR
end
