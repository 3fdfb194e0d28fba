noncomputable section
/-- new cells, known by their templates; the first one's reference on the stack -/
def ab_gal (th : ab_TH) (k n : Nat) (e : ab_En) (h : ab_AH) (L r : List ab_SV) : ab_St := ((ab_inH th n e).2.1, (ab_inH th n e).2.2, (ab_inH th n e).1 ++ h, L, some (.inr (.inl [k])) :: r)
theorem ab_heap_grow {ρ ρ' : Nat → Value} {n tS : Nat} {cs : Nat → ClassId} {en : ab_En} {hp : ab_AH} {ws nw : va_W} {th : ab_TH} (hx : ab_ext ρ ρ' n (ab_inH th n en).2.1) (h : ab_heap ρ n tS (ab_tys cs) hp ws) (h2 : ∀ k c, ab_hg (ab_inH th n en).1 k = some c → ∃ a x, (ws ++ nw)[k]? = some (a, x) ∧ ab_acok ρ' (ab_inH th n en).2.1 ((ws ++ nw).map (·.1)) tS (ab_tys cs) c x) : ab_heap ρ' (ab_inH th n en).2.1 tS (ab_tys cs) ((ab_inH th n en).1 ++ hp) (ws ++ nw) := by
  intro k c hc
  rw [ab_hg_app] at hc
  cases hE : ab_hg (ab_inH th n en).1 k with
  | some c' =>
    rw [hE] at hc
    cases hc
    exact h2 k _ hE
  | none =>
    rw [hE] at hc
    obtain ⟨a, x, g1, g2⟩ := h k c hc
    have hlt : k < ws.length := (List.getElem?_eq_some_iff.mp g1).1
    refine ⟨a, x, by rw [List.getElem?_append_left hlt]; exact g1, ?_⟩
    rw [List.map_append]
    exact ab_acok_ad (ab_acok_ext hx g2)
theorem ab_grow {ρ : Nat → Value} {n tS nL k q : Nat} {cs : Nat → ClassId} {en : ab_En} {hp : ab_AH} {L r : List ab_SV} {ls : Array Slot} {stk : List Value} {ws nw : va_W} {th : ab_TH} (S : ab_sat ρ tS (ab_tys cs) nL (n, en, hp, L, r) ls stk ws) (hth : ab_th tS (ab_tys cs) th (ws ++ nw)) (hk : ((ws ++ nw).map (·.1))[k]? = some q) :
    ∃ ρ', ab_ext ρ ρ' n (ab_inH th n en).2.1 ∧ ab_sat ρ' tS (ab_tys cs) nL (ab_gal th k n en hp L r) ls (.ref q :: stk) (ws ++ nw) := by
  obtain ⟨ρ', x1, x2, x3⟩ := ab_inH_ok S.1 hth
  refine ⟨ρ', x1, x2, ab_heap_grow x1 S.2.1 x3, ?_, ⟨k, q, List.mem_singleton.mpr rfl, hk, rfl⟩, ?_⟩
  · rw [List.map_append]; exact ab_loc_ad (ab_loc_ext x1 S.2.2.1)
  · rw [List.map_append]; exact ab_stk_ad (ab_stk_ext x1 S.2.2.2)
def ab_IK (J : (Nat → Value) → Nat → va_W → Prop) (K : Nat) : (Nat → Value) → Nat → va_W → Prop := fun ρ n ws => J ρ n ws ∧ ws.length = K
theorem ab_IK_IC {J : (Nat → Value) → Nat → va_W → Prop} {M : Nat → Bool} {K : Nat} (h : ab_IC J M) : ab_IC (ab_IK J K) M := fun _ _ _ _ _ _ hi hx hg => ⟨h _ _ _ _ _ _ hi.1 hx hg, by rw [hg.leq]; exact hi.2⟩
def ab_JG (J : (Nat → Value) → Nat → va_W → Prop) : Prop := ∀ ρ n ws ρ' n' nw, J ρ n ws → ab_ext ρ ρ' n n' → J ρ' n' (ws ++ nw)
def ab_z0 : ab_AK := .inl [(.ofNat 0, .ofNat 0)]
def ab_nz (kc : Nat → Bool) (t K N : Nat) : List ab_Iv ⊕ (List ab_Iv ⊕ (List Int ⊕ (List Nat ⊕ List ab_TV))) := bif kc K && Nat.beq t 0 then .inr (.inr (.inl (List.replicate N (.ofNat 0)))) else .inl [(.ofNat 0, .ofNat 0)]
def ab_na (kc : Nat → Bool) (t K : Nat) (st : ab_St) : Option (Nat × ab_St) := match st with
  | (n, e, h, L, v :: r) => (match ab_num e false v with
    | some x => bif ab_0le x.2.1 && (ab_le x.2.2.1 x.2.1 && ab_le x.2.1 (.ofNat 100000)) then some (x.2.1.toNat, ab_gal [(K, (t, x.2.1.toNat, ab_nz kc t K x.2.1.toNat))] K n e h L r) else none
    | none => none)
  | _ => none
def ab_mt (t1 t2 K N M : Nat) : ab_TH := (K, (t2, N, .inr (.inr (.inr (.inl ((List.range N).map (fun i => K + 1 + i))))))) :: (List.range N).map (fun i => (K + 1 + i, (t1, M, .inl [(.ofNat 0, .ofNat 0)])))
def ab_ex (x : Nat × ab_Q) : Bool := ab_0le x.2.1 && (ab_le x.2.2.1 x.2.1 && ab_le x.2.1 (.ofNat 100000))
def ab_mn (t1 t2 K : Nat) (st : ab_St) : Option (Nat × Nat × ab_St) := match st with
  | (n, e, h, L, v :: w :: r) => (match ab_num e false v, ab_num e false w with
    | some x, some y => bif ab_ex x && ab_ex y then some (y.2.1.toNat, x.2.1.toNat, ab_gal (ab_mt t1 t2 K y.2.1.toNat x.2.1.toNat) K n e h L r) else none
    | _, _ => none)
  | _ => none
theorem ab_ex_ok {ρ : Nat → Value} {n : Nat} {x : Nat × ab_Q} {i : Int32} (h : ab_ex x = true) (hi : ab_inQ ρ n i x.2) : ¬ i < 0 ∧ i.toNatClampNeg = x.2.1.toNat ∧ x.2.1.toNat ≤ 100000 := by
  unfold ab_ex at h
  rw [Bool.and_eq_true, Bool.and_eq_true, ab_le_iff, ab_le_iff] at h
  obtain ⟨b1, b2, b3⟩ := h
  have b1 : (0 : Int) ≤ x.2.1 := ab_le_iff.mp b1
  have b4 : x.2.1 ≤ 100000 := b3
  have j1 := hi.1
  have j2 := hi.2.1
  have hcl2 := ab_clamp (x := i) (by omega)
  exact ⟨by rw [Int32.lt_iff_toInt_lt]; simp; omega, by omega, by omega⟩
section ABA
variable {p : Program} {l : Launch} {e : Env} {R : Room} {s : State} {m : MethodId} {args : Array Value} {below : List Frame} {meth : Method} {c : Code} {D : va_G} {cl : List vw_C} {A : Nat → Prop} {Q : State → Prop}
variable {J : (Nat → Value) → Nat → va_W → Prop} {tS nL cells slots pc K : Nat} {cs : Nat → ClassId} {cc : ByteArray} {st st' : ab_St}
theorem ab_s_newa {kc : Nat → Bool} (hJ : ab_JG J) (hexec : p.tables.exec = Jvm.exec) (hb : c.code = cc) {atype : ArrayType} {ty : FieldType} {t N : Nat} {z : Nat → vp_A} (hty : newarray.typeOf atype = ty) (harr : (Cond.arrayClass ty).before args s = true) (hcA : s.vm.findClass ("[" ++ ty.toString) = some (cs t)) (hRA : ∀ cA, va_RA s cA ty → s.vm.findClass ("[" ++ ty.toString) = some cA) (hz : ∀ N cA, vp_cell cA (z N) = arrV cA N (fun _ => defaultValue ty)) (hcb : componentBytes ty ≤ 8)
    (hzt : ∀ N ad, ab_tc ad tS (ab_tys cs) (t, N, ab_nz kc t K N) (.inl (cs t, z N))) (hK : va_K D cl (ab_tys cs) s) (hA : ∀ q, s.heap.size ≤ q → A q) (hd : decode cc pc = .ok (.newarray atype, 2)) (h : ab_na kc t K st = some (N, st')) (hcells : cells + 1 ≤ R.cells) (hslots : slots + N ≤ R.slots)
    (k : ab_Ok p l e R s m args below meth c D cl A Q (ab_IK J (K + 1)) tS (ab_tys cs) nL (cells + 1) (slots + N) (pc + 2) st') : ab_Ok p l e R s m args below meth c D cl A Q (ab_IK J K) tS (ab_tys cs) nL cells slots pc st := by
  match st, h with
  | (n, en, hp, L, []), h => simp [ab_na] at h
  | (n, en, hp, L, v :: r), h =>
    simp only [ab_na] at h
    split at h
    · rename_i x hx
      cases hb2 : (ab_0le x.2.1 && (ab_le x.2.2.1 x.2.1 && ab_le x.2.1 (.ofNat 100000))) with
      | false => rw [hb2] at h; simp at h
      | true =>
        rw [hb2] at h
        simp only [cond_true] at h
        cases h
        rw [Bool.and_eq_true, Bool.and_eq_true, ab_le_iff, ab_le_iff] at hb2
        obtain ⟨b1, b2, b3⟩ := hb2
        have b1 : (0 : Int) ≤ x.2.1 := ab_le_iff.mp b1
        intro ρ ls stk ws hi S H locs hP hD hS
        obtain ⟨y, stk', rfl, hy, S1⟩ := ab_sat_top S
        obtain ⟨i, rfl, i2, i3, i4⟩ := ab_inQ_of S.1 hx hy
        have j1 := i4.1
        have j2 := i4.2.1
        have b4 : x.2.1 ≤ 100000 := b3
        have e1 : i.toInt = x.2.1 := by omega
        have hcl2 := ab_clamp (x := i) (by omega)
        have hneg : ¬ i < 0 := by rw [Int32.lt_iff_toInt_lt]; simp; omega
        have hNe : i.toNatClampNeg = x.2.1.toNat := by omega
        have hbytes : x.2.1.toNat * componentBytes ty ≤ 536870912 := Nat.le_trans (Nat.mul_le_mul_left _ hcb) (by omega)
        refine va_newa (a0 := z x.2.1.toNat) hexec hb (by rw [hty]; exact harr) hty hK hP hD hS hA (fun cA => hz _ cA) hneg hNe hbytes hcells hslots hd (fun q cA H1 hK1 hP1 hD1 hS1 => ?_)
        have ec : cA = cs t := by
          have := hRA cA ((hK1.2 (ab_tys cs).length (cA, ty) (by simp)).2)
          rw [hcA] at this
          exact (Option.some.inj this).symm
        subst ec
        have hlen : ws.length = K := hi.2
        have hat : (ws ++ [(q, Sum.inl (cs t, z x.2.1.toNat))] : va_W)[K]? = some (q, Sum.inl (cs t, z x.2.1.toNat)) := by
          rw [List.getElem?_append_right (by omega), show K - ws.length = 0 by omega]; rfl
        obtain ⟨ρ', y1, y2⟩ := ab_grow (nw := [(q, Sum.inl (cs t, z x.2.1.toNat))]) (th := [(K, (t, x.2.1.toNat, ab_nz kc t K x.2.1.toNat))]) (k := K) (q := q) S1 (fun w hw => by
          rw [List.mem_singleton] at hw
          subst hw
          exact ⟨q, _, hat, hzt _ _⟩) (by rw [List.getElem?_map, hat]; rfl)
        exact k ρ' ls _ _ ⟨hJ _ _ _ _ _ _ hi.1 y1, by rw [List.length_append]; simp [hlen]⟩ y2 H1 locs hP1 hD1 hS1
    · cases h
theorem ab_s_newo (hJ : ab_JG J) {own C : String} {T : u_T} {N ci index : Nat} {Ts : List Cond} {c0 : Code} (hexec : p.tables.exec = Jvm.exec) (hb : c0.code = cc) (hts : ∀ w ∈ Ts, w.before args s = true) (hin : ∀ w ∈ u_ws C T N, w ∈ Ts) (ty : Nat → FieldType) (hty : ∀ k, k < N → parseFieldDescriptor (T k).2.2.1 = some (ty k)) (hown : s.vm.findClass own = some m.cls) (hcl : (Cond.classLink own index C).before args s = true) (hinst : (Cond.instantiable C N).before args s = true) (hini : (Cond.initialized C).before args s = true) (hc : cl[ci]? = some (C, T, N)) {fs : List Value} (hfs : ∀ j, j < N → defaultValue (ty j) = vp_V fs j)
    {tc : ab_TC} (htc : ∀ ad, ab_tc ad tS (ab_tys cs) tc (.inr (ci, fs))) (hK : va_K D cl (ab_tys cs) s) (hA : ∀ q, s.heap.size ≤ q → A q) (hd : decode cc pc = .ok (.new index, 3)) (hcells : cells + 1 ≤ R.cells) (hslots : slots + N ≤ R.slots) {n : Nat} {en : ab_En} {hp : ab_AH} {L r : List ab_SV}
    (k : ab_Ok p l e R s m args below meth c0 D cl A Q (ab_IK J (K + 1)) tS (ab_tys cs) nL (cells + 1) (slots + N) (pc + 3) (ab_gal [(K, tc)] K n en hp L r)) : ab_Ok p l e R s m args below meth c0 D cl A Q (ab_IK J K) tS (ab_tys cs) nL cells slots pc (n, en, hp, L, r) := by
  intro ρ ls stk ws hi S H locs hP hD hS
  refine va_new hexec hb hts hin ty hty hown hcl hinst hini hK hP hD hS hA hc hfs hcells hslots hd (fun q H1 hP1 hD1 hS1 => ?_)
  have hlen : ws.length = K := hi.2
  have hat : (ws ++ [(q, Sum.inr (ci, fs))] : va_W)[K]? = some (q, Sum.inr (ci, fs)) := by
    rw [List.getElem?_append_right (by omega), show K - ws.length = 0 by omega]; rfl
  obtain ⟨ρ', y1, y2⟩ := ab_grow (nw := [(q, Sum.inr (ci, fs))]) (th := [(K, tc)]) (k := K) (q := q) S (fun w hw => by
    rw [List.mem_singleton] at hw
    subst hw
    exact ⟨q, _, hat, htc _⟩) (by rw [List.getElem?_map, hat]; rfl)
  exact k ρ' ls _ _ ⟨hJ _ _ _ _ _ _ hi.1 y1, by rw [List.length_append]; simp [hlen]⟩ y2 H1 locs hP1 hD1 hS1
theorem ab_s_mna (hJ : ab_JG J) (hexec : p.tables.exec = Jvm.exec) (hb : c.code = cc) {own : String} {index : Nat} {ty : FieldType} {t1 t2 N M : Nat} {z : Nat → vp_A} (hown : s.vm.findClass own = some m.cls) (hclink : (Cond.classLink own index ("[" ++ (FieldType.array ty).toString)).before args s = true) (hover : va_AOA ty s) (harr : (Cond.arrayClass ty).before args s = true) (hcy : s.vm.findClass (FieldType.array ty).toString = some (cs t1)) (hcA : s.vm.findClass ("[" ++ (FieldType.array ty).toString) = some (cs t2))
    (ht2 : (ab_tys cs)[t2]? = some (cs t2, .array ty)) (hz : ∀ N cA, vp_cell cA (z N) = arrV cA N (fun _ => defaultValue ty)) (hzt : ∀ N ad, ab_tc ad tS (ab_tys cs) (t1, N, .inl [(.ofNat 0, .ofNat 0)]) (.inl (cs t1, z N))) (hcb : componentBytes ty ≤ 8) (hdf : fits ty (defaultValue ty) = true) (hdd : (defaultValue ty).isDefault = true)
    (hA : ∀ q, s.heap.size ≤ q → A q) (hd : decode cc pc = .ok (.multianewarray index 2, 4)) (h : ab_mn t1 t2 K st = some (N, M, st')) (hcells : cells + (1 + N) ≤ R.cells) (hslots : slots + (N + N * M) ≤ R.slots)
    (k : ab_Ok p l e R s m args below meth c D cl A Q (ab_IK J (K + (1 + N))) tS (ab_tys cs) nL (cells + 1 + N) (slots + N + N * M) (pc + 4) st') : ab_Ok p l e R s m args below meth c D cl A Q (ab_IK J K) tS (ab_tys cs) nL cells slots pc st := by
  match st, h with
  | (n, en, hp, L, []), h => simp [ab_mn] at h
  | (n, en, hp, L, [v]), h => simp [ab_mn] at h
  | (n, en, hp, L, v :: w :: r), h =>
    simp only [ab_mn] at h
    split at h
    · rename_i x y hx hy
      cases hb2 : (ab_ex x && ab_ex y) with
      | false => rw [hb2] at h; simp at h
      | true =>
        rw [hb2] at h
        simp only [cond_true] at h
        cases h
        rw [Bool.and_eq_true] at hb2
        intro ρ ls stk ws hi S H locs hP hD hS
        obtain ⟨a, stk', rfl, ha, S1⟩ := ab_sat_top S
        obtain ⟨b, stk2, rfl, hb3, S2⟩ := ab_sat_top S1
        obtain ⟨i, rfl, i2, i3, i4⟩ := ab_inQ_of S.1 hx ha
        obtain ⟨i', rfl, i2', i3', i4'⟩ := ab_inQ_of S.1 hy hb3
        obtain ⟨m1, m2, m3⟩ := ab_ex_ok hb2.1 i4
        obtain ⟨n1, n2, n3⟩ := ab_ex_ok hb2.2 i4'
        generalize hN : y.2.1.toNat = N at *
        generalize hM : x.2.1.toNat = M at *
        have hbytes : M * componentBytes ty ≤ 536870912 := Nat.le_trans (Nat.mul_le_mul_left _ hcb) (by omega)
        have hlen : ws.length = K := hi.2
        refine gw_new hexec hb hown hclink hover harr hcy hcA hP hD hS hA (hz M _) n1 m1 n2 m2 (by omega) hbytes (by omega) hdf hdd hcells hslots hd (fun q H1 locs1 hP1 hD1 hS1 => ?_)
        have hat0 : (ws ++ ((q, .inl (cs t2, N, .inr (.inr (.inr (.inr (fun i => if i < N then some (q + 1 + i) else none)))))) :: (List.range N).map (fun i => (q + 1 + i, .inl (cs t1, z M)))) : va_W)[K]? = some (q, .inl (cs t2, N, .inr (.inr (.inr (.inr (fun i => if i < N then some (q + 1 + i) else none)))))) := by
          rw [List.getElem?_append_right (by omega), show K - ws.length = 0 by omega]; rfl
        have hat1 : ∀ i, i < N → (ws ++ ((q, .inl (cs t2, N, .inr (.inr (.inr (.inr (fun i => if i < N then some (q + 1 + i) else none)))))) :: (List.range N).map (fun i => (q + 1 + i, .inl (cs t1, z M)))) : va_W)[K + 1 + i]? = some (q + 1 + i, .inl (cs t1, z M)) := by
          intro i hi
          rw [List.getElem?_append_right (by omega), show K + 1 + i - ws.length = i + 1 by omega, List.getElem?_cons_succ, List.getElem?_map, List.getElem?_range hi]
          rfl
        obtain ⟨ρ', y1, y2⟩ := ab_grow (nw := (q, .inl (cs t2, N, .inr (.inr (.inr (.inr (fun i => if i < N then some (q + 1 + i) else none)))))) :: (List.range N).map (fun i => (q + 1 + i, .inl (cs t1, z M)))) (th := ab_mt t1 t2 K N M) (k := K) (q := q) S2 (fun w hw => by
          rcases List.mem_cons.mp hw with rfl | hw
          · refine ⟨q, _, hat0, rfl, ⟨ty, ht2⟩, _, rfl, by simp, fun i k' hk' => ?_⟩
            rw [List.getElem?_map] at hk'
            obtain ⟨j, hj, rfl⟩ := Option.map_eq_some_iff.mp hk'
            obtain ⟨g1, g2⟩ := List.getElem?_eq_some_iff.mp hj
            rw [List.getElem_range] at g2
            subst g2
            have hiN : i < N := by simpa using g1
            refine ⟨q + 1 + i, by rw [List.getElem?_map, hat1 i hiN]; rfl, if_pos hiN⟩
          · obtain ⟨i, hi, rfl⟩ := List.mem_map.mp hw
            exact ⟨_, _, hat1 i (List.mem_range.mp hi), hzt _ _⟩) (by rw [List.getElem?_map, hat0]; rfl)
        exact k ρ' ls _ _ ⟨hJ _ _ _ _ _ _ hi.1 y1, by rw [List.length_append]; simp [hlen]; omega⟩ y2 H1 locs1 hP1 hD1 hS1
    · cases h
end ABA
end
