noncomputable section
def lw_run (tb : List (Nat × Instr × Nat)) (stp : Instr → Nat → Nat → ab_St → Option (List (Nat × ab_St))) (ter : ab_St → Bool) : Nat → Nat → ab_St → Bool
  | 0, _, _ => false
  | f + 1, pc, st => bif Nat.beq pc 1810 then ter st else (match ab_lk tb pc with
    | none => false
    | some q => (match stp q.1 q.2 pc st with
      | none => false
      | some sl => sl.all (fun w => lw_run tb stp ter f w.1 w.2)))
theorem lw_run_ok {tb : List (Nat × Instr × Nat)} {stp : Instr → Nat → Nat → ab_St → Option (List (Nat × ab_St))} {ter : ab_St → Bool} {P : Nat → ab_St → Prop} (htb : ∀ pc i len, (pc, i, len) ∈ tb → decode code pc = .ok (i, len))
    (hs : ∀ i len pc st sl, decode code pc = .ok (i, len) → stp i len pc st = some sl → (∀ w ∈ sl, P w.1 w.2) → P pc st) (ht : ∀ st, ter st = true → P 1810 st) : ∀ (f pc : Nat) (st : ab_St), lw_run tb stp ter f pc st = true → P pc st
  | 0, _, _, h => by simp [lw_run] at h
  | f + 1, pc, st, h => by
    rw [lw_run] at h
    cases hb : Nat.beq pc 1810 with
    | true =>
      rw [hb] at h
      have e1 : pc = 1810 := Nat.eq_of_beq_eq_true hb
      subst e1
      exact ht st h
    | false =>
      rw [hb] at h
      simp only [cond_false] at h
      split at h
      · cases h
      · rename_i q hq
        split at h
        · cases h
        · rename_i sl hsl
          exact hs _ _ _ _ sl (htb _ _ _ (ab_lk_mem hq)) hsl (fun w hw => lw_run_ok htb hs ht f w.1 w.2 (List.all_eq_true.mp h w hw))
def lw_rf (k : Nat) (v : Option ab_SV) : Bool := match v with
  | some (some (.inr (.inl [j]))) => Nat.beq j k
  | _ => false
theorem lw_rf_ok {k : Nat} {v : Option ab_SV} (h : lw_rf k v = true) : v = some (some (.inr (.inl [k]))) := by
  unfold lw_rf at h
  split at h
  · rw [Nat.eq_of_beq_eq_true h]
  · cases h
def lw_ids : List Nat → List Nat → Bool
  | [], [] => true
  | a :: r, b :: s => Nat.beq a b && lw_ids r s
  | _, _ => false
theorem lw_ids_ok : ∀ {a b : List Nat}, lw_ids a b = true → a = b
  | [], [], _ => rfl
  | x :: r, y :: s, h => by
    rw [lw_ids, Bool.and_eq_true] at h
    rw [Nat.eq_of_beq_eq_true h.1, lw_ids_ok h.2]
  | [], _ :: _, h => by simp [lw_ids] at h
  | _ :: _, [], h => by simp [lw_ids] at h
def lw_eqa (h : ab_AH) : Bool := match ab_hg h 44, ab_hg h 120 with
  | some (t, N, .inr (.inl is)), some (u, O, .inr (.inl js)) => (Nat.beq t 0 && Nat.beq u 0) && ((Nat.beq N 4 && Nat.beq O 4) && lw_ids is js)
  | _, _ => false
def lw_ter (mile : Bool) (ths : List ab_TH) (st : ab_St) : Bool := match st.2.2.2.2 with
  | [] => ((lw_sv 7 st.2.2.2.1[0]? && lw_rf 0 st.2.2.2.1[1]?) && ((lw_rf 119 st.2.2.2.1[2]? && lw_rf 164 st.2.2.2.1[3]?) && lw_sv 0 st.2.2.2.1[4]?)) && ((!mile || lw_eqa st.2.2.1) && ths.any (fun t => ab_leH st.2.1 st.2.2.1 t))
  | _ => false
/-- the miles of both are the same -/
def lw_EQ (cs : Nat → ClassId) (ws : va_W) : Prop := ∃ (a1 a2 : Nat) (g1 g2 : Nat → Int32), ws[44]? = some (a1, .inl (cs 0, 4, .inl g1)) ∧ ws[120]? = some (a2, .inl (cs 0, 4, .inl g2)) ∧ ∀ i, i < 4 → g1 i = g2 i
def lw_Lc (b : Nat) (iv : Int32) (ws : va_W) (ls : Array Slot) : Prop := ls.size = 8 ∧ lv_wf ls ∧ ls[0]? = some (Slot.val (.ref b)) ∧ (∃ a, (ws.map (·.1))[0]? = some a ∧ ls[1]? = some (Slot.val (.ref a))) ∧ (∃ a, (ws.map (·.1))[119]? = some a ∧ ls[2]? = some (Slot.val (.ref a))) ∧ (∃ a, (ws.map (·.1))[164]? = some a ∧ ls[3]? = some (Slot.val (.ref a))) ∧ ls[4]? = some (Slot.val (.int iv))
theorem lw_one {ρ : Nat → Value} {n tS k : Nat} {ad : List Nat} {x : Value} (h : ab_val ρ n ad tS (some (.inr (.inl [k]))) x) : ∃ a, ad[k]? = some a ∧ x = .ref a := by
  obtain ⟨k', a, h1, h2, h3⟩ := h
  rw [List.mem_singleton] at h1
  subst h1
  exact ⟨a, h2, h3⟩
theorem lw_eqa_ok {ρ : Nat → Value} {n tS : Nat} {cs : Nat → ClassId} {h : ab_AH} {ws : va_W} (hh : ab_heap ρ n tS (ab_tys cs) h ws) (he : lw_eqa h = true) : lw_EQ cs ws := by
  unfold lw_eqa at he
  split at he
  · rename_i t N is u O js h1 h2
    simp only [Bool.and_eq_true] at he
    obtain ⟨⟨t1, t2⟩, ⟨t3, t4⟩, t5⟩ := he
    have t1 := Nat.eq_of_beq_eq_true t1
    have t2 := Nat.eq_of_beq_eq_true t2
    have t3 := Nat.eq_of_beq_eq_true t3
    have t4 := Nat.eq_of_beq_eq_true t4
    have t5 := lw_ids_ok t5
    subst t1; subst t2; subst t3; subst t4; subst t5
    obtain ⟨a1, e1, w1, c1⟩ := hh _ _ h1
    obtain ⟨a2, e2, w2, c2⟩ := hh _ _ h2
    obtain ⟨g1, rfl⟩ := ab_acok_int c1 (Or.inl rfl) (fun _ q => by cases q)
    obtain ⟨g2, rfl⟩ := ab_acok_int c2 (Or.inl rfl) (fun _ q => by cases q)
    refine ⟨a1, a2, g1, g2, w1, w2, fun i hi => ?_⟩
    have d1 := c1.2.2
    have d2 := c2.2.2
    rcases d1 with ⟨U, q, -⟩ | ⟨is1, q1, q2, q3⟩ | ⟨z, q, -⟩
    · cases q
    · rcases d2 with ⟨U, q, -⟩ | ⟨is2, r1, r2, r3⟩ | ⟨z, q, -⟩
      · cases q
      · cases q1
        cases r1
        have hi2 : i < is.length := by rw [q2]; exact hi
        have hk : is[i]? = some is[i] := List.getElem?_eq_getElem hi2
        have x1 := (q3 i _ hk).2
        have x2 := (r3 i _ hk).2
        rw [x1] at x2
        exact Value.int.inj x2
      · cases q
    · cases q
  · cases he
section LWT
variable {p : Program} {l : Launch} {e : Env} {s : State} {m : MethodId} {below : List Frame} {meth : Method} {c : Code} {D : va_G} {A : Nat → Prop} {Q : State → Prop}
variable {tS b L cells slots i0 d0 : Nat} {xs : Nat → Int32} {cs : Nat → ClassId} {M : Nat → Bool} {iv : Int32} {T : ab_Tb} {O : ab_Cf}
theorem lw_go {nw : Nat → ab_St → Option (List (Nat × ab_St))} (F : lw_F p s m meth c A D cs tS b L xs) (hcs : cells ≤ 601024 ∧ slots ≤ 7293033) (hMO : ab_MOK ZZ MtF wFF bFF vwCl T R_law) (hnj : ∀ ix k, T.2.2.2.2 ix ≠ some (.inl k)) (CO : ab_CO l ZZ d0 D vwCl cs tS M O) (hd0 : d0 ≤ 1000) (hiv : iv.toInt = (i0 : Int)) (hL : i0 + 6 ≤ L) (hL2 : L ≤ 3072) {tb : List (Nat × Instr × Nat)} (htb : ∀ pc i len, (pc, i, len) ∈ tb → decode code pc = .ok (i, len))
    {ws : va_W} {ls : Array Slot} {st : ab_St} {ρ : Nat → Value} {fuel pc : Nat} {ths : List ab_TH} (mile : Bool)
    (hnw : ∀ pc st sl, decode code pc = .ok (.invokestatic 109, 3) → nw pc st = some sl → (∀ w ∈ sl, ab_Ok p l e room_1 s m #[Value.ref b] below meth c D vwCl A Q (lw_I iv i0 b xs M ws) tS (ab_tys cs) 8 cells slots w.1 w.2) → ab_Ok p l e room_1 s m #[Value.ref b] below meth c D vwCl A Q (lw_I iv i0 b xs M ws) tS (ab_tys cs) 8 cells slots pc st)
    (hMm : mile = false → M 44 = false ∧ M 120 = false) (hc : lw_run tb (lw_stp tb (ab_step T MtF O 8 M false) nw) (lw_ter mile ths) fuel pc st = true) (hEQ : lw_EQ cs ws) (hi : lw_I iv i0 b xs M ws ρ st.1 ws) (S : ab_sat ρ tS (ab_tys cs) 8 st ls [] ws) (hlen : ws.length = 165)
    (K : ∀ (ls' : Array Slot) (ws' : va_W), lw_Lc b iv ws' ls' → (∃ th ∈ ths, ab_th tS (ab_tys cs) th ws') → lw_EQ cs ws' → ws'.length = 165 → ab_W p l e room_1 s m #[Value.ref b] below meth c D vwCl A Q cells slots 1810 ls' [] ws') : ab_W p l e room_1 s m #[Value.ref b] below meth c D vwCl A Q cells slots pc ls [] ws := by
  have hrun := lw_run_ok (P := fun pc st => ab_Ok p l e room_1 s m #[Value.ref b] below meth c D vwCl A Q (lw_I iv i0 b xs M ws) tS (ab_tys cs) 8 cells slots pc st) htb (lw_stp_ok F hcs hMO hnj CO hd0 hiv hL hL2 htb hnw) (fun st ht => ?_) fuel pc st hc
  · exact hrun ρ ls [] ws hi S
  · intro ρ ls stk w hi S
    obtain ⟨n, en, hp, Lc, sk⟩ := st
    unfold lw_ter at ht
    split at ht
    · rename_i hsk
      have hsk2 : sk = [] := hsk
      subst hsk2
      simp only [Bool.and_eq_true] at ht
      obtain ⟨⟨⟨t1, t2⟩, ⟨t3, t4⟩, t5⟩, t6, t7⟩ := ht
      obtain ⟨⟨i1, i2, i3, i4⟩, i5⟩ := hi
      obtain ⟨th, hth, t8⟩ := List.any_eq_true.mp t7
      have hstk : stk = [] := by
        match stk, S with
        | [], _ => rfl
        | _ :: _, S => exact S.2.2.2.elim
      subst hstk
      have hloc := S.2.2.1.2.2.2
      obtain ⟨v0, w0, x0⟩ := hloc 0 _ (lw_sv_ok t1)
      obtain ⟨v1, w1, x1⟩ := hloc 1 _ (lw_rf_ok t2)
      obtain ⟨v2, w2, x2⟩ := hloc 2 _ (lw_rf_ok t3)
      obtain ⟨v3, w3, x3⟩ := hloc 3 _ (lw_rf_ok t4)
      obtain ⟨v4, w4, x4⟩ := hloc 4 _ (lw_sv_ok t5)
      have x0 : v0 = ρ 7 := x0.2
      have x4 : v4 = ρ 0 := x4.2
      rw [x0, i3] at w0
      rw [x4, i1] at w4
      obtain ⟨a1, y1, rfl⟩ := lw_one x1
      obtain ⟨a2, y2, rfl⟩ := lw_one x2
      obtain ⟨a3, y3, rfl⟩ := lw_one x3
      refine K ls w ⟨S.2.2.1.1, S.2.2.1.2.1, w0, ⟨a1, y1, w1⟩, ⟨a2, y2, w2⟩, ⟨a3, y3, w3⟩, w4⟩ ⟨th, hth, ab_leH_ok S.1 t8 S.2.1⟩ ?_ (by rw [i5.leq]; exact hlen)
      cases hm : mile with
      | true =>
        rw [hm] at t6
        exact lw_eqa_ok S.2.1 (by simpa using t6)
      | false =>
        obtain ⟨m1, m2⟩ := hMm hm
        obtain ⟨b1, b2, g1, g2, e1, e2, e3⟩ := hEQ
        exact ⟨b1, b2, g1, g2, by rw [i5.2.1 44 (by omega) m1]; exact e1, by rw [i5.2.1 120 (by omega) m2]; exact e2, e3⟩
    · cases ht
end LWT
def lw_L : List ab_SV := [some (.inl 7), some (.inr (.inl [0])), some (.inr (.inl [119])), some (.inr (.inl [164])), some (.inl 0), none, none, none]
def lw_e0 (bl bh : Int) : ab_En := [(0, false, .ofNat 0, .ofNat 3066, 0, .ofNat 0), (1, false, ab_m31, ab_p31, 1, .ofNat 0), (2, false, bl, bh, 2, .ofNat 0), (3, false, ab_m31, ab_p31, 3, .ofNat 0), (4, false, ab_m31, ab_p31, 4, .ofNat 0), (5, false, ab_m31, ab_p31, 5, .ofNat 0), (6, false, ab_m31, ab_p31, 6, .ofNat 0)]
def lw_sg (th : ab_TH) : ab_St := ((ab_inH th 8 (lw_e0 ab_m31 ab_p31)).2.1, (ab_inH th 8 (lw_e0 ab_m31 ab_p31)).2.2, (ab_inH th 8 (lw_e0 ab_m31 ab_p31)).1, lw_L, [])
def lw_e1 (bl bh : Int) : ab_En := (8, false, .ofNat 0, .ofNat 40, 8, .ofNat 0) :: (9, false, .ofNat 0, .ofNat 40, 9, .ofNat 0) :: (10, false, .ofNat 0, .ofNat 40, 10, .ofNat 0) :: (11, false, .ofNat 0, .ofNat 40, 11, .ofNat 0) :: lw_e0 bl bh
def lw_sm (bl bh : Int) (th : ab_TH) : ab_St := ((ab_inH th 12 (lw_e1 bl bh)).2.1, (ab_inH th 12 (lw_e1 bl bh)).2.2, (44, (0, 4, .inr (.inl [8, 9, 10, 11]))) :: (120, (0, 4, .inr (.inl [8, 9, 10, 11]))) :: (ab_inH th 12 (lw_e1 bl bh)).1, lw_L, [])
def lw_ρ (iv : Int32) (i0 b : Nat) (xs g : Nat → Int32) : Nat → Value := fun i => if i = 0 then .int iv else if i < 7 then .int (xs (i0 + (i - 1))) else if i = 7 then .ref b else .int (g (i - 8))
theorem lw_fullI (x : Int32) : ab_m31 ≤ x.toInt ∧ x.toInt ≤ ab_p31 := by
  rw [ab_m31_eq, ab_p31_eq]
  have h1 := Int32.le_toInt x
  have h2 := Int32.toInt_lt x
  omega
theorem lw_ev {ρ : Nat → Value} {n i : Nat} {x : Int32} {lo hi : Int} (h : ρ i = .int x) (hlt : i < n) (h1 : lo ≤ x.toInt) (h2 : x.toInt ≤ hi) : ab_evok ρ n (i, false, lo, hi, i, .ofNat 0) := ⟨hlt, hlt, Or.inr ⟨rfl, x, h, h1, h2, x, h, by show x.toInt = x.toInt + 0; omega⟩⟩
theorem lw_env0 {iv : Int32} {i0 b n : Nat} {xs g : Nat → Int32} {bl bh : Int} (hiv : iv.toInt = (i0 : Int)) (hi : i0 ≤ 3066) (hb : bl ≤ (xs (i0 + 1)).toInt ∧ (xs (i0 + 1)).toInt ≤ bh) (hn : 8 ≤ n) : ab_env (lw_ρ iv i0 b xs g) n (lw_e0 bl bh) := by
  intro q hq
  unfold lw_e0 at hq
  simp only [List.mem_cons, List.not_mem_nil, or_false] at hq
  rcases hq with rfl | rfl | rfl | rfl | rfl | rfl | rfl
  · exact lw_ev (i := 0) (x := iv) rfl (by omega) (by show (0 : Int) ≤ _; omega) (by show _ ≤ (3066 : Int); omega)
  · exact lw_ev (i := 1) (x := xs (i0 + 0)) rfl (by omega) (lw_fullI _).1 (lw_fullI _).2
  · exact lw_ev (i := 2) (x := xs (i0 + 1)) rfl (by omega) hb.1 hb.2
  · exact lw_ev (i := 3) (x := xs (i0 + 2)) rfl (by omega) (lw_fullI _).1 (lw_fullI _).2
  · exact lw_ev (i := 4) (x := xs (i0 + 3)) rfl (by omega) (lw_fullI _).1 (lw_fullI _).2
  · exact lw_ev (i := 5) (x := xs (i0 + 4)) rfl (by omega) (lw_fullI _).1 (lw_fullI _).2
  · exact lw_ev (i := 6) (x := xs (i0 + 5)) rfl (by omega) (lw_fullI _).1 (lw_fullI _).2
theorem lw_I0 {iv : Int32} {i0 b n : Nat} {xs g : Nat → Int32} {M : Nat → Bool} {ws : va_W} (hn : 8 ≤ n) : lw_I iv i0 b xs M ws (lw_ρ iv i0 b xs g) n ws := by
  refine ⟨⟨rfl, fun k hk => ?_, rfl, hn⟩, ab_gr.refl⟩
  unfold lw_ρ
  rw [if_neg (by omega), if_pos (by omega), show 1 + k - 1 = k by omega]
theorem lw_loc {iv : Int32} {i0 b n tS : Nat} {xs g : Nat → Int32} {ws : va_W} {ls : Array Slot} (hn : 8 ≤ n) (h : lw_Lc b iv ws ls) : ab_loc (lw_ρ iv i0 b xs g) n (ws.map (·.1)) tS 8 lw_L ls := by
  obtain ⟨h1, h2, h3, ⟨a1, h4, h5⟩, ⟨a2, h6, h7⟩, ⟨a3, h8, h9⟩, h10⟩ := h
  refine ⟨h1, h2, rfl, fun i v hv => ?_⟩
  match i, hv with
  | 0, hv => cases hv; exact ⟨_, h3, by show 7 < n; omega, rfl⟩
  | 1, hv => cases hv; exact ⟨_, h5, 0, a1, List.mem_singleton.mpr rfl, h4, rfl⟩
  | 2, hv => cases hv; exact ⟨_, h7, 119, a2, List.mem_singleton.mpr rfl, h6, rfl⟩
  | 3, hv => cases hv; exact ⟨_, h9, 164, a3, List.mem_singleton.mpr rfl, h8, rfl⟩
  | 4, hv => cases hv; exact ⟨_, h10, by show 0 < n; omega, rfl⟩
  | 5, hv => cases hv
  | 6, hv => cases hv
  | 7, hv => cases hv
  | i + 8, hv => simp [lw_L] at hv
theorem lw_sg_ok {iv : Int32} {i0 b tS : Nat} {xs : Nat → Int32} {cs : Nat → ClassId} {M : Nat → Bool} {ws : va_W} {ls : Array Slot} {th : ab_TH} (hiv : iv.toInt = (i0 : Int)) (hi : i0 ≤ 3066) (hl : lw_Lc b iv ws ls) (hth : ab_th tS (ab_tys cs) th ws) : ∃ ρ, lw_I iv i0 b xs M ws ρ (lw_sg th).1 ws ∧ ab_sat ρ tS (ab_tys cs) 8 (lw_sg th) ls [] ws := by
  obtain ⟨ρ, x1, x2, x3⟩ := ab_inH_ok (lw_env0 (b := b) (g := fun _ => 0) (n := 8) hiv hi (lw_fullI _) (Nat.le_refl _)) hth
  exact ⟨ρ, lw_I_IC _ _ _ _ _ _ (lw_I0 (Nat.le_refl 8)) x1 ab_gr.refl, x2, x3, ab_loc_ext x1 (lw_loc (Nat.le_refl 8) hl), trivial⟩
theorem lw_sm_ok {iv : Int32} {i0 b tS : Nat} {xs : Nat → Int32} {cs : Nat → ClassId} {M : Nat → Bool} {ws : va_W} {ls : Array Slot} {th : ab_TH} {bl bh : Int} (hiv : iv.toInt = (i0 : Int)) (hi : i0 ≤ 3066) (hb : bl ≤ (xs (i0 + 1)).toInt ∧ (xs (i0 + 1)).toInt ≤ bh) (hl : lw_Lc b iv ws ls) (hth : ab_th tS (ab_tys cs) th ws) (hEQ : lw_EQ cs ws) (hmem : (44, ((0, 4, .inl [(.ofNat 0, .ofNat 40)]) : ab_TC)) ∈ th) : ∃ ρ, lw_I iv i0 b xs M ws ρ (lw_sm bl bh th).1 ws ∧ ab_sat ρ tS (ab_tys cs) 8 (lw_sm bl bh th) ls [] ws := by
  obtain ⟨a1, a2, g1, g2, w1, w2, w3⟩ := hEQ
  have hbd : ∀ i, i < 4 → (0 : Int) ≤ (g1 i).toInt ∧ (g1 i).toInt ≤ 40 := by
    obtain ⟨a, x, y1, y2⟩ := hth _ hmem
    rw [w1] at y1
    cases y1
    intro i hi
    rcases y2.2.2.2 with ⟨U, q, r⟩ | ⟨vs, q, -⟩ | ⟨z, q, -⟩
    · cases q
      obtain ⟨v, hv, r1, r2⟩ := r i hi
      rw [List.mem_singleton] at hv
      subst hv
      exact ⟨r1, r2⟩
    · cases q
    · cases q
  have henv : ab_env (lw_ρ iv i0 b xs g1) 12 (lw_e1 bl bh) := by
    intro q hq
    unfold lw_e1 at hq
    simp only [List.mem_cons] at hq
    rcases hq with rfl | rfl | rfl | rfl | hq
    · exact lw_ev (i := 8) (x := g1 0) rfl (by omega) (hbd 0 (by omega)).1 (hbd 0 (by omega)).2
    · exact lw_ev (i := 9) (x := g1 1) rfl (by omega) (hbd 1 (by omega)).1 (hbd 1 (by omega)).2
    · exact lw_ev (i := 10) (x := g1 2) rfl (by omega) (hbd 2 (by omega)).1 (hbd 2 (by omega)).2
    · exact lw_ev (i := 11) (x := g1 3) rfl (by omega) (hbd 3 (by omega)).1 (hbd 3 (by omega)).2
    · exact lw_env0 (b := b) (g := g1) hiv hi hb (by omega) q hq
  obtain ⟨ρ, x1, x2, x3⟩ := ab_inH_ok henv hth
  have hids : ∀ (g : Nat → Int32), (∀ i, i < 4 → g1 i = g i) → ab_acok ρ (ab_inH th 12 (lw_e1 bl bh)).2.1 (ws.map (·.1)) tS (ab_tys cs) (0, 4, .inr (.inl [8, 9, 10, 11])) (.inl (cs 0, 4, .inl g)) := by
    intro g hg
    refine ⟨rfl, ⟨.int, rfl, Or.inl rfl⟩, Or.inr (Or.inl ⟨_, rfl, rfl, fun i k hk => ?_⟩)⟩
    have hn := x1.1
    match i, hk with
    | 0, hk => cases hk; exact ⟨by omega, by rw [x1.2 8 (by omega)]; show Value.int (g1 0) = _; rw [hg 0 (by omega)]⟩
    | 1, hk => cases hk; exact ⟨by omega, by rw [x1.2 9 (by omega)]; show Value.int (g1 1) = _; rw [hg 1 (by omega)]⟩
    | 2, hk => cases hk; exact ⟨by omega, by rw [x1.2 10 (by omega)]; show Value.int (g1 2) = _; rw [hg 2 (by omega)]⟩
    | 3, hk => cases hk; exact ⟨by omega, by rw [x1.2 11 (by omega)]; show Value.int (g1 3) = _; rw [hg 3 (by omega)]⟩
    | i + 4, hk => simp at hk
  refine ⟨ρ, lw_I_IC _ _ _ _ _ _ (lw_I0 (by omega : 8 ≤ 12)) x1 ab_gr.refl, x2, fun k c hc => ?_, ab_loc_ext x1 (lw_loc (by omega : 8 ≤ 12) hl), trivial⟩
  have hc2 : ab_hg ((44, (0, 4, .inr (.inl [8, 9, 10, 11]))) :: (120, (0, 4, .inr (.inl [8, 9, 10, 11]))) :: (ab_inH th 12 (lw_e1 bl bh)).1) k = some c := hc
  rw [ab_hg_cons] at hc2
  by_cases e1 : 44 = k
  · rw [if_pos e1] at hc2
    cases hc2
    subst e1
    exact ⟨a1, _, w1, hids g1 (fun _ _ => rfl)⟩
  · rw [if_neg e1, ab_hg_cons] at hc2
    by_cases e2 : 120 = k
    · rw [if_pos e2] at hc2
      cases hc2
      subst e2
      exact ⟨a2, _, w2, hids g2 w3⟩
    · rw [if_neg e2] at hc2
      exact x3 k c hc2
end
