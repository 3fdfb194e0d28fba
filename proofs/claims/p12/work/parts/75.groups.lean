noncomputable section
theorem sg_tl_get {ad : List Nat} {tS : Nat} : ∀ {ts : List ab_TV} {xs : List Value}, ab_tl ad tS ts xs → ∀ {i : Nat} {t : ab_TV}, ts[i]? = some t → ∃ x, xs[i]? = some x ∧ ab_tv ad tS t x
  | [], [], _, i, t, h => by simp at h
  | a :: as, b :: bs, k, 0, t, h => by
    have e : a = t := by simpa using h
    subst e
    exact ⟨b, rfl, k.1⟩
  | a :: as, b :: bs, k, i + 1, t, h => by
    obtain ⟨x, hx, hp⟩ := sg_tl_get k.2 (show as[i]? = some t by simpa using h)
    exact ⟨x, by simpa using hx, hp⟩
  | [], _ :: _, k, _, _, _ => k.elim
  | _ :: _, [], k, _, _, _ => k.elim
/-- a row of ints, whole -/
theorem sg_tcI {ad : List Nat} {tS N : Nat} {cs : Nat → ClassId} {U : List ab_Iv} {e : va_E} (h : ab_tc ad tS (ab_tys cs) (0, N, .inl U) e) : ∃ g : Nat → Int32, e = .inl (cs 0, N, .inl g) ∧ ∀ i, i < N → ab_inU U (g i).toInt := by
  match e, h with
  | .inr (ci, fs), ⟨_, _, tvs, h3, _⟩ => cases h3
  | .inl (cA, N', .inl f), ⟨h1, ⟨ty, h2, _⟩, _, h4⟩ =>
    have e1 : cA = cs 0 := by
      have h5 : some (cs 0, FieldType.int) = some (cA, ty) := h2
      cases h5
      rfl
    have e2 : N' = N := h1
    subst e1; subst e2
    rcases h4 with ⟨U', h6, h7⟩ | ⟨vs, h6, _⟩ | ⟨ks, h6, _⟩
    · cases h6
      exact ⟨f, rfl, h7⟩
    · cases h6
    · cases h6
  | .inl (cA, N', .inr (.inl f)), ⟨_, h2, _⟩ =>
    have h5 : some (cs 0, FieldType.int) = some (cA, FieldType.long) := h2
    cases h5
  | .inl (cA, N', .inr (.inr (.inr (.inr f)))), ⟨_, ⟨t, h2⟩, _⟩ =>
    have h5 : some (cs 0, FieldType.int) = some (cA, FieldType.array t) := h2
    cases h5
  | .inl (cA, N', .inr (.inr (.inl f))), h => exact h.elim
  | .inl (cA, N', .inr (.inr (.inr (.inl f)))), h => exact h.elim
/-- an object, whole -/
theorem sg_tcO {ad : List Nat} {tS ci N : Nat} {tys : List (ClassId × FieldType)} {tvs : List ab_TV} {e : va_E} (h : ab_tc ad tS tys (ci, N, .inr (.inr (.inr (.inr tvs)))) e) : ∃ fs, e = .inr (ci, fs) ∧ fs.length = N ∧ ab_tl ad tS tvs fs := by
  match e, h with
  | .inr (ci', fs), ⟨h1, h2, tvs', h3, h4⟩ =>
    have e1 : ci' = ci := h1
    subst e1
    cases h3
    exact ⟨fs, rfl, h2, h4⟩
  | .inl (cA, N', .inl f), ⟨_, _, _, h4⟩ =>
    rcases h4 with ⟨U', h6, _⟩ | ⟨vs, h6, _⟩ | ⟨ks, h6, _⟩ <;> cases h6
  | .inl (cA, N', .inr (.inl f)), ⟨_, _, _, h4⟩ =>
    rcases h4 with ⟨U', h6, _⟩ | ⟨vs, h6, _⟩ <;> cases h6
  | .inl (cA, N', .inr (.inr (.inr (.inr f)))), ⟨_, _, ks, h6, _⟩ => cases h6
  | .inl (cA, N', .inr (.inr (.inl f))), h => exact h.elim
  | .inl (cA, N', .inr (.inr (.inr (.inl f)))), h => exact h.elim
/-- the sum of a row -/
def gr_sum (g : Nat → Int32) : Nat → Nat
  | 0 => 0
  | n + 1 => gr_sum g n + (g n).toInt.toNat
theorem gr_sum_ge {g : Nat → Int32} {i : Nat} {x : Int32} : ∀ {n : Nat}, n ≤ i → gr_sum (upd g i x) n = gr_sum g n
  | 0, _ => rfl
  | n + 1, h => by
    have e : upd g i x n = g n := by
      unfold upd
      rw [if_neg (by omega)]
    show gr_sum (upd g i x) n + (upd g i x n).toInt.toNat = gr_sum g n + (g n).toInt.toNat
    rw [gr_sum_ge (by omega), e]
theorem gr_sum_lt {g : Nat → Int32} {i : Nat} {x : Int32} (hx : x.toInt.toNat < (g i).toInt.toNat) : ∀ {n : Nat}, i < n → gr_sum (upd g i x) n < gr_sum g n
  | 0, h => by omega
  | n + 1, h => by
    show gr_sum (upd g i x) n + (upd g i x n).toInt.toNat < gr_sum g n + (g n).toInt.toNat
    by_cases e : n = i
    · subst e
      have e2 : upd g n x n = x := by
        unfold upd
        rw [if_pos rfl]
      rw [gr_sum_ge (Nat.le_refl _), e2]
      omega
    · have e2 : upd g i x n = g n := by
        unfold upd
        rw [if_neg e]
      have := gr_sum_lt hx (n := n) (by omega)
      rw [e2]
      omega
def gr_R : ab_TV := some (.inr (.inl [119]))
def gr_i (a b : Nat) : ab_TV := some (.inl (false, .ofNat a, .ofNat b))
def gr_2 : ab_An := (2, [gr_R, gr_i 0 40, none, none, none], [], tv_22, [], [(.ofNat 40, .negSucc 0, 1)])
def gr_25 (mo : Nat) : ab_An := (25, [gr_R, gr_i mo mo, none, none, none], [], tv_22, [], [])
def gr_33z : ab_An := (33, [gr_R, gr_i 0 0, gr_i 0 40, none, none], [], tv_22, [], [])
def gr_33 (mo : Nat) : ab_An := (33, [gr_R, gr_i mo mo, gr_i 0 40, none, none], [], tv_22, [], [(.ofNat 83, .negSucc 1, 2)])
def gr_43 (mo : Nat) : ab_An := (43, [gr_R, gr_i mo mo, gr_i 0 39, gr_i 0 40, none], [], tv_22, [], [(.ofNat 82, .negSucc 1, 2), (.ofNat 125, .negSucc 2, 3)])
def gr_118 (mo : Nat) : ab_An := (118, [gr_R, gr_i mo mo, gr_i 0 39, gr_i 0 39, none], [], tv_22, [], [(.ofNat 82, .negSucc 1, 2), (.ofNat 124, .negSucc 2, 3)])
def gr_147 (mo : Nat) : ab_An := (147, [gr_R, gr_i mo mo, gr_i 0 39, gr_i 0 39, none], [], tv_22, [], [(.ofNat 82, .negSucc 1, 2), (.ofNat 123, .negSucc 2, 3)])
def gr_nx (mo : Nat) : List ab_An := [gr_25 mo, gr_33 mo, gr_43 mo, gr_118 mo, gr_147 mo]
def gr_po : List ab_Pt := [([], none, [(156, ci_156)])]
def gr_pcs : List Nat := [2, 25, 33, 43, 118, 147]
def gr_M0 (k : Nat) : Bool := ab_mem k [156]
def gr_Mn (_ : Nat) : Bool := false
abbrev gr_O (M : Nat → Bool) : ab_Cf := ab_OO (ab_SLl []) (fun k => ab_mem k [247]) BdF ZZ MtF M 2000 1
abbrev gr_stp (M : Nat → Bool) : Instr → Nat → Nat → ab_St → Option (List (Nat × ab_St)) := ab_step (BdF 248).2.1 MtF (gr_O M) (ZZ.2.2.1 248) M (BdF 248).2.2
theorem gk_0 : ab_chk0 (BdF 248).1 (gr_stp gr_M0) (ZZ.2.2.2.1 248) (ZZ.2.2.1 248) sm_248_0 gr_pcs (fun _ _ => [gr_2]) (fun _ => []) 2000 = true := by decide +kernel
theorem gk_2 : sg_chk (BdF 248).1 (gr_stp gr_M0) (ZZ.2.2.2.1 248) (ZZ.2.2.1 248) [gr_R] gr_po gr_pcs (fun _ _ => [gr_2, gr_25 1]) (fun _ => []) 2000 gr_2 = true := by decide +kernel
theorem gk_25_0 : sg_chk (BdF 248).1 (gr_stp gr_Mn) (ZZ.2.2.2.1 248) (ZZ.2.2.1 248) [gr_R] gr_po gr_pcs (fun _ _ => []) (fun _ => []) 2000 (gr_25 0) = true := by decide +kernel
theorem gk_25_1 : sg_chk (BdF 248).1 (gr_stp gr_Mn) (ZZ.2.2.2.1 248) (ZZ.2.2.1 248) [gr_R] gr_po gr_pcs (fun _ _ => [gr_33z]) (fun _ => []) 2000 (gr_25 1) = true := by decide +kernel
def gr_ck (mo : Nat) (a : ab_An) : Bool := sg_chk (BdF 248).1 (gr_stp gr_Mn) (ZZ.2.2.2.1 248) (ZZ.2.2.1 248) [gr_R] gr_po gr_pcs (fun _ _ => gr_nx mo) (fun _ => []) 2000 a
theorem gk_33_0 : gr_ck 0 (gr_33 0) = true := by decide +kernel
theorem gk_33_1 : gr_ck 1 (gr_33 1) = true := by decide +kernel
theorem gk_43_0 : gr_ck 0 (gr_43 0) = true := by decide +kernel
theorem gk_43_1 : gr_ck 1 (gr_43 1) = true := by decide +kernel
theorem gk_147_0 : gr_ck 0 (gr_147 0) = true := by decide +kernel
theorem gk_147_1 : gr_ck 1 (gr_147 1) = true := by decide +kernel
theorem gr_cks {mo : Nat} (h : mo < 2) : gr_ck mo (gr_33 mo) = true ∧ gr_ck mo (gr_43 mo) = true ∧ gr_ck mo (gr_147 mo) = true := by
  match mo, h with
  | 0, _ => exact ⟨gk_33_0, gk_43_0, gk_147_0⟩
  | 1, _ => exact ⟨gk_33_1, gk_43_1, gk_147_1⟩
theorem gd_118 : decode (ZZ.2.1 248) 118 = .ok (.aload_n 0, 1) := by decide +kernel
theorem gd_119 : decode (ZZ.2.1 248) 119 = .ok (.getfield 134, 3) := by decide +kernel
theorem gd_122 : decode (ZZ.2.1 248) 122 = .ok (.iload_n 2, 1) := by decide +kernel
theorem gd_123 : decode (ZZ.2.1 248) 123 = .ok (.iaload, 1) := by decide +kernel
theorem gd_124 : decode (ZZ.2.1 248) 124 = .ok (.aload_n 0, 1) := by decide +kernel
theorem gd_125 : decode (ZZ.2.1 248) 125 = .ok (.getfield 134, 3) := by decide +kernel
theorem gd_128 : decode (ZZ.2.1 248) 128 = .ok (.iload_n 3, 1) := by decide +kernel
theorem gd_129 : decode (ZZ.2.1 248) 129 = .ok (.iaload, 1) := by decide +kernel
theorem gd_130 : decode (ZZ.2.1 248) 130 = .ok (.if_icmp .ge 17, 3) := by decide +kernel
theorem gd_133 : decode (ZZ.2.1 248) 133 = .ok (.aload_n 0, 1) := by decide +kernel
theorem gd_134 : decode (ZZ.2.1 248) 134 = .ok (.getfield 134, 3) := by decide +kernel
theorem gd_137 : decode (ZZ.2.1 248) 137 = .ok (.iload_n 3, 1) := by decide +kernel
theorem gd_138 : decode (ZZ.2.1 248) 138 = .ok (.aload_n 0, 1) := by decide +kernel
theorem gd_139 : decode (ZZ.2.1 248) 139 = .ok (.getfield 134, 3) := by decide +kernel
theorem gd_142 : decode (ZZ.2.1 248) 142 = .ok (.iload_n 2, 1) := by decide +kernel
theorem gd_143 : decode (ZZ.2.1 248) 143 = .ok (.iaload, 1) := by decide +kernel
theorem gd_144 : decode (ZZ.2.1 248) 144 = .ok (.iastore, 1) := by decide +kernel
theorem gd_145 : decode (ZZ.2.1 248) 145 = .ok (.iconst 1, 1) := by decide +kernel
theorem gd_146 : decode (ZZ.2.1 248) 146 = .ok (.istore_n 1, 1) := by decide +kernel
theorem gr_fld : (BdF 248).2.1.1 134 = some (11, 59, .array .int, true) := by rfl
theorem gr_nL : ZZ.2.2.1 248 = 5 := by decide +kernel
section GRP
variable {l : Launch} {D : va_G} {cs : Nat → ClassId} {tS : Nat} {p : Program} {e : Env} {R : Room} {s : State} {m : MethodId} {args : Array Value} {below : List Frame} {meth : Method} {c : Code} {A : Nat → Prop} {Q : State → Prop} {M : Nat → Bool} {ws u : va_W} {vs : List Value} {ls : Array Slot} {stk : List Value} {d mo : Nat}
theorem gr_get (X : ab_X l ZZ 248 d D vwCl cs tS p s m args meth c A) {pc a : Nat} {fs : List Value} {v : Value} {H : Heap} {locs : List Loc} {rest : List Value} (hd : decode (ZZ.2.1 248) pc = .ok (.getfield 134, 3)) (hP : va_P D vwCl u H) (hw : u[119]? = some (a, .inr (11, fs))) (hv : fs[59]? = some v)
    (w : W p l e R s m args below meth c H locs 0 0 Q (F0 m (pc + 3) ls (v :: rest))) : W p l e R s m args below meth c H locs 0 0 Q (F0 m pc ls (.ref a :: rest)) := by
  obtain ⟨hx, hb, hml, hown, hts, hK, hA, hZ, hT, hr, hlocks, hname⟩ := X
  obtain ⟨C, Tb, N, ty0, f1, f2, f3, f4, f5, f6, f7, f8, f9⟩ := (ab_TOK_mono (Ts := ab_wM ZZ 248) gok_248.2.2.1.1 (fun w hw => List.mem_cons_of_mem _ hw)).1 134 _ gr_fld
  exact va_get hx hb hts f3 hown hK hP 119 hw f1 59 f2 (hts _ f4) (fun _ z => z) hv hd w
/-- what is known at a place of findGroups -/
theorem gr_known {a : ab_An} {ai : ab_TV} (hse : ab_Se M tS (ab_tys cs) (ZZ.2.2.1 248) ws vs a ls stk u) (h0 : a.2.1[0]? = some gr_R) (hth : a.2.2.2.1 = tv_22) : ∃ (a1 a2 : Nat) (fs : List Value) (g : Nat → Int32), ls[0]? = some (Slot.val (.ref a1)) ∧ u[119]? = some (a1, .inr (11, fs)) ∧ fs[59]? = some (.ref a2) ∧ u[156]? = some (a2, .inl (cs 0, 40, .inl g)) ∧ ∀ i, i < 40 → 0 ≤ (g i).toInt ∧ (g i).toInt ≤ 39 := by
  obtain ⟨h1, h2, h3, h4, h5, h6, h7⟩ := hse
  rw [hth] at h6
  obtain ⟨x, hx, k1, a1, hk, had, rfl⟩ := h4 0 _ h0
  have e0 : k1 = 119 := by simpa using hk
  subst e0
  obtain ⟨b1, e1, hw1, ht1⟩ := h6 (119, tw_23) (by simp [tv_22])
  obtain ⟨fs, rfl, hfl, htl⟩ := sg_tcO ht1
  have eb : b1 = a1 := ab_ad_get had hw1
  subst eb
  obtain ⟨y, hy, k2, a2, hk2, had2, rfl⟩ := sg_tl_get htl (i := 59) (t := some (.inr (.inl [156]))) rfl
  have e2 : k2 = 156 := by simpa using hk2
  subst e2
  obtain ⟨b2, e3, hw2, ht2⟩ := h6 (156, ci_156) (by simp [tv_22])
  obtain ⟨g, rfl, hg⟩ := sg_tcI ht2
  have eb2 : b2 = a2 := ab_ad_get had2 hw2
  subst eb2
  refine ⟨b1, b2, fs, g, hx, hw1, hy, hw2, fun i hi => ?_⟩
  obtain ⟨v, hv, g1, g2⟩ := hg i hi
  have ev : v = (.ofNat 0, .ofNat 39) := by simpa using hv
  subst ev
  exact ⟨g1, g2⟩
theorem gr_int {a : ab_An} {i lo hi : Nat} (hse : ab_Se M tS (ab_tys cs) (ZZ.2.2.1 248) ws vs a ls stk u) (h0 : a.2.1[i]? = some (gr_i lo hi)) : ∃ x : Int32, ls[i]? = some (Slot.val (.int x)) ∧ (lo : Int) ≤ x.toInt ∧ x.toInt ≤ (hi : Int) := by
  obtain ⟨h1, h2, h3, h4, h5, h6, h7⟩ := hse
  obtain ⟨x, hx, y, rfl, g1, g2⟩ := h4 i _ h0
  exact ⟨y, hx, g1, g2⟩
theorem gr_hand (X : ab_X l ZZ 248 d D vwCl cs tS p s m args meth c A) (hse : ab_Se M tS (ab_tys cs) (ZZ.2.2.1 248) ws vs (gr_118 mo) ls stk u)
    (K1 : ab_W p l e R s m args below meth c D vwCl A Q 0 0 147 ls stk u)
    (K2 : ∀ (ls' : Array Slot) (a1 a2 : Nat) (fs : List Value) (g : Nat → Int32) (xa xb : Int32), u[119]? = some (a1, .inr (11, fs)) → u[156]? = some (a2, .inl (cs 0, 40, .inl g)) → (∀ i, i < 40 → 0 ≤ (g i).toInt ∧ (g i).toInt ≤ 39) → 0 ≤ xa.toInt → xa.toInt ≤ 39 → 0 ≤ xb.toInt → xb.toInt ≤ 39 → (g xa.toNatClampNeg).toInt < (g xb.toNatClampNeg).toInt → ls[2]? = some (Slot.val (.int xa)) → ls[3]? = some (Slot.val (.int xb)) → lv_has ls' 5 [(1, .int 1), (0, .ref a1), (2, .int xa), (3, .int xb)] →
      ab_W p l e R s m args below meth c D vwCl A Q 0 0 147 ls' stk (u.set 156 (a2, .inl (cs 0, 40, .inl (upd g xb.toNatClampNeg (g xa.toNatClampNeg)))))) :
    ab_W p l e R s m args below meth c D vwCl A Q 0 0 118 ls stk u := by
  intro H locs hP hD hS
  obtain ⟨a1, a2, fs, g, h0, hw1, hf, hw2, hg⟩ := gr_known (ai := none) hse rfl rfl
  obtain ⟨xa, hxa, ha1, ha2⟩ := gr_int hse (i := 2) (lo := 0) (hi := 39) rfl
  obtain ⟨xb, hxb, hb1, hb2⟩ := gr_int hse (i := 3) (lo := 0) (hi := 39) rfl
  have X' := X
  obtain ⟨hx, hb, hml, hown, hts, hK, hA, hZ, hT, hr, hlocks, hname⟩ := X
  have ia : vp_in xa 40 := ab_vpin (by omega) (by omega)
  have ib : vp_in xb 40 := ab_vpin (by omega) (by omega)
  refine lv_aload_n hx hb gd_118 rfl h0 ?_
  refine gr_get X' gd_119 hP hw1 hf ?_
  refine lv_iload_n hx hb gd_122 rfl hxa ?_
  refine va_iald hx hb hK hP 156 0 hw2 rfl ia gd_123 ?_
  refine lv_aload_n hx hb gd_124 rfl h0 ?_
  refine gr_get X' gd_125 hP hw1 hf ?_
  refine lv_iload_n hx hb gd_128 rfl hxb ?_
  refine va_iald hx hb hK hP 156 0 hw2 rfl ib gd_129 ?_
  refine ab_row_icmp (t := 147) hx hb gd_130 (by decide) (fun _ => K1 H locs hP hD hS) (fun hc => ?_)
  have hlt : (g xa.toNatClampNeg).toInt < (g xb.toNatClampNeg).toInt := by
    have hc2 : ¬ (g xb.toNatClampNeg).toInt ≤ (g xa.toNatClampNeg).toInt := hc
    omega
  refine lv_aload_n hx hb gd_133 rfl h0 ?_
  refine gr_get X' gd_134 hP hw1 hf ?_
  refine lv_iload_n hx hb gd_137 rfl hxb ?_
  refine lv_aload_n hx hb gd_138 rfl h0 ?_
  refine gr_get X' gd_139 hP hw1 hf ?_
  refine lv_iload_n hx hb gd_142 rfl hxa ?_
  refine va_iald hx hb hK hP 156 0 hw2 rfl ia gd_143 ?_
  refine va_iast hx hb hK hP hD hS 156 0 (cA := cs 0) (n := 40) hw2 rfl ib gd_144 (fun H1 locs1 hP1 hD1 hS1 => ?_)
  refine lv_iconst hx hb gd_145 rfl ?_
  have hl : lv_has ls 5 [(0, .ref a1), (2, .int xa), (3, .int xb)] := by
    refine ⟨by rw [hse.2.1]; exact gr_nL, hse.2.2.1, fun q hq => ?_⟩
    simp only [List.mem_cons, List.not_mem_nil, or_false] at hq
    rcases hq with rfl | rfl | rfl
    · exact h0
    · exact hxa
    · exact hxb
  refine lv_istore_n hx hb gd_146 rfl hl (by decide) rfl (fun ls1 hl1 => ?_)
  exact K2 ls1 a1 a2 fs g xa xb hw1 hw2 hg (by omega) (by omega) (by omega) (by omega) hlt hxa hxb hl1 H1 locs1 hP1 hD1 hS1
/-- behind the store -/
theorem gr_after (hse : ab_Se M tS (ab_tys cs) (ZZ.2.2.1 248) ws vs (gr_118 mo) ls stk u) {ls' : Array Slot} {a1 a2 : Nat} {fs : List Value} {g g' : Nat → Int32} {xa xb : Int32} (hw1 : u[119]? = some (a1, .inr (11, fs))) (hw2 : u[156]? = some (a2, .inl (cs 0, 40, .inl g))) (hg' : ∀ i, i < 40 → 0 ≤ (g' i).toInt ∧ (g' i).toInt ≤ 39) (ha1 : 0 ≤ xa.toInt) (ha2 : xa.toInt ≤ 39) (hb1 : 0 ≤ xb.toInt) (hb2 : xb.toInt ≤ 39)
    (hl : lv_has ls' 5 [(1, .int 1), (0, .ref a1), (2, .int xa), (3, .int xb)]) : ab_Se gr_Mn tS (ab_tys cs) (ZZ.2.2.1 248) (u.set 156 (a2, .inl (cs 0, 40, .inl g'))) vs (gr_147 1) ls' stk (u.set 156 (a2, .inl (cs 0, 40, .inl g'))) := by
  obtain ⟨h1, h2, h3, h4, h5, h6, h7⟩ := hse
  have had := ab_ad_set (e' := .inl (cs 0, 40, .inl g')) hw2
  refine ⟨ab_gr.refl, by rw [gr_nL]; exact hl.1, hl.2.1, ?_, ?_, ?_, trivial⟩
  · intro i t hi
    rw [had]
    match i, hi with
    | 0, hi =>
      cases hi
      exact ⟨_, hl.2.2 (0, .ref a1) (by simp), 119, a1, by simp, ab_ad_of hw1, rfl⟩
    | 1, hi =>
      cases hi
      exact ⟨_, hl.2.2 (1, .int 1) (by simp), 1, rfl, by decide, by decide⟩
    | 2, hi =>
      cases hi
      exact ⟨_, hl.2.2 (2, .int xa) (by simp), xa, rfl, ha1, ha2⟩
    | 3, hi =>
      cases hi
      exact ⟨_, hl.2.2 (3, .int xb) (by simp), xb, rfl, hb1, hb2⟩
    | 4, hi => cases hi
    | i + 5, hi => simp [gr_147] at hi
  · rw [had]
    exact h5
  · intro q hq
    rw [had]
    by_cases e : q.1 = 156
    · have hq2 : q = (156, ci_156) := by
        have hq3 : q ∈ tv_22 := hq
        simp only [tv_22, List.mem_cons, List.not_mem_nil, or_false] at hq3
        rcases hq3 with rfl | rfl | rfl | rfl | rfl
        · cases e
        · cases e
        · cases e
        · cases e
        · rfl
      subst hq2
      refine ⟨a2, _, List.getElem?_set_self (List.getElem?_eq_some_iff.mp hw2).1, rfl, ⟨.int, rfl, Or.inl rfl⟩, rfl, Or.inl ⟨_, rfl, fun i hi => ⟨(.ofNat 0, .ofNat 39), by simp, ?_⟩⟩⟩
      exact hg' i hi
    · obtain ⟨b, e1, hb, ht⟩ := h6 q hq
      exact ⟨b, e1, by rw [List.getElem?_set_ne (fun z => e z.symm)]; exact hb, ht⟩
end GRP
theorem gr_mu {ls : Array Slot} {xa xb : Int32} (h2 : ls[2]? = some (Slot.val (.int xa))) (h3 : ls[3]? = some (Slot.val (.int xb))) (a b : Int) : ab_mu ls [(a, .negSucc 1, 2), (b, .negSucc 2, 3)] = ((a + (-2) * xa.toInt).toNat, (b + (-3) * xb.toInt).toNat, 0, 0) := by
  have e2 : ab_lval ls 2 = xa.toInt := by
    unfold ab_lval
    rw [h2]
  have e3 : ab_lval ls 3 = xb.toInt := by
    unfold ab_lval
    rw [h3]
  show ((a + (-2) * ab_lval ls 2).toNat, (b + (-3) * ab_lval ls 3).toNat, ab_mv ls ab_mz, ab_mv ls ab_mz) = _
  have e4 : ab_mv ls ab_mz = 0 := by
    unfold ab_mv ab_mz
    simp
  rw [e2, e3, e4]
theorem sok_248_0 {l : Launch} {D : va_G} {cs : Nat → ClassId} {tS : Nat} (hGl : ab_Gl l ZZ wFF D vwCl cs tS) : ab_SOK l ZZ 3 D vwCl cs tS 248 sm_248_0 := by
  intro ws vs htl hth
  refine ⟨3, Nat.le_refl _, ab_Ct_of gok_248.1 (fun p ev s m below meth c A X => ?_)⟩
  have hil : ∀ k ∈ [247], ab_GOK ZZ MtF wFF bFF vwCl BdF k := List.forall_mem_cons.mpr ⟨gok_247, fun _ h => absurd h List.not_mem_nil⟩
  have CO0 : ab_CO l ZZ (1 + 1) D vwCl cs tS gr_M0 (gr_O gr_M0) := sg_CO hGl (Nat.le_refl 1) (fun _ h => absurd h List.not_mem_nil) hil
  have COn : ab_CO l ZZ (1 + 1) D vwCl cs tS gr_Mn (gr_O gr_Mn) := sg_CO hGl (Nat.le_refl 1) (fun _ h => absurd h List.not_mem_nil) hil
  have hPn : ∀ u0, ab_gr gr_M0 ws u0 → ∀ rv u, ab_gr gr_Mn u0 u → (∃ po ∈ gr_po, ab_ag po.1 vs ∧ ab_rtv (u.map (·.1)) tS po.2.1 rv ∧ ab_th tS (ab_tys cs) po.2.2 u) → ab_PS tS (ab_tys cs) vs ws sm_248_0 rv u := fun u0 hg rv u h1 h2 => ⟨hg.trans (h1.weaken (fun _ h => by cases h)), h2⟩
  have htn : ∀ u0, ab_gr gr_M0 ws u0 → ab_tl (u0.map (·.1)) tS [gr_R] vs := fun u0 hg => by rw [hg.ad]; exact htl
  have P25 : ∀ (σ mo : Nat), mo < 2 → ∀ ls stk u, ab_gr gr_M0 ws u → ab_Se gr_Mn tS (ab_tys cs) (ZZ.2.2.1 248) u vs (gr_25 mo) ls stk u → (∀ a g, u[156]? = some (a, .inl (cs 0, 40, .inl g)) → gr_sum g 40 + mo ≤ σ) → ab_W p l ev (ab_rm 3 0 0) s m vs.toArray below meth c D vwCl A (MQ below (ab_Qc D vwCl cs A (ab_PS tS (ab_tys cs) vs ws sm_248_0)) vs.toArray s 0 0 A) 0 0 25 ls stk u := by
    intro σ
    induction σ with
    | zero =>
      intro mo hmo ls stk u hg hse hs
      match mo, hmo with
      | 0, _ => exact sg_ok (d0 := 2) hGl gok_248 (by decide) COn X (htn u hg) (hPn u hg) gk_25_0 hse (fun a' pc st ha' => absurd ha' List.not_mem_nil)
      | 1, _ =>
        obtain ⟨a1, a2, fs, g, -, -, -, hw2, -⟩ := gr_known (ai := none) hse rfl rfl
        have := hs a2 g hw2
        omega
    | succ τ ihσ =>
      have inner : ∀ (x : Nat × Nat × Nat × Nat), ∀ mo, mo < 2 → ∀ a, (a = gr_33 mo ∨ a = gr_43 mo ∨ a = gr_118 mo ∨ a = gr_147 mo) → ∀ ls stk u, ab_mu ls a.2.2.2.2.2 = x → ab_gr gr_M0 ws u → ab_Se gr_Mn tS (ab_tys cs) (ZZ.2.2.1 248) u vs a ls stk u → (∀ a g, u[156]? = some (a, .inl (cs 0, 40, .inl g)) → gr_sum g 40 + mo ≤ τ) → ab_W p l ev (ab_rm 3 0 0) s m vs.toArray below meth c D vwCl A (MQ below (ab_Qc D vwCl cs A (ab_PS tS (ab_tys cs) vs ws sm_248_0)) vs.toArray s 0 0 A) 0 0 a.1 ls stk u := by
        refine ab_lex4 (fun x ih => ?_)
        intro mo hmo a ha ls stk u hmu hg hse hs
        have go : gr_ck mo a = true → ab_W p l ev (ab_rm 3 0 0) s m vs.toArray below meth c D vwCl A (MQ below (ab_Qc D vwCl cs A (ab_PS tS (ab_tys cs) vs ws sm_248_0)) vs.toArray s 0 0 A) 0 0 a.1 ls stk u := fun hck => by
          refine sg_ok (d0 := 2) hGl gok_248 (by decide) COn X (htn u hg) (hPn u hg) hck hse (fun a' pc st ha' ls' stk' u' hm hse' => ?_)
          have hgu : ab_gr gr_Mn u u' := hse'.1
          have hg' : ab_gr gr_M0 ws u' := hg.trans (hgu.weaken (fun _ h => by cases h))
          have hse2 : ab_Se gr_Mn tS (ab_tys cs) (ZZ.2.2.1 248) u' vs a' ls' stk' u' := sg_re hse' u' ab_gr.refl rfl rfl hse'.2.2.2.2.2.1 rfl
          have hs' : ∀ a g, u'[156]? = some (a, .inl (cs 0, 40, .inl g)) → gr_sum g 40 + mo ≤ τ := fun b g hb => by
            obtain ⟨a1, a2, fs, g0, -, -, -, hw2, -⟩ := gr_known (ai := none) hse (by rcases ha with rfl | rfl | rfl | rfl <;> rfl) (by rcases ha with rfl | rfl | rfl | rfl <;> rfl)
            rw [hgu.2.1 156 (List.getElem?_eq_some_iff.mp hw2).1 rfl] at hb
            exact hs b g hb
          have ha2 : a' ∈ gr_nx mo := ha'
          simp only [gr_nx, List.mem_cons, List.not_mem_nil, or_false] at ha2
          rcases ha2 with h | h
          · subst h
            exact ihσ mo hmo ls' stk' u' hg' hse2 hs'
          · have hlt : ab_lt4 (ab_mu ls' a'.2.2.2.2.2) x := by
              rcases hm with hm | hm
              · rcases h with rfl | rfl | rfl | rfl <;> cases hm
              · rw [← hmu]; exact hm
            exact ih _ hlt mo hmo a' h ls' stk' u' rfl hg' hse2 hs'
        rcases ha with rfl | rfl | rfl | rfl
        · exact go (gr_cks hmo).1
        · exact go (gr_cks hmo).2.1
        · obtain ⟨ya, hya, ya1, ya2⟩ := gr_int hse (i := 2) (lo := 0) (hi := 39) rfl
          obtain ⟨yb, hyb, yb1, yb2⟩ := gr_int hse (i := 3) (lo := 0) (hi := 39) rfl
          have hmx : ab_mu ls [(.ofNat 82, .negSucc 1, 2), (.ofNat 124, .negSucc 2, 3)] = x := hmu
          rw [gr_mu hya hyb] at hmx
          refine gr_hand X hse ?_ (fun ls' a1 a2 fs g xa xb hw1 hw2 hg0 c1 c2 c3 c4 hlt h2 h3 hl => ?_)
          · refine ih (ab_mu ls [(.ofNat 82, .negSucc 1, 2), (.ofNat 123, .negSucc 2, 3)]) ?_ mo hmo (gr_147 mo) (Or.inr (Or.inr (Or.inr rfl))) ls stk u rfl hg (sg_re hse u ab_gr.refl rfl rfl hse.2.2.2.2.2.1 rfl) hs
            rw [gr_mu hya hyb, ← hmx]
            refine Or.inr ⟨rfl, Or.inl ?_⟩
            show ((123 : Int) + (-3) * yb.toInt).toNat < ((124 : Int) + (-3) * yb.toInt).toNat
            omega
          · have e1 : ya = xa := by
              rw [hya] at h2
              cases h2
              rfl
            have e2 : yb = xb := by
              rw [hyb] at h3
              cases h3
              rfl
            subst e1; subst e2
            have ka := ab_clamp ya1
            have kb := ab_clamp yb1
            have gg : ∀ i, i < 40 → 0 ≤ (upd g yb.toNatClampNeg (g ya.toNatClampNeg) i).toInt ∧ (upd g yb.toNatClampNeg (g ya.toNatClampNeg) i).toInt ≤ 39 := fun i hi => by
              unfold upd
              by_cases e : i = yb.toNatClampNeg
              · rw [if_pos e]
                exact hg0 _ (by omega)
              · rw [if_neg e]
                exact hg0 i hi
            have hse' := gr_after hse hw1 hw2 gg c1 c2 c3 c4 hl
            have hF : ab_fr gr_M0 156 (.inl (cs 0, 40, .inl g)) (.inl (cs 0, 40, .inl (upd g yb.toNatClampNeg (g ya.toNatClampNeg)))) := trivial
            refine ih (ab_mu ls' [(.ofNat 82, .negSucc 1, 2), (.ofNat 123, .negSucc 2, 3)]) ?_ 1 (by decide) (gr_147 1) (Or.inr (Or.inr (Or.inr rfl))) ls' stk _ rfl (hg.trans (ab_gr.set hw2 rfl hF)) hse' (fun b g' hb => ?_)
            · rw [gr_mu (hl.2.2 (2, .int ya) (by simp)) (hl.2.2 (3, .int yb) (by simp)), ← hmx]
              refine Or.inr ⟨rfl, Or.inl ?_⟩
              show ((123 : Int) + (-3) * yb.toInt).toNat < ((124 : Int) + (-3) * yb.toInt).toNat
              omega
            · rw [List.getElem?_set_self (List.getElem?_eq_some_iff.mp hw2).1] at hb
              cases hb
              have k1 := hs a2 g hw2
              have k2 := (hg0 ya.toNatClampNeg (by omega)).1
              have k3 := gr_sum_lt (g := g) (i := yb.toNatClampNeg) (x := g ya.toNatClampNeg) (by omega) (n := 40) (by omega)
              omega
        · exact go (gr_cks hmo).2.2
      intro mo hmo ls stk u hg hse hs
      match mo, hmo with
      | 0, _ => exact sg_ok (d0 := 2) hGl gok_248 (by decide) COn X (htn u hg) (hPn u hg) gk_25_0 hse (fun a' pc st ha' => absurd ha' List.not_mem_nil)
      | 1, _ =>
        refine sg_ok (d0 := 2) hGl gok_248 (by decide) COn X (htn u hg) (hPn u hg) gk_25_1 hse (fun a' pc st ha' ls' stk' u' hm hse' => ?_)
        have e1 : a' = gr_33z := by
          have : a' ∈ [gr_33z] := ha'
          simpa using this
        subst e1
        have hgu : ab_gr gr_Mn u u' := hse'.1
        have hg' : ab_gr gr_M0 ws u' := hg.trans (hgu.weaken (fun _ h => by cases h))
        refine inner _ 0 (by decide) (gr_33 0) (Or.inl rfl) ls' stk' u' rfl hg' (sg_re hse' u' ab_gr.refl rfl rfl hse'.2.2.2.2.2.1 rfl) (fun b g hb => ?_)
        obtain ⟨a1, a2, fs, g0, -, -, -, hw2, -⟩ := gr_known (ai := none) hse rfl rfl
        rw [hgu.2.1 156 (List.getElem?_eq_some_iff.mp hw2).1 rfl] at hb
        have := hs b g hb
        omega
  have hP0 : ∀ rv u, ab_gr gr_M0 ws u → (∃ po ∈ gr_po, ab_ag po.1 vs ∧ ab_rtv (u.map (·.1)) tS po.2.1 rv ∧ ab_th tS (ab_tys cs) po.2.2 u) → ab_PS tS (ab_tys cs) vs ws sm_248_0 rv u := fun rv u h1 h2 => ⟨h1, h2⟩
  have loop2 := sg_loop (d0 := 2) (ev := ev) (below := below) hGl gok_248 (by decide) CO0 X (show ab_tl (ws.map (·.1)) tS [gr_R] vs from htl) hP0 (anns := [gr_2]) (outs := [gr_25 1]) (pcs := gr_pcs) (cand := fun _ _ => [gr_2, gr_25 1]) (sp := fun _ => []) (fuel := 2000) (fun pc st a ha => by
    simp only [List.mem_cons, List.not_mem_nil, or_false] at ha
    rcases ha with rfl | rfl
    · exact Or.inl ⟨List.mem_cons_self, by simp [gr_2]⟩
    · exact Or.inr List.mem_cons_self) (List.forall_mem_cons.mpr ⟨gk_2, fun _ h => absurd h List.not_mem_nil⟩) (fun a ha ls stk u hse => by
    have e1 : a = gr_25 1 := by simpa using ha
    subst e1
    obtain ⟨a1, a2, fs, g, -, -, -, hw2, -⟩ := gr_known (ai := none) hse rfl rfl
    refine P25 (gr_sum g 40 + 1) 1 (by decide) ls stk u hse.1 (sg_re hse u ab_gr.refl rfl rfl hse.2.2.2.2.2.1 rfl) (fun b g' hb => ?_)
    rw [hw2] at hb
    cases hb
    exact Nat.le_refl _)
  exact sg_ent (d0 := 2) (S := sm_248_0) hGl gok_248 (by decide) CO0 X htl hth hP0 gk_0 (fun a' pc st ha' ls' stk' u' hse' => by
    have e1 : a' = gr_2 := by
      have : a' ∈ [gr_2] := ha'
      simpa using this
    subst e1
    exact loop2 gr_2 List.mem_cons_self ls' stk' u' hse')
end
