noncomputable section
theorem st_eq {args : Array Value} {s : State} {tm : Term} {z : Int32} (h : (Cond.eq tm (.int z)).before args s = true) : tm.eval args s none [] s = some (.int z) := by
  cases hv : tm.eval args s none [] s with
  | none => simp [Cond.before, Cond.holds, Cond.value, hv] at h
  | some w =>
    have hz : (Term.int z).eval args s none [] s = some (.int z) := rfl
    simp only [Cond.before, Cond.holds, Cond.value, hv, hz] at h
    cases w <;> simp_all
theorem st_arr {args : Array Value} {s : State} {ty : FieldType} (h : (Cond.arrayClass ty).before args s = true) : ∃ c, ArrOfT s c ty ∧ s.vm.findClass ("[" ++ ty.toString) = some c := by
  obtain ⟨c, k, comp, h1, h2, h3⟩ := Cond.arrayClass_spec h
  exact ⟨c, fun n z => ⟨(fun q hq => by cases hq), k, h2, comp, h3⟩, h1⟩
theorem st_ovr {s : State} {ty : FieldType} (h : va_AOA ty s) : ∃ c, ArrOfT s c (.array ty) ∧ s.vm.findClass ("[" ++ (FieldType.array ty).toString) = some c := by
  obtain ⟨comp, c, k, h1, h2, h3, h4, h5⟩ := h.parts
  exact ⟨c, fun n z => ⟨(fun q hq => by cases hq), k, h3, comp, h4⟩, h5⟩
section STK
variable {b : Nat} {s : State}
theorem st_GS (hts : ∀ w ∈ lw_tbl, w.before #[Value.ref b] s = true) : ab_GS s := by
  refine ⟨hts (Cond.arrayOver (.array .int)) (List.mem_of_getElem? (i := 119) (by decide +kernel)), hts (Cond.arrayOver (.array .long)) (List.mem_of_getElem? (i := 304) (by decide +kernel)), fun q hq => ?_⟩
  simp only [ab_nests, List.mem_cons, List.not_mem_nil, or_false] at hq
  rcases hq with rfl | rfl | rfl | rfl | rfl
  · exact hts (Cond.methodLinkNest "SandFlags" 47 ⟨"SandFlags$Water", "<init>", "()V"⟩ "SandFlags") (List.mem_of_getElem? (i := 250) (by decide +kernel))
  · exact hts (Cond.methodLinkNest "SandFlags" 54 ⟨"SandFlags$Search", "<init>", "()V"⟩ "SandFlags") (List.mem_of_getElem? (i := 299) (by decide +kernel))
  · exact hts (Cond.methodLinkNest "SandFlags" 61 ⟨"SandFlags$Children", "<init>", "()V"⟩ "SandFlags") (List.mem_of_getElem? (i := 345) (by decide +kernel))
  · exact hts (Cond.methodLinkNest "SandFlags" 68 ⟨"SandFlags$Reports", "<init>", "()V"⟩ "SandFlags") (List.mem_of_getElem? (i := 380) (by decide +kernel))
  · exact hts (Cond.methodLinkNest "SandFlags" 75 ⟨"SandFlags$RuleBook", "<init>", "()V"⟩ "SandFlags") (List.mem_of_getElem? (i := 405) (by decide +kernel))
theorem st_K (hts : ∀ w ∈ lw_tbl, w.before #[Value.ref b] s = true) : ∃ (D : va_G) (cs : Nat → ClassId), va_K D vwCl (ab_tys cs) s := by
  obtain ⟨c0, i0, h0⟩ := u_known (C := RX0) (T := TX0) (N := 9) (n := 9) hts (fun w hw => ab_BIG_in w (inB0 w hw)) (hts (.instantiable RX0 9) (List.mem_of_getElem? (i := 344) (by decide +kernel)))
  obtain ⟨c1, i1, h1⟩ := u_known (C := RX1) (T := TX1) (N := 5) (n := 5) hts (fun w hw => ab_BIG_in w (inB1 w hw)) (hts (.instantiable RX1 5) (List.mem_of_getElem? (i := 152) (by decide +kernel)))
  obtain ⟨c2, i2, h2⟩ := u_known (C := RX2) (T := TX2) (N := 1) (n := 1) hts (fun w hw => ab_BIG_in w (inB2 w hw)) (hts (.instantiable RX2 1) (List.mem_of_getElem? (i := 429) (by decide +kernel)))
  obtain ⟨c3, i3, h3⟩ := u_known (C := RX3) (T := TX3) (N := 6) (n := 6) hts (fun w hw => ab_BIG_in w (inB3 w hw)) (hts (.instantiable RX3 6) (List.mem_of_getElem? (i := 379) (by decide +kernel)))
  obtain ⟨c4, i4, h4⟩ := u_known (C := RX4) (T := TX4) (N := 17) (n := 17) hts (fun w hw => ab_BIG_in w (inB4 w hw)) (hts (.instantiable RX4 17) (List.mem_of_getElem? (i := 176) (by decide +kernel)))
  obtain ⟨c5, i5, h5⟩ := u_known (C := RX5) (T := TX5) (N := 6) (n := 6) hts (fun w hw => ab_BIG_in w (inB5 w hw)) (hts (.instantiable RX5 6) (List.mem_of_getElem? (i := 404) (by decide +kernel)))
  obtain ⟨c6, i6, h6⟩ := u_known (C := RX6) (T := TX6) (N := 12) (n := 12) hts (fun w hw => ab_BIG_in w (inB6 w hw)) (hts (.instantiable RX6 12) (List.mem_of_getElem? (i := 298) (by decide +kernel)))
  obtain ⟨c7, i7, h7⟩ := u_known (C := RX7) (T := TX7) (N := 2) (n := 2) hts (fun w hw => ab_BIG_in w (inB7 w hw)) (hts (.instantiable RX7 2) (List.mem_of_getElem? (i := 138) (by decide +kernel)))
  obtain ⟨c8, i8, h8⟩ := u_known (C := RX8) (T := TX8) (N := 4) (n := 4) hts (fun w hw => ab_BIG_in w (inB8 w hw)) (hts (.instantiable RX8 4) (List.mem_of_getElem? (i := 113) (by decide +kernel)))
  obtain ⟨c9, i9, h9⟩ := u_known (C := RX9) (T := TX9) (N := 14) (n := 14) hts (fun w hw => ab_BIG_in w (inB9 w hw)) (hts (.instantiable RX9 14) (List.mem_of_getElem? (i := 249) (by decide +kernel)))
  obtain ⟨c10, i10, h10⟩ := u_known (C := RX10) (T := TX10) (N := 12) (n := 12) hts (fun w hw => ab_BIG_in w (inB10 w hw)) (hts (.instantiable RX10 12) (List.mem_of_getElem? (i := 105) (by decide +kernel)))
  obtain ⟨c11, i11, h11⟩ := u_known (C := RX11) (T := TX11) (N := 68) (n := 68) hts (fun w hw => ab_BIG_in w (inB11 w hw)) (hts (.instantiable RX11 68) (List.mem_of_getElem? (i := 1248) (by decide +kernel)))
  obtain ⟨a0, A0, B0⟩ := st_arr (hts (Cond.arrayClass .int) (List.mem_of_getElem? (i := 136) (by decide +kernel)))
  obtain ⟨a1, A1, B1⟩ := st_arr (hts (Cond.arrayClass .long) (List.mem_of_getElem? (i := 342) (by decide +kernel)))
  obtain ⟨a2, A2, B2⟩ := st_arr (hts (Cond.arrayClass .boolean) (List.mem_of_getElem? (i := 174) (by decide +kernel)))
  obtain ⟨a3, A3, B3⟩ := st_ovr (st_GS hts).1
  obtain ⟨a4, A4, B4⟩ := st_ovr (st_GS hts).2.1
  refine ⟨(fun k => [c0, c1, c2, c3, c4, c5, c6, c7, c8, c9, c10, c11].getD k c0, fun k => [i0, i1, i2, i3, i4, i5, i6, i7, i8, i9, i10, i11].getD k i0), fun k => [a0, a1, a2, a3, a4].getD k a0, fun k q hq => ?_, fun k q hq => ?_⟩
  · match k, hq with
    | 0, hq => cases hq; exact h0
    | 1, hq => cases hq; exact h1
    | 2, hq => cases hq; exact h2
    | 3, hq => cases hq; exact h3
    | 4, hq => cases hq; exact h4
    | 5, hq => cases hq; exact h5
    | 6, hq => cases hq; exact h6
    | 7, hq => cases hq; exact h7
    | 8, hq => cases hq; exact h8
    | 9, hq => cases hq; exact h9
    | 10, hq => cases hq; exact h10
    | 11, hq => cases hq; exact h11
    | k + 12, hq => simp [vwCl] at hq
  · match k, hq with
    | 0, hq => cases hq; exact ⟨A0, B0⟩
    | 1, hq => cases hq; exact ⟨A1, B1⟩
    | 2, hq => cases hq; exact ⟨A2, B2⟩
    | 3, hq => cases hq; exact ⟨A3, B3⟩
    | 4, hq => cases hq; exact ⟨A4, B4⟩
    | k + 5, hq => simp [ab_tys] at hq
end STK
/-- a row of ints, each known -/
theorem sg_tcC {ad : List Nat} {tS N : Nat} {cs : Nat → ClassId} {ks : List Int} {e : va_E} (h : ab_tc ad tS (ab_tys cs) (0, N, .inr (.inr (.inl ks))) e) : ∃ g : Nat → Int32, e = .inl (cs 0, N, .inl g) ∧ ∀ i k, ks[i]? = some k → (g i).toInt = k := by
  match e, h with
  | .inr (ci, fs), ⟨_, _, tvs, h3, _⟩ => cases h3
  | .inl (cA, N', .inl f), ⟨h1, ⟨ty, h2, _⟩, _, h4⟩ =>
    have e1 : cA = cs 0 := by
      have h5 : some (cs 0, FieldType.int) = some (cA, ty) := h2
      cases h5
      rfl
    have e2 : N' = N := h1
    subst e1; subst e2
    rcases h4 with ⟨U', h6, h7⟩ | ⟨vs, h6, _⟩ | ⟨ks', h6, h7, h8⟩
    · cases h6
    · cases h6
    · cases h6
      exact ⟨f, rfl, h8⟩
  | .inl (cA, N', .inr (.inl f)), ⟨_, h2, _⟩ =>
    have h5 : some (cs 0, FieldType.int) = some (cA, FieldType.long) := h2
    cases h5
  | .inl (cA, N', .inr (.inr (.inr (.inr f)))), ⟨_, ⟨t, h2⟩, _⟩ =>
    have h5 : some (cs 0, FieldType.int) = some (cA, FieldType.array t) := h2
    cases h5
  | .inl (cA, N', .inr (.inr (.inl f))), h => exact h.elim
  | .inl (cA, N', .inr (.inr (.inr (.inl f)))), h => exact h.elim
theorem st_hgrow {ρ : Nat → Value} {n tS : Nat} {tys : List (ClassId × FieldType)} {hp : ab_AH} {ws ws2 : va_W} {more : List Nat} (h : ab_heap ρ n tS tys hp ws) (hk : ∀ k, k < ws.length → ws2[k]? = ws[k]?) (had : ws2.map (·.1) = ws.map (·.1) ++ more) : ab_heap ρ n tS tys hp ws2 := fun k c hc => by
  obtain ⟨a, e, h1, h2⟩ := h k c hc
  exact ⟨a, e, (hk k (List.getElem?_eq_some_iff.mp h1).1).trans h1, by rw [had]; exact ab_acok_ad h2⟩
theorem st_happ {ρ : Nat → Value} {n tS : Nat} {tys : List (ClassId × FieldType)} {h1 h2 : ab_AH} {ws : va_W} (a : ab_heap ρ n tS tys h1 ws) (b : ab_heap ρ n tS tys h2 ws) : ab_heap ρ n tS tys (h1 ++ h2) ws := fun k c hc => by
  rw [ab_hg_app] at hc
  split at hc
  · rename_i d hd
    have ed : d = c := Option.some.inj hc
    subst ed
    exact a k _ hd
  · exact b k c hc
def st_A : ab_AH × Nat × ab_En := ab_inH tg_26 0 []
def st_B : ab_AH × Nat × ab_En := ab_inH tg_27 st_A.2.1 st_A.2.2
def st_o : ab_TH := [(164, (1, 1, .inl [(.ofNat 0, .ofNat 0)]))]
def st_C : ab_AH × Nat × ab_En := ab_inH st_o st_B.2.1 st_B.2.2
theorem st_le : ab_leH st_C.2.2 (st_C.1 ++ (st_B.1 ++ st_A.1)) lw_TH_0 = true := by decide +kernel
/-- the first world fits -/
theorem st_fit {tS : Nat} {cs : Nat → ClassId} {w1 w2 w3 : va_W} {m1 m2 : List Nat} (h1 : ab_th tS (ab_tys cs) tg_26 w1) (h2 : ab_th tS (ab_tys cs) tg_27 w2) (h3 : ab_th tS (ab_tys cs) st_o w3) (k1 : ∀ k, k < w1.length → w3[k]? = w1[k]?) (k2 : ∀ k, k < w2.length → w3[k]? = w2[k]?) (a1 : w3.map (·.1) = w1.map (·.1) ++ m1) (a2 : w3.map (·.1) = w2.map (·.1) ++ m2) : ab_th tS (ab_tys cs) lw_TH_0 w3 := by
  obtain ⟨ρ1, x1, e1, p1⟩ := ab_inH_ok (ρ := fun _ => .null) (n := 0) (e := []) (fun q hq => by cases hq) h1
  obtain ⟨ρ2, x2, e2, p2⟩ := ab_inH_ok e1 h2
  obtain ⟨ρ3, x3, e3, p3⟩ := ab_inH_ok e2 h3
  have q1 := ab_heap_ext x3 (ab_heap_ext x2 (st_hgrow p1 k1 a1))
  have q2 := ab_heap_ext x3 (st_hgrow p2 k2 a2)
  exact ab_leH_ok e3 st_le (st_happ p3 (st_happ q2 q1))
theorem st_ck0 : rl_ck0 RP (tg_27 ++ tg_26) = true := by decide +kernel
def mi_0 (i : Nat) : Int32 := Int32.ofInt (5 * (i : Int))
theorem st_eqs {tS : Nat} {cs : Nat → ClassId} {w1 w2 w3 : va_W} {m1 m2 : List Nat} (h1 : ab_th tS (ab_tys cs) tg_26 w1) (h2 : ab_th tS (ab_tys cs) tg_27 w2) (k1 : ∀ k, k < w1.length → w3[k]? = w1[k]?) (k2 : ∀ k, k < w2.length → w3[k]? = w2[k]?) (a1 : w3.map (·.1) = w1.map (·.1) ++ m1) (a2 : w3.map (·.1) = w2.map (·.1) ++ m2) : rx_EQ w3 := by
  have g1 := rl_th_app h1 k1 a1
  have g2 := rl_th_app h2 k2 a2
  have g3 : ab_th tS (ab_tys cs) (tg_27 ++ tg_26) w3 := fun q hq => by
    rcases List.mem_append.mp hq with hq | hq
    · exact g2 q hq
    · exact g1 q hq
  have z : ∀ (N : Nat), some ((List.replicate N (0 : Int)).map (rl_mk false)) = some ((List.range N).map (fun i => Value.int ((fun _ => Int32.ofInt 0 : Nat → Int32) i))) := fun N => congrArg some (rl_rep (fun i _ => rfl)).symm
  refine ⟨rl_ck0_ok g3 st_ck0, mi_0, fun _ => Int32.ofInt 0, fun _ => Int32.ofInt 0, fun _ => Int32.ofInt 0, fun _ => Int32.ofInt 0, fun _ => Int32.ofInt 0, fun _ => Int32.ofInt 0, fun _ => Int32.ofInt 0, fun _ => Int32.ofInt 0, Int32.ofInt 0, Int32.ofInt 0, Int32.ofInt (-9), Int32.ofInt (-9), Int32.ofInt 0, Int32.ofInt (-1), Int32.ofInt 0, ?_, ?_, ?_, ?_, ?_, ?_, ?_, ?_, ?_, ?_, rl_f0_ok (a := (false, 0)) g3 rfl, rl_f0_ok (a := (false, 0)) g3 rfl, rl_f0_ok (a := (false, -9)) g3 rfl, rl_f0_ok (a := (false, -9)) g3 rfl, rl_f0_ok (a := (false, 0)) g3 rfl, rl_f0_ok (a := (false, 0)) g3 rfl, rl_f0_ok (a := (false, -1)) g3 rfl, rl_f0_ok (a := (false, 0)) g3 rfl, fun b u hb _ => ?_, fun q => absurd (by decide +kernel) q, fun _ _ _ => rfl, Or.inl (by decide +kernel), Or.inl (by decide +kernel)⟩
  · exact rl_k0_ok (k := 44) (a := (false, [0, 5, 10, 15])) g3 rfl
  · exact (rl_k0_ok (k := 49) (a := (false, List.replicate 4900 0)) g3 rfl).trans (z 4900)
  · exact (rl_k0_ok (k := 67) (a := (false, List.replicate 24 0)) g3 rfl).trans (z 24)
  · exact (rl_k0_ok (k := 6) (a := (false, List.replicate 16 0)) g3 rfl).trans (z 16)
  · exact (rl_k0_ok (k := 7) (a := (false, List.replicate 16 0)) g3 rfl).trans (z 16)
  · exact (rl_k0_ok (k := 8) (a := (false, List.replicate 16 0)) g3 rfl).trans (z 16)
  · exact (rl_k0_ok (k := 9) (a := (false, List.replicate 16 0)) g3 rfl).trans (z 16)
  · exact rl_k0_ok (k := 120) (a := (false, [0, 5, 10, 15])) g3 rfl
  · exact (rl_k0_ok (k := 124) (a := (false, List.replicate 64 0)) g3 rfl).trans (z 64)
  · exact (rl_k0_ok (k := 130) (a := (false, List.replicate 45927 0)) g3 rfl).trans (z 45927)
  · rcases (show b = 0 ∨ b = 1 ∨ b = 2 ∨ b = 3 by omega) with rfl | rfl | rfl | rfl <;> rfl
/-- the statics that the class and a throw read -/
theorem st_stat {b : Nat} {s : State} {A : Nat → Prop} (hts : ∀ w ∈ lw_tbl, w.before #[Value.ref b] s = true) (hgv : (Jvm.Cond.and given_1 narrow_1).before #[Value.ref b] s = true) (hA : ∀ a : Nat, a < s.heap.size → ¬ A a) : ∃ tS sa : Nat, va_Z "SandFlags$Rota" "CODE_OF_ONE" "[I" (.ref tS) A s s.heap ∧ va_T .int tS 4 ab_code1 A s s.heap ∧ nw_Z A sa s s.heap := by
  have hq := flat_of_before _ hgv
  have q1 : (Cond.arrayOf (.static "SandFlags$Rota" "CODE_OF_ONE" "[I") .int).before #[Value.ref b] s = true := hq _ (by decide +kernel)
  have q2 := st_eq (hq (Cond.eq (.length (.static "SandFlags$Rota" "CODE_OF_ONE" "[I")) (.int 4)) (by decide +kernel))
  have q3 := st_eq (hq (Cond.eq (.elem (.static "SandFlags$Rota" "CODE_OF_ONE" "[I") (.int 0)) (.int 1)) (by decide +kernel))
  have q4 := st_eq (hq (Cond.eq (.elem (.static "SandFlags$Rota" "CODE_OF_ONE" "[I") (.int 1)) (.int 5)) (by decide +kernel))
  have q5 := st_eq (hq (Cond.eq (.elem (.static "SandFlags$Rota" "CODE_OF_ONE" "[I") (.int 2)) (.int 25)) (by decide +kernel))
  have q6 := st_eq (hq (Cond.eq (.elem (.static "SandFlags$Rota" "CODE_OF_ONE" "[I") (.int 3)) (.int 125)) (by decide +kernel))
  have q7 : (Cond.isRef (.static Bundle.tN "UNASSIGNED_STACK" Bundle.steD)).before #[Value.ref b] s = true := hq _ (by decide +kernel)
  have q8 : (Cond.isRef (.static Bundle.tN "SUPPRESSED_SENTINEL" Bundle.listD)).before #[Value.ref b] s = true := hq _ (by decide +kernel)
  obtain ⟨tS, hv, hT⟩ := va_Tof (f := ab_code1) (A := A) (by decide) q1 q2 (fun j hj => by
    match j, hj with
    | 0, _ => exact q3
    | 1, _ => exact q4
    | 2, _ => exact q5
    | 3, _ => exact q6) hA
  have hcl : ∃ cur, s.vm.findClass RX10 = some cur := by
    have h1 : (Cond.stringRef RX10 246 "no such place").before #[Value.ref b] s = true := hts _ (List.mem_of_getElem? (i := 1216) (by decide +kernel))
    simp only [Cond.before, Cond.holds, Cond.value] at h1
    cases hc : s.vm.findClass RX10 with
    | none => simp [hc] at h1
    | some cur => exact ⟨cur, rfl⟩
  obtain ⟨cur, hcur⟩ := hcl
  have h2 : (Cond.stringRef RX10 246 "no such place").before #[] s = true := hts (Cond.stringRef RX10 246 "no such place") (List.mem_of_getElem? (i := 1216) (by decide +kernel))
  obtain ⟨k, cf, i, sa, -, -, -, -, -, hev⟩ := Cond.stringRef_spec hcur h2
  refine ⟨tS, sa, va_Zof (hts _ (List.mem_of_getElem? (i := 195) (by decide +kernel))) (hts _ (List.mem_of_getElem? (i := 90) (by decide +kernel))) hv hA, hT, vx_Zqof (hts _ (List.mem_of_getElem? (i := 1204) (by decide +kernel))) (hts _ (List.mem_of_getElem? (i := 100) (by decide +kernel))) q7 hA, vx_Zqof (hts _ (List.mem_of_getElem? (i := 1206) (by decide +kernel))) (hts _ (List.mem_of_getElem? (i := 100) (by decide +kernel))) q8 hA, ⟨h2, hev⟩, nw_cm (Vm.Alike.refl s.vm) (hts (Cond.castable nw_E nw_E) (List.mem_of_getElem? (i := 1179) (by decide +kernel))), fun x hx => ?_⟩
  simp only [nw_decl, List.mem_cons, List.not_mem_nil, or_false] at hx
  rcases hx with rfl | rfl | rfl
  · exact hts (Cond.declares _) (List.mem_of_getElem? (i := 1181) (by decide +kernel))
  · exact hts (Cond.declares _) (List.mem_of_getElem? (i := 1183) (by decide +kernel))
  · exact hts (Cond.declares _) (List.mem_of_getElem? (i := 1185) (by decide +kernel))
end
