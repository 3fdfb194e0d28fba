noncomputable section
def h_mn (mi : Nat → Int32) (ml : Nat → Int64) (t s H J : Nat → Int32) : cx_H := [(119, .inl (11, vs_119 mi ml)), (122, .inr (.inl (0, 16, t))), (123, .inr (.inl (0, 16, s))), (124, .inr (.inl (0, 64, H))), (125, .inr (.inl (0, 64, J)))]
theorem nd_1 {d : Nat} {mi : Nat → Int32} {ml : Nat → Int64} {t s H J : Nat → Int32} {P : Option cx_V → cx_H → Prop} (hend : ∀ i : Int32, cx_T d 179 [119, 122, 123, 124, 125] 35 ([some (.inr (.inl 119)), some (.inl (.int i))], [], h_mn mi ml (ck 16 (Int32.ofInt 99) t) (ck 16 (Int32.ofInt 99) s) H J) P) : ∀ (m k : Nat), k + m = 16 → ∀ i : Int32, i.toInt = k → cx_T d 179 [119, 122, 123, 124, 125] 7 ([some (.inr (.inl 119)), some (.inl (.int i))], [], h_mn mi ml (ck k (Int32.ofInt 99) t) (ck k (Int32.ofInt 99) s) H J) P := by
  have kc16 : (Int32.ofInt 16).toInt = 16 := by decide +kernel
  have kc64 : (Int32.ofInt 64).toInt = 64 := by decide +kernel
  have kc1 : (Int32.ofInt 1).toInt = 1 := by decide +kernel
  have kc0 : (Int32.ofInt 0).toInt = 0 := by decide +kernel
  have kc99 : (Int32.ofInt 99).toInt = 99 := by decide +kernel
  intro m
  induction m with
  | zero =>
    intro k hk i hi
    have ek : k = 16 := by omega
    subst ek
    refine ex_iload_n cg_179 (ix := 5) (pc' := 8) rfl rfl rfl ?_
    refine ex_bipush cg_179 (ix := 6) (pc' := 10) rfl rfl rfl ?_
    refine ex_icmp cg_179 (ix := 7) (t := 35) (pc' := 13) rfl rfl rfl (fun hb10 => ?_) (fun hb10 => ?_)
    · have hb10 : (Int32.ofInt 16).toInt ≤ i.toInt := hb10
      exact hend _
    · have hb10 : ¬ ((Int32.ofInt 16).toInt ≤ i.toInt) := hb10
      exfalso; first | omega | exact absurd hb10 (by decide +kernel)
  | succ m ih =>
    intro k hk i hi
    have hik : i.toNatClampNeg = k := cx_clamp hi
    refine ex_iload_n cg_179 (ix := 5) (pc' := 8) rfl rfl rfl ?_
    refine ex_bipush cg_179 (ix := 6) (pc' := 10) rfl rfl rfl ?_
    refine ex_icmp cg_179 (ix := 7) (t := 35) (pc' := 13) rfl rfl rfl (fun hb10 => ?_) (fun hb10 => ?_)
    · have hb10 : (Int32.ofInt 16).toInt ≤ i.toInt := hb10
      exfalso; first | omega | exact absurd hb10 (by decide +kernel)
    · have hb10 : ¬ ((Int32.ofInt 16).toInt ≤ i.toInt) := hb10
      refine ex_aload_n cg_179 (ix := 8) (pc' := 14) rfl rfl rfl ?_
      refine ex_getfield cg_179 (ix := 9) (pc' := 17) (v := .inr (.inl 122)) rfl rfl rfl rfl rfl ?_
      refine ex_iload_n cg_179 (ix := 10) (pc' := 18) rfl rfl rfl ?_
      refine ex_bipush cg_179 (ix := 11) (pc' := 20) rfl rfl rfl ?_
      refine ex_iastore cg_179 (ix := 12) (pc' := 21) (h' := [(119, .inl (11, vs_119 mi ml)), (122, .inr (.inl (0, 16, upd (ck k (Int32.ofInt 99) t) i.toNatClampNeg (Int32.ofInt 99)))), (123, .inr (.inl (0, 16, ck k (Int32.ofInt 99) s))), (124, .inr (.inl (0, 64, H))), (125, .inr (.inl (0, 64, J)))]) rfl rfl (by omega) (by omega) rfl rfl ?_
      refine ex_aload_n cg_179 (ix := 13) (pc' := 22) rfl rfl rfl ?_
      refine ex_getfield cg_179 (ix := 14) (pc' := 25) (v := .inr (.inl 123)) rfl rfl rfl rfl rfl ?_
      refine ex_iload_n cg_179 (ix := 15) (pc' := 26) rfl rfl rfl ?_
      refine ex_bipush cg_179 (ix := 16) (pc' := 28) rfl rfl rfl ?_
      refine ex_iastore cg_179 (ix := 17) (pc' := 29) (h' := [(119, .inl (11, vs_119 mi ml)), (122, .inr (.inl (0, 16, upd (ck k (Int32.ofInt 99) t) i.toNatClampNeg (Int32.ofInt 99)))), (123, .inr (.inl (0, 16, upd (ck k (Int32.ofInt 99) s) i.toNatClampNeg (Int32.ofInt 99)))), (124, .inr (.inl (0, 64, H))), (125, .inr (.inl (0, 64, J)))]) rfl rfl (by omega) (by omega) rfl rfl ?_
      refine ex_iinc cg_179 (ix := 18) (pc' := 32) (L' := [some (.inr (.inl 119)), some (.inl (.int (i + Int32.ofInt 1)))]) rfl rfl rfl rfl rfl ?_
      refine ex_goto cg_179 (ix := 19) (pc' := 7) rfl rfl ?_
      rw [hik, ck_s, ck_s]
      exact ih (k + 1) (by omega) _ (by rw [cx_addc (by omega) (by omega)]; omega)
theorem nd_2 {d : Nat} {mi : Nat → Int32} {ml : Nat → Int64} {t s H J : Nat → Int32} {P : Option cx_V → cx_H → Prop} (hend : ∀ i : Int32, cx_T d 179 [119, 122, 123, 124, 125] 63 ([some (.inr (.inl 119)), some (.inl (.int i))], [], h_mn mi ml t s (ck 64 (Int32.ofInt 0) H) (ck 64 (Int32.ofInt 0) J)) P) : ∀ (m k : Nat), k + m = 64 → ∀ i : Int32, i.toInt = k → cx_T d 179 [119, 122, 123, 124, 125] 37 ([some (.inr (.inl 119)), some (.inl (.int i))], [], h_mn mi ml t s (ck k (Int32.ofInt 0) H) (ck k (Int32.ofInt 0) J)) P := by
  have kc16 : (Int32.ofInt 16).toInt = 16 := by decide +kernel
  have kc64 : (Int32.ofInt 64).toInt = 64 := by decide +kernel
  have kc1 : (Int32.ofInt 1).toInt = 1 := by decide +kernel
  have kc0 : (Int32.ofInt 0).toInt = 0 := by decide +kernel
  have kc99 : (Int32.ofInt 99).toInt = 99 := by decide +kernel
  intro m
  induction m with
  | zero =>
    intro k hk i hi
    have ek : k = 64 := by omega
    subst ek
    refine ex_iload_n cg_179 (ix := 22) (pc' := 38) rfl rfl rfl ?_
    refine ex_bipush cg_179 (ix := 23) (pc' := 40) rfl rfl rfl ?_
    refine ex_icmp cg_179 (ix := 24) (t := 63) (pc' := 43) rfl rfl rfl (fun hb40 => ?_) (fun hb40 => ?_)
    · have hb40 : (Int32.ofInt 64).toInt ≤ i.toInt := hb40
      exact hend _
    · have hb40 : ¬ ((Int32.ofInt 64).toInt ≤ i.toInt) := hb40
      exfalso; first | omega | exact absurd hb40 (by decide +kernel)
  | succ m ih =>
    intro k hk i hi
    have hik : i.toNatClampNeg = k := cx_clamp hi
    refine ex_iload_n cg_179 (ix := 22) (pc' := 38) rfl rfl rfl ?_
    refine ex_bipush cg_179 (ix := 23) (pc' := 40) rfl rfl rfl ?_
    refine ex_icmp cg_179 (ix := 24) (t := 63) (pc' := 43) rfl rfl rfl (fun hb40 => ?_) (fun hb40 => ?_)
    · have hb40 : (Int32.ofInt 64).toInt ≤ i.toInt := hb40
      exfalso; first | omega | exact absurd hb40 (by decide +kernel)
    · have hb40 : ¬ ((Int32.ofInt 64).toInt ≤ i.toInt) := hb40
      refine ex_aload_n cg_179 (ix := 25) (pc' := 44) rfl rfl rfl ?_
      refine ex_getfield cg_179 (ix := 26) (pc' := 47) (v := .inr (.inl 124)) rfl rfl rfl rfl rfl ?_
      refine ex_iload_n cg_179 (ix := 27) (pc' := 48) rfl rfl rfl ?_
      refine ex_iconst cg_179 (ix := 28) (pc' := 49) rfl rfl ?_
      refine ex_iastore cg_179 (ix := 29) (pc' := 50) (h' := [(119, .inl (11, vs_119 mi ml)), (122, .inr (.inl (0, 16, t))), (123, .inr (.inl (0, 16, s))), (124, .inr (.inl (0, 64, upd (ck k (Int32.ofInt 0) H) i.toNatClampNeg (Int32.ofInt 0)))), (125, .inr (.inl (0, 64, ck k (Int32.ofInt 0) J)))]) rfl rfl (by omega) (by omega) rfl rfl ?_
      refine ex_aload_n cg_179 (ix := 30) (pc' := 51) rfl rfl rfl ?_
      refine ex_getfield cg_179 (ix := 31) (pc' := 54) (v := .inr (.inl 125)) rfl rfl rfl rfl rfl ?_
      refine ex_iload_n cg_179 (ix := 32) (pc' := 55) rfl rfl rfl ?_
      refine ex_iconst cg_179 (ix := 33) (pc' := 56) rfl rfl ?_
      refine ex_iastore cg_179 (ix := 34) (pc' := 57) (h' := [(119, .inl (11, vs_119 mi ml)), (122, .inr (.inl (0, 16, t))), (123, .inr (.inl (0, 16, s))), (124, .inr (.inl (0, 64, upd (ck k (Int32.ofInt 0) H) i.toNatClampNeg (Int32.ofInt 0)))), (125, .inr (.inl (0, 64, upd (ck k (Int32.ofInt 0) J) i.toNatClampNeg (Int32.ofInt 0))))]) rfl rfl (by omega) (by omega) rfl rfl ?_
      refine ex_iinc cg_179 (ix := 35) (pc' := 60) (L' := [some (.inr (.inl 119)), some (.inl (.int (i + Int32.ofInt 1)))]) rfl rfl rfl rfl rfl ?_
      refine ex_goto cg_179 (ix := 36) (pc' := 37) rfl rfl ?_
      rw [hik, ck_s, ck_s]
      exact ih (k + 1) (by omega) _ (by rw [cx_addc (by omega) (by omega)]; omega)
theorem ct_nd {mi : Nat → Int32} {ml : Nat → Int64} {t s H J : Nat → Int32} : cx_Ct 2 179 [.inr (.inl 119)] (h_mn mi ml t s H J) (fun v h2 => v = none ∧ h2 = h_mn (upi mi 22 (Int32.ofInt (-1))) ml (ck 16 (Int32.ofInt 99) t) (ck 16 (Int32.ofInt 99) s) (ck 64 (Int32.ofInt 0) H) (ck 64 (Int32.ofInt 0) J)) := by
  refine cx_Ct.of cg_179 (nL := 2) rfl rfl rfl ?_
  show cx_T 2 179 [119, 122, 123, 124, 125] 0 ([some (.inr (.inl 119)), none], [], h_mn mi ml t s H J) _
  refine ex_aload_n cg_179 (ix := 0) (pc' := 1) rfl rfl rfl ?_
  refine ex_iconst cg_179 (ix := 1) (pc' := 2) rfl rfl ?_
  refine ex_putfield cg_179 (ix := 2) (pc' := 5) (h' := [(119, .inl (11, vs_119 (upi mi 22 (Int32.ofInt (-1))) ml)), (122, .inr (.inl (0, 16, t))), (123, .inr (.inl (0, 16, s))), (124, .inr (.inl (0, 64, H))), (125, .inr (.inl (0, 64, J)))]) rfl rfl rfl rfl rfl rfl rfl rfl ?_
  refine ex_iconst cg_179 (ix := 3) (pc' := 6) rfl rfl ?_
  refine ex_istore_n cg_179 (ix := 4) (pc' := 7) (L' := [some (.inr (.inl 119)), some (.inl (.int (Int32.ofInt 0)))]) rfl rfl rfl rfl ?_
  have e1 : ∀ i : Int32, cx_T 2 179 [119, 122, 123, 124, 125] 35 ([some (.inr (.inl 119)), some (.inl (.int i))], [], h_mn (upi mi 22 (Int32.ofInt (-1))) ml (ck 16 (Int32.ofInt 99) t) (ck 16 (Int32.ofInt 99) s) H J) (fun v h2 => v = none ∧ h2 = h_mn (upi mi 22 (Int32.ofInt (-1))) ml (ck 16 (Int32.ofInt 99) t) (ck 16 (Int32.ofInt 99) s) (ck 64 (Int32.ofInt 0) H) (ck 64 (Int32.ofInt 0) J)) := by
    intro i
    refine ex_iconst cg_179 (ix := 20) (pc' := 36) rfl rfl ?_
    refine ex_istore_n cg_179 (ix := 21) (pc' := 37) (L' := [some (.inr (.inl 119)), some (.inl (.int (Int32.ofInt 0)))]) rfl rfl rfl rfl ?_
    have e3 := nd_2 (d := 2) (mi := upi mi 22 (Int32.ofInt (-1))) (ml := ml) (t := ck 16 (Int32.ofInt 99) t) (s := ck 16 (Int32.ofInt 99) s) (H := H) (J := J) (P := fun v h2 => v = none ∧ h2 = h_mn (upi mi 22 (Int32.ofInt (-1))) ml (ck 16 (Int32.ofInt 99) t) (ck 16 (Int32.ofInt 99) s) (ck 64 (Int32.ofInt 0) H) (ck 64 (Int32.ofInt 0) J)) (fun i => ex_return_ cg_179 (ix := 37) rfl ⟨rfl, rfl⟩) 64 0 rfl (Int32.ofInt 0) (by decide +kernel)
    rw [ck_0, ck_0] at e3
    exact e3
  have e2 := nd_1 (d := 2) (mi := upi mi 22 (Int32.ofInt (-1))) (ml := ml) (t := t) (s := s) (H := H) (J := J) (P := fun v h2 => v = none ∧ h2 = h_mn (upi mi 22 (Int32.ofInt (-1))) ml (ck 16 (Int32.ofInt 99) t) (ck 16 (Int32.ofInt 99) s) (ck 64 (Int32.ofInt 0) H) (ck 64 (Int32.ofInt 0) J)) e1 16 0 rfl (Int32.ofInt 0) (by decide +kernel)
  rw [ck_0, ck_0] at e2
  exact e2
def h_my (mi : Nat → Int32) (ml : Nat → Int64) (r t s H J : Nat → Int32) : cx_H := (119, .inl (11, vs_119 mi ml)) :: (126, .inr (.inl (0, 7, r))) :: [(122, .inr (.inl (0, 16, t))), (123, .inr (.inl (0, 16, s))), (124, .inr (.inl (0, 64, H))), (125, .inr (.inl (0, 64, J)))]
/-- what days does in the reference -/
def ds_m (n : Int32) (mi t s H J mi2 t2 s2 H2 J2 : Nat → Int32) : Prop :=
  ((n.toInt ≤ 0 ∨ (Int32.ofInt 300 - mi 1).toInt < n.toInt) ∧ mi2 = upi mi 0 (Int32.ofInt 0) ∧ t2 = t ∧ s2 = s ∧ H2 = H ∧ J2 = J) ∨
  (0 < n.toInt ∧ ¬ (Int32.ofInt 300 - mi 1).toInt < n.toInt ∧ mi2 = upi (upi (upi mi 0 (Int32.ofInt 0)) 1 (mi 1 + n)) 22 (Int32.ofInt (-1)) ∧ t2 = ck 16 (Int32.ofInt 99) t ∧ s2 = ck 16 (Int32.ofInt 99) s ∧ H2 = ck 64 (Int32.ofInt 0) H ∧ J2 = ck 64 (Int32.ofInt 0) J)
theorem ct_mdays {n : Int32} {mi : Nat → Int32} {ml : Nat → Int64} {r t s H J : Nat → Int32} : cx_Ct 5 255 [.inr (.inl 119), .inl (.int n)] (h_my mi ml r t s H J) (fun v h2 => ∃ (z : Int32) (r2 mi2 t2 s2 H2 J2 : Nat → Int32), v = some (.inl (.int z)) ∧ h2 = h_my mi2 ml r2 t2 s2 H2 J2 ∧ ds_m n mi t s H J mi2 t2 s2 H2 J2) := by
  have kc0 : (Int32.ofInt 0).toInt = 0 := by decide +kernel
  have kc1 : (Int32.ofInt 1).toInt = 1 := by decide +kernel
  have kc300 : (Int32.ofInt 300).toInt = 300 := by decide +kernel
  have kcm4 : (Int32.ofInt (-4)).toInt = -4 := by decide +kernel
  have kcm6 : (Int32.ofInt (-6)).toInt = -6 := by decide +kernel
  refine cx_Ct.of cg_255 (nL := 2) rfl rfl rfl ?_
  show cx_T 5 255 [119, 126, 122, 123, 124, 125] 0 ([some (.inr (.inl 119)), some (.inl (.int n))], [], h_my mi ml r t s H J) _
  refine ex_aload_n cg_255 (ix := 0) (pc' := 1) rfl rfl rfl ?_
  refine ex_iconst cg_255 (ix := 1) (pc' := 2) rfl rfl ?_
  refine ex_putfield cg_255 (ix := 2) (pc' := 5) (h' := [(119, .inl (11, vs_119 (upi mi 0 (Int32.ofInt 0)) ml)), (126, .inr (.inl (0, 7, r))), (122, .inr (.inl (0, 16, t))), (123, .inr (.inl (0, 16, s))), (124, .inr (.inl (0, 64, H))), (125, .inr (.inl (0, 64, J)))]) rfl rfl rfl rfl rfl rfl rfl rfl ?_
  refine ex_iload_n cg_255 (ix := 3) (pc' := 6) rfl rfl rfl ?_
  refine ex_iconst cg_255 (ix := 4) (pc' := 7) rfl rfl ?_
  refine ex_icmp cg_255 (ix := 5) (t := 17) (pc' := 10) rfl rfl rfl (fun hb7 => ?_) (fun hb7 => ?_)
  · have hb7 : (Int32.ofInt 1).toInt ≤ n.toInt := hb7
    refine ex_iload_n cg_255 (ix := 10) (pc' := 18) rfl rfl rfl ?_
    refine ex_sipush cg_255 (ix := 11) (pc' := 21) rfl rfl rfl ?_
    refine ex_aload_n cg_255 (ix := 12) (pc' := 22) rfl rfl rfl ?_
    refine ex_getfield cg_255 (ix := 13) (pc' := 25) (v := .inl (.int (mi 1))) rfl rfl rfl rfl rfl ?_
    refine ex_isub cg_255 (ix := 14) (pc' := 26) rfl rfl ?_
    refine ex_icmp cg_255 (ix := 15) (t := 36) (pc' := 29) rfl rfl rfl (fun hb26 => ?_) (fun hb26 => ?_)
    · have hb26 : n.toInt ≤ ((Int32.ofInt 300) - (mi 1)).toInt := hb26
      refine ex_aload_n cg_255 (ix := 20) (pc' := 37) rfl rfl rfl ?_
      refine ex_dup cg_255 (ix := 21) (pc' := 38) rfl rfl rfl ?_
      refine ex_getfield cg_255 (ix := 22) (pc' := 41) (v := .inl (.int (mi 1))) rfl rfl rfl rfl rfl ?_
      refine ex_iload_n cg_255 (ix := 23) (pc' := 42) rfl rfl rfl ?_
      refine ex_iadd cg_255 (ix := 24) (pc' := 43) rfl rfl ?_
      refine ex_putfield cg_255 (ix := 25) (pc' := 46) (h' := [(119, .inl (11, vs_119 (upi (upi mi 0 (Int32.ofInt 0)) 1 ((mi 1) + n)) ml)), (126, .inr (.inl (0, 7, r))), (122, .inr (.inl (0, 16, t))), (123, .inr (.inl (0, 16, s))), (124, .inr (.inl (0, 64, H))), (125, .inr (.inl (0, 64, J)))]) rfl rfl rfl rfl rfl rfl rfl rfl ?_
      refine ex_aload_n cg_255 (ix := 26) (pc' := 47) rfl rfl rfl ?_
      refine ex_callV cg_255 (ix := 27) (pc' := 50) (As := []) (r := []) rfl rfl rfl (ct_nd (mi := upi (upi mi 0 (Int32.ofInt 0)) 1 (mi 1 + n)) (ml := ml) (t := t) (s := s) (H := H) (J := J)) (by first | decide | omega) rfl rfl rfl ⟨rfl, rfl, rfl, rfl, rfl, trivial⟩ rfl rfl (fun v h2 hq => ?_)
      obtain ⟨rfl, rfl⟩ := hq
      show cx_T _ 255 _ 50 ([some (.inr (.inl 119)), some (.inl (.int n))], [], [(119, .inl (11, vs_119 (upi (upi (upi mi 0 (Int32.ofInt 0)) 1 (mi 1 + n)) 22 (Int32.ofInt (-1))) ml)), (126, .inr (.inl (0, 7, r))), (122, .inr (.inl (0, 16, ck 16 (Int32.ofInt 99) t))), (123, .inr (.inl (0, 16, ck 16 (Int32.ofInt 99) s))), (124, .inr (.inl (0, 64, ck 64 (Int32.ofInt 0) H))), (125, .inr (.inl (0, 64, ck 64 (Int32.ofInt 0) J)))]) _
      refine ex_aload_n cg_255 (ix := 28) (pc' := 51) rfl rfl rfl ?_
      refine ex_getfield cg_255 (ix := 29) (pc' := 54) (v := .inl (.int (mi 1 + n))) rfl rfl rfl rfl rfl ?_
      refine ex_ireturn cg_255 (ix := 30) rfl ?_
      exact ⟨_, r, upi (upi (upi mi 0 (Int32.ofInt 0)) 1 (mi 1 + n)) 22 (Int32.ofInt (-1)), ck 16 (Int32.ofInt 99) t, ck 16 (Int32.ofInt 99) s, ck 64 (Int32.ofInt 0) H, ck 64 (Int32.ofInt 0) J, rfl, rfl, Or.inr ⟨by omega, by omega, rfl, rfl, rfl, rfl, rfl⟩⟩
    · have hb26 : ¬ (n.toInt ≤ ((Int32.ofInt 300) - (mi 1)).toInt) := hb26
      refine ex_aload_n cg_255 (ix := 16) (pc' := 30) rfl rfl rfl ?_
      refine ex_bipush cg_255 (ix := 17) (pc' := 32) rfl rfl rfl ?_
      refine ex_callV cg_255 (ix := 18) (pc' := 35) (As := [.inl (.int (Int32.ofInt (-6)))]) (r := []) rfl rfl rfl (ct_mref (x := Int32.ofInt (-6)) (mi := (upi mi 0 (Int32.ofInt 0))) (ml := ml) (r := r) (by decide +kernel) (by decide +kernel)) (by first | decide | omega) rfl rfl rfl ⟨rfl, rfl, trivial⟩ rfl rfl (fun v h2 hq => ?_)
      obtain ⟨rfl, r2, rfl⟩ := hq
      show cx_T _ 255 _ 35 ([some (.inr (.inl 119)), some (.inl (.int n))], [.inl (.int (Int32.ofInt (-6)))], [(119, .inl (11, vs_119 (upi mi 0 (Int32.ofInt 0)) ml)), (126, .inr (.inl (0, 7, r2))), (122, .inr (.inl (0, 16, t))), (123, .inr (.inl (0, 16, s))), (124, .inr (.inl (0, 64, H))), (125, .inr (.inl (0, 64, J)))]) _
      refine ex_ireturn cg_255 (ix := 19) rfl ?_
      exact ⟨_, _, (upi mi 0 (Int32.ofInt 0)), t, s, H, J, rfl, rfl, Or.inl ⟨by omega, rfl, rfl, rfl, rfl, rfl⟩⟩
  · have hb7 : ¬ ((Int32.ofInt 1).toInt ≤ n.toInt) := hb7
    refine ex_aload_n cg_255 (ix := 6) (pc' := 11) rfl rfl rfl ?_
    refine ex_bipush cg_255 (ix := 7) (pc' := 13) rfl rfl rfl ?_
    refine ex_callV cg_255 (ix := 8) (pc' := 16) (As := [.inl (.int (Int32.ofInt (-4)))]) (r := []) rfl rfl rfl (ct_mref (x := Int32.ofInt (-4)) (mi := (upi mi 0 (Int32.ofInt 0))) (ml := ml) (r := r) (by decide +kernel) (by decide +kernel)) (by first | decide | omega) rfl rfl rfl ⟨rfl, rfl, trivial⟩ rfl rfl (fun v h2 hq => ?_)
    obtain ⟨rfl, r2, rfl⟩ := hq
    show cx_T _ 255 _ 16 ([some (.inr (.inl 119)), some (.inl (.int n))], [.inl (.int (Int32.ofInt (-4)))], [(119, .inl (11, vs_119 (upi mi 0 (Int32.ofInt 0)) ml)), (126, .inr (.inl (0, 7, r2))), (122, .inr (.inl (0, 16, t))), (123, .inr (.inl (0, 16, s))), (124, .inr (.inl (0, 64, H))), (125, .inr (.inl (0, 64, J)))]) _
    refine ex_ireturn cg_255 (ix := 9) rfl ?_
    exact ⟨_, _, (upi mi 0 (Int32.ofInt 0)), t, s, H, J, rfl, rfl, Or.inl ⟨by omega, rfl, rfl, rfl, rfl, rfl⟩⟩
end
