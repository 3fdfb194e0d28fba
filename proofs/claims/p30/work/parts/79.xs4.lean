noncomputable section
def h_xc (dy : Int32) (r : Nat → Int32) (lo fo jc us kn : Int32) (lm fm fb : Nat → Int32) (V : Nat → Nat → Int32) : cx_H := [(0, .inl (10, [.inr (.inl 1), .inr (.inl 2), .inr (.inl 15), .inr (.inl 21), .inr (.inl 43), .inr (.inl 68), .inr (.inl 77), .inr (.inl 87), .inr (.inl 101), .inr (.inl 107), .inr (.inl 113), .inl (.int dy)])), (1, .inr (.inl (0, 7, r))), (87, .inl (0, [.inr (.inl 88), .inr (.inl 89), .inr (.inl 90), .inr (.inl 100), .inl (.int lo), .inl (.int fo), .inl (.int jc), .inl (.int us), .inl (.int kn)])), (88, .inr (.inl (0, 8, lm))), (89, .inr (.inl (0, 8, fm))), (90, .inr (.inr (.inr (3, [91, 92, 93, 94, 95, 96, 97, 98, 99])))), (91, .inr (.inl (0, 256, V 0))), (92, .inr (.inl (0, 256, V 1))), (93, .inr (.inl (0, 256, V 2))), (94, .inr (.inl (0, 256, V 3))), (95, .inr (.inl (0, 256, V 4))), (96, .inr (.inl (0, 256, V 5))), (97, .inr (.inl (0, 256, V 6))), (98, .inr (.inl (0, 256, V 7))), (99, .inr (.inl (0, 256, V 8))), (100, .inr (.inl (0, 8, fb)))]
/-- what joins answers -/
def jsA (w : Int32) (u : Nat → Nat → Int) (c : Int) (FN LN : Nat) (z : Int32) : Prop := (w.toInt = 0 ∧ z.toInt = jN c u FN LN LN) ∨ (w.toInt = 1 ∧ z.toInt = jM c u FN LN LN) ∨ (¬ (0 ≤ w.toInt ∧ w.toInt ≤ 1) ∧ z.toInt = -2)
/-- what joined answers -/
def jdA (x : Int32) (u : Nat → Nat → Int) (c : Int) (FN LN : Nat) (z : Int32) : Prop := ((0 ≤ x.toInt ∧ x.toInt < (LN : Int)) ∧ z.toInt = jA c u FN LN x.toNatClampNeg) ∨ (¬ (0 ≤ x.toInt ∧ x.toInt < (LN : Int)) ∧ z.toInt = -1)
/-- what sure answers -/
def srA (x : Int32) (u : Nat → Nat → Int) (c : Int) (FN LN : Nat) (z : Int32) : Prop := ((0 ≤ x.toInt ∧ x.toInt < (LN : Int)) ∧ (suA u c FN LN x.toNatClampNeg ∧ z = Int32.ofInt 1 ∨ ¬ suA u c FN LN x.toNatClampNeg ∧ z = Int32.ofInt 0)) ∨ (¬ (0 ≤ x.toInt ∧ x.toInt < (LN : Int)) ∧ z.toInt = -1)
theorem ct_js0 {dy lo fo jc us kn : Int32} {r lm fm fb : Nat → Int32} {V : Nat → Nat → Int32} {LN FN : Nat} (hlo : lo.toInt = (LN : Int)) (hL : LN ≤ 8) (hfo : fo.toInt = (FN : Int)) (hF : FN ≤ 8) (hkn : kn = Int32.ofInt 0 ∨ kn = Int32.ofInt 1) (hJ : kn = Int32.ofInt 1 → JR lm fm LN FN fb jc us) (hFB : FB fb) : cx_Ct 7 154 [.inr (.inl 0), .inl (.int (Int32.ofInt 0))] (h_xc dy r lo fo jc us kn lm fm fb V) (fun v h2 => ∃ (z : Int32) (r2 : Nat → Int32) (jc2 us2 kn2 : Int32) (fb2 : Nat → Int32) (V2 : Nat → Nat → Int32), v = some (.inl (.int z)) ∧ h2 = h_xc dy r2 lo fo jc2 us2 kn2 lm fm fb2 V2 ∧ (kn2 = Int32.ofInt 0 ∨ kn2 = Int32.ofInt 1) ∧ (kn2 = Int32.ofInt 1 → JR lm fm LN FN fb2 jc2 us2) ∧ FB fb2 ∧ jsA (Int32.ofInt 0) (uN lm fm) 64 FN LN z) := by
  have kcm2 : (Int32.ofInt (-2)).toInt = -2 := by decide +kernel
  have kc0 : (Int32.ofInt 0).toInt = 0 := by decide +kernel
  have kc1 : (Int32.ofInt 1).toInt = 1 := by decide +kernel
  refine cx_Ct.of cg_154 (nL := 2) rfl rfl rfl ?_
  show cx_T 7 154 [0, 1, 87, 88, 89, 90, 91, 92, 93, 94, 95, 96, 97, 98, 99, 100] 0 ([some (.inr (.inl 0)), some (.inl (.int (Int32.ofInt 0)))], [], h_xc dy r lo fo jc us kn lm fm fb V) _
  refine ex_iload_n cg_154 (ix := 0) (pc' := 1) rfl rfl rfl ?_
  refine ex_lookup cg_154 (ix := 1) (off := 27) (t := 28) rfl (by decide) (by decide +kernel) rfl ?_
  refine ex_aload_n cg_154 (ix := 2) (pc' := 29) rfl rfl rfl ?_
  refine ex_getfield cg_154 (ix := 3) (pc' := 32) rfl rfl rfl rfl rfl ?_
  refine ex_callV cg_154 (ix := 4) (pc' := 35) (As := []) (r := []) rfl rfl rfl (ct_joinCo (lo := lo) (fo := fo) (jc := jc) (us := us) (kn := kn) (lm := lm) (fm := fm) (fb := fb) (V := V) (LN := LN) (FN := FN) hlo hL hfo hF hkn hJ hFB) (by first | decide | omega) rfl rfl rfl ⟨rfl, rfl, rfl, rfl, rfl, rfl, rfl, rfl, rfl, rfl, rfl, rfl, rfl, rfl, trivial⟩ rfl rfl (fun v h2 hq => ?_)
  obtain ⟨jc2, us2, kn2, fb2, V2, rfl, rfl, hJR, hk2, hFB2⟩ := hq
  show cx_T _ 154 _ 35 ([some (.inr (.inl 0)), some (.inl (.int (Int32.ofInt 0)))], [.inl (.int jc2)], [(0, .inl (10, [.inr (.inl 1), .inr (.inl 2), .inr (.inl 15), .inr (.inl 21), .inr (.inl 43), .inr (.inl 68), .inr (.inl 77), .inr (.inl 87), .inr (.inl 101), .inr (.inl 107), .inr (.inl 113), .inl (.int dy)])), (1, .inr (.inl (0, 7, r))), (87, .inl (0, [.inr (.inl 88), .inr (.inl 89), .inr (.inl 90), .inr (.inl 100), .inl (.int lo), .inl (.int fo), .inl (.int jc2), .inl (.int us2), .inl (.int kn2)])), (88, .inr (.inl (0, 8, lm))), (89, .inr (.inl (0, 8, fm))), (90, .inr (.inr (.inr (3, [91, 92, 93, 94, 95, 96, 97, 98, 99])))), (91, .inr (.inl (0, 256, V2 0))), (92, .inr (.inl (0, 256, V2 1))), (93, .inr (.inl (0, 256, V2 2))), (94, .inr (.inl (0, 256, V2 3))), (95, .inr (.inl (0, 256, V2 4))), (96, .inr (.inl (0, 256, V2 5))), (97, .inr (.inl (0, 256, V2 6))), (98, .inr (.inl (0, 256, V2 7))), (99, .inr (.inl (0, 256, V2 8))), (100, .inr (.inl (0, 8, fb2)))]) _
  refine ex_ireturn cg_154 (ix := 5) rfl ?_
  exact ⟨jc2, r, jc2, us2, kn2, fb2, V2, rfl, rfl, Or.inr hk2, fun _ => hJR, hFB2, Or.inl ⟨by decide +kernel, hJR.1⟩⟩
theorem ct_js1 {dy lo fo jc us kn : Int32} {r lm fm fb : Nat → Int32} {V : Nat → Nat → Int32} {LN FN : Nat} (hlo : lo.toInt = (LN : Int)) (hL : LN ≤ 8) (hfo : fo.toInt = (FN : Int)) (hF : FN ≤ 8) (hkn : kn = Int32.ofInt 0 ∨ kn = Int32.ofInt 1) (hJ : kn = Int32.ofInt 1 → JR lm fm LN FN fb jc us) (hFB : FB fb) : cx_Ct 7 154 [.inr (.inl 0), .inl (.int (Int32.ofInt 1))] (h_xc dy r lo fo jc us kn lm fm fb V) (fun v h2 => ∃ (z : Int32) (r2 : Nat → Int32) (jc2 us2 kn2 : Int32) (fb2 : Nat → Int32) (V2 : Nat → Nat → Int32), v = some (.inl (.int z)) ∧ h2 = h_xc dy r2 lo fo jc2 us2 kn2 lm fm fb2 V2 ∧ (kn2 = Int32.ofInt 0 ∨ kn2 = Int32.ofInt 1) ∧ (kn2 = Int32.ofInt 1 → JR lm fm LN FN fb2 jc2 us2) ∧ FB fb2 ∧ jsA (Int32.ofInt 1) (uN lm fm) 64 FN LN z) := by
  have kcm2 : (Int32.ofInt (-2)).toInt = -2 := by decide +kernel
  have kc0 : (Int32.ofInt 0).toInt = 0 := by decide +kernel
  have kc1 : (Int32.ofInt 1).toInt = 1 := by decide +kernel
  refine cx_Ct.of cg_154 (nL := 2) rfl rfl rfl ?_
  show cx_T 7 154 [0, 1, 87, 88, 89, 90, 91, 92, 93, 94, 95, 96, 97, 98, 99, 100] 0 ([some (.inr (.inl 0)), some (.inl (.int (Int32.ofInt 1)))], [], h_xc dy r lo fo jc us kn lm fm fb V) _
  refine ex_iload_n cg_154 (ix := 0) (pc' := 1) rfl rfl rfl ?_
  refine ex_lookup cg_154 (ix := 1) (off := 35) (t := 36) rfl (by decide) (by decide +kernel) rfl ?_
  refine ex_aload_n cg_154 (ix := 6) (pc' := 37) rfl rfl rfl ?_
  refine ex_getfield cg_154 (ix := 7) (pc' := 40) rfl rfl rfl rfl rfl ?_
  refine ex_callV cg_154 (ix := 8) (pc' := 43) (As := []) (r := []) rfl rfl rfl (ct_unlike (lo := lo) (fo := fo) (jc := jc) (us := us) (kn := kn) (lm := lm) (fm := fm) (fb := fb) (V := V) (LN := LN) (FN := FN) hlo hL hfo hF hkn hJ hFB) (by first | decide | omega) rfl rfl rfl ⟨rfl, rfl, rfl, rfl, rfl, rfl, rfl, rfl, rfl, rfl, rfl, rfl, rfl, rfl, trivial⟩ rfl rfl (fun v h2 hq => ?_)
  obtain ⟨jc2, us2, kn2, fb2, V2, rfl, rfl, hJR, hk2, hFB2⟩ := hq
  show cx_T _ 154 _ 43 ([some (.inr (.inl 0)), some (.inl (.int (Int32.ofInt 1)))], [.inl (.int us2)], [(0, .inl (10, [.inr (.inl 1), .inr (.inl 2), .inr (.inl 15), .inr (.inl 21), .inr (.inl 43), .inr (.inl 68), .inr (.inl 77), .inr (.inl 87), .inr (.inl 101), .inr (.inl 107), .inr (.inl 113), .inl (.int dy)])), (1, .inr (.inl (0, 7, r))), (87, .inl (0, [.inr (.inl 88), .inr (.inl 89), .inr (.inl 90), .inr (.inl 100), .inl (.int lo), .inl (.int fo), .inl (.int jc2), .inl (.int us2), .inl (.int kn2)])), (88, .inr (.inl (0, 8, lm))), (89, .inr (.inl (0, 8, fm))), (90, .inr (.inr (.inr (3, [91, 92, 93, 94, 95, 96, 97, 98, 99])))), (91, .inr (.inl (0, 256, V2 0))), (92, .inr (.inl (0, 256, V2 1))), (93, .inr (.inl (0, 256, V2 2))), (94, .inr (.inl (0, 256, V2 3))), (95, .inr (.inl (0, 256, V2 4))), (96, .inr (.inl (0, 256, V2 5))), (97, .inr (.inl (0, 256, V2 6))), (98, .inr (.inl (0, 256, V2 7))), (99, .inr (.inl (0, 256, V2 8))), (100, .inr (.inl (0, 8, fb2)))]) _
  refine ex_ireturn cg_154 (ix := 9) rfl ?_
  exact ⟨us2, r, jc2, us2, kn2, fb2, V2, rfl, rfl, Or.inr hk2, fun _ => hJR, hFB2, Or.inr (Or.inl ⟨by decide +kernel, hJR.2.1⟩)⟩
theorem ct_jsw {dy lo fo jc us kn : Int32} {r lm fm fb : Nat → Int32} {V : Nat → Nat → Int32} {LN FN : Nat} {w : Int32} (hlo : lo.toInt = (LN : Int)) (hL : LN ≤ 8) (hfo : fo.toInt = (FN : Int)) (hF : FN ≤ 8) (hkn : kn = Int32.ofInt 0 ∨ kn = Int32.ofInt 1) (hJ : kn = Int32.ofInt 1 → JR lm fm LN FN fb jc us) (hFB : FB fb) (hw : ¬ (0 ≤ w.toInt ∧ w.toInt ≤ 1)) : cx_Ct 7 154 [.inr (.inl 0), .inl (.int w)] (h_xc dy r lo fo jc us kn lm fm fb V) (fun v h2 => ∃ (z : Int32) (r2 : Nat → Int32) (jc2 us2 kn2 : Int32) (fb2 : Nat → Int32) (V2 : Nat → Nat → Int32), v = some (.inl (.int z)) ∧ h2 = h_xc dy r2 lo fo jc2 us2 kn2 lm fm fb2 V2 ∧ (kn2 = Int32.ofInt 0 ∨ kn2 = Int32.ofInt 1) ∧ (kn2 = Int32.ofInt 1 → JR lm fm LN FN fb2 jc2 us2) ∧ FB fb2 ∧ jsA w (uN lm fm) 64 FN LN z) := by
  have kcm2 : (Int32.ofInt (-2)).toInt = -2 := by decide +kernel
  have kc0 : (Int32.ofInt 0).toInt = 0 := by decide +kernel
  have kc1 : (Int32.ofInt 1).toInt = 1 := by decide +kernel
  refine cx_Ct.of cg_154 (nL := 2) rfl rfl rfl ?_
  show cx_T 7 154 [0, 1, 87, 88, 89, 90, 91, 92, 93, 94, 95, 96, 97, 98, 99, 100] 0 ([some (.inr (.inl 0)), some (.inl (.int w))], [], h_xc dy r lo fo jc us kn lm fm fb V) _
  refine ex_iload_n cg_154 (ix := 0) (pc' := 1) rfl rfl rfl ?_
  refine ex_lookup cg_154 (ix := 1) (off := 43) (t := 44) rfl (by decide) (by show (if (0 : Int) = w.toInt then (27 : Int) else if (1 : Int) = w.toInt then 35 else 43) = 43; rw [if_neg (by omega), if_neg (by omega)]) rfl ?_
  refine ex_aload_n cg_154 (ix := 10) (pc' := 45) rfl rfl rfl ?_
  refine ex_bipush cg_154 (ix := 11) (pc' := 47) rfl rfl rfl ?_
  refine ex_callV cg_154 (ix := 12) (pc' := 50) (As := [.inl (.int (Int32.ofInt (-2)))]) (r := []) rfl rfl rfl (ct_xref (dy := dy) (x := Int32.ofInt (-2)) (r := r) (by decide +kernel) (by decide +kernel)) (by first | decide | omega) rfl rfl rfl ⟨rfl, rfl, trivial⟩ rfl rfl (fun v h2 hq => ?_)
  obtain ⟨rfl, r2, rfl⟩ := hq
  show cx_T _ 154 _ 50 ([some (.inr (.inl 0)), some (.inl (.int w))], [.inl (.int (Int32.ofInt (-2)))], [(0, .inl (10, [.inr (.inl 1), .inr (.inl 2), .inr (.inl 15), .inr (.inl 21), .inr (.inl 43), .inr (.inl 68), .inr (.inl 77), .inr (.inl 87), .inr (.inl 101), .inr (.inl 107), .inr (.inl 113), .inl (.int dy)])), (1, .inr (.inl (0, 7, r2))), (87, .inl (0, [.inr (.inl 88), .inr (.inl 89), .inr (.inl 90), .inr (.inl 100), .inl (.int lo), .inl (.int fo), .inl (.int jc), .inl (.int us), .inl (.int kn)])), (88, .inr (.inl (0, 8, lm))), (89, .inr (.inl (0, 8, fm))), (90, .inr (.inr (.inr (3, [91, 92, 93, 94, 95, 96, 97, 98, 99])))), (91, .inr (.inl (0, 256, V 0))), (92, .inr (.inl (0, 256, V 1))), (93, .inr (.inl (0, 256, V 2))), (94, .inr (.inl (0, 256, V 3))), (95, .inr (.inl (0, 256, V 4))), (96, .inr (.inl (0, 256, V 5))), (97, .inr (.inl (0, 256, V 6))), (98, .inr (.inl (0, 256, V 7))), (99, .inr (.inl (0, 256, V 8))), (100, .inr (.inl (0, 8, fb)))]) _
  refine ex_ireturn cg_154 (ix := 13) rfl ?_
  exact ⟨_, r2, jc, us, kn, fb, V, rfl, rfl, hkn, hJ, hFB, Or.inr (Or.inr ⟨hw, by decide +kernel⟩)⟩
theorem ct_js {dy lo fo jc us kn : Int32} {r lm fm fb : Nat → Int32} {V : Nat → Nat → Int32} {LN FN : Nat} {w : Int32} (hlo : lo.toInt = (LN : Int)) (hL : LN ≤ 8) (hfo : fo.toInt = (FN : Int)) (hF : FN ≤ 8) (hkn : kn = Int32.ofInt 0 ∨ kn = Int32.ofInt 1) (hJ : kn = Int32.ofInt 1 → JR lm fm LN FN fb jc us) (hFB : FB fb) : cx_Ct 7 154 [.inr (.inl 0), .inl (.int w)] (h_xc dy r lo fo jc us kn lm fm fb V) (fun v h2 => ∃ (z : Int32) (r2 : Nat → Int32) (jc2 us2 kn2 : Int32) (fb2 : Nat → Int32) (V2 : Nat → Nat → Int32), v = some (.inl (.int z)) ∧ h2 = h_xc dy r2 lo fo jc2 us2 kn2 lm fm fb2 V2 ∧ (kn2 = Int32.ofInt 0 ∨ kn2 = Int32.ofInt 1) ∧ (kn2 = Int32.ofInt 1 → JR lm fm LN FN fb2 jc2 us2) ∧ FB fb2 ∧ jsA w (uN lm fm) 64 FN LN z) := by
  by_cases hw : 0 ≤ w.toInt ∧ w.toInt ≤ 1
  · rcases (show w.toInt = 0 ∨ w.toInt = 1 by omega) with q | q
    · rw [show w = Int32.ofInt 0 from cx_i32 (by rw [q]; decide +kernel)]; exact ct_js0 hlo hL hfo hF hkn hJ hFB
    · rw [show w = Int32.ofInt 1 from cx_i32 (by rw [q]; decide +kernel)]; exact ct_js1 hlo hL hfo hF hkn hJ hFB
  · exact ct_jsw hlo hL hfo hF hkn hJ hFB hw
theorem ct_jd {dy lo fo jc us kn : Int32} {r lm fm fb : Nat → Int32} {V : Nat → Nat → Int32} {LN FN : Nat} {x : Int32} (hlo : lo.toInt = (LN : Int)) (hL : LN ≤ 8) (hfo : fo.toInt = (FN : Int)) (hF : FN ≤ 8) (hkn : kn = Int32.ofInt 0 ∨ kn = Int32.ofInt 1) (hJ : kn = Int32.ofInt 1 → JR lm fm LN FN fb jc us) (hFB : FB fb) : cx_Ct 7 155 [.inr (.inl 0), .inl (.int x)] (h_xc dy r lo fo jc us kn lm fm fb V) (fun v h2 => ∃ (z : Int32) (r2 : Nat → Int32) (jc2 us2 kn2 : Int32) (fb2 : Nat → Int32) (V2 : Nat → Nat → Int32), v = some (.inl (.int z)) ∧ h2 = h_xc dy r2 lo fo jc2 us2 kn2 lm fm fb2 V2 ∧ (kn2 = Int32.ofInt 0 ∨ kn2 = Int32.ofInt 1) ∧ (kn2 = Int32.ofInt 1 → JR lm fm LN FN fb2 jc2 us2) ∧ FB fb2 ∧ jdA x (uN lm fm) 64 FN LN z) := by
  have kcm1 : (Int32.ofInt (-1)).toInt = -1 := by decide +kernel
  have kc0 : (Int32.ofInt 0).toInt = 0 := by decide +kernel
  have kc1 : (Int32.ofInt 1).toInt = 1 := by decide +kernel
  refine cx_Ct.of cg_155 (nL := 2) rfl rfl rfl ?_
  show cx_T 7 155 [0, 1, 87, 88, 89, 90, 91, 92, 93, 94, 95, 96, 97, 98, 99, 100] 0 ([some (.inr (.inl 0)), some (.inl (.int x))], [], h_xc dy r lo fo jc us kn lm fm fb V) _
  refine ex_aload_n cg_155 (ix := 0) (pc' := 1) rfl rfl rfl ?_
  refine ex_getfield cg_155 (ix := 1) (pc' := 4) rfl rfl rfl rfl rfl ?_
  refine ex_iload_n cg_155 (ix := 2) (pc' := 5) rfl rfl rfl ?_
  refine ex_callV cg_155 (ix := 3) (pc' := 8) (As := [.inl (.int x)]) (r := []) rfl rfl rfl (ct_isl (lo := lo) (fo := fo) (jc := jc) (us := us) (kn := kn) (x := x)) (by first | decide | omega) rfl rfl rfl ⟨rfl, trivial⟩ rfl rfl (fun v h2 hq => ?_)
  obtain ⟨z, rfl, rfl, hz1⟩ := hq
  rcases hz1 with ⟨hz1, rfl⟩ | ⟨hz1, rfl⟩
  · show cx_T _ 155 _ 8 ([some (.inr (.inl 0)), some (.inl (.int x))], [.inl (.int (Int32.ofInt 1))], [(0, .inl (10, [.inr (.inl 1), .inr (.inl 2), .inr (.inl 15), .inr (.inl 21), .inr (.inl 43), .inr (.inl 68), .inr (.inl 77), .inr (.inl 87), .inr (.inl 101), .inr (.inl 107), .inr (.inl 113), .inl (.int dy)])), (1, .inr (.inl (0, 7, r))), (87, .inl (0, [.inr (.inl 88), .inr (.inl 89), .inr (.inl 90), .inr (.inl 100), .inl (.int lo), .inl (.int fo), .inl (.int jc), .inl (.int us), .inl (.int kn)])), (88, .inr (.inl (0, 8, lm))), (89, .inr (.inl (0, 8, fm))), (90, .inr (.inr (.inr (3, [91, 92, 93, 94, 95, 96, 97, 98, 99])))), (91, .inr (.inl (0, 256, V 0))), (92, .inr (.inl (0, 256, V 1))), (93, .inr (.inl (0, 256, V 2))), (94, .inr (.inl (0, 256, V 3))), (95, .inr (.inl (0, 256, V 4))), (96, .inr (.inl (0, 256, V 5))), (97, .inr (.inl (0, 256, V 6))), (98, .inr (.inl (0, 256, V 7))), (99, .inr (.inl (0, 256, V 8))), (100, .inr (.inl (0, 8, fb)))]) _
    refine ex_if cg_155 (ix := 4) (t := 22) (pc' := 11) rfl rfl rfl (fun hb8 => ?_) (fun hb8 => ?_)
    · have hb8 : (Int32.ofInt 1).toInt = 0 := hb8
      exfalso; first | omega | exact absurd hb8 (by decide +kernel)
    · have hb8 : ¬ ((Int32.ofInt 1).toInt = 0) := hb8
      refine ex_aload_n cg_155 (ix := 5) (pc' := 12) rfl rfl rfl ?_
      refine ex_getfield cg_155 (ix := 6) (pc' := 15) rfl rfl rfl rfl rfl ?_
      refine ex_iload_n cg_155 (ix := 7) (pc' := 16) rfl rfl rfl ?_
      refine ex_callV cg_155 (ix := 8) (pc' := 19) (As := [.inl (.int x)]) (r := []) rfl rfl rfl (ct_fof (x := x) (lo := lo) (fo := fo) (jc := jc) (us := us) (kn := kn) (lm := lm) (fm := fm) (fb := fb) (V := V) (LN := LN) (FN := FN) hlo hL hfo hF hkn hJ hFB (by omega) (by omega)) (by first | decide | omega) rfl rfl rfl ⟨rfl, rfl, rfl, rfl, rfl, rfl, rfl, rfl, rfl, rfl, rfl, rfl, rfl, rfl, trivial⟩ rfl rfl (fun v h2 hq => ?_)
      obtain ⟨jc2, us2, kn2, fb2, V2, rfl, rfl, hJR, hk2, hFB2⟩ := hq
      show cx_T _ 155 _ 19 ([some (.inr (.inl 0)), some (.inl (.int x))], [.inl (.int (fb2 x.toNatClampNeg))], [(0, .inl (10, [.inr (.inl 1), .inr (.inl 2), .inr (.inl 15), .inr (.inl 21), .inr (.inl 43), .inr (.inl 68), .inr (.inl 77), .inr (.inl 87), .inr (.inl 101), .inr (.inl 107), .inr (.inl 113), .inl (.int dy)])), (1, .inr (.inl (0, 7, r))), (87, .inl (0, [.inr (.inl 88), .inr (.inl 89), .inr (.inl 90), .inr (.inl 100), .inl (.int lo), .inl (.int fo), .inl (.int jc2), .inl (.int us2), .inl (.int kn2)])), (88, .inr (.inl (0, 8, lm))), (89, .inr (.inl (0, 8, fm))), (90, .inr (.inr (.inr (3, [91, 92, 93, 94, 95, 96, 97, 98, 99])))), (91, .inr (.inl (0, 256, V2 0))), (92, .inr (.inl (0, 256, V2 1))), (93, .inr (.inl (0, 256, V2 2))), (94, .inr (.inl (0, 256, V2 3))), (95, .inr (.inl (0, 256, V2 4))), (96, .inr (.inl (0, 256, V2 5))), (97, .inr (.inl (0, 256, V2 6))), (98, .inr (.inl (0, 256, V2 7))), (99, .inr (.inl (0, 256, V2 8))), (100, .inr (.inl (0, 8, fb2)))]) _
      refine ex_goto cg_155 (ix := 9) (pc' := 27) rfl rfl ?_
      refine ex_ireturn cg_155 (ix := 13) rfl ?_
      exact ⟨_, r, jc2, us2, kn2, fb2, V2, rfl, rfl, Or.inr hk2, fun _ => hJR, hFB2, Or.inl ⟨by omega, hJR.2.2 _ (by have := ab_clamp (x := x) (by omega); omega)⟩⟩
  · show cx_T _ 155 _ 8 ([some (.inr (.inl 0)), some (.inl (.int x))], [.inl (.int (Int32.ofInt 0))], [(0, .inl (10, [.inr (.inl 1), .inr (.inl 2), .inr (.inl 15), .inr (.inl 21), .inr (.inl 43), .inr (.inl 68), .inr (.inl 77), .inr (.inl 87), .inr (.inl 101), .inr (.inl 107), .inr (.inl 113), .inl (.int dy)])), (1, .inr (.inl (0, 7, r))), (87, .inl (0, [.inr (.inl 88), .inr (.inl 89), .inr (.inl 90), .inr (.inl 100), .inl (.int lo), .inl (.int fo), .inl (.int jc), .inl (.int us), .inl (.int kn)])), (88, .inr (.inl (0, 8, lm))), (89, .inr (.inl (0, 8, fm))), (90, .inr (.inr (.inr (3, [91, 92, 93, 94, 95, 96, 97, 98, 99])))), (91, .inr (.inl (0, 256, V 0))), (92, .inr (.inl (0, 256, V 1))), (93, .inr (.inl (0, 256, V 2))), (94, .inr (.inl (0, 256, V 3))), (95, .inr (.inl (0, 256, V 4))), (96, .inr (.inl (0, 256, V 5))), (97, .inr (.inl (0, 256, V 6))), (98, .inr (.inl (0, 256, V 7))), (99, .inr (.inl (0, 256, V 8))), (100, .inr (.inl (0, 8, fb)))]) _
    refine ex_if cg_155 (ix := 4) (t := 22) (pc' := 11) rfl rfl rfl (fun hb8 => ?_) (fun hb8 => ?_)
    · have hb8 : (Int32.ofInt 0).toInt = 0 := hb8
      refine ex_aload_n cg_155 (ix := 10) (pc' := 23) rfl rfl rfl ?_
      refine ex_iconst cg_155 (ix := 11) (pc' := 24) rfl rfl ?_
      refine ex_callV cg_155 (ix := 12) (pc' := 27) (As := [.inl (.int (Int32.ofInt (-1)))]) (r := []) rfl rfl rfl (ct_xref (dy := dy) (x := Int32.ofInt (-1)) (r := r) (by decide +kernel) (by decide +kernel)) (by first | decide | omega) rfl rfl rfl ⟨rfl, rfl, trivial⟩ rfl rfl (fun v h2 hq => ?_)
      obtain ⟨rfl, r2, rfl⟩ := hq
      show cx_T _ 155 _ 27 ([some (.inr (.inl 0)), some (.inl (.int x))], [.inl (.int (Int32.ofInt (-1)))], [(0, .inl (10, [.inr (.inl 1), .inr (.inl 2), .inr (.inl 15), .inr (.inl 21), .inr (.inl 43), .inr (.inl 68), .inr (.inl 77), .inr (.inl 87), .inr (.inl 101), .inr (.inl 107), .inr (.inl 113), .inl (.int dy)])), (1, .inr (.inl (0, 7, r2))), (87, .inl (0, [.inr (.inl 88), .inr (.inl 89), .inr (.inl 90), .inr (.inl 100), .inl (.int lo), .inl (.int fo), .inl (.int jc), .inl (.int us), .inl (.int kn)])), (88, .inr (.inl (0, 8, lm))), (89, .inr (.inl (0, 8, fm))), (90, .inr (.inr (.inr (3, [91, 92, 93, 94, 95, 96, 97, 98, 99])))), (91, .inr (.inl (0, 256, V 0))), (92, .inr (.inl (0, 256, V 1))), (93, .inr (.inl (0, 256, V 2))), (94, .inr (.inl (0, 256, V 3))), (95, .inr (.inl (0, 256, V 4))), (96, .inr (.inl (0, 256, V 5))), (97, .inr (.inl (0, 256, V 6))), (98, .inr (.inl (0, 256, V 7))), (99, .inr (.inl (0, 256, V 8))), (100, .inr (.inl (0, 8, fb)))]) _
      refine ex_ireturn cg_155 (ix := 13) rfl ?_
      exact ⟨_, r2, jc, us, kn, fb, V, rfl, rfl, hkn, hJ, hFB, Or.inr ⟨by omega, by decide +kernel⟩⟩
    · have hb8 : ¬ ((Int32.ofInt 0).toInt = 0) := hb8
      exfalso; first | omega | exact absurd hb8 (by decide +kernel)
theorem ct_sr {dy lo fo jc us kn : Int32} {r lm fm fb : Nat → Int32} {V : Nat → Nat → Int32} {LN FN : Nat} {x : Int32} (hlo : lo.toInt = (LN : Int)) (hL : LN ≤ 8) (hfo : fo.toInt = (FN : Int)) (hF : FN ≤ 8) (hkn : kn = Int32.ofInt 0 ∨ kn = Int32.ofInt 1) (hJ : kn = Int32.ofInt 1 → JR lm fm LN FN fb jc us) (hFB : FB fb) : cx_Ct 8 156 [.inr (.inl 0), .inl (.int x)] (h_xc dy r lo fo jc us kn lm fm fb V) (fun v h2 => ∃ (z : Int32) (r2 : Nat → Int32) (jc2 us2 kn2 : Int32) (fb2 : Nat → Int32) (V2 : Nat → Nat → Int32), v = some (.inl (.int z)) ∧ h2 = h_xc dy r2 lo fo jc2 us2 kn2 lm fm fb2 V2 ∧ (kn2 = Int32.ofInt 0 ∨ kn2 = Int32.ofInt 1) ∧ (kn2 = Int32.ofInt 1 → JR lm fm LN FN fb2 jc2 us2) ∧ FB fb2 ∧ srA x (uN lm fm) 64 FN LN z) := by
  have kcm1 : (Int32.ofInt (-1)).toInt = -1 := by decide +kernel
  have kc0 : (Int32.ofInt 0).toInt = 0 := by decide +kernel
  have kc1 : (Int32.ofInt 1).toInt = 1 := by decide +kernel
  refine cx_Ct.of cg_156 (nL := 2) rfl rfl rfl ?_
  show cx_T 8 156 [0, 1, 87, 88, 89, 90, 91, 92, 93, 94, 95, 96, 97, 98, 99, 100] 0 ([some (.inr (.inl 0)), some (.inl (.int x))], [], h_xc dy r lo fo jc us kn lm fm fb V) _
  refine ex_aload_n cg_156 (ix := 0) (pc' := 1) rfl rfl rfl ?_
  refine ex_getfield cg_156 (ix := 1) (pc' := 4) rfl rfl rfl rfl rfl ?_
  refine ex_iload_n cg_156 (ix := 2) (pc' := 5) rfl rfl rfl ?_
  refine ex_callV cg_156 (ix := 3) (pc' := 8) (As := [.inl (.int x)]) (r := []) rfl rfl rfl (ct_isl (lo := lo) (fo := fo) (jc := jc) (us := us) (kn := kn) (x := x)) (by first | decide | omega) rfl rfl rfl ⟨rfl, trivial⟩ rfl rfl (fun v h2 hq => ?_)
  obtain ⟨z, rfl, rfl, hz1⟩ := hq
  rcases hz1 with ⟨hz1, rfl⟩ | ⟨hz1, rfl⟩
  · show cx_T _ 156 _ 8 ([some (.inr (.inl 0)), some (.inl (.int x))], [.inl (.int (Int32.ofInt 1))], [(0, .inl (10, [.inr (.inl 1), .inr (.inl 2), .inr (.inl 15), .inr (.inl 21), .inr (.inl 43), .inr (.inl 68), .inr (.inl 77), .inr (.inl 87), .inr (.inl 101), .inr (.inl 107), .inr (.inl 113), .inl (.int dy)])), (1, .inr (.inl (0, 7, r))), (87, .inl (0, [.inr (.inl 88), .inr (.inl 89), .inr (.inl 90), .inr (.inl 100), .inl (.int lo), .inl (.int fo), .inl (.int jc), .inl (.int us), .inl (.int kn)])), (88, .inr (.inl (0, 8, lm))), (89, .inr (.inl (0, 8, fm))), (90, .inr (.inr (.inr (3, [91, 92, 93, 94, 95, 96, 97, 98, 99])))), (91, .inr (.inl (0, 256, V 0))), (92, .inr (.inl (0, 256, V 1))), (93, .inr (.inl (0, 256, V 2))), (94, .inr (.inl (0, 256, V 3))), (95, .inr (.inl (0, 256, V 4))), (96, .inr (.inl (0, 256, V 5))), (97, .inr (.inl (0, 256, V 6))), (98, .inr (.inl (0, 256, V 7))), (99, .inr (.inl (0, 256, V 8))), (100, .inr (.inl (0, 8, fb)))]) _
    refine ex_if cg_156 (ix := 4) (t := 17) (pc' := 11) rfl rfl rfl (fun hb8 => ?_) (fun hb8 => ?_)
    · have hb8 : ¬ (Int32.ofInt 1).toInt = 0 := hb8
      refine ex_aload_n cg_156 (ix := 9) (pc' := 18) rfl rfl rfl ?_
      refine ex_getfield cg_156 (ix := 10) (pc' := 21) rfl rfl rfl rfl rfl ?_
      refine ex_iload_n cg_156 (ix := 11) (pc' := 22) rfl rfl rfl ?_
      refine ex_callV cg_156 (ix := 12) (pc' := 25) (As := [.inl (.int x)]) (r := []) rfl rfl rfl (ct_isu (x := x) (kN := x.toNatClampNeg) (lo := lo) (fo := fo) (jc := jc) (us := us) (kn := kn) (lm := lm) (fm := fm) (fb := fb) (V := V) (LN := LN) (FN := FN) hlo hL hfo hF hkn hJ hFB (by have := ab_clamp (x := x) (by omega); omega) (by have := ab_clamp (x := x) (by omega); omega)) (by first | decide | omega) rfl rfl rfl ⟨rfl, rfl, rfl, rfl, rfl, rfl, rfl, rfl, rfl, rfl, rfl, rfl, rfl, rfl, trivial⟩ rfl rfl (fun v h2 hq => ?_)
      obtain ⟨jc2, us2, kn2, fb2, V2, ⟨z, rfl, hz⟩, rfl, hJR, hk2, hFB2⟩ := hq
      show cx_T _ 156 _ 25 ([some (.inr (.inl 0)), some (.inl (.int x))], [.inl (.int z)], [(0, .inl (10, [.inr (.inl 1), .inr (.inl 2), .inr (.inl 15), .inr (.inl 21), .inr (.inl 43), .inr (.inl 68), .inr (.inl 77), .inr (.inl 87), .inr (.inl 101), .inr (.inl 107), .inr (.inl 113), .inl (.int dy)])), (1, .inr (.inl (0, 7, r))), (87, .inl (0, [.inr (.inl 88), .inr (.inl 89), .inr (.inl 90), .inr (.inl 100), .inl (.int lo), .inl (.int fo), .inl (.int jc2), .inl (.int us2), .inl (.int kn2)])), (88, .inr (.inl (0, 8, lm))), (89, .inr (.inl (0, 8, fm))), (90, .inr (.inr (.inr (3, [91, 92, 93, 94, 95, 96, 97, 98, 99])))), (91, .inr (.inl (0, 256, V2 0))), (92, .inr (.inl (0, 256, V2 1))), (93, .inr (.inl (0, 256, V2 2))), (94, .inr (.inl (0, 256, V2 3))), (95, .inr (.inl (0, 256, V2 4))), (96, .inr (.inl (0, 256, V2 5))), (97, .inr (.inl (0, 256, V2 6))), (98, .inr (.inl (0, 256, V2 7))), (99, .inr (.inl (0, 256, V2 8))), (100, .inr (.inl (0, 8, fb2)))]) _
      refine ex_if cg_156 (ix := 13) (t := 32) (pc' := 28) rfl rfl rfl (fun hb25 => ?_) (fun hb25 => ?_)
      · have hb25 : z.toInt = 0 := hb25
        refine ex_iconst cg_156 (ix := 16) (pc' := 33) rfl rfl ?_
        refine ex_ireturn cg_156 (ix := 17) rfl ?_
        refine ⟨_, r, jc2, us2, kn2, fb2, V2, rfl, rfl, Or.inr hk2, fun _ => hJR, hFB2, Or.inl ⟨by omega, ?_⟩⟩
        rcases hz with ⟨hz, rfl⟩ | ⟨hz, rfl⟩
        · exfalso; omega
        · exact Or.inr ⟨hz, rfl⟩
      · have hb25 : ¬ (z.toInt = 0) := hb25
        refine ex_iconst cg_156 (ix := 14) (pc' := 29) rfl rfl ?_
        refine ex_goto cg_156 (ix := 15) (pc' := 33) rfl rfl ?_
        refine ex_ireturn cg_156 (ix := 17) rfl ?_
        refine ⟨_, r, jc2, us2, kn2, fb2, V2, rfl, rfl, Or.inr hk2, fun _ => hJR, hFB2, Or.inl ⟨by omega, ?_⟩⟩
        rcases hz with ⟨hz, rfl⟩ | ⟨hz, rfl⟩
        · exact Or.inl ⟨hz, rfl⟩
        · exfalso; omega
    · have hb8 : ¬ (¬ (Int32.ofInt 1).toInt = 0) := hb8
      exfalso; first | omega | exact absurd hb8 (by decide +kernel)
  · show cx_T _ 156 _ 8 ([some (.inr (.inl 0)), some (.inl (.int x))], [.inl (.int (Int32.ofInt 0))], [(0, .inl (10, [.inr (.inl 1), .inr (.inl 2), .inr (.inl 15), .inr (.inl 21), .inr (.inl 43), .inr (.inl 68), .inr (.inl 77), .inr (.inl 87), .inr (.inl 101), .inr (.inl 107), .inr (.inl 113), .inl (.int dy)])), (1, .inr (.inl (0, 7, r))), (87, .inl (0, [.inr (.inl 88), .inr (.inl 89), .inr (.inl 90), .inr (.inl 100), .inl (.int lo), .inl (.int fo), .inl (.int jc), .inl (.int us), .inl (.int kn)])), (88, .inr (.inl (0, 8, lm))), (89, .inr (.inl (0, 8, fm))), (90, .inr (.inr (.inr (3, [91, 92, 93, 94, 95, 96, 97, 98, 99])))), (91, .inr (.inl (0, 256, V 0))), (92, .inr (.inl (0, 256, V 1))), (93, .inr (.inl (0, 256, V 2))), (94, .inr (.inl (0, 256, V 3))), (95, .inr (.inl (0, 256, V 4))), (96, .inr (.inl (0, 256, V 5))), (97, .inr (.inl (0, 256, V 6))), (98, .inr (.inl (0, 256, V 7))), (99, .inr (.inl (0, 256, V 8))), (100, .inr (.inl (0, 8, fb)))]) _
    refine ex_if cg_156 (ix := 4) (t := 17) (pc' := 11) rfl rfl rfl (fun hb8 => ?_) (fun hb8 => ?_)
    · have hb8 : ¬ (Int32.ofInt 0).toInt = 0 := hb8
      exfalso; first | omega | exact absurd hb8 (by decide +kernel)
    · have hb8 : ¬ (¬ (Int32.ofInt 0).toInt = 0) := hb8
      refine ex_aload_n cg_156 (ix := 5) (pc' := 12) rfl rfl rfl ?_
      refine ex_iconst cg_156 (ix := 6) (pc' := 13) rfl rfl ?_
      refine ex_callV cg_156 (ix := 7) (pc' := 16) (As := [.inl (.int (Int32.ofInt (-1)))]) (r := []) rfl rfl rfl (ct_xref (dy := dy) (x := Int32.ofInt (-1)) (r := r) (by decide +kernel) (by decide +kernel)) (by first | decide | omega) rfl rfl rfl ⟨rfl, rfl, trivial⟩ rfl rfl (fun v h2 hq => ?_)
      obtain ⟨rfl, r2, rfl⟩ := hq
      show cx_T _ 156 _ 16 ([some (.inr (.inl 0)), some (.inl (.int x))], [.inl (.int (Int32.ofInt (-1)))], [(0, .inl (10, [.inr (.inl 1), .inr (.inl 2), .inr (.inl 15), .inr (.inl 21), .inr (.inl 43), .inr (.inl 68), .inr (.inl 77), .inr (.inl 87), .inr (.inl 101), .inr (.inl 107), .inr (.inl 113), .inl (.int dy)])), (1, .inr (.inl (0, 7, r2))), (87, .inl (0, [.inr (.inl 88), .inr (.inl 89), .inr (.inl 90), .inr (.inl 100), .inl (.int lo), .inl (.int fo), .inl (.int jc), .inl (.int us), .inl (.int kn)])), (88, .inr (.inl (0, 8, lm))), (89, .inr (.inl (0, 8, fm))), (90, .inr (.inr (.inr (3, [91, 92, 93, 94, 95, 96, 97, 98, 99])))), (91, .inr (.inl (0, 256, V 0))), (92, .inr (.inl (0, 256, V 1))), (93, .inr (.inl (0, 256, V 2))), (94, .inr (.inl (0, 256, V 3))), (95, .inr (.inl (0, 256, V 4))), (96, .inr (.inl (0, 256, V 5))), (97, .inr (.inl (0, 256, V 6))), (98, .inr (.inl (0, 256, V 7))), (99, .inr (.inl (0, 256, V 8))), (100, .inr (.inl (0, 8, fb)))]) _
      refine ex_ireturn cg_156 (ix := 8) rfl ?_
      exact ⟨_, r2, jc, us, kn, fb, V, rfl, rfl, hkn, hJ, hFB, Or.inr ⟨by omega, by decide +kernel⟩⟩
/-- what child does -/
def chA (fd m : Int32) (LN FN : Nat) (lm fm : Nat → Int32) (z : Int32) (LN2 FN2 : Nat) (lm2 fm2 : Nat → Int32) : Prop :=
  (m.toInt < 0 ∧ z.toInt = -4 ∧ LN2 = LN ∧ FN2 = FN ∧ (∀ x : Nat, x < 8 → lm2 x = lm x) ∧ ∀ x : Nat, x < 8 → fm2 x = fm x) ∨
  (¬ m.toInt < 0 ∧ 99999 < m.toInt ∧ z.toInt = -6 ∧ LN2 = LN ∧ FN2 = FN ∧ (∀ x : Nat, x < 8 → lm2 x = lm x) ∧ ∀ x : Nat, x < 8 → fm2 x = fm x) ∨
  (¬ m.toInt < 0 ∧ ¬ 99999 < m.toInt ∧ (fd.toInt = 0 ∧ LN = 8 ∨ ¬ fd.toInt = 0 ∧ FN = 8) ∧ z.toInt = -6 ∧ LN2 = LN ∧ FN2 = FN ∧ (∀ x : Nat, x < 8 → lm2 x = lm x) ∧ ∀ x : Nat, x < 8 → fm2 x = fm x) ∨
  (¬ m.toInt < 0 ∧ ¬ 99999 < m.toInt ∧ fd.toInt = 0 ∧ LN < 8 ∧ z.toInt = (LN : Int) ∧ LN2 = LN + 1 ∧ FN2 = FN ∧ (∀ x : Nat, x < 8 → lm2 x = upd lm LN m x) ∧ ∀ x : Nat, x < 8 → fm2 x = fm x) ∨
  (¬ m.toInt < 0 ∧ ¬ 99999 < m.toInt ∧ ¬ fd.toInt = 0 ∧ FN < 8 ∧ z.toInt = (FN : Int) ∧ LN2 = LN ∧ FN2 = FN + 1 ∧ (∀ x : Nat, x < 8 → lm2 x = lm x) ∧ ∀ x : Nat, x < 8 → fm2 x = upd fm FN m x)
theorem ct_csz {lo fo jc us kn : Int32} {fd : Int32} : cx_Ct 2 1 [.inr (.inl 87), .inl (.int fd)] ([(87, .inl (0, [.inr (.inl 88), .inr (.inl 89), .inr (.inl 90), .inr (.inl 100), .inl (.int lo), .inl (.int fo), .inl (.int jc), .inl (.int us), .inl (.int kn)]))]) (fun v h2 => ∃ z : Int32, v = some (.inl (.int z)) ∧ h2 = [(87, .inl (0, [.inr (.inl 88), .inr (.inl 89), .inr (.inl 90), .inr (.inl 100), .inl (.int lo), .inl (.int fo), .inl (.int jc), .inl (.int us), .inl (.int kn)]))] ∧ (fd.toInt = 0 ∧ z = lo ∨ ¬ fd.toInt = 0 ∧ z = fo)) := by
  refine cx_Ct.of cg_1 (nL := 2) rfl rfl rfl ?_
  show cx_T 2 1 [87] 0 ([some (.inr (.inl 87)), some (.inl (.int fd))], [], ([(87, .inl (0, [.inr (.inl 88), .inr (.inl 89), .inr (.inl 90), .inr (.inl 100), .inl (.int lo), .inl (.int fo), .inl (.int jc), .inl (.int us), .inl (.int kn)]))])) _
  refine ex_iload_n cg_1 (ix := 0) (pc' := 1) rfl rfl rfl ?_
  refine ex_if cg_1 (ix := 1) (t := 11) (pc' := 4) rfl rfl rfl (fun hb1 => ?_) (fun hb1 => ?_)
  · have hb1 : fd.toInt = 0 := hb1
    refine ex_aload_n cg_1 (ix := 5) (pc' := 12) rfl rfl rfl ?_
    refine ex_getfield cg_1 (ix := 6) (pc' := 15) rfl rfl rfl rfl rfl ?_
    refine ex_ireturn cg_1 (ix := 7) rfl ?_
    exact ⟨_, rfl, rfl, Or.inl ⟨by omega, rfl⟩⟩
  · have hb1 : ¬ (fd.toInt = 0) := hb1
    refine ex_aload_n cg_1 (ix := 2) (pc' := 5) rfl rfl rfl ?_
    refine ex_getfield cg_1 (ix := 3) (pc' := 8) rfl rfl rfl rfl rfl ?_
    refine ex_goto cg_1 (ix := 4) (pc' := 15) rfl rfl ?_
    refine ex_ireturn cg_1 (ix := 7) rfl ?_
    exact ⟨_, rfl, rfl, Or.inr ⟨by omega, rfl⟩⟩
theorem ct_cfl {lo fo jc us kn : Int32} {fd : Int32} {LN FN : Nat} (hlo : lo.toInt = (LN : Int)) (hL : LN ≤ 8) (hfo : fo.toInt = (FN : Int)) (hF : FN ≤ 8) : cx_Ct 3 2 [.inr (.inl 87), .inl (.int fd)] ([(87, .inl (0, [.inr (.inl 88), .inr (.inl 89), .inr (.inl 90), .inr (.inl 100), .inl (.int lo), .inl (.int fo), .inl (.int jc), .inl (.int us), .inl (.int kn)]))]) (fun v h2 => ∃ z : Int32, v = some (.inl (.int z)) ∧ h2 = [(87, .inl (0, [.inr (.inl 88), .inr (.inl 89), .inr (.inl 90), .inr (.inl 100), .inl (.int lo), .inl (.int fo), .inl (.int jc), .inl (.int us), .inl (.int kn)]))] ∧ ((fd.toInt = 0 ∧ LN = 8 ∨ ¬ fd.toInt = 0 ∧ FN = 8) ∧ z = Int32.ofInt 1 ∨ ¬ (fd.toInt = 0 ∧ LN = 8 ∨ ¬ fd.toInt = 0 ∧ FN = 8) ∧ z = Int32.ofInt 0)) := by
  have kc8 : (Int32.ofInt 8).toInt = 8 := by decide +kernel
  have kc1 : (Int32.ofInt 1).toInt = 1 := by decide +kernel
  have kc0 : (Int32.ofInt 0).toInt = 0 := by decide +kernel
  refine cx_Ct.of cg_2 (nL := 2) rfl rfl rfl ?_
  show cx_T 3 2 [87] 0 ([some (.inr (.inl 87)), some (.inl (.int fd))], [], ([(87, .inl (0, [.inr (.inl 88), .inr (.inl 89), .inr (.inl 90), .inr (.inl 100), .inl (.int lo), .inl (.int fo), .inl (.int jc), .inl (.int us), .inl (.int kn)]))])) _
  refine ex_aload_n cg_2 (ix := 0) (pc' := 1) rfl rfl rfl ?_
  refine ex_iload_n cg_2 (ix := 1) (pc' := 2) rfl rfl rfl ?_
  refine ex_callV cg_2 (ix := 2) (pc' := 5) (As := [.inl (.int fd)]) (r := []) rfl rfl rfl (ct_csz (lo := lo) (fo := fo) (jc := jc) (us := us) (kn := kn) (fd := fd)) (by first | decide | omega) rfl rfl rfl ⟨rfl, trivial⟩ rfl rfl (fun v h2 hq => ?_)
  obtain ⟨z, rfl, rfl, hz⟩ := hq
  show cx_T _ 2 _ 5 ([some (.inr (.inl 87)), some (.inl (.int fd))], [.inl (.int z)], [(87, .inl (0, [.inr (.inl 88), .inr (.inl 89), .inr (.inl 90), .inr (.inl 100), .inl (.int lo), .inl (.int fo), .inl (.int jc), .inl (.int us), .inl (.int kn)]))]) _
  refine ex_bipush cg_2 (ix := 3) (pc' := 7) rfl rfl rfl ?_
  refine ex_icmp cg_2 (ix := 4) (t := 14) (pc' := 10) rfl rfl rfl (fun hb7 => ?_) (fun hb7 => ?_)
  · have hb7 : z.toInt < (Int32.ofInt 8).toInt := hb7
    refine ex_iconst cg_2 (ix := 7) (pc' := 15) rfl rfl ?_
    refine ex_zreturn cg_2 (ix := 8) rfl (by first | exact Or.inl rfl | exact Or.inr rfl | (first | exact Or.inr rfl | exact Or.inl rfl)) ?_
    rcases hz with ⟨hz, rfl⟩ | ⟨hz, rfl⟩
    · exact ⟨_, rfl, rfl, Or.inr ⟨by omega, rfl⟩⟩
    · exact ⟨_, rfl, rfl, Or.inr ⟨by omega, rfl⟩⟩
  · have hb7 : ¬ (z.toInt < (Int32.ofInt 8).toInt) := hb7
    refine ex_iconst cg_2 (ix := 5) (pc' := 11) rfl rfl ?_
    refine ex_goto cg_2 (ix := 6) (pc' := 15) rfl rfl ?_
    refine ex_zreturn cg_2 (ix := 8) rfl (by first | exact Or.inl rfl | exact Or.inr rfl | (first | exact Or.inr rfl | exact Or.inl rfl)) ?_
    rcases hz with ⟨hz, rfl⟩ | ⟨hz, rfl⟩
    · exact ⟨_, rfl, rfl, Or.inl ⟨by omega, rfl⟩⟩
    · exact ⟨_, rfl, rfl, Or.inl ⟨by omega, rfl⟩⟩
theorem ct_cad {lo fo jc us kn : Int32} {fd m : Int32} {LN FN : Nat} {lm fm : Nat → Int32} (hlo : lo.toInt = (LN : Int)) (hL : LN ≤ 8) (hfo : fo.toInt = (FN : Int)) (hF : FN ≤ 8) (hfull : ¬ (fd.toInt = 0 ∧ LN = 8 ∨ ¬ fd.toInt = 0 ∧ FN = 8)) : cx_Ct 2 3 [.inr (.inl 87), .inl (.int fd), .inl (.int m)] ([(87, .inl (0, [.inr (.inl 88), .inr (.inl 89), .inr (.inl 90), .inr (.inl 100), .inl (.int lo), .inl (.int fo), .inl (.int jc), .inl (.int us), .inl (.int kn)])), (88, .inr (.inl (0, 8, lm))), (89, .inr (.inl (0, 8, fm)))]) (fun v h2 => ∃ (z lo2 fo2 : Int32) (lm2 fm2 : Nat → Int32), v = some (.inl (.int z)) ∧ h2 = [(87, .inl (0, [.inr (.inl 88), .inr (.inl 89), .inr (.inl 90), .inr (.inl 100), .inl (.int lo2), .inl (.int fo2), .inl (.int jc), .inl (.int us), .inl (.int (Int32.ofInt 0))])), (88, .inr (.inl (0, 8, lm2))), (89, .inr (.inl (0, 8, fm2)))] ∧ (fd.toInt = 0 ∧ z.toInt = (LN : Int) ∧ lo2.toInt = ((LN + 1 : Nat) : Int) ∧ fo2 = fo ∧ lm2 = upd lm LN m ∧ fm2 = fm ∨ ¬ fd.toInt = 0 ∧ z.toInt = (FN : Int) ∧ lo2 = lo ∧ fo2.toInt = ((FN + 1 : Nat) : Int) ∧ lm2 = lm ∧ fm2 = upd fm FN m)) := by
  have kc0 : (Int32.ofInt 0).toInt = 0 := by decide +kernel
  have kc1 : (Int32.ofInt 1).toInt = 1 := by decide +kernel
  have hf1 : (fo + Int32.ofInt 1).toInt = fo.toInt + 1 := by rw [cx_addc (by omega) (by omega)]; omega
  have hl1 : (lo + Int32.ofInt 1).toInt = lo.toInt + 1 := by rw [cx_addc (by omega) (by omega)]; omega
  refine cx_Ct.of cg_3 (nL := 3) rfl rfl rfl ?_
  show cx_T 2 3 [87, 88, 89] 0 ([some (.inr (.inl 87)), some (.inl (.int fd)), some (.inl (.int m))], [], [(87, .inl (0, [.inr (.inl 88), .inr (.inl 89), .inr (.inl 90), .inr (.inl 100), .inl (.int lo), .inl (.int fo), .inl (.int jc), .inl (.int us), .inl (.int kn)])), (88, .inr (.inl (0, 8, lm))), (89, .inr (.inl (0, 8, fm)))]) _
  refine ex_aload_n cg_3 (ix := 0) (pc' := 1) rfl rfl rfl ?_
  refine ex_iconst cg_3 (ix := 1) (pc' := 2) rfl rfl ?_
  refine ex_putfield cg_3 (ix := 2) (pc' := 5) (h' := [(87, .inl (0, [.inr (.inl 88), .inr (.inl 89), .inr (.inl 90), .inr (.inl 100), .inl (.int lo), .inl (.int fo), .inl (.int jc), .inl (.int us), .inl (.int (Int32.ofInt 0))])), (88, .inr (.inl (0, 8, lm))), (89, .inr (.inl (0, 8, fm)))]) rfl rfl rfl rfl rfl rfl rfl rfl ?_
  refine ex_iload_n cg_3 (ix := 3) (pc' := 6) rfl rfl rfl ?_
  refine ex_if cg_3 (ix := 4) (t := 36) (pc' := 9) rfl rfl rfl (fun hb6 => ?_) (fun hb6 => ?_)
  · have hb6 : fd.toInt = 0 := hb6
    refine ex_aload_n cg_3 (ix := 22) (pc' := 37) rfl rfl rfl ?_
    refine ex_getfield cg_3 (ix := 23) (pc' := 40) rfl rfl rfl rfl rfl ?_
    refine ex_aload_n cg_3 (ix := 24) (pc' := 41) rfl rfl rfl ?_
    refine ex_getfield cg_3 (ix := 25) (pc' := 44) rfl rfl rfl rfl rfl ?_
    refine ex_iload_n cg_3 (ix := 26) (pc' := 45) rfl rfl rfl ?_
    refine ex_iastore cg_3 (ix := 27) (pc' := 46) (h' := [(87, .inl (0, [.inr (.inl 88), .inr (.inl 89), .inr (.inl 90), .inr (.inl 100), .inl (.int lo), .inl (.int fo), .inl (.int jc), .inl (.int us), .inl (.int (Int32.ofInt 0))])), (88, .inr (.inl (0, 8, upd lm lo.toNatClampNeg m))), (89, .inr (.inl (0, 8, fm)))]) rfl rfl (by omega) (by omega) rfl rfl ?_
    refine ex_aload_n cg_3 (ix := 28) (pc' := 47) rfl rfl rfl ?_
    refine ex_dup cg_3 (ix := 29) (pc' := 48) rfl rfl rfl ?_
    refine ex_getfield cg_3 (ix := 30) (pc' := 51) rfl rfl rfl rfl rfl ?_
    refine ex_iconst cg_3 (ix := 31) (pc' := 52) rfl rfl ?_
    refine ex_iadd cg_3 (ix := 32) (pc' := 53) rfl rfl ?_
    refine ex_putfield cg_3 (ix := 33) (pc' := 56) (h' := [(87, .inl (0, [.inr (.inl 88), .inr (.inl 89), .inr (.inl 90), .inr (.inl 100), .inl (.int (lo + (Int32.ofInt 1))), .inl (.int fo), .inl (.int jc), .inl (.int us), .inl (.int (Int32.ofInt 0))])), (88, .inr (.inl (0, 8, upd lm lo.toNatClampNeg m))), (89, .inr (.inl (0, 8, fm)))]) rfl rfl rfl rfl rfl rfl rfl rfl ?_
    refine ex_aload_n cg_3 (ix := 34) (pc' := 57) rfl rfl rfl ?_
    refine ex_getfield cg_3 (ix := 35) (pc' := 60) rfl rfl rfl rfl rfl ?_
    refine ex_iconst cg_3 (ix := 36) (pc' := 61) rfl rfl ?_
    refine ex_isub cg_3 (ix := 37) (pc' := 62) rfl rfl ?_
    refine ex_ireturn cg_3 (ix := 38) rfl ?_
    refine ⟨_, _, fo, _, fm, rfl, rfl, Or.inl ⟨by omega, by rw [cx_subc (by rw [hl1]; omega) (by rw [hl1]; omega), hl1]; omega, by rw [hl1]; omega, rfl, by rw [cx_clamp hlo], rfl⟩⟩
  · have hb6 : ¬ (fd.toInt = 0) := hb6
    refine ex_aload_n cg_3 (ix := 5) (pc' := 10) rfl rfl rfl ?_
    refine ex_getfield cg_3 (ix := 6) (pc' := 13) rfl rfl rfl rfl rfl ?_
    refine ex_aload_n cg_3 (ix := 7) (pc' := 14) rfl rfl rfl ?_
    refine ex_getfield cg_3 (ix := 8) (pc' := 17) rfl rfl rfl rfl rfl ?_
    refine ex_iload_n cg_3 (ix := 9) (pc' := 18) rfl rfl rfl ?_
    refine ex_iastore cg_3 (ix := 10) (pc' := 19) (h' := [(87, .inl (0, [.inr (.inl 88), .inr (.inl 89), .inr (.inl 90), .inr (.inl 100), .inl (.int lo), .inl (.int fo), .inl (.int jc), .inl (.int us), .inl (.int (Int32.ofInt 0))])), (88, .inr (.inl (0, 8, lm))), (89, .inr (.inl (0, 8, upd fm fo.toNatClampNeg m)))]) rfl rfl (by omega) (by omega) rfl rfl ?_
    refine ex_aload_n cg_3 (ix := 11) (pc' := 20) rfl rfl rfl ?_
    refine ex_dup cg_3 (ix := 12) (pc' := 21) rfl rfl rfl ?_
    refine ex_getfield cg_3 (ix := 13) (pc' := 24) rfl rfl rfl rfl rfl ?_
    refine ex_iconst cg_3 (ix := 14) (pc' := 25) rfl rfl ?_
    refine ex_iadd cg_3 (ix := 15) (pc' := 26) rfl rfl ?_
    refine ex_putfield cg_3 (ix := 16) (pc' := 29) (h' := [(87, .inl (0, [.inr (.inl 88), .inr (.inl 89), .inr (.inl 90), .inr (.inl 100), .inl (.int lo), .inl (.int (fo + (Int32.ofInt 1))), .inl (.int jc), .inl (.int us), .inl (.int (Int32.ofInt 0))])), (88, .inr (.inl (0, 8, lm))), (89, .inr (.inl (0, 8, upd fm fo.toNatClampNeg m)))]) rfl rfl rfl rfl rfl rfl rfl rfl ?_
    refine ex_aload_n cg_3 (ix := 17) (pc' := 30) rfl rfl rfl ?_
    refine ex_getfield cg_3 (ix := 18) (pc' := 33) rfl rfl rfl rfl rfl ?_
    refine ex_iconst cg_3 (ix := 19) (pc' := 34) rfl rfl ?_
    refine ex_isub cg_3 (ix := 20) (pc' := 35) rfl rfl ?_
    refine ex_ireturn cg_3 (ix := 21) rfl ?_
    refine ⟨_, lo, _, lm, _, rfl, rfl, Or.inr ⟨by omega, by rw [cx_subc (by rw [hf1]; omega) (by rw [hf1]; omega), hf1]; omega, rfl, by rw [hf1]; omega, rfl, by rw [cx_clamp hfo]⟩⟩
def h_xh (dy : Int32) (r : Nat → Int32) (lo fo jc us kn : Int32) (lm fm : Nat → Int32) : cx_H := [(0, .inl (10, [.inr (.inl 1), .inr (.inl 2), .inr (.inl 15), .inr (.inl 21), .inr (.inl 43), .inr (.inl 68), .inr (.inl 77), .inr (.inl 87), .inr (.inl 101), .inr (.inl 107), .inr (.inl 113), .inl (.int dy)])), (1, .inr (.inl (0, 7, r))), (87, .inl (0, [.inr (.inl 88), .inr (.inl 89), .inr (.inl 90), .inr (.inl 100), .inl (.int lo), .inl (.int fo), .inl (.int jc), .inl (.int us), .inl (.int kn)])), (88, .inr (.inl (0, 8, lm))), (89, .inr (.inl (0, 8, fm)))]
theorem ct_child {dy : Int32} {r : Nat → Int32} {lo fo jc us kn : Int32} {fd m : Int32} {LN FN : Nat} {lm fm : Nat → Int32} (hlo : lo.toInt = (LN : Int)) (hL : LN ≤ 8) (hfo : fo.toInt = (FN : Int)) (hF : FN ≤ 8) : cx_Ct 4 153 [.inr (.inl 0), .inl (.int fd), .inl (.int m)] (h_xh dy r lo fo jc us kn lm fm) (fun v h2 => ∃ (z : Int32) (r2 : Nat → Int32) (lo2 fo2 kn2 : Int32) (lm2 fm2 : Nat → Int32) (LN2 FN2 : Nat), v = some (.inl (.int z)) ∧ h2 = h_xh dy r2 lo2 fo2 jc us kn2 lm2 fm2 ∧ lo2.toInt = (LN2 : Int) ∧ fo2.toInt = (FN2 : Int) ∧ (kn2 = Int32.ofInt 0 ∨ kn2 = kn ∧ LN2 = LN ∧ FN2 = FN ∧ lm2 = lm ∧ fm2 = fm) ∧ chA fd m LN FN lm fm z LN2 FN2 lm2 fm2) := by
  have kcm6 : (Int32.ofInt (-6)).toInt = -6 := by decide +kernel
  have kcm4 : (Int32.ofInt (-4)).toInt = -4 := by decide +kernel
  have kc0 : (Int32.ofInt 0).toInt = 0 := by decide +kernel
  have kc1 : (Int32.ofInt 1).toInt = 1 := by decide +kernel
  have kc8 : (Int32.ofInt 8).toInt = 8 := by decide +kernel
  have kc99999 : (Int32.ofInt 99999).toInt = 99999 := by decide +kernel
  refine cx_Ct.of cg_153 (nL := 4) rfl rfl rfl ?_
  show cx_T 4 153 [0, 1, 87, 88, 89] 0 ([some (.inr (.inl 0)), some (.inl (.int fd)), some (.inl (.int m)), none], [], h_xh dy r lo fo jc us kn lm fm) _
  refine ex_iload_n cg_153 (ix := 0) (pc' := 1) rfl rfl rfl ?_
  refine ex_iconst cg_153 (ix := 1) (pc' := 2) rfl rfl ?_
  refine ex_ldc_w cg_153 (ix := 2) (pc' := 5) rfl rfl rfl ?_
  refine ex_callS cg_153 (ix := 3) (pc' := 8) (As := [.inl (.int m), .inl (.int (Int32.ofInt 0)), .inl (.int (Int32.ofInt 99999))]) (r := []) rfl rfl rfl (ct_out (x := m) (a := Int32.ofInt 0) (b := Int32.ofInt 99999)) (by first | decide | omega) rfl rfl trivial rfl rfl (fun v h2 hq => ?_)
  obtain ⟨z, rfl, rfl, hz3⟩ := hq
  rcases hz3 with ⟨hz3, rfl⟩ | ⟨hz3, hz4, rfl⟩ | ⟨hz3, hz4, rfl⟩
  · show cx_T _ 153 _ 8 ([some (.inr (.inl 0)), some (.inl (.int fd)), some (.inl (.int m)), none], [.inl (.int (Int32.ofInt (-4)))], [(0, .inl (10, [.inr (.inl 1), .inr (.inl 2), .inr (.inl 15), .inr (.inl 21), .inr (.inl 43), .inr (.inl 68), .inr (.inl 77), .inr (.inl 87), .inr (.inl 101), .inr (.inl 107), .inr (.inl 113), .inl (.int dy)])), (1, .inr (.inl (0, 7, r))), (87, .inl (0, [.inr (.inl 88), .inr (.inl 89), .inr (.inl 90), .inr (.inl 100), .inl (.int lo), .inl (.int fo), .inl (.int jc), .inl (.int us), .inl (.int kn)])), (88, .inr (.inl (0, 8, lm))), (89, .inr (.inl (0, 8, fm)))]) _
    refine ex_istore_n cg_153 (ix := 4) (pc' := 9) (L' := [some (.inr (.inl 0)), some (.inl (.int fd)), some (.inl (.int m)), some (.inl (.int (Int32.ofInt (-4))))]) rfl rfl rfl rfl ?_
    refine ex_iload_n cg_153 (ix := 5) (pc' := 10) rfl rfl rfl ?_
    refine ex_if cg_153 (ix := 6) (t := 27) (pc' := 13) rfl rfl rfl (fun hb10 => ?_) (fun hb10 => ?_)
    · have hb10 : ¬ (Int32.ofInt (-4)).toInt = 0 := hb10
      refine ex_iload_n cg_153 (ix := 14) (pc' := 28) rfl rfl rfl ?_
      refine ex_if cg_153 (ix := 15) (t := 39) (pc' := 31) rfl rfl rfl (fun hb28 => ?_) (fun hb28 => ?_)
      · have hb28 : (Int32.ofInt (-4)).toInt = 0 := hb28
        exfalso; first | omega | exact absurd hb28 (by decide +kernel)
      · have hb28 : ¬ ((Int32.ofInt (-4)).toInt = 0) := hb28
        refine ex_aload_n cg_153 (ix := 16) (pc' := 32) rfl rfl rfl ?_
        refine ex_iload_n cg_153 (ix := 17) (pc' := 33) rfl rfl rfl ?_
        refine ex_callV cg_153 (ix := 18) (pc' := 36) (As := [.inl (.int (Int32.ofInt (-4)))]) (r := []) rfl rfl rfl (ct_xref (dy := dy) (x := Int32.ofInt (-4)) (r := r) (by decide +kernel) (by decide +kernel)) (by first | decide | omega) rfl rfl rfl ⟨rfl, rfl, trivial⟩ rfl rfl (fun v h2 hq => ?_)
        obtain ⟨rfl, r2, rfl⟩ := hq
        show cx_T _ 153 _ 36 ([some (.inr (.inl 0)), some (.inl (.int fd)), some (.inl (.int m)), some (.inl (.int (Int32.ofInt (-4))))], [.inl (.int (Int32.ofInt (-4)))], [(0, .inl (10, [.inr (.inl 1), .inr (.inl 2), .inr (.inl 15), .inr (.inl 21), .inr (.inl 43), .inr (.inl 68), .inr (.inl 77), .inr (.inl 87), .inr (.inl 101), .inr (.inl 107), .inr (.inl 113), .inl (.int dy)])), (1, .inr (.inl (0, 7, r2))), (87, .inl (0, [.inr (.inl 88), .inr (.inl 89), .inr (.inl 90), .inr (.inl 100), .inl (.int lo), .inl (.int fo), .inl (.int jc), .inl (.int us), .inl (.int kn)])), (88, .inr (.inl (0, 8, lm))), (89, .inr (.inl (0, 8, fm)))]) _
        refine ex_goto cg_153 (ix := 19) (pc' := 48) rfl rfl ?_
        refine ex_ireturn cg_153 (ix := 25) rfl ?_
        exact ⟨_, r2, lo, fo, kn, lm, fm, LN, FN, rfl, rfl, hlo, hfo, Or.inr ⟨rfl, rfl, rfl, rfl, rfl⟩, Or.inl ⟨by omega, by decide +kernel, rfl, rfl, fun _ _ => rfl, fun _ _ => rfl⟩⟩
    · have hb10 : ¬ (¬ (Int32.ofInt (-4)).toInt = 0) := hb10
      exfalso; first | omega | exact absurd hb10 (by decide +kernel)
  · show cx_T _ 153 _ 8 ([some (.inr (.inl 0)), some (.inl (.int fd)), some (.inl (.int m)), none], [.inl (.int (Int32.ofInt (-6)))], [(0, .inl (10, [.inr (.inl 1), .inr (.inl 2), .inr (.inl 15), .inr (.inl 21), .inr (.inl 43), .inr (.inl 68), .inr (.inl 77), .inr (.inl 87), .inr (.inl 101), .inr (.inl 107), .inr (.inl 113), .inl (.int dy)])), (1, .inr (.inl (0, 7, r))), (87, .inl (0, [.inr (.inl 88), .inr (.inl 89), .inr (.inl 90), .inr (.inl 100), .inl (.int lo), .inl (.int fo), .inl (.int jc), .inl (.int us), .inl (.int kn)])), (88, .inr (.inl (0, 8, lm))), (89, .inr (.inl (0, 8, fm)))]) _
    refine ex_istore_n cg_153 (ix := 4) (pc' := 9) (L' := [some (.inr (.inl 0)), some (.inl (.int fd)), some (.inl (.int m)), some (.inl (.int (Int32.ofInt (-6))))]) rfl rfl rfl rfl ?_
    refine ex_iload_n cg_153 (ix := 5) (pc' := 10) rfl rfl rfl ?_
    refine ex_if cg_153 (ix := 6) (t := 27) (pc' := 13) rfl rfl rfl (fun hb10 => ?_) (fun hb10 => ?_)
    · have hb10 : ¬ (Int32.ofInt (-6)).toInt = 0 := hb10
      refine ex_iload_n cg_153 (ix := 14) (pc' := 28) rfl rfl rfl ?_
      refine ex_if cg_153 (ix := 15) (t := 39) (pc' := 31) rfl rfl rfl (fun hb28 => ?_) (fun hb28 => ?_)
      · have hb28 : (Int32.ofInt (-6)).toInt = 0 := hb28
        exfalso; first | omega | exact absurd hb28 (by decide +kernel)
      · have hb28 : ¬ ((Int32.ofInt (-6)).toInt = 0) := hb28
        refine ex_aload_n cg_153 (ix := 16) (pc' := 32) rfl rfl rfl ?_
        refine ex_iload_n cg_153 (ix := 17) (pc' := 33) rfl rfl rfl ?_
        refine ex_callV cg_153 (ix := 18) (pc' := 36) (As := [.inl (.int (Int32.ofInt (-6)))]) (r := []) rfl rfl rfl (ct_xref (dy := dy) (x := Int32.ofInt (-6)) (r := r) (by decide +kernel) (by decide +kernel)) (by first | decide | omega) rfl rfl rfl ⟨rfl, rfl, trivial⟩ rfl rfl (fun v h2 hq => ?_)
        obtain ⟨rfl, r2, rfl⟩ := hq
        show cx_T _ 153 _ 36 ([some (.inr (.inl 0)), some (.inl (.int fd)), some (.inl (.int m)), some (.inl (.int (Int32.ofInt (-6))))], [.inl (.int (Int32.ofInt (-6)))], [(0, .inl (10, [.inr (.inl 1), .inr (.inl 2), .inr (.inl 15), .inr (.inl 21), .inr (.inl 43), .inr (.inl 68), .inr (.inl 77), .inr (.inl 87), .inr (.inl 101), .inr (.inl 107), .inr (.inl 113), .inl (.int dy)])), (1, .inr (.inl (0, 7, r2))), (87, .inl (0, [.inr (.inl 88), .inr (.inl 89), .inr (.inl 90), .inr (.inl 100), .inl (.int lo), .inl (.int fo), .inl (.int jc), .inl (.int us), .inl (.int kn)])), (88, .inr (.inl (0, 8, lm))), (89, .inr (.inl (0, 8, fm)))]) _
        refine ex_goto cg_153 (ix := 19) (pc' := 48) rfl rfl ?_
        refine ex_ireturn cg_153 (ix := 25) rfl ?_
        first | exact ⟨_, r2, lo, fo, kn, lm, fm, LN, FN, rfl, rfl, hlo, hfo, Or.inr ⟨rfl, rfl, rfl, rfl, rfl⟩, Or.inr (Or.inl ⟨by omega, by omega, by decide +kernel, rfl, rfl, fun _ _ => rfl, fun _ _ => rfl⟩)⟩ | exact ⟨_, r2, lo, fo, kn, lm, fm, LN, FN, rfl, rfl, hlo, hfo, Or.inr ⟨rfl, rfl, rfl, rfl, rfl⟩, Or.inr (Or.inr (Or.inl ⟨by omega, by omega, hz7, by decide +kernel, rfl, rfl, fun _ _ => rfl, fun _ _ => rfl⟩))⟩
    · have hb10 : ¬ (¬ (Int32.ofInt (-6)).toInt = 0) := hb10
      exfalso; first | omega | exact absurd hb10 (by decide +kernel)
  · show cx_T _ 153 _ 8 ([some (.inr (.inl 0)), some (.inl (.int fd)), some (.inl (.int m)), none], [.inl (.int (Int32.ofInt 0))], [(0, .inl (10, [.inr (.inl 1), .inr (.inl 2), .inr (.inl 15), .inr (.inl 21), .inr (.inl 43), .inr (.inl 68), .inr (.inl 77), .inr (.inl 87), .inr (.inl 101), .inr (.inl 107), .inr (.inl 113), .inl (.int dy)])), (1, .inr (.inl (0, 7, r))), (87, .inl (0, [.inr (.inl 88), .inr (.inl 89), .inr (.inl 90), .inr (.inl 100), .inl (.int lo), .inl (.int fo), .inl (.int jc), .inl (.int us), .inl (.int kn)])), (88, .inr (.inl (0, 8, lm))), (89, .inr (.inl (0, 8, fm)))]) _
    refine ex_istore_n cg_153 (ix := 4) (pc' := 9) (L' := [some (.inr (.inl 0)), some (.inl (.int fd)), some (.inl (.int m)), some (.inl (.int (Int32.ofInt 0)))]) rfl rfl rfl rfl ?_
    refine ex_iload_n cg_153 (ix := 5) (pc' := 10) rfl rfl rfl ?_
    refine ex_if cg_153 (ix := 6) (t := 27) (pc' := 13) rfl rfl rfl (fun hb10 => ?_) (fun hb10 => ?_)
    · have hb10 : ¬ (Int32.ofInt 0).toInt = 0 := hb10
      exfalso; first | omega | exact absurd hb10 (by decide +kernel)
    · have hb10 : ¬ (¬ (Int32.ofInt 0).toInt = 0) := hb10
      refine ex_aload_n cg_153 (ix := 7) (pc' := 14) rfl rfl rfl ?_
      refine ex_getfield cg_153 (ix := 8) (pc' := 17) rfl rfl rfl rfl rfl ?_
      refine ex_iload_n cg_153 (ix := 9) (pc' := 18) rfl rfl rfl ?_
      refine ex_callV cg_153 (ix := 10) (pc' := 21) (As := [.inl (.int fd)]) (r := []) rfl rfl rfl (ct_cfl (lo := lo) (fo := fo) (jc := jc) (us := us) (kn := kn) (fd := fd) (LN := LN) (FN := FN) hlo hL hfo hF) (by first | decide | omega) rfl rfl rfl ⟨rfl, trivial⟩ rfl rfl (fun v h2 hq => ?_)
      obtain ⟨z, rfl, rfl, hz7⟩ := hq
      rcases hz7 with ⟨hz7, rfl⟩ | ⟨hz7, rfl⟩
      · show cx_T _ 153 _ 21 ([some (.inr (.inl 0)), some (.inl (.int fd)), some (.inl (.int m)), some (.inl (.int (Int32.ofInt 0)))], [.inl (.int (Int32.ofInt 1))], [(0, .inl (10, [.inr (.inl 1), .inr (.inl 2), .inr (.inl 15), .inr (.inl 21), .inr (.inl 43), .inr (.inl 68), .inr (.inl 77), .inr (.inl 87), .inr (.inl 101), .inr (.inl 107), .inr (.inl 113), .inl (.int dy)])), (1, .inr (.inl (0, 7, r))), (87, .inl (0, [.inr (.inl 88), .inr (.inl 89), .inr (.inl 90), .inr (.inl 100), .inl (.int lo), .inl (.int fo), .inl (.int jc), .inl (.int us), .inl (.int kn)])), (88, .inr (.inl (0, 8, lm))), (89, .inr (.inl (0, 8, fm)))]) _
        refine ex_if cg_153 (ix := 11) (t := 27) (pc' := 24) rfl rfl rfl (fun hb21 => ?_) (fun hb21 => ?_)
        · have hb21 : (Int32.ofInt 1).toInt = 0 := hb21
          exfalso; first | omega | exact absurd hb21 (by decide +kernel)
        · have hb21 : ¬ ((Int32.ofInt 1).toInt = 0) := hb21
          refine ex_bipush cg_153 (ix := 12) (pc' := 26) rfl rfl rfl ?_
          refine ex_istore_n cg_153 (ix := 13) (pc' := 27) (L' := [some (.inr (.inl 0)), some (.inl (.int fd)), some (.inl (.int m)), some (.inl (.int (Int32.ofInt (-6))))]) rfl rfl rfl rfl ?_
          refine ex_iload_n cg_153 (ix := 14) (pc' := 28) rfl rfl rfl ?_
          refine ex_if cg_153 (ix := 15) (t := 39) (pc' := 31) rfl rfl rfl (fun hb28 => ?_) (fun hb28 => ?_)
          · have hb28 : (Int32.ofInt (-6)).toInt = 0 := hb28
            exfalso; first | omega | exact absurd hb28 (by decide +kernel)
          · have hb28 : ¬ ((Int32.ofInt (-6)).toInt = 0) := hb28
            refine ex_aload_n cg_153 (ix := 16) (pc' := 32) rfl rfl rfl ?_
            refine ex_iload_n cg_153 (ix := 17) (pc' := 33) rfl rfl rfl ?_
            refine ex_callV cg_153 (ix := 18) (pc' := 36) (As := [.inl (.int (Int32.ofInt (-6)))]) (r := []) rfl rfl rfl (ct_xref (dy := dy) (x := Int32.ofInt (-6)) (r := r) (by decide +kernel) (by decide +kernel)) (by first | decide | omega) rfl rfl rfl ⟨rfl, rfl, trivial⟩ rfl rfl (fun v h2 hq => ?_)
            obtain ⟨rfl, r2, rfl⟩ := hq
            show cx_T _ 153 _ 36 ([some (.inr (.inl 0)), some (.inl (.int fd)), some (.inl (.int m)), some (.inl (.int (Int32.ofInt (-6))))], [.inl (.int (Int32.ofInt (-6)))], [(0, .inl (10, [.inr (.inl 1), .inr (.inl 2), .inr (.inl 15), .inr (.inl 21), .inr (.inl 43), .inr (.inl 68), .inr (.inl 77), .inr (.inl 87), .inr (.inl 101), .inr (.inl 107), .inr (.inl 113), .inl (.int dy)])), (1, .inr (.inl (0, 7, r2))), (87, .inl (0, [.inr (.inl 88), .inr (.inl 89), .inr (.inl 90), .inr (.inl 100), .inl (.int lo), .inl (.int fo), .inl (.int jc), .inl (.int us), .inl (.int kn)])), (88, .inr (.inl (0, 8, lm))), (89, .inr (.inl (0, 8, fm)))]) _
            refine ex_goto cg_153 (ix := 19) (pc' := 48) rfl rfl ?_
            refine ex_ireturn cg_153 (ix := 25) rfl ?_
            first | exact ⟨_, r2, lo, fo, kn, lm, fm, LN, FN, rfl, rfl, hlo, hfo, Or.inr ⟨rfl, rfl, rfl, rfl, rfl⟩, Or.inr (Or.inl ⟨by omega, by omega, by decide +kernel, rfl, rfl, fun _ _ => rfl, fun _ _ => rfl⟩)⟩ | exact ⟨_, r2, lo, fo, kn, lm, fm, LN, FN, rfl, rfl, hlo, hfo, Or.inr ⟨rfl, rfl, rfl, rfl, rfl⟩, Or.inr (Or.inr (Or.inl ⟨by omega, by omega, hz7, by decide +kernel, rfl, rfl, fun _ _ => rfl, fun _ _ => rfl⟩))⟩
      · show cx_T _ 153 _ 21 ([some (.inr (.inl 0)), some (.inl (.int fd)), some (.inl (.int m)), some (.inl (.int (Int32.ofInt 0)))], [.inl (.int (Int32.ofInt 0))], [(0, .inl (10, [.inr (.inl 1), .inr (.inl 2), .inr (.inl 15), .inr (.inl 21), .inr (.inl 43), .inr (.inl 68), .inr (.inl 77), .inr (.inl 87), .inr (.inl 101), .inr (.inl 107), .inr (.inl 113), .inl (.int dy)])), (1, .inr (.inl (0, 7, r))), (87, .inl (0, [.inr (.inl 88), .inr (.inl 89), .inr (.inl 90), .inr (.inl 100), .inl (.int lo), .inl (.int fo), .inl (.int jc), .inl (.int us), .inl (.int kn)])), (88, .inr (.inl (0, 8, lm))), (89, .inr (.inl (0, 8, fm)))]) _
        refine ex_if cg_153 (ix := 11) (t := 27) (pc' := 24) rfl rfl rfl (fun hb21 => ?_) (fun hb21 => ?_)
        · have hb21 : (Int32.ofInt 0).toInt = 0 := hb21
          refine ex_iload_n cg_153 (ix := 14) (pc' := 28) rfl rfl rfl ?_
          refine ex_if cg_153 (ix := 15) (t := 39) (pc' := 31) rfl rfl rfl (fun hb28 => ?_) (fun hb28 => ?_)
          · have hb28 : (Int32.ofInt 0).toInt = 0 := hb28
            refine ex_aload_n cg_153 (ix := 20) (pc' := 40) rfl rfl rfl ?_
            refine ex_getfield cg_153 (ix := 21) (pc' := 43) rfl rfl rfl rfl rfl ?_
            refine ex_iload_n cg_153 (ix := 22) (pc' := 44) rfl rfl rfl ?_
            refine ex_iload_n cg_153 (ix := 23) (pc' := 45) rfl rfl rfl ?_
            refine ex_callV cg_153 (ix := 24) (pc' := 48) (As := [.inl (.int fd), .inl (.int m)]) (r := []) rfl rfl rfl (ct_cad (lo := lo) (fo := fo) (jc := jc) (us := us) (kn := kn) (lm := lm) (fm := fm) (fd := fd) (m := m) (LN := LN) (FN := FN) hlo hL hfo hF hz7) (by first | decide | omega) rfl rfl rfl ⟨rfl, rfl, rfl, trivial⟩ rfl rfl (fun v h2 hq => ?_)
            obtain ⟨z, lo2, fo2, lm2, fm2, rfl, rfl, hz8⟩ := hq
            show cx_T _ 153 _ 48 ([some (.inr (.inl 0)), some (.inl (.int fd)), some (.inl (.int m)), some (.inl (.int (Int32.ofInt 0)))], [.inl (.int z)], [(0, .inl (10, [.inr (.inl 1), .inr (.inl 2), .inr (.inl 15), .inr (.inl 21), .inr (.inl 43), .inr (.inl 68), .inr (.inl 77), .inr (.inl 87), .inr (.inl 101), .inr (.inl 107), .inr (.inl 113), .inl (.int dy)])), (1, .inr (.inl (0, 7, r))), (87, .inl (0, [.inr (.inl 88), .inr (.inl 89), .inr (.inl 90), .inr (.inl 100), .inl (.int lo2), .inl (.int fo2), .inl (.int jc), .inl (.int us), .inl (.int (Int32.ofInt 0))])), (88, .inr (.inl (0, 8, lm2))), (89, .inr (.inl (0, 8, fm2)))]) _
            refine ex_ireturn cg_153 (ix := 25) rfl ?_
            rcases hz8 with ⟨a1, a2, a3, rfl, rfl, rfl⟩ | ⟨a1, a2, rfl, a3, rfl, rfl⟩
            · exact ⟨z, r, lo2, fo2, _, _, fm2, LN + 1, FN, rfl, rfl, a3, hfo, Or.inl rfl, Or.inr (Or.inr (Or.inr (Or.inl ⟨by omega, by omega, a1, by omega, a2, rfl, rfl, fun _ _ => rfl, fun _ _ => rfl⟩)))⟩
            · exact ⟨z, r, lo2, fo2, _, lm2, _, LN, FN + 1, rfl, rfl, hlo, a3, Or.inl rfl, Or.inr (Or.inr (Or.inr (Or.inr ⟨by omega, by omega, a1, by omega, a2, rfl, rfl, fun _ _ => rfl, fun _ _ => rfl⟩)))⟩
          · have hb28 : ¬ ((Int32.ofInt 0).toInt = 0) := hb28
            exfalso; first | omega | exact absurd hb28 (by decide +kernel)
        · have hb21 : ¬ ((Int32.ofInt 0).toInt = 0) := hb21
          exfalso; first | omega | exact absurd hb21 (by decide +kernel)
end
