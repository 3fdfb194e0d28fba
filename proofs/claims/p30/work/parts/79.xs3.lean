noncomputable section
theorem cpy_i {f g : Nat → Int32} {n x : Nat} (hx : x < n) : va_cpy f g 0 0 n x = f x := by
  unfold va_cpy
  rw [if_pos ⟨Nat.zero_le _, by omega⟩, Nat.zero_add, Nat.sub_zero]
/-- the rows of worths from m on are made -/
def wMd (lm fm : Nat → Int32) (LN FN : Nat) (V : Nat → Nat → Int32) (m : Nat) : Prop := ∀ j s : Nat, m ≤ j → j ≤ LN → s < 2 ^ FN → (V j s).toInt = jW 64 (uN lm fm) FN LN (LN - j) s
theorem wMd_b {lm fm : Nat → Int32} {LN FN m : Nat} {V : Nat → Nat → Int32} (hL : LN ≤ 8) (h : wMd lm fm LN FN V m) {j s : Nat} (h1 : m ≤ j) (h2 : j ≤ LN) (h3 : s < 2 ^ FN) : 0 ≤ (V j s).toInt ∧ (V j s).toInt ≤ 800 := by
  rw [h j s h1 h2 h3]
  have := jW_b (c := 64) (u := uN lm fm) (F := FN) (L := LN) (by omega) (fun k f => (uN_b k f).1) (LN - j) s
  omega
theorem lfJ {lm fm : Nat → Int32} {LN FN kN SN : Nat} {V : Nat → Nat → Int32} (hF : FN ≤ 8) (hk : kN < LN) (hS : SN < 2 ^ FN) (h : wMd lm fm LN FN V 0) : jl (jok 64 (uN lm fm kN) (fun s => (V (kN + 1) s).toInt) (V kN SN).toInt SN) 0 FN = jJ 64 (uN lm fm) FN LN kN SN := by
  unfold jJ
  refine jl_E FN 0 (fun x _ hx => ?_)
  unfold jok
  rw [h kN SN (Nat.zero_le _) (by omega) hS]
  simp only [h (kN + 1) (stO SN x) (Nat.zero_le _) (by omega) (stO_lt hF hS (by omega))]
theorem cs_loop {lo fo kn : Int32} {lm fm fb : Nat → Int32} {V : Nat → Nat → Int32} {LN FN : Nat} {P : Option cx_V → cx_H → Prop} (hlo : lo.toInt = (LN : Int)) (hL : LN ≤ 8) (hfo : fo.toInt = (FN : Int)) (hF : FN ≤ 8) (hV : wMd lm fm LN FN V 0) (hP : ∀ (j1 u1 : Int32) (f1 : Nat → Int32), JR lm fm LN FN f1 j1 u1 → (∀ x : Nat, ¬ x < LN → f1 x = fb x) → P none (h_ch lo fo j1 u1 kn lm fm f1 V)) :
    ∀ (m k : Nat), k + m = LN → ∀ i : Int32, i.toInt = (k : Int) → ∀ (tk j1 u1 : Int32) (f1 : Nat → Int32) (A : Option cx_V), tk.toInt = ((jT 64 (uN lm fm) FN LN k : Nat) : Int) → j1.toInt = jN 64 (uN lm fm) FN LN k → u1.toInt = jM 64 (uN lm fm) FN LN k → (∀ x : Nat, x < k → (f1 x).toInt = jA 64 (uN lm fm) FN LN x) → (∀ x : Nat, ¬ x < k → f1 x = fb x) → cx_T 4 12 [87, 88, 89, 90, 91, 92, 93, 94, 95, 96, 97, 98, 99, 100] 14 ([some (.inr (.inl 87)), some (.inl (.int tk)), some (.inl (.int i)), A], [], [(87, .inl (0, [.inr (.inl 88), .inr (.inl 89), .inr (.inl 90), .inr (.inl 100), .inl (.int lo), .inl (.int fo), .inl (.int j1), .inl (.int u1), .inl (.int kn)])), (88, .inr (.inl (0, 8, lm))), (89, .inr (.inl (0, 8, fm))), (90, .inr (.inr (.inr (3, [91, 92, 93, 94, 95, 96, 97, 98, 99])))), (91, .inr (.inl (0, 256, V 0))), (92, .inr (.inl (0, 256, V 1))), (93, .inr (.inl (0, 256, V 2))), (94, .inr (.inl (0, 256, V 3))), (95, .inr (.inl (0, 256, V 4))), (96, .inr (.inl (0, 256, V 5))), (97, .inr (.inl (0, 256, V 6))), (98, .inr (.inl (0, 256, V 7))), (99, .inr (.inl (0, 256, V 8))), (100, .inr (.inl (0, 8, f1)))]) P := by
  have kcm9 : (Int32.ofInt (-9)).toInt = -9 := by decide +kernel
  have kc0 : (Int32.ofInt 0).toInt = 0 := by decide +kernel
  have kc1 : (Int32.ofInt 1).toInt = 1 := by decide +kernel
  intro m
  induction m with
  | zero =>
    intro k hk i hi tk j1 u1 f1 A htk hj1 hu1 hfa hfr
    have ek : k = LN := by omega
    refine ex_iload_n cg_12 (ix := 10) (pc' := 15) rfl rfl rfl ?_
    refine ex_aload_n cg_12 (ix := 11) (pc' := 16) rfl rfl rfl ?_
    refine ex_getfield cg_12 (ix := 12) (pc' := 19) rfl rfl rfl rfl rfl ?_
    refine ex_icmp cg_12 (ix := 13) (t := 79) (pc' := 22) rfl rfl rfl (fun hb19 => ?_) (fun hb19 => ?_)
    · have hb19 : lo.toInt ≤ i.toInt := hb19
      refine ex_return_ cg_12 (ix := 50) rfl ?_
      rw [ek] at hj1 hu1 hfa hfr
      exact hP j1 u1 f1 ⟨hj1, hu1, hfa⟩ hfr
    · have hb19 : ¬ (lo.toInt ≤ i.toInt) := hb19
      exfalso; first | omega | exact absurd hb19 (by decide +kernel)
  | succ m ih =>
    intro k hk i hi tk j1 u1 f1 A htk hj1 hu1 hfa hfr
    have hik : i.toNatClampNeg = k := cx_clamp hi
    have hp2 := p2_le hF
    have hS := jT_lt (c := 64) (u := uN lm fm) (L := LN) hF k
    have hVb : ∀ j s : Nat, (j = k ∨ j = k + 1) → s < 2 ^ FN → 0 ≤ (V j s).toInt ∧ (V j s).toInt ≤ 900 := fun j s hj hs => by
      have := wMd_b hL hV (Nat.zero_le j) (by omega) hs
      omega
    have hnb := jN_b (c := 64) (u := uN lm fm) (F := FN) (L := LN) k
    have hmb := jM_b (c := 64) (F := FN) (L := LN) (fun k f => uN_b (lm := lm) (fm := fm) k f) k
    refine ex_iload_n cg_12 (ix := 10) (pc' := 15) rfl rfl rfl ?_
    refine ex_aload_n cg_12 (ix := 11) (pc' := 16) rfl rfl rfl ?_
    refine ex_getfield cg_12 (ix := 12) (pc' := 19) rfl rfl rfl rfl rfl ?_
    refine ex_icmp cg_12 (ix := 13) (t := 79) (pc' := 22) rfl rfl rfl (fun hb19 => ?_) (fun hb19 => ?_)
    · have hb19 : lo.toInt ≤ i.toInt := hb19
      exfalso; first | omega | exact absurd hb19 (by decide +kernel)
    · have hb19 : ¬ (lo.toInt ≤ i.toInt) := hb19
      refine ex_aload_n cg_12 (ix := 14) (pc' := 23) rfl rfl rfl ?_
      refine ex_iload_n cg_12 (ix := 15) (pc' := 24) rfl rfl rfl ?_
      refine ex_iload_n cg_12 (ix := 16) (pc' := 25) rfl rfl rfl ?_
      refine ex_callV cg_12 (ix := 17) (pc' := 28) (As := [.inl (.int i), .inl (.int tk)]) (r := []) rfl rfl rfl (ct_lf (lo := lo) (fo := fo) (jc := j1) (us := u1) (kn := kn) (lm := lm) (fm := fm) (V := V) (x := i) (sv := tk) (kN := k) (SN := jT 64 (uN lm fm) FN LN k) (FN := FN) hi (by omega) htk hS hF hfo hVb) (by first | decide | omega) rfl rfl rfl ⟨rfl, rfl, rfl, rfl, rfl, rfl, rfl, rfl, rfl, rfl, rfl, rfl, rfl, trivial⟩ rfl rfl (fun v h2 hq => ?_)
      obtain ⟨z, rfl, rfl, hz⟩ := hq
      rw [lfJ hF (by omega) hS hV] at hz
      show cx_T _ 12 _ 28 ([some (.inr (.inl 87)), some (.inl (.int tk)), some (.inl (.int i)), A], [.inl (.int z)], [(87, .inl (0, [.inr (.inl 88), .inr (.inl 89), .inr (.inl 90), .inr (.inl 100), .inl (.int lo), .inl (.int fo), .inl (.int j1), .inl (.int u1), .inl (.int kn)])), (88, .inr (.inl (0, 8, lm))), (89, .inr (.inl (0, 8, fm))), (90, .inr (.inr (.inr (3, [91, 92, 93, 94, 95, 96, 97, 98, 99])))), (91, .inr (.inl (0, 256, V 0))), (92, .inr (.inl (0, 256, V 1))), (93, .inr (.inl (0, 256, V 2))), (94, .inr (.inl (0, 256, V 3))), (95, .inr (.inl (0, 256, V 4))), (96, .inr (.inl (0, 256, V 5))), (97, .inr (.inl (0, 256, V 6))), (98, .inr (.inl (0, 256, V 7))), (99, .inr (.inl (0, 256, V 8))), (100, .inr (.inl (0, 8, f1)))]) _
      refine ex_istore_n cg_12 (ix := 18) (pc' := 29) (L' := [some (.inr (.inl 87)), some (.inl (.int tk)), some (.inl (.int i)), some (.inl (.int z))]) rfl rfl rfl rfl ?_
      refine ex_aload_n cg_12 (ix := 19) (pc' := 30) rfl rfl rfl ?_
      refine ex_getfield cg_12 (ix := 20) (pc' := 33) rfl rfl rfl rfl rfl ?_
      refine ex_iload_n cg_12 (ix := 21) (pc' := 34) rfl rfl rfl ?_
      refine ex_iload_n cg_12 (ix := 22) (pc' := 35) rfl rfl rfl ?_
      refine ex_iastore cg_12 (ix := 23) (pc' := 36) (h' := [(87, .inl (0, [.inr (.inl 88), .inr (.inl 89), .inr (.inl 90), .inr (.inl 100), .inl (.int lo), .inl (.int fo), .inl (.int j1), .inl (.int u1), .inl (.int kn)])), (88, .inr (.inl (0, 8, lm))), (89, .inr (.inl (0, 8, fm))), (90, .inr (.inr (.inr (3, [91, 92, 93, 94, 95, 96, 97, 98, 99])))), (91, .inr (.inl (0, 256, V 0))), (92, .inr (.inl (0, 256, V 1))), (93, .inr (.inl (0, 256, V 2))), (94, .inr (.inl (0, 256, V 3))), (95, .inr (.inl (0, 256, V 4))), (96, .inr (.inl (0, 256, V 5))), (97, .inr (.inl (0, 256, V 6))), (98, .inr (.inl (0, 256, V 7))), (99, .inr (.inl (0, 256, V 8))), (100, .inr (.inl (0, 8, upd f1 i.toNatClampNeg z)))]) rfl rfl (by omega) (by omega) rfl rfl ?_
      refine ex_iload_n cg_12 (ix := 24) (pc' := 37) rfl rfl rfl ?_
      refine ex_bipush cg_12 (ix := 25) (pc' := 39) rfl rfl rfl ?_
      refine ex_icmp cg_12 (ix := 26) (t := 73) (pc' := 42) rfl rfl rfl (fun hb39 => ?_) (fun hb39 => ?_)
      · have hb39 : z.toInt = (Int32.ofInt (-9)).toInt := hb39
        refine ex_iinc cg_12 (ix := 48) (pc' := 76) (L' := [some (.inr (.inl 87)), some (.inl (.int tk)), some (.inl (.int (i + Int32.ofInt 1))), some (.inl (.int z))]) rfl rfl rfl rfl rfl ?_
        refine ex_goto cg_12 (ix := 49) (pc' := 14) rfl rfl ?_
        have q9 : ¬ jJ 64 (uN lm fm) FN LN k (jT 64 (uN lm fm) FN LN k) < FN := fun q => by rw [if_pos q] at hz; omega
        rw [if_neg q9] at hz
        refine ih (k + 1) (by omega) _ (by rw [cx_addc (by omega) (by omega)]; omega) _ _ _ _ _ (by rw [jT, if_neg q9]; exact htk) (by rw [jN, if_neg q9]; omega) (by rw [jM, if_neg q9]; omega) (fun x hx => ?_) (fun x hx => ?_)
        · rw [hik]
          unfold upd
          by_cases q : x = k
          · rw [if_pos q, hz, q]; unfold jA; rw [if_neg q9]
          · rw [if_neg q]; exact hfa x (by omega)
        · rw [hik]
          unfold upd
          rw [if_neg (show ¬ x = k by omega)]; exact hfr x (by omega)
      · have hb39 : ¬ (z.toInt = (Int32.ofInt (-9)).toInt) := hb39
        have q9 : jJ 64 (uN lm fm) FN LN k (jT 64 (uN lm fm) FN LN k) < FN := Classical.byContradiction (fun q => by rw [if_neg q] at hz; omega)
        rw [if_pos q9] at hz
        have hor := bt_or htk (by omega) hz (by omega)
        refine ex_iload_n cg_12 (ix := 27) (pc' := 43) rfl rfl rfl ?_
        refine ex_iconst cg_12 (ix := 28) (pc' := 44) rfl rfl ?_
        refine ex_iload_n cg_12 (ix := 29) (pc' := 45) rfl rfl rfl ?_
        refine ex_ishl cg_12 (ix := 30) (pc' := 46) rfl rfl ?_
        refine ex_ior cg_12 (ix := 31) (pc' := 47) rfl rfl ?_
        refine ex_istore_n cg_12 (ix := 32) (pc' := 48) (L' := [some (.inr (.inl 87)), some (.inl (.int (tk ||| ((Int32.ofInt 1) <<< (z &&& 31))))), some (.inl (.int i)), some (.inl (.int z))]) rfl rfl rfl rfl ?_
        refine ex_aload_n cg_12 (ix := 33) (pc' := 49) rfl rfl rfl ?_
        refine ex_dup cg_12 (ix := 34) (pc' := 50) rfl rfl rfl ?_
        refine ex_getfield cg_12 (ix := 35) (pc' := 53) rfl rfl rfl rfl rfl ?_
        refine ex_iconst cg_12 (ix := 36) (pc' := 54) rfl rfl ?_
        refine ex_iadd cg_12 (ix := 37) (pc' := 55) rfl rfl ?_
        refine ex_putfield cg_12 (ix := 38) (pc' := 58) (h' := [(87, .inl (0, [.inr (.inl 88), .inr (.inl 89), .inr (.inl 90), .inr (.inl 100), .inl (.int lo), .inl (.int fo), .inl (.int (j1 + (Int32.ofInt 1))), .inl (.int u1), .inl (.int kn)])), (88, .inr (.inl (0, 8, lm))), (89, .inr (.inl (0, 8, fm))), (90, .inr (.inr (.inr (3, [91, 92, 93, 94, 95, 96, 97, 98, 99])))), (91, .inr (.inl (0, 256, V 0))), (92, .inr (.inl (0, 256, V 1))), (93, .inr (.inl (0, 256, V 2))), (94, .inr (.inl (0, 256, V 3))), (95, .inr (.inl (0, 256, V 4))), (96, .inr (.inl (0, 256, V 5))), (97, .inr (.inl (0, 256, V 6))), (98, .inr (.inl (0, 256, V 7))), (99, .inr (.inl (0, 256, V 8))), (100, .inr (.inl (0, 8, upd f1 i.toNatClampNeg z)))]) rfl rfl rfl rfl rfl rfl rfl rfl ?_
        refine ex_aload_n cg_12 (ix := 39) (pc' := 59) rfl rfl rfl ?_
        refine ex_dup cg_12 (ix := 40) (pc' := 60) rfl rfl rfl ?_
        refine ex_getfield cg_12 (ix := 41) (pc' := 63) rfl rfl rfl rfl rfl ?_
        refine ex_aload_n cg_12 (ix := 42) (pc' := 64) rfl rfl rfl ?_
        refine ex_iload_n cg_12 (ix := 43) (pc' := 65) rfl rfl rfl ?_
        refine ex_iload_n cg_12 (ix := 44) (pc' := 66) rfl rfl rfl ?_
        refine ex_callV cg_12 (ix := 45) (pc' := 69) (As := [.inl (.int i), .inl (.int z)]) (r := [.inl (.int u1), .inr (.inl 87)]) rfl rfl rfl (ct_ul (lo := lo) (fo := fo) (jc := j1 + (Int32.ofInt 1)) (us := u1) (kn := kn) (lm := lm) (fm := fm) (x := i) (y := z) (kx := k) (ky := jJ 64 (uN lm fm) FN LN k (jT 64 (uN lm fm) FN LN k)) hi (by omega) hz (by omega)) (by first | decide | omega) rfl rfl rfl ⟨rfl, rfl, rfl, trivial⟩ rfl rfl (fun v h2 hq => ?_)
        obtain ⟨un, rfl, rfl, hun⟩ := hq
        have hub := uN_b (lm := lm) (fm := fm) k (jJ 64 (uN lm fm) FN LN k (jT 64 (uN lm fm) FN LN k))
        show cx_T _ 12 _ 69 ([some (.inr (.inl 87)), some (.inl (.int (tk ||| ((Int32.ofInt 1) <<< (z &&& 31))))), some (.inl (.int i)), some (.inl (.int z))], [.inl (.int un), .inl (.int u1), .inr (.inl 87)], [(87, .inl (0, [.inr (.inl 88), .inr (.inl 89), .inr (.inl 90), .inr (.inl 100), .inl (.int lo), .inl (.int fo), .inl (.int (j1 + (Int32.ofInt 1))), .inl (.int u1), .inl (.int kn)])), (88, .inr (.inl (0, 8, lm))), (89, .inr (.inl (0, 8, fm))), (90, .inr (.inr (.inr (3, [91, 92, 93, 94, 95, 96, 97, 98, 99])))), (91, .inr (.inl (0, 256, V 0))), (92, .inr (.inl (0, 256, V 1))), (93, .inr (.inl (0, 256, V 2))), (94, .inr (.inl (0, 256, V 3))), (95, .inr (.inl (0, 256, V 4))), (96, .inr (.inl (0, 256, V 5))), (97, .inr (.inl (0, 256, V 6))), (98, .inr (.inl (0, 256, V 7))), (99, .inr (.inl (0, 256, V 8))), (100, .inr (.inl (0, 8, upd f1 i.toNatClampNeg z)))]) _
        refine ex_iadd cg_12 (ix := 46) (pc' := 70) rfl rfl ?_
        refine ex_putfield cg_12 (ix := 47) (pc' := 73) (h' := [(87, .inl (0, [.inr (.inl 88), .inr (.inl 89), .inr (.inl 90), .inr (.inl 100), .inl (.int lo), .inl (.int fo), .inl (.int (j1 + (Int32.ofInt 1))), .inl (.int (u1 + un)), .inl (.int kn)])), (88, .inr (.inl (0, 8, lm))), (89, .inr (.inl (0, 8, fm))), (90, .inr (.inr (.inr (3, [91, 92, 93, 94, 95, 96, 97, 98, 99])))), (91, .inr (.inl (0, 256, V 0))), (92, .inr (.inl (0, 256, V 1))), (93, .inr (.inl (0, 256, V 2))), (94, .inr (.inl (0, 256, V 3))), (95, .inr (.inl (0, 256, V 4))), (96, .inr (.inl (0, 256, V 5))), (97, .inr (.inl (0, 256, V 6))), (98, .inr (.inl (0, 256, V 7))), (99, .inr (.inl (0, 256, V 8))), (100, .inr (.inl (0, 8, upd f1 i.toNatClampNeg z)))]) rfl rfl rfl rfl rfl rfl rfl rfl ?_
        refine ex_iinc cg_12 (ix := 48) (pc' := 76) (L' := [some (.inr (.inl 87)), some (.inl (.int (tk ||| ((Int32.ofInt 1) <<< (z &&& 31))))), some (.inl (.int (i + Int32.ofInt 1))), some (.inl (.int z))]) rfl rfl rfl rfl rfl ?_
        refine ex_goto cg_12 (ix := 49) (pc' := 14) rfl rfl ?_
        refine ih (k + 1) (by omega) _ (by rw [cx_addc (by omega) (by omega)]; omega) _ _ _ _ _ (by rw [jT, if_pos q9]; exact hor) (by rw [jN, if_pos q9, cx_addc (by omega) (by omega)]; omega) (by rw [jM, if_pos q9, cx_addc (by omega) (by omega)]; omega) (fun x hx => ?_) (fun x hx => ?_)
        · rw [hik]
          unfold upd
          by_cases q : x = k
          · rw [if_pos q, hz, q]; unfold jA; rw [if_pos q9]
          · rw [if_neg q]; exact hfa x (by omega)
        · rw [hik]
          unfold upd
          rw [if_neg (show ¬ x = k by omega)]; exact hfr x (by omega)
theorem ct_cs {lo fo kn : Int32} {lm fm fb : Nat → Int32} {V : Nat → Nat → Int32} {LN FN : Nat} {jc us : Int32} (hlo : lo.toInt = (LN : Int)) (hL : LN ≤ 8) (hfo : fo.toInt = (FN : Int)) (hF : FN ≤ 8) (hV : wMd lm fm LN FN V 0) : cx_Ct 4 12 [.inr (.inl 87)] ([(87, .inl (0, [.inr (.inl 88), .inr (.inl 89), .inr (.inl 90), .inr (.inl 100), .inl (.int lo), .inl (.int fo), .inl (.int jc), .inl (.int us), .inl (.int kn)])), (88, .inr (.inl (0, 8, lm))), (89, .inr (.inl (0, 8, fm))), (90, .inr (.inr (.inr (3, [91, 92, 93, 94, 95, 96, 97, 98, 99])))), (91, .inr (.inl (0, 256, V 0))), (92, .inr (.inl (0, 256, V 1))), (93, .inr (.inl (0, 256, V 2))), (94, .inr (.inl (0, 256, V 3))), (95, .inr (.inl (0, 256, V 4))), (96, .inr (.inl (0, 256, V 5))), (97, .inr (.inl (0, 256, V 6))), (98, .inr (.inl (0, 256, V 7))), (99, .inr (.inl (0, 256, V 8))), (100, .inr (.inl (0, 8, fb)))]) (fun v h2 => v = none ∧ ∃ (jc2 us2 : Int32) (fb2 : Nat → Int32), h2 = h_ch lo fo jc2 us2 kn lm fm fb2 V ∧ JR lm fm LN FN fb2 jc2 us2 ∧ ∀ x : Nat, ¬ x < LN → fb2 x = fb x) := by
  have kc0 : (Int32.ofInt 0).toInt = 0 := by decide +kernel
  have kcm9 : (Int32.ofInt (-9)).toInt = -9 := by decide +kernel
  have kc1 : (Int32.ofInt 1).toInt = 1 := by decide +kernel
  refine cx_Ct.of cg_12 (nL := 4) rfl rfl rfl ?_
  show cx_T 4 12 [87, 88, 89, 90, 91, 92, 93, 94, 95, 96, 97, 98, 99, 100] 0 ([some (.inr (.inl 87)), none, none, none], [], [(87, .inl (0, [.inr (.inl 88), .inr (.inl 89), .inr (.inl 90), .inr (.inl 100), .inl (.int lo), .inl (.int fo), .inl (.int jc), .inl (.int us), .inl (.int kn)])), (88, .inr (.inl (0, 8, lm))), (89, .inr (.inl (0, 8, fm))), (90, .inr (.inr (.inr (3, [91, 92, 93, 94, 95, 96, 97, 98, 99])))), (91, .inr (.inl (0, 256, V 0))), (92, .inr (.inl (0, 256, V 1))), (93, .inr (.inl (0, 256, V 2))), (94, .inr (.inl (0, 256, V 3))), (95, .inr (.inl (0, 256, V 4))), (96, .inr (.inl (0, 256, V 5))), (97, .inr (.inl (0, 256, V 6))), (98, .inr (.inl (0, 256, V 7))), (99, .inr (.inl (0, 256, V 8))), (100, .inr (.inl (0, 8, fb)))]) _
  refine ex_iconst cg_12 (ix := 0) (pc' := 1) rfl rfl ?_
  refine ex_istore_n cg_12 (ix := 1) (pc' := 2) (L' := [some (.inr (.inl 87)), some (.inl (.int (Int32.ofInt 0))), none, none]) rfl rfl rfl rfl ?_
  refine ex_aload_n cg_12 (ix := 2) (pc' := 3) rfl rfl rfl ?_
  refine ex_iconst cg_12 (ix := 3) (pc' := 4) rfl rfl ?_
  refine ex_putfield cg_12 (ix := 4) (pc' := 7) (h' := [(87, .inl (0, [.inr (.inl 88), .inr (.inl 89), .inr (.inl 90), .inr (.inl 100), .inl (.int lo), .inl (.int fo), .inl (.int (Int32.ofInt 0)), .inl (.int us), .inl (.int kn)])), (88, .inr (.inl (0, 8, lm))), (89, .inr (.inl (0, 8, fm))), (90, .inr (.inr (.inr (3, [91, 92, 93, 94, 95, 96, 97, 98, 99])))), (91, .inr (.inl (0, 256, V 0))), (92, .inr (.inl (0, 256, V 1))), (93, .inr (.inl (0, 256, V 2))), (94, .inr (.inl (0, 256, V 3))), (95, .inr (.inl (0, 256, V 4))), (96, .inr (.inl (0, 256, V 5))), (97, .inr (.inl (0, 256, V 6))), (98, .inr (.inl (0, 256, V 7))), (99, .inr (.inl (0, 256, V 8))), (100, .inr (.inl (0, 8, fb)))]) rfl rfl rfl rfl rfl rfl rfl rfl ?_
  refine ex_aload_n cg_12 (ix := 5) (pc' := 8) rfl rfl rfl ?_
  refine ex_iconst cg_12 (ix := 6) (pc' := 9) rfl rfl ?_
  refine ex_putfield cg_12 (ix := 7) (pc' := 12) (h' := [(87, .inl (0, [.inr (.inl 88), .inr (.inl 89), .inr (.inl 90), .inr (.inl 100), .inl (.int lo), .inl (.int fo), .inl (.int (Int32.ofInt 0)), .inl (.int (Int32.ofInt 0)), .inl (.int kn)])), (88, .inr (.inl (0, 8, lm))), (89, .inr (.inl (0, 8, fm))), (90, .inr (.inr (.inr (3, [91, 92, 93, 94, 95, 96, 97, 98, 99])))), (91, .inr (.inl (0, 256, V 0))), (92, .inr (.inl (0, 256, V 1))), (93, .inr (.inl (0, 256, V 2))), (94, .inr (.inl (0, 256, V 3))), (95, .inr (.inl (0, 256, V 4))), (96, .inr (.inl (0, 256, V 5))), (97, .inr (.inl (0, 256, V 6))), (98, .inr (.inl (0, 256, V 7))), (99, .inr (.inl (0, 256, V 8))), (100, .inr (.inl (0, 8, fb)))]) rfl rfl rfl rfl rfl rfl rfl rfl ?_
  refine ex_iconst cg_12 (ix := 8) (pc' := 13) rfl rfl ?_
  refine ex_istore_n cg_12 (ix := 9) (pc' := 14) (L' := [some (.inr (.inl 87)), some (.inl (.int (Int32.ofInt 0))), some (.inl (.int (Int32.ofInt 0))), none]) rfl rfl rfl rfl ?_
  exact cs_loop (lo := lo) (fo := fo) (kn := kn) (lm := lm) (fm := fm) (fb := fb) (V := V) (LN := LN) (FN := FN) hlo hL hfo hF hV (P := fun v h2 => v = none ∧ ∃ (jc2 us2 : Int32) (fb2 : Nat → Int32), h2 = h_ch lo fo jc2 us2 kn lm fm fb2 V ∧ JR lm fm LN FN fb2 jc2 us2 ∧ ∀ x : Nat, ¬ x < LN → fb2 x = fb x) (fun j1 u1 f1 h1 h3 => ⟨rfl, j1, u1, f1, rfl, h1, h3⟩) LN 0 (by omega) (Int32.ofInt 0) (by decide +kernel) (Int32.ofInt 0) (Int32.ofInt 0) (Int32.ofInt 0) fb none (by rw [jT]; decide +kernel) (by rw [jN]; decide +kernel) (by rw [jM]; decide +kernel) (fun x hx => absurd hx (Nat.not_lt_zero x)) (fun x _ => rfl)
theorem ji_loop {lo fo jc us kn : Int32} {lm fm fb : Nat → Int32} {LN FN : Nat} {sz l : Int32} {lN : Nat} {V0 : Nat → Nat → Int32} {P : Option cx_V → cx_H → Prop} (hlo : lo.toInt = (LN : Int)) (hL : LN ≤ 8) (hfo : fo.toInt = (FN : Int)) (hF : FN ≤ 8) (hsz : sz.toInt = ((2 ^ FN : Nat) : Int)) (hl : l.toInt = (lN : Int)) (hlL : lN < LN) (hV0 : wMd lm fm LN FN V0 (lN + 1)) (hP : ∀ (V : Nat → Nat → Int32) (i : Int32), ((∀ j : Nat, ¬ j = lN → V j = V0 j) ∧ ∀ s : Nat, s < 2 ^ FN → (V lN s).toInt = jF 64 (uN lm fm lN) (jW 64 (uN lm fm) FN LN (LN - (lN + 1))) s FN) → cx_T 5 10 [87, 88, 89, 90, 91, 92, 93, 94, 95, 96, 97, 98, 99, 100] 82 ([some (.inr (.inl 87)), some (.inl (.int sz)), some (.inl (.int l)), some (.inl (.int i))], [], [(87, .inl (0, [.inr (.inl 88), .inr (.inl 89), .inr (.inl 90), .inr (.inl 100), .inl (.int lo), .inl (.int fo), .inl (.int jc), .inl (.int us), .inl (.int kn)])), (88, .inr (.inl (0, 8, lm))), (89, .inr (.inl (0, 8, fm))), (90, .inr (.inr (.inr (3, [91, 92, 93, 94, 95, 96, 97, 98, 99])))), (91, .inr (.inl (0, 256, V 0))), (92, .inr (.inl (0, 256, V 1))), (93, .inr (.inl (0, 256, V 2))), (94, .inr (.inl (0, 256, V 3))), (95, .inr (.inl (0, 256, V 4))), (96, .inr (.inl (0, 256, V 5))), (97, .inr (.inl (0, 256, V 6))), (98, .inr (.inl (0, 256, V 7))), (99, .inr (.inl (0, 256, V 8))), (100, .inr (.inl (0, 8, fb)))]) P) :
    ∀ (m k : Nat), k + m = FN → ∀ i : Int32, i.toInt = (k : Int) → ∀ (V : Nat → Nat → Int32), ((∀ j : Nat, ¬ j = lN → V j = V0 j) ∧ ∀ s : Nat, s < 2 ^ FN → (V lN s).toInt = jF 64 (uN lm fm lN) (jW 64 (uN lm fm) FN LN (LN - (lN + 1))) s k) → cx_T 5 10 [87, 88, 89, 90, 91, 92, 93, 94, 95, 96, 97, 98, 99, 100] 61 ([some (.inr (.inl 87)), some (.inl (.int sz)), some (.inl (.int l)), some (.inl (.int i))], [], [(87, .inl (0, [.inr (.inl 88), .inr (.inl 89), .inr (.inl 90), .inr (.inl 100), .inl (.int lo), .inl (.int fo), .inl (.int jc), .inl (.int us), .inl (.int kn)])), (88, .inr (.inl (0, 8, lm))), (89, .inr (.inl (0, 8, fm))), (90, .inr (.inr (.inr (3, [91, 92, 93, 94, 95, 96, 97, 98, 99])))), (91, .inr (.inl (0, 256, V 0))), (92, .inr (.inl (0, 256, V 1))), (93, .inr (.inl (0, 256, V 2))), (94, .inr (.inl (0, 256, V 3))), (95, .inr (.inl (0, 256, V 4))), (96, .inr (.inl (0, 256, V 5))), (97, .inr (.inl (0, 256, V 6))), (98, .inr (.inl (0, 256, V 7))), (99, .inr (.inl (0, 256, V 8))), (100, .inr (.inl (0, 8, fb)))]) P := by
  have kcm1 : (Int32.ofInt (-1)).toInt = -1 := by decide +kernel
  have kc0 : (Int32.ofInt 0).toInt = 0 := by decide +kernel
  have kc1 : (Int32.ofInt 1).toInt = 1 := by decide +kernel
  intro m
  induction m with
  | zero =>
    intro k hk i hi V hin
    have ek : k = FN := by omega
    refine ex_iload_n cg_10 (ix := 39) (pc' := 62) rfl rfl rfl ?_
    refine ex_aload_n cg_10 (ix := 40) (pc' := 63) rfl rfl rfl ?_
    refine ex_getfield cg_10 (ix := 41) (pc' := 66) rfl rfl rfl rfl rfl ?_
    refine ex_icmp cg_10 (ix := 42) (t := 82) (pc' := 69) rfl rfl rfl (fun hb66 => ?_) (fun hb66 => ?_)
    · have hb66 : fo.toInt ≤ i.toInt := hb66
      rw [ek] at hin
      exact hP V i hin
    · have hb66 : ¬ (fo.toInt ≤ i.toInt) := hb66
      exfalso; first | omega | exact absurd hb66 (by decide +kernel)
  | succ m ih =>
    intro k hk i hi V hin
    have hik : i.toNatClampNeg = k := cx_clamp hi
    have hp2 := p2_le hF
    have hWb : ∀ j s : Nat, (j = lN ∨ j = lN + 1) → s < 2 ^ FN → 0 ≤ (V j s).toInt ∧ (V j s).toInt ≤ 900 := fun j s hj hs => by
      rcases hj with q | q
      · rw [q, hin.2 s hs]
        have := jF_b (c := 64) (B := 800) (u := uN lm fm lN) (nx := jW 64 (uN lm fm) FN LN (LN - (lN + 1))) (by omega) (fun f => (uN_b lN f).1) (fun S => by have := jW_b (c := 64) (u := uN lm fm) (F := FN) (L := LN) (by omega) (fun k f => (uN_b k f).1) (LN - (lN + 1)) S; omega) s k
        omega
      · rw [q, hin.1 (lN + 1) (by omega)]
        have := wMd_b hL hV0 (Nat.le_refl _) (by omega) hs
        omega
    refine ex_iload_n cg_10 (ix := 39) (pc' := 62) rfl rfl rfl ?_
    refine ex_aload_n cg_10 (ix := 40) (pc' := 63) rfl rfl rfl ?_
    refine ex_getfield cg_10 (ix := 41) (pc' := 66) rfl rfl rfl rfl rfl ?_
    refine ex_icmp cg_10 (ix := 42) (t := 82) (pc' := 69) rfl rfl rfl (fun hb66 => ?_) (fun hb66 => ?_)
    · have hb66 : fo.toInt ≤ i.toInt := hb66
      exfalso; first | omega | exact absurd hb66 (by decide +kernel)
    · have hb66 : ¬ (fo.toInt ≤ i.toInt) := hb66
      refine ex_aload_n cg_10 (ix := 43) (pc' := 70) rfl rfl rfl ?_
      refine ex_iload_n cg_10 (ix := 44) (pc' := 71) rfl rfl rfl ?_
      refine ex_iload_n cg_10 (ix := 45) (pc' := 72) rfl rfl rfl ?_
      refine ex_iload_n cg_10 (ix := 46) (pc' := 73) rfl rfl rfl ?_
      refine ex_callV cg_10 (ix := 47) (pc' := 76) (As := [.inl (.int l), .inl (.int i), .inl (.int sz)]) (r := []) rfl rfl rfl (ct_wj (lo := lo) (fo := fo) (jc := jc) (us := us) (kn := kn) (lm := lm) (fm := fm) (W := V) (x := l) (y := i) (z := sz) (kN := lN) (fN := k) (FN := FN) hl (by omega) hi (by omega) hF hsz hWb) (by first | decide | omega) rfl rfl rfl ⟨rfl, rfl, rfl, rfl, rfl, rfl, rfl, rfl, rfl, rfl, rfl, rfl, rfl, trivial⟩ rfl rfl (fun v h2 hq => ?_)
      obtain ⟨rfl, V2, rfl, hV2⟩ := hq
      show cx_T _ 10 _ 76 ([some (.inr (.inl 87)), some (.inl (.int sz)), some (.inl (.int l)), some (.inl (.int i))], [], [(87, .inl (0, [.inr (.inl 88), .inr (.inl 89), .inr (.inl 90), .inr (.inl 100), .inl (.int lo), .inl (.int fo), .inl (.int jc), .inl (.int us), .inl (.int kn)])), (88, .inr (.inl (0, 8, lm))), (89, .inr (.inl (0, 8, fm))), (90, .inr (.inr (.inr (3, [91, 92, 93, 94, 95, 96, 97, 98, 99])))), (91, .inr (.inl (0, 256, V2 0))), (92, .inr (.inl (0, 256, V2 1))), (93, .inr (.inl (0, 256, V2 2))), (94, .inr (.inl (0, 256, V2 3))), (95, .inr (.inl (0, 256, V2 4))), (96, .inr (.inl (0, 256, V2 5))), (97, .inr (.inl (0, 256, V2 6))), (98, .inr (.inl (0, 256, V2 7))), (99, .inr (.inl (0, 256, V2 8))), (100, .inr (.inl (0, 8, fb)))]) _
      refine ex_iinc cg_10 (ix := 48) (pc' := 79) (L' := [some (.inr (.inl 87)), some (.inl (.int sz)), some (.inl (.int l)), some (.inl (.int (i + Int32.ofInt 1)))]) rfl rfl rfl rfl rfl ?_
      refine ex_goto cg_10 (ix := 49) (pc' := 61) rfl rfl ?_
      exact ih (k + 1) (by omega) _ (by rw [cx_addc (by omega) (by omega)]; omega) V2 ⟨fun j hj => (hV2.1 j hj).trans (hin.1 j hj), fun s hs => by
        rw [hV2.2 s hs, if_pos hs, jF, hin.2 s hs, hin.1 (lN + 1) (by omega), hV0 (lN + 1) (stO s k) (Nat.le_refl _) (by omega) (stO_lt hF hs (by omega))]⟩
theorem jo_loop {lo fo jc us kn : Int32} {lm fm fb : Nat → Int32} {LN FN : Nat} {sz : Int32} {P : Option cx_V → cx_H → Prop} (hlo : lo.toInt = (LN : Int)) (hL : LN ≤ 8) (hfo : fo.toInt = (FN : Int)) (hF : FN ≤ 8) (hsz : sz.toInt = ((2 ^ FN : Nat) : Int)) (hP : ∀ (V : Nat → Nat → Int32) (l : Int32) (A : Option cx_V), wMd lm fm LN FN V 0 → cx_T 5 10 [87, 88, 89, 90, 91, 92, 93, 94, 95, 96, 97, 98, 99, 100] 88 ([some (.inr (.inl 87)), some (.inl (.int sz)), some (.inl (.int l)), A], [], [(87, .inl (0, [.inr (.inl 88), .inr (.inl 89), .inr (.inl 90), .inr (.inl 100), .inl (.int lo), .inl (.int fo), .inl (.int jc), .inl (.int us), .inl (.int kn)])), (88, .inr (.inl (0, 8, lm))), (89, .inr (.inl (0, 8, fm))), (90, .inr (.inr (.inr (3, [91, 92, 93, 94, 95, 96, 97, 98, 99])))), (91, .inr (.inl (0, 256, V 0))), (92, .inr (.inl (0, 256, V 1))), (93, .inr (.inl (0, 256, V 2))), (94, .inr (.inl (0, 256, V 3))), (95, .inr (.inl (0, 256, V 4))), (96, .inr (.inl (0, 256, V 5))), (97, .inr (.inl (0, 256, V 6))), (98, .inr (.inl (0, 256, V 7))), (99, .inr (.inl (0, 256, V 8))), (100, .inr (.inl (0, 8, fb)))]) P) :
    ∀ (lN : Nat) (l : Int32), l.toInt = (lN : Int) - 1 → lN ≤ LN → ∀ (V : Nat → Nat → Int32) (A : Option cx_V), wMd lm fm LN FN V lN → cx_T 5 10 [87, 88, 89, 90, 91, 92, 93, 94, 95, 96, 97, 98, 99, 100] 35 ([some (.inr (.inl 87)), some (.inl (.int sz)), some (.inl (.int l)), A], [], [(87, .inl (0, [.inr (.inl 88), .inr (.inl 89), .inr (.inl 90), .inr (.inl 100), .inl (.int lo), .inl (.int fo), .inl (.int jc), .inl (.int us), .inl (.int kn)])), (88, .inr (.inl (0, 8, lm))), (89, .inr (.inl (0, 8, fm))), (90, .inr (.inr (.inr (3, [91, 92, 93, 94, 95, 96, 97, 98, 99])))), (91, .inr (.inl (0, 256, V 0))), (92, .inr (.inl (0, 256, V 1))), (93, .inr (.inl (0, 256, V 2))), (94, .inr (.inl (0, 256, V 3))), (95, .inr (.inl (0, 256, V 4))), (96, .inr (.inl (0, 256, V 5))), (97, .inr (.inl (0, 256, V 6))), (98, .inr (.inl (0, 256, V 7))), (99, .inr (.inl (0, 256, V 8))), (100, .inr (.inl (0, 8, fb)))]) P := by
  have kcm1 : (Int32.ofInt (-1)).toInt = -1 := by decide +kernel
  have kc0 : (Int32.ofInt 0).toInt = 0 := by decide +kernel
  have kc1 : (Int32.ofInt 1).toInt = 1 := by decide +kernel
  have hp2 := p2_le hF
  have hsx : sz.toNatClampNeg = 2 ^ FN := cx_clamp hsz
  intro lN
  induction lN with
  | zero =>
    intro l hl hlL V A hV
    refine ex_iload_n cg_10 (ix := 21) (pc' := 36) rfl rfl rfl ?_
    refine ex_if cg_10 (ix := 22) (t := 88) (pc' := 39) rfl rfl rfl (fun hb36 => ?_) (fun hb36 => ?_)
    · have hb36 : l.toInt < 0 := hb36
      exact hP V l A hV
    · have hb36 : ¬ (l.toInt < 0) := hb36
      exfalso; first | omega | exact absurd hb36 (by decide +kernel)
  | succ lN ih =>
    intro l hl hlL V A hV
    have hl : l.toInt = (lN : Int) := by omega
    have hl1 : (l + Int32.ofInt 1).toInt = ((lN + 1 : Nat) : Int) := by rw [cx_addc (by omega) (by omega)]; omega
    refine ex_iload_n cg_10 (ix := 21) (pc' := 36) rfl rfl rfl ?_
    refine ex_if cg_10 (ix := 22) (t := 88) (pc' := 39) rfl rfl rfl (fun hb36 => ?_) (fun hb36 => ?_)
    · have hb36 : l.toInt < 0 := hb36
      exfalso; first | omega | exact absurd hb36 (by decide +kernel)
    · have hb36 : ¬ (l.toInt < 0) := hb36
      refine ex_aload_n cg_10 (ix := 23) (pc' := 40) rfl rfl rfl ?_
      refine ex_getfield cg_10 (ix := 24) (pc' := 43) rfl rfl rfl rfl rfl ?_
      refine ex_iload_n cg_10 (ix := 25) (pc' := 44) rfl rfl rfl ?_
      refine ex_iconst cg_10 (ix := 26) (pc' := 45) rfl rfl ?_
      refine ex_iadd cg_10 (ix := 27) (pc' := 46) rfl rfl ?_
      refine ex_aaload cg_10 (ix := 28) (pc' := 47) (k1 := (91 + (lN + 1))) rfl rfl (by omega) (wf_ix (by omega) hl1) rfl ?_
      refine ex_iconst cg_10 (ix := 29) (pc' := 48) rfl rfl ?_
      refine ex_aload_n cg_10 (ix := 30) (pc' := 49) rfl rfl rfl ?_
      refine ex_getfield cg_10 (ix := 31) (pc' := 52) rfl rfl rfl rfl rfl ?_
      refine ex_iload_n cg_10 (ix := 32) (pc' := 53) rfl rfl rfl ?_
      refine ex_aaload cg_10 (ix := 33) (pc' := 54) (k1 := (91 + lN)) rfl rfl (by omega) (wf_ix (by omega) hl) rfl ?_
      refine ex_iconst cg_10 (ix := 34) (pc' := 55) rfl rfl ?_
      refine ex_iload_n cg_10 (ix := 35) (pc' := 56) rfl rfl rfl ?_
      refine ex_copyI cg_10 (ix := 36) (pc' := 59) (h' := [(87, .inl (0, [.inr (.inl 88), .inr (.inl 89), .inr (.inl 90), .inr (.inl 100), .inl (.int lo), .inl (.int fo), .inl (.int jc), .inl (.int us), .inl (.int kn)])), (88, .inr (.inl (0, 8, lm))), (89, .inr (.inl (0, 8, fm))), (90, .inr (.inr (.inr (3, [91, 92, 93, 94, 95, 96, 97, 98, 99])))), (91, .inr (.inl (0, 256, (up2 V lN (va_cpy (V (lN + 1)) (V lN) 0 0 sz.toNatClampNeg)) 0))), (92, .inr (.inl (0, 256, (up2 V lN (va_cpy (V (lN + 1)) (V lN) 0 0 sz.toNatClampNeg)) 1))), (93, .inr (.inl (0, 256, (up2 V lN (va_cpy (V (lN + 1)) (V lN) 0 0 sz.toNatClampNeg)) 2))), (94, .inr (.inl (0, 256, (up2 V lN (va_cpy (V (lN + 1)) (V lN) 0 0 sz.toNatClampNeg)) 3))), (95, .inr (.inl (0, 256, (up2 V lN (va_cpy (V (lN + 1)) (V lN) 0 0 sz.toNatClampNeg)) 4))), (96, .inr (.inl (0, 256, (up2 V lN (va_cpy (V (lN + 1)) (V lN) 0 0 sz.toNatClampNeg)) 5))), (97, .inr (.inl (0, 256, (up2 V lN (va_cpy (V (lN + 1)) (V lN) 0 0 sz.toNatClampNeg)) 6))), (98, .inr (.inl (0, 256, (up2 V lN (va_cpy (V (lN + 1)) (V lN) 0 0 sz.toNatClampNeg)) 7))), (99, .inr (.inl (0, 256, (up2 V lN (va_cpy (V (lN + 1)) (V lN) 0 0 sz.toNatClampNeg)) 8))), (100, .inr (.inl (0, 8, fb)))]) rfl rfl (by first | decide | omega) rfl (cf_get (V := V) (by omega)) (cf_get (V := V) (by omega)) (by omega) (by omega) (by omega) (cf_set (V := V) (by omega)) rfl ?_
      refine ex_iconst cg_10 (ix := 37) (pc' := 60) rfl rfl ?_
      refine ex_istore_n cg_10 (ix := 38) (pc' := 61) (L' := [some (.inr (.inl 87)), some (.inl (.int sz)), some (.inl (.int l)), some (.inl (.int (Int32.ofInt 0)))]) rfl rfl rfl rfl ?_
      refine ji_loop (lo := lo) (fo := fo) (jc := jc) (us := us) (kn := kn) (lm := lm) (fm := fm) (fb := fb) (LN := LN) (FN := FN) (sz := sz) (l := l) (lN := lN) (V0 := V) hlo hL hfo hF hsz hl (by omega) hV (P := P) (fun V3 i3 hin => ?_) FN 0 (by omega) (Int32.ofInt 0) (by decide +kernel) _ ⟨fun j hj => up2_ne hj, fun s hs => ?_⟩
      · refine ex_iinc cg_10 (ix := 50) (pc' := 85) (L' := [some (.inr (.inl 87)), some (.inl (.int sz)), some (.inl (.int (l + Int32.ofInt (-1)))), some (.inl (.int i3))]) rfl rfl rfl rfl rfl ?_
        refine ex_goto cg_10 (ix := 51) (pc' := 35) rfl rfl ?_
        exact ih _ (by rw [cx_addc (by omega) (by omega)]; omega) (by omega) V3 _ (fun j s h1 h2 h3 => by
          by_cases q : j = lN
          · rw [q, hin.2 s h3, show LN - lN = LN - (lN + 1) + 1 by omega, jW, show LN - (LN - (lN + 1) + 1) = lN by omega]
          · rw [hin.1 j q]; exact hV j s (by omega) h2 h3)
      · rw [up2_me, hsx, cpy_i hs, jF]
        exact hV (lN + 1) s (Nat.le_refl _) (by omega) hs
theorem ct_join {lo fo jc us kn : Int32} {lm fm fb : Nat → Int32} {LN FN : Nat} {V : Nat → Nat → Int32} (hlo : lo.toInt = (LN : Int)) (hL : LN ≤ 8) (hfo : fo.toInt = (FN : Int)) (hF : FN ≤ 8) (hkn : kn = Int32.ofInt 0 ∨ kn = Int32.ofInt 1) (hJ : kn = Int32.ofInt 1 → JR lm fm LN FN fb jc us) (hFB : FB fb) : cx_Ct 5 10 [.inr (.inl 87)] ([(87, .inl (0, [.inr (.inl 88), .inr (.inl 89), .inr (.inl 90), .inr (.inl 100), .inl (.int lo), .inl (.int fo), .inl (.int jc), .inl (.int us), .inl (.int kn)])), (88, .inr (.inl (0, 8, lm))), (89, .inr (.inl (0, 8, fm))), (90, .inr (.inr (.inr (3, [91, 92, 93, 94, 95, 96, 97, 98, 99])))), (91, .inr (.inl (0, 256, V 0))), (92, .inr (.inl (0, 256, V 1))), (93, .inr (.inl (0, 256, V 2))), (94, .inr (.inl (0, 256, V 3))), (95, .inr (.inl (0, 256, V 4))), (96, .inr (.inl (0, 256, V 5))), (97, .inr (.inl (0, 256, V 6))), (98, .inr (.inl (0, 256, V 7))), (99, .inr (.inl (0, 256, V 8))), (100, .inr (.inl (0, 8, fb)))]) (fun v h2 => v = none ∧ ∃ (jc2 us2 kn2 : Int32) (fb2 : Nat → Int32) (V2 : Nat → Nat → Int32), h2 = h_ch lo fo jc2 us2 kn2 lm fm fb2 V2 ∧ JR lm fm LN FN fb2 jc2 us2 ∧ kn2 = Int32.ofInt 1 ∧ FB fb2) := by
  have kc1 : (Int32.ofInt 1).toInt = 1 := by decide +kernel
  have kc0 : (Int32.ofInt 0).toInt = 0 := by decide +kernel
  have kcm1 : (Int32.ofInt (-1)).toInt = -1 := by decide +kernel
  refine cx_Ct.of cg_10 (nL := 4) rfl rfl rfl ?_
  show cx_T 5 10 [87, 88, 89, 90, 91, 92, 93, 94, 95, 96, 97, 98, 99, 100] 0 ([some (.inr (.inl 87)), none, none, none], [], [(87, .inl (0, [.inr (.inl 88), .inr (.inl 89), .inr (.inl 90), .inr (.inl 100), .inl (.int lo), .inl (.int fo), .inl (.int jc), .inl (.int us), .inl (.int kn)])), (88, .inr (.inl (0, 8, lm))), (89, .inr (.inl (0, 8, fm))), (90, .inr (.inr (.inr (3, [91, 92, 93, 94, 95, 96, 97, 98, 99])))), (91, .inr (.inl (0, 256, V 0))), (92, .inr (.inl (0, 256, V 1))), (93, .inr (.inl (0, 256, V 2))), (94, .inr (.inl (0, 256, V 3))), (95, .inr (.inl (0, 256, V 4))), (96, .inr (.inl (0, 256, V 5))), (97, .inr (.inl (0, 256, V 6))), (98, .inr (.inl (0, 256, V 7))), (99, .inr (.inl (0, 256, V 8))), (100, .inr (.inl (0, 8, fb)))]) _
  refine ex_aload_n cg_10 (ix := 0) (pc' := 1) rfl rfl rfl ?_
  refine ex_getfield cg_10 (ix := 1) (pc' := 4) rfl rfl rfl rfl rfl ?_
  refine ex_if cg_10 (ix := 2) (t := 8) (pc' := 7) rfl rfl rfl (fun hb4 => ?_) (fun hb4 => ?_)
  · have hb4 : kn.toInt = 0 := hb4
    refine ex_iconst cg_10 (ix := 4) (pc' := 9) rfl rfl ?_
    refine ex_aload_n cg_10 (ix := 5) (pc' := 10) rfl rfl rfl ?_
    refine ex_getfield cg_10 (ix := 6) (pc' := 13) rfl rfl rfl rfl rfl ?_
    refine ex_ishl cg_10 (ix := 7) (pc' := 14) rfl rfl ?_
    refine ex_istore_n cg_10 (ix := 8) (pc' := 15) (L' := [some (.inr (.inl 87)), some (.inl (.int ((Int32.ofInt 1) <<< (fo &&& 31)))), none, none]) rfl rfl rfl rfl ?_
    refine ex_aload_n cg_10 (ix := 9) (pc' := 16) rfl rfl rfl ?_
    refine ex_getfield cg_10 (ix := 10) (pc' := 19) rfl rfl rfl rfl rfl ?_
    refine ex_aload_n cg_10 (ix := 11) (pc' := 20) rfl rfl rfl ?_
    refine ex_getfield cg_10 (ix := 12) (pc' := 23) rfl rfl rfl rfl rfl ?_
    refine ex_aaload cg_10 (ix := 13) (pc' := 24) (k1 := (91 + LN)) rfl rfl (by omega) (wf_ix (by omega) hlo) rfl ?_
    refine ex_iconst cg_10 (ix := 14) (pc' := 25) rfl rfl ?_
    refine ex_fillI cg_10 (ix := 15) (pc' := 28) (h' := [(87, .inl (0, [.inr (.inl 88), .inr (.inl 89), .inr (.inl 90), .inr (.inl 100), .inl (.int lo), .inl (.int fo), .inl (.int jc), .inl (.int us), .inl (.int kn)])), (88, .inr (.inl (0, 8, lm))), (89, .inr (.inl (0, 8, fm))), (90, .inr (.inr (.inr (3, [91, 92, 93, 94, 95, 96, 97, 98, 99])))), (91, .inr (.inl (0, 256, (up2 V LN (fun i => if i < 256 then (Int32.ofInt 0) else (V LN) i)) 0))), (92, .inr (.inl (0, 256, (up2 V LN (fun i => if i < 256 then (Int32.ofInt 0) else (V LN) i)) 1))), (93, .inr (.inl (0, 256, (up2 V LN (fun i => if i < 256 then (Int32.ofInt 0) else (V LN) i)) 2))), (94, .inr (.inl (0, 256, (up2 V LN (fun i => if i < 256 then (Int32.ofInt 0) else (V LN) i)) 3))), (95, .inr (.inl (0, 256, (up2 V LN (fun i => if i < 256 then (Int32.ofInt 0) else (V LN) i)) 4))), (96, .inr (.inl (0, 256, (up2 V LN (fun i => if i < 256 then (Int32.ofInt 0) else (V LN) i)) 5))), (97, .inr (.inl (0, 256, (up2 V LN (fun i => if i < 256 then (Int32.ofInt 0) else (V LN) i)) 6))), (98, .inr (.inl (0, 256, (up2 V LN (fun i => if i < 256 then (Int32.ofInt 0) else (V LN) i)) 7))), (99, .inr (.inl (0, 256, (up2 V LN (fun i => if i < 256 then (Int32.ofInt 0) else (V LN) i)) 8))), (100, .inr (.inl (0, 8, fb)))]) rfl rfl (by first | decide | omega) rfl (cf_get (V := V) (by omega)) rfl (cf_set (V := V) (by omega)) rfl ?_
    refine ex_aload_n cg_10 (ix := 16) (pc' := 29) rfl rfl rfl ?_
    refine ex_getfield cg_10 (ix := 17) (pc' := 32) rfl rfl rfl rfl rfl ?_
    refine ex_iconst cg_10 (ix := 18) (pc' := 33) rfl rfl ?_
    refine ex_isub cg_10 (ix := 19) (pc' := 34) rfl rfl ?_
    refine ex_istore_n cg_10 (ix := 20) (pc' := 35) (L' := [some (.inr (.inl 87)), some (.inl (.int ((Int32.ofInt 1) <<< (fo &&& 31)))), some (.inl (.int (lo - (Int32.ofInt 1)))), none]) rfl rfl rfl rfl ?_
    refine jo_loop (lo := lo) (fo := fo) (jc := jc) (us := us) (kn := kn) (lm := lm) (fm := fm) (fb := fb) (LN := LN) (FN := FN) (sz := (Int32.ofInt 1) <<< (fo &&& 31)) hlo hL hfo hF (bt_one hfo (by omega)) (fun V l A hV => ?_) LN _ (by rw [cx_subc (by omega) (by omega)]; omega) (Nat.le_refl _) _ _ (fun j s h1 h2 h3 => ?_)
    · refine ex_aload_n cg_10 (ix := 52) (pc' := 89) rfl rfl rfl ?_
      refine ex_callV cg_10 (ix := 53) (pc' := 92) (As := []) (r := []) rfl rfl rfl (ct_cs (lo := lo) (fo := fo) (kn := kn) (lm := lm) (fm := fm) (fb := fb) (V := V) (LN := LN) (FN := FN) (jc := jc) (us := us) hlo hL hfo hF hV) (by first | decide | omega) rfl rfl rfl ⟨rfl, rfl, rfl, rfl, rfl, rfl, rfl, rfl, rfl, rfl, rfl, rfl, rfl, rfl, trivial⟩ rfl rfl (fun v h2 hq => ?_)
      obtain ⟨rfl, jc2, us2, fb2, rfl, hJR, hfr⟩ := hq
      show cx_T _ 10 _ 92 ([some (.inr (.inl 87)), some (.inl (.int ((Int32.ofInt 1) <<< (fo &&& 31)))), some (.inl (.int l)), A], [], [(87, .inl (0, [.inr (.inl 88), .inr (.inl 89), .inr (.inl 90), .inr (.inl 100), .inl (.int lo), .inl (.int fo), .inl (.int jc2), .inl (.int us2), .inl (.int kn)])), (88, .inr (.inl (0, 8, lm))), (89, .inr (.inl (0, 8, fm))), (90, .inr (.inr (.inr (3, [91, 92, 93, 94, 95, 96, 97, 98, 99])))), (91, .inr (.inl (0, 256, V 0))), (92, .inr (.inl (0, 256, V 1))), (93, .inr (.inl (0, 256, V 2))), (94, .inr (.inl (0, 256, V 3))), (95, .inr (.inl (0, 256, V 4))), (96, .inr (.inl (0, 256, V 5))), (97, .inr (.inl (0, 256, V 6))), (98, .inr (.inl (0, 256, V 7))), (99, .inr (.inl (0, 256, V 8))), (100, .inr (.inl (0, 8, fb2)))]) _
      refine ex_aload_n cg_10 (ix := 54) (pc' := 93) rfl rfl rfl ?_
      refine ex_iconst cg_10 (ix := 55) (pc' := 94) rfl rfl ?_
      refine ex_putfield cg_10 (ix := 56) (pc' := 97) (h' := [(87, .inl (0, [.inr (.inl 88), .inr (.inl 89), .inr (.inl 90), .inr (.inl 100), .inl (.int lo), .inl (.int fo), .inl (.int jc2), .inl (.int us2), .inl (.int (Int32.ofInt 1))])), (88, .inr (.inl (0, 8, lm))), (89, .inr (.inl (0, 8, fm))), (90, .inr (.inr (.inr (3, [91, 92, 93, 94, 95, 96, 97, 98, 99])))), (91, .inr (.inl (0, 256, V 0))), (92, .inr (.inl (0, 256, V 1))), (93, .inr (.inl (0, 256, V 2))), (94, .inr (.inl (0, 256, V 3))), (95, .inr (.inl (0, 256, V 4))), (96, .inr (.inl (0, 256, V 5))), (97, .inr (.inl (0, 256, V 6))), (98, .inr (.inl (0, 256, V 7))), (99, .inr (.inl (0, 256, V 8))), (100, .inr (.inl (0, 8, fb2)))]) rfl rfl rfl rfl rfl rfl rfl rfl ?_
      refine ex_return_ cg_10 (ix := 57) rfl ?_
      refine ⟨rfl, jc2, us2, _, fb2, V, rfl, hJR, rfl, fun x hx => ?_⟩
      by_cases q : x < LN
      · rw [hJR.2.2 x q]; exact jA_b hF
      · rw [hfr x q]; exact hFB x hx
    · have e1 : j = LN := by omega
      rw [e1, up2_me]
      show (if s < 256 then Int32.ofInt 0 else V LN s).toInt = jW 64 (uN lm fm) FN LN (LN - LN) s
      rw [if_pos (by have := p2_le hF; omega), Nat.sub_self, jW]
      decide +kernel
  · have hb4 : ¬ (kn.toInt = 0) := hb4
    refine ex_return_ cg_10 (ix := 3) rfl ?_
    have hk1 : kn = Int32.ofInt 1 := by
      rcases hkn with q | q
      · rw [q] at hb4; exact absurd kc0 hb4
      · exact q
    exact ⟨rfl, jc, us, kn, fb, V, rfl, hJ hk1, hk1, hFB⟩
theorem ct_joinCo {lo fo jc us kn : Int32} {lm fm fb : Nat → Int32} {LN FN : Nat} {V : Nat → Nat → Int32} (hlo : lo.toInt = (LN : Int)) (hL : LN ≤ 8) (hfo : fo.toInt = (FN : Int)) (hF : FN ≤ 8) (hkn : kn = Int32.ofInt 0 ∨ kn = Int32.ofInt 1) (hJ : kn = Int32.ofInt 1 → JR lm fm LN FN fb jc us) (hFB : FB fb) : cx_Ct 6 5 [.inr (.inl 87)] ([(87, .inl (0, [.inr (.inl 88), .inr (.inl 89), .inr (.inl 90), .inr (.inl 100), .inl (.int lo), .inl (.int fo), .inl (.int jc), .inl (.int us), .inl (.int kn)])), (88, .inr (.inl (0, 8, lm))), (89, .inr (.inl (0, 8, fm))), (90, .inr (.inr (.inr (3, [91, 92, 93, 94, 95, 96, 97, 98, 99])))), (91, .inr (.inl (0, 256, V 0))), (92, .inr (.inl (0, 256, V 1))), (93, .inr (.inl (0, 256, V 2))), (94, .inr (.inl (0, 256, V 3))), (95, .inr (.inl (0, 256, V 4))), (96, .inr (.inl (0, 256, V 5))), (97, .inr (.inl (0, 256, V 6))), (98, .inr (.inl (0, 256, V 7))), (99, .inr (.inl (0, 256, V 8))), (100, .inr (.inl (0, 8, fb)))]) (fun v h2 => ∃ (jc2 us2 kn2 : Int32) (fb2 : Nat → Int32) (V2 : Nat → Nat → Int32), v = some (.inl (.int jc2)) ∧ h2 = h_ch lo fo jc2 us2 kn2 lm fm fb2 V2 ∧ JR lm fm LN FN fb2 jc2 us2 ∧ kn2 = Int32.ofInt 1 ∧ FB fb2) := by
  refine cx_Ct.of cg_5 (nL := 1) rfl rfl rfl ?_
  show cx_T 6 5 [87, 88, 89, 90, 91, 92, 93, 94, 95, 96, 97, 98, 99, 100] 0 ([some (.inr (.inl 87))], [], [(87, .inl (0, [.inr (.inl 88), .inr (.inl 89), .inr (.inl 90), .inr (.inl 100), .inl (.int lo), .inl (.int fo), .inl (.int jc), .inl (.int us), .inl (.int kn)])), (88, .inr (.inl (0, 8, lm))), (89, .inr (.inl (0, 8, fm))), (90, .inr (.inr (.inr (3, [91, 92, 93, 94, 95, 96, 97, 98, 99])))), (91, .inr (.inl (0, 256, V 0))), (92, .inr (.inl (0, 256, V 1))), (93, .inr (.inl (0, 256, V 2))), (94, .inr (.inl (0, 256, V 3))), (95, .inr (.inl (0, 256, V 4))), (96, .inr (.inl (0, 256, V 5))), (97, .inr (.inl (0, 256, V 6))), (98, .inr (.inl (0, 256, V 7))), (99, .inr (.inl (0, 256, V 8))), (100, .inr (.inl (0, 8, fb)))]) _
  refine ex_aload_n cg_5 (ix := 0) (pc' := 1) rfl rfl rfl ?_
  refine ex_callV cg_5 (ix := 1) (pc' := 4) (As := []) (r := []) rfl rfl rfl (ct_join (lo := lo) (fo := fo) (jc := jc) (us := us) (kn := kn) (lm := lm) (fm := fm) (fb := fb) (V := V) (LN := LN) (FN := FN) hlo hL hfo hF hkn hJ hFB) (by first | decide | omega) rfl rfl rfl ⟨rfl, rfl, rfl, rfl, rfl, rfl, rfl, rfl, rfl, rfl, rfl, rfl, rfl, rfl, trivial⟩ rfl rfl (fun v h2 hq => ?_)
  obtain ⟨rfl, jc2, us2, kn2, fb2, V2, rfl, hJR, hk2, hFB2⟩ := hq
  show cx_T _ 5 _ 4 ([some (.inr (.inl 87))], [], [(87, .inl (0, [.inr (.inl 88), .inr (.inl 89), .inr (.inl 90), .inr (.inl 100), .inl (.int lo), .inl (.int fo), .inl (.int jc2), .inl (.int us2), .inl (.int kn2)])), (88, .inr (.inl (0, 8, lm))), (89, .inr (.inl (0, 8, fm))), (90, .inr (.inr (.inr (3, [91, 92, 93, 94, 95, 96, 97, 98, 99])))), (91, .inr (.inl (0, 256, V2 0))), (92, .inr (.inl (0, 256, V2 1))), (93, .inr (.inl (0, 256, V2 2))), (94, .inr (.inl (0, 256, V2 3))), (95, .inr (.inl (0, 256, V2 4))), (96, .inr (.inl (0, 256, V2 5))), (97, .inr (.inl (0, 256, V2 6))), (98, .inr (.inl (0, 256, V2 7))), (99, .inr (.inl (0, 256, V2 8))), (100, .inr (.inl (0, 8, fb2)))]) _
  refine ex_aload_n cg_5 (ix := 2) (pc' := 5) rfl rfl rfl ?_
  refine ex_getfield cg_5 (ix := 3) (pc' := 8) rfl rfl rfl rfl rfl ?_
  refine ex_ireturn cg_5 (ix := 4) rfl ?_
  exact ⟨jc2, us2, kn2, fb2, V2, rfl, rfl, hJR, hk2, hFB2⟩
theorem ct_unlike {lo fo jc us kn : Int32} {lm fm fb : Nat → Int32} {LN FN : Nat} {V : Nat → Nat → Int32} (hlo : lo.toInt = (LN : Int)) (hL : LN ≤ 8) (hfo : fo.toInt = (FN : Int)) (hF : FN ≤ 8) (hkn : kn = Int32.ofInt 0 ∨ kn = Int32.ofInt 1) (hJ : kn = Int32.ofInt 1 → JR lm fm LN FN fb jc us) (hFB : FB fb) : cx_Ct 6 6 [.inr (.inl 87)] ([(87, .inl (0, [.inr (.inl 88), .inr (.inl 89), .inr (.inl 90), .inr (.inl 100), .inl (.int lo), .inl (.int fo), .inl (.int jc), .inl (.int us), .inl (.int kn)])), (88, .inr (.inl (0, 8, lm))), (89, .inr (.inl (0, 8, fm))), (90, .inr (.inr (.inr (3, [91, 92, 93, 94, 95, 96, 97, 98, 99])))), (91, .inr (.inl (0, 256, V 0))), (92, .inr (.inl (0, 256, V 1))), (93, .inr (.inl (0, 256, V 2))), (94, .inr (.inl (0, 256, V 3))), (95, .inr (.inl (0, 256, V 4))), (96, .inr (.inl (0, 256, V 5))), (97, .inr (.inl (0, 256, V 6))), (98, .inr (.inl (0, 256, V 7))), (99, .inr (.inl (0, 256, V 8))), (100, .inr (.inl (0, 8, fb)))]) (fun v h2 => ∃ (jc2 us2 kn2 : Int32) (fb2 : Nat → Int32) (V2 : Nat → Nat → Int32), v = some (.inl (.int us2)) ∧ h2 = h_ch lo fo jc2 us2 kn2 lm fm fb2 V2 ∧ JR lm fm LN FN fb2 jc2 us2 ∧ kn2 = Int32.ofInt 1 ∧ FB fb2) := by
  refine cx_Ct.of cg_6 (nL := 1) rfl rfl rfl ?_
  show cx_T 6 6 [87, 88, 89, 90, 91, 92, 93, 94, 95, 96, 97, 98, 99, 100] 0 ([some (.inr (.inl 87))], [], [(87, .inl (0, [.inr (.inl 88), .inr (.inl 89), .inr (.inl 90), .inr (.inl 100), .inl (.int lo), .inl (.int fo), .inl (.int jc), .inl (.int us), .inl (.int kn)])), (88, .inr (.inl (0, 8, lm))), (89, .inr (.inl (0, 8, fm))), (90, .inr (.inr (.inr (3, [91, 92, 93, 94, 95, 96, 97, 98, 99])))), (91, .inr (.inl (0, 256, V 0))), (92, .inr (.inl (0, 256, V 1))), (93, .inr (.inl (0, 256, V 2))), (94, .inr (.inl (0, 256, V 3))), (95, .inr (.inl (0, 256, V 4))), (96, .inr (.inl (0, 256, V 5))), (97, .inr (.inl (0, 256, V 6))), (98, .inr (.inl (0, 256, V 7))), (99, .inr (.inl (0, 256, V 8))), (100, .inr (.inl (0, 8, fb)))]) _
  refine ex_aload_n cg_6 (ix := 0) (pc' := 1) rfl rfl rfl ?_
  refine ex_callV cg_6 (ix := 1) (pc' := 4) (As := []) (r := []) rfl rfl rfl (ct_join (lo := lo) (fo := fo) (jc := jc) (us := us) (kn := kn) (lm := lm) (fm := fm) (fb := fb) (V := V) (LN := LN) (FN := FN) hlo hL hfo hF hkn hJ hFB) (by first | decide | omega) rfl rfl rfl ⟨rfl, rfl, rfl, rfl, rfl, rfl, rfl, rfl, rfl, rfl, rfl, rfl, rfl, rfl, trivial⟩ rfl rfl (fun v h2 hq => ?_)
  obtain ⟨rfl, jc2, us2, kn2, fb2, V2, rfl, hJR, hk2, hFB2⟩ := hq
  show cx_T _ 6 _ 4 ([some (.inr (.inl 87))], [], [(87, .inl (0, [.inr (.inl 88), .inr (.inl 89), .inr (.inl 90), .inr (.inl 100), .inl (.int lo), .inl (.int fo), .inl (.int jc2), .inl (.int us2), .inl (.int kn2)])), (88, .inr (.inl (0, 8, lm))), (89, .inr (.inl (0, 8, fm))), (90, .inr (.inr (.inr (3, [91, 92, 93, 94, 95, 96, 97, 98, 99])))), (91, .inr (.inl (0, 256, V2 0))), (92, .inr (.inl (0, 256, V2 1))), (93, .inr (.inl (0, 256, V2 2))), (94, .inr (.inl (0, 256, V2 3))), (95, .inr (.inl (0, 256, V2 4))), (96, .inr (.inl (0, 256, V2 5))), (97, .inr (.inl (0, 256, V2 6))), (98, .inr (.inl (0, 256, V2 7))), (99, .inr (.inl (0, 256, V2 8))), (100, .inr (.inl (0, 8, fb2)))]) _
  refine ex_aload_n cg_6 (ix := 2) (pc' := 5) rfl rfl rfl ?_
  refine ex_getfield cg_6 (ix := 3) (pc' := 8) rfl rfl rfl rfl rfl ?_
  refine ex_ireturn cg_6 (ix := 4) rfl ?_
  exact ⟨jc2, us2, kn2, fb2, V2, rfl, rfl, hJR, hk2, hFB2⟩
theorem ct_fof {lo fo jc us kn : Int32} {lm fm fb : Nat → Int32} {LN FN : Nat} {V : Nat → Nat → Int32} {x : Int32} (hlo : lo.toInt = (LN : Int)) (hL : LN ≤ 8) (hfo : fo.toInt = (FN : Int)) (hF : FN ≤ 8) (hkn : kn = Int32.ofInt 0 ∨ kn = Int32.ofInt 1) (hJ : kn = Int32.ofInt 1 → JR lm fm LN FN fb jc us) (hFB : FB fb) (hx0 : 0 ≤ x.toInt) (hx1 : x.toInt < 8) : cx_Ct 6 7 [.inr (.inl 87), .inl (.int x)] ([(87, .inl (0, [.inr (.inl 88), .inr (.inl 89), .inr (.inl 90), .inr (.inl 100), .inl (.int lo), .inl (.int fo), .inl (.int jc), .inl (.int us), .inl (.int kn)])), (88, .inr (.inl (0, 8, lm))), (89, .inr (.inl (0, 8, fm))), (90, .inr (.inr (.inr (3, [91, 92, 93, 94, 95, 96, 97, 98, 99])))), (91, .inr (.inl (0, 256, V 0))), (92, .inr (.inl (0, 256, V 1))), (93, .inr (.inl (0, 256, V 2))), (94, .inr (.inl (0, 256, V 3))), (95, .inr (.inl (0, 256, V 4))), (96, .inr (.inl (0, 256, V 5))), (97, .inr (.inl (0, 256, V 6))), (98, .inr (.inl (0, 256, V 7))), (99, .inr (.inl (0, 256, V 8))), (100, .inr (.inl (0, 8, fb)))]) (fun v h2 => ∃ (jc2 us2 kn2 : Int32) (fb2 : Nat → Int32) (V2 : Nat → Nat → Int32), v = some (.inl (.int (fb2 x.toNatClampNeg))) ∧ h2 = h_ch lo fo jc2 us2 kn2 lm fm fb2 V2 ∧ JR lm fm LN FN fb2 jc2 us2 ∧ kn2 = Int32.ofInt 1 ∧ FB fb2) := by
  refine cx_Ct.of cg_7 (nL := 2) rfl rfl rfl ?_
  show cx_T 6 7 [87, 88, 89, 90, 91, 92, 93, 94, 95, 96, 97, 98, 99, 100] 0 ([some (.inr (.inl 87)), some (.inl (.int x))], [], [(87, .inl (0, [.inr (.inl 88), .inr (.inl 89), .inr (.inl 90), .inr (.inl 100), .inl (.int lo), .inl (.int fo), .inl (.int jc), .inl (.int us), .inl (.int kn)])), (88, .inr (.inl (0, 8, lm))), (89, .inr (.inl (0, 8, fm))), (90, .inr (.inr (.inr (3, [91, 92, 93, 94, 95, 96, 97, 98, 99])))), (91, .inr (.inl (0, 256, V 0))), (92, .inr (.inl (0, 256, V 1))), (93, .inr (.inl (0, 256, V 2))), (94, .inr (.inl (0, 256, V 3))), (95, .inr (.inl (0, 256, V 4))), (96, .inr (.inl (0, 256, V 5))), (97, .inr (.inl (0, 256, V 6))), (98, .inr (.inl (0, 256, V 7))), (99, .inr (.inl (0, 256, V 8))), (100, .inr (.inl (0, 8, fb)))]) _
  refine ex_aload_n cg_7 (ix := 0) (pc' := 1) rfl rfl rfl ?_
  refine ex_callV cg_7 (ix := 1) (pc' := 4) (As := []) (r := []) rfl rfl rfl (ct_join (lo := lo) (fo := fo) (jc := jc) (us := us) (kn := kn) (lm := lm) (fm := fm) (fb := fb) (V := V) (LN := LN) (FN := FN) hlo hL hfo hF hkn hJ hFB) (by first | decide | omega) rfl rfl rfl ⟨rfl, rfl, rfl, rfl, rfl, rfl, rfl, rfl, rfl, rfl, rfl, rfl, rfl, rfl, trivial⟩ rfl rfl (fun v h2 hq => ?_)
  obtain ⟨rfl, jc2, us2, kn2, fb2, V2, rfl, hJR, hk2, hFB2⟩ := hq
  show cx_T _ 7 _ 4 ([some (.inr (.inl 87)), some (.inl (.int x))], [], [(87, .inl (0, [.inr (.inl 88), .inr (.inl 89), .inr (.inl 90), .inr (.inl 100), .inl (.int lo), .inl (.int fo), .inl (.int jc2), .inl (.int us2), .inl (.int kn2)])), (88, .inr (.inl (0, 8, lm))), (89, .inr (.inl (0, 8, fm))), (90, .inr (.inr (.inr (3, [91, 92, 93, 94, 95, 96, 97, 98, 99])))), (91, .inr (.inl (0, 256, V2 0))), (92, .inr (.inl (0, 256, V2 1))), (93, .inr (.inl (0, 256, V2 2))), (94, .inr (.inl (0, 256, V2 3))), (95, .inr (.inl (0, 256, V2 4))), (96, .inr (.inl (0, 256, V2 5))), (97, .inr (.inl (0, 256, V2 6))), (98, .inr (.inl (0, 256, V2 7))), (99, .inr (.inl (0, 256, V2 8))), (100, .inr (.inl (0, 8, fb2)))]) _
  refine ex_aload_n cg_7 (ix := 2) (pc' := 5) rfl rfl rfl ?_
  refine ex_getfield cg_7 (ix := 3) (pc' := 8) rfl rfl rfl rfl rfl ?_
  refine ex_iload_n cg_7 (ix := 4) (pc' := 9) rfl rfl rfl ?_
  refine ex_iaload cg_7 (ix := 5) (pc' := 10) rfl rfl (by omega) (by omega) rfl ?_
  refine ex_ireturn cg_7 (ix := 6) rfl ?_
  exact ⟨jc2, us2, kn2, fb2, V2, rfl, rfl, hJR, hk2, hFB2⟩
theorem ct_isl {lo fo jc us kn : Int32} {x : Int32} : cx_Ct 2 4 [.inr (.inl 87), .inl (.int x)] ([(87, .inl (0, [.inr (.inl 88), .inr (.inl 89), .inr (.inl 90), .inr (.inl 100), .inl (.int lo), .inl (.int fo), .inl (.int jc), .inl (.int us), .inl (.int kn)]))]) (fun v h2 => ∃ z : Int32, v = some (.inl (.int z)) ∧ h2 = [(87, .inl (0, [.inr (.inl 88), .inr (.inl 89), .inr (.inl 90), .inr (.inl 100), .inl (.int lo), .inl (.int fo), .inl (.int jc), .inl (.int us), .inl (.int kn)]))] ∧ ((0 ≤ x.toInt ∧ x.toInt < lo.toInt) ∧ z = Int32.ofInt 1 ∨ ¬ (0 ≤ x.toInt ∧ x.toInt < lo.toInt) ∧ z = Int32.ofInt 0)) := by
  have kc1 : (Int32.ofInt 1).toInt = 1 := by decide +kernel
  have kc0 : (Int32.ofInt 0).toInt = 0 := by decide +kernel
  refine cx_Ct.of cg_4 (nL := 2) rfl rfl rfl ?_
  show cx_T 2 4 [87] 0 ([some (.inr (.inl 87)), some (.inl (.int x))], [], ([(87, .inl (0, [.inr (.inl 88), .inr (.inl 89), .inr (.inl 90), .inr (.inl 100), .inl (.int lo), .inl (.int fo), .inl (.int jc), .inl (.int us), .inl (.int kn)]))])) _
  refine ex_iload_n cg_4 (ix := 0) (pc' := 1) rfl rfl rfl ?_
  refine ex_if cg_4 (ix := 1) (t := 16) (pc' := 4) rfl rfl rfl (fun hb1 => ?_) (fun hb1 => ?_)
  · have hb1 : x.toInt < 0 := hb1
    refine ex_iconst cg_4 (ix := 8) (pc' := 17) rfl rfl ?_
    refine ex_zreturn cg_4 (ix := 9) rfl (by first | exact Or.inl rfl | exact Or.inr rfl | (first | exact Or.inr rfl | exact Or.inl rfl)) ?_
    exact ⟨_, rfl, rfl, Or.inr ⟨by omega, rfl⟩⟩
  · have hb1 : ¬ (x.toInt < 0) := hb1
    refine ex_iload_n cg_4 (ix := 2) (pc' := 5) rfl rfl rfl ?_
    refine ex_aload_n cg_4 (ix := 3) (pc' := 6) rfl rfl rfl ?_
    refine ex_getfield cg_4 (ix := 4) (pc' := 9) rfl rfl rfl rfl rfl ?_
    refine ex_icmp cg_4 (ix := 5) (t := 16) (pc' := 12) rfl rfl rfl (fun hb9 => ?_) (fun hb9 => ?_)
    · have hb9 : lo.toInt ≤ x.toInt := hb9
      refine ex_iconst cg_4 (ix := 8) (pc' := 17) rfl rfl ?_
      refine ex_zreturn cg_4 (ix := 9) rfl (by first | exact Or.inl rfl | exact Or.inr rfl | (first | exact Or.inr rfl | exact Or.inl rfl)) ?_
      exact ⟨_, rfl, rfl, Or.inr ⟨by omega, rfl⟩⟩
    · have hb9 : ¬ (lo.toInt ≤ x.toInt) := hb9
      refine ex_iconst cg_4 (ix := 6) (pc' := 13) rfl rfl ?_
      refine ex_goto cg_4 (ix := 7) (pc' := 17) rfl rfl ?_
      refine ex_zreturn cg_4 (ix := 9) rfl (by first | exact Or.inl rfl | exact Or.inr rfl | (first | exact Or.inr rfl | exact Or.inl rfl)) ?_
      exact ⟨_, rfl, rfl, Or.inl ⟨by omega, rfl⟩⟩
theorem suP_F {u : Nat → Nat → Int} {F L k j x : Nat} (hx : x < F) (h1 : ¬ x = j) (h2 : ¬ u k j < u k x) : ¬ suP u F L k j := fun q => h2 (q.1 x hx h1)
theorem suP_L {u : Nat → Nat → Int} {F L k j x : Nat} (hx : x < L) (h1 : ¬ x = k) (h2 : ¬ u k j < u x j) : ¬ suP u F L k j := fun q => h2 (q.2 x hx h1)
theorem su_l1 {lo fo jc us kn : Int32} {lm fm fb : Nat → Int32} {V : Nat → Nat → Int32} {LN FN kN jN_ : Nat} {x fd ow : Int32} {P : Option cx_V → cx_H → Prop} (hlo : lo.toInt = (LN : Int)) (hL : LN ≤ 8) (hfo : fo.toInt = (FN : Int)) (hF : FN ≤ 8) (hx : x.toInt = (kN : Int)) (hkL : kN < LN) (hfd : fd.toInt = (jN_ : Int)) (hjF : jN_ < FN) (how : ow.toInt = uN lm fm kN jN_) (hP : ∀ i : Int32, (∀ y : Nat, y < FN → ¬ y = jN_ → uN lm fm kN jN_ < uN lm fm kN y) → cx_T 7 8 [87, 88, 89, 90, 91, 92, 93, 94, 95, 96, 97, 98, 99, 100] 63 ([some (.inr (.inl 87)), some (.inl (.int x)), some (.inl (.int fd)), some (.inl (.int ow)), some (.inl (.int i))], [], [(87, .inl (0, [.inr (.inl 88), .inr (.inl 89), .inr (.inl 90), .inr (.inl 100), .inl (.int lo), .inl (.int fo), .inl (.int jc), .inl (.int us), .inl (.int kn)])), (88, .inr (.inl (0, 8, lm))), (89, .inr (.inl (0, 8, fm))), (90, .inr (.inr (.inr (3, [91, 92, 93, 94, 95, 96, 97, 98, 99])))), (91, .inr (.inl (0, 256, V 0))), (92, .inr (.inl (0, 256, V 1))), (93, .inr (.inl (0, 256, V 2))), (94, .inr (.inl (0, 256, V 3))), (95, .inr (.inl (0, 256, V 4))), (96, .inr (.inl (0, 256, V 5))), (97, .inr (.inl (0, 256, V 6))), (98, .inr (.inl (0, 256, V 7))), (99, .inr (.inl (0, 256, V 8))), (100, .inr (.inl (0, 8, fb)))]) P) (hP0 : ∀ z : Int32, z = Int32.ofInt 0 → ¬ suP (uN lm fm) FN LN kN jN_ → P (some (.inl (.int z))) ([(87, .inl (0, [.inr (.inl 88), .inr (.inl 89), .inr (.inl 90), .inr (.inl 100), .inl (.int lo), .inl (.int fo), .inl (.int jc), .inl (.int us), .inl (.int kn)])), (88, .inr (.inl (0, 8, lm))), (89, .inr (.inl (0, 8, fm))), (90, .inr (.inr (.inr (3, [91, 92, 93, 94, 95, 96, 97, 98, 99])))), (91, .inr (.inl (0, 256, V 0))), (92, .inr (.inl (0, 256, V 1))), (93, .inr (.inl (0, 256, V 2))), (94, .inr (.inl (0, 256, V 3))), (95, .inr (.inl (0, 256, V 4))), (96, .inr (.inl (0, 256, V 5))), (97, .inr (.inl (0, 256, V 6))), (98, .inr (.inl (0, 256, V 7))), (99, .inr (.inl (0, 256, V 8))), (100, .inr (.inl (0, 8, fb)))])) (hP9 : True) :
    ∀ (m k : Nat), k + m = FN → ∀ i : Int32, i.toInt = (k : Int) → (∀ y : Nat, y < k → ¬ y = jN_ → uN lm fm kN jN_ < uN lm fm kN y) → cx_T 7 8 [87, 88, 89, 90, 91, 92, 93, 94, 95, 96, 97, 98, 99, 100] 29 ([some (.inr (.inl 87)), some (.inl (.int x)), some (.inl (.int fd)), some (.inl (.int ow)), some (.inl (.int i))], [], [(87, .inl (0, [.inr (.inl 88), .inr (.inl 89), .inr (.inl 90), .inr (.inl 100), .inl (.int lo), .inl (.int fo), .inl (.int jc), .inl (.int us), .inl (.int kn)])), (88, .inr (.inl (0, 8, lm))), (89, .inr (.inl (0, 8, fm))), (90, .inr (.inr (.inr (3, [91, 92, 93, 94, 95, 96, 97, 98, 99])))), (91, .inr (.inl (0, 256, V 0))), (92, .inr (.inl (0, 256, V 1))), (93, .inr (.inl (0, 256, V 2))), (94, .inr (.inl (0, 256, V 3))), (95, .inr (.inl (0, 256, V 4))), (96, .inr (.inl (0, 256, V 5))), (97, .inr (.inl (0, 256, V 6))), (98, .inr (.inl (0, 256, V 7))), (99, .inr (.inl (0, 256, V 8))), (100, .inr (.inl (0, 8, fb)))]) P := by
  have kcm9 : (Int32.ofInt (-9)).toInt = -9 := by decide +kernel
  have kc0 : (Int32.ofInt 0).toInt = 0 := by decide +kernel
  have kc1 : (Int32.ofInt 1).toInt = 1 := by decide +kernel
  intro m
  induction m with
  | zero =>
    intro k hk i hi hq0
    have ek : k = FN := by omega
    refine ex_iload cg_8 (ix := 19) (pc' := 31) rfl rfl rfl ?_
    refine ex_aload_n cg_8 (ix := 20) (pc' := 32) rfl rfl rfl ?_
    refine ex_getfield cg_8 (ix := 21) (pc' := 35) rfl rfl rfl rfl rfl ?_
    refine ex_icmp cg_8 (ix := 22) (t := 63) (pc' := 38) rfl rfl rfl (fun hb35 => ?_) (fun hb35 => ?_)
    · have hb35 : fo.toInt ≤ i.toInt := hb35
      rw [ek] at hq0
      exact hP i hq0
    · have hb35 : ¬ (fo.toInt ≤ i.toInt) := hb35
      exfalso; first | omega | exact absurd hb35 (by decide +kernel)
  | succ m ih =>
    intro k hk i hi hq0
    have hik : i.toNatClampNeg = k := cx_clamp hi
    have hkk : k < FN := by omega
    refine ex_iload cg_8 (ix := 19) (pc' := 31) rfl rfl rfl ?_
    refine ex_aload_n cg_8 (ix := 20) (pc' := 32) rfl rfl rfl ?_
    refine ex_getfield cg_8 (ix := 21) (pc' := 35) rfl rfl rfl rfl rfl ?_
    refine ex_icmp cg_8 (ix := 22) (t := 63) (pc' := 38) rfl rfl rfl (fun hb35 => ?_) (fun hb35 => ?_)
    · have hb35 : fo.toInt ≤ i.toInt := hb35
      exfalso; first | omega | exact absurd hb35 (by decide +kernel)
    · have hb35 : ¬ (fo.toInt ≤ i.toInt) := hb35
      refine ex_iload cg_8 (ix := 23) (pc' := 40) rfl rfl rfl ?_
      refine ex_iload_n cg_8 (ix := 24) (pc' := 41) rfl rfl rfl ?_
      refine ex_icmp cg_8 (ix := 25) (t := 57) (pc' := 44) rfl rfl rfl (fun hb41 => ?_) (fun hb41 => ?_)
      · have hb41 : i.toInt = fd.toInt := hb41
        refine ex_iinc cg_8 (ix := 34) (pc' := 60) (L' := [some (.inr (.inl 87)), some (.inl (.int x)), some (.inl (.int fd)), some (.inl (.int ow)), some (.inl (.int (i + Int32.ofInt 1)))]) rfl rfl rfl rfl rfl ?_
        refine ex_goto cg_8 (ix := 35) (pc' := 29) rfl rfl ?_
        exact ih (k + 1) (by omega) _ (by rw [cx_addc (by omega) (by omega)]; omega) (fun y hy => by
          by_cases q : y = k
          · rw [q]; intro hne; omega
          · exact hq0 y (by omega))
      · have hb41 : ¬ (i.toInt = fd.toInt) := hb41
        refine ex_aload_n cg_8 (ix := 26) (pc' := 45) rfl rfl rfl ?_
        refine ex_iload_n cg_8 (ix := 27) (pc' := 46) rfl rfl rfl ?_
        refine ex_iload cg_8 (ix := 28) (pc' := 48) rfl rfl rfl ?_
        refine ex_callV cg_8 (ix := 29) (pc' := 51) (As := [.inl (.int x), .inl (.int i)]) (r := []) rfl rfl rfl (ct_ul (lo := lo) (fo := fo) (jc := jc) (us := us) (kn := kn) (lm := lm) (fm := fm) (x := x) (y := i) (kx := kN) (ky := k) hx (by omega) hi (by omega)) (by first | decide | omega) rfl rfl rfl ⟨rfl, rfl, rfl, trivial⟩ rfl rfl (fun v h2 hq => ?_)
        obtain ⟨un, rfl, rfl, hun⟩ := hq
        have hub := uN_b (lm := lm) (fm := fm) kN k
        show cx_T _ 8 _ 51 ([some (.inr (.inl 87)), some (.inl (.int x)), some (.inl (.int fd)), some (.inl (.int ow)), some (.inl (.int i))], [.inl (.int un)], [(87, .inl (0, [.inr (.inl 88), .inr (.inl 89), .inr (.inl 90), .inr (.inl 100), .inl (.int lo), .inl (.int fo), .inl (.int jc), .inl (.int us), .inl (.int kn)])), (88, .inr (.inl (0, 8, lm))), (89, .inr (.inl (0, 8, fm))), (90, .inr (.inr (.inr (3, [91, 92, 93, 94, 95, 96, 97, 98, 99])))), (91, .inr (.inl (0, 256, V 0))), (92, .inr (.inl (0, 256, V 1))), (93, .inr (.inl (0, 256, V 2))), (94, .inr (.inl (0, 256, V 3))), (95, .inr (.inl (0, 256, V 4))), (96, .inr (.inl (0, 256, V 5))), (97, .inr (.inl (0, 256, V 6))), (98, .inr (.inl (0, 256, V 7))), (99, .inr (.inl (0, 256, V 8))), (100, .inr (.inl (0, 8, fb)))]) _
        refine ex_iload_n cg_8 (ix := 30) (pc' := 52) rfl rfl rfl ?_
        refine ex_icmp cg_8 (ix := 31) (t := 57) (pc' := 55) rfl rfl rfl (fun hb52 => ?_) (fun hb52 => ?_)
        · have hb52 : ow.toInt < un.toInt := hb52
          refine ex_iinc cg_8 (ix := 34) (pc' := 60) (L' := [some (.inr (.inl 87)), some (.inl (.int x)), some (.inl (.int fd)), some (.inl (.int ow)), some (.inl (.int (i + Int32.ofInt 1)))]) rfl rfl rfl rfl rfl ?_
          refine ex_goto cg_8 (ix := 35) (pc' := 29) rfl rfl ?_
          exact ih (k + 1) (by omega) _ (by rw [cx_addc (by omega) (by omega)]; omega) (fun y hy => by
            by_cases q : y = k
            · rw [q]; intro hne; omega
            · exact hq0 y (by omega))
        · have hb52 : ¬ (ow.toInt < un.toInt) := hb52
          refine ex_iconst cg_8 (ix := 32) (pc' := 56) rfl rfl ?_
          refine ex_zreturn cg_8 (ix := 33) rfl (by first | exact Or.inl rfl | exact Or.inr rfl | (omega)) ?_
          exact hP0 _ rfl (suP_F hkk (fun z => by omega) (by omega))
theorem su_l2 {lo fo jc us kn : Int32} {lm fm fb : Nat → Int32} {V : Nat → Nat → Int32} {LN FN kN jN_ : Nat} {x fd ow : Int32} {P : Option cx_V → cx_H → Prop} (hlo : lo.toInt = (LN : Int)) (hL : LN ≤ 8) (hfo : fo.toInt = (FN : Int)) (hF : FN ≤ 8) (hx : x.toInt = (kN : Int)) (hkL : kN < LN) (hfd : fd.toInt = (jN_ : Int)) (hjF : jN_ < FN) (how : ow.toInt = uN lm fm kN jN_) (hP : ∀ z : Int32, z = Int32.ofInt 1 → (∀ y : Nat, y < LN → ¬ y = kN → uN lm fm kN jN_ < uN lm fm y jN_) → P (some (.inl (.int z))) ([(87, .inl (0, [.inr (.inl 88), .inr (.inl 89), .inr (.inl 90), .inr (.inl 100), .inl (.int lo), .inl (.int fo), .inl (.int jc), .inl (.int us), .inl (.int kn)])), (88, .inr (.inl (0, 8, lm))), (89, .inr (.inl (0, 8, fm))), (90, .inr (.inr (.inr (3, [91, 92, 93, 94, 95, 96, 97, 98, 99])))), (91, .inr (.inl (0, 256, V 0))), (92, .inr (.inl (0, 256, V 1))), (93, .inr (.inl (0, 256, V 2))), (94, .inr (.inl (0, 256, V 3))), (95, .inr (.inl (0, 256, V 4))), (96, .inr (.inl (0, 256, V 5))), (97, .inr (.inl (0, 256, V 6))), (98, .inr (.inl (0, 256, V 7))), (99, .inr (.inl (0, 256, V 8))), (100, .inr (.inl (0, 8, fb)))])) (hP0 : ∀ z : Int32, z = Int32.ofInt 0 → ¬ suP (uN lm fm) FN LN kN jN_ → P (some (.inl (.int z))) ([(87, .inl (0, [.inr (.inl 88), .inr (.inl 89), .inr (.inl 90), .inr (.inl 100), .inl (.int lo), .inl (.int fo), .inl (.int jc), .inl (.int us), .inl (.int kn)])), (88, .inr (.inl (0, 8, lm))), (89, .inr (.inl (0, 8, fm))), (90, .inr (.inr (.inr (3, [91, 92, 93, 94, 95, 96, 97, 98, 99])))), (91, .inr (.inl (0, 256, V 0))), (92, .inr (.inl (0, 256, V 1))), (93, .inr (.inl (0, 256, V 2))), (94, .inr (.inl (0, 256, V 3))), (95, .inr (.inl (0, 256, V 4))), (96, .inr (.inl (0, 256, V 5))), (97, .inr (.inl (0, 256, V 6))), (98, .inr (.inl (0, 256, V 7))), (99, .inr (.inl (0, 256, V 8))), (100, .inr (.inl (0, 8, fb)))])) (hP9 : True) :
    ∀ (m k : Nat), k + m = LN → ∀ i : Int32, i.toInt = (k : Int) → (∀ y : Nat, y < k → ¬ y = kN → uN lm fm kN jN_ < uN lm fm y jN_) → cx_T 7 8 [87, 88, 89, 90, 91, 92, 93, 94, 95, 96, 97, 98, 99, 100] 66 ([some (.inr (.inl 87)), some (.inl (.int x)), some (.inl (.int fd)), some (.inl (.int ow)), some (.inl (.int i))], [], [(87, .inl (0, [.inr (.inl 88), .inr (.inl 89), .inr (.inl 90), .inr (.inl 100), .inl (.int lo), .inl (.int fo), .inl (.int jc), .inl (.int us), .inl (.int kn)])), (88, .inr (.inl (0, 8, lm))), (89, .inr (.inl (0, 8, fm))), (90, .inr (.inr (.inr (3, [91, 92, 93, 94, 95, 96, 97, 98, 99])))), (91, .inr (.inl (0, 256, V 0))), (92, .inr (.inl (0, 256, V 1))), (93, .inr (.inl (0, 256, V 2))), (94, .inr (.inl (0, 256, V 3))), (95, .inr (.inl (0, 256, V 4))), (96, .inr (.inl (0, 256, V 5))), (97, .inr (.inl (0, 256, V 6))), (98, .inr (.inl (0, 256, V 7))), (99, .inr (.inl (0, 256, V 8))), (100, .inr (.inl (0, 8, fb)))]) P := by
  have kcm9 : (Int32.ofInt (-9)).toInt = -9 := by decide +kernel
  have kc0 : (Int32.ofInt 0).toInt = 0 := by decide +kernel
  have kc1 : (Int32.ofInt 1).toInt = 1 := by decide +kernel
  intro m
  induction m with
  | zero =>
    intro k hk i hi hq0
    have ek : k = LN := by omega
    refine ex_iload cg_8 (ix := 38) (pc' := 68) rfl rfl rfl ?_
    refine ex_aload_n cg_8 (ix := 39) (pc' := 69) rfl rfl rfl ?_
    refine ex_getfield cg_8 (ix := 40) (pc' := 72) rfl rfl rfl rfl rfl ?_
    refine ex_icmp cg_8 (ix := 41) (t := 100) (pc' := 75) rfl rfl rfl (fun hb72 => ?_) (fun hb72 => ?_)
    · have hb72 : lo.toInt ≤ i.toInt := hb72
      rw [ek] at hq0
      refine ex_iconst cg_8 (ix := 55) (pc' := 101) rfl rfl ?_
      refine ex_zreturn cg_8 (ix := 56) rfl (Or.inr rfl) ?_
      exact hP _ rfl hq0
    · have hb72 : ¬ (lo.toInt ≤ i.toInt) := hb72
      exfalso; first | omega | exact absurd hb72 (by decide +kernel)
  | succ m ih =>
    intro k hk i hi hq0
    have hik : i.toNatClampNeg = k := cx_clamp hi
    have hkk : k < LN := by omega
    refine ex_iload cg_8 (ix := 38) (pc' := 68) rfl rfl rfl ?_
    refine ex_aload_n cg_8 (ix := 39) (pc' := 69) rfl rfl rfl ?_
    refine ex_getfield cg_8 (ix := 40) (pc' := 72) rfl rfl rfl rfl rfl ?_
    refine ex_icmp cg_8 (ix := 41) (t := 100) (pc' := 75) rfl rfl rfl (fun hb72 => ?_) (fun hb72 => ?_)
    · have hb72 : lo.toInt ≤ i.toInt := hb72
      exfalso; first | omega | exact absurd hb72 (by decide +kernel)
    · have hb72 : ¬ (lo.toInt ≤ i.toInt) := hb72
      refine ex_iload cg_8 (ix := 42) (pc' := 77) rfl rfl rfl ?_
      refine ex_iload_n cg_8 (ix := 43) (pc' := 78) rfl rfl rfl ?_
      refine ex_icmp cg_8 (ix := 44) (t := 94) (pc' := 81) rfl rfl rfl (fun hb78 => ?_) (fun hb78 => ?_)
      · have hb78 : i.toInt = x.toInt := hb78
        refine ex_iinc cg_8 (ix := 53) (pc' := 97) (L' := [some (.inr (.inl 87)), some (.inl (.int x)), some (.inl (.int fd)), some (.inl (.int ow)), some (.inl (.int (i + Int32.ofInt 1)))]) rfl rfl rfl rfl rfl ?_
        refine ex_goto cg_8 (ix := 54) (pc' := 66) rfl rfl ?_
        exact ih (k + 1) (by omega) _ (by rw [cx_addc (by omega) (by omega)]; omega) (fun y hy => by
          by_cases q : y = k
          · rw [q]; intro hne; omega
          · exact hq0 y (by omega))
      · have hb78 : ¬ (i.toInt = x.toInt) := hb78
        refine ex_aload_n cg_8 (ix := 45) (pc' := 82) rfl rfl rfl ?_
        refine ex_iload cg_8 (ix := 46) (pc' := 84) rfl rfl rfl ?_
        refine ex_iload_n cg_8 (ix := 47) (pc' := 85) rfl rfl rfl ?_
        refine ex_callV cg_8 (ix := 48) (pc' := 88) (As := [.inl (.int i), .inl (.int fd)]) (r := []) rfl rfl rfl (ct_ul (lo := lo) (fo := fo) (jc := jc) (us := us) (kn := kn) (lm := lm) (fm := fm) (x := i) (y := fd) (kx := k) (ky := jN_) hi (by omega) hfd (by omega)) (by first | decide | omega) rfl rfl rfl ⟨rfl, rfl, rfl, trivial⟩ rfl rfl (fun v h2 hq => ?_)
        obtain ⟨un, rfl, rfl, hun⟩ := hq
        have hub := uN_b (lm := lm) (fm := fm) k jN_
        show cx_T _ 8 _ 88 ([some (.inr (.inl 87)), some (.inl (.int x)), some (.inl (.int fd)), some (.inl (.int ow)), some (.inl (.int i))], [.inl (.int un)], [(87, .inl (0, [.inr (.inl 88), .inr (.inl 89), .inr (.inl 90), .inr (.inl 100), .inl (.int lo), .inl (.int fo), .inl (.int jc), .inl (.int us), .inl (.int kn)])), (88, .inr (.inl (0, 8, lm))), (89, .inr (.inl (0, 8, fm))), (90, .inr (.inr (.inr (3, [91, 92, 93, 94, 95, 96, 97, 98, 99])))), (91, .inr (.inl (0, 256, V 0))), (92, .inr (.inl (0, 256, V 1))), (93, .inr (.inl (0, 256, V 2))), (94, .inr (.inl (0, 256, V 3))), (95, .inr (.inl (0, 256, V 4))), (96, .inr (.inl (0, 256, V 5))), (97, .inr (.inl (0, 256, V 6))), (98, .inr (.inl (0, 256, V 7))), (99, .inr (.inl (0, 256, V 8))), (100, .inr (.inl (0, 8, fb)))]) _
        refine ex_iload_n cg_8 (ix := 49) (pc' := 89) rfl rfl rfl ?_
        refine ex_icmp cg_8 (ix := 50) (t := 94) (pc' := 92) rfl rfl rfl (fun hb89 => ?_) (fun hb89 => ?_)
        · have hb89 : ow.toInt < un.toInt := hb89
          refine ex_iinc cg_8 (ix := 53) (pc' := 97) (L' := [some (.inr (.inl 87)), some (.inl (.int x)), some (.inl (.int fd)), some (.inl (.int ow)), some (.inl (.int (i + Int32.ofInt 1)))]) rfl rfl rfl rfl rfl ?_
          refine ex_goto cg_8 (ix := 54) (pc' := 66) rfl rfl ?_
          exact ih (k + 1) (by omega) _ (by rw [cx_addc (by omega) (by omega)]; omega) (fun y hy => by
            by_cases q : y = k
            · rw [q]; intro hne; omega
            · exact hq0 y (by omega))
        · have hb89 : ¬ (ow.toInt < un.toInt) := hb89
          refine ex_iconst cg_8 (ix := 51) (pc' := 93) rfl rfl ?_
          refine ex_zreturn cg_8 (ix := 52) rfl (by first | exact Or.inl rfl | exact Or.inr rfl | (omega)) ?_
          exact hP0 _ rfl (suP_L hkk (fun z => by omega) (by omega))
/-- a lost one is joined, and that is sure -/
def suA (u : Nat → Nat → Int) (c : Int) (FN LN kN : Nat) : Prop := jJ c u FN LN kN (jT c u FN LN kN) < FN ∧ suP u FN LN kN (jJ c u FN LN kN (jT c u FN LN kN))
theorem ct_isu {lo fo jc us kn : Int32} {lm fm fb : Nat → Int32} {LN FN : Nat} {V : Nat → Nat → Int32} {x : Int32} {kN : Nat} (hlo : lo.toInt = (LN : Int)) (hL : LN ≤ 8) (hfo : fo.toInt = (FN : Int)) (hF : FN ≤ 8) (hkn : kn = Int32.ofInt 0 ∨ kn = Int32.ofInt 1) (hJ : kn = Int32.ofInt 1 → JR lm fm LN FN fb jc us) (hFB : FB fb) (hx : x.toInt = (kN : Int)) (hkL : kN < LN) : cx_Ct 7 8 [.inr (.inl 87), .inl (.int x)] ([(87, .inl (0, [.inr (.inl 88), .inr (.inl 89), .inr (.inl 90), .inr (.inl 100), .inl (.int lo), .inl (.int fo), .inl (.int jc), .inl (.int us), .inl (.int kn)])), (88, .inr (.inl (0, 8, lm))), (89, .inr (.inl (0, 8, fm))), (90, .inr (.inr (.inr (3, [91, 92, 93, 94, 95, 96, 97, 98, 99])))), (91, .inr (.inl (0, 256, V 0))), (92, .inr (.inl (0, 256, V 1))), (93, .inr (.inl (0, 256, V 2))), (94, .inr (.inl (0, 256, V 3))), (95, .inr (.inl (0, 256, V 4))), (96, .inr (.inl (0, 256, V 5))), (97, .inr (.inl (0, 256, V 6))), (98, .inr (.inl (0, 256, V 7))), (99, .inr (.inl (0, 256, V 8))), (100, .inr (.inl (0, 8, fb)))]) (fun v h2 => ∃ (jc2 us2 kn2 : Int32) (fb2 : Nat → Int32) (V2 : Nat → Nat → Int32), (∃ z : Int32, v = some (.inl (.int z)) ∧ (suA (uN lm fm) 64 FN LN kN ∧ z = Int32.ofInt 1 ∨ ¬ suA (uN lm fm) 64 FN LN kN ∧ z = Int32.ofInt 0)) ∧ h2 = h_ch lo fo jc2 us2 kn2 lm fm fb2 V2 ∧ JR lm fm LN FN fb2 jc2 us2 ∧ kn2 = Int32.ofInt 1 ∧ FB fb2) := by
  have kcm9 : (Int32.ofInt (-9)).toInt = -9 := by decide +kernel
  have kc0 : (Int32.ofInt 0).toInt = 0 := by decide +kernel
  have kc1 : (Int32.ofInt 1).toInt = 1 := by decide +kernel
  refine cx_Ct.of cg_8 (nL := 5) rfl rfl rfl ?_
  show cx_T 7 8 [87, 88, 89, 90, 91, 92, 93, 94, 95, 96, 97, 98, 99, 100] 0 ([some (.inr (.inl 87)), some (.inl (.int x)), none, none, none], [], [(87, .inl (0, [.inr (.inl 88), .inr (.inl 89), .inr (.inl 90), .inr (.inl 100), .inl (.int lo), .inl (.int fo), .inl (.int jc), .inl (.int us), .inl (.int kn)])), (88, .inr (.inl (0, 8, lm))), (89, .inr (.inl (0, 8, fm))), (90, .inr (.inr (.inr (3, [91, 92, 93, 94, 95, 96, 97, 98, 99])))), (91, .inr (.inl (0, 256, V 0))), (92, .inr (.inl (0, 256, V 1))), (93, .inr (.inl (0, 256, V 2))), (94, .inr (.inl (0, 256, V 3))), (95, .inr (.inl (0, 256, V 4))), (96, .inr (.inl (0, 256, V 5))), (97, .inr (.inl (0, 256, V 6))), (98, .inr (.inl (0, 256, V 7))), (99, .inr (.inl (0, 256, V 8))), (100, .inr (.inl (0, 8, fb)))]) _
  refine ex_aload_n cg_8 (ix := 0) (pc' := 1) rfl rfl rfl ?_
  refine ex_callV cg_8 (ix := 1) (pc' := 4) (As := []) (r := []) rfl rfl rfl (ct_join (lo := lo) (fo := fo) (jc := jc) (us := us) (kn := kn) (lm := lm) (fm := fm) (fb := fb) (V := V) (LN := LN) (FN := FN) hlo hL hfo hF hkn hJ hFB) (by first | decide | omega) rfl rfl rfl ⟨rfl, rfl, rfl, rfl, rfl, rfl, rfl, rfl, rfl, rfl, rfl, rfl, rfl, rfl, trivial⟩ rfl rfl (fun v h2 hq => ?_)
  obtain ⟨rfl, jc2, us2, kn2, fb2, V2, rfl, hJR, hk2, hFB2⟩ := hq
  have hxk : x.toNatClampNeg = kN := cx_clamp hx
  have hfa : (fb2 x.toNatClampNeg).toInt = jA 64 (uN lm fm) FN LN kN := by rw [hxk]; exact hJR.2.2 kN hkL
  show cx_T _ 8 _ 4 ([some (.inr (.inl 87)), some (.inl (.int x)), none, none, none], [], [(87, .inl (0, [.inr (.inl 88), .inr (.inl 89), .inr (.inl 90), .inr (.inl 100), .inl (.int lo), .inl (.int fo), .inl (.int jc2), .inl (.int us2), .inl (.int kn2)])), (88, .inr (.inl (0, 8, lm))), (89, .inr (.inl (0, 8, fm))), (90, .inr (.inr (.inr (3, [91, 92, 93, 94, 95, 96, 97, 98, 99])))), (91, .inr (.inl (0, 256, V2 0))), (92, .inr (.inl (0, 256, V2 1))), (93, .inr (.inl (0, 256, V2 2))), (94, .inr (.inl (0, 256, V2 3))), (95, .inr (.inl (0, 256, V2 4))), (96, .inr (.inl (0, 256, V2 5))), (97, .inr (.inl (0, 256, V2 6))), (98, .inr (.inl (0, 256, V2 7))), (99, .inr (.inl (0, 256, V2 8))), (100, .inr (.inl (0, 8, fb2)))]) _
  refine ex_aload_n cg_8 (ix := 2) (pc' := 5) rfl rfl rfl ?_
  refine ex_getfield cg_8 (ix := 3) (pc' := 8) rfl rfl rfl rfl rfl ?_
  refine ex_iload_n cg_8 (ix := 4) (pc' := 9) rfl rfl rfl ?_
  refine ex_iaload cg_8 (ix := 5) (pc' := 10) rfl rfl (by omega) (by omega) rfl ?_
  refine ex_istore_n cg_8 (ix := 6) (pc' := 11) (L' := [some (.inr (.inl 87)), some (.inl (.int x)), some (.inl (.int (fb2 x.toNatClampNeg))), none, none]) rfl rfl rfl rfl ?_
  refine ex_iload_n cg_8 (ix := 7) (pc' := 12) rfl rfl rfl ?_
  refine ex_bipush cg_8 (ix := 8) (pc' := 14) rfl rfl rfl ?_
  refine ex_icmp cg_8 (ix := 9) (t := 19) (pc' := 17) rfl rfl rfl (fun hb14 => ?_) (fun hb14 => ?_)
  · have hb14 : ¬ (fb2 x.toNatClampNeg).toInt = (Int32.ofInt (-9)).toInt := hb14
    have hj9 : jJ 64 (uN lm fm) FN LN kN (jT 64 (uN lm fm) FN LN kN) < FN := Classical.byContradiction (fun q => by unfold jA at hfa; rw [if_neg q] at hfa; omega)
    have hjj : (fb2 x.toNatClampNeg).toInt = ((jJ 64 (uN lm fm) FN LN kN (jT 64 (uN lm fm) FN LN kN) : Nat) : Int) := by unfold jA at hfa; rw [if_pos hj9] at hfa; exact hfa
    refine ex_aload_n cg_8 (ix := 12) (pc' := 20) rfl rfl rfl ?_
    refine ex_iload_n cg_8 (ix := 13) (pc' := 21) rfl rfl rfl ?_
    refine ex_iload_n cg_8 (ix := 14) (pc' := 22) rfl rfl rfl ?_
    refine ex_callV cg_8 (ix := 15) (pc' := 25) (As := [.inl (.int x), .inl (.int (fb2 x.toNatClampNeg))]) (r := []) rfl rfl rfl (ct_ul (lo := lo) (fo := fo) (jc := jc2) (us := us2) (kn := kn2) (lm := lm) (fm := fm) (x := x) (y := fb2 x.toNatClampNeg) (kx := kN) (ky := jJ 64 (uN lm fm) FN LN kN (jT 64 (uN lm fm) FN LN kN)) hx (by omega) hjj (by omega)) (by first | decide | omega) rfl rfl rfl ⟨rfl, rfl, rfl, trivial⟩ rfl rfl (fun v h2 hq => ?_)
    obtain ⟨un, rfl, rfl, hun⟩ := hq
    have hub := uN_b (lm := lm) (fm := fm) kN (jJ 64 (uN lm fm) FN LN kN (jT 64 (uN lm fm) FN LN kN))
    show cx_T _ 8 _ 25 ([some (.inr (.inl 87)), some (.inl (.int x)), some (.inl (.int (fb2 x.toNatClampNeg))), none, none], [.inl (.int un)], [(87, .inl (0, [.inr (.inl 88), .inr (.inl 89), .inr (.inl 90), .inr (.inl 100), .inl (.int lo), .inl (.int fo), .inl (.int jc2), .inl (.int us2), .inl (.int kn2)])), (88, .inr (.inl (0, 8, lm))), (89, .inr (.inl (0, 8, fm))), (90, .inr (.inr (.inr (3, [91, 92, 93, 94, 95, 96, 97, 98, 99])))), (91, .inr (.inl (0, 256, V2 0))), (92, .inr (.inl (0, 256, V2 1))), (93, .inr (.inl (0, 256, V2 2))), (94, .inr (.inl (0, 256, V2 3))), (95, .inr (.inl (0, 256, V2 4))), (96, .inr (.inl (0, 256, V2 5))), (97, .inr (.inl (0, 256, V2 6))), (98, .inr (.inl (0, 256, V2 7))), (99, .inr (.inl (0, 256, V2 8))), (100, .inr (.inl (0, 8, fb2)))]) _
    refine ex_istore_n cg_8 (ix := 16) (pc' := 26) (L' := [some (.inr (.inl 87)), some (.inl (.int x)), some (.inl (.int (fb2 x.toNatClampNeg))), some (.inl (.int un)), none]) rfl rfl rfl rfl ?_
    refine ex_iconst cg_8 (ix := 17) (pc' := 27) rfl rfl ?_
    refine ex_istore cg_8 (ix := 18) (pc' := 29) (L' := [some (.inr (.inl 87)), some (.inl (.int x)), some (.inl (.int (fb2 x.toNatClampNeg))), some (.inl (.int un)), some (.inl (.int (Int32.ofInt 0)))]) rfl rfl rfl rfl ?_
    refine su_l1 (lo := lo) (fo := fo) (jc := jc2) (us := us2) (kn := kn2) (lm := lm) (fm := fm) (fb := fb2) (V := V2) (LN := LN) (FN := FN) (kN := kN) (jN_ := jJ 64 (uN lm fm) FN LN kN (jT 64 (uN lm fm) FN LN kN)) (x := x) (fd := fb2 x.toNatClampNeg) (ow := un) hlo hL hfo hF hx hkL hjj hj9 hun (P := fun v h2 => ∃ (jc2 us2 kn2 : Int32) (fb2 : Nat → Int32) (V2 : Nat → Nat → Int32), (∃ z : Int32, v = some (.inl (.int z)) ∧ (suA (uN lm fm) 64 FN LN kN ∧ z = Int32.ofInt 1 ∨ ¬ suA (uN lm fm) 64 FN LN kN ∧ z = Int32.ofInt 0)) ∧ h2 = h_ch lo fo jc2 us2 kn2 lm fm fb2 V2 ∧ JR lm fm LN FN fb2 jc2 us2 ∧ kn2 = Int32.ofInt 1 ∧ FB fb2) (fun i hq1 => ?_) (fun z hz hs => ⟨jc2, us2, kn2, fb2, V2, ⟨z, rfl, Or.inr ⟨fun q => hs q.2, hz⟩⟩, rfl, hJR, hk2, hFB2⟩) trivial FN 0 (by omega) (Int32.ofInt 0) (by decide +kernel) (fun y hy => absurd hy (Nat.not_lt_zero y))
    refine ex_iconst cg_8 (ix := 36) (pc' := 64) rfl rfl ?_
    refine ex_istore cg_8 (ix := 37) (pc' := 66) (L' := [some (.inr (.inl 87)), some (.inl (.int x)), some (.inl (.int (fb2 x.toNatClampNeg))), some (.inl (.int un)), some (.inl (.int (Int32.ofInt 0)))]) rfl rfl rfl rfl ?_
    refine su_l2 (lo := lo) (fo := fo) (jc := jc2) (us := us2) (kn := kn2) (lm := lm) (fm := fm) (fb := fb2) (V := V2) (LN := LN) (FN := FN) (kN := kN) (jN_ := jJ 64 (uN lm fm) FN LN kN (jT 64 (uN lm fm) FN LN kN)) (x := x) (fd := fb2 x.toNatClampNeg) (ow := un) hlo hL hfo hF hx hkL hjj hj9 hun (P := fun v h2 => ∃ (jc2 us2 kn2 : Int32) (fb2 : Nat → Int32) (V2 : Nat → Nat → Int32), (∃ z : Int32, v = some (.inl (.int z)) ∧ (suA (uN lm fm) 64 FN LN kN ∧ z = Int32.ofInt 1 ∨ ¬ suA (uN lm fm) 64 FN LN kN ∧ z = Int32.ofInt 0)) ∧ h2 = h_ch lo fo jc2 us2 kn2 lm fm fb2 V2 ∧ JR lm fm LN FN fb2 jc2 us2 ∧ kn2 = Int32.ofInt 1 ∧ FB fb2) (fun z hz hq2 => ⟨jc2, us2, kn2, fb2, V2, ⟨z, rfl, Or.inl ⟨⟨hj9, hq1, hq2⟩, hz⟩⟩, rfl, hJR, hk2, hFB2⟩) (fun z hz hs => ⟨jc2, us2, kn2, fb2, V2, ⟨z, rfl, Or.inr ⟨fun q => hs q.2, hz⟩⟩, rfl, hJR, hk2, hFB2⟩) trivial LN 0 (by omega) (Int32.ofInt 0) (by decide +kernel) (fun y hy => absurd hy (Nat.not_lt_zero y))
  · have hb14 : ¬ (¬ (fb2 x.toNatClampNeg).toInt = (Int32.ofInt (-9)).toInt) := hb14
    refine ex_iconst cg_8 (ix := 10) (pc' := 18) rfl rfl ?_
    refine ex_zreturn cg_8 (ix := 11) rfl (by first | exact Or.inl rfl | exact Or.inr rfl | (exact Or.inl rfl)) ?_
    refine ⟨jc2, us2, kn2, fb2, V2, ⟨_, rfl, Or.inr ⟨fun q => ?_, rfl⟩⟩, rfl, hJR, hk2, hFB2⟩
    have q1 := q.1
    have := hfa
    unfold jA at this
    rw [if_pos q1] at this
    omega
end
