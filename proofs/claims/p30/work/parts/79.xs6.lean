noncomputable section
def h_mc (mi : Nat → Int32) (ml : Nat → Int64) (r ch mk T jt : Nat → Int32) : cx_H := [(119, .inl (11, vs_119 mi ml)), (126, .inr (.inl (0, 7, r))), (149, .inr (.inl (0, 2, ch))), (150, .inr (.inl (0, 16, mk))), (151, .inr (.inl (0, 2304, T))), (152, .inr (.inl (0, 8, jt)))]
theorem js_loop {mi : Nat → Int32} {ml : Nat → Int64} {r mk ch T2 jt2 : Nat → Int32} {LN FN : Nat} {w : Int32} {P : Option cx_V → cx_H → Prop} (hc0 : (ch 0).toInt = (LN : Int)) (hL : LN ≤ 8) (hc1 : (ch 1).toInt = (FN : Int)) (hF : FN ≤ 8) (hA : ∀ x : Nat, x < LN → (jt2 x).toInt = jA 100 (uN mk (fmO mk)) FN LN x) (hJ2 : JB jt2) (hP : ∀ n sm i : Int32, n.toInt = jN 100 (uN mk (fmO mk)) FN LN LN → sm.toInt = jM 100 (uN mk (fmO mk)) FN LN LN → cx_T 5 243 [119, 126, 149, 150, 151, 152] 97 ([some (.inr (.inl 119)), some (.inl (.int w)), some (.inl (.int n)), some (.inl (.int sm)), some (.inl (.int i))], [], [(119, .inl (11, vs_119 (upi mi 0 (Int32.ofInt 0)) ml)), (126, .inr (.inl (0, 7, r))), (149, .inr (.inl (0, 2, ch))), (150, .inr (.inl (0, 16, mk))), (151, .inr (.inl (0, 2304, T2))), (152, .inr (.inl (0, 8, jt2)))]) P) :
    ∀ (m k : Nat), k + m = LN → ∀ i : Int32, i.toInt = (k : Int) → ∀ (n sm : Int32), n.toInt = jN 100 (uN mk (fmO mk)) FN LN k → sm.toInt = jM 100 (uN mk (fmO mk)) FN LN k → cx_T 5 243 [119, 126, 149, 150, 151, 152] 32 ([some (.inr (.inl 119)), some (.inl (.int w)), some (.inl (.int n)), some (.inl (.int sm)), some (.inl (.int i))], [], [(119, .inl (11, vs_119 (upi mi 0 (Int32.ofInt 0)) ml)), (126, .inr (.inl (0, 7, r))), (149, .inr (.inl (0, 2, ch))), (150, .inr (.inl (0, 16, mk))), (151, .inr (.inl (0, 2304, T2))), (152, .inr (.inl (0, 8, jt2)))]) P := by
  have kcm2 : (Int32.ofInt (-2)).toInt = -2 := by decide +kernel
  have kc0 : (Int32.ofInt 0).toInt = 0 := by decide +kernel
  have kc1 : (Int32.ofInt 1).toInt = 1 := by decide +kernel
  intro m
  induction m with
  | zero =>
    intro k hk i hi n sm hn hs
    have ek : k = LN := by omega
    have i0 : (Int32.ofInt 0).toNatClampNeg = 0 := by decide +kernel
    have i1 : (Int32.ofInt 1).toNatClampNeg = 1 := by decide +kernel
    have e00 : (ch (Int32.ofInt 0).toNatClampNeg).toInt = (LN : Int) := by rw [i0]; exact hc0
    have e11 : (ch (Int32.ofInt 1).toNatClampNeg).toInt = (FN : Int) := by rw [i1]; exact hc1
    refine ex_iload cg_243 (ix := 20) (pc' := 34) rfl rfl rfl ?_
    refine ex_aload_n cg_243 (ix := 21) (pc' := 35) rfl rfl rfl ?_
    refine ex_getfield cg_243 (ix := 22) (pc' := 38) (v := .inr (.inl 149)) rfl rfl rfl rfl rfl ?_
    refine ex_iconst cg_243 (ix := 23) (pc' := 39) rfl rfl ?_
    refine ex_iaload cg_243 (ix := 24) (pc' := 40) rfl rfl (by omega) (by omega) rfl ?_
    refine ex_icmp cg_243 (ix := 25) (t := 97) (pc' := 43) rfl rfl rfl (fun hb40 => ?_) (fun hb40 => ?_)
    · have hb40 : (ch (Int32.ofInt 0).toNatClampNeg).toInt ≤ i.toInt := hb40
      rw [ek] at hn hs
      exact hP n sm i hn hs
    · have hb40 : ¬ ((ch (Int32.ofInt 0).toNatClampNeg).toInt ≤ i.toInt) := hb40
      exfalso; first | omega | exact absurd hb40 (by decide +kernel)
  | succ m ih =>
    intro k hk i hi n sm hn hs
    have hik : i.toNatClampNeg = k := cx_clamp hi
    have i0 : (Int32.ofInt 0).toNatClampNeg = 0 := by decide +kernel
    have i1 : (Int32.ofInt 1).toNatClampNeg = 1 := by decide +kernel
    have e00 : (ch (Int32.ofInt 0).toNatClampNeg).toInt = (LN : Int) := by rw [i0]; exact hc0
    have e11 : (ch (Int32.ofInt 1).toNatClampNeg).toInt = (FN : Int) := by rw [i1]; exact hc1
    have hA1 : (jt2 i.toNatClampNeg).toInt = jA 100 (uN mk (fmO mk)) FN LN k := by rw [hik]; exact hA k (by omega)
    have hnb := jN_b (c := 100) (u := uN mk (fmO mk)) (F := FN) (L := LN) k
    have hmb := jM_b (c := 100) (F := FN) (L := LN) (fun k f => uN_b (lm := mk) (fm := fmO mk) k f) k
    refine ex_iload cg_243 (ix := 20) (pc' := 34) rfl rfl rfl ?_
    refine ex_aload_n cg_243 (ix := 21) (pc' := 35) rfl rfl rfl ?_
    refine ex_getfield cg_243 (ix := 22) (pc' := 38) (v := .inr (.inl 149)) rfl rfl rfl rfl rfl ?_
    refine ex_iconst cg_243 (ix := 23) (pc' := 39) rfl rfl ?_
    refine ex_iaload cg_243 (ix := 24) (pc' := 40) rfl rfl (by omega) (by omega) rfl ?_
    refine ex_icmp cg_243 (ix := 25) (t := 97) (pc' := 43) rfl rfl rfl (fun hb40 => ?_) (fun hb40 => ?_)
    · have hb40 : (ch (Int32.ofInt 0).toNatClampNeg).toInt ≤ i.toInt := hb40
      exfalso; first | omega | exact absurd hb40 (by decide +kernel)
    · have hb40 : ¬ ((ch (Int32.ofInt 0).toNatClampNeg).toInt ≤ i.toInt) := hb40
      refine ex_iload_n cg_243 (ix := 26) (pc' := 44) rfl rfl rfl ?_
      refine ex_aload_n cg_243 (ix := 27) (pc' := 45) rfl rfl rfl ?_
      refine ex_getfield cg_243 (ix := 28) (pc' := 48) (v := .inr (.inl 152)) rfl rfl rfl rfl rfl ?_
      refine ex_iload cg_243 (ix := 29) (pc' := 50) rfl rfl rfl ?_
      refine ex_iaload cg_243 (ix := 30) (pc' := 51) rfl rfl (by omega) (by omega) rfl ?_
      refine ex_if cg_243 (ix := 31) (t := 58) (pc' := 54) rfl rfl rfl (fun hb51 => ?_) (fun hb51 => ?_)
      · have hb51 : 0 ≤ (jt2 i.toNatClampNeg).toInt := hb51
        refine ex_iconst cg_243 (ix := 34) (pc' := 59) rfl rfl ?_
        refine ex_iadd cg_243 (ix := 35) (pc' := 60) rfl rfl ?_
        refine ex_istore_n cg_243 (ix := 36) (pc' := 61) (L' := [some (.inr (.inl 119)), some (.inl (.int w)), some (.inl (.int (n + (Int32.ofInt 1)))), some (.inl (.int sm)), some (.inl (.int i))]) rfl rfl rfl rfl ?_
        refine ex_iload_n cg_243 (ix := 37) (pc' := 62) rfl rfl rfl ?_
        refine ex_aload_n cg_243 (ix := 38) (pc' := 63) rfl rfl rfl ?_
        refine ex_getfield cg_243 (ix := 39) (pc' := 66) (v := .inr (.inl 152)) rfl rfl rfl rfl rfl ?_
        refine ex_iload cg_243 (ix := 40) (pc' := 68) rfl rfl rfl ?_
        refine ex_iaload cg_243 (ix := 41) (pc' := 69) rfl rfl (by omega) (by omega) rfl ?_
        refine ex_if cg_243 (ix := 42) (t := 76) (pc' := 72) rfl rfl rfl (fun hb69 => ?_) (fun hb69 => ?_)
        · have hb69 : 0 ≤ (jt2 i.toNatClampNeg).toInt := hb69
          have q9 : jJ 100 (uN mk (fmO mk)) FN LN k (jT 100 (uN mk (fmO mk)) FN LN k) < FN := Classical.byContradiction (fun q => by unfold jA at hA1; rw [if_neg q] at hA1; omega)
          have hjj : (jt2 i.toNatClampNeg).toInt = ((jJ 100 (uN mk (fmO mk)) FN LN k (jT 100 (uN mk (fmO mk)) FN LN k) : Nat) : Int) := by unfold jA at hA1; rw [if_pos q9] at hA1; exact hA1
          refine ex_aload_n cg_243 (ix := 45) (pc' := 77) rfl rfl rfl ?_
          refine ex_iload cg_243 (ix := 46) (pc' := 79) rfl rfl rfl ?_
          refine ex_aload_n cg_243 (ix := 47) (pc' := 80) rfl rfl rfl ?_
          refine ex_getfield cg_243 (ix := 48) (pc' := 83) (v := .inr (.inl 152)) rfl rfl rfl rfl rfl ?_
          refine ex_iload cg_243 (ix := 49) (pc' := 85) rfl rfl rfl ?_
          refine ex_iaload cg_243 (ix := 50) (pc' := 86) rfl rfl (by omega) (by omega) rfl ?_
          refine ex_callV cg_243 (ix := 51) (pc' := 89) (As := [.inl (.int i), .inl (.int (jt2 i.toNatClampNeg))]) (r := [.inl (.int sm)]) rfl rfl rfl (ct_mul (mi := (upi mi 0 (Int32.ofInt 0))) (ml := ml) (mk := mk) (x := i) (y := jt2 i.toNatClampNeg) (kx := k) (ky := jJ 100 (uN mk (fmO mk)) FN LN k (jT 100 (uN mk (fmO mk)) FN LN k)) hi (by omega) hjj (by omega)) (by first | decide | omega) rfl rfl rfl ⟨rfl, rfl, trivial⟩ rfl rfl (fun v h2 hq => ?_)
          obtain ⟨un1, rfl, rfl, hun1⟩ := hq
          have hun1b := uN_b (lm := mk) (fm := fmO mk) k (jJ 100 (uN mk (fmO mk)) FN LN k (jT 100 (uN mk (fmO mk)) FN LN k))
          show cx_T _ 243 _ 89 ([some (.inr (.inl 119)), some (.inl (.int w)), some (.inl (.int (n + (Int32.ofInt 1)))), some (.inl (.int sm)), some (.inl (.int i))], [.inl (.int un1), .inl (.int sm)], [(119, .inl (11, vs_119 (upi mi 0 (Int32.ofInt 0)) ml)), (126, .inr (.inl (0, 7, r))), (149, .inr (.inl (0, 2, ch))), (150, .inr (.inl (0, 16, mk))), (151, .inr (.inl (0, 2304, T2))), (152, .inr (.inl (0, 8, jt2)))]) _
          refine ex_iadd cg_243 (ix := 52) (pc' := 90) rfl rfl ?_
          refine ex_istore_n cg_243 (ix := 53) (pc' := 91) (L' := [some (.inr (.inl 119)), some (.inl (.int w)), some (.inl (.int (n + (Int32.ofInt 1)))), some (.inl (.int (sm + un1))), some (.inl (.int i))]) rfl rfl rfl rfl ?_
          refine ex_iinc cg_243 (ix := 54) (pc' := 94) (L' := [some (.inr (.inl 119)), some (.inl (.int w)), some (.inl (.int (n + (Int32.ofInt 1)))), some (.inl (.int (sm + un1))), some (.inl (.int (i + Int32.ofInt 1)))]) rfl rfl rfl rfl rfl ?_
          refine ex_goto cg_243 (ix := 55) (pc' := 32) rfl rfl ?_
          exact ih (k + 1) (by omega) _ (by rw [cx_addc (by omega) (by omega)]; omega) _ _ (by rw [jN, if_pos q9, cx_addc (by omega) (by omega)]; omega) (by rw [jM, if_pos q9, cx_addc (by omega) (by omega)]; omega)
        · have hb69 : ¬ (0 ≤ (jt2 i.toNatClampNeg).toInt) := hb69
          refine ex_iconst cg_243 (ix := 43) (pc' := 73) rfl rfl ?_
          refine ex_goto cg_243 (ix := 44) (pc' := 89) rfl rfl ?_
          refine ex_iadd cg_243 (ix := 52) (pc' := 90) rfl rfl ?_
          refine ex_istore_n cg_243 (ix := 53) (pc' := 91) (L' := [some (.inr (.inl 119)), some (.inl (.int w)), some (.inl (.int (n + (Int32.ofInt 1)))), some (.inl (.int (sm + (Int32.ofInt 0)))), some (.inl (.int i))]) rfl rfl rfl rfl ?_
          refine ex_iinc cg_243 (ix := 54) (pc' := 94) (L' := [some (.inr (.inl 119)), some (.inl (.int w)), some (.inl (.int (n + (Int32.ofInt 1)))), some (.inl (.int (sm + (Int32.ofInt 0)))), some (.inl (.int (i + Int32.ofInt 1)))]) rfl rfl rfl rfl rfl ?_
          refine ex_goto cg_243 (ix := 55) (pc' := 32) rfl rfl ?_
          exfalso; omega
      · have hb51 : ¬ (0 ≤ (jt2 i.toNatClampNeg).toInt) := hb51
        refine ex_iconst cg_243 (ix := 32) (pc' := 55) rfl rfl ?_
        refine ex_goto cg_243 (ix := 33) (pc' := 59) rfl rfl ?_
        refine ex_iadd cg_243 (ix := 35) (pc' := 60) rfl rfl ?_
        refine ex_istore_n cg_243 (ix := 36) (pc' := 61) (L' := [some (.inr (.inl 119)), some (.inl (.int w)), some (.inl (.int (n + (Int32.ofInt 0)))), some (.inl (.int sm)), some (.inl (.int i))]) rfl rfl rfl rfl ?_
        refine ex_iload_n cg_243 (ix := 37) (pc' := 62) rfl rfl rfl ?_
        refine ex_aload_n cg_243 (ix := 38) (pc' := 63) rfl rfl rfl ?_
        refine ex_getfield cg_243 (ix := 39) (pc' := 66) (v := .inr (.inl 152)) rfl rfl rfl rfl rfl ?_
        refine ex_iload cg_243 (ix := 40) (pc' := 68) rfl rfl rfl ?_
        refine ex_iaload cg_243 (ix := 41) (pc' := 69) rfl rfl (by omega) (by omega) rfl ?_
        refine ex_if cg_243 (ix := 42) (t := 76) (pc' := 72) rfl rfl rfl (fun hb69 => ?_) (fun hb69 => ?_)
        · have hb69 : 0 ≤ (jt2 i.toNatClampNeg).toInt := hb69
          have q9 : jJ 100 (uN mk (fmO mk)) FN LN k (jT 100 (uN mk (fmO mk)) FN LN k) < FN := Classical.byContradiction (fun q => by unfold jA at hA1; rw [if_neg q] at hA1; omega)
          have hjj : (jt2 i.toNatClampNeg).toInt = ((jJ 100 (uN mk (fmO mk)) FN LN k (jT 100 (uN mk (fmO mk)) FN LN k) : Nat) : Int) := by unfold jA at hA1; rw [if_pos q9] at hA1; exact hA1
          refine ex_aload_n cg_243 (ix := 45) (pc' := 77) rfl rfl rfl ?_
          refine ex_iload cg_243 (ix := 46) (pc' := 79) rfl rfl rfl ?_
          refine ex_aload_n cg_243 (ix := 47) (pc' := 80) rfl rfl rfl ?_
          refine ex_getfield cg_243 (ix := 48) (pc' := 83) (v := .inr (.inl 152)) rfl rfl rfl rfl rfl ?_
          refine ex_iload cg_243 (ix := 49) (pc' := 85) rfl rfl rfl ?_
          refine ex_iaload cg_243 (ix := 50) (pc' := 86) rfl rfl (by omega) (by omega) rfl ?_
          refine ex_callV cg_243 (ix := 51) (pc' := 89) (As := [.inl (.int i), .inl (.int (jt2 i.toNatClampNeg))]) (r := [.inl (.int sm)]) rfl rfl rfl (ct_mul (mi := (upi mi 0 (Int32.ofInt 0))) (ml := ml) (mk := mk) (x := i) (y := jt2 i.toNatClampNeg) (kx := k) (ky := jJ 100 (uN mk (fmO mk)) FN LN k (jT 100 (uN mk (fmO mk)) FN LN k)) hi (by omega) hjj (by omega)) (by first | decide | omega) rfl rfl rfl ⟨rfl, rfl, trivial⟩ rfl rfl (fun v h2 hq => ?_)
          obtain ⟨un2, rfl, rfl, hun2⟩ := hq
          have hun2b := uN_b (lm := mk) (fm := fmO mk) k (jJ 100 (uN mk (fmO mk)) FN LN k (jT 100 (uN mk (fmO mk)) FN LN k))
          show cx_T _ 243 _ 89 ([some (.inr (.inl 119)), some (.inl (.int w)), some (.inl (.int (n + (Int32.ofInt 0)))), some (.inl (.int sm)), some (.inl (.int i))], [.inl (.int un2), .inl (.int sm)], [(119, .inl (11, vs_119 (upi mi 0 (Int32.ofInt 0)) ml)), (126, .inr (.inl (0, 7, r))), (149, .inr (.inl (0, 2, ch))), (150, .inr (.inl (0, 16, mk))), (151, .inr (.inl (0, 2304, T2))), (152, .inr (.inl (0, 8, jt2)))]) _
          refine ex_iadd cg_243 (ix := 52) (pc' := 90) rfl rfl ?_
          refine ex_istore_n cg_243 (ix := 53) (pc' := 91) (L' := [some (.inr (.inl 119)), some (.inl (.int w)), some (.inl (.int (n + (Int32.ofInt 0)))), some (.inl (.int (sm + un2))), some (.inl (.int i))]) rfl rfl rfl rfl ?_
          refine ex_iinc cg_243 (ix := 54) (pc' := 94) (L' := [some (.inr (.inl 119)), some (.inl (.int w)), some (.inl (.int (n + (Int32.ofInt 0)))), some (.inl (.int (sm + un2))), some (.inl (.int (i + Int32.ofInt 1)))]) rfl rfl rfl rfl rfl ?_
          refine ex_goto cg_243 (ix := 55) (pc' := 32) rfl rfl ?_
          exfalso; omega
        · have hb69 : ¬ (0 ≤ (jt2 i.toNatClampNeg).toInt) := hb69
          refine ex_iconst cg_243 (ix := 43) (pc' := 73) rfl rfl ?_
          refine ex_goto cg_243 (ix := 44) (pc' := 89) rfl rfl ?_
          refine ex_iadd cg_243 (ix := 52) (pc' := 90) rfl rfl ?_
          refine ex_istore_n cg_243 (ix := 53) (pc' := 91) (L' := [some (.inr (.inl 119)), some (.inl (.int w)), some (.inl (.int (n + (Int32.ofInt 0)))), some (.inl (.int (sm + (Int32.ofInt 0)))), some (.inl (.int i))]) rfl rfl rfl rfl ?_
          refine ex_iinc cg_243 (ix := 54) (pc' := 94) (L' := [some (.inr (.inl 119)), some (.inl (.int w)), some (.inl (.int (n + (Int32.ofInt 0)))), some (.inl (.int (sm + (Int32.ofInt 0)))), some (.inl (.int (i + Int32.ofInt 1)))]) rfl rfl rfl rfl rfl ?_
          refine ex_goto cg_243 (ix := 55) (pc' := 32) rfl rfl ?_
          have q9 : ¬ jJ 100 (uN mk (fmO mk)) FN LN k (jT 100 (uN mk (fmO mk)) FN LN k) < FN := fun q => by unfold jA at hA1; rw [if_pos q] at hA1; omega
          exact ih (k + 1) (by omega) _ (by rw [cx_addc (by omega) (by omega)]; omega) _ _ (by rw [jN, if_neg q9, cx_addc (by omega) (by omega)]; omega) (by rw [jM, if_neg q9, cx_addc (by omega) (by omega)]; omega)
theorem ct_mjs {mi : Nat → Int32} {ml : Nat → Int64} {r mk ch T jt : Nat → Int32} {LN FN : Nat} {w : Int32} (hc0 : (ch 0).toInt = (LN : Int)) (hL : LN ≤ 8) (hc1 : (ch 1).toInt = (FN : Int)) (hF : FN ≤ 8) (hJB : JB jt) : cx_Ct 5 243 [.inr (.inl 119), .inl (.int w)] (h_mc mi ml r ch mk T jt) (fun v h2 => ∃ (z : Int32) (r2 T2 jt2 : Nat → Int32), v = some (.inl (.int z)) ∧ h2 = h_mc (upi mi 0 (Int32.ofInt 0)) ml r2 ch mk T2 jt2 ∧ JB jt2 ∧ jsA w (uN mk (fmO mk)) 100 FN LN z) := by
  have kcm2 : (Int32.ofInt (-2)).toInt = -2 := by decide +kernel
  have kc0 : (Int32.ofInt 0).toInt = 0 := by decide +kernel
  have kc1 : (Int32.ofInt 1).toInt = 1 := by decide +kernel
  refine cx_Ct.of cg_243 (nL := 5) rfl rfl rfl ?_
  show cx_T 5 243 [119, 126, 149, 150, 151, 152] 0 ([some (.inr (.inl 119)), some (.inl (.int w)), none, none, none], [], h_mc mi ml r ch mk T jt) _
  refine ex_aload_n cg_243 (ix := 0) (pc' := 1) rfl rfl rfl ?_
  refine ex_iconst cg_243 (ix := 1) (pc' := 2) rfl rfl ?_
  refine ex_putfield cg_243 (ix := 2) (pc' := 5) (h' := [(119, .inl (11, vs_119 (upi mi 0 (Int32.ofInt 0)) ml)), (126, .inr (.inl (0, 7, r))), (149, .inr (.inl (0, 2, ch))), (150, .inr (.inl (0, 16, mk))), (151, .inr (.inl (0, 2304, T))), (152, .inr (.inl (0, 8, jt)))]) rfl rfl rfl rfl rfl rfl rfl rfl ?_
  refine ex_iload_n cg_243 (ix := 3) (pc' := 6) rfl rfl rfl ?_
  refine ex_iconst cg_243 (ix := 4) (pc' := 7) rfl rfl ?_
  refine ex_iconst cg_243 (ix := 5) (pc' := 8) rfl rfl ?_
  refine ex_callS cg_243 (ix := 6) (pc' := 11) (As := [.inl (.int w), .inl (.int (Int32.ofInt 0)), .inl (.int (Int32.ofInt 1))]) (r := []) rfl rfl rfl (ct_min (x := w) (a := Int32.ofInt 0) (b := Int32.ofInt 1)) (by first | decide | omega) rfl rfl trivial rfl rfl (fun v h2 hq => ?_)
  obtain ⟨z, rfl, rfl, hz1⟩ := hq
  rcases hz1 with ⟨hz1, rfl⟩ | ⟨hz1, rfl⟩
  · show cx_T _ 243 _ 11 ([some (.inr (.inl 119)), some (.inl (.int w)), none, none, none], [.inl (.int (Int32.ofInt 1))], [(119, .inl (11, vs_119 (upi mi 0 (Int32.ofInt 0)) ml)), (126, .inr (.inl (0, 7, r))), (149, .inr (.inl (0, 2, ch))), (150, .inr (.inl (0, 16, mk))), (151, .inr (.inl (0, 2304, T))), (152, .inr (.inl (0, 8, jt)))]) _
    refine ex_if cg_243 (ix := 7) (t := 21) (pc' := 14) rfl rfl rfl (fun hb11 => ?_) (fun hb11 => ?_)
    · have hb11 : ¬ (Int32.ofInt 1).toInt = 0 := hb11
      refine ex_aload_n cg_243 (ix := 12) (pc' := 22) rfl rfl rfl ?_
      refine ex_callV cg_243 (ix := 13) (pc' := 25) (As := []) (r := []) rfl rfl rfl (ct_fj (mi := mi) (ml := ml) (mk := mk) (ch := ch) (LN := LN) (FN := FN) (T := T) (jt := jt) hc0 hL hc1 hF hJB) (by first | decide | omega) rfl rfl rfl ⟨rfl, rfl, rfl, rfl, rfl, trivial⟩ rfl rfl (fun v h2 hq => ?_)
      obtain ⟨rfl, T2, jt2, rfl, hA, hJ2⟩ := hq
      show cx_T _ 243 _ 25 ([some (.inr (.inl 119)), some (.inl (.int w)), none, none, none], [], [(119, .inl (11, vs_119 (upi mi 0 (Int32.ofInt 0)) ml)), (126, .inr (.inl (0, 7, r))), (149, .inr (.inl (0, 2, ch))), (150, .inr (.inl (0, 16, mk))), (151, .inr (.inl (0, 2304, T2))), (152, .inr (.inl (0, 8, jt2)))]) _
      refine ex_iconst cg_243 (ix := 14) (pc' := 26) rfl rfl ?_
      refine ex_istore_n cg_243 (ix := 15) (pc' := 27) (L' := [some (.inr (.inl 119)), some (.inl (.int w)), some (.inl (.int (Int32.ofInt 0))), none, none]) rfl rfl rfl rfl ?_
      refine ex_iconst cg_243 (ix := 16) (pc' := 28) rfl rfl ?_
      refine ex_istore_n cg_243 (ix := 17) (pc' := 29) (L' := [some (.inr (.inl 119)), some (.inl (.int w)), some (.inl (.int (Int32.ofInt 0))), some (.inl (.int (Int32.ofInt 0))), none]) rfl rfl rfl rfl ?_
      refine ex_iconst cg_243 (ix := 18) (pc' := 30) rfl rfl ?_
      refine ex_istore cg_243 (ix := 19) (pc' := 32) (L' := [some (.inr (.inl 119)), some (.inl (.int w)), some (.inl (.int (Int32.ofInt 0))), some (.inl (.int (Int32.ofInt 0))), some (.inl (.int (Int32.ofInt 0)))]) rfl rfl rfl rfl ?_
      refine js_loop (mi := mi) (ml := ml) (r := r) (mk := mk) (ch := ch) (T2 := T2) (jt2 := jt2) (LN := LN) (FN := FN) (w := w) hc0 hL hc1 hF hA hJ2 (P := fun v h2 => ∃ (z : Int32) (r2 T2 jt2 : Nat → Int32), v = some (.inl (.int z)) ∧ h2 = h_mc (upi mi 0 (Int32.ofInt 0)) ml r2 ch mk T2 jt2 ∧ JB jt2 ∧ jsA w (uN mk (fmO mk)) 100 FN LN z) (fun n sm i hn hs => ?_) LN 0 (by omega) (Int32.ofInt 0) (by decide +kernel) (Int32.ofInt 0) (Int32.ofInt 0) (by rw [jN]; decide +kernel) (by rw [jM]; decide +kernel)
      refine ex_iload_n cg_243 (ix := 56) (pc' := 98) rfl rfl rfl ?_
      refine ex_if cg_243 (ix := 57) (t := 105) (pc' := 101) rfl rfl rfl (fun hb98 => ?_) (fun hb98 => ?_)
      · have hb98 : ¬ w.toInt = 0 := hb98
        refine ex_iload_n cg_243 (ix := 60) (pc' := 106) rfl rfl rfl ?_
        refine ex_ireturn cg_243 (ix := 61) rfl ?_
        exact ⟨_, r, T2, jt2, rfl, rfl, hJ2, Or.inr (Or.inl ⟨by omega, hs⟩)⟩
      · have hb98 : ¬ (¬ w.toInt = 0) := hb98
        refine ex_iload_n cg_243 (ix := 58) (pc' := 102) rfl rfl rfl ?_
        refine ex_goto cg_243 (ix := 59) (pc' := 106) rfl rfl ?_
        refine ex_ireturn cg_243 (ix := 61) rfl ?_
        exact ⟨_, r, T2, jt2, rfl, rfl, hJ2, Or.inl ⟨by omega, hn⟩⟩
    · have hb11 : ¬ (¬ (Int32.ofInt 1).toInt = 0) := hb11
      exfalso; first | omega | exact absurd hb11 (by decide +kernel)
  · show cx_T _ 243 _ 11 ([some (.inr (.inl 119)), some (.inl (.int w)), none, none, none], [.inl (.int (Int32.ofInt 0))], [(119, .inl (11, vs_119 (upi mi 0 (Int32.ofInt 0)) ml)), (126, .inr (.inl (0, 7, r))), (149, .inr (.inl (0, 2, ch))), (150, .inr (.inl (0, 16, mk))), (151, .inr (.inl (0, 2304, T))), (152, .inr (.inl (0, 8, jt)))]) _
    refine ex_if cg_243 (ix := 7) (t := 21) (pc' := 14) rfl rfl rfl (fun hb11 => ?_) (fun hb11 => ?_)
    · have hb11 : ¬ (Int32.ofInt 0).toInt = 0 := hb11
      exfalso; first | omega | exact absurd hb11 (by decide +kernel)
    · have hb11 : ¬ (¬ (Int32.ofInt 0).toInt = 0) := hb11
      refine ex_aload_n cg_243 (ix := 8) (pc' := 15) rfl rfl rfl ?_
      refine ex_bipush cg_243 (ix := 9) (pc' := 17) rfl rfl rfl ?_
      refine ex_callV cg_243 (ix := 10) (pc' := 20) (As := [.inl (.int (Int32.ofInt (-2)))]) (r := []) rfl rfl rfl (ct_mref (x := Int32.ofInt (-2)) (mi := (upi mi 0 (Int32.ofInt 0))) (ml := ml) (r := r) (by decide +kernel) (by decide +kernel)) (by first | decide | omega) rfl rfl rfl ⟨rfl, rfl, trivial⟩ rfl rfl (fun v h2 hq => ?_)
      obtain ⟨rfl, r2, rfl⟩ := hq
      show cx_T _ 243 _ 20 ([some (.inr (.inl 119)), some (.inl (.int w)), none, none, none], [.inl (.int (Int32.ofInt (-2)))], [(119, .inl (11, vs_119 (upi mi 0 (Int32.ofInt 0)) ml)), (126, .inr (.inl (0, 7, r2))), (149, .inr (.inl (0, 2, ch))), (150, .inr (.inl (0, 16, mk))), (151, .inr (.inl (0, 2304, T))), (152, .inr (.inl (0, 8, jt)))]) _
      refine ex_ireturn cg_243 (ix := 11) rfl ?_
      exact ⟨_, r2, T, jt, rfl, rfl, hJB, Or.inr (Or.inr ⟨by omega, by decide +kernel⟩)⟩
theorem ct_mjd {mi : Nat → Int32} {ml : Nat → Int64} {r mk ch T jt : Nat → Int32} {LN FN : Nat} {x : Int32} (hc0 : (ch 0).toInt = (LN : Int)) (hL : LN ≤ 8) (hc1 : (ch 1).toInt = (FN : Int)) (hF : FN ≤ 8) (hJB : JB jt) : cx_Ct 5 244 [.inr (.inl 119), .inl (.int x)] (h_mc mi ml r ch mk T jt) (fun v h2 => ∃ (z : Int32) (r2 T2 jt2 : Nat → Int32), v = some (.inl (.int z)) ∧ h2 = h_mc (upi mi 0 (Int32.ofInt 0)) ml r2 ch mk T2 jt2 ∧ JB jt2 ∧ jdA x (uN mk (fmO mk)) 100 FN LN z) := by
  have kcm1 : (Int32.ofInt (-1)).toInt = -1 := by decide +kernel
  have kc0 : (Int32.ofInt 0).toInt = 0 := by decide +kernel
  have kc1 : (Int32.ofInt 1).toInt = 1 := by decide +kernel
  have i0 : (Int32.ofInt 0).toNatClampNeg = 0 := by decide +kernel
  have i1 : (Int32.ofInt 1).toNatClampNeg = 1 := by decide +kernel
  have e00 : (ch (Int32.ofInt 0).toNatClampNeg).toInt = (LN : Int) := by rw [i0]; exact hc0
  have e11 : (ch (Int32.ofInt 1).toNatClampNeg).toInt = (FN : Int) := by rw [i1]; exact hc1
  have hsb : ((ch (Int32.ofInt 0).toNatClampNeg) - Int32.ofInt 1).toInt = (LN : Int) - 1 := by rw [cx_subc (by omega) (by omega), e00]; omega
  refine cx_Ct.of cg_244 (nL := 2) rfl rfl rfl ?_
  show cx_T 5 244 [119, 126, 149, 150, 151, 152] 0 ([some (.inr (.inl 119)), some (.inl (.int x))], [], h_mc mi ml r ch mk T jt) _
  refine ex_aload_n cg_244 (ix := 0) (pc' := 1) rfl rfl rfl ?_
  refine ex_iconst cg_244 (ix := 1) (pc' := 2) rfl rfl ?_
  refine ex_putfield cg_244 (ix := 2) (pc' := 5) (h' := [(119, .inl (11, vs_119 (upi mi 0 (Int32.ofInt 0)) ml)), (126, .inr (.inl (0, 7, r))), (149, .inr (.inl (0, 2, ch))), (150, .inr (.inl (0, 16, mk))), (151, .inr (.inl (0, 2304, T))), (152, .inr (.inl (0, 8, jt)))]) rfl rfl rfl rfl rfl rfl rfl rfl ?_
  refine ex_iload_n cg_244 (ix := 3) (pc' := 6) rfl rfl rfl ?_
  refine ex_iconst cg_244 (ix := 4) (pc' := 7) rfl rfl ?_
  refine ex_aload_n cg_244 (ix := 5) (pc' := 8) rfl rfl rfl ?_
  refine ex_getfield cg_244 (ix := 6) (pc' := 11) (v := .inr (.inl 149)) rfl rfl rfl rfl rfl ?_
  refine ex_iconst cg_244 (ix := 7) (pc' := 12) rfl rfl ?_
  refine ex_iaload cg_244 (ix := 8) (pc' := 13) rfl rfl (by omega) (by omega) rfl ?_
  refine ex_iconst cg_244 (ix := 9) (pc' := 14) rfl rfl ?_
  refine ex_isub cg_244 (ix := 10) (pc' := 15) rfl rfl ?_
  refine ex_callS cg_244 (ix := 11) (pc' := 18) (As := [.inl (.int x), .inl (.int (Int32.ofInt 0)), .inl (.int ((ch (Int32.ofInt 0).toNatClampNeg) - (Int32.ofInt 1)))]) (r := []) rfl rfl rfl (ct_min (x := x) (a := Int32.ofInt 0) (b := (ch (Int32.ofInt 0).toNatClampNeg) - (Int32.ofInt 1))) (by first | decide | omega) rfl rfl trivial rfl rfl (fun v h2 hq => ?_)
  obtain ⟨z, rfl, rfl, hz1⟩ := hq
  rcases hz1 with ⟨hz1, rfl⟩ | ⟨hz1, rfl⟩
  · show cx_T _ 244 _ 18 ([some (.inr (.inl 119)), some (.inl (.int x))], [.inl (.int (Int32.ofInt 1))], [(119, .inl (11, vs_119 (upi mi 0 (Int32.ofInt 0)) ml)), (126, .inr (.inl (0, 7, r))), (149, .inr (.inl (0, 2, ch))), (150, .inr (.inl (0, 16, mk))), (151, .inr (.inl (0, 2304, T))), (152, .inr (.inl (0, 8, jt)))]) _
    refine ex_if cg_244 (ix := 12) (t := 27) (pc' := 21) rfl rfl rfl (fun hb18 => ?_) (fun hb18 => ?_)
    · have hb18 : ¬ (Int32.ofInt 1).toInt = 0 := hb18
      refine ex_aload_n cg_244 (ix := 17) (pc' := 28) rfl rfl rfl ?_
      refine ex_callV cg_244 (ix := 18) (pc' := 31) (As := []) (r := []) rfl rfl rfl (ct_fj (mi := mi) (ml := ml) (mk := mk) (ch := ch) (LN := LN) (FN := FN) (T := T) (jt := jt) hc0 hL hc1 hF hJB) (by first | decide | omega) rfl rfl rfl ⟨rfl, rfl, rfl, rfl, rfl, trivial⟩ rfl rfl (fun v h2 hq => ?_)
      obtain ⟨rfl, T2, jt2, rfl, hA, hJ2⟩ := hq
      show cx_T _ 244 _ 31 ([some (.inr (.inl 119)), some (.inl (.int x))], [], [(119, .inl (11, vs_119 (upi mi 0 (Int32.ofInt 0)) ml)), (126, .inr (.inl (0, 7, r))), (149, .inr (.inl (0, 2, ch))), (150, .inr (.inl (0, 16, mk))), (151, .inr (.inl (0, 2304, T2))), (152, .inr (.inl (0, 8, jt2)))]) _
      refine ex_aload_n cg_244 (ix := 19) (pc' := 32) rfl rfl rfl ?_
      refine ex_getfield cg_244 (ix := 20) (pc' := 35) (v := .inr (.inl 152)) rfl rfl rfl rfl rfl ?_
      refine ex_iload_n cg_244 (ix := 21) (pc' := 36) rfl rfl rfl ?_
      refine ex_iaload cg_244 (ix := 22) (pc' := 37) rfl rfl (by omega) (by omega) rfl ?_
      refine ex_ireturn cg_244 (ix := 23) rfl ?_
      have hxk := ab_clamp (x := x) (by omega)
      have hA1 := hA x.toNatClampNeg (by omega)
      exact ⟨_, r, T2, jt2, rfl, rfl, hJ2, Or.inl ⟨by omega, hA1⟩⟩
    · have hb18 : ¬ (¬ (Int32.ofInt 1).toInt = 0) := hb18
      exfalso; first | omega | exact absurd hb18 (by decide +kernel)
  · show cx_T _ 244 _ 18 ([some (.inr (.inl 119)), some (.inl (.int x))], [.inl (.int (Int32.ofInt 0))], [(119, .inl (11, vs_119 (upi mi 0 (Int32.ofInt 0)) ml)), (126, .inr (.inl (0, 7, r))), (149, .inr (.inl (0, 2, ch))), (150, .inr (.inl (0, 16, mk))), (151, .inr (.inl (0, 2304, T))), (152, .inr (.inl (0, 8, jt)))]) _
    refine ex_if cg_244 (ix := 12) (t := 27) (pc' := 21) rfl rfl rfl (fun hb18 => ?_) (fun hb18 => ?_)
    · have hb18 : ¬ (Int32.ofInt 0).toInt = 0 := hb18
      exfalso; first | omega | exact absurd hb18 (by decide +kernel)
    · have hb18 : ¬ (¬ (Int32.ofInt 0).toInt = 0) := hb18
      refine ex_aload_n cg_244 (ix := 13) (pc' := 22) rfl rfl rfl ?_
      refine ex_iconst cg_244 (ix := 14) (pc' := 23) rfl rfl ?_
      refine ex_callV cg_244 (ix := 15) (pc' := 26) (As := [.inl (.int (Int32.ofInt (-1)))]) (r := []) rfl rfl rfl (ct_mref (x := Int32.ofInt (-1)) (mi := (upi mi 0 (Int32.ofInt 0))) (ml := ml) (r := r) (by decide +kernel) (by decide +kernel)) (by first | decide | omega) rfl rfl rfl ⟨rfl, rfl, trivial⟩ rfl rfl (fun v h2 hq => ?_)
      obtain ⟨rfl, r2, rfl⟩ := hq
      show cx_T _ 244 _ 26 ([some (.inr (.inl 119)), some (.inl (.int x))], [.inl (.int (Int32.ofInt (-1)))], [(119, .inl (11, vs_119 (upi mi 0 (Int32.ofInt 0)) ml)), (126, .inr (.inl (0, 7, r2))), (149, .inr (.inl (0, 2, ch))), (150, .inr (.inl (0, 16, mk))), (151, .inr (.inl (0, 2304, T))), (152, .inr (.inl (0, 8, jt)))]) _
      refine ex_ireturn cg_244 (ix := 16) rfl ?_
      exact ⟨_, r2, T, jt, rfl, rfl, hJB, Or.inr ⟨by omega, by decide +kernel⟩⟩
theorem ms_l1 {mi : Nat → Int32} {ml : Nat → Int64} {r mk ch T2 jt2 : Nat → Int32} {LN FN kN jN_ : Nat} {x fd : Int32} {P : Option cx_V → cx_H → Prop} (hc0 : (ch 0).toInt = (LN : Int)) (hL : LN ≤ 8) (hc1 : (ch 1).toInt = (FN : Int)) (hF : FN ≤ 8) (hx : x.toInt = (kN : Int)) (hkL : kN < LN) (hfd : fd.toInt = (jN_ : Int)) (hjF : jN_ < FN) (hP : ∀ su i : Int32, ((∀ y : Nat, y < FN → ¬ y = jN_ → uN mk (fmO mk) kN jN_ < uN mk (fmO mk) kN y) ∧ su = Int32.ofInt 1 ∨ ¬ (∀ y : Nat, y < FN → ¬ y = jN_ → uN mk (fmO mk) kN jN_ < uN mk (fmO mk) kN y) ∧ su = Int32.ofInt 0) → cx_T 6 245 [119, 126, 149, 150, 151, 152] 98 ([some (.inr (.inl 119)), some (.inl (.int x)), some (.inl (.int fd)), some (.inl (.int su)), some (.inl (.int i))], [], [(119, .inl (11, vs_119 (upi mi 0 (Int32.ofInt 0)) ml)), (126, .inr (.inl (0, 7, r))), (149, .inr (.inl (0, 2, ch))), (150, .inr (.inl (0, 16, mk))), (151, .inr (.inl (0, 2304, T2))), (152, .inr (.inl (0, 8, jt2)))]) P) :
    ∀ (m k : Nat), k + m = FN → ∀ i : Int32, i.toInt = (k : Int) → ∀ (su : Int32), ((∀ y : Nat, y < k → ¬ y = jN_ → uN mk (fmO mk) kN jN_ < uN mk (fmO mk) kN y) ∧ su = Int32.ofInt 1 ∨ ¬ (∀ y : Nat, y < k → ¬ y = jN_ → uN mk (fmO mk) kN jN_ < uN mk (fmO mk) kN y) ∧ su = Int32.ofInt 0) → cx_T 6 245 [119, 126, 149, 150, 151, 152] 49 ([some (.inr (.inl 119)), some (.inl (.int x)), some (.inl (.int fd)), some (.inl (.int su)), some (.inl (.int i))], [], [(119, .inl (11, vs_119 (upi mi 0 (Int32.ofInt 0)) ml)), (126, .inr (.inl (0, 7, r))), (149, .inr (.inl (0, 2, ch))), (150, .inr (.inl (0, 16, mk))), (151, .inr (.inl (0, 2304, T2))), (152, .inr (.inl (0, 8, jt2)))]) P := by
  have kcm1 : (Int32.ofInt (-1)).toInt = -1 := by decide +kernel
  have kc0 : (Int32.ofInt 0).toInt = 0 := by decide +kernel
  have kc1 : (Int32.ofInt 1).toInt = 1 := by decide +kernel
  intro m
  induction m with
  | zero =>
    intro k hk i hi su hsu
    have ek : k = FN := by omega
    have i0 : (Int32.ofInt 0).toNatClampNeg = 0 := by decide +kernel
    have i1 : (Int32.ofInt 1).toNatClampNeg = 1 := by decide +kernel
    have e00 : (ch (Int32.ofInt 0).toNatClampNeg).toInt = (LN : Int) := by rw [i0]; exact hc0
    have e11 : (ch (Int32.ofInt 1).toNatClampNeg).toInt = (FN : Int) := by rw [i1]; exact hc1
    refine ex_iload cg_245 (ix := 32) (pc' := 51) rfl rfl rfl ?_
    refine ex_aload_n cg_245 (ix := 33) (pc' := 52) rfl rfl rfl ?_
    refine ex_getfield cg_245 (ix := 34) (pc' := 55) (v := .inr (.inl 149)) rfl rfl rfl rfl rfl ?_
    refine ex_iconst cg_245 (ix := 35) (pc' := 56) rfl rfl ?_
    refine ex_iaload cg_245 (ix := 36) (pc' := 57) rfl rfl (by omega) (by omega) rfl ?_
    refine ex_icmp cg_245 (ix := 37) (t := 98) (pc' := 60) rfl rfl rfl (fun hb57 => ?_) (fun hb57 => ?_)
    · have hb57 : (ch (Int32.ofInt 1).toNatClampNeg).toInt ≤ i.toInt := hb57
      rw [ek] at hsu
      exact hP su i hsu
    · have hb57 : ¬ ((ch (Int32.ofInt 1).toNatClampNeg).toInt ≤ i.toInt) := hb57
      exfalso; first | omega | exact absurd hb57 (by decide +kernel)
  | succ m ih =>
    intro k hk i hi su hsu
    have hik : i.toNatClampNeg = k := cx_clamp hi
    have i0 : (Int32.ofInt 0).toNatClampNeg = 0 := by decide +kernel
    have i1 : (Int32.ofInt 1).toNatClampNeg = 1 := by decide +kernel
    have e00 : (ch (Int32.ofInt 0).toNatClampNeg).toInt = (LN : Int) := by rw [i0]; exact hc0
    have e11 : (ch (Int32.ofInt 1).toNatClampNeg).toInt = (FN : Int) := by rw [i1]; exact hc1
    refine ex_iload cg_245 (ix := 32) (pc' := 51) rfl rfl rfl ?_
    refine ex_aload_n cg_245 (ix := 33) (pc' := 52) rfl rfl rfl ?_
    refine ex_getfield cg_245 (ix := 34) (pc' := 55) (v := .inr (.inl 149)) rfl rfl rfl rfl rfl ?_
    refine ex_iconst cg_245 (ix := 35) (pc' := 56) rfl rfl ?_
    refine ex_iaload cg_245 (ix := 36) (pc' := 57) rfl rfl (by omega) (by omega) rfl ?_
    refine ex_icmp cg_245 (ix := 37) (t := 98) (pc' := 60) rfl rfl rfl (fun hb57 => ?_) (fun hb57 => ?_)
    · have hb57 : (ch (Int32.ofInt 1).toNatClampNeg).toInt ≤ i.toInt := hb57
      exfalso; first | omega | exact absurd hb57 (by decide +kernel)
    · have hb57 : ¬ ((ch (Int32.ofInt 1).toNatClampNeg).toInt ≤ i.toInt) := hb57
      refine ex_iload_n cg_245 (ix := 38) (pc' := 61) rfl rfl rfl ?_
      refine ex_if cg_245 (ix := 39) (t := 90) (pc' := 64) rfl rfl rfl (fun hb61 => ?_) (fun hb61 => ?_)
      · have hb61 : su.toInt = 0 := hb61
        refine ex_iconst cg_245 (ix := 54) (pc' := 91) rfl rfl ?_
        refine ex_istore_n cg_245 (ix := 55) (pc' := 92) (L' := [some (.inr (.inl 119)), some (.inl (.int x)), some (.inl (.int fd)), some (.inl (.int (Int32.ofInt 0))), some (.inl (.int i))]) rfl rfl rfl rfl ?_
        refine ex_iinc cg_245 (ix := 56) (pc' := 95) (L' := [some (.inr (.inl 119)), some (.inl (.int x)), some (.inl (.int fd)), some (.inl (.int (Int32.ofInt 0))), some (.inl (.int (i + Int32.ofInt 1)))]) rfl rfl rfl rfl rfl ?_
        refine ex_goto cg_245 (ix := 57) (pc' := 49) rfl rfl ?_
        refine ih (k + 1) (by omega) _ (by rw [cx_addc (by omega) (by omega)]; omega) _ (Or.inr ⟨fun c => ?_, rfl⟩)
        rcases hsu with ⟨c0, q⟩ | ⟨c0, q⟩
        · have q8 : su.toInt = 1 := by rw [q]; exact kc1
          have := c k (by omega) (fun z => by omega)
          omega
        · exact c0 (fun y hy => c y (by omega))
      · have hb61 : ¬ (su.toInt = 0) := hb61
        refine ex_iload cg_245 (ix := 40) (pc' := 66) rfl rfl rfl ?_
        refine ex_iload_n cg_245 (ix := 41) (pc' := 67) rfl rfl rfl ?_
        refine ex_icmp cg_245 (ix := 42) (t := 86) (pc' := 70) rfl rfl rfl (fun hb67 => ?_) (fun hb67 => ?_)
        · have hb67 : i.toInt = fd.toInt := hb67
          refine ex_iconst cg_245 (ix := 52) (pc' := 87) rfl rfl ?_
          refine ex_goto cg_245 (ix := 53) (pc' := 91) rfl rfl ?_
          refine ex_istore_n cg_245 (ix := 55) (pc' := 92) (L' := [some (.inr (.inl 119)), some (.inl (.int x)), some (.inl (.int fd)), some (.inl (.int (Int32.ofInt 1))), some (.inl (.int i))]) rfl rfl rfl rfl ?_
          refine ex_iinc cg_245 (ix := 56) (pc' := 95) (L' := [some (.inr (.inl 119)), some (.inl (.int x)), some (.inl (.int fd)), some (.inl (.int (Int32.ofInt 1))), some (.inl (.int (i + Int32.ofInt 1)))]) rfl rfl rfl rfl rfl ?_
          refine ex_goto cg_245 (ix := 57) (pc' := 49) rfl rfl ?_
          refine ih (k + 1) (by omega) _ (by rw [cx_addc (by omega) (by omega)]; omega) _ (Or.inl ⟨?_, rfl⟩)
          rcases hsu with ⟨c, q⟩ | ⟨c, q⟩
          · exact fun y hy => by
              by_cases q2 : y = k
              · rw [q2]; intro hne; omega
              · exact c y (by omega)
          · exfalso; rw [q] at hb61; omega
        · have hb67 : ¬ (i.toInt = fd.toInt) := hb67
          refine ex_aload_n cg_245 (ix := 43) (pc' := 71) rfl rfl rfl ?_
          refine ex_iload_n cg_245 (ix := 44) (pc' := 72) rfl rfl rfl ?_
          refine ex_iload cg_245 (ix := 45) (pc' := 74) rfl rfl rfl ?_
          refine ex_callV cg_245 (ix := 46) (pc' := 77) (As := [.inl (.int x), .inl (.int i)]) (r := []) rfl rfl rfl (ct_mul (mi := (upi mi 0 (Int32.ofInt 0))) (ml := ml) (mk := mk) (x := x) (y := i) (kx := kN) (ky := k) hx (by omega) hi (by omega)) (by first | decide | omega) rfl rfl rfl ⟨rfl, rfl, trivial⟩ rfl rfl (fun v h2 hq => ?_)
          obtain ⟨un1, rfl, rfl, hun1⟩ := hq
          have hun1b := uN_b (lm := mk) (fm := fmO mk) kN k
          show cx_T _ 245 _ 77 ([some (.inr (.inl 119)), some (.inl (.int x)), some (.inl (.int fd)), some (.inl (.int su)), some (.inl (.int i))], [.inl (.int un1)], [(119, .inl (11, vs_119 (upi mi 0 (Int32.ofInt 0)) ml)), (126, .inr (.inl (0, 7, r))), (149, .inr (.inl (0, 2, ch))), (150, .inr (.inl (0, 16, mk))), (151, .inr (.inl (0, 2304, T2))), (152, .inr (.inl (0, 8, jt2)))]) _
          refine ex_aload_n cg_245 (ix := 47) (pc' := 78) rfl rfl rfl ?_
          refine ex_iload_n cg_245 (ix := 48) (pc' := 79) rfl rfl rfl ?_
          refine ex_iload_n cg_245 (ix := 49) (pc' := 80) rfl rfl rfl ?_
          refine ex_callV cg_245 (ix := 50) (pc' := 83) (As := [.inl (.int x), .inl (.int fd)]) (r := [.inl (.int un1)]) rfl rfl rfl (ct_mul (mi := (upi mi 0 (Int32.ofInt 0))) (ml := ml) (mk := mk) (x := x) (y := fd) (kx := kN) (ky := jN_) hx (by omega) hfd (by omega)) (by first | decide | omega) rfl rfl rfl ⟨rfl, rfl, trivial⟩ rfl rfl (fun v h2 hq => ?_)
          obtain ⟨un2, rfl, rfl, hun2⟩ := hq
          have hun2b := uN_b (lm := mk) (fm := fmO mk) kN jN_
          show cx_T _ 245 _ 83 ([some (.inr (.inl 119)), some (.inl (.int x)), some (.inl (.int fd)), some (.inl (.int su)), some (.inl (.int i))], [.inl (.int un2), .inl (.int un1)], [(119, .inl (11, vs_119 (upi mi 0 (Int32.ofInt 0)) ml)), (126, .inr (.inl (0, 7, r))), (149, .inr (.inl (0, 2, ch))), (150, .inr (.inl (0, 16, mk))), (151, .inr (.inl (0, 2304, T2))), (152, .inr (.inl (0, 8, jt2)))]) _
          refine ex_icmp cg_245 (ix := 51) (t := 90) (pc' := 86) rfl rfl rfl (fun hb83 => ?_) (fun hb83 => ?_)
          · have hb83 : un1.toInt ≤ un2.toInt := hb83
            refine ex_iconst cg_245 (ix := 54) (pc' := 91) rfl rfl ?_
            refine ex_istore_n cg_245 (ix := 55) (pc' := 92) (L' := [some (.inr (.inl 119)), some (.inl (.int x)), some (.inl (.int fd)), some (.inl (.int (Int32.ofInt 0))), some (.inl (.int i))]) rfl rfl rfl rfl ?_
            refine ex_iinc cg_245 (ix := 56) (pc' := 95) (L' := [some (.inr (.inl 119)), some (.inl (.int x)), some (.inl (.int fd)), some (.inl (.int (Int32.ofInt 0))), some (.inl (.int (i + Int32.ofInt 1)))]) rfl rfl rfl rfl rfl ?_
            refine ex_goto cg_245 (ix := 57) (pc' := 49) rfl rfl ?_
            refine ih (k + 1) (by omega) _ (by rw [cx_addc (by omega) (by omega)]; omega) _ (Or.inr ⟨fun c => ?_, rfl⟩)
            rcases hsu with ⟨c0, q⟩ | ⟨c0, q⟩
            · have q8 : su.toInt = 1 := by rw [q]; exact kc1
              have := c k (by omega) (fun z => by omega)
              omega
            · exact c0 (fun y hy => c y (by omega))
          · have hb83 : ¬ (un1.toInt ≤ un2.toInt) := hb83
            refine ex_iconst cg_245 (ix := 52) (pc' := 87) rfl rfl ?_
            refine ex_goto cg_245 (ix := 53) (pc' := 91) rfl rfl ?_
            refine ex_istore_n cg_245 (ix := 55) (pc' := 92) (L' := [some (.inr (.inl 119)), some (.inl (.int x)), some (.inl (.int fd)), some (.inl (.int (Int32.ofInt 1))), some (.inl (.int i))]) rfl rfl rfl rfl ?_
            refine ex_iinc cg_245 (ix := 56) (pc' := 95) (L' := [some (.inr (.inl 119)), some (.inl (.int x)), some (.inl (.int fd)), some (.inl (.int (Int32.ofInt 1))), some (.inl (.int (i + Int32.ofInt 1)))]) rfl rfl rfl rfl rfl ?_
            refine ex_goto cg_245 (ix := 57) (pc' := 49) rfl rfl ?_
            refine ih (k + 1) (by omega) _ (by rw [cx_addc (by omega) (by omega)]; omega) _ (Or.inl ⟨?_, rfl⟩)
            rcases hsu with ⟨c, q⟩ | ⟨c, q⟩
            · exact fun y hy => by
                by_cases q2 : y = k
                · rw [q2]; intro hne; omega
                · exact c y (by omega)
            · exfalso; rw [q] at hb61; omega
theorem ms_l2 {mi : Nat → Int32} {ml : Nat → Int64} {r mk ch T2 jt2 : Nat → Int32} {LN FN kN jN_ : Nat} {x fd : Int32} {Q0 : Prop} {P : Option cx_V → cx_H → Prop} (hc0 : (ch 0).toInt = (LN : Int)) (hL : LN ≤ 8) (hc1 : (ch 1).toInt = (FN : Int)) (hF : FN ≤ 8) (hx : x.toInt = (kN : Int)) (hkL : kN < LN) (hfd : fd.toInt = (jN_ : Int)) (hjF : jN_ < FN) (hP : ∀ su i : Int32, ((Q0 ∧ (∀ y : Nat, y < LN → ¬ y = kN → uN mk (fmO mk) kN jN_ < uN mk (fmO mk) y jN_)) ∧ su = Int32.ofInt 1 ∨ ¬ (Q0 ∧ (∀ y : Nat, y < LN → ¬ y = kN → uN mk (fmO mk) kN jN_ < uN mk (fmO mk) y jN_)) ∧ su = Int32.ofInt 0) → cx_T 6 245 [119, 126, 149, 150, 151, 152] 150 ([some (.inr (.inl 119)), some (.inl (.int x)), some (.inl (.int fd)), some (.inl (.int su)), some (.inl (.int i))], [], [(119, .inl (11, vs_119 (upi mi 0 (Int32.ofInt 0)) ml)), (126, .inr (.inl (0, 7, r))), (149, .inr (.inl (0, 2, ch))), (150, .inr (.inl (0, 16, mk))), (151, .inr (.inl (0, 2304, T2))), (152, .inr (.inl (0, 8, jt2)))]) P) :
    ∀ (m k : Nat), k + m = LN → ∀ i : Int32, i.toInt = (k : Int) → ∀ (su : Int32), ((Q0 ∧ (∀ y : Nat, y < k → ¬ y = kN → uN mk (fmO mk) kN jN_ < uN mk (fmO mk) y jN_)) ∧ su = Int32.ofInt 1 ∨ ¬ (Q0 ∧ (∀ y : Nat, y < k → ¬ y = kN → uN mk (fmO mk) kN jN_ < uN mk (fmO mk) y jN_)) ∧ su = Int32.ofInt 0) → cx_T 6 245 [119, 126, 149, 150, 151, 152] 101 ([some (.inr (.inl 119)), some (.inl (.int x)), some (.inl (.int fd)), some (.inl (.int su)), some (.inl (.int i))], [], [(119, .inl (11, vs_119 (upi mi 0 (Int32.ofInt 0)) ml)), (126, .inr (.inl (0, 7, r))), (149, .inr (.inl (0, 2, ch))), (150, .inr (.inl (0, 16, mk))), (151, .inr (.inl (0, 2304, T2))), (152, .inr (.inl (0, 8, jt2)))]) P := by
  have kcm1 : (Int32.ofInt (-1)).toInt = -1 := by decide +kernel
  have kc0 : (Int32.ofInt 0).toInt = 0 := by decide +kernel
  have kc1 : (Int32.ofInt 1).toInt = 1 := by decide +kernel
  intro m
  induction m with
  | zero =>
    intro k hk i hi su hsu
    have ek : k = LN := by omega
    have i0 : (Int32.ofInt 0).toNatClampNeg = 0 := by decide +kernel
    have i1 : (Int32.ofInt 1).toNatClampNeg = 1 := by decide +kernel
    have e00 : (ch (Int32.ofInt 0).toNatClampNeg).toInt = (LN : Int) := by rw [i0]; exact hc0
    have e11 : (ch (Int32.ofInt 1).toNatClampNeg).toInt = (FN : Int) := by rw [i1]; exact hc1
    refine ex_iload cg_245 (ix := 60) (pc' := 103) rfl rfl rfl ?_
    refine ex_aload_n cg_245 (ix := 61) (pc' := 104) rfl rfl rfl ?_
    refine ex_getfield cg_245 (ix := 62) (pc' := 107) (v := .inr (.inl 149)) rfl rfl rfl rfl rfl ?_
    refine ex_iconst cg_245 (ix := 63) (pc' := 108) rfl rfl ?_
    refine ex_iaload cg_245 (ix := 64) (pc' := 109) rfl rfl (by omega) (by omega) rfl ?_
    refine ex_icmp cg_245 (ix := 65) (t := 150) (pc' := 112) rfl rfl rfl (fun hb109 => ?_) (fun hb109 => ?_)
    · have hb109 : (ch (Int32.ofInt 0).toNatClampNeg).toInt ≤ i.toInt := hb109
      rw [ek] at hsu
      exact hP su i hsu
    · have hb109 : ¬ ((ch (Int32.ofInt 0).toNatClampNeg).toInt ≤ i.toInt) := hb109
      exfalso; first | omega | exact absurd hb109 (by decide +kernel)
  | succ m ih =>
    intro k hk i hi su hsu
    have hik : i.toNatClampNeg = k := cx_clamp hi
    have i0 : (Int32.ofInt 0).toNatClampNeg = 0 := by decide +kernel
    have i1 : (Int32.ofInt 1).toNatClampNeg = 1 := by decide +kernel
    have e00 : (ch (Int32.ofInt 0).toNatClampNeg).toInt = (LN : Int) := by rw [i0]; exact hc0
    have e11 : (ch (Int32.ofInt 1).toNatClampNeg).toInt = (FN : Int) := by rw [i1]; exact hc1
    refine ex_iload cg_245 (ix := 60) (pc' := 103) rfl rfl rfl ?_
    refine ex_aload_n cg_245 (ix := 61) (pc' := 104) rfl rfl rfl ?_
    refine ex_getfield cg_245 (ix := 62) (pc' := 107) (v := .inr (.inl 149)) rfl rfl rfl rfl rfl ?_
    refine ex_iconst cg_245 (ix := 63) (pc' := 108) rfl rfl ?_
    refine ex_iaload cg_245 (ix := 64) (pc' := 109) rfl rfl (by omega) (by omega) rfl ?_
    refine ex_icmp cg_245 (ix := 65) (t := 150) (pc' := 112) rfl rfl rfl (fun hb109 => ?_) (fun hb109 => ?_)
    · have hb109 : (ch (Int32.ofInt 0).toNatClampNeg).toInt ≤ i.toInt := hb109
      exfalso; first | omega | exact absurd hb109 (by decide +kernel)
    · have hb109 : ¬ ((ch (Int32.ofInt 0).toNatClampNeg).toInt ≤ i.toInt) := hb109
      refine ex_iload_n cg_245 (ix := 66) (pc' := 113) rfl rfl rfl ?_
      refine ex_if cg_245 (ix := 67) (t := 142) (pc' := 116) rfl rfl rfl (fun hb113 => ?_) (fun hb113 => ?_)
      · have hb113 : su.toInt = 0 := hb113
        refine ex_iconst cg_245 (ix := 82) (pc' := 143) rfl rfl ?_
        refine ex_istore_n cg_245 (ix := 83) (pc' := 144) (L' := [some (.inr (.inl 119)), some (.inl (.int x)), some (.inl (.int fd)), some (.inl (.int (Int32.ofInt 0))), some (.inl (.int i))]) rfl rfl rfl rfl ?_
        refine ex_iinc cg_245 (ix := 84) (pc' := 147) (L' := [some (.inr (.inl 119)), some (.inl (.int x)), some (.inl (.int fd)), some (.inl (.int (Int32.ofInt 0))), some (.inl (.int (i + Int32.ofInt 1)))]) rfl rfl rfl rfl rfl ?_
        refine ex_goto cg_245 (ix := 85) (pc' := 101) rfl rfl ?_
        refine ih (k + 1) (by omega) _ (by rw [cx_addc (by omega) (by omega)]; omega) _ (Or.inr ⟨fun c => ?_, rfl⟩)
        rcases hsu with ⟨c0, q⟩ | ⟨c0, q⟩
        · have q8 : su.toInt = 1 := by rw [q]; exact kc1
          have := c.2 k (by omega) (fun z => by omega)
          omega
        · exact c0 ⟨c.1, fun y hy => c.2 y (by omega)⟩
      · have hb113 : ¬ (su.toInt = 0) := hb113
        refine ex_iload cg_245 (ix := 68) (pc' := 118) rfl rfl rfl ?_
        refine ex_iload_n cg_245 (ix := 69) (pc' := 119) rfl rfl rfl ?_
        refine ex_icmp cg_245 (ix := 70) (t := 138) (pc' := 122) rfl rfl rfl (fun hb119 => ?_) (fun hb119 => ?_)
        · have hb119 : i.toInt = x.toInt := hb119
          refine ex_iconst cg_245 (ix := 80) (pc' := 139) rfl rfl ?_
          refine ex_goto cg_245 (ix := 81) (pc' := 143) rfl rfl ?_
          refine ex_istore_n cg_245 (ix := 83) (pc' := 144) (L' := [some (.inr (.inl 119)), some (.inl (.int x)), some (.inl (.int fd)), some (.inl (.int (Int32.ofInt 1))), some (.inl (.int i))]) rfl rfl rfl rfl ?_
          refine ex_iinc cg_245 (ix := 84) (pc' := 147) (L' := [some (.inr (.inl 119)), some (.inl (.int x)), some (.inl (.int fd)), some (.inl (.int (Int32.ofInt 1))), some (.inl (.int (i + Int32.ofInt 1)))]) rfl rfl rfl rfl rfl ?_
          refine ex_goto cg_245 (ix := 85) (pc' := 101) rfl rfl ?_
          refine ih (k + 1) (by omega) _ (by rw [cx_addc (by omega) (by omega)]; omega) _ (Or.inl ⟨?_, rfl⟩)
          rcases hsu with ⟨c, q⟩ | ⟨c, q⟩
          · exact ⟨c.1, fun y hy => by
              by_cases q2 : y = k
              · rw [q2]; intro hne; omega
              · exact c.2 y (by omega)⟩
          · exfalso; rw [q] at hb113; omega
        · have hb119 : ¬ (i.toInt = x.toInt) := hb119
          refine ex_aload_n cg_245 (ix := 71) (pc' := 123) rfl rfl rfl ?_
          refine ex_iload cg_245 (ix := 72) (pc' := 125) rfl rfl rfl ?_
          refine ex_iload_n cg_245 (ix := 73) (pc' := 126) rfl rfl rfl ?_
          refine ex_callV cg_245 (ix := 74) (pc' := 129) (As := [.inl (.int i), .inl (.int fd)]) (r := []) rfl rfl rfl (ct_mul (mi := (upi mi 0 (Int32.ofInt 0))) (ml := ml) (mk := mk) (x := i) (y := fd) (kx := k) (ky := jN_) hi (by omega) hfd (by omega)) (by first | decide | omega) rfl rfl rfl ⟨rfl, rfl, trivial⟩ rfl rfl (fun v h2 hq => ?_)
          obtain ⟨un1, rfl, rfl, hun1⟩ := hq
          have hun1b := uN_b (lm := mk) (fm := fmO mk) k jN_
          show cx_T _ 245 _ 129 ([some (.inr (.inl 119)), some (.inl (.int x)), some (.inl (.int fd)), some (.inl (.int su)), some (.inl (.int i))], [.inl (.int un1)], [(119, .inl (11, vs_119 (upi mi 0 (Int32.ofInt 0)) ml)), (126, .inr (.inl (0, 7, r))), (149, .inr (.inl (0, 2, ch))), (150, .inr (.inl (0, 16, mk))), (151, .inr (.inl (0, 2304, T2))), (152, .inr (.inl (0, 8, jt2)))]) _
          refine ex_aload_n cg_245 (ix := 75) (pc' := 130) rfl rfl rfl ?_
          refine ex_iload_n cg_245 (ix := 76) (pc' := 131) rfl rfl rfl ?_
          refine ex_iload_n cg_245 (ix := 77) (pc' := 132) rfl rfl rfl ?_
          refine ex_callV cg_245 (ix := 78) (pc' := 135) (As := [.inl (.int x), .inl (.int fd)]) (r := [.inl (.int un1)]) rfl rfl rfl (ct_mul (mi := (upi mi 0 (Int32.ofInt 0))) (ml := ml) (mk := mk) (x := x) (y := fd) (kx := kN) (ky := jN_) hx (by omega) hfd (by omega)) (by first | decide | omega) rfl rfl rfl ⟨rfl, rfl, trivial⟩ rfl rfl (fun v h2 hq => ?_)
          obtain ⟨un2, rfl, rfl, hun2⟩ := hq
          have hun2b := uN_b (lm := mk) (fm := fmO mk) kN jN_
          show cx_T _ 245 _ 135 ([some (.inr (.inl 119)), some (.inl (.int x)), some (.inl (.int fd)), some (.inl (.int su)), some (.inl (.int i))], [.inl (.int un2), .inl (.int un1)], [(119, .inl (11, vs_119 (upi mi 0 (Int32.ofInt 0)) ml)), (126, .inr (.inl (0, 7, r))), (149, .inr (.inl (0, 2, ch))), (150, .inr (.inl (0, 16, mk))), (151, .inr (.inl (0, 2304, T2))), (152, .inr (.inl (0, 8, jt2)))]) _
          refine ex_icmp cg_245 (ix := 79) (t := 142) (pc' := 138) rfl rfl rfl (fun hb135 => ?_) (fun hb135 => ?_)
          · have hb135 : un1.toInt ≤ un2.toInt := hb135
            refine ex_iconst cg_245 (ix := 82) (pc' := 143) rfl rfl ?_
            refine ex_istore_n cg_245 (ix := 83) (pc' := 144) (L' := [some (.inr (.inl 119)), some (.inl (.int x)), some (.inl (.int fd)), some (.inl (.int (Int32.ofInt 0))), some (.inl (.int i))]) rfl rfl rfl rfl ?_
            refine ex_iinc cg_245 (ix := 84) (pc' := 147) (L' := [some (.inr (.inl 119)), some (.inl (.int x)), some (.inl (.int fd)), some (.inl (.int (Int32.ofInt 0))), some (.inl (.int (i + Int32.ofInt 1)))]) rfl rfl rfl rfl rfl ?_
            refine ex_goto cg_245 (ix := 85) (pc' := 101) rfl rfl ?_
            refine ih (k + 1) (by omega) _ (by rw [cx_addc (by omega) (by omega)]; omega) _ (Or.inr ⟨fun c => ?_, rfl⟩)
            rcases hsu with ⟨c0, q⟩ | ⟨c0, q⟩
            · have q8 : su.toInt = 1 := by rw [q]; exact kc1
              have := c.2 k (by omega) (fun z => by omega)
              omega
            · exact c0 ⟨c.1, fun y hy => c.2 y (by omega)⟩
          · have hb135 : ¬ (un1.toInt ≤ un2.toInt) := hb135
            refine ex_iconst cg_245 (ix := 80) (pc' := 139) rfl rfl ?_
            refine ex_goto cg_245 (ix := 81) (pc' := 143) rfl rfl ?_
            refine ex_istore_n cg_245 (ix := 83) (pc' := 144) (L' := [some (.inr (.inl 119)), some (.inl (.int x)), some (.inl (.int fd)), some (.inl (.int (Int32.ofInt 1))), some (.inl (.int i))]) rfl rfl rfl rfl ?_
            refine ex_iinc cg_245 (ix := 84) (pc' := 147) (L' := [some (.inr (.inl 119)), some (.inl (.int x)), some (.inl (.int fd)), some (.inl (.int (Int32.ofInt 1))), some (.inl (.int (i + Int32.ofInt 1)))]) rfl rfl rfl rfl rfl ?_
            refine ex_goto cg_245 (ix := 85) (pc' := 101) rfl rfl ?_
            refine ih (k + 1) (by omega) _ (by rw [cx_addc (by omega) (by omega)]; omega) _ (Or.inl ⟨?_, rfl⟩)
            rcases hsu with ⟨c, q⟩ | ⟨c, q⟩
            · exact ⟨c.1, fun y hy => by
                by_cases q2 : y = k
                · rw [q2]; intro hne; omega
                · exact c.2 y (by omega)⟩
            · exfalso; rw [q] at hb113; omega
theorem suQ {u : Nat → Nat → Int} {F L k j : Nat} : ((∀ y : Nat, y < F → ¬ y = j → u k j < u k y) ∧ ∀ y : Nat, y < L → ¬ y = k → u k j < u y j) ↔ suP u F L k j := Iff.rfl
theorem ct_msr {mi : Nat → Int32} {ml : Nat → Int64} {r mk ch T jt : Nat → Int32} {LN FN : Nat} {x : Int32} (hc0 : (ch 0).toInt = (LN : Int)) (hL : LN ≤ 8) (hc1 : (ch 1).toInt = (FN : Int)) (hF : FN ≤ 8) (hJB : JB jt) : cx_Ct 6 245 [.inr (.inl 119), .inl (.int x)] (h_mc mi ml r ch mk T jt) (fun v h2 => ∃ (z : Int32) (r2 T2 jt2 : Nat → Int32), v = some (.inl (.int z)) ∧ h2 = h_mc (upi mi 0 (Int32.ofInt 0)) ml r2 ch mk T2 jt2 ∧ JB jt2 ∧ srA x (uN mk (fmO mk)) 100 FN LN z) := by
  have kcm1 : (Int32.ofInt (-1)).toInt = -1 := by decide +kernel
  have kc0 : (Int32.ofInt 0).toInt = 0 := by decide +kernel
  have kc1 : (Int32.ofInt 1).toInt = 1 := by decide +kernel
  have i0 : (Int32.ofInt 0).toNatClampNeg = 0 := by decide +kernel
  have i1 : (Int32.ofInt 1).toNatClampNeg = 1 := by decide +kernel
  have e00 : (ch (Int32.ofInt 0).toNatClampNeg).toInt = (LN : Int) := by rw [i0]; exact hc0
  have e11 : (ch (Int32.ofInt 1).toNatClampNeg).toInt = (FN : Int) := by rw [i1]; exact hc1
  have hsb : ((ch (Int32.ofInt 0).toNatClampNeg) - Int32.ofInt 1).toInt = (LN : Int) - 1 := by rw [cx_subc (by omega) (by omega), e00]; omega
  refine cx_Ct.of cg_245 (nL := 5) rfl rfl rfl ?_
  show cx_T 6 245 [119, 126, 149, 150, 151, 152] 0 ([some (.inr (.inl 119)), some (.inl (.int x)), none, none, none], [], h_mc mi ml r ch mk T jt) _
  refine ex_aload_n cg_245 (ix := 0) (pc' := 1) rfl rfl rfl ?_
  refine ex_iconst cg_245 (ix := 1) (pc' := 2) rfl rfl ?_
  refine ex_putfield cg_245 (ix := 2) (pc' := 5) (h' := [(119, .inl (11, vs_119 (upi mi 0 (Int32.ofInt 0)) ml)), (126, .inr (.inl (0, 7, r))), (149, .inr (.inl (0, 2, ch))), (150, .inr (.inl (0, 16, mk))), (151, .inr (.inl (0, 2304, T))), (152, .inr (.inl (0, 8, jt)))]) rfl rfl rfl rfl rfl rfl rfl rfl ?_
  refine ex_iload_n cg_245 (ix := 3) (pc' := 6) rfl rfl rfl ?_
  refine ex_iconst cg_245 (ix := 4) (pc' := 7) rfl rfl ?_
  refine ex_aload_n cg_245 (ix := 5) (pc' := 8) rfl rfl rfl ?_
  refine ex_getfield cg_245 (ix := 6) (pc' := 11) (v := .inr (.inl 149)) rfl rfl rfl rfl rfl ?_
  refine ex_iconst cg_245 (ix := 7) (pc' := 12) rfl rfl ?_
  refine ex_iaload cg_245 (ix := 8) (pc' := 13) rfl rfl (by omega) (by omega) rfl ?_
  refine ex_iconst cg_245 (ix := 9) (pc' := 14) rfl rfl ?_
  refine ex_isub cg_245 (ix := 10) (pc' := 15) rfl rfl ?_
  refine ex_callS cg_245 (ix := 11) (pc' := 18) (As := [.inl (.int x), .inl (.int (Int32.ofInt 0)), .inl (.int ((ch (Int32.ofInt 0).toNatClampNeg) - (Int32.ofInt 1)))]) (r := []) rfl rfl rfl (ct_min (x := x) (a := Int32.ofInt 0) (b := (ch (Int32.ofInt 0).toNatClampNeg) - (Int32.ofInt 1))) (by first | decide | omega) rfl rfl trivial rfl rfl (fun v h2 hq => ?_)
  obtain ⟨z, rfl, rfl, hz1⟩ := hq
  rcases hz1 with ⟨hz1, rfl⟩ | ⟨hz1, rfl⟩
  · show cx_T _ 245 _ 18 ([some (.inr (.inl 119)), some (.inl (.int x)), none, none, none], [.inl (.int (Int32.ofInt 1))], [(119, .inl (11, vs_119 (upi mi 0 (Int32.ofInt 0)) ml)), (126, .inr (.inl (0, 7, r))), (149, .inr (.inl (0, 2, ch))), (150, .inr (.inl (0, 16, mk))), (151, .inr (.inl (0, 2304, T))), (152, .inr (.inl (0, 8, jt)))]) _
    refine ex_if cg_245 (ix := 12) (t := 27) (pc' := 21) rfl rfl rfl (fun hb18 => ?_) (fun hb18 => ?_)
    · have hb18 : ¬ (Int32.ofInt 1).toInt = 0 := hb18
      refine ex_aload_n cg_245 (ix := 17) (pc' := 28) rfl rfl rfl ?_
      refine ex_callV cg_245 (ix := 18) (pc' := 31) (As := []) (r := []) rfl rfl rfl (ct_fj (mi := mi) (ml := ml) (mk := mk) (ch := ch) (LN := LN) (FN := FN) (T := T) (jt := jt) hc0 hL hc1 hF hJB) (by first | decide | omega) rfl rfl rfl ⟨rfl, rfl, rfl, rfl, rfl, trivial⟩ rfl rfl (fun v h2 hq => ?_)
      obtain ⟨rfl, T2, jt2, rfl, hA, hJ2⟩ := hq
      show cx_T _ 245 _ 31 ([some (.inr (.inl 119)), some (.inl (.int x)), none, none, none], [], [(119, .inl (11, vs_119 (upi mi 0 (Int32.ofInt 0)) ml)), (126, .inr (.inl (0, 7, r))), (149, .inr (.inl (0, 2, ch))), (150, .inr (.inl (0, 16, mk))), (151, .inr (.inl (0, 2304, T2))), (152, .inr (.inl (0, 8, jt2)))]) _
      refine ex_aload_n cg_245 (ix := 19) (pc' := 32) rfl rfl rfl ?_
      refine ex_getfield cg_245 (ix := 20) (pc' := 35) (v := .inr (.inl 152)) rfl rfl rfl rfl rfl ?_
      refine ex_iload_n cg_245 (ix := 21) (pc' := 36) rfl rfl rfl ?_
      refine ex_iaload cg_245 (ix := 22) (pc' := 37) rfl rfl (by omega) (by omega) rfl ?_
      refine ex_istore_n cg_245 (ix := 23) (pc' := 38) (L' := [some (.inr (.inl 119)), some (.inl (.int x)), some (.inl (.int (jt2 x.toNatClampNeg))), none, none]) rfl rfl rfl rfl ?_
      refine ex_iload_n cg_245 (ix := 24) (pc' := 39) rfl rfl rfl ?_
      refine ex_if cg_245 (ix := 25) (t := 44) (pc' := 42) rfl rfl rfl (fun hb39 => ?_) (fun hb39 => ?_)
      · have hb39 : 0 ≤ (jt2 x.toNatClampNeg).toInt := hb39
        have hxk := ab_clamp (x := x) (by omega)
        have hA1 := hA x.toNatClampNeg (by omega)
        have hj9 : jJ 100 (uN mk (fmO mk)) FN LN x.toNatClampNeg (jT 100 (uN mk (fmO mk)) FN LN x.toNatClampNeg) < FN := Classical.byContradiction (fun q => by unfold jA at hA1; rw [if_neg q] at hA1; omega)
        have hjj : (jt2 x.toNatClampNeg).toInt = ((jJ 100 (uN mk (fmO mk)) FN LN x.toNatClampNeg (jT 100 (uN mk (fmO mk)) FN LN x.toNatClampNeg) : Nat) : Int) := by unfold jA at hA1; rw [if_pos hj9] at hA1; exact hA1
        refine ex_iconst cg_245 (ix := 28) (pc' := 45) rfl rfl ?_
        refine ex_istore_n cg_245 (ix := 29) (pc' := 46) (L' := [some (.inr (.inl 119)), some (.inl (.int x)), some (.inl (.int (jt2 x.toNatClampNeg))), some (.inl (.int (Int32.ofInt 1))), none]) rfl rfl rfl rfl ?_
        refine ex_iconst cg_245 (ix := 30) (pc' := 47) rfl rfl ?_
        refine ex_istore cg_245 (ix := 31) (pc' := 49) (L' := [some (.inr (.inl 119)), some (.inl (.int x)), some (.inl (.int (jt2 x.toNatClampNeg))), some (.inl (.int (Int32.ofInt 1))), some (.inl (.int (Int32.ofInt 0)))]) rfl rfl rfl rfl ?_
        refine ms_l1 (mi := mi) (ml := ml) (r := r) (mk := mk) (ch := ch) (T2 := T2) (jt2 := jt2) (LN := LN) (FN := FN) (kN := x.toNatClampNeg) (jN_ := jJ 100 (uN mk (fmO mk)) FN LN x.toNatClampNeg (jT 100 (uN mk (fmO mk)) FN LN x.toNatClampNeg)) (x := x) (fd := jt2 x.toNatClampNeg) hc0 hL hc1 hF hxk.symm (by omega) hjj hj9 (P := fun v h2 => ∃ (z : Int32) (r2 T2 jt2 : Nat → Int32), v = some (.inl (.int z)) ∧ h2 = h_mc (upi mi 0 (Int32.ofInt 0)) ml r2 ch mk T2 jt2 ∧ JB jt2 ∧ srA x (uN mk (fmO mk)) 100 FN LN z) (fun su1 i1y hsu1 => ?_) FN 0 (by omega) (Int32.ofInt 0) (by decide +kernel) (Int32.ofInt 1) (Or.inl ⟨fun y hy => absurd hy (Nat.not_lt_zero y), rfl⟩)
        refine ex_iconst cg_245 (ix := 58) (pc' := 99) rfl rfl ?_
        refine ex_istore cg_245 (ix := 59) (pc' := 101) (L' := [some (.inr (.inl 119)), some (.inl (.int x)), some (.inl (.int (jt2 x.toNatClampNeg))), some (.inl (.int su1)), some (.inl (.int (Int32.ofInt 0)))]) rfl rfl rfl rfl ?_
        refine ms_l2 (mi := mi) (ml := ml) (r := r) (mk := mk) (ch := ch) (T2 := T2) (jt2 := jt2) (LN := LN) (FN := FN) (kN := x.toNatClampNeg) (jN_ := jJ 100 (uN mk (fmO mk)) FN LN x.toNatClampNeg (jT 100 (uN mk (fmO mk)) FN LN x.toNatClampNeg)) (x := x) (fd := jt2 x.toNatClampNeg) (Q0 := ∀ y : Nat, y < FN → ¬ y = jJ 100 (uN mk (fmO mk)) FN LN x.toNatClampNeg (jT 100 (uN mk (fmO mk)) FN LN x.toNatClampNeg) → uN mk (fmO mk) x.toNatClampNeg (jJ 100 (uN mk (fmO mk)) FN LN x.toNatClampNeg (jT 100 (uN mk (fmO mk)) FN LN x.toNatClampNeg)) < uN mk (fmO mk) x.toNatClampNeg y) hc0 hL hc1 hF hxk.symm (by omega) hjj hj9 (P := fun v h2 => ∃ (z : Int32) (r2 T2 jt2 : Nat → Int32), v = some (.inl (.int z)) ∧ h2 = h_mc (upi mi 0 (Int32.ofInt 0)) ml r2 ch mk T2 jt2 ∧ JB jt2 ∧ srA x (uN mk (fmO mk)) 100 FN LN z) (fun su2 i2 hsu2 => ?_) LN 0 (by omega) (Int32.ofInt 0) (by decide +kernel) su1 ?_
        · refine ex_iload_n cg_245 (ix := 86) (pc' := 151) rfl rfl rfl ?_
          refine ex_if cg_245 (ix := 87) (t := 158) (pc' := 154) rfl rfl rfl (fun hb151 => ?_) (fun hb151 => ?_)
          · have hb151 : su2.toInt = 0 := hb151
            refine ex_iconst cg_245 (ix := 90) (pc' := 159) rfl rfl ?_
            refine ex_ireturn cg_245 (ix := 91) rfl ?_
            rcases hsu2 with ⟨c, q⟩ | ⟨c, q⟩
            · exfalso; rw [q] at hb151; omega
            · exact ⟨_, r, T2, jt2, rfl, rfl, hJ2, Or.inl ⟨by omega, Or.inr ⟨fun s => c s.2, rfl⟩⟩⟩
          · have hb151 : ¬ (su2.toInt = 0) := hb151
            refine ex_iconst cg_245 (ix := 88) (pc' := 155) rfl rfl ?_
            refine ex_goto cg_245 (ix := 89) (pc' := 159) rfl rfl ?_
            refine ex_ireturn cg_245 (ix := 91) rfl ?_
            rcases hsu2 with ⟨c, q⟩ | ⟨c, q⟩
            · exact ⟨_, r, T2, jt2, rfl, rfl, hJ2, Or.inl ⟨by omega, Or.inl ⟨⟨hj9, c⟩, rfl⟩⟩⟩
            · exfalso; rw [q] at hb151; omega
        · rcases hsu1 with ⟨c, q⟩ | ⟨c, q⟩
          · exact Or.inl ⟨⟨c, fun y hy => absurd hy (Nat.not_lt_zero y)⟩, q⟩
          · exact Or.inr ⟨fun z => c z.1, q⟩
      · have hb39 : ¬ (0 ≤ (jt2 x.toNatClampNeg).toInt) := hb39
        refine ex_iconst cg_245 (ix := 26) (pc' := 43) rfl rfl ?_
        refine ex_ireturn cg_245 (ix := 27) rfl ?_
        have hxk := ab_clamp (x := x) (by omega)
        have hA1 := hA x.toNatClampNeg (by omega)
        refine ⟨_, r, T2, jt2, rfl, rfl, hJ2, Or.inl ⟨by omega, Or.inr ⟨fun q => ?_, rfl⟩⟩⟩
        have q1 := q.1
        unfold jA at hA1
        rw [if_pos q1] at hA1
        omega
    · have hb18 : ¬ (¬ (Int32.ofInt 1).toInt = 0) := hb18
      exfalso; first | omega | exact absurd hb18 (by decide +kernel)
  · show cx_T _ 245 _ 18 ([some (.inr (.inl 119)), some (.inl (.int x)), none, none, none], [.inl (.int (Int32.ofInt 0))], [(119, .inl (11, vs_119 (upi mi 0 (Int32.ofInt 0)) ml)), (126, .inr (.inl (0, 7, r))), (149, .inr (.inl (0, 2, ch))), (150, .inr (.inl (0, 16, mk))), (151, .inr (.inl (0, 2304, T))), (152, .inr (.inl (0, 8, jt)))]) _
    refine ex_if cg_245 (ix := 12) (t := 27) (pc' := 21) rfl rfl rfl (fun hb18 => ?_) (fun hb18 => ?_)
    · have hb18 : ¬ (Int32.ofInt 0).toInt = 0 := hb18
      exfalso; first | omega | exact absurd hb18 (by decide +kernel)
    · have hb18 : ¬ (¬ (Int32.ofInt 0).toInt = 0) := hb18
      refine ex_aload_n cg_245 (ix := 13) (pc' := 22) rfl rfl rfl ?_
      refine ex_iconst cg_245 (ix := 14) (pc' := 23) rfl rfl ?_
      refine ex_callV cg_245 (ix := 15) (pc' := 26) (As := [.inl (.int (Int32.ofInt (-1)))]) (r := []) rfl rfl rfl (ct_mref (x := Int32.ofInt (-1)) (mi := (upi mi 0 (Int32.ofInt 0))) (ml := ml) (r := r) (by decide +kernel) (by decide +kernel)) (by first | decide | omega) rfl rfl rfl ⟨rfl, rfl, trivial⟩ rfl rfl (fun v h2 hq => ?_)
      obtain ⟨rfl, r2, rfl⟩ := hq
      show cx_T _ 245 _ 26 ([some (.inr (.inl 119)), some (.inl (.int x)), none, none, none], [.inl (.int (Int32.ofInt (-1)))], [(119, .inl (11, vs_119 (upi mi 0 (Int32.ofInt 0)) ml)), (126, .inr (.inl (0, 7, r2))), (149, .inr (.inl (0, 2, ch))), (150, .inr (.inl (0, 16, mk))), (151, .inr (.inl (0, 2304, T))), (152, .inr (.inl (0, 8, jt)))]) _
      refine ex_ireturn cg_245 (ix := 16) rfl ?_
      exact ⟨_, r2, T, jt, rfl, rfl, hJB, Or.inr ⟨by omega, by decide +kernel⟩⟩
def h_mh (mi : Nat → Int32) (ml : Nat → Int64) (r ch mk : Nat → Int32) : cx_H := [(119, .inl (11, vs_119 mi ml)), (126, .inr (.inl (0, 7, r))), (149, .inr (.inl (0, 2, ch))), (150, .inr (.inl (0, 16, mk)))]
theorem ct_mchild {mi : Nat → Int32} {ml : Nat → Int64} {r mk ch : Nat → Int32} {LN FN : Nat} {fd m : Int32} (hc0 : (ch 0).toInt = (LN : Int)) (hL : LN ≤ 8) (hc1 : (ch 1).toInt = (FN : Int)) (hF : FN ≤ 8) : cx_Ct 4 239 [.inr (.inl 119), .inl (.int fd), .inl (.int m)] (h_mh mi ml r ch mk) (fun v h2 => ∃ (z : Int32) (r2 ch2 mk2 : Nat → Int32) (LN2 FN2 : Nat), v = some (.inl (.int z)) ∧ h2 = h_mh (upi mi 0 (Int32.ofInt 0)) ml r2 ch2 mk2 ∧ (ch2 0).toInt = (LN2 : Int) ∧ (ch2 1).toInt = (FN2 : Int) ∧ chA fd m LN FN mk (fmO mk) z LN2 FN2 mk2 (fmO mk2)) := by
  have kcm6 : (Int32.ofInt (-6)).toInt = -6 := by decide +kernel
  have kcm4 : (Int32.ofInt (-4)).toInt = -4 := by decide +kernel
  have kc0 : (Int32.ofInt 0).toInt = 0 := by decide +kernel
  have kc1 : (Int32.ofInt 1).toInt = 1 := by decide +kernel
  have kc8 : (Int32.ofInt 8).toInt = 8 := by decide +kernel
  have kc99999 : (Int32.ofInt 99999).toInt = 99999 := by decide +kernel
  have i0 : (Int32.ofInt 0).toNatClampNeg = 0 := by decide +kernel
  have i1 : (Int32.ofInt 1).toNatClampNeg = 1 := by decide +kernel
  have e00 : (ch (Int32.ofInt 0).toNatClampNeg).toInt = (LN : Int) := by rw [i0]; exact hc0
  have e11 : (ch (Int32.ofInt 1).toNatClampNeg).toInt = (FN : Int) := by rw [i1]; exact hc1
  have hm0 : (Int32.ofInt 8 * Int32.ofInt 0).toInt = 0 := by decide +kernel
  have hm1 : (Int32.ofInt 8 * Int32.ofInt 1).toInt = 8 := by decide +kernel
  refine cx_Ct.of cg_239 (nL := 4) rfl rfl rfl ?_
  show cx_T 4 239 [119, 126, 149, 150] 0 ([some (.inr (.inl 119)), some (.inl (.int fd)), some (.inl (.int m)), none], [], h_mh mi ml r ch mk) _
  refine ex_aload_n cg_239 (ix := 0) (pc' := 1) rfl rfl rfl ?_
  refine ex_iconst cg_239 (ix := 1) (pc' := 2) rfl rfl ?_
  refine ex_putfield cg_239 (ix := 2) (pc' := 5) (h' := [(119, .inl (11, vs_119 (upi mi 0 (Int32.ofInt 0)) ml)), (126, .inr (.inl (0, 7, r))), (149, .inr (.inl (0, 2, ch))), (150, .inr (.inl (0, 16, mk)))]) rfl rfl rfl rfl rfl rfl rfl rfl ?_
  refine ex_iload_n cg_239 (ix := 3) (pc' := 6) rfl rfl rfl ?_
  refine ex_if cg_239 (ix := 4) (t := 13) (pc' := 9) rfl rfl rfl (fun hb6 => ?_) (fun hb6 => ?_)
  · have hb6 : fd.toInt = 0 := hb6
    refine ex_iconst cg_239 (ix := 7) (pc' := 14) rfl rfl ?_
    refine ex_istore_n cg_239 (ix := 8) (pc' := 15) (L' := [some (.inr (.inl 119)), some (.inl (.int fd)), some (.inl (.int m)), some (.inl (.int (Int32.ofInt 0)))]) rfl rfl rfl rfl ?_
    refine ex_iload_n cg_239 (ix := 9) (pc' := 16) rfl rfl rfl ?_
    refine ex_if cg_239 (ix := 10) (t := 26) (pc' := 19) rfl rfl rfl (fun hb16 => ?_) (fun hb16 => ?_)
    · have hb16 : 0 ≤ m.toInt := hb16
      refine ex_iload_n cg_239 (ix := 15) (pc' := 27) rfl rfl rfl ?_
      refine ex_ldc_w cg_239 (ix := 16) (pc' := 30) rfl rfl rfl ?_
      refine ex_icmp cg_239 (ix := 17) (t := 44) (pc' := 33) rfl rfl rfl (fun hb30 => ?_) (fun hb30 => ?_)
      · have hb30 : (Int32.ofInt 99999).toInt < m.toInt := hb30
        refine ex_aload_n cg_239 (ix := 24) (pc' := 45) rfl rfl rfl ?_
        refine ex_bipush cg_239 (ix := 25) (pc' := 47) rfl rfl rfl ?_
        refine ex_callV cg_239 (ix := 26) (pc' := 50) (As := [.inl (.int (Int32.ofInt (-6)))]) (r := []) rfl rfl rfl (ct_mref (x := Int32.ofInt (-6)) (mi := (upi mi 0 (Int32.ofInt 0))) (ml := ml) (r := r) (by decide +kernel) (by decide +kernel)) (by first | decide | omega) rfl rfl rfl ⟨rfl, rfl, trivial⟩ rfl rfl (fun v h2 hq => ?_)
        obtain ⟨rfl, r2, rfl⟩ := hq
        show cx_T _ 239 _ 50 ([some (.inr (.inl 119)), some (.inl (.int fd)), some (.inl (.int m)), some (.inl (.int (Int32.ofInt 0)))], [.inl (.int (Int32.ofInt (-6)))], [(119, .inl (11, vs_119 (upi mi 0 (Int32.ofInt 0)) ml)), (126, .inr (.inl (0, 7, r2))), (149, .inr (.inl (0, 2, ch))), (150, .inr (.inl (0, 16, mk)))]) _
        refine ex_ireturn cg_239 (ix := 27) rfl ?_
        first | exact ⟨_, r2, ch, mk, LN, FN, rfl, rfl, hc0, hc1, Or.inr (Or.inl ⟨by omega, by omega, by decide +kernel, rfl, rfl, fun _ _ => rfl, fun _ _ => rfl⟩)⟩ | exact ⟨_, r2, ch, mk, LN, FN, rfl, rfl, hc0, hc1, Or.inr (Or.inr (Or.inl ⟨by omega, by omega, by omega, by decide +kernel, rfl, rfl, fun _ _ => rfl, fun _ _ => rfl⟩))⟩
      · have hb30 : ¬ ((Int32.ofInt 99999).toInt < m.toInt) := hb30
        refine ex_aload_n cg_239 (ix := 18) (pc' := 34) rfl rfl rfl ?_
        refine ex_getfield cg_239 (ix := 19) (pc' := 37) (v := .inr (.inl 149)) rfl rfl rfl rfl rfl ?_
        refine ex_iload_n cg_239 (ix := 20) (pc' := 38) rfl rfl rfl ?_
        refine ex_iaload cg_239 (ix := 21) (pc' := 39) rfl rfl (by omega) (by omega) rfl ?_
        refine ex_bipush cg_239 (ix := 22) (pc' := 41) rfl rfl rfl ?_
        refine ex_icmp cg_239 (ix := 23) (t := 51) (pc' := 44) rfl rfl rfl (fun hb41 => ?_) (fun hb41 => ?_)
        · have hb41 : ¬ (ch (Int32.ofInt 0).toNatClampNeg).toInt = (Int32.ofInt 8).toInt := hb41
          refine ex_aload_n cg_239 (ix := 28) (pc' := 52) rfl rfl rfl ?_
          refine ex_getfield cg_239 (ix := 29) (pc' := 55) (v := .inr (.inl 150)) rfl rfl rfl rfl rfl ?_
          refine ex_bipush cg_239 (ix := 30) (pc' := 57) rfl rfl rfl ?_
          refine ex_iload_n cg_239 (ix := 31) (pc' := 58) rfl rfl rfl ?_
          refine ex_imul cg_239 (ix := 32) (pc' := 59) rfl rfl ?_
          refine ex_aload_n cg_239 (ix := 33) (pc' := 60) rfl rfl rfl ?_
          refine ex_getfield cg_239 (ix := 34) (pc' := 63) (v := .inr (.inl 149)) rfl rfl rfl rfl rfl ?_
          refine ex_iload_n cg_239 (ix := 35) (pc' := 64) rfl rfl rfl ?_
          refine ex_iaload cg_239 (ix := 36) (pc' := 65) rfl rfl (by omega) (by omega) rfl ?_
          refine ex_iadd cg_239 (ix := 37) (pc' := 66) rfl rfl ?_
          refine ex_iload_n cg_239 (ix := 38) (pc' := 67) rfl rfl rfl ?_
          refine ex_iastore cg_239 (ix := 39) (pc' := 68) (h' := [(119, .inl (11, vs_119 (upi mi 0 (Int32.ofInt 0)) ml)), (126, .inr (.inl (0, 7, r))), (149, .inr (.inl (0, 2, ch))), (150, .inr (.inl (0, 16, upd mk (((Int32.ofInt 8) * (Int32.ofInt 0)) + (ch (Int32.ofInt 0).toNatClampNeg)).toNatClampNeg m)))]) rfl rfl (by rw [cx_addc (by omega) (by omega)]; omega) (by rw [cx_addc (by omega) (by omega)]; omega) rfl rfl ?_
          refine ex_aload_n cg_239 (ix := 40) (pc' := 69) rfl rfl rfl ?_
          refine ex_getfield cg_239 (ix := 41) (pc' := 72) (v := .inr (.inl 149)) rfl rfl rfl rfl rfl ?_
          refine ex_iload_n cg_239 (ix := 42) (pc' := 73) rfl rfl rfl ?_
          refine ex_dup2 cg_239 (ix := 43) (pc' := 74) rfl rfl rfl rfl ?_
          refine ex_iaload cg_239 (ix := 44) (pc' := 75) rfl rfl (by omega) (by omega) rfl ?_
          refine ex_iconst cg_239 (ix := 45) (pc' := 76) rfl rfl ?_
          refine ex_iadd cg_239 (ix := 46) (pc' := 77) rfl rfl ?_
          refine ex_iastore cg_239 (ix := 47) (pc' := 78) (h' := [(119, .inl (11, vs_119 (upi mi 0 (Int32.ofInt 0)) ml)), (126, .inr (.inl (0, 7, r))), (149, .inr (.inl (0, 2, upd ch (Int32.ofInt 0).toNatClampNeg ((ch (Int32.ofInt 0).toNatClampNeg) + (Int32.ofInt 1))))), (150, .inr (.inl (0, 16, upd mk (((Int32.ofInt 8) * (Int32.ofInt 0)) + (ch (Int32.ofInt 0).toNatClampNeg)).toNatClampNeg m)))]) rfl rfl (by omega) (by omega) rfl rfl ?_
          refine ex_aload_n cg_239 (ix := 48) (pc' := 79) rfl rfl rfl ?_
          refine ex_getfield cg_239 (ix := 49) (pc' := 82) (v := .inr (.inl 149)) rfl rfl rfl rfl rfl ?_
          refine ex_iload_n cg_239 (ix := 50) (pc' := 83) rfl rfl rfl ?_
          refine ex_iaload cg_239 (ix := 51) (pc' := 84) rfl rfl (by omega) (by omega) rfl ?_
          refine ex_iconst cg_239 (ix := 52) (pc' := 85) rfl rfl ?_
          refine ex_isub cg_239 (ix := 53) (pc' := 86) rfl rfl ?_
          refine ex_ireturn cg_239 (ix := 54) rfl ?_
          have z1 : (ch (Int32.ofInt 0).toNatClampNeg + Int32.ofInt 1).toInt = (LN : Int) + 1 := by rw [cx_addc (by omega) (by omega)]; omega
          have z2 : ((Int32.ofInt 8 * Int32.ofInt 0) + ch (Int32.ofInt 0).toNatClampNeg).toNatClampNeg = LN := cx_clamp (by rw [cx_addc (by omega) (by omega)]; omega)
          refine ⟨_, r, _, _, LN + 1, FN, rfl, rfl, ?_, ?_, Or.inr (Or.inr (Or.inr (Or.inl ⟨by omega, by omega, by omega, by omega, ?_, rfl, rfl, fun x hx => ?_, fun x hx => ?_⟩)))⟩
          · rw [i0]; unfold upd; rw [if_pos rfl]; rw [i0] at z1; omega
          · rw [i0]; unfold upd; rw [if_neg (by decide)]; exact hc1
          · rw [i0] at z1 ⊢; unfold upd; rw [if_pos rfl, cx_subc (by omega) (by omega)]; omega
          · rw [z2]
          · unfold fmO; rw [z2]; unfold upd; rw [if_neg (by omega)]
        · have hb41 : ¬ (¬ (ch (Int32.ofInt 0).toNatClampNeg).toInt = (Int32.ofInt 8).toInt) := hb41
          refine ex_aload_n cg_239 (ix := 24) (pc' := 45) rfl rfl rfl ?_
          refine ex_bipush cg_239 (ix := 25) (pc' := 47) rfl rfl rfl ?_
          refine ex_callV cg_239 (ix := 26) (pc' := 50) (As := [.inl (.int (Int32.ofInt (-6)))]) (r := []) rfl rfl rfl (ct_mref (x := Int32.ofInt (-6)) (mi := (upi mi 0 (Int32.ofInt 0))) (ml := ml) (r := r) (by decide +kernel) (by decide +kernel)) (by first | decide | omega) rfl rfl rfl ⟨rfl, rfl, trivial⟩ rfl rfl (fun v h2 hq => ?_)
          obtain ⟨rfl, r2, rfl⟩ := hq
          show cx_T _ 239 _ 50 ([some (.inr (.inl 119)), some (.inl (.int fd)), some (.inl (.int m)), some (.inl (.int (Int32.ofInt 0)))], [.inl (.int (Int32.ofInt (-6)))], [(119, .inl (11, vs_119 (upi mi 0 (Int32.ofInt 0)) ml)), (126, .inr (.inl (0, 7, r2))), (149, .inr (.inl (0, 2, ch))), (150, .inr (.inl (0, 16, mk)))]) _
          refine ex_ireturn cg_239 (ix := 27) rfl ?_
          first | exact ⟨_, r2, ch, mk, LN, FN, rfl, rfl, hc0, hc1, Or.inr (Or.inl ⟨by omega, by omega, by decide +kernel, rfl, rfl, fun _ _ => rfl, fun _ _ => rfl⟩)⟩ | exact ⟨_, r2, ch, mk, LN, FN, rfl, rfl, hc0, hc1, Or.inr (Or.inr (Or.inl ⟨by omega, by omega, by omega, by decide +kernel, rfl, rfl, fun _ _ => rfl, fun _ _ => rfl⟩))⟩
    · have hb16 : ¬ (0 ≤ m.toInt) := hb16
      refine ex_aload_n cg_239 (ix := 11) (pc' := 20) rfl rfl rfl ?_
      refine ex_bipush cg_239 (ix := 12) (pc' := 22) rfl rfl rfl ?_
      refine ex_callV cg_239 (ix := 13) (pc' := 25) (As := [.inl (.int (Int32.ofInt (-4)))]) (r := []) rfl rfl rfl (ct_mref (x := Int32.ofInt (-4)) (mi := (upi mi 0 (Int32.ofInt 0))) (ml := ml) (r := r) (by decide +kernel) (by decide +kernel)) (by first | decide | omega) rfl rfl rfl ⟨rfl, rfl, trivial⟩ rfl rfl (fun v h2 hq => ?_)
      obtain ⟨rfl, r2, rfl⟩ := hq
      show cx_T _ 239 _ 25 ([some (.inr (.inl 119)), some (.inl (.int fd)), some (.inl (.int m)), some (.inl (.int (Int32.ofInt 0)))], [.inl (.int (Int32.ofInt (-4)))], [(119, .inl (11, vs_119 (upi mi 0 (Int32.ofInt 0)) ml)), (126, .inr (.inl (0, 7, r2))), (149, .inr (.inl (0, 2, ch))), (150, .inr (.inl (0, 16, mk)))]) _
      refine ex_ireturn cg_239 (ix := 14) rfl ?_
      exact ⟨_, r2, ch, mk, LN, FN, rfl, rfl, hc0, hc1, Or.inl ⟨by omega, by decide +kernel, rfl, rfl, fun _ _ => rfl, fun _ _ => rfl⟩⟩
  · have hb6 : ¬ (fd.toInt = 0) := hb6
    refine ex_iconst cg_239 (ix := 5) (pc' := 10) rfl rfl ?_
    refine ex_goto cg_239 (ix := 6) (pc' := 14) rfl rfl ?_
    refine ex_istore_n cg_239 (ix := 8) (pc' := 15) (L' := [some (.inr (.inl 119)), some (.inl (.int fd)), some (.inl (.int m)), some (.inl (.int (Int32.ofInt 1)))]) rfl rfl rfl rfl ?_
    refine ex_iload_n cg_239 (ix := 9) (pc' := 16) rfl rfl rfl ?_
    refine ex_if cg_239 (ix := 10) (t := 26) (pc' := 19) rfl rfl rfl (fun hb16 => ?_) (fun hb16 => ?_)
    · have hb16 : 0 ≤ m.toInt := hb16
      refine ex_iload_n cg_239 (ix := 15) (pc' := 27) rfl rfl rfl ?_
      refine ex_ldc_w cg_239 (ix := 16) (pc' := 30) rfl rfl rfl ?_
      refine ex_icmp cg_239 (ix := 17) (t := 44) (pc' := 33) rfl rfl rfl (fun hb30 => ?_) (fun hb30 => ?_)
      · have hb30 : (Int32.ofInt 99999).toInt < m.toInt := hb30
        refine ex_aload_n cg_239 (ix := 24) (pc' := 45) rfl rfl rfl ?_
        refine ex_bipush cg_239 (ix := 25) (pc' := 47) rfl rfl rfl ?_
        refine ex_callV cg_239 (ix := 26) (pc' := 50) (As := [.inl (.int (Int32.ofInt (-6)))]) (r := []) rfl rfl rfl (ct_mref (x := Int32.ofInt (-6)) (mi := (upi mi 0 (Int32.ofInt 0))) (ml := ml) (r := r) (by decide +kernel) (by decide +kernel)) (by first | decide | omega) rfl rfl rfl ⟨rfl, rfl, trivial⟩ rfl rfl (fun v h2 hq => ?_)
        obtain ⟨rfl, r2, rfl⟩ := hq
        show cx_T _ 239 _ 50 ([some (.inr (.inl 119)), some (.inl (.int fd)), some (.inl (.int m)), some (.inl (.int (Int32.ofInt 1)))], [.inl (.int (Int32.ofInt (-6)))], [(119, .inl (11, vs_119 (upi mi 0 (Int32.ofInt 0)) ml)), (126, .inr (.inl (0, 7, r2))), (149, .inr (.inl (0, 2, ch))), (150, .inr (.inl (0, 16, mk)))]) _
        refine ex_ireturn cg_239 (ix := 27) rfl ?_
        first | exact ⟨_, r2, ch, mk, LN, FN, rfl, rfl, hc0, hc1, Or.inr (Or.inl ⟨by omega, by omega, by decide +kernel, rfl, rfl, fun _ _ => rfl, fun _ _ => rfl⟩)⟩ | exact ⟨_, r2, ch, mk, LN, FN, rfl, rfl, hc0, hc1, Or.inr (Or.inr (Or.inl ⟨by omega, by omega, by omega, by decide +kernel, rfl, rfl, fun _ _ => rfl, fun _ _ => rfl⟩))⟩
      · have hb30 : ¬ ((Int32.ofInt 99999).toInt < m.toInt) := hb30
        refine ex_aload_n cg_239 (ix := 18) (pc' := 34) rfl rfl rfl ?_
        refine ex_getfield cg_239 (ix := 19) (pc' := 37) (v := .inr (.inl 149)) rfl rfl rfl rfl rfl ?_
        refine ex_iload_n cg_239 (ix := 20) (pc' := 38) rfl rfl rfl ?_
        refine ex_iaload cg_239 (ix := 21) (pc' := 39) rfl rfl (by omega) (by omega) rfl ?_
        refine ex_bipush cg_239 (ix := 22) (pc' := 41) rfl rfl rfl ?_
        refine ex_icmp cg_239 (ix := 23) (t := 51) (pc' := 44) rfl rfl rfl (fun hb41 => ?_) (fun hb41 => ?_)
        · have hb41 : ¬ (ch (Int32.ofInt 1).toNatClampNeg).toInt = (Int32.ofInt 8).toInt := hb41
          refine ex_aload_n cg_239 (ix := 28) (pc' := 52) rfl rfl rfl ?_
          refine ex_getfield cg_239 (ix := 29) (pc' := 55) (v := .inr (.inl 150)) rfl rfl rfl rfl rfl ?_
          refine ex_bipush cg_239 (ix := 30) (pc' := 57) rfl rfl rfl ?_
          refine ex_iload_n cg_239 (ix := 31) (pc' := 58) rfl rfl rfl ?_
          refine ex_imul cg_239 (ix := 32) (pc' := 59) rfl rfl ?_
          refine ex_aload_n cg_239 (ix := 33) (pc' := 60) rfl rfl rfl ?_
          refine ex_getfield cg_239 (ix := 34) (pc' := 63) (v := .inr (.inl 149)) rfl rfl rfl rfl rfl ?_
          refine ex_iload_n cg_239 (ix := 35) (pc' := 64) rfl rfl rfl ?_
          refine ex_iaload cg_239 (ix := 36) (pc' := 65) rfl rfl (by omega) (by omega) rfl ?_
          refine ex_iadd cg_239 (ix := 37) (pc' := 66) rfl rfl ?_
          refine ex_iload_n cg_239 (ix := 38) (pc' := 67) rfl rfl rfl ?_
          refine ex_iastore cg_239 (ix := 39) (pc' := 68) (h' := [(119, .inl (11, vs_119 (upi mi 0 (Int32.ofInt 0)) ml)), (126, .inr (.inl (0, 7, r))), (149, .inr (.inl (0, 2, ch))), (150, .inr (.inl (0, 16, upd mk (((Int32.ofInt 8) * (Int32.ofInt 1)) + (ch (Int32.ofInt 1).toNatClampNeg)).toNatClampNeg m)))]) rfl rfl (by rw [cx_addc (by omega) (by omega)]; omega) (by rw [cx_addc (by omega) (by omega)]; omega) rfl rfl ?_
          refine ex_aload_n cg_239 (ix := 40) (pc' := 69) rfl rfl rfl ?_
          refine ex_getfield cg_239 (ix := 41) (pc' := 72) (v := .inr (.inl 149)) rfl rfl rfl rfl rfl ?_
          refine ex_iload_n cg_239 (ix := 42) (pc' := 73) rfl rfl rfl ?_
          refine ex_dup2 cg_239 (ix := 43) (pc' := 74) rfl rfl rfl rfl ?_
          refine ex_iaload cg_239 (ix := 44) (pc' := 75) rfl rfl (by omega) (by omega) rfl ?_
          refine ex_iconst cg_239 (ix := 45) (pc' := 76) rfl rfl ?_
          refine ex_iadd cg_239 (ix := 46) (pc' := 77) rfl rfl ?_
          refine ex_iastore cg_239 (ix := 47) (pc' := 78) (h' := [(119, .inl (11, vs_119 (upi mi 0 (Int32.ofInt 0)) ml)), (126, .inr (.inl (0, 7, r))), (149, .inr (.inl (0, 2, upd ch (Int32.ofInt 1).toNatClampNeg ((ch (Int32.ofInt 1).toNatClampNeg) + (Int32.ofInt 1))))), (150, .inr (.inl (0, 16, upd mk (((Int32.ofInt 8) * (Int32.ofInt 1)) + (ch (Int32.ofInt 1).toNatClampNeg)).toNatClampNeg m)))]) rfl rfl (by omega) (by omega) rfl rfl ?_
          refine ex_aload_n cg_239 (ix := 48) (pc' := 79) rfl rfl rfl ?_
          refine ex_getfield cg_239 (ix := 49) (pc' := 82) (v := .inr (.inl 149)) rfl rfl rfl rfl rfl ?_
          refine ex_iload_n cg_239 (ix := 50) (pc' := 83) rfl rfl rfl ?_
          refine ex_iaload cg_239 (ix := 51) (pc' := 84) rfl rfl (by omega) (by omega) rfl ?_
          refine ex_iconst cg_239 (ix := 52) (pc' := 85) rfl rfl ?_
          refine ex_isub cg_239 (ix := 53) (pc' := 86) rfl rfl ?_
          refine ex_ireturn cg_239 (ix := 54) rfl ?_
          have z1 : (ch (Int32.ofInt 1).toNatClampNeg + Int32.ofInt 1).toInt = (FN : Int) + 1 := by rw [cx_addc (by omega) (by omega)]; omega
          have z2 : ((Int32.ofInt 8 * Int32.ofInt 1) + ch (Int32.ofInt 1).toNatClampNeg).toNatClampNeg = 8 + FN := cx_clamp (by rw [cx_addc (by omega) (by omega)]; omega)
          refine ⟨_, r, _, _, LN, FN + 1, rfl, rfl, ?_, ?_, Or.inr (Or.inr (Or.inr (Or.inr ⟨by omega, by omega, by omega, by omega, ?_, rfl, rfl, fun x hx => ?_, fun x hx => ?_⟩)))⟩
          · rw [i1]; unfold upd; rw [if_neg (by decide)]; exact hc0
          · rw [i1]; unfold upd; rw [if_pos rfl]; rw [i1] at z1; omega
          · rw [i1] at z1 ⊢; unfold upd; rw [if_pos rfl, cx_subc (by omega) (by omega)]; omega
          · rw [z2]; unfold upd; rw [if_neg (by omega)]
          · unfold fmO; rw [z2]; unfold upd
            by_cases q : x = FN
            · rw [if_pos (by omega), if_pos q]
            · rw [if_neg (by omega), if_neg q]
        · have hb41 : ¬ (¬ (ch (Int32.ofInt 1).toNatClampNeg).toInt = (Int32.ofInt 8).toInt) := hb41
          refine ex_aload_n cg_239 (ix := 24) (pc' := 45) rfl rfl rfl ?_
          refine ex_bipush cg_239 (ix := 25) (pc' := 47) rfl rfl rfl ?_
          refine ex_callV cg_239 (ix := 26) (pc' := 50) (As := [.inl (.int (Int32.ofInt (-6)))]) (r := []) rfl rfl rfl (ct_mref (x := Int32.ofInt (-6)) (mi := (upi mi 0 (Int32.ofInt 0))) (ml := ml) (r := r) (by decide +kernel) (by decide +kernel)) (by first | decide | omega) rfl rfl rfl ⟨rfl, rfl, trivial⟩ rfl rfl (fun v h2 hq => ?_)
          obtain ⟨rfl, r2, rfl⟩ := hq
          show cx_T _ 239 _ 50 ([some (.inr (.inl 119)), some (.inl (.int fd)), some (.inl (.int m)), some (.inl (.int (Int32.ofInt 1)))], [.inl (.int (Int32.ofInt (-6)))], [(119, .inl (11, vs_119 (upi mi 0 (Int32.ofInt 0)) ml)), (126, .inr (.inl (0, 7, r2))), (149, .inr (.inl (0, 2, ch))), (150, .inr (.inl (0, 16, mk)))]) _
          refine ex_ireturn cg_239 (ix := 27) rfl ?_
          first | exact ⟨_, r2, ch, mk, LN, FN, rfl, rfl, hc0, hc1, Or.inr (Or.inl ⟨by omega, by omega, by decide +kernel, rfl, rfl, fun _ _ => rfl, fun _ _ => rfl⟩)⟩ | exact ⟨_, r2, ch, mk, LN, FN, rfl, rfl, hc0, hc1, Or.inr (Or.inr (Or.inl ⟨by omega, by omega, by omega, by decide +kernel, rfl, rfl, fun _ _ => rfl, fun _ _ => rfl⟩))⟩
    · have hb16 : ¬ (0 ≤ m.toInt) := hb16
      refine ex_aload_n cg_239 (ix := 11) (pc' := 20) rfl rfl rfl ?_
      refine ex_bipush cg_239 (ix := 12) (pc' := 22) rfl rfl rfl ?_
      refine ex_callV cg_239 (ix := 13) (pc' := 25) (As := [.inl (.int (Int32.ofInt (-4)))]) (r := []) rfl rfl rfl (ct_mref (x := Int32.ofInt (-4)) (mi := (upi mi 0 (Int32.ofInt 0))) (ml := ml) (r := r) (by decide +kernel) (by decide +kernel)) (by first | decide | omega) rfl rfl rfl ⟨rfl, rfl, trivial⟩ rfl rfl (fun v h2 hq => ?_)
      obtain ⟨rfl, r2, rfl⟩ := hq
      show cx_T _ 239 _ 25 ([some (.inr (.inl 119)), some (.inl (.int fd)), some (.inl (.int m)), some (.inl (.int (Int32.ofInt 1)))], [.inl (.int (Int32.ofInt (-4)))], [(119, .inl (11, vs_119 (upi mi 0 (Int32.ofInt 0)) ml)), (126, .inr (.inl (0, 7, r2))), (149, .inr (.inl (0, 2, ch))), (150, .inr (.inl (0, 16, mk)))]) _
      refine ex_ireturn cg_239 (ix := 14) rfl ?_
      exact ⟨_, r2, ch, mk, LN, FN, rfl, rfl, hc0, hc1, Or.inl ⟨by omega, by decide +kernel, rfl, rfl, fun _ _ => rfl, fun _ _ => rfl⟩⟩
end
