noncomputable section
def h_mg (mi : Nat → Int32) (ml : Nat → Int64) (g : Nat → Int32) : cx_H := [(119, .inl (11, vs_119 mi ml)), (163, .inr (.inl (0, 96, g)))]
theorem dm_loop {d B : Nat} {b : Int32} {mi : Nat → Int32} {ml : Nat → Int64} {g : Nat → Int32} {P : Option cx_V → cx_H → Prop} (hbB : b.toInt = (B : Int)) (hB : B < 4) (hP : ∀ n : Int32, n.toInt = cn_m g B 24 → P (some (.inl (.int n))) (h_mg mi ml g)) :
    ∀ (m k : Nat), k + m = 24 → ∀ n i : Int32, n.toInt = cn_m g B k → i.toInt = k → cx_T d 257 [119, 163] 4 ([some (.inr (.inl 119)), some (.inl (.int b)), some (.inl (.int n)), some (.inl (.int i))], [], h_mg mi ml g) P := by
  have kc0 : (Int32.ofInt 0).toInt = 0 := by decide +kernel
  have kc24 : (Int32.ofInt 24).toInt = 24 := by decide +kernel
  have kc1 : (Int32.ofInt 1).toInt = 1 := by decide +kernel
  have hmul : (Int32.ofInt 24 * b).toInt = 24 * (B : Int) := by rw [cx_mulk (n := 24) (by decide +kernel) (by omega) (by omega)]; omega
  intro m
  induction m with
  | zero =>
    intro k hk n i hn hi
    have ek : k = 24 := by omega
    subst ek
    refine ex_iload_n cg_257 (ix := 4) (pc' := 5) rfl rfl rfl ?_
    refine ex_bipush cg_257 (ix := 5) (pc' := 7) rfl rfl rfl ?_
    refine ex_icmp cg_257 (ix := 6) (t := 38) (pc' := 10) rfl rfl rfl (fun hb7 => ?_) (fun hb7 => ?_)
    · have hb7 : (Int32.ofInt 24).toInt ≤ i.toInt := hb7
      refine ex_iload_n cg_257 (ix := 24) (pc' := 39) rfl rfl rfl ?_
      refine ex_ireturn cg_257 (ix := 25) rfl ?_
      exact hP _ hn
    · have hb7 : ¬ ((Int32.ofInt 24).toInt ≤ i.toInt) := hb7
      exfalso; first | omega | exact absurd hb7 (by decide +kernel)
  | succ m ih =>
    intro k hk n i hn hi
    have hia : (Int32.ofInt 24 * b + i).toInt = ((24 * B + k : Nat) : Int) := by rw [cx_addc (by omega) (by omega)]; omega
    have hix : (Int32.ofInt 24 * b + i).toNatClampNeg = 24 * B + k := cx_clamp hia
    refine ex_iload_n cg_257 (ix := 4) (pc' := 5) rfl rfl rfl ?_
    refine ex_bipush cg_257 (ix := 5) (pc' := 7) rfl rfl rfl ?_
    refine ex_icmp cg_257 (ix := 6) (t := 38) (pc' := 10) rfl rfl rfl (fun hb7 => ?_) (fun hb7 => ?_)
    · have hb7 : (Int32.ofInt 24).toInt ≤ i.toInt := hb7
      exfalso; first | omega | exact absurd hb7 (by decide +kernel)
    · have hb7 : ¬ ((Int32.ofInt 24).toInt ≤ i.toInt) := hb7
      refine ex_iload_n cg_257 (ix := 7) (pc' := 11) rfl rfl rfl ?_
      refine ex_aload_n cg_257 (ix := 8) (pc' := 12) rfl rfl rfl ?_
      refine ex_getfield cg_257 (ix := 9) (pc' := 15) (v := .inr (.inl 163)) rfl rfl rfl rfl rfl ?_
      refine ex_bipush cg_257 (ix := 10) (pc' := 17) rfl rfl rfl ?_
      refine ex_iload_n cg_257 (ix := 11) (pc' := 18) rfl rfl rfl ?_
      refine ex_imul cg_257 (ix := 12) (pc' := 19) rfl rfl ?_
      refine ex_iload_n cg_257 (ix := 13) (pc' := 20) rfl rfl rfl ?_
      refine ex_iadd cg_257 (ix := 14) (pc' := 21) rfl rfl ?_
      refine ex_iaload cg_257 (ix := 15) (pc' := 22) rfl rfl (by omega) (by omega) rfl ?_
      refine ex_if cg_257 (ix := 16) (t := 29) (pc' := 25) rfl rfl rfl (fun hb22 => ?_) (fun hb22 => ?_)
      · have hb22 : (g (((Int32.ofInt 24) * b) + i).toNatClampNeg).toInt ≤ 0 := hb22
        refine ex_iconst cg_257 (ix := 19) (pc' := 30) rfl rfl ?_
        refine ex_iadd cg_257 (ix := 20) (pc' := 31) rfl rfl ?_
        refine ex_istore_n cg_257 (ix := 21) (pc' := 32) (L' := [some (.inr (.inl 119)), some (.inl (.int b)), some (.inl (.int (n + (Int32.ofInt 0)))), some (.inl (.int i))]) rfl rfl rfl rfl ?_
        refine ex_iinc cg_257 (ix := 22) (pc' := 35) (L' := [some (.inr (.inl 119)), some (.inl (.int b)), some (.inl (.int (n + (Int32.ofInt 0)))), some (.inl (.int (i + Int32.ofInt 1)))]) rfl rfl rfl rfl rfl ?_
        refine ex_goto cg_257 (ix := 23) (pc' := 4) rfl rfl ?_
        have e1 : (n + (Int32.ofInt 0)).toInt = cn_m g B (k + 1) := by
          rw [hix] at hb22
          have hbd := cn_mb (g := g) (b := B) k
          rw [cn_m, if_pos hb22, cx_addc (by omega) (by omega)]
          omega
        exact ih (k + 1) (by omega) _ _ e1 (by rw [cx_addc (by omega) (by omega)]; omega)
      · have hb22 : ¬ ((g (((Int32.ofInt 24) * b) + i).toNatClampNeg).toInt ≤ 0) := hb22
        refine ex_iconst cg_257 (ix := 17) (pc' := 26) rfl rfl ?_
        refine ex_goto cg_257 (ix := 18) (pc' := 30) rfl rfl ?_
        refine ex_iadd cg_257 (ix := 20) (pc' := 31) rfl rfl ?_
        refine ex_istore_n cg_257 (ix := 21) (pc' := 32) (L' := [some (.inr (.inl 119)), some (.inl (.int b)), some (.inl (.int (n + (Int32.ofInt 1)))), some (.inl (.int i))]) rfl rfl rfl rfl ?_
        refine ex_iinc cg_257 (ix := 22) (pc' := 35) (L' := [some (.inr (.inl 119)), some (.inl (.int b)), some (.inl (.int (n + (Int32.ofInt 1)))), some (.inl (.int (i + Int32.ofInt 1)))]) rfl rfl rfl rfl rfl ?_
        refine ex_goto cg_257 (ix := 23) (pc' := 4) rfl rfl ?_
        have e1 : (n + (Int32.ofInt 1)).toInt = cn_m g B (k + 1) := by
          rw [hix] at hb22
          have hbd := cn_mb (g := g) (b := B) k
          rw [cn_m, if_neg hb22, cx_addc (by omega) (by omega)]
          omega
        exact ih (k + 1) (by omega) _ _ e1 (by rw [cx_addc (by omega) (by omega)]; omega)
theorem ct_257 {B : Nat} {b : Int32} {mi : Nat → Int32} {ml : Nat → Int64} {g : Nat → Int32} (hbB : b.toInt = (B : Int)) (hB : B < 4) : cx_Ct 2 257 [.inr (.inl 119), .inl (.int b)] (h_mg mi ml g) (fun v h2 => ∃ n : Int32, v = some (.inl (.int n)) ∧ n.toInt = cn_m g B 24 ∧ h2 = h_mg mi ml g) := by
  refine cx_Ct.of cg_257 (nL := 4) rfl rfl rfl ?_
  show cx_T 2 257 [119, 163] 0 ([some (.inr (.inl 119)), some (.inl (.int b)), none, none], [], h_mg mi ml g) _
  refine ex_iconst cg_257 (ix := 0) (pc' := 1) rfl rfl ?_
  refine ex_istore_n cg_257 (ix := 1) (pc' := 2) (L' := [some (.inr (.inl 119)), some (.inl (.int b)), some (.inl (.int (Int32.ofInt 0))), none]) rfl rfl rfl rfl ?_
  refine ex_iconst cg_257 (ix := 2) (pc' := 3) rfl rfl ?_
  refine ex_istore_n cg_257 (ix := 3) (pc' := 4) (L' := [some (.inr (.inl 119)), some (.inl (.int b)), some (.inl (.int (Int32.ofInt 0))), some (.inl (.int (Int32.ofInt 0)))]) rfl rfl rfl rfl ?_
  exact dm_loop hbB hB (fun n hn => ⟨n, rfl, hn, rfl⟩) 24 0 rfl _ _ (by show (Int32.ofInt 0).toInt = 0; decide +kernel) (by decide +kernel)
def h_md (mi : Nat → Int32) (ml : Nat → Int64) (r g : Nat → Int32) : cx_H := [(119, .inl (11, vs_119 mi ml)), (126, .inr (.inl (0, 7, r))), (163, .inr (.inl (0, 96, g)))]
/-- what drawn does in the reference -/
def dr_m (b c n : Int32) (g : Nat → Int32) (z : Int32) (g2 : Nat → Int32) : Prop :=
  (¬ ((0 ≤ b.toInt ∧ b.toInt < 4) ∧ 0 ≤ c.toInt ∧ c.toInt < 24) ∧ z.toInt = -1 ∧ g2 = g) ∨
  (((0 ≤ b.toInt ∧ b.toInt < 4) ∧ 0 ≤ c.toInt ∧ c.toInt < 24) ∧ n.toInt < -1 ∧ z.toInt = -4 ∧ g2 = g) ∨
  (((0 ≤ b.toInt ∧ b.toInt < 4) ∧ 0 ≤ c.toInt ∧ c.toInt < 24) ∧ 30 < n.toInt ∧ z.toInt = -6 ∧ g2 = g) ∨
  (((0 ≤ b.toInt ∧ b.toInt < 4) ∧ 0 ≤ c.toInt ∧ c.toInt < 24) ∧ -1 ≤ n.toInt ∧ n.toInt ≤ 30 ∧ z.toInt = cn_m g2 b.toNatClampNeg 24 ∧ g2 = upd g (24 * b.toNatClampNeg + c.toNatClampNeg) (n + Int32.ofInt 1))
theorem ct_mdrawn {b c n : Int32} {mi : Nat → Int32} {ml : Nat → Int64} {r g : Nat → Int32} : cx_Ct 5 256 [.inr (.inl 119), .inl (.int b), .inl (.int c), .inl (.int n)] (h_md mi ml r g) (fun v h2 => ∃ (z : Int32) (r2 g2 : Nat → Int32), v = some (.inl (.int z)) ∧ h2 = h_md (upi mi 0 (Int32.ofInt 0)) ml r2 g2 ∧ dr_m b c n g z g2) := by
  have kc0 : (Int32.ofInt 0).toInt = 0 := by decide +kernel
  have kcm1 : (Int32.ofInt (-1)).toInt = -1 := by decide +kernel
  have kcm4 : (Int32.ofInt (-4)).toInt = -4 := by decide +kernel
  have kc30 : (Int32.ofInt 30).toInt = 30 := by decide +kernel
  have kcm6 : (Int32.ofInt (-6)).toInt = -6 := by decide +kernel
  have kc24 : (Int32.ofInt 24).toInt = 24 := by decide +kernel
  have kc1 : (Int32.ofInt 1).toInt = 1 := by decide +kernel
  refine cx_Ct.of cg_256 (nL := 4) rfl rfl rfl ?_
  show cx_T 5 256 [119, 126, 163] 0 ([some (.inr (.inl 119)), some (.inl (.int b)), some (.inl (.int c)), some (.inl (.int n))], [], h_md mi ml r g) _
  refine ex_aload_n cg_256 (ix := 0) (pc' := 1) rfl rfl rfl ?_
  refine ex_iconst cg_256 (ix := 1) (pc' := 2) rfl rfl ?_
  refine ex_putfield cg_256 (ix := 2) (pc' := 5) (h' := [(119, .inl (11, vs_119 (upi mi 0 (Int32.ofInt 0)) ml)), (126, .inr (.inl (0, 7, r))), (163, .inr (.inl (0, 96, g)))]) rfl rfl rfl rfl rfl rfl rfl rfl ?_
  refine ex_iload_n cg_256 (ix := 3) (pc' := 6) rfl rfl rfl ?_
  refine ex_callS cg_256 (ix := 4) (pc' := 9) (As := [.inl (.int b)]) (r := []) rfl rfl rfl (ct_mbeach (x := b)) (by decide) rfl rfl trivial rfl rfl (fun v h2 hq => ?_)
  obtain ⟨z, rfl, rfl, hz1⟩ := hq
  rcases hz1 with ⟨hz1, rfl⟩ | ⟨hz1, rfl⟩
  · show cx_T _ 256 _ 9 ([some (.inr (.inl 119)), some (.inl (.int b)), some (.inl (.int c)), some (.inl (.int n))], [.inl (.int (Int32.ofInt 1))], [(119, .inl (11, vs_119 (upi mi 0 (Int32.ofInt 0)) ml)), (126, .inr (.inl (0, 7, r))), (163, .inr (.inl (0, 96, g)))]) _
    refine ex_if cg_256 (ix := 5) (t := 19) (pc' := 12) rfl rfl rfl (fun hb9 => ?_) (fun hb9 => ?_)
    · have hb9 : (Int32.ofInt 1).toInt = 0 := hb9
      exfalso; first | omega | exact absurd hb9 (by decide +kernel)
    · have hb9 : ¬ ((Int32.ofInt 1).toInt = 0) := hb9
      refine ex_iload_n cg_256 (ix := 6) (pc' := 13) rfl rfl rfl ?_
      refine ex_callS cg_256 (ix := 7) (pc' := 16) (As := [.inl (.int c)]) (r := []) rfl rfl rfl (ct_mcell (x := c)) (by decide) rfl rfl trivial rfl rfl (fun v h2 hq => ?_)
      obtain ⟨z, rfl, rfl, hz2⟩ := hq
      rcases hz2 with ⟨hz2, rfl⟩ | ⟨hz2, rfl⟩
      · show cx_T _ 256 _ 16 ([some (.inr (.inl 119)), some (.inl (.int b)), some (.inl (.int c)), some (.inl (.int n))], [.inl (.int (Int32.ofInt 1))], [(119, .inl (11, vs_119 (upi mi 0 (Int32.ofInt 0)) ml)), (126, .inr (.inl (0, 7, r))), (163, .inr (.inl (0, 96, g)))]) _
        refine ex_if cg_256 (ix := 8) (t := 25) (pc' := 19) rfl rfl rfl (fun hb16 => ?_) (fun hb16 => ?_)
        · have hb16 : ¬ (Int32.ofInt 1).toInt = 0 := hb16
          refine ex_iload_n cg_256 (ix := 13) (pc' := 26) rfl rfl rfl ?_
          refine ex_iconst cg_256 (ix := 14) (pc' := 27) rfl rfl ?_
          refine ex_icmp cg_256 (ix := 15) (t := 37) (pc' := 30) rfl rfl rfl (fun hb27 => ?_) (fun hb27 => ?_)
          · have hb27 : (Int32.ofInt (-1)).toInt ≤ n.toInt := hb27
            refine ex_iload_n cg_256 (ix := 20) (pc' := 38) rfl rfl rfl ?_
            refine ex_bipush cg_256 (ix := 21) (pc' := 40) rfl rfl rfl ?_
            refine ex_icmp cg_256 (ix := 22) (t := 50) (pc' := 43) rfl rfl rfl (fun hb40 => ?_) (fun hb40 => ?_)
            · have hb40 : n.toInt ≤ (Int32.ofInt 30).toInt := hb40
              have hbB : b.toInt = (b.toNatClampNeg : Int) := (ab_clamp (by omega)).symm
              have hcC : c.toInt = (c.toNatClampNeg : Int) := (ab_clamp (by omega)).symm
              have hB4 : b.toNatClampNeg < 4 := by omega
              have hmul : (Int32.ofInt 24 * b).toInt = 24 * b.toInt := cx_mulk (n := 24) (by decide +kernel) (by omega) (by omega)
              have hia : (Int32.ofInt 24 * b + c).toInt = ((24 * b.toNatClampNeg + c.toNatClampNeg : Nat) : Int) := by rw [cx_addc (by omega) (by omega)]; omega
              have hixc : (Int32.ofInt 24 * b + c).toNatClampNeg = 24 * b.toNatClampNeg + c.toNatClampNeg := cx_clamp hia
              refine ex_aload_n cg_256 (ix := 27) (pc' := 51) rfl rfl rfl ?_
              refine ex_getfield cg_256 (ix := 28) (pc' := 54) (v := .inr (.inl 163)) rfl rfl rfl rfl rfl ?_
              refine ex_bipush cg_256 (ix := 29) (pc' := 56) rfl rfl rfl ?_
              refine ex_iload_n cg_256 (ix := 30) (pc' := 57) rfl rfl rfl ?_
              refine ex_imul cg_256 (ix := 31) (pc' := 58) rfl rfl ?_
              refine ex_iload_n cg_256 (ix := 32) (pc' := 59) rfl rfl rfl ?_
              refine ex_iadd cg_256 (ix := 33) (pc' := 60) rfl rfl ?_
              refine ex_iload_n cg_256 (ix := 34) (pc' := 61) rfl rfl rfl ?_
              refine ex_iconst cg_256 (ix := 35) (pc' := 62) rfl rfl ?_
              refine ex_iadd cg_256 (ix := 36) (pc' := 63) rfl rfl ?_
              refine ex_iastore cg_256 (ix := 37) (pc' := 64) (h' := [(119, .inl (11, vs_119 (upi mi 0 (Int32.ofInt 0)) ml)), (126, .inr (.inl (0, 7, r))), (163, .inr (.inl (0, 96, upd g (((Int32.ofInt 24) * b) + c).toNatClampNeg (n + (Int32.ofInt 1)))))]) rfl rfl (by omega) (by omega) rfl rfl ?_
              refine ex_aload_n cg_256 (ix := 38) (pc' := 65) rfl rfl rfl ?_
              refine ex_iload_n cg_256 (ix := 39) (pc' := 66) rfl rfl rfl ?_
              refine ex_callV cg_256 (ix := 40) (pc' := 69) (As := [.inl (.int b)]) (r := []) rfl rfl rfl (ct_257 (B := b.toNatClampNeg) (b := b) (mi := (upi mi 0 (Int32.ofInt 0))) (ml := ml) (g := upd g (((Int32.ofInt 24) * b) + c).toNatClampNeg (n + (Int32.ofInt 1))) hbB hB4) (by decide) rfl rfl rfl ⟨rfl, rfl, trivial⟩ rfl rfl (fun v h2 hq => ?_)
              obtain ⟨z, rfl, hz5, rfl⟩ := hq
              show cx_T _ 256 _ 69 ([some (.inr (.inl 119)), some (.inl (.int b)), some (.inl (.int c)), some (.inl (.int n))], [.inl (.int z)], [(119, .inl (11, vs_119 (upi mi 0 (Int32.ofInt 0)) ml)), (126, .inr (.inl (0, 7, r))), (163, .inr (.inl (0, 96, upd g (((Int32.ofInt 24) * b) + c).toNatClampNeg (n + (Int32.ofInt 1)))))]) _
              refine ex_ireturn cg_256 (ix := 41) rfl ?_
              refine ⟨z, r, _, rfl, rfl, Or.inr (Or.inr (Or.inr ⟨by omega, by omega, by omega, hz5, ?_⟩))⟩
              rw [hixc]
            · have hb40 : ¬ (n.toInt ≤ (Int32.ofInt 30).toInt) := hb40
              refine ex_aload_n cg_256 (ix := 23) (pc' := 44) rfl rfl rfl ?_
              refine ex_bipush cg_256 (ix := 24) (pc' := 46) rfl rfl rfl ?_
              refine ex_callV cg_256 (ix := 25) (pc' := 49) (As := [.inl (.int (Int32.ofInt (-6)))]) (r := []) rfl rfl rfl (ct_mref (x := Int32.ofInt (-6)) (mi := (upi mi 0 (Int32.ofInt 0))) (ml := ml) (r := r) (by decide +kernel) (by decide +kernel)) (by decide) rfl rfl rfl ⟨rfl, rfl, trivial⟩ rfl rfl (fun v h2 hq => ?_)
              obtain ⟨rfl, r2, rfl⟩ := hq
              show cx_T _ 256 _ 49 ([some (.inr (.inl 119)), some (.inl (.int b)), some (.inl (.int c)), some (.inl (.int n))], [.inl (.int (Int32.ofInt (-6)))], [(119, .inl (11, vs_119 (upi mi 0 (Int32.ofInt 0)) ml)), (126, .inr (.inl (0, 7, r2))), (163, .inr (.inl (0, 96, g)))]) _
              refine ex_ireturn cg_256 (ix := 26) rfl ?_
              exact ⟨_, _, _, rfl, rfl, Or.inr (Or.inr (Or.inl ⟨by omega, by omega, by decide +kernel, rfl⟩))⟩
          · have hb27 : ¬ ((Int32.ofInt (-1)).toInt ≤ n.toInt) := hb27
            refine ex_aload_n cg_256 (ix := 16) (pc' := 31) rfl rfl rfl ?_
            refine ex_bipush cg_256 (ix := 17) (pc' := 33) rfl rfl rfl ?_
            refine ex_callV cg_256 (ix := 18) (pc' := 36) (As := [.inl (.int (Int32.ofInt (-4)))]) (r := []) rfl rfl rfl (ct_mref (x := Int32.ofInt (-4)) (mi := (upi mi 0 (Int32.ofInt 0))) (ml := ml) (r := r) (by decide +kernel) (by decide +kernel)) (by decide) rfl rfl rfl ⟨rfl, rfl, trivial⟩ rfl rfl (fun v h2 hq => ?_)
            obtain ⟨rfl, r2, rfl⟩ := hq
            show cx_T _ 256 _ 36 ([some (.inr (.inl 119)), some (.inl (.int b)), some (.inl (.int c)), some (.inl (.int n))], [.inl (.int (Int32.ofInt (-4)))], [(119, .inl (11, vs_119 (upi mi 0 (Int32.ofInt 0)) ml)), (126, .inr (.inl (0, 7, r2))), (163, .inr (.inl (0, 96, g)))]) _
            refine ex_ireturn cg_256 (ix := 19) rfl ?_
            exact ⟨_, _, _, rfl, rfl, Or.inr (Or.inl ⟨by omega, by omega, by decide +kernel, rfl⟩)⟩
        · have hb16 : ¬ (¬ (Int32.ofInt 1).toInt = 0) := hb16
          exfalso; first | omega | exact absurd hb16 (by decide +kernel)
      · show cx_T _ 256 _ 16 ([some (.inr (.inl 119)), some (.inl (.int b)), some (.inl (.int c)), some (.inl (.int n))], [.inl (.int (Int32.ofInt 0))], [(119, .inl (11, vs_119 (upi mi 0 (Int32.ofInt 0)) ml)), (126, .inr (.inl (0, 7, r))), (163, .inr (.inl (0, 96, g)))]) _
        refine ex_if cg_256 (ix := 8) (t := 25) (pc' := 19) rfl rfl rfl (fun hb16 => ?_) (fun hb16 => ?_)
        · have hb16 : ¬ (Int32.ofInt 0).toInt = 0 := hb16
          exfalso; first | omega | exact absurd hb16 (by decide +kernel)
        · have hb16 : ¬ (¬ (Int32.ofInt 0).toInt = 0) := hb16
          refine ex_aload_n cg_256 (ix := 9) (pc' := 20) rfl rfl rfl ?_
          refine ex_iconst cg_256 (ix := 10) (pc' := 21) rfl rfl ?_
          refine ex_callV cg_256 (ix := 11) (pc' := 24) (As := [.inl (.int (Int32.ofInt (-1)))]) (r := []) rfl rfl rfl (ct_mref (x := Int32.ofInt (-1)) (mi := (upi mi 0 (Int32.ofInt 0))) (ml := ml) (r := r) (by decide +kernel) (by decide +kernel)) (by decide) rfl rfl rfl ⟨rfl, rfl, trivial⟩ rfl rfl (fun v h2 hq => ?_)
          obtain ⟨rfl, r2, rfl⟩ := hq
          show cx_T _ 256 _ 24 ([some (.inr (.inl 119)), some (.inl (.int b)), some (.inl (.int c)), some (.inl (.int n))], [.inl (.int (Int32.ofInt (-1)))], [(119, .inl (11, vs_119 (upi mi 0 (Int32.ofInt 0)) ml)), (126, .inr (.inl (0, 7, r2))), (163, .inr (.inl (0, 96, g)))]) _
          refine ex_ireturn cg_256 (ix := 12) rfl ?_
          exact ⟨_, _, _, rfl, rfl, Or.inl ⟨by omega, by decide +kernel, rfl⟩⟩
  · show cx_T _ 256 _ 9 ([some (.inr (.inl 119)), some (.inl (.int b)), some (.inl (.int c)), some (.inl (.int n))], [.inl (.int (Int32.ofInt 0))], [(119, .inl (11, vs_119 (upi mi 0 (Int32.ofInt 0)) ml)), (126, .inr (.inl (0, 7, r))), (163, .inr (.inl (0, 96, g)))]) _
    refine ex_if cg_256 (ix := 5) (t := 19) (pc' := 12) rfl rfl rfl (fun hb9 => ?_) (fun hb9 => ?_)
    · have hb9 : (Int32.ofInt 0).toInt = 0 := hb9
      refine ex_aload_n cg_256 (ix := 9) (pc' := 20) rfl rfl rfl ?_
      refine ex_iconst cg_256 (ix := 10) (pc' := 21) rfl rfl ?_
      refine ex_callV cg_256 (ix := 11) (pc' := 24) (As := [.inl (.int (Int32.ofInt (-1)))]) (r := []) rfl rfl rfl (ct_mref (x := Int32.ofInt (-1)) (mi := (upi mi 0 (Int32.ofInt 0))) (ml := ml) (r := r) (by decide +kernel) (by decide +kernel)) (by decide) rfl rfl rfl ⟨rfl, rfl, trivial⟩ rfl rfl (fun v h2 hq => ?_)
      obtain ⟨rfl, r2, rfl⟩ := hq
      show cx_T _ 256 _ 24 ([some (.inr (.inl 119)), some (.inl (.int b)), some (.inl (.int c)), some (.inl (.int n))], [.inl (.int (Int32.ofInt (-1)))], [(119, .inl (11, vs_119 (upi mi 0 (Int32.ofInt 0)) ml)), (126, .inr (.inl (0, 7, r2))), (163, .inr (.inl (0, 96, g)))]) _
      refine ex_ireturn cg_256 (ix := 12) rfl ?_
      exact ⟨_, _, _, rfl, rfl, Or.inl ⟨by omega, by decide +kernel, rfl⟩⟩
    · have hb9 : ¬ ((Int32.ofInt 0).toInt = 0) := hb9
      exfalso; first | omega | exact absurd hb9 (by decide +kernel)
end
