noncomputable section
/-- what safe answers -/
def sfA (b c x : Int32) (f t s : Nat → Int32) (z : Int32) : Prop := (((0 ≤ b.toInt ∧ b.toInt < 4) ∧ (0 ≤ c.toInt ∧ c.toInt < 24) ∧ 0 ≤ x.toInt ∧ x.toInt < 16) ∧ z.toInt = sfV f c.toNatClampNeg (td_lo (td_a t x.toNatClampNeg).toInt (td_b t x.toNatClampNeg (16 - x.toNatClampNeg)).toInt) (td_hi (td_a t x.toNatClampNeg).toInt (td_b t x.toNatClampNeg (16 - x.toNatClampNeg)).toInt) (sw_x s x.toNatClampNeg).toInt (sw_l s x.toNatClampNeg).toInt) ∨ (¬ ((0 ≤ b.toInt ∧ b.toInt < 4) ∧ (0 ≤ c.toInt ∧ c.toInt < 24) ∧ 0 ≤ x.toInt ∧ x.toInt < 16) ∧ z.toInt = -1)
theorem sh_k (F : Nat → Nat → Int32) {b : Nat} (h : b < 4) : [17, 18, 19, 20][b]? = some (17 + b) ∧ cx_hg (h_sh F) (17 + b) = some (.inr (.inl (0, 24, F b))) := by
  rcases (show b = 0 ∨ b = 1 ∨ b = 2 ∨ b = 3 by omega) with rfl | rfl | rfl | rfl <;> exact ⟨rfl, rfl⟩
def h_xf (dy : Int32) (r : Nat → Int32) (F : Nat → Nat → Int32) (t s : Nat → Int32) : cx_H := (0, .inl (10, vs_0 dy)) :: (1, .inr (.inl (0, 7, r))) :: h_sf F t s
theorem ct_safe {dy : Int32} {r t s : Nat → Int32} {F : Nat → Nat → Int32} {b c x : Int32} (hF : ∀ k : Nat, k < 4 → bkU (F k)) (ht : ∀ i : Nat, i < 16 → tdU (t i).toInt) : cx_Ct 6 132 [.inr (.inl 0), .inl (.int b), .inl (.int c), .inl (.int x)] (h_xf dy r F t s) (fun v h2 => ∃ (z : Int32) (r2 : Nat → Int32), v = some (.inl (.int z)) ∧ h2 = h_xf dy r2 F t s ∧ sfA b c x (F b.toNatClampNeg) t s z) := by
  have kcm1 : (Int32.ofInt (-1)).toInt = -1 := by decide +kernel
  have kc0 : (Int32.ofInt 0).toInt = 0 := by decide +kernel
  have kc1 : (Int32.ofInt 1).toInt = 1 := by decide +kernel
  refine cx_Ct.of cg_132 (nL := 4) rfl rfl rfl ?_
  show cx_T 6 132 [0, 1, 15, 16, 17, 18, 19, 20, 2, 3, 4] 0 ([some (.inr (.inl 0)), some (.inl (.int b)), some (.inl (.int c)), some (.inl (.int x))], [], h_xf dy r F t s) _
  refine ex_iload_n cg_132 (ix := 0) (pc' := 1) rfl rfl rfl ?_
  refine ex_callS cg_132 (ix := 1) (pc' := 4) (As := [.inl (.int b)]) (r := []) rfl rfl rfl (ct_xbeach (x := b)) (by first | decide | omega) rfl rfl trivial rfl rfl (fun v h2 hq => ?_)
  obtain ⟨z, rfl, rfl, hz1⟩ := hq
  rcases hz1 with ⟨hz1, rfl⟩ | ⟨hz1, rfl⟩
  · show cx_T _ 132 _ 4 ([some (.inr (.inl 0)), some (.inl (.int b)), some (.inl (.int c)), some (.inl (.int x))], [.inl (.int (Int32.ofInt 1))], [(0, .inl (10, [.inr (.inl 1), .inr (.inl 2), .inr (.inl 15), .inr (.inl 21), .inr (.inl 43), .inr (.inl 68), .inr (.inl 77), .inr (.inl 87), .inr (.inl 101), .inr (.inl 107), .inr (.inl 113), .inl (.int dy)])), (1, .inr (.inl (0, 7, r))), (15, .inl (7, [.inr (.inl 2), .inr (.inl 16)])), (16, .inr (.inr (.inr (3, [17, 18, 19, 20])))), (17, .inr (.inl (0, 24, F 0))), (18, .inr (.inl (0, 24, F 1))), (19, .inr (.inl (0, 24, F 2))), (20, .inr (.inl (0, 24, F 3))), (2, .inl (8, [.inr (.inl 3), .inr (.inl 4), .inr (.inl 5), .inr (.inl 10)])), (3, .inr (.inl (0, 16, t))), (4, .inr (.inl (0, 16, s)))]) _
    refine ex_if cg_132 (ix := 2) (t := 21) (pc' := 7) rfl rfl rfl (fun hb4 => ?_) (fun hb4 => ?_)
    · have hb4 : (Int32.ofInt 1).toInt = 0 := hb4
      exfalso; first | omega | exact absurd hb4 (by decide +kernel)
    · have hb4 : ¬ ((Int32.ofInt 1).toInt = 0) := hb4
      refine ex_iload_n cg_132 (ix := 3) (pc' := 8) rfl rfl rfl ?_
      refine ex_callS cg_132 (ix := 4) (pc' := 11) (As := [.inl (.int c)]) (r := []) rfl rfl rfl (ct_xcell (x := c)) (by first | decide | omega) rfl rfl trivial rfl rfl (fun v h2 hq => ?_)
      obtain ⟨z, rfl, rfl, hz2⟩ := hq
      rcases hz2 with ⟨hz2, rfl⟩ | ⟨hz2, rfl⟩
      · show cx_T _ 132 _ 11 ([some (.inr (.inl 0)), some (.inl (.int b)), some (.inl (.int c)), some (.inl (.int x))], [.inl (.int (Int32.ofInt 1))], [(0, .inl (10, [.inr (.inl 1), .inr (.inl 2), .inr (.inl 15), .inr (.inl 21), .inr (.inl 43), .inr (.inl 68), .inr (.inl 77), .inr (.inl 87), .inr (.inl 101), .inr (.inl 107), .inr (.inl 113), .inl (.int dy)])), (1, .inr (.inl (0, 7, r))), (15, .inl (7, [.inr (.inl 2), .inr (.inl 16)])), (16, .inr (.inr (.inr (3, [17, 18, 19, 20])))), (17, .inr (.inl (0, 24, F 0))), (18, .inr (.inl (0, 24, F 1))), (19, .inr (.inl (0, 24, F 2))), (20, .inr (.inl (0, 24, F 3))), (2, .inl (8, [.inr (.inl 3), .inr (.inl 4), .inr (.inl 5), .inr (.inl 10)])), (3, .inr (.inl (0, 16, t))), (4, .inr (.inl (0, 16, s)))]) _
        refine ex_if cg_132 (ix := 5) (t := 21) (pc' := 14) rfl rfl rfl (fun hb11 => ?_) (fun hb11 => ?_)
        · have hb11 : (Int32.ofInt 1).toInt = 0 := hb11
          exfalso; first | omega | exact absurd hb11 (by decide +kernel)
        · have hb11 : ¬ ((Int32.ofInt 1).toInt = 0) := hb11
          refine ex_iload_n cg_132 (ix := 6) (pc' := 15) rfl rfl rfl ?_
          refine ex_callS cg_132 (ix := 7) (pc' := 18) (As := [.inl (.int x)]) (r := []) rfl rfl rfl (ct_xhour (x := x)) (by first | decide | omega) rfl rfl trivial rfl rfl (fun v h2 hq => ?_)
          obtain ⟨z, rfl, rfl, hz3⟩ := hq
          rcases hz3 with ⟨hz3, rfl⟩ | ⟨hz3, rfl⟩
          · show cx_T _ 132 _ 18 ([some (.inr (.inl 0)), some (.inl (.int b)), some (.inl (.int c)), some (.inl (.int x))], [.inl (.int (Int32.ofInt 1))], [(0, .inl (10, [.inr (.inl 1), .inr (.inl 2), .inr (.inl 15), .inr (.inl 21), .inr (.inl 43), .inr (.inl 68), .inr (.inl 77), .inr (.inl 87), .inr (.inl 101), .inr (.inl 107), .inr (.inl 113), .inl (.int dy)])), (1, .inr (.inl (0, 7, r))), (15, .inl (7, [.inr (.inl 2), .inr (.inl 16)])), (16, .inr (.inr (.inr (3, [17, 18, 19, 20])))), (17, .inr (.inl (0, 24, F 0))), (18, .inr (.inl (0, 24, F 1))), (19, .inr (.inl (0, 24, F 2))), (20, .inr (.inl (0, 24, F 3))), (2, .inl (8, [.inr (.inl 3), .inr (.inl 4), .inr (.inl 5), .inr (.inl 10)])), (3, .inr (.inl (0, 16, t))), (4, .inr (.inl (0, 16, s)))]) _
            refine ex_if cg_132 (ix := 8) (t := 27) (pc' := 21) rfl rfl rfl (fun hb18 => ?_) (fun hb18 => ?_)
            · have hb18 : ¬ (Int32.ofInt 1).toInt = 0 := hb18
              refine ex_aload_n cg_132 (ix := 13) (pc' := 28) rfl rfl rfl ?_
              refine ex_getfield cg_132 (ix := 14) (pc' := 31) rfl rfl rfl rfl rfl ?_
              refine ex_iload_n cg_132 (ix := 15) (pc' := 32) rfl rfl rfl ?_
              refine ex_iload_n cg_132 (ix := 16) (pc' := 33) rfl rfl rfl ?_
              refine ex_iload_n cg_132 (ix := 17) (pc' := 34) rfl rfl rfl ?_
              refine ex_callV cg_132 (ix := 18) (pc' := 37) (As := [.inl (.int b), .inl (.int c), .inl (.int x)]) (r := []) rfl rfl rfl (ct_sf_ (b := b) (c := c) (x := x) (cN := c.toNatClampNeg) (k1 := 17 + b.toNatClampNeg) (hN := x.toNatClampNeg) (f := F b.toNatClampNeg) (t := t) (s := s) (F := F) (by omega) (sh_k F (by have := ab_clamp (x := b) (by omega); omega)).1 (sh_k F (by have := ab_clamp (x := b) (by omega); omega)).2 (hF _ (by have := ab_clamp (x := b) (by omega); omega)) (ab_clamp (by omega)).symm (by have := ab_clamp (x := c) (by omega); omega) (ab_clamp (by omega)).symm (by have := ab_clamp (x := x) (by omega); omega) ht) (by first | decide | omega) rfl rfl rfl ⟨rfl, rfl, rfl, rfl, rfl, rfl, rfl, rfl, rfl, trivial⟩ rfl rfl (fun v h2 hq => ?_)
              obtain ⟨z, rfl, rfl, hz⟩ := hq
              show cx_T _ 132 _ 37 ([some (.inr (.inl 0)), some (.inl (.int b)), some (.inl (.int c)), some (.inl (.int x))], [.inl (.int z)], [(0, .inl (10, [.inr (.inl 1), .inr (.inl 2), .inr (.inl 15), .inr (.inl 21), .inr (.inl 43), .inr (.inl 68), .inr (.inl 77), .inr (.inl 87), .inr (.inl 101), .inr (.inl 107), .inr (.inl 113), .inl (.int dy)])), (1, .inr (.inl (0, 7, r))), (15, .inl (7, [.inr (.inl 2), .inr (.inl 16)])), (16, .inr (.inr (.inr (3, [17, 18, 19, 20])))), (17, .inr (.inl (0, 24, F 0))), (18, .inr (.inl (0, 24, F 1))), (19, .inr (.inl (0, 24, F 2))), (20, .inr (.inl (0, 24, F 3))), (2, .inl (8, [.inr (.inl 3), .inr (.inl 4), .inr (.inl 5), .inr (.inl 10)])), (3, .inr (.inl (0, 16, t))), (4, .inr (.inl (0, 16, s)))]) _
              refine ex_ireturn cg_132 (ix := 19) rfl ?_
              exact ⟨z, r, rfl, rfl, Or.inl ⟨by omega, hz⟩⟩
            · have hb18 : ¬ (¬ (Int32.ofInt 1).toInt = 0) := hb18
              exfalso; first | omega | exact absurd hb18 (by decide +kernel)
          · show cx_T _ 132 _ 18 ([some (.inr (.inl 0)), some (.inl (.int b)), some (.inl (.int c)), some (.inl (.int x))], [.inl (.int (Int32.ofInt 0))], [(0, .inl (10, [.inr (.inl 1), .inr (.inl 2), .inr (.inl 15), .inr (.inl 21), .inr (.inl 43), .inr (.inl 68), .inr (.inl 77), .inr (.inl 87), .inr (.inl 101), .inr (.inl 107), .inr (.inl 113), .inl (.int dy)])), (1, .inr (.inl (0, 7, r))), (15, .inl (7, [.inr (.inl 2), .inr (.inl 16)])), (16, .inr (.inr (.inr (3, [17, 18, 19, 20])))), (17, .inr (.inl (0, 24, F 0))), (18, .inr (.inl (0, 24, F 1))), (19, .inr (.inl (0, 24, F 2))), (20, .inr (.inl (0, 24, F 3))), (2, .inl (8, [.inr (.inl 3), .inr (.inl 4), .inr (.inl 5), .inr (.inl 10)])), (3, .inr (.inl (0, 16, t))), (4, .inr (.inl (0, 16, s)))]) _
            refine ex_if cg_132 (ix := 8) (t := 27) (pc' := 21) rfl rfl rfl (fun hb18 => ?_) (fun hb18 => ?_)
            · have hb18 : ¬ (Int32.ofInt 0).toInt = 0 := hb18
              exfalso; first | omega | exact absurd hb18 (by decide +kernel)
            · have hb18 : ¬ (¬ (Int32.ofInt 0).toInt = 0) := hb18
              refine ex_aload_n cg_132 (ix := 9) (pc' := 22) rfl rfl rfl ?_
              refine ex_iconst cg_132 (ix := 10) (pc' := 23) rfl rfl ?_
              refine ex_callV cg_132 (ix := 11) (pc' := 26) (As := [.inl (.int (Int32.ofInt (-1)))]) (r := []) rfl rfl rfl (ct_xref (dy := dy) (x := Int32.ofInt (-1)) (r := r) (by decide +kernel) (by decide +kernel)) (by first | decide | omega) rfl rfl rfl ⟨rfl, rfl, trivial⟩ rfl rfl (fun v h2 hq => ?_)
              obtain ⟨rfl, r2, rfl⟩ := hq
              show cx_T _ 132 _ 26 ([some (.inr (.inl 0)), some (.inl (.int b)), some (.inl (.int c)), some (.inl (.int x))], [.inl (.int (Int32.ofInt (-1)))], [(0, .inl (10, [.inr (.inl 1), .inr (.inl 2), .inr (.inl 15), .inr (.inl 21), .inr (.inl 43), .inr (.inl 68), .inr (.inl 77), .inr (.inl 87), .inr (.inl 101), .inr (.inl 107), .inr (.inl 113), .inl (.int dy)])), (1, .inr (.inl (0, 7, r2))), (15, .inl (7, [.inr (.inl 2), .inr (.inl 16)])), (16, .inr (.inr (.inr (3, [17, 18, 19, 20])))), (17, .inr (.inl (0, 24, F 0))), (18, .inr (.inl (0, 24, F 1))), (19, .inr (.inl (0, 24, F 2))), (20, .inr (.inl (0, 24, F 3))), (2, .inl (8, [.inr (.inl 3), .inr (.inl 4), .inr (.inl 5), .inr (.inl 10)])), (3, .inr (.inl (0, 16, t))), (4, .inr (.inl (0, 16, s)))]) _
              refine ex_ireturn cg_132 (ix := 12) rfl ?_
              exact ⟨_, r2, rfl, rfl, Or.inr ⟨by omega, by decide +kernel⟩⟩
      · show cx_T _ 132 _ 11 ([some (.inr (.inl 0)), some (.inl (.int b)), some (.inl (.int c)), some (.inl (.int x))], [.inl (.int (Int32.ofInt 0))], [(0, .inl (10, [.inr (.inl 1), .inr (.inl 2), .inr (.inl 15), .inr (.inl 21), .inr (.inl 43), .inr (.inl 68), .inr (.inl 77), .inr (.inl 87), .inr (.inl 101), .inr (.inl 107), .inr (.inl 113), .inl (.int dy)])), (1, .inr (.inl (0, 7, r))), (15, .inl (7, [.inr (.inl 2), .inr (.inl 16)])), (16, .inr (.inr (.inr (3, [17, 18, 19, 20])))), (17, .inr (.inl (0, 24, F 0))), (18, .inr (.inl (0, 24, F 1))), (19, .inr (.inl (0, 24, F 2))), (20, .inr (.inl (0, 24, F 3))), (2, .inl (8, [.inr (.inl 3), .inr (.inl 4), .inr (.inl 5), .inr (.inl 10)])), (3, .inr (.inl (0, 16, t))), (4, .inr (.inl (0, 16, s)))]) _
        refine ex_if cg_132 (ix := 5) (t := 21) (pc' := 14) rfl rfl rfl (fun hb11 => ?_) (fun hb11 => ?_)
        · have hb11 : (Int32.ofInt 0).toInt = 0 := hb11
          refine ex_aload_n cg_132 (ix := 9) (pc' := 22) rfl rfl rfl ?_
          refine ex_iconst cg_132 (ix := 10) (pc' := 23) rfl rfl ?_
          refine ex_callV cg_132 (ix := 11) (pc' := 26) (As := [.inl (.int (Int32.ofInt (-1)))]) (r := []) rfl rfl rfl (ct_xref (dy := dy) (x := Int32.ofInt (-1)) (r := r) (by decide +kernel) (by decide +kernel)) (by first | decide | omega) rfl rfl rfl ⟨rfl, rfl, trivial⟩ rfl rfl (fun v h2 hq => ?_)
          obtain ⟨rfl, r2, rfl⟩ := hq
          show cx_T _ 132 _ 26 ([some (.inr (.inl 0)), some (.inl (.int b)), some (.inl (.int c)), some (.inl (.int x))], [.inl (.int (Int32.ofInt (-1)))], [(0, .inl (10, [.inr (.inl 1), .inr (.inl 2), .inr (.inl 15), .inr (.inl 21), .inr (.inl 43), .inr (.inl 68), .inr (.inl 77), .inr (.inl 87), .inr (.inl 101), .inr (.inl 107), .inr (.inl 113), .inl (.int dy)])), (1, .inr (.inl (0, 7, r2))), (15, .inl (7, [.inr (.inl 2), .inr (.inl 16)])), (16, .inr (.inr (.inr (3, [17, 18, 19, 20])))), (17, .inr (.inl (0, 24, F 0))), (18, .inr (.inl (0, 24, F 1))), (19, .inr (.inl (0, 24, F 2))), (20, .inr (.inl (0, 24, F 3))), (2, .inl (8, [.inr (.inl 3), .inr (.inl 4), .inr (.inl 5), .inr (.inl 10)])), (3, .inr (.inl (0, 16, t))), (4, .inr (.inl (0, 16, s)))]) _
          refine ex_ireturn cg_132 (ix := 12) rfl ?_
          exact ⟨_, r2, rfl, rfl, Or.inr ⟨by omega, by decide +kernel⟩⟩
        · have hb11 : ¬ ((Int32.ofInt 0).toInt = 0) := hb11
          exfalso; first | omega | exact absurd hb11 (by decide +kernel)
  · show cx_T _ 132 _ 4 ([some (.inr (.inl 0)), some (.inl (.int b)), some (.inl (.int c)), some (.inl (.int x))], [.inl (.int (Int32.ofInt 0))], [(0, .inl (10, [.inr (.inl 1), .inr (.inl 2), .inr (.inl 15), .inr (.inl 21), .inr (.inl 43), .inr (.inl 68), .inr (.inl 77), .inr (.inl 87), .inr (.inl 101), .inr (.inl 107), .inr (.inl 113), .inl (.int dy)])), (1, .inr (.inl (0, 7, r))), (15, .inl (7, [.inr (.inl 2), .inr (.inl 16)])), (16, .inr (.inr (.inr (3, [17, 18, 19, 20])))), (17, .inr (.inl (0, 24, F 0))), (18, .inr (.inl (0, 24, F 1))), (19, .inr (.inl (0, 24, F 2))), (20, .inr (.inl (0, 24, F 3))), (2, .inl (8, [.inr (.inl 3), .inr (.inl 4), .inr (.inl 5), .inr (.inl 10)])), (3, .inr (.inl (0, 16, t))), (4, .inr (.inl (0, 16, s)))]) _
    refine ex_if cg_132 (ix := 2) (t := 21) (pc' := 7) rfl rfl rfl (fun hb4 => ?_) (fun hb4 => ?_)
    · have hb4 : (Int32.ofInt 0).toInt = 0 := hb4
      refine ex_aload_n cg_132 (ix := 9) (pc' := 22) rfl rfl rfl ?_
      refine ex_iconst cg_132 (ix := 10) (pc' := 23) rfl rfl ?_
      refine ex_callV cg_132 (ix := 11) (pc' := 26) (As := [.inl (.int (Int32.ofInt (-1)))]) (r := []) rfl rfl rfl (ct_xref (dy := dy) (x := Int32.ofInt (-1)) (r := r) (by decide +kernel) (by decide +kernel)) (by first | decide | omega) rfl rfl rfl ⟨rfl, rfl, trivial⟩ rfl rfl (fun v h2 hq => ?_)
      obtain ⟨rfl, r2, rfl⟩ := hq
      show cx_T _ 132 _ 26 ([some (.inr (.inl 0)), some (.inl (.int b)), some (.inl (.int c)), some (.inl (.int x))], [.inl (.int (Int32.ofInt (-1)))], [(0, .inl (10, [.inr (.inl 1), .inr (.inl 2), .inr (.inl 15), .inr (.inl 21), .inr (.inl 43), .inr (.inl 68), .inr (.inl 77), .inr (.inl 87), .inr (.inl 101), .inr (.inl 107), .inr (.inl 113), .inl (.int dy)])), (1, .inr (.inl (0, 7, r2))), (15, .inl (7, [.inr (.inl 2), .inr (.inl 16)])), (16, .inr (.inr (.inr (3, [17, 18, 19, 20])))), (17, .inr (.inl (0, 24, F 0))), (18, .inr (.inl (0, 24, F 1))), (19, .inr (.inl (0, 24, F 2))), (20, .inr (.inl (0, 24, F 3))), (2, .inl (8, [.inr (.inl 3), .inr (.inl 4), .inr (.inl 5), .inr (.inl 10)])), (3, .inr (.inl (0, 16, t))), (4, .inr (.inl (0, 16, s)))]) _
      refine ex_ireturn cg_132 (ix := 12) rfl ?_
      exact ⟨_, r2, rfl, rfl, Or.inr ⟨by omega, by decide +kernel⟩⟩
    · have hb4 : ¬ ((Int32.ofInt 0).toInt = 0) := hb4
      exfalso; first | omega | exact absurd hb4 (by decide +kernel)
def h_mf (mi : Nat → Int32) (ml : Nat → Int64) (r g t s : Nat → Int32) : cx_H := [(119, .inl (11, vs_119 mi ml)), (126, .inr (.inl (0, 7, r))), (121, .inr (.inl (0, 96, g))), (122, .inr (.inl (0, 16, t))), (123, .inr (.inl (0, 16, s)))]
theorem ct_msafe {mi : Nat → Int32} {ml : Nat → Int64} {r g t s : Nat → Int32} {F : Nat → Nat → Int32} {b c x : Int32} (hfg : ∀ k : Nat, k < 4 → ∀ i : Nat, i < 24 → g (24 * k + i) = F k i) (hF : ∀ k : Nat, k < 4 → bkU (F k)) (ht : ∀ i : Nat, i < 16 → tdU (t i).toInt) (hs : ∀ i : Nat, i < 16 → swU (s i).toInt) : cx_Ct 7 195 [.inr (.inl 119), .inl (.int b), .inl (.int c), .inl (.int x)] (h_mf mi ml r g t s) (fun v h2 => ∃ (z : Int32) (r2 mi2 : Nat → Int32), v = some (.inl (.int z)) ∧ mam mi mi2 t s x.toNatClampNeg ∧ (¬ (0 ≤ x.toInt ∧ x.toInt < 16) → mi2 = (upi mi 0 (Int32.ofInt 0))) ∧ h2 = h_mf mi2 ml r2 g t s ∧ sfA b c x (F b.toNatClampNeg) t s z) := by
  have kcm1 : (Int32.ofInt (-1)).toInt = -1 := by decide +kernel
  have kc0 : (Int32.ofInt 0).toInt = 0 := by decide +kernel
  have kc1 : (Int32.ofInt 1).toInt = 1 := by decide +kernel
  refine cx_Ct.of cg_195 (nL := 4) rfl rfl rfl ?_
  show cx_T 7 195 [119, 126, 121, 122, 123] 0 ([some (.inr (.inl 119)), some (.inl (.int b)), some (.inl (.int c)), some (.inl (.int x))], [], h_mf mi ml r g t s) _
  refine ex_aload_n cg_195 (ix := 0) (pc' := 1) rfl rfl rfl ?_
  refine ex_iconst cg_195 (ix := 1) (pc' := 2) rfl rfl ?_
  refine ex_putfield cg_195 (ix := 2) (pc' := 5) (h' := [(119, .inl (11, vs_119 (upi mi 0 (Int32.ofInt 0)) ml)), (126, .inr (.inl (0, 7, r))), (121, .inr (.inl (0, 96, g))), (122, .inr (.inl (0, 16, t))), (123, .inr (.inl (0, 16, s)))]) rfl rfl rfl rfl rfl rfl rfl rfl ?_
  refine ex_iload_n cg_195 (ix := 3) (pc' := 6) rfl rfl rfl ?_
  refine ex_callS cg_195 (ix := 4) (pc' := 9) (As := [.inl (.int b)]) (r := []) rfl rfl rfl (ct_mbeach (x := b)) (by first | decide | omega) rfl rfl trivial rfl rfl (fun v h2 hq => ?_)
  obtain ⟨z, rfl, rfl, hz1⟩ := hq
  rcases hz1 with ⟨hz1, rfl⟩ | ⟨hz1, rfl⟩
  · show cx_T _ 195 _ 9 ([some (.inr (.inl 119)), some (.inl (.int b)), some (.inl (.int c)), some (.inl (.int x))], [.inl (.int (Int32.ofInt 1))], [(119, .inl (11, vs_119 (upi mi 0 (Int32.ofInt 0)) ml)), (126, .inr (.inl (0, 7, r))), (121, .inr (.inl (0, 96, g))), (122, .inr (.inl (0, 16, t))), (123, .inr (.inl (0, 16, s)))]) _
    refine ex_if cg_195 (ix := 5) (t := 36) (pc' := 12) rfl rfl rfl (fun hb9 => ?_) (fun hb9 => ?_)
    · have hb9 : (Int32.ofInt 1).toInt = 0 := hb9
      exfalso; first | omega | exact absurd hb9 (by decide +kernel)
    · have hb9 : ¬ ((Int32.ofInt 1).toInt = 0) := hb9
      refine ex_iload_n cg_195 (ix := 6) (pc' := 13) rfl rfl rfl ?_
      refine ex_callS cg_195 (ix := 7) (pc' := 16) (As := [.inl (.int c)]) (r := []) rfl rfl rfl (ct_mcell (x := c)) (by first | decide | omega) rfl rfl trivial rfl rfl (fun v h2 hq => ?_)
      obtain ⟨z, rfl, rfl, hz2⟩ := hq
      rcases hz2 with ⟨hz2, rfl⟩ | ⟨hz2, rfl⟩
      · show cx_T _ 195 _ 16 ([some (.inr (.inl 119)), some (.inl (.int b)), some (.inl (.int c)), some (.inl (.int x))], [.inl (.int (Int32.ofInt 1))], [(119, .inl (11, vs_119 (upi mi 0 (Int32.ofInt 0)) ml)), (126, .inr (.inl (0, 7, r))), (121, .inr (.inl (0, 96, g))), (122, .inr (.inl (0, 16, t))), (123, .inr (.inl (0, 16, s)))]) _
        refine ex_if cg_195 (ix := 8) (t := 36) (pc' := 19) rfl rfl rfl (fun hb16 => ?_) (fun hb16 => ?_)
        · have hb16 : (Int32.ofInt 1).toInt = 0 := hb16
          exfalso; first | omega | exact absurd hb16 (by decide +kernel)
        · have hb16 : ¬ ((Int32.ofInt 1).toInt = 0) := hb16
          refine ex_iload_n cg_195 (ix := 9) (pc' := 20) rfl rfl rfl ?_
          refine ex_callS cg_195 (ix := 10) (pc' := 23) (As := [.inl (.int x)]) (r := []) rfl rfl rfl (ct_mhour (x := x)) (by first | decide | omega) rfl rfl trivial rfl rfl (fun v h2 hq => ?_)
          obtain ⟨z, rfl, rfl, hz3⟩ := hq
          rcases hz3 with ⟨hz3, rfl⟩ | ⟨hz3, rfl⟩
          · show cx_T _ 195 _ 23 ([some (.inr (.inl 119)), some (.inl (.int b)), some (.inl (.int c)), some (.inl (.int x))], [.inl (.int (Int32.ofInt 1))], [(119, .inl (11, vs_119 (upi mi 0 (Int32.ofInt 0)) ml)), (126, .inr (.inl (0, 7, r))), (121, .inr (.inl (0, 96, g))), (122, .inr (.inl (0, 16, t))), (123, .inr (.inl (0, 16, s)))]) _
            refine ex_if cg_195 (ix := 11) (t := 36) (pc' := 26) rfl rfl rfl (fun hb23 => ?_) (fun hb23 => ?_)
            · have hb23 : (Int32.ofInt 1).toInt = 0 := hb23
              exfalso; first | omega | exact absurd hb23 (by decide +kernel)
            · have hb23 : ¬ ((Int32.ofInt 1).toInt = 0) := hb23
              refine ex_aload_n cg_195 (ix := 12) (pc' := 27) rfl rfl rfl ?_
              refine ex_iload_n cg_195 (ix := 13) (pc' := 28) rfl rfl rfl ?_
              refine ex_iload_n cg_195 (ix := 14) (pc' := 29) rfl rfl rfl ?_
              refine ex_iload_n cg_195 (ix := 15) (pc' := 30) rfl rfl rfl ?_
              refine ex_callV cg_195 (ix := 16) (pc' := 33) (As := [.inl (.int b), .inl (.int c), .inl (.int x)]) (r := []) rfl rfl rfl (ct_sfn (mi := (upi mi 0 (Int32.ofInt 0))) (ml := ml) (g := g) (t := t) (s := s) (b := b) (c := c) (x := x) (bN := b.toNatClampNeg) (cN := c.toNatClampNeg) (hN := x.toNatClampNeg) (f := F b.toNatClampNeg) (ab_clamp (by omega)).symm (by have := ab_clamp (x := b) (by omega); omega) (hfg _ (by have := ab_clamp (x := b) (by omega); omega)) (hF _ (by have := ab_clamp (x := b) (by omega); omega)) (ab_clamp (by omega)).symm (by have := ab_clamp (x := c) (by omega); omega) (ab_clamp (by omega)).symm (by have := ab_clamp (x := x) (by omega); omega) ht hs) (by first | decide | omega) rfl rfl rfl ⟨rfl, rfl, rfl, rfl, trivial⟩ rfl rfl (fun v h2 hq => ?_)
              obtain ⟨z, l_, m_, rfl, hl_, hm_, rfl, hz⟩ := hq
              show cx_T _ 195 _ 33 ([some (.inr (.inl 119)), some (.inl (.int b)), some (.inl (.int c)), some (.inl (.int x))], [.inl (.int z)], [(119, .inl (11, vs_119 (upi (upi (upi (upi mi 0 (Int32.ofInt 0)) 10 l_) 11 m_) 12 (sw_x s x.toNatClampNeg)) ml)), (126, .inr (.inl (0, 7, r))), (121, .inr (.inl (0, 96, g))), (122, .inr (.inl (0, 16, t))), (123, .inr (.inl (0, 16, s)))]) _
              refine ex_goto cg_195 (ix := 17) (pc' := 41) rfl rfl ?_
              refine ex_ireturn cg_195 (ix := 21) rfl ?_
              exact ⟨z, r, _, rfl, Or.inr ⟨0, l_, m_, hl_, hm_, rfl⟩, fun u => absurd ⟨by omega, by omega⟩ u, rfl, Or.inl ⟨by omega, hz⟩⟩
          · show cx_T _ 195 _ 23 ([some (.inr (.inl 119)), some (.inl (.int b)), some (.inl (.int c)), some (.inl (.int x))], [.inl (.int (Int32.ofInt 0))], [(119, .inl (11, vs_119 (upi mi 0 (Int32.ofInt 0)) ml)), (126, .inr (.inl (0, 7, r))), (121, .inr (.inl (0, 96, g))), (122, .inr (.inl (0, 16, t))), (123, .inr (.inl (0, 16, s)))]) _
            refine ex_if cg_195 (ix := 11) (t := 36) (pc' := 26) rfl rfl rfl (fun hb23 => ?_) (fun hb23 => ?_)
            · have hb23 : (Int32.ofInt 0).toInt = 0 := hb23
              refine ex_aload_n cg_195 (ix := 18) (pc' := 37) rfl rfl rfl ?_
              refine ex_iconst cg_195 (ix := 19) (pc' := 38) rfl rfl ?_
              refine ex_callV cg_195 (ix := 20) (pc' := 41) (As := [.inl (.int (Int32.ofInt (-1)))]) (r := []) rfl rfl rfl (ct_mref (x := Int32.ofInt (-1)) (mi := (upi mi 0 (Int32.ofInt 0))) (ml := ml) (r := r) (by decide +kernel) (by decide +kernel)) (by first | decide | omega) rfl rfl rfl ⟨rfl, rfl, trivial⟩ rfl rfl (fun v h2 hq => ?_)
              obtain ⟨rfl, r2, rfl⟩ := hq
              show cx_T _ 195 _ 41 ([some (.inr (.inl 119)), some (.inl (.int b)), some (.inl (.int c)), some (.inl (.int x))], [.inl (.int (Int32.ofInt (-1)))], [(119, .inl (11, vs_119 (upi mi 0 (Int32.ofInt 0)) ml)), (126, .inr (.inl (0, 7, r2))), (121, .inr (.inl (0, 96, g))), (122, .inr (.inl (0, 16, t))), (123, .inr (.inl (0, 16, s)))]) _
              refine ex_ireturn cg_195 (ix := 21) rfl ?_
              exact ⟨_, r2, _, rfl, Or.inl rfl, fun _ => rfl, rfl, Or.inr ⟨by omega, by decide +kernel⟩⟩
            · have hb23 : ¬ ((Int32.ofInt 0).toInt = 0) := hb23
              exfalso; first | omega | exact absurd hb23 (by decide +kernel)
      · show cx_T _ 195 _ 16 ([some (.inr (.inl 119)), some (.inl (.int b)), some (.inl (.int c)), some (.inl (.int x))], [.inl (.int (Int32.ofInt 0))], [(119, .inl (11, vs_119 (upi mi 0 (Int32.ofInt 0)) ml)), (126, .inr (.inl (0, 7, r))), (121, .inr (.inl (0, 96, g))), (122, .inr (.inl (0, 16, t))), (123, .inr (.inl (0, 16, s)))]) _
        refine ex_if cg_195 (ix := 8) (t := 36) (pc' := 19) rfl rfl rfl (fun hb16 => ?_) (fun hb16 => ?_)
        · have hb16 : (Int32.ofInt 0).toInt = 0 := hb16
          refine ex_aload_n cg_195 (ix := 18) (pc' := 37) rfl rfl rfl ?_
          refine ex_iconst cg_195 (ix := 19) (pc' := 38) rfl rfl ?_
          refine ex_callV cg_195 (ix := 20) (pc' := 41) (As := [.inl (.int (Int32.ofInt (-1)))]) (r := []) rfl rfl rfl (ct_mref (x := Int32.ofInt (-1)) (mi := (upi mi 0 (Int32.ofInt 0))) (ml := ml) (r := r) (by decide +kernel) (by decide +kernel)) (by first | decide | omega) rfl rfl rfl ⟨rfl, rfl, trivial⟩ rfl rfl (fun v h2 hq => ?_)
          obtain ⟨rfl, r2, rfl⟩ := hq
          show cx_T _ 195 _ 41 ([some (.inr (.inl 119)), some (.inl (.int b)), some (.inl (.int c)), some (.inl (.int x))], [.inl (.int (Int32.ofInt (-1)))], [(119, .inl (11, vs_119 (upi mi 0 (Int32.ofInt 0)) ml)), (126, .inr (.inl (0, 7, r2))), (121, .inr (.inl (0, 96, g))), (122, .inr (.inl (0, 16, t))), (123, .inr (.inl (0, 16, s)))]) _
          refine ex_ireturn cg_195 (ix := 21) rfl ?_
          exact ⟨_, r2, _, rfl, Or.inl rfl, fun _ => rfl, rfl, Or.inr ⟨by omega, by decide +kernel⟩⟩
        · have hb16 : ¬ ((Int32.ofInt 0).toInt = 0) := hb16
          exfalso; first | omega | exact absurd hb16 (by decide +kernel)
  · show cx_T _ 195 _ 9 ([some (.inr (.inl 119)), some (.inl (.int b)), some (.inl (.int c)), some (.inl (.int x))], [.inl (.int (Int32.ofInt 0))], [(119, .inl (11, vs_119 (upi mi 0 (Int32.ofInt 0)) ml)), (126, .inr (.inl (0, 7, r))), (121, .inr (.inl (0, 96, g))), (122, .inr (.inl (0, 16, t))), (123, .inr (.inl (0, 16, s)))]) _
    refine ex_if cg_195 (ix := 5) (t := 36) (pc' := 12) rfl rfl rfl (fun hb9 => ?_) (fun hb9 => ?_)
    · have hb9 : (Int32.ofInt 0).toInt = 0 := hb9
      refine ex_aload_n cg_195 (ix := 18) (pc' := 37) rfl rfl rfl ?_
      refine ex_iconst cg_195 (ix := 19) (pc' := 38) rfl rfl ?_
      refine ex_callV cg_195 (ix := 20) (pc' := 41) (As := [.inl (.int (Int32.ofInt (-1)))]) (r := []) rfl rfl rfl (ct_mref (x := Int32.ofInt (-1)) (mi := (upi mi 0 (Int32.ofInt 0))) (ml := ml) (r := r) (by decide +kernel) (by decide +kernel)) (by first | decide | omega) rfl rfl rfl ⟨rfl, rfl, trivial⟩ rfl rfl (fun v h2 hq => ?_)
      obtain ⟨rfl, r2, rfl⟩ := hq
      show cx_T _ 195 _ 41 ([some (.inr (.inl 119)), some (.inl (.int b)), some (.inl (.int c)), some (.inl (.int x))], [.inl (.int (Int32.ofInt (-1)))], [(119, .inl (11, vs_119 (upi mi 0 (Int32.ofInt 0)) ml)), (126, .inr (.inl (0, 7, r2))), (121, .inr (.inl (0, 96, g))), (122, .inr (.inl (0, 16, t))), (123, .inr (.inl (0, 16, s)))]) _
      refine ex_ireturn cg_195 (ix := 21) rfl ?_
      exact ⟨_, r2, _, rfl, Or.inl rfl, fun _ => rfl, rfl, Or.inr ⟨by omega, by decide +kernel⟩⟩
    · have hb9 : ¬ ((Int32.ofInt 0).toInt = 0) := hb9
      exfalso; first | omega | exact absurd hb9 (by decide +kernel)
end
