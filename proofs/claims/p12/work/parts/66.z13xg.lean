noncomputable section
theorem cg_90 : cx_G 90 tb_90 TbX8 none := cx_G.of gok_90
theorem cg_43 : cx_G 43 tb_43 TbX4 none := cx_G.of gok_43
theorem cg_163 : cx_G 163 tb_163 TbX10 (some .int) := cx_G.of gok_163
theorem cg_179 : cx_G 179 tb_179 TbX11 none := cx_G.of gok_179
theorem cg_255 : cx_G 255 tb_255 TbX11 (some .int) := cx_G.of gok_255
def h_dy (t s : Nat → Int32) (H J : Nat → Nat → Int32) : cx_H := [(2, .inl (8, [.inr (.inl 3), .inr (.inl 4), .inr (.inl 5), .inr (.inl 10)])), (3, .inr (.inl (0, 16, t))), (4, .inr (.inl (0, 16, s))), (5, .inr (.inr (.inr (3, [6, 7, 8, 9])))), (6, .inr (.inl (0, 16, H 0))), (7, .inr (.inl (0, 16, H 1))), (8, .inr (.inl (0, 16, H 2))), (9, .inr (.inl (0, 16, H 3))), (10, .inr (.inr (.inr (3, [11, 12, 13, 14])))), (11, .inr (.inl (0, 16, J 0))), (12, .inr (.inl (0, 16, J 1))), (13, .inr (.inl (0, 16, J 2))), (14, .inr (.inl (0, 16, J 3)))]
/-- a row whose first ones are the same number -/
def ck (k : Nat) (x : Int32) (f : Nat → Int32) : Nat → Int32 := fun i => if i < k then x else f i
theorem ck_s {k : Nat} {x : Int32} {f : Nat → Int32} : upd (ck k x f) k x = ck (k + 1) x f := by
  funext i
  unfold upd ck
  by_cases q : i = k
  · rw [if_pos q, if_pos (by omega)]
  · rw [if_neg q]
    by_cases q2 : i < k
    · rw [if_pos q2, if_pos (by omega)]
    · rw [if_neg q2, if_neg (by omega)]
theorem ck_0 {x : Int32} {f : Nat → Int32} : ck 0 x f = f := by
  funext i
  unfold ck
  rw [if_neg (by omega)]
theorem ct_fg {t s : Nat → Int32} {H J : Nat → Nat → Int32} : cx_Ct 2 90 [.inr (.inl 2)] (h_dy t s H J) (fun v h2 => v = none ∧ h2 = h_dy (ck 16 (Int32.ofInt 99) t) (ck 16 (Int32.ofInt 99) s) (fun i => ck 16 (Int32.ofInt 0) (H i)) (fun i => ck 16 (Int32.ofInt 0) (J i))) := by
  refine cx_Ct.of cg_90 (nL := 2) rfl rfl rfl ?_
  show cx_T 2 90 [2, 3, 4, 5, 6, 7, 8, 9, 10, 11, 12, 13, 14] 0 ([some (.inr (.inl 2)), none], [], h_dy t s H J) _
  refine ex_aload_n cg_90 (ix := 0) (pc' := 1) rfl rfl rfl ?_
  refine ex_getfield cg_90 (ix := 1) (pc' := 4) rfl rfl rfl rfl rfl ?_
  refine ex_bipush cg_90 (ix := 2) (pc' := 6) rfl rfl rfl ?_
  refine ex_fillI cg_90 (ix := 3) (pc' := 9) (h' := [(2, .inl (8, [.inr (.inl 3), .inr (.inl 4), .inr (.inl 5), .inr (.inl 10)])), (3, .inr (.inl (0, 16, fun i => if i < 16 then (Int32.ofInt 99) else t i))), (4, .inr (.inl (0, 16, s))), (5, .inr (.inr (.inr (3, [6, 7, 8, 9])))), (6, .inr (.inl (0, 16, H 0))), (7, .inr (.inl (0, 16, H 1))), (8, .inr (.inl (0, 16, H 2))), (9, .inr (.inl (0, 16, H 3))), (10, .inr (.inr (.inr (3, [11, 12, 13, 14])))), (11, .inr (.inl (0, 16, J 0))), (12, .inr (.inl (0, 16, J 1))), (13, .inr (.inl (0, 16, J 2))), (14, .inr (.inl (0, 16, J 3)))]) rfl rfl (by first | decide | omega) rfl rfl rfl rfl rfl ?_
  refine ex_aload_n cg_90 (ix := 4) (pc' := 10) rfl rfl rfl ?_
  refine ex_getfield cg_90 (ix := 5) (pc' := 13) rfl rfl rfl rfl rfl ?_
  refine ex_bipush cg_90 (ix := 6) (pc' := 15) rfl rfl rfl ?_
  refine ex_fillI cg_90 (ix := 7) (pc' := 18) (h' := [(2, .inl (8, [.inr (.inl 3), .inr (.inl 4), .inr (.inl 5), .inr (.inl 10)])), (3, .inr (.inl (0, 16, fun i => if i < 16 then (Int32.ofInt 99) else t i))), (4, .inr (.inl (0, 16, fun i => if i < 16 then (Int32.ofInt 99) else s i))), (5, .inr (.inr (.inr (3, [6, 7, 8, 9])))), (6, .inr (.inl (0, 16, H 0))), (7, .inr (.inl (0, 16, H 1))), (8, .inr (.inl (0, 16, H 2))), (9, .inr (.inl (0, 16, H 3))), (10, .inr (.inr (.inr (3, [11, 12, 13, 14])))), (11, .inr (.inl (0, 16, J 0))), (12, .inr (.inl (0, 16, J 1))), (13, .inr (.inl (0, 16, J 2))), (14, .inr (.inl (0, 16, J 3)))]) rfl rfl (by first | decide | omega) rfl rfl rfl rfl rfl ?_
  refine ex_iconst cg_90 (ix := 8) (pc' := 19) rfl rfl ?_
  refine ex_istore_n cg_90 (ix := 9) (pc' := 20) (L' := [some (.inr (.inl 2)), some (.inl (.int (Int32.ofInt 0)))]) rfl rfl rfl rfl ?_
  refine ex_iload_n cg_90 (ix := 10) (pc' := 21) rfl rfl rfl ?_
  refine ex_iconst cg_90 (ix := 11) (pc' := 22) rfl rfl ?_
  refine ex_icmp cg_90 (ix := 12) (t := 51) (pc' := 25) rfl rfl rfl (fun hb22 => ?_) (fun hb22 => ?_)
  · have hb22 : (Int32.ofInt 4).toInt ≤ (Int32.ofInt 0).toInt := hb22
    exfalso; first | omega | exact absurd hb22 (by decide +kernel)
  · have hb22 : ¬ ((Int32.ofInt 4).toInt ≤ (Int32.ofInt 0).toInt) := hb22
    refine ex_aload_n cg_90 (ix := 13) (pc' := 26) rfl rfl rfl ?_
    refine ex_getfield cg_90 (ix := 14) (pc' := 29) rfl rfl rfl rfl rfl ?_
    refine ex_iload_n cg_90 (ix := 15) (pc' := 30) rfl rfl rfl ?_
    refine ex_aaload cg_90 (ix := 16) (pc' := 31) (k1 := 6) rfl rfl (by decide +kernel) (by decide +kernel) rfl ?_
    refine ex_iconst cg_90 (ix := 17) (pc' := 32) rfl rfl ?_
    refine ex_fillI cg_90 (ix := 18) (pc' := 35) (h' := [(2, .inl (8, [.inr (.inl 3), .inr (.inl 4), .inr (.inl 5), .inr (.inl 10)])), (3, .inr (.inl (0, 16, fun i => if i < 16 then (Int32.ofInt 99) else t i))), (4, .inr (.inl (0, 16, fun i => if i < 16 then (Int32.ofInt 99) else s i))), (5, .inr (.inr (.inr (3, [6, 7, 8, 9])))), (6, .inr (.inl (0, 16, fun i => if i < 16 then (Int32.ofInt 0) else (H 0) i))), (7, .inr (.inl (0, 16, H 1))), (8, .inr (.inl (0, 16, H 2))), (9, .inr (.inl (0, 16, H 3))), (10, .inr (.inr (.inr (3, [11, 12, 13, 14])))), (11, .inr (.inl (0, 16, J 0))), (12, .inr (.inl (0, 16, J 1))), (13, .inr (.inl (0, 16, J 2))), (14, .inr (.inl (0, 16, J 3)))]) rfl rfl (by first | decide | omega) rfl rfl rfl rfl rfl ?_
    refine ex_aload_n cg_90 (ix := 19) (pc' := 36) rfl rfl rfl ?_
    refine ex_getfield cg_90 (ix := 20) (pc' := 39) rfl rfl rfl rfl rfl ?_
    refine ex_iload_n cg_90 (ix := 21) (pc' := 40) rfl rfl rfl ?_
    refine ex_aaload cg_90 (ix := 22) (pc' := 41) (k1 := 11) rfl rfl (by decide +kernel) (by decide +kernel) rfl ?_
    refine ex_iconst cg_90 (ix := 23) (pc' := 42) rfl rfl ?_
    refine ex_fillI cg_90 (ix := 24) (pc' := 45) (h' := [(2, .inl (8, [.inr (.inl 3), .inr (.inl 4), .inr (.inl 5), .inr (.inl 10)])), (3, .inr (.inl (0, 16, fun i => if i < 16 then (Int32.ofInt 99) else t i))), (4, .inr (.inl (0, 16, fun i => if i < 16 then (Int32.ofInt 99) else s i))), (5, .inr (.inr (.inr (3, [6, 7, 8, 9])))), (6, .inr (.inl (0, 16, fun i => if i < 16 then (Int32.ofInt 0) else (H 0) i))), (7, .inr (.inl (0, 16, H 1))), (8, .inr (.inl (0, 16, H 2))), (9, .inr (.inl (0, 16, H 3))), (10, .inr (.inr (.inr (3, [11, 12, 13, 14])))), (11, .inr (.inl (0, 16, fun i => if i < 16 then (Int32.ofInt 0) else (J 0) i))), (12, .inr (.inl (0, 16, J 1))), (13, .inr (.inl (0, 16, J 2))), (14, .inr (.inl (0, 16, J 3)))]) rfl rfl (by first | decide | omega) rfl rfl rfl rfl rfl ?_
    refine ex_iincK cg_90 (ix := 25) (pc' := 48) (L' := [some (.inr (.inl 2)), some (.inl (.int (Int32.ofInt 1)))]) (y := Int32.ofInt 1) rfl (by decide +kernel) rfl rfl rfl rfl ?_
    refine ex_goto cg_90 (ix := 26) (pc' := 20) rfl rfl ?_
    refine ex_iload_n cg_90 (ix := 10) (pc' := 21) rfl rfl rfl ?_
    refine ex_iconst cg_90 (ix := 11) (pc' := 22) rfl rfl ?_
    refine ex_icmp cg_90 (ix := 12) (t := 51) (pc' := 25) rfl rfl rfl (fun hb22 => ?_) (fun hb22 => ?_)
    · have hb22 : (Int32.ofInt 4).toInt ≤ (Int32.ofInt 1).toInt := hb22
      exfalso; first | omega | exact absurd hb22 (by decide +kernel)
    · have hb22 : ¬ ((Int32.ofInt 4).toInt ≤ (Int32.ofInt 1).toInt) := hb22
      refine ex_aload_n cg_90 (ix := 13) (pc' := 26) rfl rfl rfl ?_
      refine ex_getfield cg_90 (ix := 14) (pc' := 29) rfl rfl rfl rfl rfl ?_
      refine ex_iload_n cg_90 (ix := 15) (pc' := 30) rfl rfl rfl ?_
      refine ex_aaload cg_90 (ix := 16) (pc' := 31) (k1 := 7) rfl rfl (by decide +kernel) (by decide +kernel) rfl ?_
      refine ex_iconst cg_90 (ix := 17) (pc' := 32) rfl rfl ?_
      refine ex_fillI cg_90 (ix := 18) (pc' := 35) (h' := [(2, .inl (8, [.inr (.inl 3), .inr (.inl 4), .inr (.inl 5), .inr (.inl 10)])), (3, .inr (.inl (0, 16, fun i => if i < 16 then (Int32.ofInt 99) else t i))), (4, .inr (.inl (0, 16, fun i => if i < 16 then (Int32.ofInt 99) else s i))), (5, .inr (.inr (.inr (3, [6, 7, 8, 9])))), (6, .inr (.inl (0, 16, fun i => if i < 16 then (Int32.ofInt 0) else (H 0) i))), (7, .inr (.inl (0, 16, fun i => if i < 16 then (Int32.ofInt 0) else (H 1) i))), (8, .inr (.inl (0, 16, H 2))), (9, .inr (.inl (0, 16, H 3))), (10, .inr (.inr (.inr (3, [11, 12, 13, 14])))), (11, .inr (.inl (0, 16, fun i => if i < 16 then (Int32.ofInt 0) else (J 0) i))), (12, .inr (.inl (0, 16, J 1))), (13, .inr (.inl (0, 16, J 2))), (14, .inr (.inl (0, 16, J 3)))]) rfl rfl (by first | decide | omega) rfl rfl rfl rfl rfl ?_
      refine ex_aload_n cg_90 (ix := 19) (pc' := 36) rfl rfl rfl ?_
      refine ex_getfield cg_90 (ix := 20) (pc' := 39) rfl rfl rfl rfl rfl ?_
      refine ex_iload_n cg_90 (ix := 21) (pc' := 40) rfl rfl rfl ?_
      refine ex_aaload cg_90 (ix := 22) (pc' := 41) (k1 := 12) rfl rfl (by decide +kernel) (by decide +kernel) rfl ?_
      refine ex_iconst cg_90 (ix := 23) (pc' := 42) rfl rfl ?_
      refine ex_fillI cg_90 (ix := 24) (pc' := 45) (h' := [(2, .inl (8, [.inr (.inl 3), .inr (.inl 4), .inr (.inl 5), .inr (.inl 10)])), (3, .inr (.inl (0, 16, fun i => if i < 16 then (Int32.ofInt 99) else t i))), (4, .inr (.inl (0, 16, fun i => if i < 16 then (Int32.ofInt 99) else s i))), (5, .inr (.inr (.inr (3, [6, 7, 8, 9])))), (6, .inr (.inl (0, 16, fun i => if i < 16 then (Int32.ofInt 0) else (H 0) i))), (7, .inr (.inl (0, 16, fun i => if i < 16 then (Int32.ofInt 0) else (H 1) i))), (8, .inr (.inl (0, 16, H 2))), (9, .inr (.inl (0, 16, H 3))), (10, .inr (.inr (.inr (3, [11, 12, 13, 14])))), (11, .inr (.inl (0, 16, fun i => if i < 16 then (Int32.ofInt 0) else (J 0) i))), (12, .inr (.inl (0, 16, fun i => if i < 16 then (Int32.ofInt 0) else (J 1) i))), (13, .inr (.inl (0, 16, J 2))), (14, .inr (.inl (0, 16, J 3)))]) rfl rfl (by first | decide | omega) rfl rfl rfl rfl rfl ?_
      refine ex_iincK cg_90 (ix := 25) (pc' := 48) (L' := [some (.inr (.inl 2)), some (.inl (.int (Int32.ofInt 2)))]) (y := Int32.ofInt 2) rfl (by decide +kernel) rfl rfl rfl rfl ?_
      refine ex_goto cg_90 (ix := 26) (pc' := 20) rfl rfl ?_
      refine ex_iload_n cg_90 (ix := 10) (pc' := 21) rfl rfl rfl ?_
      refine ex_iconst cg_90 (ix := 11) (pc' := 22) rfl rfl ?_
      refine ex_icmp cg_90 (ix := 12) (t := 51) (pc' := 25) rfl rfl rfl (fun hb22 => ?_) (fun hb22 => ?_)
      · have hb22 : (Int32.ofInt 4).toInt ≤ (Int32.ofInt 2).toInt := hb22
        exfalso; first | omega | exact absurd hb22 (by decide +kernel)
      · have hb22 : ¬ ((Int32.ofInt 4).toInt ≤ (Int32.ofInt 2).toInt) := hb22
        refine ex_aload_n cg_90 (ix := 13) (pc' := 26) rfl rfl rfl ?_
        refine ex_getfield cg_90 (ix := 14) (pc' := 29) rfl rfl rfl rfl rfl ?_
        refine ex_iload_n cg_90 (ix := 15) (pc' := 30) rfl rfl rfl ?_
        refine ex_aaload cg_90 (ix := 16) (pc' := 31) (k1 := 8) rfl rfl (by decide +kernel) (by decide +kernel) rfl ?_
        refine ex_iconst cg_90 (ix := 17) (pc' := 32) rfl rfl ?_
        refine ex_fillI cg_90 (ix := 18) (pc' := 35) (h' := [(2, .inl (8, [.inr (.inl 3), .inr (.inl 4), .inr (.inl 5), .inr (.inl 10)])), (3, .inr (.inl (0, 16, fun i => if i < 16 then (Int32.ofInt 99) else t i))), (4, .inr (.inl (0, 16, fun i => if i < 16 then (Int32.ofInt 99) else s i))), (5, .inr (.inr (.inr (3, [6, 7, 8, 9])))), (6, .inr (.inl (0, 16, fun i => if i < 16 then (Int32.ofInt 0) else (H 0) i))), (7, .inr (.inl (0, 16, fun i => if i < 16 then (Int32.ofInt 0) else (H 1) i))), (8, .inr (.inl (0, 16, fun i => if i < 16 then (Int32.ofInt 0) else (H 2) i))), (9, .inr (.inl (0, 16, H 3))), (10, .inr (.inr (.inr (3, [11, 12, 13, 14])))), (11, .inr (.inl (0, 16, fun i => if i < 16 then (Int32.ofInt 0) else (J 0) i))), (12, .inr (.inl (0, 16, fun i => if i < 16 then (Int32.ofInt 0) else (J 1) i))), (13, .inr (.inl (0, 16, J 2))), (14, .inr (.inl (0, 16, J 3)))]) rfl rfl (by first | decide | omega) rfl rfl rfl rfl rfl ?_
        refine ex_aload_n cg_90 (ix := 19) (pc' := 36) rfl rfl rfl ?_
        refine ex_getfield cg_90 (ix := 20) (pc' := 39) rfl rfl rfl rfl rfl ?_
        refine ex_iload_n cg_90 (ix := 21) (pc' := 40) rfl rfl rfl ?_
        refine ex_aaload cg_90 (ix := 22) (pc' := 41) (k1 := 13) rfl rfl (by decide +kernel) (by decide +kernel) rfl ?_
        refine ex_iconst cg_90 (ix := 23) (pc' := 42) rfl rfl ?_
        refine ex_fillI cg_90 (ix := 24) (pc' := 45) (h' := [(2, .inl (8, [.inr (.inl 3), .inr (.inl 4), .inr (.inl 5), .inr (.inl 10)])), (3, .inr (.inl (0, 16, fun i => if i < 16 then (Int32.ofInt 99) else t i))), (4, .inr (.inl (0, 16, fun i => if i < 16 then (Int32.ofInt 99) else s i))), (5, .inr (.inr (.inr (3, [6, 7, 8, 9])))), (6, .inr (.inl (0, 16, fun i => if i < 16 then (Int32.ofInt 0) else (H 0) i))), (7, .inr (.inl (0, 16, fun i => if i < 16 then (Int32.ofInt 0) else (H 1) i))), (8, .inr (.inl (0, 16, fun i => if i < 16 then (Int32.ofInt 0) else (H 2) i))), (9, .inr (.inl (0, 16, H 3))), (10, .inr (.inr (.inr (3, [11, 12, 13, 14])))), (11, .inr (.inl (0, 16, fun i => if i < 16 then (Int32.ofInt 0) else (J 0) i))), (12, .inr (.inl (0, 16, fun i => if i < 16 then (Int32.ofInt 0) else (J 1) i))), (13, .inr (.inl (0, 16, fun i => if i < 16 then (Int32.ofInt 0) else (J 2) i))), (14, .inr (.inl (0, 16, J 3)))]) rfl rfl (by first | decide | omega) rfl rfl rfl rfl rfl ?_
        refine ex_iincK cg_90 (ix := 25) (pc' := 48) (L' := [some (.inr (.inl 2)), some (.inl (.int (Int32.ofInt 3)))]) (y := Int32.ofInt 3) rfl (by decide +kernel) rfl rfl rfl rfl ?_
        refine ex_goto cg_90 (ix := 26) (pc' := 20) rfl rfl ?_
        refine ex_iload_n cg_90 (ix := 10) (pc' := 21) rfl rfl rfl ?_
        refine ex_iconst cg_90 (ix := 11) (pc' := 22) rfl rfl ?_
        refine ex_icmp cg_90 (ix := 12) (t := 51) (pc' := 25) rfl rfl rfl (fun hb22 => ?_) (fun hb22 => ?_)
        · have hb22 : (Int32.ofInt 4).toInt ≤ (Int32.ofInt 3).toInt := hb22
          exfalso; first | omega | exact absurd hb22 (by decide +kernel)
        · have hb22 : ¬ ((Int32.ofInt 4).toInt ≤ (Int32.ofInt 3).toInt) := hb22
          refine ex_aload_n cg_90 (ix := 13) (pc' := 26) rfl rfl rfl ?_
          refine ex_getfield cg_90 (ix := 14) (pc' := 29) rfl rfl rfl rfl rfl ?_
          refine ex_iload_n cg_90 (ix := 15) (pc' := 30) rfl rfl rfl ?_
          refine ex_aaload cg_90 (ix := 16) (pc' := 31) (k1 := 9) rfl rfl (by decide +kernel) (by decide +kernel) rfl ?_
          refine ex_iconst cg_90 (ix := 17) (pc' := 32) rfl rfl ?_
          refine ex_fillI cg_90 (ix := 18) (pc' := 35) (h' := [(2, .inl (8, [.inr (.inl 3), .inr (.inl 4), .inr (.inl 5), .inr (.inl 10)])), (3, .inr (.inl (0, 16, fun i => if i < 16 then (Int32.ofInt 99) else t i))), (4, .inr (.inl (0, 16, fun i => if i < 16 then (Int32.ofInt 99) else s i))), (5, .inr (.inr (.inr (3, [6, 7, 8, 9])))), (6, .inr (.inl (0, 16, fun i => if i < 16 then (Int32.ofInt 0) else (H 0) i))), (7, .inr (.inl (0, 16, fun i => if i < 16 then (Int32.ofInt 0) else (H 1) i))), (8, .inr (.inl (0, 16, fun i => if i < 16 then (Int32.ofInt 0) else (H 2) i))), (9, .inr (.inl (0, 16, fun i => if i < 16 then (Int32.ofInt 0) else (H 3) i))), (10, .inr (.inr (.inr (3, [11, 12, 13, 14])))), (11, .inr (.inl (0, 16, fun i => if i < 16 then (Int32.ofInt 0) else (J 0) i))), (12, .inr (.inl (0, 16, fun i => if i < 16 then (Int32.ofInt 0) else (J 1) i))), (13, .inr (.inl (0, 16, fun i => if i < 16 then (Int32.ofInt 0) else (J 2) i))), (14, .inr (.inl (0, 16, J 3)))]) rfl rfl (by first | decide | omega) rfl rfl rfl rfl rfl ?_
          refine ex_aload_n cg_90 (ix := 19) (pc' := 36) rfl rfl rfl ?_
          refine ex_getfield cg_90 (ix := 20) (pc' := 39) rfl rfl rfl rfl rfl ?_
          refine ex_iload_n cg_90 (ix := 21) (pc' := 40) rfl rfl rfl ?_
          refine ex_aaload cg_90 (ix := 22) (pc' := 41) (k1 := 14) rfl rfl (by decide +kernel) (by decide +kernel) rfl ?_
          refine ex_iconst cg_90 (ix := 23) (pc' := 42) rfl rfl ?_
          refine ex_fillI cg_90 (ix := 24) (pc' := 45) (h' := [(2, .inl (8, [.inr (.inl 3), .inr (.inl 4), .inr (.inl 5), .inr (.inl 10)])), (3, .inr (.inl (0, 16, fun i => if i < 16 then (Int32.ofInt 99) else t i))), (4, .inr (.inl (0, 16, fun i => if i < 16 then (Int32.ofInt 99) else s i))), (5, .inr (.inr (.inr (3, [6, 7, 8, 9])))), (6, .inr (.inl (0, 16, fun i => if i < 16 then (Int32.ofInt 0) else (H 0) i))), (7, .inr (.inl (0, 16, fun i => if i < 16 then (Int32.ofInt 0) else (H 1) i))), (8, .inr (.inl (0, 16, fun i => if i < 16 then (Int32.ofInt 0) else (H 2) i))), (9, .inr (.inl (0, 16, fun i => if i < 16 then (Int32.ofInt 0) else (H 3) i))), (10, .inr (.inr (.inr (3, [11, 12, 13, 14])))), (11, .inr (.inl (0, 16, fun i => if i < 16 then (Int32.ofInt 0) else (J 0) i))), (12, .inr (.inl (0, 16, fun i => if i < 16 then (Int32.ofInt 0) else (J 1) i))), (13, .inr (.inl (0, 16, fun i => if i < 16 then (Int32.ofInt 0) else (J 2) i))), (14, .inr (.inl (0, 16, fun i => if i < 16 then (Int32.ofInt 0) else (J 3) i)))]) rfl rfl (by first | decide | omega) rfl rfl rfl rfl rfl ?_
          refine ex_iincK cg_90 (ix := 25) (pc' := 48) (L' := [some (.inr (.inl 2)), some (.inl (.int (Int32.ofInt 4)))]) (y := Int32.ofInt 4) rfl (by decide +kernel) rfl rfl rfl rfl ?_
          refine ex_goto cg_90 (ix := 26) (pc' := 20) rfl rfl ?_
          refine ex_iload_n cg_90 (ix := 10) (pc' := 21) rfl rfl rfl ?_
          refine ex_iconst cg_90 (ix := 11) (pc' := 22) rfl rfl ?_
          refine ex_icmp cg_90 (ix := 12) (t := 51) (pc' := 25) rfl rfl rfl (fun hb22 => ?_) (fun hb22 => ?_)
          · have hb22 : (Int32.ofInt 4).toInt ≤ (Int32.ofInt 4).toInt := hb22
            refine ex_return_ cg_90 (ix := 27) rfl ?_
            exact ⟨rfl, rfl⟩
          · have hb22 : ¬ ((Int32.ofInt 4).toInt ≤ (Int32.ofInt 4).toInt) := hb22
            exfalso; first | omega | exact absurd hb22 (by decide +kernel)
def vs_43 (ro : Nat → Int32) : List cx_V := [.inr (.inl 2), .inr (.inl 44), .inr (.inl 45), .inr (.inl 46), .inr (.inl 47), .inr (.inl 48), .inr (.inl 49), .inr (.inl 50), .inr (.inl 57), .inr (.inl 58), .inr (.inl 66), .inr (.inl 67), .inl (.int (ro 12)), .inl (.int (ro 13)), .inl (.int (ro 14)), .inl (.int (ro 15)), .inl (.int (ro 16))]
theorem ct_fp {ro : Nat → Int32} : cx_Ct 2 43 [.inr (.inl 43)] [(43, .inl (4, vs_43 ro))] (fun v h2 => v = none ∧ h2 = [(43, .inl (4, vs_43 (upi ro 14 (Int32.ofInt (-9)))))]) := by
  refine cx_Ct.of cg_43 (nL := 1) rfl rfl rfl ?_
  show cx_T 2 43 [43] 0 ([some (.inr (.inl 43))], [], [(43, .inl (4, vs_43 ro))]) _
  refine ex_aload_n cg_43 (ix := 0) (pc' := 1) rfl rfl rfl ?_
  refine ex_bipush cg_43 (ix := 1) (pc' := 3) rfl rfl rfl ?_
  refine ex_putfield cg_43 (ix := 2) (pc' := 6) (h' := [(43, .inl (4, [.inr (.inl 2), .inr (.inl 44), .inr (.inl 45), .inr (.inl 46), .inr (.inl 47), .inr (.inl 48), .inr (.inl 49), .inr (.inl 50), .inr (.inl 57), .inr (.inl 58), .inr (.inl 66), .inr (.inl 67), .inl (.int (ro 12)), .inl (.int (ro 13)), .inl (.int (Int32.ofInt (-9))), .inl (.int (ro 15)), .inl (.int (ro 16))]))]) rfl rfl rfl rfl rfl rfl rfl rfl ?_
  refine ex_return_ cg_43 (ix := 3) rfl ?_
  exact ⟨rfl, rfl⟩
def h_xy (dy : Int32) (r : Nat → Int32) (t s : Nat → Int32) (H J : Nat → Nat → Int32) (ro : Nat → Int32) : cx_H := (0, .inl (10, vs_0 dy)) :: (1, .inr (.inl (0, 7, r))) :: (h_dy t s H J ++ [(43, .inl (4, vs_43 ro))])
/-- what days does in the class -/
def ds_x (n dy : Int32) (t s : Nat → Int32) (H J : Nat → Nat → Int32) (ro : Nat → Int32) (dy2 : Int32) (t2 s2 : Nat → Int32) (H2 J2 : Nat → Nat → Int32) (ro2 : Nat → Int32) : Prop :=
  ((n.toInt ≤ 0 ∨ (Int32.ofInt 300 - dy).toInt < n.toInt) ∧ dy2 = dy ∧ t2 = t ∧ s2 = s ∧ H2 = H ∧ J2 = J ∧ ro2 = ro) ∨
  (0 < n.toInt ∧ ¬ (Int32.ofInt 300 - dy).toInt < n.toInt ∧ dy2 = dy + n ∧ t2 = ck 16 (Int32.ofInt 99) t ∧ s2 = ck 16 (Int32.ofInt 99) s ∧ H2 = (fun i => ck 16 (Int32.ofInt 0) (H i)) ∧ J2 = (fun i => ck 16 (Int32.ofInt 0) (J i)) ∧ ro2 = upi ro 14 (Int32.ofInt (-9)))
theorem ct_days {dy n : Int32} {r t s : Nat → Int32} {H J : Nat → Nat → Int32} {ro : Nat → Int32} : cx_Ct 5 163 [.inr (.inl 0), .inl (.int n)] (h_xy dy r t s H J ro) (fun v h2 => ∃ (z : Int32) (r2 : Nat → Int32) (dy2 : Int32) (t2 s2 : Nat → Int32) (H2 J2 : Nat → Nat → Int32) (ro2 : Nat → Int32), v = some (.inl (.int z)) ∧ h2 = h_xy dy2 r2 t2 s2 H2 J2 ro2 ∧ ds_x n dy t s H J ro dy2 t2 s2 H2 J2 ro2) := by
  have kc0 : (Int32.ofInt 0).toInt = 0 := by decide +kernel
  have kc300 : (Int32.ofInt 300).toInt = 300 := by decide +kernel
  have kcm4 : (Int32.ofInt (-4)).toInt = -4 := by decide +kernel
  have kcm6 : (Int32.ofInt (-6)).toInt = -6 := by decide +kernel
  refine cx_Ct.of cg_163 (nL := 3) rfl rfl rfl ?_
  show cx_T 5 163 [0, 1, 2, 3, 4, 5, 6, 7, 8, 9, 10, 11, 12, 13, 14, 43] 0 ([some (.inr (.inl 0)), some (.inl (.int n)), none], [], h_xy dy r t s H J ro) _
  refine ex_iload_n cg_163 (ix := 0) (pc' := 1) rfl rfl rfl ?_
  refine ex_iconst cg_163 (ix := 1) (pc' := 2) rfl rfl ?_
  refine ex_sipush cg_163 (ix := 2) (pc' := 5) rfl rfl rfl ?_
  refine ex_aload_n cg_163 (ix := 3) (pc' := 6) rfl rfl rfl ?_
  refine ex_getfield cg_163 (ix := 4) (pc' := 9) rfl rfl rfl rfl rfl ?_
  refine ex_isub cg_163 (ix := 5) (pc' := 10) rfl rfl ?_
  refine ex_callS cg_163 (ix := 6) (pc' := 13) (As := [.inl (.int n), .inl (.int (Int32.ofInt 0)), .inl (.int ((Int32.ofInt 300) - dy))]) (r := []) rfl rfl rfl (ct_out (x := n) (a := Int32.ofInt 0) (b := (Int32.ofInt 300) - dy)) (by first | decide | omega) rfl rfl trivial rfl rfl (fun v h2 hq => ?_)
  obtain ⟨z, rfl, rfl, hz3⟩ := hq
  rcases hz3 with ⟨hz3, rfl⟩ | ⟨hz3, hz4, rfl⟩ | ⟨hz3, hz4, rfl⟩
  · show cx_T _ 163 _ 13 ([some (.inr (.inl 0)), some (.inl (.int n)), none], [.inl (.int (Int32.ofInt (-4)))], [(0, .inl (10, [.inr (.inl 1), .inr (.inl 2), .inr (.inl 15), .inr (.inl 21), .inr (.inl 43), .inr (.inl 68), .inr (.inl 77), .inr (.inl 87), .inr (.inl 101), .inr (.inl 107), .inr (.inl 113), .inl (.int dy)])), (1, .inr (.inl (0, 7, r))), (2, .inl (8, [.inr (.inl 3), .inr (.inl 4), .inr (.inl 5), .inr (.inl 10)])), (3, .inr (.inl (0, 16, t))), (4, .inr (.inl (0, 16, s))), (5, .inr (.inr (.inr (3, [6, 7, 8, 9])))), (6, .inr (.inl (0, 16, H 0))), (7, .inr (.inl (0, 16, H 1))), (8, .inr (.inl (0, 16, H 2))), (9, .inr (.inl (0, 16, H 3))), (10, .inr (.inr (.inr (3, [11, 12, 13, 14])))), (11, .inr (.inl (0, 16, J 0))), (12, .inr (.inl (0, 16, J 1))), (13, .inr (.inl (0, 16, J 2))), (14, .inr (.inl (0, 16, J 3))), (43, .inl (4, [.inr (.inl 2), .inr (.inl 44), .inr (.inl 45), .inr (.inl 46), .inr (.inl 47), .inr (.inl 48), .inr (.inl 49), .inr (.inl 50), .inr (.inl 57), .inr (.inl 58), .inr (.inl 66), .inr (.inl 67), .inl (.int (ro 12)), .inl (.int (ro 13)), .inl (.int (ro 14)), .inl (.int (ro 15)), .inl (.int (ro 16))]))]) _
    refine ex_istore_n cg_163 (ix := 7) (pc' := 14) (L' := [some (.inr (.inl 0)), some (.inl (.int n)), some (.inl (.int (Int32.ofInt (-4))))]) rfl rfl rfl rfl ?_
    refine ex_iload_n cg_163 (ix := 8) (pc' := 15) rfl rfl rfl ?_
    refine ex_if cg_163 (ix := 9) (t := 24) (pc' := 18) rfl rfl rfl (fun hb15 => ?_) (fun hb15 => ?_)
    · have hb15 : (Int32.ofInt (-4)).toInt = 0 := hb15
      exfalso; first | omega | exact absurd hb15 (by decide +kernel)
    · have hb15 : ¬ ((Int32.ofInt (-4)).toInt = 0) := hb15
      refine ex_aload_n cg_163 (ix := 10) (pc' := 19) rfl rfl rfl ?_
      refine ex_iload_n cg_163 (ix := 11) (pc' := 20) rfl rfl rfl ?_
      refine ex_callV cg_163 (ix := 12) (pc' := 23) (As := [.inl (.int (Int32.ofInt (-4)))]) (r := []) rfl rfl rfl (ct_xref (dy := dy) (x := Int32.ofInt (-4)) (r := r) (by decide +kernel) (by decide +kernel)) (by first | decide | omega) rfl rfl rfl ⟨rfl, rfl, trivial⟩ rfl rfl (fun v h2 hq => ?_)
      obtain ⟨rfl, r2, rfl⟩ := hq
      show cx_T _ 163 _ 23 ([some (.inr (.inl 0)), some (.inl (.int n)), some (.inl (.int (Int32.ofInt (-4))))], [.inl (.int (Int32.ofInt (-4)))], [(0, .inl (10, [.inr (.inl 1), .inr (.inl 2), .inr (.inl 15), .inr (.inl 21), .inr (.inl 43), .inr (.inl 68), .inr (.inl 77), .inr (.inl 87), .inr (.inl 101), .inr (.inl 107), .inr (.inl 113), .inl (.int dy)])), (1, .inr (.inl (0, 7, r2))), (2, .inl (8, [.inr (.inl 3), .inr (.inl 4), .inr (.inl 5), .inr (.inl 10)])), (3, .inr (.inl (0, 16, t))), (4, .inr (.inl (0, 16, s))), (5, .inr (.inr (.inr (3, [6, 7, 8, 9])))), (6, .inr (.inl (0, 16, H 0))), (7, .inr (.inl (0, 16, H 1))), (8, .inr (.inl (0, 16, H 2))), (9, .inr (.inl (0, 16, H 3))), (10, .inr (.inr (.inr (3, [11, 12, 13, 14])))), (11, .inr (.inl (0, 16, J 0))), (12, .inr (.inl (0, 16, J 1))), (13, .inr (.inl (0, 16, J 2))), (14, .inr (.inl (0, 16, J 3))), (43, .inl (4, [.inr (.inl 2), .inr (.inl 44), .inr (.inl 45), .inr (.inl 46), .inr (.inl 47), .inr (.inl 48), .inr (.inl 49), .inr (.inl 50), .inr (.inl 57), .inr (.inl 58), .inr (.inl 66), .inr (.inl 67), .inl (.int (ro 12)), .inl (.int (ro 13)), .inl (.int (ro 14)), .inl (.int (ro 15)), .inl (.int (ro 16))]))]) _
      refine ex_ireturn cg_163 (ix := 13) rfl ?_
      exact ⟨_, _, dy, t, s, H, J, ro, rfl, rfl, Or.inl ⟨by omega, rfl, rfl, rfl, rfl, rfl, rfl⟩⟩
  · show cx_T _ 163 _ 13 ([some (.inr (.inl 0)), some (.inl (.int n)), none], [.inl (.int (Int32.ofInt (-6)))], [(0, .inl (10, [.inr (.inl 1), .inr (.inl 2), .inr (.inl 15), .inr (.inl 21), .inr (.inl 43), .inr (.inl 68), .inr (.inl 77), .inr (.inl 87), .inr (.inl 101), .inr (.inl 107), .inr (.inl 113), .inl (.int dy)])), (1, .inr (.inl (0, 7, r))), (2, .inl (8, [.inr (.inl 3), .inr (.inl 4), .inr (.inl 5), .inr (.inl 10)])), (3, .inr (.inl (0, 16, t))), (4, .inr (.inl (0, 16, s))), (5, .inr (.inr (.inr (3, [6, 7, 8, 9])))), (6, .inr (.inl (0, 16, H 0))), (7, .inr (.inl (0, 16, H 1))), (8, .inr (.inl (0, 16, H 2))), (9, .inr (.inl (0, 16, H 3))), (10, .inr (.inr (.inr (3, [11, 12, 13, 14])))), (11, .inr (.inl (0, 16, J 0))), (12, .inr (.inl (0, 16, J 1))), (13, .inr (.inl (0, 16, J 2))), (14, .inr (.inl (0, 16, J 3))), (43, .inl (4, [.inr (.inl 2), .inr (.inl 44), .inr (.inl 45), .inr (.inl 46), .inr (.inl 47), .inr (.inl 48), .inr (.inl 49), .inr (.inl 50), .inr (.inl 57), .inr (.inl 58), .inr (.inl 66), .inr (.inl 67), .inl (.int (ro 12)), .inl (.int (ro 13)), .inl (.int (ro 14)), .inl (.int (ro 15)), .inl (.int (ro 16))]))]) _
    refine ex_istore_n cg_163 (ix := 7) (pc' := 14) (L' := [some (.inr (.inl 0)), some (.inl (.int n)), some (.inl (.int (Int32.ofInt (-6))))]) rfl rfl rfl rfl ?_
    refine ex_iload_n cg_163 (ix := 8) (pc' := 15) rfl rfl rfl ?_
    refine ex_if cg_163 (ix := 9) (t := 24) (pc' := 18) rfl rfl rfl (fun hb15 => ?_) (fun hb15 => ?_)
    · have hb15 : (Int32.ofInt (-6)).toInt = 0 := hb15
      exfalso; first | omega | exact absurd hb15 (by decide +kernel)
    · have hb15 : ¬ ((Int32.ofInt (-6)).toInt = 0) := hb15
      refine ex_aload_n cg_163 (ix := 10) (pc' := 19) rfl rfl rfl ?_
      refine ex_iload_n cg_163 (ix := 11) (pc' := 20) rfl rfl rfl ?_
      refine ex_callV cg_163 (ix := 12) (pc' := 23) (As := [.inl (.int (Int32.ofInt (-6)))]) (r := []) rfl rfl rfl (ct_xref (dy := dy) (x := Int32.ofInt (-6)) (r := r) (by decide +kernel) (by decide +kernel)) (by first | decide | omega) rfl rfl rfl ⟨rfl, rfl, trivial⟩ rfl rfl (fun v h2 hq => ?_)
      obtain ⟨rfl, r2, rfl⟩ := hq
      show cx_T _ 163 _ 23 ([some (.inr (.inl 0)), some (.inl (.int n)), some (.inl (.int (Int32.ofInt (-6))))], [.inl (.int (Int32.ofInt (-6)))], [(0, .inl (10, [.inr (.inl 1), .inr (.inl 2), .inr (.inl 15), .inr (.inl 21), .inr (.inl 43), .inr (.inl 68), .inr (.inl 77), .inr (.inl 87), .inr (.inl 101), .inr (.inl 107), .inr (.inl 113), .inl (.int dy)])), (1, .inr (.inl (0, 7, r2))), (2, .inl (8, [.inr (.inl 3), .inr (.inl 4), .inr (.inl 5), .inr (.inl 10)])), (3, .inr (.inl (0, 16, t))), (4, .inr (.inl (0, 16, s))), (5, .inr (.inr (.inr (3, [6, 7, 8, 9])))), (6, .inr (.inl (0, 16, H 0))), (7, .inr (.inl (0, 16, H 1))), (8, .inr (.inl (0, 16, H 2))), (9, .inr (.inl (0, 16, H 3))), (10, .inr (.inr (.inr (3, [11, 12, 13, 14])))), (11, .inr (.inl (0, 16, J 0))), (12, .inr (.inl (0, 16, J 1))), (13, .inr (.inl (0, 16, J 2))), (14, .inr (.inl (0, 16, J 3))), (43, .inl (4, [.inr (.inl 2), .inr (.inl 44), .inr (.inl 45), .inr (.inl 46), .inr (.inl 47), .inr (.inl 48), .inr (.inl 49), .inr (.inl 50), .inr (.inl 57), .inr (.inl 58), .inr (.inl 66), .inr (.inl 67), .inl (.int (ro 12)), .inl (.int (ro 13)), .inl (.int (ro 14)), .inl (.int (ro 15)), .inl (.int (ro 16))]))]) _
      refine ex_ireturn cg_163 (ix := 13) rfl ?_
      exact ⟨_, _, dy, t, s, H, J, ro, rfl, rfl, Or.inl ⟨by omega, rfl, rfl, rfl, rfl, rfl, rfl⟩⟩
  · show cx_T _ 163 _ 13 ([some (.inr (.inl 0)), some (.inl (.int n)), none], [.inl (.int (Int32.ofInt 0))], [(0, .inl (10, [.inr (.inl 1), .inr (.inl 2), .inr (.inl 15), .inr (.inl 21), .inr (.inl 43), .inr (.inl 68), .inr (.inl 77), .inr (.inl 87), .inr (.inl 101), .inr (.inl 107), .inr (.inl 113), .inl (.int dy)])), (1, .inr (.inl (0, 7, r))), (2, .inl (8, [.inr (.inl 3), .inr (.inl 4), .inr (.inl 5), .inr (.inl 10)])), (3, .inr (.inl (0, 16, t))), (4, .inr (.inl (0, 16, s))), (5, .inr (.inr (.inr (3, [6, 7, 8, 9])))), (6, .inr (.inl (0, 16, H 0))), (7, .inr (.inl (0, 16, H 1))), (8, .inr (.inl (0, 16, H 2))), (9, .inr (.inl (0, 16, H 3))), (10, .inr (.inr (.inr (3, [11, 12, 13, 14])))), (11, .inr (.inl (0, 16, J 0))), (12, .inr (.inl (0, 16, J 1))), (13, .inr (.inl (0, 16, J 2))), (14, .inr (.inl (0, 16, J 3))), (43, .inl (4, [.inr (.inl 2), .inr (.inl 44), .inr (.inl 45), .inr (.inl 46), .inr (.inl 47), .inr (.inl 48), .inr (.inl 49), .inr (.inl 50), .inr (.inl 57), .inr (.inl 58), .inr (.inl 66), .inr (.inl 67), .inl (.int (ro 12)), .inl (.int (ro 13)), .inl (.int (ro 14)), .inl (.int (ro 15)), .inl (.int (ro 16))]))]) _
    refine ex_istore_n cg_163 (ix := 7) (pc' := 14) (L' := [some (.inr (.inl 0)), some (.inl (.int n)), some (.inl (.int (Int32.ofInt 0)))]) rfl rfl rfl rfl ?_
    refine ex_iload_n cg_163 (ix := 8) (pc' := 15) rfl rfl rfl ?_
    refine ex_if cg_163 (ix := 9) (t := 24) (pc' := 18) rfl rfl rfl (fun hb15 => ?_) (fun hb15 => ?_)
    · have hb15 : (Int32.ofInt 0).toInt = 0 := hb15
      refine ex_iload_n cg_163 (ix := 14) (pc' := 25) rfl rfl rfl ?_
      refine ex_if cg_163 (ix := 15) (t := 52) (pc' := 28) rfl rfl rfl (fun hb25 => ?_) (fun hb25 => ?_)
      · have hb25 : n.toInt ≤ 0 := hb25
        refine ex_aload_n cg_163 (ix := 28) (pc' := 53) rfl rfl rfl ?_
        refine ex_getfield cg_163 (ix := 29) (pc' := 56) rfl rfl rfl rfl rfl ?_
        refine ex_ireturn cg_163 (ix := 30) rfl ?_
        exact ⟨_, r, dy, t, s, H, J, ro, rfl, rfl, Or.inl ⟨by omega, rfl, rfl, rfl, rfl, rfl, rfl⟩⟩
      · have hb25 : ¬ (n.toInt ≤ 0) := hb25
        refine ex_aload_n cg_163 (ix := 16) (pc' := 29) rfl rfl rfl ?_
        refine ex_dup cg_163 (ix := 17) (pc' := 30) rfl rfl rfl ?_
        refine ex_getfield cg_163 (ix := 18) (pc' := 33) rfl rfl rfl rfl rfl ?_
        refine ex_iload_n cg_163 (ix := 19) (pc' := 34) rfl rfl rfl ?_
        refine ex_iadd cg_163 (ix := 20) (pc' := 35) rfl rfl ?_
        refine ex_putfield cg_163 (ix := 21) (pc' := 38) (h' := [(0, .inl (10, [.inr (.inl 1), .inr (.inl 2), .inr (.inl 15), .inr (.inl 21), .inr (.inl 43), .inr (.inl 68), .inr (.inl 77), .inr (.inl 87), .inr (.inl 101), .inr (.inl 107), .inr (.inl 113), .inl (.int (dy + n))])), (1, .inr (.inl (0, 7, r))), (2, .inl (8, [.inr (.inl 3), .inr (.inl 4), .inr (.inl 5), .inr (.inl 10)])), (3, .inr (.inl (0, 16, t))), (4, .inr (.inl (0, 16, s))), (5, .inr (.inr (.inr (3, [6, 7, 8, 9])))), (6, .inr (.inl (0, 16, H 0))), (7, .inr (.inl (0, 16, H 1))), (8, .inr (.inl (0, 16, H 2))), (9, .inr (.inl (0, 16, H 3))), (10, .inr (.inr (.inr (3, [11, 12, 13, 14])))), (11, .inr (.inl (0, 16, J 0))), (12, .inr (.inl (0, 16, J 1))), (13, .inr (.inl (0, 16, J 2))), (14, .inr (.inl (0, 16, J 3))), (43, .inl (4, [.inr (.inl 2), .inr (.inl 44), .inr (.inl 45), .inr (.inl 46), .inr (.inl 47), .inr (.inl 48), .inr (.inl 49), .inr (.inl 50), .inr (.inl 57), .inr (.inl 58), .inr (.inl 66), .inr (.inl 67), .inl (.int (ro 12)), .inl (.int (ro 13)), .inl (.int (ro 14)), .inl (.int (ro 15)), .inl (.int (ro 16))]))]) rfl rfl rfl rfl rfl rfl rfl rfl ?_
        refine ex_aload_n cg_163 (ix := 22) (pc' := 39) rfl rfl rfl ?_
        refine ex_getfield cg_163 (ix := 23) (pc' := 42) rfl rfl rfl rfl rfl ?_
        refine ex_callV cg_163 (ix := 24) (pc' := 45) (As := []) (r := []) rfl rfl rfl (ct_fg (t := t) (s := s) (H := H) (J := J)) (by first | decide | omega) rfl rfl rfl ⟨rfl, rfl, rfl, rfl, rfl, rfl, rfl, rfl, rfl, rfl, rfl, rfl, rfl, trivial⟩ rfl rfl (fun v h2 hq => ?_)
        obtain ⟨rfl, rfl⟩ := hq
        show cx_T _ 163 _ 45 ([some (.inr (.inl 0)), some (.inl (.int n)), some (.inl (.int (Int32.ofInt 0)))], [], [(0, .inl (10, [.inr (.inl 1), .inr (.inl 2), .inr (.inl 15), .inr (.inl 21), .inr (.inl 43), .inr (.inl 68), .inr (.inl 77), .inr (.inl 87), .inr (.inl 101), .inr (.inl 107), .inr (.inl 113), .inl (.int (dy + n))])), (1, .inr (.inl (0, 7, r))), (2, .inl (8, [.inr (.inl 3), .inr (.inl 4), .inr (.inl 5), .inr (.inl 10)])), (3, .inr (.inl (0, 16, ck 16 (Int32.ofInt 99) t))), (4, .inr (.inl (0, 16, ck 16 (Int32.ofInt 99) s))), (5, .inr (.inr (.inr (3, [6, 7, 8, 9])))), (6, .inr (.inl (0, 16, ck 16 (Int32.ofInt 0) (H 0)))), (7, .inr (.inl (0, 16, ck 16 (Int32.ofInt 0) (H 1)))), (8, .inr (.inl (0, 16, ck 16 (Int32.ofInt 0) (H 2)))), (9, .inr (.inl (0, 16, ck 16 (Int32.ofInt 0) (H 3)))), (10, .inr (.inr (.inr (3, [11, 12, 13, 14])))), (11, .inr (.inl (0, 16, ck 16 (Int32.ofInt 0) (J 0)))), (12, .inr (.inl (0, 16, ck 16 (Int32.ofInt 0) (J 1)))), (13, .inr (.inl (0, 16, ck 16 (Int32.ofInt 0) (J 2)))), (14, .inr (.inl (0, 16, ck 16 (Int32.ofInt 0) (J 3)))), (43, .inl (4, [.inr (.inl 2), .inr (.inl 44), .inr (.inl 45), .inr (.inl 46), .inr (.inl 47), .inr (.inl 48), .inr (.inl 49), .inr (.inl 50), .inr (.inl 57), .inr (.inl 58), .inr (.inl 66), .inr (.inl 67), .inl (.int (ro 12)), .inl (.int (ro 13)), .inl (.int (ro 14)), .inl (.int (ro 15)), .inl (.int (ro 16))]))]) _
        refine ex_aload_n cg_163 (ix := 25) (pc' := 46) rfl rfl rfl ?_
        refine ex_getfield cg_163 (ix := 26) (pc' := 49) rfl rfl rfl rfl rfl ?_
        refine ex_callV cg_163 (ix := 27) (pc' := 52) (As := []) (r := []) rfl rfl rfl (ct_fp (ro := ro)) (by first | decide | omega) rfl rfl rfl ⟨rfl, trivial⟩ rfl rfl (fun v h2 hq => ?_)
        obtain ⟨rfl, rfl⟩ := hq
        show cx_T _ 163 _ 52 ([some (.inr (.inl 0)), some (.inl (.int n)), some (.inl (.int (Int32.ofInt 0)))], [], [(0, .inl (10, [.inr (.inl 1), .inr (.inl 2), .inr (.inl 15), .inr (.inl 21), .inr (.inl 43), .inr (.inl 68), .inr (.inl 77), .inr (.inl 87), .inr (.inl 101), .inr (.inl 107), .inr (.inl 113), .inl (.int (dy + n))])), (1, .inr (.inl (0, 7, r))), (2, .inl (8, [.inr (.inl 3), .inr (.inl 4), .inr (.inl 5), .inr (.inl 10)])), (3, .inr (.inl (0, 16, ck 16 (Int32.ofInt 99) t))), (4, .inr (.inl (0, 16, ck 16 (Int32.ofInt 99) s))), (5, .inr (.inr (.inr (3, [6, 7, 8, 9])))), (6, .inr (.inl (0, 16, ck 16 (Int32.ofInt 0) (H 0)))), (7, .inr (.inl (0, 16, ck 16 (Int32.ofInt 0) (H 1)))), (8, .inr (.inl (0, 16, ck 16 (Int32.ofInt 0) (H 2)))), (9, .inr (.inl (0, 16, ck 16 (Int32.ofInt 0) (H 3)))), (10, .inr (.inr (.inr (3, [11, 12, 13, 14])))), (11, .inr (.inl (0, 16, ck 16 (Int32.ofInt 0) (J 0)))), (12, .inr (.inl (0, 16, ck 16 (Int32.ofInt 0) (J 1)))), (13, .inr (.inl (0, 16, ck 16 (Int32.ofInt 0) (J 2)))), (14, .inr (.inl (0, 16, ck 16 (Int32.ofInt 0) (J 3)))), (43, .inl (4, [.inr (.inl 2), .inr (.inl 44), .inr (.inl 45), .inr (.inl 46), .inr (.inl 47), .inr (.inl 48), .inr (.inl 49), .inr (.inl 50), .inr (.inl 57), .inr (.inl 58), .inr (.inl 66), .inr (.inl 67), .inl (.int (ro 12)), .inl (.int (ro 13)), .inl (.int (Int32.ofInt (-9))), .inl (.int (ro 15)), .inl (.int (ro 16))]))]) _
        refine ex_aload_n cg_163 (ix := 28) (pc' := 53) rfl rfl rfl ?_
        refine ex_getfield cg_163 (ix := 29) (pc' := 56) rfl rfl rfl rfl rfl ?_
        refine ex_ireturn cg_163 (ix := 30) rfl ?_
        exact ⟨_, r, dy + n, ck 16 (Int32.ofInt 99) t, ck 16 (Int32.ofInt 99) s, (fun i => ck 16 (Int32.ofInt 0) (H i)), (fun i => ck 16 (Int32.ofInt 0) (J i)), upi ro 14 (Int32.ofInt (-9)), rfl, rfl, Or.inr ⟨by omega, by omega, rfl, rfl, rfl, rfl, rfl, rfl⟩⟩
    · have hb15 : ¬ ((Int32.ofInt 0).toInt = 0) := hb15
      exfalso; first | omega | exact absurd hb15 (by decide +kernel)
end
