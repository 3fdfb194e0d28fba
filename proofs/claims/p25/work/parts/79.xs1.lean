noncomputable section
theorem cg_66 : cx_G 66 tb_66 TbX6 (some .int) := cx_G.of gok_66
theorem cg_71 : cx_G 71 tb_71 TbX6 (some .long) := cx_G.of gok_71
theorem cg_72 : cx_G 72 tb_72 TbX6 (some .int) := cx_G.of gok_72
theorem cg_73 : cx_G 73 tb_73 TbX6 (some .int) := cx_G.of gok_73
theorem cg_74 : cx_G 74 tb_74 TbX6 (some .int) := cx_G.of gok_74
theorem cg_75 : cx_G 75 tb_75 TbX6 none := cx_G.of gok_75
theorem cg_76 : cx_G 76 tb_76 TbX6 none := cx_G.of gok_76
theorem cg_171 : cx_G 171 tb_171 TbX10 (some .boolean) := cx_G.of gok_171
theorem cg_173 : cx_G 173 tb_173 TbX10 (some .int) := cx_G.of gok_173
theorem cg_145 : cx_G 145 tb_145 TbX10 (some .int) := cx_G.of gok_145
theorem cg_147 : cx_G 147 tb_147 TbX10 (some .int) := cx_G.of gok_147
theorem cg_148 : cx_G 148 tb_148 TbX10 (some .int) := cx_G.of gok_148
theorem cx_cmp (x y : Int64) : ((lg_cmp x y).toInt = 1 ∧ y.toInt < x.toInt) ∨ ((lg_cmp x y).toInt = 0 ∧ x = y ∧ x.toInt = y.toInt) ∨ ((lg_cmp x y).toInt = -1 ∧ x.toInt < y.toInt) := by
  rcases (show x.toInt < y.toInt ∨ x.toInt = y.toInt ∨ y.toInt < x.toInt by omega) with q | q | q
  · have e1 : lg_cmp x y = -1 := by
      unfold lg_cmp
      rw [if_neg (by rw [gt_iff_lt, Int64.lt_iff_toInt_lt]; omega), if_neg (by rw [← Int64.toInt_inj]; omega)]
    rw [e1]; exact Or.inr (Or.inr ⟨by decide, q⟩)
  · have e1 : lg_cmp x y = 0 := by
      unfold lg_cmp
      rw [if_neg (by rw [gt_iff_lt, Int64.lt_iff_toInt_lt]; omega), if_pos (by rw [← Int64.toInt_inj]; omega)]
    rw [e1]; exact Or.inr (Or.inl ⟨by decide, Int64.toInt_inj.mp q, q⟩)
  · have e1 : lg_cmp x y = 1 := by
      unfold lg_cmp
      rw [if_pos (by rw [gt_iff_lt, Int64.lt_iff_toInt_lt]; omega)]
    rw [e1]; exact Or.inl ⟨by decide, q⟩
theorem cx_mulL {x y : Int64} (h1 : -9223372036854775808 ≤ x.toInt * y.toInt) (h2 : x.toInt * y.toInt ≤ 9223372036854775807) : (x * y).toInt = x.toInt * y.toInt := by rw [Int64.toInt_mul]; exact ab_bm64 h1 h2
theorem cx_addL {x y : Int64} (h1 : -9223372036854775808 ≤ x.toInt + y.toInt) (h2 : x.toInt + y.toInt ≤ 9223372036854775807) : (x + y).toInt = x.toInt + y.toInt := by rw [Int64.toInt_add]; exact ab_bm64 h1 h2
/-- the sum of the first k -/
def sumL (f : Nat → Int64) : Nat → Int64
  | 0 => Int64.ofNat 0
  | k + 1 => sumL f k + f k
theorem sumL_E {f g : Nat → Int64} : ∀ k : Nat, (∀ x : Nat, x < k → f x = g x) → sumL f k = sumL g k
  | 0, _ => rfl
  | k + 1, h => by rw [sumL, sumL, sumL_E k (fun x hx => h x (by omega)), h k (by omega)]
/-- a row of which the first k are made -/
def rowU {α : Type} (F g : Nat → α) (k : Nat) : Nat → α := fun x => if x < k then F x else g x
theorem rowU_0 {α : Type} {F g : Nat → α} : rowU F g 0 = g := by
  funext x
  unfold rowU
  rw [if_neg (by omega)]
theorem rowU_L {F g : Nat → Int64} {k : Nat} {v : Int64} (h : v = F k) : vp_updL (rowU F g k) k v = rowU F g (k + 1) := by
  funext x
  unfold vp_updL rowU
  by_cases q : x = k
  · rw [if_pos q, if_pos (by omega), h, q]
  · rw [if_neg q]
    by_cases q2 : x < k
    · rw [if_pos q2, if_pos (by omega)]
    · rw [if_neg q2, if_neg (by omega)]
theorem rowU_I {F g : Nat → Int32} {k : Nat} {v : Int32} (h : v = F k) : upd (rowU F g k) k v = rowU F g (k + 1) := by
  funext x
  unfold upd rowU
  by_cases q : x = k
  · rw [if_pos q, if_pos (by omega), h, q]
  · rw [if_neg q]
    by_cases q2 : x < k
    · rw [if_pos q2, if_pos (by omega)]
    · rw [if_neg q2, if_neg (by omega)]
theorem rowU_in {α : Type} {F g : Nat → α} {k x : Nat} (h : x < k) : rowU F g k x = F x := by
  unfold rowU
  rw [if_pos h]
/-- a minute's drift -/
def drF (g : Nat → Int64) (dl ds dr : Int32) (x : Nat) : Int64 := (if 0 < x then dr.toInt64 * g (x - 1) else dl.toInt64 * g x) + ds.toInt64 * g x + (if x < 31 then dl.toInt64 * g (x + 1) else dr.toInt64 * g x)
theorem drF_E {f g : Nat → Int64} {dl ds dr : Int32} (h : ∀ y : Nat, y < 32 → f y = g y) {x : Nat} (hx : x < 32) : drF f dl ds dr x = drF g dl ds dr x := by
  unfold drF
  rw [h x hx, h (x - 1) (by omega)]
  by_cases q : x < 31
  · rw [h (x + 1) (by omega)]
  · rw [if_neg q, if_neg q]
/-- a look -/
def lkF (f : Nat → Int64) (p q : Int32) (x : Nat) : Int64 := f x * (if (x : Int) = p.toInt then (Int32.ofInt 8 - q).toInt64 else (Int32.ofInt 8).toInt64)
theorem lkF_E {f g : Nat → Int64} {p q : Int32} {x : Nat} (h : f x = g x) : lkF f p q x = lkF g p q x := by
  unfold lkF
  rw [h]
theorem cpy_in {α : Type} {f g : Nat → α} {x : Nat} (hx : x < 32) : va_cpy f g 0 0 (Int32.ofInt 32).toNatClampNeg x = f x := by
  unfold va_cpy
  rw [if_pos ⟨Nat.zero_le _, by rw [show (Int32.ofInt 32).toNatClampNeg = 32 by decide +kernel]; omega⟩]
  rw [Nat.zero_add, Nat.sub_zero]
def vs_77 (bf : Int64) (dl ds dr md bo : Int32) : List cx_V := [.inr (.inl 78), .inr (.inl 79), .inr (.inl 80), .inr (.inl 81), .inr (.inl 85), .inr (.inl 86), .inl (.long bf), .inl (.int dl), .inl (.int ds), .inl (.int dr), .inl (.int md), .inl (.int bo)]
theorem tx_loop {d : Nat} {bf : Int64} {dl ds dr md bo : Int32} {f : Nat → Int64} {P : Option cx_V → cx_H → Prop}  (hP : P (some (.inl (.long (sumL f 32)))) ([(77, .inl (6, [.inr (.inl 78), .inr (.inl 79), .inr (.inl 80), .inr (.inl 81), .inr (.inl 85), .inr (.inl 86), .inl (.long bf), .inl (.int dl), .inl (.int ds), .inl (.int dr), .inl (.int md), .inl (.int bo)])), (79, .inr (.inr (.inl (32, f))))])) :
    ∀ (m k : Nat), k + m = 32 → ∀ i : Int32, i.toInt = (k : Int) → cx_T d 71 [77, 79] 4 ([some (.inr (.inl 77)), some (.inl (.long (sumL f k))), none, some (.inl (.int i))], [], [(77, .inl (6, [.inr (.inl 78), .inr (.inl 79), .inr (.inl 80), .inr (.inl 81), .inr (.inl 85), .inr (.inl 86), .inl (.long bf), .inl (.int dl), .inl (.int ds), .inl (.int dr), .inl (.int md), .inl (.int bo)])), (79, .inr (.inr (.inl (32, f))))]) P := by
  have kc0 : (Int32.ofInt 0).toInt = 0 := by decide +kernel
  have kc1 : (Int32.ofInt 1).toInt = 1 := by decide +kernel
  have kc32 : (Int32.ofInt 32).toInt = 32 := by decide +kernel
  intro m
  induction m with
  | zero =>
    intro k hk i hi 
    have ek : k = 32 := by omega
    subst ek
    refine ex_iload_n cg_71 (ix := 4) (pc' := 5) rfl rfl rfl ?_
    refine ex_bipush cg_71 (ix := 5) (pc' := 7) rfl rfl rfl ?_
    refine ex_icmp cg_71 (ix := 6) (t := 25) (pc' := 10) rfl rfl rfl (fun hb7 => ?_) (fun hb7 => ?_)
    · have hb7 : (Int32.ofInt 32).toInt ≤ i.toInt := hb7
      refine ex_lload_n cg_71 (ix := 16) (pc' := 26) rfl rfl rfl ?_
      refine ex_lreturn cg_71 (ix := 17) rfl ?_
      exact hP
    · have hb7 : ¬ ((Int32.ofInt 32).toInt ≤ i.toInt) := hb7
      exfalso; first | omega | exact absurd hb7 (by decide +kernel)
  | succ m ih =>
    intro k hk i hi 
    have hik : i.toNatClampNeg = k := cx_clamp hi
    refine ex_iload_n cg_71 (ix := 4) (pc' := 5) rfl rfl rfl ?_
    refine ex_bipush cg_71 (ix := 5) (pc' := 7) rfl rfl rfl ?_
    refine ex_icmp cg_71 (ix := 6) (t := 25) (pc' := 10) rfl rfl rfl (fun hb7 => ?_) (fun hb7 => ?_)
    · have hb7 : (Int32.ofInt 32).toInt ≤ i.toInt := hb7
      exfalso; first | omega | exact absurd hb7 (by decide +kernel)
    · have hb7 : ¬ ((Int32.ofInt 32).toInt ≤ i.toInt) := hb7
      refine ex_lload_n cg_71 (ix := 7) (pc' := 11) rfl rfl rfl ?_
      refine ex_aload_n cg_71 (ix := 8) (pc' := 12) rfl rfl rfl ?_
      refine ex_getfield cg_71 (ix := 9) (pc' := 15) rfl rfl rfl rfl rfl ?_
      refine ex_iload_n cg_71 (ix := 10) (pc' := 16) rfl rfl rfl ?_
      refine ex_laload cg_71 (ix := 11) (pc' := 17) rfl rfl (by omega) (by omega) rfl ?_
      refine ex_ladd cg_71 (ix := 12) (pc' := 18) rfl rfl ?_
      refine ex_lstore_n cg_71 (ix := 13) (pc' := 19) (L' := [some (.inr (.inl 77)), some (.inl (.long ((sumL f k) + (f i.toNatClampNeg)))), none, some (.inl (.int i))]) rfl rfl rfl rfl ?_
      refine ex_iinc cg_71 (ix := 14) (pc' := 22) (L' := [some (.inr (.inl 77)), some (.inl (.long ((sumL f k) + (f i.toNatClampNeg)))), none, some (.inl (.int (i + Int32.ofInt 1)))]) rfl rfl rfl rfl rfl ?_
      refine ex_goto cg_71 (ix := 15) (pc' := 4) rfl rfl ?_
      rw [hik]
      exact ih (k + 1) (by omega) _ (by rw [cx_addc (by omega) (by omega)]; omega)
theorem ct_tot {bf : Int64} {dl ds dr md bo : Int32} {f : Nat → Int64} : cx_Ct 2 71 [.inr (.inl 77)] ([(77, .inl (6, [.inr (.inl 78), .inr (.inl 79), .inr (.inl 80), .inr (.inl 81), .inr (.inl 85), .inr (.inl 86), .inl (.long bf), .inl (.int dl), .inl (.int ds), .inl (.int dr), .inl (.int md), .inl (.int bo)])), (79, .inr (.inr (.inl (32, f))))]) (fun v h2 => v = some (.inl (.long (sumL f 32))) ∧ h2 = [(77, .inl (6, [.inr (.inl 78), .inr (.inl 79), .inr (.inl 80), .inr (.inl 81), .inr (.inl 85), .inr (.inl 86), .inl (.long bf), .inl (.int dl), .inl (.int ds), .inl (.int dr), .inl (.int md), .inl (.int bo)])), (79, .inr (.inr (.inl (32, f))))]) := by
  refine cx_Ct.of cg_71 (nL := 4) rfl rfl rfl ?_
  show cx_T 2 71 [77, 79] 0 ([some (.inr (.inl 77)), none, none, none], [], [(77, .inl (6, [.inr (.inl 78), .inr (.inl 79), .inr (.inl 80), .inr (.inl 81), .inr (.inl 85), .inr (.inl 86), .inl (.long bf), .inl (.int dl), .inl (.int ds), .inl (.int dr), .inl (.int md), .inl (.int bo)])), (79, .inr (.inr (.inl (32, f))))]) _
  refine ex_lconst cg_71 (ix := 0) (pc' := 1) rfl rfl ?_
  refine ex_lstore_n cg_71 (ix := 1) (pc' := 2) (L' := [some (.inr (.inl 77)), some (.inl (.long (Int64.ofNat 0))), none, none]) rfl rfl rfl rfl ?_
  refine ex_iconst cg_71 (ix := 2) (pc' := 3) rfl rfl ?_
  refine ex_istore_n cg_71 (ix := 3) (pc' := 4) (L' := [some (.inr (.inl 77)), some (.inl (.long (Int64.ofNat 0))), none, some (.inl (.int (Int32.ofInt 0)))]) rfl rfl rfl rfl ?_
  exact tx_loop ⟨rfl, rfl⟩ 32 0 rfl _ (by decide +kernel)
def fltP (sm : Int64) (md more z : Int32) : Prop := (sm = Int64.ofNat 0 ∧ z = Int32.ofInt (-5)) ∨ (¬ sm = Int64.ofNat 0 ∧ 10 < md.toInt + more.toInt ∧ z = Int32.ofInt (-6)) ∨ (¬ sm = Int64.ofNat 0 ∧ md.toInt + more.toInt ≤ 10 ∧ z = Int32.ofInt 0)
theorem ct_flt {bf : Int64} {dl ds dr md bo : Int32} {more : Int32} {f : Nat → Int64} (hm0 : 0 ≤ md.toInt) (hm1 : md.toInt ≤ 1000) (hm2 : 0 ≤ more.toInt) (hm3 : more.toInt ≤ 1000) : cx_Ct 3 72 [.inr (.inl 77), .inl (.int more)] ([(77, .inl (6, [.inr (.inl 78), .inr (.inl 79), .inr (.inl 80), .inr (.inl 81), .inr (.inl 85), .inr (.inl 86), .inl (.long bf), .inl (.int dl), .inl (.int ds), .inl (.int dr), .inl (.int md), .inl (.int bo)])), (79, .inr (.inr (.inl (32, f))))]) (fun v h2 => ∃ z : Int32, v = some (.inl (.int z)) ∧ h2 = [(77, .inl (6, [.inr (.inl 78), .inr (.inl 79), .inr (.inl 80), .inr (.inl 81), .inr (.inl 85), .inr (.inl 86), .inl (.long bf), .inl (.int dl), .inl (.int ds), .inl (.int dr), .inl (.int md), .inl (.int bo)])), (79, .inr (.inr (.inl (32, f))))] ∧ fltP (sumL f 32) md more z) := by
  have kcm5 : (Int32.ofInt (-5)).toInt = -5 := by decide +kernel
  have kc10 : (Int32.ofInt 10).toInt = 10 := by decide +kernel
  have kcm6 : (Int32.ofInt (-6)).toInt = -6 := by decide +kernel
  have kc0 : (Int32.ofInt 0).toInt = 0 := by decide +kernel
  have hadd : (md + more).toInt = md.toInt + more.toInt := cx_addc (by omega) (by omega)
  refine cx_Ct.of cg_72 (nL := 2) rfl rfl rfl ?_
  show cx_T 3 72 [77, 79] 0 ([some (.inr (.inl 77)), some (.inl (.int more))], [], [(77, .inl (6, [.inr (.inl 78), .inr (.inl 79), .inr (.inl 80), .inr (.inl 81), .inr (.inl 85), .inr (.inl 86), .inl (.long bf), .inl (.int dl), .inl (.int ds), .inl (.int dr), .inl (.int md), .inl (.int bo)])), (79, .inr (.inr (.inl (32, f))))]) _
  refine ex_aload_n cg_72 (ix := 0) (pc' := 1) rfl rfl rfl ?_
  refine ex_callV cg_72 (ix := 1) (pc' := 4) (As := []) (r := []) rfl rfl rfl (ct_tot (bf := bf) (dl := dl) (ds := ds) (dr := dr) (md := md) (bo := bo) (f := f)) (by first | decide | omega) rfl rfl rfl ⟨rfl, rfl, trivial⟩ rfl rfl (fun v h2 hq => ?_)
  obtain ⟨rfl, rfl⟩ := hq
  show cx_T _ 72 _ 4 ([some (.inr (.inl 77)), some (.inl (.int more))], [.inl (.long (sumL f 32))], [(77, .inl (6, [.inr (.inl 78), .inr (.inl 79), .inr (.inl 80), .inr (.inl 81), .inr (.inl 85), .inr (.inl 86), .inl (.long bf), .inl (.int dl), .inl (.int ds), .inl (.int dr), .inl (.int md), .inl (.int bo)])), (79, .inr (.inr (.inl (32, f))))]) _
  refine ex_lconst cg_72 (ix := 2) (pc' := 5) rfl rfl ?_
  refine ex_lcmp cg_72 (ix := 3) (pc' := 6) rfl rfl ?_
  have hlc5 := cx_cmp (sumL f 32) (Int64.ofNat 0)
  refine ex_if cg_72 (ix := 4) (t := 12) (pc' := 9) rfl rfl rfl (fun hb6 => ?_) (fun hb6 => ?_)
  · have hb6 : ¬ (lg_cmp (sumL f 32) (Int64.ofNat 0)).toInt = 0 := hb6
    refine ex_aload_n cg_72 (ix := 7) (pc' := 13) rfl rfl rfl ?_
    refine ex_getfield cg_72 (ix := 8) (pc' := 16) rfl rfl rfl rfl rfl ?_
    refine ex_iload_n cg_72 (ix := 9) (pc' := 17) rfl rfl rfl ?_
    refine ex_iadd cg_72 (ix := 10) (pc' := 18) rfl rfl ?_
    refine ex_bipush cg_72 (ix := 11) (pc' := 20) rfl rfl rfl ?_
    refine ex_icmp cg_72 (ix := 12) (t := 28) (pc' := 23) rfl rfl rfl (fun hb20 => ?_) (fun hb20 => ?_)
    · have hb20 : (md + more).toInt ≤ (Int32.ofInt 10).toInt := hb20
      refine ex_iconst cg_72 (ix := 15) (pc' := 29) rfl rfl ?_
      refine ex_ireturn cg_72 (ix := 16) rfl ?_
      exact ⟨_, rfl, rfl, Or.inr (Or.inr ⟨(fun q => by rcases hlc5 with q2 | q2 | q2 <;> first | omega | (rw [q] at q2; omega)), by rw [hadd] at hb20; omega, rfl⟩)⟩
    · have hb20 : ¬ ((md + more).toInt ≤ (Int32.ofInt 10).toInt) := hb20
      refine ex_bipush cg_72 (ix := 13) (pc' := 25) rfl rfl rfl ?_
      refine ex_goto cg_72 (ix := 14) (pc' := 29) rfl rfl ?_
      refine ex_ireturn cg_72 (ix := 16) rfl ?_
      exact ⟨_, rfl, rfl, Or.inr (Or.inl ⟨(fun q => by rcases hlc5 with q2 | q2 | q2 <;> first | omega | (rw [q] at q2; omega)), by rw [hadd] at hb20; omega, rfl⟩)⟩
  · have hb6 : ¬ (¬ (lg_cmp (sumL f 32) (Int64.ofNat 0)).toInt = 0) := hb6
    refine ex_bipush cg_72 (ix := 5) (pc' := 11) rfl rfl rfl ?_
    refine ex_ireturn cg_72 (ix := 6) rfl ?_
    refine ⟨_, rfl, rfl, Or.inl ⟨?_, rfl⟩⟩
    rcases hlc5 with q | q | q
    · omega
    · exact q.2.1
    · omega
theorem cy_loop79 {d : Nat} {bf : Int64} {dl ds dr md bo : Int32} {g t : Nat → Int64} {P : Option cx_V → cx_H → Prop}  (hP : P none ([(77, .inl (6, [.inr (.inl 78), .inr (.inl 79), .inr (.inl 80), .inr (.inl 81), .inr (.inl 85), .inr (.inl 86), .inl (.long bf), .inl (.int dl), .inl (.int ds), .inl (.int dr), .inl (.int md), .inl (.int bo)])), (80, .inr (.inr (.inl (32, g)))), (79, .inr (.inr (.inl (32, rowU (drF g dl ds dr) t 32))))])) :
    ∀ (m k : Nat), k + m = 32 → ∀ i : Int32, i.toInt = (k : Int) → ∀ (A B C D : Option cx_V), cx_T d 76 [77, 80, 79] 2 ([some (.inr (.inl 77)), some (.inr (.inl 79)), some (.inl (.int i)), A, B, C, D], [], [(77, .inl (6, [.inr (.inl 78), .inr (.inl 79), .inr (.inl 80), .inr (.inl 81), .inr (.inl 85), .inr (.inl 86), .inl (.long bf), .inl (.int dl), .inl (.int ds), .inl (.int dr), .inl (.int md), .inl (.int bo)])), (80, .inr (.inr (.inl (32, g)))), (79, .inr (.inr (.inl (32, rowU (drF g dl ds dr) t k))))]) P := by
  have kc0 : (Int32.ofInt 0).toInt = 0 := by decide +kernel
  have kc1 : (Int32.ofInt 1).toInt = 1 := by decide +kernel
  have kc31 : (Int32.ofInt 31).toInt = 31 := by decide +kernel
  have kc32 : (Int32.ofInt 32).toInt = 32 := by decide +kernel
  intro m
  induction m with
  | zero =>
    intro k hk i hi A B C D
    have ek : k = 32 := by omega
    subst ek
    refine ex_iload_n cg_76 (ix := 2) (pc' := 3) rfl rfl rfl ?_
    refine ex_bipush cg_76 (ix := 3) (pc' := 5) rfl rfl rfl ?_
    refine ex_icmp cg_76 (ix := 4) (t := 105) (pc' := 8) rfl rfl rfl (fun hb5 => ?_) (fun hb5 => ?_)
    · have hb5 : (Int32.ofInt 32).toInt ≤ i.toInt := hb5
      refine ex_return_ cg_76 (ix := 67) rfl ?_
      exact hP
    · have hb5 : ¬ ((Int32.ofInt 32).toInt ≤ i.toInt) := hb5
      exfalso; first | omega | exact absurd hb5 (by decide +kernel)
  | succ m ih =>
    intro k hk i hi A B C D
    have hik : i.toNatClampNeg = k := cx_clamp hi
    refine ex_iload_n cg_76 (ix := 2) (pc' := 3) rfl rfl rfl ?_
    refine ex_bipush cg_76 (ix := 3) (pc' := 5) rfl rfl rfl ?_
    refine ex_icmp cg_76 (ix := 4) (t := 105) (pc' := 8) rfl rfl rfl (fun hb5 => ?_) (fun hb5 => ?_)
    · have hb5 : (Int32.ofInt 32).toInt ≤ i.toInt := hb5
      exfalso; first | omega | exact absurd hb5 (by decide +kernel)
    · have hb5 : ¬ ((Int32.ofInt 32).toInt ≤ i.toInt) := hb5
      refine ex_iload_n cg_76 (ix := 5) (pc' := 9) rfl rfl rfl ?_
      refine ex_if cg_76 (ix := 6) (t := 29) (pc' := 12) rfl rfl rfl (fun hb9 => ?_) (fun hb9 => ?_)
      · have hb9 : i.toInt ≤ 0 := hb9
        refine ex_aload_n cg_76 (ix := 18) (pc' := 30) rfl rfl rfl ?_
        refine ex_getfield cg_76 (ix := 19) (pc' := 33) rfl rfl rfl rfl rfl ?_
        refine ex_i2l cg_76 (ix := 20) (pc' := 34) rfl rfl ?_
        refine ex_aload_n cg_76 (ix := 21) (pc' := 35) rfl rfl rfl ?_
        refine ex_getfield cg_76 (ix := 22) (pc' := 38) rfl rfl rfl rfl rfl ?_
        refine ex_iload_n cg_76 (ix := 23) (pc' := 39) rfl rfl rfl ?_
        refine ex_laload cg_76 (ix := 24) (pc' := 40) rfl rfl (by omega) (by omega) rfl ?_
        refine ex_lmul cg_76 (ix := 25) (pc' := 41) rfl rfl ?_
        refine ex_lstore_n cg_76 (ix := 26) (pc' := 42) (L' := [some (.inr (.inl 77)), some (.inr (.inl 79)), some (.inl (.int i)), some (.inl (.long ((Int32.toInt64 dl) * (g i.toNatClampNeg)))), none, C, D]) rfl rfl rfl rfl ?_
        refine ex_iload_n cg_76 (ix := 27) (pc' := 43) rfl rfl rfl ?_
        refine ex_bipush cg_76 (ix := 28) (pc' := 45) rfl rfl rfl ?_
        refine ex_icmp cg_76 (ix := 29) (t := 65) (pc' := 48) rfl rfl rfl (fun hb45 => ?_) (fun hb45 => ?_)
        · have hb45 : (Int32.ofInt 31).toInt ≤ i.toInt := hb45
          refine ex_aload_n cg_76 (ix := 41) (pc' := 66) rfl rfl rfl ?_
          refine ex_getfield cg_76 (ix := 42) (pc' := 69) rfl rfl rfl rfl rfl ?_
          refine ex_i2l cg_76 (ix := 43) (pc' := 70) rfl rfl ?_
          refine ex_aload_n cg_76 (ix := 44) (pc' := 71) rfl rfl rfl ?_
          refine ex_getfield cg_76 (ix := 45) (pc' := 74) rfl rfl rfl rfl rfl ?_
          refine ex_iload_n cg_76 (ix := 46) (pc' := 75) rfl rfl rfl ?_
          refine ex_laload cg_76 (ix := 47) (pc' := 76) rfl rfl (by omega) (by omega) rfl ?_
          refine ex_lmul cg_76 (ix := 48) (pc' := 77) rfl rfl ?_
          refine ex_lstore cg_76 (ix := 49) (pc' := 79) (L' := [some (.inr (.inl 77)), some (.inr (.inl 79)), some (.inl (.int i)), some (.inl (.long ((Int32.toInt64 dl) * (g i.toNatClampNeg)))), none, some (.inl (.long ((Int32.toInt64 dr) * (g i.toNatClampNeg)))), none]) rfl rfl rfl rfl ?_
          refine ex_aload_n cg_76 (ix := 50) (pc' := 80) rfl rfl rfl ?_
          refine ex_iload_n cg_76 (ix := 51) (pc' := 81) rfl rfl rfl ?_
          refine ex_lload_n cg_76 (ix := 52) (pc' := 82) rfl rfl rfl ?_
          refine ex_aload_n cg_76 (ix := 53) (pc' := 83) rfl rfl rfl ?_
          refine ex_getfield cg_76 (ix := 54) (pc' := 86) rfl rfl rfl rfl rfl ?_
          refine ex_i2l cg_76 (ix := 55) (pc' := 87) rfl rfl ?_
          refine ex_aload_n cg_76 (ix := 56) (pc' := 88) rfl rfl rfl ?_
          refine ex_getfield cg_76 (ix := 57) (pc' := 91) rfl rfl rfl rfl rfl ?_
          refine ex_iload_n cg_76 (ix := 58) (pc' := 92) rfl rfl rfl ?_
          refine ex_laload cg_76 (ix := 59) (pc' := 93) rfl rfl (by omega) (by omega) rfl ?_
          refine ex_lmul cg_76 (ix := 60) (pc' := 94) rfl rfl ?_
          refine ex_ladd cg_76 (ix := 61) (pc' := 95) rfl rfl ?_
          refine ex_lload cg_76 (ix := 62) (pc' := 97) rfl rfl rfl ?_
          refine ex_ladd cg_76 (ix := 63) (pc' := 98) rfl rfl ?_
          refine ex_lastore cg_76 (ix := 64) (pc' := 99) (h' := [(77, .inl (6, [.inr (.inl 78), .inr (.inl 79), .inr (.inl 80), .inr (.inl 81), .inr (.inl 85), .inr (.inl 86), .inl (.long bf), .inl (.int dl), .inl (.int ds), .inl (.int dr), .inl (.int md), .inl (.int bo)])), (80, .inr (.inr (.inl (32, g)))), (79, .inr (.inr (.inl (32, vp_updL (rowU (drF g dl ds dr) t k) i.toNatClampNeg ((((Int32.toInt64 dl) * (g i.toNatClampNeg)) + ((Int32.toInt64 ds) * (g i.toNatClampNeg))) + ((Int32.toInt64 dr) * (g i.toNatClampNeg)))))))]) rfl rfl (by omega) (by omega) rfl rfl ?_
          refine ex_iinc cg_76 (ix := 65) (pc' := 102) (L' := [some (.inr (.inl 77)), some (.inr (.inl 79)), some (.inl (.int (i + Int32.ofInt 1))), some (.inl (.long ((Int32.toInt64 dl) * (g i.toNatClampNeg)))), none, some (.inl (.long ((Int32.toInt64 dr) * (g i.toNatClampNeg)))), none]) rfl rfl rfl rfl rfl ?_
          refine ex_goto cg_76 (ix := 66) (pc' := 2) rfl rfl ?_
          have e1 : vp_updL (rowU (drF g dl ds dr) t k) i.toNatClampNeg ((((Int32.toInt64 dl) * (g i.toNatClampNeg)) + ((Int32.toInt64 ds) * (g i.toNatClampNeg))) + ((Int32.toInt64 dr) * (g i.toNatClampNeg))) = rowU (drF g dl ds dr) t (k + 1) := by
            rw [hik]
            refine rowU_L ?_
            unfold drF
            rw [if_neg (by omega), if_neg (by omega)]
          rw [e1]
          exact ih (k + 1) (by omega) _ (by rw [cx_addc (by omega) (by omega)]; omega) _ _ _ _
        · have hb45 : ¬ ((Int32.ofInt 31).toInt ≤ i.toInt) := hb45
          refine ex_aload_n cg_76 (ix := 30) (pc' := 49) rfl rfl rfl ?_
          refine ex_getfield cg_76 (ix := 31) (pc' := 52) rfl rfl rfl rfl rfl ?_
          refine ex_i2l cg_76 (ix := 32) (pc' := 53) rfl rfl ?_
          refine ex_aload_n cg_76 (ix := 33) (pc' := 54) rfl rfl rfl ?_
          refine ex_getfield cg_76 (ix := 34) (pc' := 57) rfl rfl rfl rfl rfl ?_
          refine ex_iload_n cg_76 (ix := 35) (pc' := 58) rfl rfl rfl ?_
          refine ex_iconst cg_76 (ix := 36) (pc' := 59) rfl rfl ?_
          refine ex_iadd cg_76 (ix := 37) (pc' := 60) rfl rfl ?_
          refine ex_laload cg_76 (ix := 38) (pc' := 61) rfl rfl (by rw [cx_addc (by omega) (by omega)]; omega) (by rw [cx_addc (by omega) (by omega)]; omega) rfl ?_
          refine ex_lmul cg_76 (ix := 39) (pc' := 62) rfl rfl ?_
          refine ex_goto cg_76 (ix := 40) (pc' := 77) rfl rfl ?_
          refine ex_lstore cg_76 (ix := 49) (pc' := 79) (L' := [some (.inr (.inl 77)), some (.inr (.inl 79)), some (.inl (.int i)), some (.inl (.long ((Int32.toInt64 dl) * (g i.toNatClampNeg)))), none, some (.inl (.long ((Int32.toInt64 dl) * (g (i + (Int32.ofInt 1)).toNatClampNeg)))), none]) rfl rfl rfl rfl ?_
          refine ex_aload_n cg_76 (ix := 50) (pc' := 80) rfl rfl rfl ?_
          refine ex_iload_n cg_76 (ix := 51) (pc' := 81) rfl rfl rfl ?_
          refine ex_lload_n cg_76 (ix := 52) (pc' := 82) rfl rfl rfl ?_
          refine ex_aload_n cg_76 (ix := 53) (pc' := 83) rfl rfl rfl ?_
          refine ex_getfield cg_76 (ix := 54) (pc' := 86) rfl rfl rfl rfl rfl ?_
          refine ex_i2l cg_76 (ix := 55) (pc' := 87) rfl rfl ?_
          refine ex_aload_n cg_76 (ix := 56) (pc' := 88) rfl rfl rfl ?_
          refine ex_getfield cg_76 (ix := 57) (pc' := 91) rfl rfl rfl rfl rfl ?_
          refine ex_iload_n cg_76 (ix := 58) (pc' := 92) rfl rfl rfl ?_
          refine ex_laload cg_76 (ix := 59) (pc' := 93) rfl rfl (by omega) (by omega) rfl ?_
          refine ex_lmul cg_76 (ix := 60) (pc' := 94) rfl rfl ?_
          refine ex_ladd cg_76 (ix := 61) (pc' := 95) rfl rfl ?_
          refine ex_lload cg_76 (ix := 62) (pc' := 97) rfl rfl rfl ?_
          refine ex_ladd cg_76 (ix := 63) (pc' := 98) rfl rfl ?_
          refine ex_lastore cg_76 (ix := 64) (pc' := 99) (h' := [(77, .inl (6, [.inr (.inl 78), .inr (.inl 79), .inr (.inl 80), .inr (.inl 81), .inr (.inl 85), .inr (.inl 86), .inl (.long bf), .inl (.int dl), .inl (.int ds), .inl (.int dr), .inl (.int md), .inl (.int bo)])), (80, .inr (.inr (.inl (32, g)))), (79, .inr (.inr (.inl (32, vp_updL (rowU (drF g dl ds dr) t k) i.toNatClampNeg ((((Int32.toInt64 dl) * (g i.toNatClampNeg)) + ((Int32.toInt64 ds) * (g i.toNatClampNeg))) + ((Int32.toInt64 dl) * (g (i + (Int32.ofInt 1)).toNatClampNeg)))))))]) rfl rfl (by omega) (by omega) rfl rfl ?_
          refine ex_iinc cg_76 (ix := 65) (pc' := 102) (L' := [some (.inr (.inl 77)), some (.inr (.inl 79)), some (.inl (.int (i + Int32.ofInt 1))), some (.inl (.long ((Int32.toInt64 dl) * (g i.toNatClampNeg)))), none, some (.inl (.long ((Int32.toInt64 dl) * (g (i + (Int32.ofInt 1)).toNatClampNeg)))), none]) rfl rfl rfl rfl rfl ?_
          refine ex_goto cg_76 (ix := 66) (pc' := 2) rfl rfl ?_
          have e1 : vp_updL (rowU (drF g dl ds dr) t k) i.toNatClampNeg ((((Int32.toInt64 dl) * (g i.toNatClampNeg)) + ((Int32.toInt64 ds) * (g i.toNatClampNeg))) + ((Int32.toInt64 dl) * (g (i + (Int32.ofInt 1)).toNatClampNeg))) = rowU (drF g dl ds dr) t (k + 1) := by
            have a2 : (i + Int32.ofInt 1).toNatClampNeg = k + 1 := cx_clamp (by rw [cx_addc (by omega) (by omega)]; omega)
            rw [hik, a2]
            refine rowU_L ?_
            unfold drF
            rw [if_neg (by omega), if_pos (by omega)]
          rw [e1]
          exact ih (k + 1) (by omega) _ (by rw [cx_addc (by omega) (by omega)]; omega) _ _ _ _
      · have hb9 : ¬ (i.toInt ≤ 0) := hb9
        refine ex_aload_n cg_76 (ix := 7) (pc' := 13) rfl rfl rfl ?_
        refine ex_getfield cg_76 (ix := 8) (pc' := 16) rfl rfl rfl rfl rfl ?_
        refine ex_i2l cg_76 (ix := 9) (pc' := 17) rfl rfl ?_
        refine ex_aload_n cg_76 (ix := 10) (pc' := 18) rfl rfl rfl ?_
        refine ex_getfield cg_76 (ix := 11) (pc' := 21) rfl rfl rfl rfl rfl ?_
        refine ex_iload_n cg_76 (ix := 12) (pc' := 22) rfl rfl rfl ?_
        refine ex_iconst cg_76 (ix := 13) (pc' := 23) rfl rfl ?_
        refine ex_isub cg_76 (ix := 14) (pc' := 24) rfl rfl ?_
        refine ex_laload cg_76 (ix := 15) (pc' := 25) rfl rfl (by rw [cx_subc (by omega) (by omega)]; omega) (by rw [cx_subc (by omega) (by omega)]; omega) rfl ?_
        refine ex_lmul cg_76 (ix := 16) (pc' := 26) rfl rfl ?_
        refine ex_goto cg_76 (ix := 17) (pc' := 41) rfl rfl ?_
        refine ex_lstore_n cg_76 (ix := 26) (pc' := 42) (L' := [some (.inr (.inl 77)), some (.inr (.inl 79)), some (.inl (.int i)), some (.inl (.long ((Int32.toInt64 dr) * (g (i - (Int32.ofInt 1)).toNatClampNeg)))), none, C, D]) rfl rfl rfl rfl ?_
        refine ex_iload_n cg_76 (ix := 27) (pc' := 43) rfl rfl rfl ?_
        refine ex_bipush cg_76 (ix := 28) (pc' := 45) rfl rfl rfl ?_
        refine ex_icmp cg_76 (ix := 29) (t := 65) (pc' := 48) rfl rfl rfl (fun hb45 => ?_) (fun hb45 => ?_)
        · have hb45 : (Int32.ofInt 31).toInt ≤ i.toInt := hb45
          refine ex_aload_n cg_76 (ix := 41) (pc' := 66) rfl rfl rfl ?_
          refine ex_getfield cg_76 (ix := 42) (pc' := 69) rfl rfl rfl rfl rfl ?_
          refine ex_i2l cg_76 (ix := 43) (pc' := 70) rfl rfl ?_
          refine ex_aload_n cg_76 (ix := 44) (pc' := 71) rfl rfl rfl ?_
          refine ex_getfield cg_76 (ix := 45) (pc' := 74) rfl rfl rfl rfl rfl ?_
          refine ex_iload_n cg_76 (ix := 46) (pc' := 75) rfl rfl rfl ?_
          refine ex_laload cg_76 (ix := 47) (pc' := 76) rfl rfl (by omega) (by omega) rfl ?_
          refine ex_lmul cg_76 (ix := 48) (pc' := 77) rfl rfl ?_
          refine ex_lstore cg_76 (ix := 49) (pc' := 79) (L' := [some (.inr (.inl 77)), some (.inr (.inl 79)), some (.inl (.int i)), some (.inl (.long ((Int32.toInt64 dr) * (g (i - (Int32.ofInt 1)).toNatClampNeg)))), none, some (.inl (.long ((Int32.toInt64 dr) * (g i.toNatClampNeg)))), none]) rfl rfl rfl rfl ?_
          refine ex_aload_n cg_76 (ix := 50) (pc' := 80) rfl rfl rfl ?_
          refine ex_iload_n cg_76 (ix := 51) (pc' := 81) rfl rfl rfl ?_
          refine ex_lload_n cg_76 (ix := 52) (pc' := 82) rfl rfl rfl ?_
          refine ex_aload_n cg_76 (ix := 53) (pc' := 83) rfl rfl rfl ?_
          refine ex_getfield cg_76 (ix := 54) (pc' := 86) rfl rfl rfl rfl rfl ?_
          refine ex_i2l cg_76 (ix := 55) (pc' := 87) rfl rfl ?_
          refine ex_aload_n cg_76 (ix := 56) (pc' := 88) rfl rfl rfl ?_
          refine ex_getfield cg_76 (ix := 57) (pc' := 91) rfl rfl rfl rfl rfl ?_
          refine ex_iload_n cg_76 (ix := 58) (pc' := 92) rfl rfl rfl ?_
          refine ex_laload cg_76 (ix := 59) (pc' := 93) rfl rfl (by omega) (by omega) rfl ?_
          refine ex_lmul cg_76 (ix := 60) (pc' := 94) rfl rfl ?_
          refine ex_ladd cg_76 (ix := 61) (pc' := 95) rfl rfl ?_
          refine ex_lload cg_76 (ix := 62) (pc' := 97) rfl rfl rfl ?_
          refine ex_ladd cg_76 (ix := 63) (pc' := 98) rfl rfl ?_
          refine ex_lastore cg_76 (ix := 64) (pc' := 99) (h' := [(77, .inl (6, [.inr (.inl 78), .inr (.inl 79), .inr (.inl 80), .inr (.inl 81), .inr (.inl 85), .inr (.inl 86), .inl (.long bf), .inl (.int dl), .inl (.int ds), .inl (.int dr), .inl (.int md), .inl (.int bo)])), (80, .inr (.inr (.inl (32, g)))), (79, .inr (.inr (.inl (32, vp_updL (rowU (drF g dl ds dr) t k) i.toNatClampNeg ((((Int32.toInt64 dr) * (g (i - (Int32.ofInt 1)).toNatClampNeg)) + ((Int32.toInt64 ds) * (g i.toNatClampNeg))) + ((Int32.toInt64 dr) * (g i.toNatClampNeg)))))))]) rfl rfl (by omega) (by omega) rfl rfl ?_
          refine ex_iinc cg_76 (ix := 65) (pc' := 102) (L' := [some (.inr (.inl 77)), some (.inr (.inl 79)), some (.inl (.int (i + Int32.ofInt 1))), some (.inl (.long ((Int32.toInt64 dr) * (g (i - (Int32.ofInt 1)).toNatClampNeg)))), none, some (.inl (.long ((Int32.toInt64 dr) * (g i.toNatClampNeg)))), none]) rfl rfl rfl rfl rfl ?_
          refine ex_goto cg_76 (ix := 66) (pc' := 2) rfl rfl ?_
          have e1 : vp_updL (rowU (drF g dl ds dr) t k) i.toNatClampNeg ((((Int32.toInt64 dr) * (g (i - (Int32.ofInt 1)).toNatClampNeg)) + ((Int32.toInt64 ds) * (g i.toNatClampNeg))) + ((Int32.toInt64 dr) * (g i.toNatClampNeg))) = rowU (drF g dl ds dr) t (k + 1) := by
            have a1 : (i - Int32.ofInt 1).toNatClampNeg = k - 1 := cx_clamp (by rw [cx_subc (by omega) (by omega)]; omega)
            rw [hik, a1]
            refine rowU_L ?_
            unfold drF
            rw [if_pos (by omega), if_neg (by omega)]
          rw [e1]
          exact ih (k + 1) (by omega) _ (by rw [cx_addc (by omega) (by omega)]; omega) _ _ _ _
        · have hb45 : ¬ ((Int32.ofInt 31).toInt ≤ i.toInt) := hb45
          refine ex_aload_n cg_76 (ix := 30) (pc' := 49) rfl rfl rfl ?_
          refine ex_getfield cg_76 (ix := 31) (pc' := 52) rfl rfl rfl rfl rfl ?_
          refine ex_i2l cg_76 (ix := 32) (pc' := 53) rfl rfl ?_
          refine ex_aload_n cg_76 (ix := 33) (pc' := 54) rfl rfl rfl ?_
          refine ex_getfield cg_76 (ix := 34) (pc' := 57) rfl rfl rfl rfl rfl ?_
          refine ex_iload_n cg_76 (ix := 35) (pc' := 58) rfl rfl rfl ?_
          refine ex_iconst cg_76 (ix := 36) (pc' := 59) rfl rfl ?_
          refine ex_iadd cg_76 (ix := 37) (pc' := 60) rfl rfl ?_
          refine ex_laload cg_76 (ix := 38) (pc' := 61) rfl rfl (by rw [cx_addc (by omega) (by omega)]; omega) (by rw [cx_addc (by omega) (by omega)]; omega) rfl ?_
          refine ex_lmul cg_76 (ix := 39) (pc' := 62) rfl rfl ?_
          refine ex_goto cg_76 (ix := 40) (pc' := 77) rfl rfl ?_
          refine ex_lstore cg_76 (ix := 49) (pc' := 79) (L' := [some (.inr (.inl 77)), some (.inr (.inl 79)), some (.inl (.int i)), some (.inl (.long ((Int32.toInt64 dr) * (g (i - (Int32.ofInt 1)).toNatClampNeg)))), none, some (.inl (.long ((Int32.toInt64 dl) * (g (i + (Int32.ofInt 1)).toNatClampNeg)))), none]) rfl rfl rfl rfl ?_
          refine ex_aload_n cg_76 (ix := 50) (pc' := 80) rfl rfl rfl ?_
          refine ex_iload_n cg_76 (ix := 51) (pc' := 81) rfl rfl rfl ?_
          refine ex_lload_n cg_76 (ix := 52) (pc' := 82) rfl rfl rfl ?_
          refine ex_aload_n cg_76 (ix := 53) (pc' := 83) rfl rfl rfl ?_
          refine ex_getfield cg_76 (ix := 54) (pc' := 86) rfl rfl rfl rfl rfl ?_
          refine ex_i2l cg_76 (ix := 55) (pc' := 87) rfl rfl ?_
          refine ex_aload_n cg_76 (ix := 56) (pc' := 88) rfl rfl rfl ?_
          refine ex_getfield cg_76 (ix := 57) (pc' := 91) rfl rfl rfl rfl rfl ?_
          refine ex_iload_n cg_76 (ix := 58) (pc' := 92) rfl rfl rfl ?_
          refine ex_laload cg_76 (ix := 59) (pc' := 93) rfl rfl (by omega) (by omega) rfl ?_
          refine ex_lmul cg_76 (ix := 60) (pc' := 94) rfl rfl ?_
          refine ex_ladd cg_76 (ix := 61) (pc' := 95) rfl rfl ?_
          refine ex_lload cg_76 (ix := 62) (pc' := 97) rfl rfl rfl ?_
          refine ex_ladd cg_76 (ix := 63) (pc' := 98) rfl rfl ?_
          refine ex_lastore cg_76 (ix := 64) (pc' := 99) (h' := [(77, .inl (6, [.inr (.inl 78), .inr (.inl 79), .inr (.inl 80), .inr (.inl 81), .inr (.inl 85), .inr (.inl 86), .inl (.long bf), .inl (.int dl), .inl (.int ds), .inl (.int dr), .inl (.int md), .inl (.int bo)])), (80, .inr (.inr (.inl (32, g)))), (79, .inr (.inr (.inl (32, vp_updL (rowU (drF g dl ds dr) t k) i.toNatClampNeg ((((Int32.toInt64 dr) * (g (i - (Int32.ofInt 1)).toNatClampNeg)) + ((Int32.toInt64 ds) * (g i.toNatClampNeg))) + ((Int32.toInt64 dl) * (g (i + (Int32.ofInt 1)).toNatClampNeg)))))))]) rfl rfl (by omega) (by omega) rfl rfl ?_
          refine ex_iinc cg_76 (ix := 65) (pc' := 102) (L' := [some (.inr (.inl 77)), some (.inr (.inl 79)), some (.inl (.int (i + Int32.ofInt 1))), some (.inl (.long ((Int32.toInt64 dr) * (g (i - (Int32.ofInt 1)).toNatClampNeg)))), none, some (.inl (.long ((Int32.toInt64 dl) * (g (i + (Int32.ofInt 1)).toNatClampNeg)))), none]) rfl rfl rfl rfl rfl ?_
          refine ex_goto cg_76 (ix := 66) (pc' := 2) rfl rfl ?_
          have e1 : vp_updL (rowU (drF g dl ds dr) t k) i.toNatClampNeg ((((Int32.toInt64 dr) * (g (i - (Int32.ofInt 1)).toNatClampNeg)) + ((Int32.toInt64 ds) * (g i.toNatClampNeg))) + ((Int32.toInt64 dl) * (g (i + (Int32.ofInt 1)).toNatClampNeg))) = rowU (drF g dl ds dr) t (k + 1) := by
            have a1 : (i - Int32.ofInt 1).toNatClampNeg = k - 1 := cx_clamp (by rw [cx_subc (by omega) (by omega)]; omega)
            have a2 : (i + Int32.ofInt 1).toNatClampNeg = k + 1 := cx_clamp (by rw [cx_addc (by omega) (by omega)]; omega)
            rw [hik, a1, a2]
            refine rowU_L ?_
            unfold drF
            rw [if_pos (by omega), if_pos (by omega)]
          rw [e1]
          exact ih (k + 1) (by omega) _ (by rw [cx_addc (by omega) (by omega)]; omega) _ _ _ _
theorem ct_cy79 {bf : Int64} {dl ds dr md bo : Int32} {g t : Nat → Int64} : cx_Ct 2 76 [.inr (.inl 77), .inr (.inl 79)] ([(77, .inl (6, [.inr (.inl 78), .inr (.inl 79), .inr (.inl 80), .inr (.inl 81), .inr (.inl 85), .inr (.inl 86), .inl (.long bf), .inl (.int dl), .inl (.int ds), .inl (.int dr), .inl (.int md), .inl (.int bo)])), (80, .inr (.inr (.inl (32, g)))), (79, .inr (.inr (.inl (32, t))))]) (fun v h2 => v = none ∧ h2 = [(77, .inl (6, [.inr (.inl 78), .inr (.inl 79), .inr (.inl 80), .inr (.inl 81), .inr (.inl 85), .inr (.inl 86), .inl (.long bf), .inl (.int dl), .inl (.int ds), .inl (.int dr), .inl (.int md), .inl (.int bo)])), (80, .inr (.inr (.inl (32, g)))), (79, .inr (.inr (.inl (32, rowU (drF g dl ds dr) t 32))))]) := by
  refine cx_Ct.of cg_76 (nL := 7) rfl rfl rfl ?_
  show cx_T 2 76 [77, 80, 79] 0 ([some (.inr (.inl 77)), some (.inr (.inl 79)), none, none, none, none, none], [], [(77, .inl (6, [.inr (.inl 78), .inr (.inl 79), .inr (.inl 80), .inr (.inl 81), .inr (.inl 85), .inr (.inl 86), .inl (.long bf), .inl (.int dl), .inl (.int ds), .inl (.int dr), .inl (.int md), .inl (.int bo)])), (80, .inr (.inr (.inl (32, g)))), (79, .inr (.inr (.inl (32, t))))]) _
  refine ex_iconst cg_76 (ix := 0) (pc' := 1) rfl rfl ?_
  refine ex_istore_n cg_76 (ix := 1) (pc' := 2) (L' := [some (.inr (.inl 77)), some (.inr (.inl 79)), some (.inl (.int (Int32.ofInt 0))), none, none, none, none]) rfl rfl rfl rfl ?_
  have e0 := cy_loop79 (d := 2) (g := g) (t := t) (bf := bf) (dl := dl) (ds := ds) (dr := dr) (md := md) (bo := bo) (P := fun v h2 => v = none ∧ h2 = [(77, .inl (6, [.inr (.inl 78), .inr (.inl 79), .inr (.inl 80), .inr (.inl 81), .inr (.inl 85), .inr (.inl 86), .inl (.long bf), .inl (.int dl), .inl (.int ds), .inl (.int dr), .inl (.int md), .inl (.int bo)])), (80, .inr (.inr (.inl (32, g)))), (79, .inr (.inr (.inl (32, rowU (drF g dl ds dr) t 32))))]) ⟨rfl, rfl⟩ 32 0 rfl (Int32.ofInt 0) (by decide +kernel) none none none none
  rw [rowU_0] at e0
  exact e0
theorem cy_loop83 {d : Nat} {bf : Int64} {dl ds dr md bo : Int32} {g t : Nat → Int64} {P : Option cx_V → cx_H → Prop}  (hP : P none ([(77, .inl (6, [.inr (.inl 78), .inr (.inl 79), .inr (.inl 80), .inr (.inl 81), .inr (.inl 85), .inr (.inl 86), .inl (.long bf), .inl (.int dl), .inl (.int ds), .inl (.int dr), .inl (.int md), .inl (.int bo)])), (80, .inr (.inr (.inl (32, g)))), (83, .inr (.inr (.inl (32, rowU (drF g dl ds dr) t 32))))])) :
    ∀ (m k : Nat), k + m = 32 → ∀ i : Int32, i.toInt = (k : Int) → ∀ (A B C D : Option cx_V), cx_T d 76 [77, 80, 83] 2 ([some (.inr (.inl 77)), some (.inr (.inl 83)), some (.inl (.int i)), A, B, C, D], [], [(77, .inl (6, [.inr (.inl 78), .inr (.inl 79), .inr (.inl 80), .inr (.inl 81), .inr (.inl 85), .inr (.inl 86), .inl (.long bf), .inl (.int dl), .inl (.int ds), .inl (.int dr), .inl (.int md), .inl (.int bo)])), (80, .inr (.inr (.inl (32, g)))), (83, .inr (.inr (.inl (32, rowU (drF g dl ds dr) t k))))]) P := by
  have kc0 : (Int32.ofInt 0).toInt = 0 := by decide +kernel
  have kc1 : (Int32.ofInt 1).toInt = 1 := by decide +kernel
  have kc31 : (Int32.ofInt 31).toInt = 31 := by decide +kernel
  have kc32 : (Int32.ofInt 32).toInt = 32 := by decide +kernel
  intro m
  induction m with
  | zero =>
    intro k hk i hi A B C D
    have ek : k = 32 := by omega
    subst ek
    refine ex_iload_n cg_76 (ix := 2) (pc' := 3) rfl rfl rfl ?_
    refine ex_bipush cg_76 (ix := 3) (pc' := 5) rfl rfl rfl ?_
    refine ex_icmp cg_76 (ix := 4) (t := 105) (pc' := 8) rfl rfl rfl (fun hb5 => ?_) (fun hb5 => ?_)
    · have hb5 : (Int32.ofInt 32).toInt ≤ i.toInt := hb5
      refine ex_return_ cg_76 (ix := 67) rfl ?_
      exact hP
    · have hb5 : ¬ ((Int32.ofInt 32).toInt ≤ i.toInt) := hb5
      exfalso; first | omega | exact absurd hb5 (by decide +kernel)
  | succ m ih =>
    intro k hk i hi A B C D
    have hik : i.toNatClampNeg = k := cx_clamp hi
    refine ex_iload_n cg_76 (ix := 2) (pc' := 3) rfl rfl rfl ?_
    refine ex_bipush cg_76 (ix := 3) (pc' := 5) rfl rfl rfl ?_
    refine ex_icmp cg_76 (ix := 4) (t := 105) (pc' := 8) rfl rfl rfl (fun hb5 => ?_) (fun hb5 => ?_)
    · have hb5 : (Int32.ofInt 32).toInt ≤ i.toInt := hb5
      exfalso; first | omega | exact absurd hb5 (by decide +kernel)
    · have hb5 : ¬ ((Int32.ofInt 32).toInt ≤ i.toInt) := hb5
      refine ex_iload_n cg_76 (ix := 5) (pc' := 9) rfl rfl rfl ?_
      refine ex_if cg_76 (ix := 6) (t := 29) (pc' := 12) rfl rfl rfl (fun hb9 => ?_) (fun hb9 => ?_)
      · have hb9 : i.toInt ≤ 0 := hb9
        refine ex_aload_n cg_76 (ix := 18) (pc' := 30) rfl rfl rfl ?_
        refine ex_getfield cg_76 (ix := 19) (pc' := 33) rfl rfl rfl rfl rfl ?_
        refine ex_i2l cg_76 (ix := 20) (pc' := 34) rfl rfl ?_
        refine ex_aload_n cg_76 (ix := 21) (pc' := 35) rfl rfl rfl ?_
        refine ex_getfield cg_76 (ix := 22) (pc' := 38) rfl rfl rfl rfl rfl ?_
        refine ex_iload_n cg_76 (ix := 23) (pc' := 39) rfl rfl rfl ?_
        refine ex_laload cg_76 (ix := 24) (pc' := 40) rfl rfl (by omega) (by omega) rfl ?_
        refine ex_lmul cg_76 (ix := 25) (pc' := 41) rfl rfl ?_
        refine ex_lstore_n cg_76 (ix := 26) (pc' := 42) (L' := [some (.inr (.inl 77)), some (.inr (.inl 83)), some (.inl (.int i)), some (.inl (.long ((Int32.toInt64 dl) * (g i.toNatClampNeg)))), none, C, D]) rfl rfl rfl rfl ?_
        refine ex_iload_n cg_76 (ix := 27) (pc' := 43) rfl rfl rfl ?_
        refine ex_bipush cg_76 (ix := 28) (pc' := 45) rfl rfl rfl ?_
        refine ex_icmp cg_76 (ix := 29) (t := 65) (pc' := 48) rfl rfl rfl (fun hb45 => ?_) (fun hb45 => ?_)
        · have hb45 : (Int32.ofInt 31).toInt ≤ i.toInt := hb45
          refine ex_aload_n cg_76 (ix := 41) (pc' := 66) rfl rfl rfl ?_
          refine ex_getfield cg_76 (ix := 42) (pc' := 69) rfl rfl rfl rfl rfl ?_
          refine ex_i2l cg_76 (ix := 43) (pc' := 70) rfl rfl ?_
          refine ex_aload_n cg_76 (ix := 44) (pc' := 71) rfl rfl rfl ?_
          refine ex_getfield cg_76 (ix := 45) (pc' := 74) rfl rfl rfl rfl rfl ?_
          refine ex_iload_n cg_76 (ix := 46) (pc' := 75) rfl rfl rfl ?_
          refine ex_laload cg_76 (ix := 47) (pc' := 76) rfl rfl (by omega) (by omega) rfl ?_
          refine ex_lmul cg_76 (ix := 48) (pc' := 77) rfl rfl ?_
          refine ex_lstore cg_76 (ix := 49) (pc' := 79) (L' := [some (.inr (.inl 77)), some (.inr (.inl 83)), some (.inl (.int i)), some (.inl (.long ((Int32.toInt64 dl) * (g i.toNatClampNeg)))), none, some (.inl (.long ((Int32.toInt64 dr) * (g i.toNatClampNeg)))), none]) rfl rfl rfl rfl ?_
          refine ex_aload_n cg_76 (ix := 50) (pc' := 80) rfl rfl rfl ?_
          refine ex_iload_n cg_76 (ix := 51) (pc' := 81) rfl rfl rfl ?_
          refine ex_lload_n cg_76 (ix := 52) (pc' := 82) rfl rfl rfl ?_
          refine ex_aload_n cg_76 (ix := 53) (pc' := 83) rfl rfl rfl ?_
          refine ex_getfield cg_76 (ix := 54) (pc' := 86) rfl rfl rfl rfl rfl ?_
          refine ex_i2l cg_76 (ix := 55) (pc' := 87) rfl rfl ?_
          refine ex_aload_n cg_76 (ix := 56) (pc' := 88) rfl rfl rfl ?_
          refine ex_getfield cg_76 (ix := 57) (pc' := 91) rfl rfl rfl rfl rfl ?_
          refine ex_iload_n cg_76 (ix := 58) (pc' := 92) rfl rfl rfl ?_
          refine ex_laload cg_76 (ix := 59) (pc' := 93) rfl rfl (by omega) (by omega) rfl ?_
          refine ex_lmul cg_76 (ix := 60) (pc' := 94) rfl rfl ?_
          refine ex_ladd cg_76 (ix := 61) (pc' := 95) rfl rfl ?_
          refine ex_lload cg_76 (ix := 62) (pc' := 97) rfl rfl rfl ?_
          refine ex_ladd cg_76 (ix := 63) (pc' := 98) rfl rfl ?_
          refine ex_lastore cg_76 (ix := 64) (pc' := 99) (h' := [(77, .inl (6, [.inr (.inl 78), .inr (.inl 79), .inr (.inl 80), .inr (.inl 81), .inr (.inl 85), .inr (.inl 86), .inl (.long bf), .inl (.int dl), .inl (.int ds), .inl (.int dr), .inl (.int md), .inl (.int bo)])), (80, .inr (.inr (.inl (32, g)))), (83, .inr (.inr (.inl (32, vp_updL (rowU (drF g dl ds dr) t k) i.toNatClampNeg ((((Int32.toInt64 dl) * (g i.toNatClampNeg)) + ((Int32.toInt64 ds) * (g i.toNatClampNeg))) + ((Int32.toInt64 dr) * (g i.toNatClampNeg)))))))]) rfl rfl (by omega) (by omega) rfl rfl ?_
          refine ex_iinc cg_76 (ix := 65) (pc' := 102) (L' := [some (.inr (.inl 77)), some (.inr (.inl 83)), some (.inl (.int (i + Int32.ofInt 1))), some (.inl (.long ((Int32.toInt64 dl) * (g i.toNatClampNeg)))), none, some (.inl (.long ((Int32.toInt64 dr) * (g i.toNatClampNeg)))), none]) rfl rfl rfl rfl rfl ?_
          refine ex_goto cg_76 (ix := 66) (pc' := 2) rfl rfl ?_
          have e1 : vp_updL (rowU (drF g dl ds dr) t k) i.toNatClampNeg ((((Int32.toInt64 dl) * (g i.toNatClampNeg)) + ((Int32.toInt64 ds) * (g i.toNatClampNeg))) + ((Int32.toInt64 dr) * (g i.toNatClampNeg))) = rowU (drF g dl ds dr) t (k + 1) := by
            rw [hik]
            refine rowU_L ?_
            unfold drF
            rw [if_neg (by omega), if_neg (by omega)]
          rw [e1]
          exact ih (k + 1) (by omega) _ (by rw [cx_addc (by omega) (by omega)]; omega) _ _ _ _
        · have hb45 : ¬ ((Int32.ofInt 31).toInt ≤ i.toInt) := hb45
          refine ex_aload_n cg_76 (ix := 30) (pc' := 49) rfl rfl rfl ?_
          refine ex_getfield cg_76 (ix := 31) (pc' := 52) rfl rfl rfl rfl rfl ?_
          refine ex_i2l cg_76 (ix := 32) (pc' := 53) rfl rfl ?_
          refine ex_aload_n cg_76 (ix := 33) (pc' := 54) rfl rfl rfl ?_
          refine ex_getfield cg_76 (ix := 34) (pc' := 57) rfl rfl rfl rfl rfl ?_
          refine ex_iload_n cg_76 (ix := 35) (pc' := 58) rfl rfl rfl ?_
          refine ex_iconst cg_76 (ix := 36) (pc' := 59) rfl rfl ?_
          refine ex_iadd cg_76 (ix := 37) (pc' := 60) rfl rfl ?_
          refine ex_laload cg_76 (ix := 38) (pc' := 61) rfl rfl (by rw [cx_addc (by omega) (by omega)]; omega) (by rw [cx_addc (by omega) (by omega)]; omega) rfl ?_
          refine ex_lmul cg_76 (ix := 39) (pc' := 62) rfl rfl ?_
          refine ex_goto cg_76 (ix := 40) (pc' := 77) rfl rfl ?_
          refine ex_lstore cg_76 (ix := 49) (pc' := 79) (L' := [some (.inr (.inl 77)), some (.inr (.inl 83)), some (.inl (.int i)), some (.inl (.long ((Int32.toInt64 dl) * (g i.toNatClampNeg)))), none, some (.inl (.long ((Int32.toInt64 dl) * (g (i + (Int32.ofInt 1)).toNatClampNeg)))), none]) rfl rfl rfl rfl ?_
          refine ex_aload_n cg_76 (ix := 50) (pc' := 80) rfl rfl rfl ?_
          refine ex_iload_n cg_76 (ix := 51) (pc' := 81) rfl rfl rfl ?_
          refine ex_lload_n cg_76 (ix := 52) (pc' := 82) rfl rfl rfl ?_
          refine ex_aload_n cg_76 (ix := 53) (pc' := 83) rfl rfl rfl ?_
          refine ex_getfield cg_76 (ix := 54) (pc' := 86) rfl rfl rfl rfl rfl ?_
          refine ex_i2l cg_76 (ix := 55) (pc' := 87) rfl rfl ?_
          refine ex_aload_n cg_76 (ix := 56) (pc' := 88) rfl rfl rfl ?_
          refine ex_getfield cg_76 (ix := 57) (pc' := 91) rfl rfl rfl rfl rfl ?_
          refine ex_iload_n cg_76 (ix := 58) (pc' := 92) rfl rfl rfl ?_
          refine ex_laload cg_76 (ix := 59) (pc' := 93) rfl rfl (by omega) (by omega) rfl ?_
          refine ex_lmul cg_76 (ix := 60) (pc' := 94) rfl rfl ?_
          refine ex_ladd cg_76 (ix := 61) (pc' := 95) rfl rfl ?_
          refine ex_lload cg_76 (ix := 62) (pc' := 97) rfl rfl rfl ?_
          refine ex_ladd cg_76 (ix := 63) (pc' := 98) rfl rfl ?_
          refine ex_lastore cg_76 (ix := 64) (pc' := 99) (h' := [(77, .inl (6, [.inr (.inl 78), .inr (.inl 79), .inr (.inl 80), .inr (.inl 81), .inr (.inl 85), .inr (.inl 86), .inl (.long bf), .inl (.int dl), .inl (.int ds), .inl (.int dr), .inl (.int md), .inl (.int bo)])), (80, .inr (.inr (.inl (32, g)))), (83, .inr (.inr (.inl (32, vp_updL (rowU (drF g dl ds dr) t k) i.toNatClampNeg ((((Int32.toInt64 dl) * (g i.toNatClampNeg)) + ((Int32.toInt64 ds) * (g i.toNatClampNeg))) + ((Int32.toInt64 dl) * (g (i + (Int32.ofInt 1)).toNatClampNeg)))))))]) rfl rfl (by omega) (by omega) rfl rfl ?_
          refine ex_iinc cg_76 (ix := 65) (pc' := 102) (L' := [some (.inr (.inl 77)), some (.inr (.inl 83)), some (.inl (.int (i + Int32.ofInt 1))), some (.inl (.long ((Int32.toInt64 dl) * (g i.toNatClampNeg)))), none, some (.inl (.long ((Int32.toInt64 dl) * (g (i + (Int32.ofInt 1)).toNatClampNeg)))), none]) rfl rfl rfl rfl rfl ?_
          refine ex_goto cg_76 (ix := 66) (pc' := 2) rfl rfl ?_
          have e1 : vp_updL (rowU (drF g dl ds dr) t k) i.toNatClampNeg ((((Int32.toInt64 dl) * (g i.toNatClampNeg)) + ((Int32.toInt64 ds) * (g i.toNatClampNeg))) + ((Int32.toInt64 dl) * (g (i + (Int32.ofInt 1)).toNatClampNeg))) = rowU (drF g dl ds dr) t (k + 1) := by
            have a2 : (i + Int32.ofInt 1).toNatClampNeg = k + 1 := cx_clamp (by rw [cx_addc (by omega) (by omega)]; omega)
            rw [hik, a2]
            refine rowU_L ?_
            unfold drF
            rw [if_neg (by omega), if_pos (by omega)]
          rw [e1]
          exact ih (k + 1) (by omega) _ (by rw [cx_addc (by omega) (by omega)]; omega) _ _ _ _
      · have hb9 : ¬ (i.toInt ≤ 0) := hb9
        refine ex_aload_n cg_76 (ix := 7) (pc' := 13) rfl rfl rfl ?_
        refine ex_getfield cg_76 (ix := 8) (pc' := 16) rfl rfl rfl rfl rfl ?_
        refine ex_i2l cg_76 (ix := 9) (pc' := 17) rfl rfl ?_
        refine ex_aload_n cg_76 (ix := 10) (pc' := 18) rfl rfl rfl ?_
        refine ex_getfield cg_76 (ix := 11) (pc' := 21) rfl rfl rfl rfl rfl ?_
        refine ex_iload_n cg_76 (ix := 12) (pc' := 22) rfl rfl rfl ?_
        refine ex_iconst cg_76 (ix := 13) (pc' := 23) rfl rfl ?_
        refine ex_isub cg_76 (ix := 14) (pc' := 24) rfl rfl ?_
        refine ex_laload cg_76 (ix := 15) (pc' := 25) rfl rfl (by rw [cx_subc (by omega) (by omega)]; omega) (by rw [cx_subc (by omega) (by omega)]; omega) rfl ?_
        refine ex_lmul cg_76 (ix := 16) (pc' := 26) rfl rfl ?_
        refine ex_goto cg_76 (ix := 17) (pc' := 41) rfl rfl ?_
        refine ex_lstore_n cg_76 (ix := 26) (pc' := 42) (L' := [some (.inr (.inl 77)), some (.inr (.inl 83)), some (.inl (.int i)), some (.inl (.long ((Int32.toInt64 dr) * (g (i - (Int32.ofInt 1)).toNatClampNeg)))), none, C, D]) rfl rfl rfl rfl ?_
        refine ex_iload_n cg_76 (ix := 27) (pc' := 43) rfl rfl rfl ?_
        refine ex_bipush cg_76 (ix := 28) (pc' := 45) rfl rfl rfl ?_
        refine ex_icmp cg_76 (ix := 29) (t := 65) (pc' := 48) rfl rfl rfl (fun hb45 => ?_) (fun hb45 => ?_)
        · have hb45 : (Int32.ofInt 31).toInt ≤ i.toInt := hb45
          refine ex_aload_n cg_76 (ix := 41) (pc' := 66) rfl rfl rfl ?_
          refine ex_getfield cg_76 (ix := 42) (pc' := 69) rfl rfl rfl rfl rfl ?_
          refine ex_i2l cg_76 (ix := 43) (pc' := 70) rfl rfl ?_
          refine ex_aload_n cg_76 (ix := 44) (pc' := 71) rfl rfl rfl ?_
          refine ex_getfield cg_76 (ix := 45) (pc' := 74) rfl rfl rfl rfl rfl ?_
          refine ex_iload_n cg_76 (ix := 46) (pc' := 75) rfl rfl rfl ?_
          refine ex_laload cg_76 (ix := 47) (pc' := 76) rfl rfl (by omega) (by omega) rfl ?_
          refine ex_lmul cg_76 (ix := 48) (pc' := 77) rfl rfl ?_
          refine ex_lstore cg_76 (ix := 49) (pc' := 79) (L' := [some (.inr (.inl 77)), some (.inr (.inl 83)), some (.inl (.int i)), some (.inl (.long ((Int32.toInt64 dr) * (g (i - (Int32.ofInt 1)).toNatClampNeg)))), none, some (.inl (.long ((Int32.toInt64 dr) * (g i.toNatClampNeg)))), none]) rfl rfl rfl rfl ?_
          refine ex_aload_n cg_76 (ix := 50) (pc' := 80) rfl rfl rfl ?_
          refine ex_iload_n cg_76 (ix := 51) (pc' := 81) rfl rfl rfl ?_
          refine ex_lload_n cg_76 (ix := 52) (pc' := 82) rfl rfl rfl ?_
          refine ex_aload_n cg_76 (ix := 53) (pc' := 83) rfl rfl rfl ?_
          refine ex_getfield cg_76 (ix := 54) (pc' := 86) rfl rfl rfl rfl rfl ?_
          refine ex_i2l cg_76 (ix := 55) (pc' := 87) rfl rfl ?_
          refine ex_aload_n cg_76 (ix := 56) (pc' := 88) rfl rfl rfl ?_
          refine ex_getfield cg_76 (ix := 57) (pc' := 91) rfl rfl rfl rfl rfl ?_
          refine ex_iload_n cg_76 (ix := 58) (pc' := 92) rfl rfl rfl ?_
          refine ex_laload cg_76 (ix := 59) (pc' := 93) rfl rfl (by omega) (by omega) rfl ?_
          refine ex_lmul cg_76 (ix := 60) (pc' := 94) rfl rfl ?_
          refine ex_ladd cg_76 (ix := 61) (pc' := 95) rfl rfl ?_
          refine ex_lload cg_76 (ix := 62) (pc' := 97) rfl rfl rfl ?_
          refine ex_ladd cg_76 (ix := 63) (pc' := 98) rfl rfl ?_
          refine ex_lastore cg_76 (ix := 64) (pc' := 99) (h' := [(77, .inl (6, [.inr (.inl 78), .inr (.inl 79), .inr (.inl 80), .inr (.inl 81), .inr (.inl 85), .inr (.inl 86), .inl (.long bf), .inl (.int dl), .inl (.int ds), .inl (.int dr), .inl (.int md), .inl (.int bo)])), (80, .inr (.inr (.inl (32, g)))), (83, .inr (.inr (.inl (32, vp_updL (rowU (drF g dl ds dr) t k) i.toNatClampNeg ((((Int32.toInt64 dr) * (g (i - (Int32.ofInt 1)).toNatClampNeg)) + ((Int32.toInt64 ds) * (g i.toNatClampNeg))) + ((Int32.toInt64 dr) * (g i.toNatClampNeg)))))))]) rfl rfl (by omega) (by omega) rfl rfl ?_
          refine ex_iinc cg_76 (ix := 65) (pc' := 102) (L' := [some (.inr (.inl 77)), some (.inr (.inl 83)), some (.inl (.int (i + Int32.ofInt 1))), some (.inl (.long ((Int32.toInt64 dr) * (g (i - (Int32.ofInt 1)).toNatClampNeg)))), none, some (.inl (.long ((Int32.toInt64 dr) * (g i.toNatClampNeg)))), none]) rfl rfl rfl rfl rfl ?_
          refine ex_goto cg_76 (ix := 66) (pc' := 2) rfl rfl ?_
          have e1 : vp_updL (rowU (drF g dl ds dr) t k) i.toNatClampNeg ((((Int32.toInt64 dr) * (g (i - (Int32.ofInt 1)).toNatClampNeg)) + ((Int32.toInt64 ds) * (g i.toNatClampNeg))) + ((Int32.toInt64 dr) * (g i.toNatClampNeg))) = rowU (drF g dl ds dr) t (k + 1) := by
            have a1 : (i - Int32.ofInt 1).toNatClampNeg = k - 1 := cx_clamp (by rw [cx_subc (by omega) (by omega)]; omega)
            rw [hik, a1]
            refine rowU_L ?_
            unfold drF
            rw [if_pos (by omega), if_neg (by omega)]
          rw [e1]
          exact ih (k + 1) (by omega) _ (by rw [cx_addc (by omega) (by omega)]; omega) _ _ _ _
        · have hb45 : ¬ ((Int32.ofInt 31).toInt ≤ i.toInt) := hb45
          refine ex_aload_n cg_76 (ix := 30) (pc' := 49) rfl rfl rfl ?_
          refine ex_getfield cg_76 (ix := 31) (pc' := 52) rfl rfl rfl rfl rfl ?_
          refine ex_i2l cg_76 (ix := 32) (pc' := 53) rfl rfl ?_
          refine ex_aload_n cg_76 (ix := 33) (pc' := 54) rfl rfl rfl ?_
          refine ex_getfield cg_76 (ix := 34) (pc' := 57) rfl rfl rfl rfl rfl ?_
          refine ex_iload_n cg_76 (ix := 35) (pc' := 58) rfl rfl rfl ?_
          refine ex_iconst cg_76 (ix := 36) (pc' := 59) rfl rfl ?_
          refine ex_iadd cg_76 (ix := 37) (pc' := 60) rfl rfl ?_
          refine ex_laload cg_76 (ix := 38) (pc' := 61) rfl rfl (by rw [cx_addc (by omega) (by omega)]; omega) (by rw [cx_addc (by omega) (by omega)]; omega) rfl ?_
          refine ex_lmul cg_76 (ix := 39) (pc' := 62) rfl rfl ?_
          refine ex_goto cg_76 (ix := 40) (pc' := 77) rfl rfl ?_
          refine ex_lstore cg_76 (ix := 49) (pc' := 79) (L' := [some (.inr (.inl 77)), some (.inr (.inl 83)), some (.inl (.int i)), some (.inl (.long ((Int32.toInt64 dr) * (g (i - (Int32.ofInt 1)).toNatClampNeg)))), none, some (.inl (.long ((Int32.toInt64 dl) * (g (i + (Int32.ofInt 1)).toNatClampNeg)))), none]) rfl rfl rfl rfl ?_
          refine ex_aload_n cg_76 (ix := 50) (pc' := 80) rfl rfl rfl ?_
          refine ex_iload_n cg_76 (ix := 51) (pc' := 81) rfl rfl rfl ?_
          refine ex_lload_n cg_76 (ix := 52) (pc' := 82) rfl rfl rfl ?_
          refine ex_aload_n cg_76 (ix := 53) (pc' := 83) rfl rfl rfl ?_
          refine ex_getfield cg_76 (ix := 54) (pc' := 86) rfl rfl rfl rfl rfl ?_
          refine ex_i2l cg_76 (ix := 55) (pc' := 87) rfl rfl ?_
          refine ex_aload_n cg_76 (ix := 56) (pc' := 88) rfl rfl rfl ?_
          refine ex_getfield cg_76 (ix := 57) (pc' := 91) rfl rfl rfl rfl rfl ?_
          refine ex_iload_n cg_76 (ix := 58) (pc' := 92) rfl rfl rfl ?_
          refine ex_laload cg_76 (ix := 59) (pc' := 93) rfl rfl (by omega) (by omega) rfl ?_
          refine ex_lmul cg_76 (ix := 60) (pc' := 94) rfl rfl ?_
          refine ex_ladd cg_76 (ix := 61) (pc' := 95) rfl rfl ?_
          refine ex_lload cg_76 (ix := 62) (pc' := 97) rfl rfl rfl ?_
          refine ex_ladd cg_76 (ix := 63) (pc' := 98) rfl rfl ?_
          refine ex_lastore cg_76 (ix := 64) (pc' := 99) (h' := [(77, .inl (6, [.inr (.inl 78), .inr (.inl 79), .inr (.inl 80), .inr (.inl 81), .inr (.inl 85), .inr (.inl 86), .inl (.long bf), .inl (.int dl), .inl (.int ds), .inl (.int dr), .inl (.int md), .inl (.int bo)])), (80, .inr (.inr (.inl (32, g)))), (83, .inr (.inr (.inl (32, vp_updL (rowU (drF g dl ds dr) t k) i.toNatClampNeg ((((Int32.toInt64 dr) * (g (i - (Int32.ofInt 1)).toNatClampNeg)) + ((Int32.toInt64 ds) * (g i.toNatClampNeg))) + ((Int32.toInt64 dl) * (g (i + (Int32.ofInt 1)).toNatClampNeg)))))))]) rfl rfl (by omega) (by omega) rfl rfl ?_
          refine ex_iinc cg_76 (ix := 65) (pc' := 102) (L' := [some (.inr (.inl 77)), some (.inr (.inl 83)), some (.inl (.int (i + Int32.ofInt 1))), some (.inl (.long ((Int32.toInt64 dr) * (g (i - (Int32.ofInt 1)).toNatClampNeg)))), none, some (.inl (.long ((Int32.toInt64 dl) * (g (i + (Int32.ofInt 1)).toNatClampNeg)))), none]) rfl rfl rfl rfl rfl ?_
          refine ex_goto cg_76 (ix := 66) (pc' := 2) rfl rfl ?_
          have e1 : vp_updL (rowU (drF g dl ds dr) t k) i.toNatClampNeg ((((Int32.toInt64 dr) * (g (i - (Int32.ofInt 1)).toNatClampNeg)) + ((Int32.toInt64 ds) * (g i.toNatClampNeg))) + ((Int32.toInt64 dl) * (g (i + (Int32.ofInt 1)).toNatClampNeg))) = rowU (drF g dl ds dr) t (k + 1) := by
            have a1 : (i - Int32.ofInt 1).toNatClampNeg = k - 1 := cx_clamp (by rw [cx_subc (by omega) (by omega)]; omega)
            have a2 : (i + Int32.ofInt 1).toNatClampNeg = k + 1 := cx_clamp (by rw [cx_addc (by omega) (by omega)]; omega)
            rw [hik, a1, a2]
            refine rowU_L ?_
            unfold drF
            rw [if_pos (by omega), if_pos (by omega)]
          rw [e1]
          exact ih (k + 1) (by omega) _ (by rw [cx_addc (by omega) (by omega)]; omega) _ _ _ _
theorem ct_cy83 {bf : Int64} {dl ds dr md bo : Int32} {g t : Nat → Int64} : cx_Ct 2 76 [.inr (.inl 77), .inr (.inl 83)] ([(77, .inl (6, [.inr (.inl 78), .inr (.inl 79), .inr (.inl 80), .inr (.inl 81), .inr (.inl 85), .inr (.inl 86), .inl (.long bf), .inl (.int dl), .inl (.int ds), .inl (.int dr), .inl (.int md), .inl (.int bo)])), (80, .inr (.inr (.inl (32, g)))), (83, .inr (.inr (.inl (32, t))))]) (fun v h2 => v = none ∧ h2 = [(77, .inl (6, [.inr (.inl 78), .inr (.inl 79), .inr (.inl 80), .inr (.inl 81), .inr (.inl 85), .inr (.inl 86), .inl (.long bf), .inl (.int dl), .inl (.int ds), .inl (.int dr), .inl (.int md), .inl (.int bo)])), (80, .inr (.inr (.inl (32, g)))), (83, .inr (.inr (.inl (32, rowU (drF g dl ds dr) t 32))))]) := by
  refine cx_Ct.of cg_76 (nL := 7) rfl rfl rfl ?_
  show cx_T 2 76 [77, 80, 83] 0 ([some (.inr (.inl 77)), some (.inr (.inl 83)), none, none, none, none, none], [], [(77, .inl (6, [.inr (.inl 78), .inr (.inl 79), .inr (.inl 80), .inr (.inl 81), .inr (.inl 85), .inr (.inl 86), .inl (.long bf), .inl (.int dl), .inl (.int ds), .inl (.int dr), .inl (.int md), .inl (.int bo)])), (80, .inr (.inr (.inl (32, g)))), (83, .inr (.inr (.inl (32, t))))]) _
  refine ex_iconst cg_76 (ix := 0) (pc' := 1) rfl rfl ?_
  refine ex_istore_n cg_76 (ix := 1) (pc' := 2) (L' := [some (.inr (.inl 77)), some (.inr (.inl 83)), some (.inl (.int (Int32.ofInt 0))), none, none, none, none]) rfl rfl rfl rfl ?_
  have e0 := cy_loop83 (d := 2) (g := g) (t := t) (bf := bf) (dl := dl) (ds := ds) (dr := dr) (md := md) (bo := bo) (P := fun v h2 => v = none ∧ h2 = [(77, .inl (6, [.inr (.inl 78), .inr (.inl 79), .inr (.inl 80), .inr (.inl 81), .inr (.inl 85), .inr (.inl 86), .inl (.long bf), .inl (.int dl), .inl (.int ds), .inl (.int dr), .inl (.int md), .inl (.int bo)])), (80, .inr (.inr (.inl (32, g)))), (83, .inr (.inr (.inl (32, rowU (drF g dl ds dr) t 32))))]) ⟨rfl, rfl⟩ 32 0 rfl (Int32.ofInt 0) (by decide +kernel) none none none none
  rw [rowU_0] at e0
  exact e0
theorem cy_loop84 {d : Nat} {bf : Int64} {dl ds dr md bo : Int32} {g t : Nat → Int64} {P : Option cx_V → cx_H → Prop}  (hP : P none ([(77, .inl (6, [.inr (.inl 78), .inr (.inl 79), .inr (.inl 80), .inr (.inl 81), .inr (.inl 85), .inr (.inl 86), .inl (.long bf), .inl (.int dl), .inl (.int ds), .inl (.int dr), .inl (.int md), .inl (.int bo)])), (80, .inr (.inr (.inl (32, g)))), (84, .inr (.inr (.inl (32, rowU (drF g dl ds dr) t 32))))])) :
    ∀ (m k : Nat), k + m = 32 → ∀ i : Int32, i.toInt = (k : Int) → ∀ (A B C D : Option cx_V), cx_T d 76 [77, 80, 84] 2 ([some (.inr (.inl 77)), some (.inr (.inl 84)), some (.inl (.int i)), A, B, C, D], [], [(77, .inl (6, [.inr (.inl 78), .inr (.inl 79), .inr (.inl 80), .inr (.inl 81), .inr (.inl 85), .inr (.inl 86), .inl (.long bf), .inl (.int dl), .inl (.int ds), .inl (.int dr), .inl (.int md), .inl (.int bo)])), (80, .inr (.inr (.inl (32, g)))), (84, .inr (.inr (.inl (32, rowU (drF g dl ds dr) t k))))]) P := by
  have kc0 : (Int32.ofInt 0).toInt = 0 := by decide +kernel
  have kc1 : (Int32.ofInt 1).toInt = 1 := by decide +kernel
  have kc31 : (Int32.ofInt 31).toInt = 31 := by decide +kernel
  have kc32 : (Int32.ofInt 32).toInt = 32 := by decide +kernel
  intro m
  induction m with
  | zero =>
    intro k hk i hi A B C D
    have ek : k = 32 := by omega
    subst ek
    refine ex_iload_n cg_76 (ix := 2) (pc' := 3) rfl rfl rfl ?_
    refine ex_bipush cg_76 (ix := 3) (pc' := 5) rfl rfl rfl ?_
    refine ex_icmp cg_76 (ix := 4) (t := 105) (pc' := 8) rfl rfl rfl (fun hb5 => ?_) (fun hb5 => ?_)
    · have hb5 : (Int32.ofInt 32).toInt ≤ i.toInt := hb5
      refine ex_return_ cg_76 (ix := 67) rfl ?_
      exact hP
    · have hb5 : ¬ ((Int32.ofInt 32).toInt ≤ i.toInt) := hb5
      exfalso; first | omega | exact absurd hb5 (by decide +kernel)
  | succ m ih =>
    intro k hk i hi A B C D
    have hik : i.toNatClampNeg = k := cx_clamp hi
    refine ex_iload_n cg_76 (ix := 2) (pc' := 3) rfl rfl rfl ?_
    refine ex_bipush cg_76 (ix := 3) (pc' := 5) rfl rfl rfl ?_
    refine ex_icmp cg_76 (ix := 4) (t := 105) (pc' := 8) rfl rfl rfl (fun hb5 => ?_) (fun hb5 => ?_)
    · have hb5 : (Int32.ofInt 32).toInt ≤ i.toInt := hb5
      exfalso; first | omega | exact absurd hb5 (by decide +kernel)
    · have hb5 : ¬ ((Int32.ofInt 32).toInt ≤ i.toInt) := hb5
      refine ex_iload_n cg_76 (ix := 5) (pc' := 9) rfl rfl rfl ?_
      refine ex_if cg_76 (ix := 6) (t := 29) (pc' := 12) rfl rfl rfl (fun hb9 => ?_) (fun hb9 => ?_)
      · have hb9 : i.toInt ≤ 0 := hb9
        refine ex_aload_n cg_76 (ix := 18) (pc' := 30) rfl rfl rfl ?_
        refine ex_getfield cg_76 (ix := 19) (pc' := 33) rfl rfl rfl rfl rfl ?_
        refine ex_i2l cg_76 (ix := 20) (pc' := 34) rfl rfl ?_
        refine ex_aload_n cg_76 (ix := 21) (pc' := 35) rfl rfl rfl ?_
        refine ex_getfield cg_76 (ix := 22) (pc' := 38) rfl rfl rfl rfl rfl ?_
        refine ex_iload_n cg_76 (ix := 23) (pc' := 39) rfl rfl rfl ?_
        refine ex_laload cg_76 (ix := 24) (pc' := 40) rfl rfl (by omega) (by omega) rfl ?_
        refine ex_lmul cg_76 (ix := 25) (pc' := 41) rfl rfl ?_
        refine ex_lstore_n cg_76 (ix := 26) (pc' := 42) (L' := [some (.inr (.inl 77)), some (.inr (.inl 84)), some (.inl (.int i)), some (.inl (.long ((Int32.toInt64 dl) * (g i.toNatClampNeg)))), none, C, D]) rfl rfl rfl rfl ?_
        refine ex_iload_n cg_76 (ix := 27) (pc' := 43) rfl rfl rfl ?_
        refine ex_bipush cg_76 (ix := 28) (pc' := 45) rfl rfl rfl ?_
        refine ex_icmp cg_76 (ix := 29) (t := 65) (pc' := 48) rfl rfl rfl (fun hb45 => ?_) (fun hb45 => ?_)
        · have hb45 : (Int32.ofInt 31).toInt ≤ i.toInt := hb45
          refine ex_aload_n cg_76 (ix := 41) (pc' := 66) rfl rfl rfl ?_
          refine ex_getfield cg_76 (ix := 42) (pc' := 69) rfl rfl rfl rfl rfl ?_
          refine ex_i2l cg_76 (ix := 43) (pc' := 70) rfl rfl ?_
          refine ex_aload_n cg_76 (ix := 44) (pc' := 71) rfl rfl rfl ?_
          refine ex_getfield cg_76 (ix := 45) (pc' := 74) rfl rfl rfl rfl rfl ?_
          refine ex_iload_n cg_76 (ix := 46) (pc' := 75) rfl rfl rfl ?_
          refine ex_laload cg_76 (ix := 47) (pc' := 76) rfl rfl (by omega) (by omega) rfl ?_
          refine ex_lmul cg_76 (ix := 48) (pc' := 77) rfl rfl ?_
          refine ex_lstore cg_76 (ix := 49) (pc' := 79) (L' := [some (.inr (.inl 77)), some (.inr (.inl 84)), some (.inl (.int i)), some (.inl (.long ((Int32.toInt64 dl) * (g i.toNatClampNeg)))), none, some (.inl (.long ((Int32.toInt64 dr) * (g i.toNatClampNeg)))), none]) rfl rfl rfl rfl ?_
          refine ex_aload_n cg_76 (ix := 50) (pc' := 80) rfl rfl rfl ?_
          refine ex_iload_n cg_76 (ix := 51) (pc' := 81) rfl rfl rfl ?_
          refine ex_lload_n cg_76 (ix := 52) (pc' := 82) rfl rfl rfl ?_
          refine ex_aload_n cg_76 (ix := 53) (pc' := 83) rfl rfl rfl ?_
          refine ex_getfield cg_76 (ix := 54) (pc' := 86) rfl rfl rfl rfl rfl ?_
          refine ex_i2l cg_76 (ix := 55) (pc' := 87) rfl rfl ?_
          refine ex_aload_n cg_76 (ix := 56) (pc' := 88) rfl rfl rfl ?_
          refine ex_getfield cg_76 (ix := 57) (pc' := 91) rfl rfl rfl rfl rfl ?_
          refine ex_iload_n cg_76 (ix := 58) (pc' := 92) rfl rfl rfl ?_
          refine ex_laload cg_76 (ix := 59) (pc' := 93) rfl rfl (by omega) (by omega) rfl ?_
          refine ex_lmul cg_76 (ix := 60) (pc' := 94) rfl rfl ?_
          refine ex_ladd cg_76 (ix := 61) (pc' := 95) rfl rfl ?_
          refine ex_lload cg_76 (ix := 62) (pc' := 97) rfl rfl rfl ?_
          refine ex_ladd cg_76 (ix := 63) (pc' := 98) rfl rfl ?_
          refine ex_lastore cg_76 (ix := 64) (pc' := 99) (h' := [(77, .inl (6, [.inr (.inl 78), .inr (.inl 79), .inr (.inl 80), .inr (.inl 81), .inr (.inl 85), .inr (.inl 86), .inl (.long bf), .inl (.int dl), .inl (.int ds), .inl (.int dr), .inl (.int md), .inl (.int bo)])), (80, .inr (.inr (.inl (32, g)))), (84, .inr (.inr (.inl (32, vp_updL (rowU (drF g dl ds dr) t k) i.toNatClampNeg ((((Int32.toInt64 dl) * (g i.toNatClampNeg)) + ((Int32.toInt64 ds) * (g i.toNatClampNeg))) + ((Int32.toInt64 dr) * (g i.toNatClampNeg)))))))]) rfl rfl (by omega) (by omega) rfl rfl ?_
          refine ex_iinc cg_76 (ix := 65) (pc' := 102) (L' := [some (.inr (.inl 77)), some (.inr (.inl 84)), some (.inl (.int (i + Int32.ofInt 1))), some (.inl (.long ((Int32.toInt64 dl) * (g i.toNatClampNeg)))), none, some (.inl (.long ((Int32.toInt64 dr) * (g i.toNatClampNeg)))), none]) rfl rfl rfl rfl rfl ?_
          refine ex_goto cg_76 (ix := 66) (pc' := 2) rfl rfl ?_
          have e1 : vp_updL (rowU (drF g dl ds dr) t k) i.toNatClampNeg ((((Int32.toInt64 dl) * (g i.toNatClampNeg)) + ((Int32.toInt64 ds) * (g i.toNatClampNeg))) + ((Int32.toInt64 dr) * (g i.toNatClampNeg))) = rowU (drF g dl ds dr) t (k + 1) := by
            rw [hik]
            refine rowU_L ?_
            unfold drF
            rw [if_neg (by omega), if_neg (by omega)]
          rw [e1]
          exact ih (k + 1) (by omega) _ (by rw [cx_addc (by omega) (by omega)]; omega) _ _ _ _
        · have hb45 : ¬ ((Int32.ofInt 31).toInt ≤ i.toInt) := hb45
          refine ex_aload_n cg_76 (ix := 30) (pc' := 49) rfl rfl rfl ?_
          refine ex_getfield cg_76 (ix := 31) (pc' := 52) rfl rfl rfl rfl rfl ?_
          refine ex_i2l cg_76 (ix := 32) (pc' := 53) rfl rfl ?_
          refine ex_aload_n cg_76 (ix := 33) (pc' := 54) rfl rfl rfl ?_
          refine ex_getfield cg_76 (ix := 34) (pc' := 57) rfl rfl rfl rfl rfl ?_
          refine ex_iload_n cg_76 (ix := 35) (pc' := 58) rfl rfl rfl ?_
          refine ex_iconst cg_76 (ix := 36) (pc' := 59) rfl rfl ?_
          refine ex_iadd cg_76 (ix := 37) (pc' := 60) rfl rfl ?_
          refine ex_laload cg_76 (ix := 38) (pc' := 61) rfl rfl (by rw [cx_addc (by omega) (by omega)]; omega) (by rw [cx_addc (by omega) (by omega)]; omega) rfl ?_
          refine ex_lmul cg_76 (ix := 39) (pc' := 62) rfl rfl ?_
          refine ex_goto cg_76 (ix := 40) (pc' := 77) rfl rfl ?_
          refine ex_lstore cg_76 (ix := 49) (pc' := 79) (L' := [some (.inr (.inl 77)), some (.inr (.inl 84)), some (.inl (.int i)), some (.inl (.long ((Int32.toInt64 dl) * (g i.toNatClampNeg)))), none, some (.inl (.long ((Int32.toInt64 dl) * (g (i + (Int32.ofInt 1)).toNatClampNeg)))), none]) rfl rfl rfl rfl ?_
          refine ex_aload_n cg_76 (ix := 50) (pc' := 80) rfl rfl rfl ?_
          refine ex_iload_n cg_76 (ix := 51) (pc' := 81) rfl rfl rfl ?_
          refine ex_lload_n cg_76 (ix := 52) (pc' := 82) rfl rfl rfl ?_
          refine ex_aload_n cg_76 (ix := 53) (pc' := 83) rfl rfl rfl ?_
          refine ex_getfield cg_76 (ix := 54) (pc' := 86) rfl rfl rfl rfl rfl ?_
          refine ex_i2l cg_76 (ix := 55) (pc' := 87) rfl rfl ?_
          refine ex_aload_n cg_76 (ix := 56) (pc' := 88) rfl rfl rfl ?_
          refine ex_getfield cg_76 (ix := 57) (pc' := 91) rfl rfl rfl rfl rfl ?_
          refine ex_iload_n cg_76 (ix := 58) (pc' := 92) rfl rfl rfl ?_
          refine ex_laload cg_76 (ix := 59) (pc' := 93) rfl rfl (by omega) (by omega) rfl ?_
          refine ex_lmul cg_76 (ix := 60) (pc' := 94) rfl rfl ?_
          refine ex_ladd cg_76 (ix := 61) (pc' := 95) rfl rfl ?_
          refine ex_lload cg_76 (ix := 62) (pc' := 97) rfl rfl rfl ?_
          refine ex_ladd cg_76 (ix := 63) (pc' := 98) rfl rfl ?_
          refine ex_lastore cg_76 (ix := 64) (pc' := 99) (h' := [(77, .inl (6, [.inr (.inl 78), .inr (.inl 79), .inr (.inl 80), .inr (.inl 81), .inr (.inl 85), .inr (.inl 86), .inl (.long bf), .inl (.int dl), .inl (.int ds), .inl (.int dr), .inl (.int md), .inl (.int bo)])), (80, .inr (.inr (.inl (32, g)))), (84, .inr (.inr (.inl (32, vp_updL (rowU (drF g dl ds dr) t k) i.toNatClampNeg ((((Int32.toInt64 dl) * (g i.toNatClampNeg)) + ((Int32.toInt64 ds) * (g i.toNatClampNeg))) + ((Int32.toInt64 dl) * (g (i + (Int32.ofInt 1)).toNatClampNeg)))))))]) rfl rfl (by omega) (by omega) rfl rfl ?_
          refine ex_iinc cg_76 (ix := 65) (pc' := 102) (L' := [some (.inr (.inl 77)), some (.inr (.inl 84)), some (.inl (.int (i + Int32.ofInt 1))), some (.inl (.long ((Int32.toInt64 dl) * (g i.toNatClampNeg)))), none, some (.inl (.long ((Int32.toInt64 dl) * (g (i + (Int32.ofInt 1)).toNatClampNeg)))), none]) rfl rfl rfl rfl rfl ?_
          refine ex_goto cg_76 (ix := 66) (pc' := 2) rfl rfl ?_
          have e1 : vp_updL (rowU (drF g dl ds dr) t k) i.toNatClampNeg ((((Int32.toInt64 dl) * (g i.toNatClampNeg)) + ((Int32.toInt64 ds) * (g i.toNatClampNeg))) + ((Int32.toInt64 dl) * (g (i + (Int32.ofInt 1)).toNatClampNeg))) = rowU (drF g dl ds dr) t (k + 1) := by
            have a2 : (i + Int32.ofInt 1).toNatClampNeg = k + 1 := cx_clamp (by rw [cx_addc (by omega) (by omega)]; omega)
            rw [hik, a2]
            refine rowU_L ?_
            unfold drF
            rw [if_neg (by omega), if_pos (by omega)]
          rw [e1]
          exact ih (k + 1) (by omega) _ (by rw [cx_addc (by omega) (by omega)]; omega) _ _ _ _
      · have hb9 : ¬ (i.toInt ≤ 0) := hb9
        refine ex_aload_n cg_76 (ix := 7) (pc' := 13) rfl rfl rfl ?_
        refine ex_getfield cg_76 (ix := 8) (pc' := 16) rfl rfl rfl rfl rfl ?_
        refine ex_i2l cg_76 (ix := 9) (pc' := 17) rfl rfl ?_
        refine ex_aload_n cg_76 (ix := 10) (pc' := 18) rfl rfl rfl ?_
        refine ex_getfield cg_76 (ix := 11) (pc' := 21) rfl rfl rfl rfl rfl ?_
        refine ex_iload_n cg_76 (ix := 12) (pc' := 22) rfl rfl rfl ?_
        refine ex_iconst cg_76 (ix := 13) (pc' := 23) rfl rfl ?_
        refine ex_isub cg_76 (ix := 14) (pc' := 24) rfl rfl ?_
        refine ex_laload cg_76 (ix := 15) (pc' := 25) rfl rfl (by rw [cx_subc (by omega) (by omega)]; omega) (by rw [cx_subc (by omega) (by omega)]; omega) rfl ?_
        refine ex_lmul cg_76 (ix := 16) (pc' := 26) rfl rfl ?_
        refine ex_goto cg_76 (ix := 17) (pc' := 41) rfl rfl ?_
        refine ex_lstore_n cg_76 (ix := 26) (pc' := 42) (L' := [some (.inr (.inl 77)), some (.inr (.inl 84)), some (.inl (.int i)), some (.inl (.long ((Int32.toInt64 dr) * (g (i - (Int32.ofInt 1)).toNatClampNeg)))), none, C, D]) rfl rfl rfl rfl ?_
        refine ex_iload_n cg_76 (ix := 27) (pc' := 43) rfl rfl rfl ?_
        refine ex_bipush cg_76 (ix := 28) (pc' := 45) rfl rfl rfl ?_
        refine ex_icmp cg_76 (ix := 29) (t := 65) (pc' := 48) rfl rfl rfl (fun hb45 => ?_) (fun hb45 => ?_)
        · have hb45 : (Int32.ofInt 31).toInt ≤ i.toInt := hb45
          refine ex_aload_n cg_76 (ix := 41) (pc' := 66) rfl rfl rfl ?_
          refine ex_getfield cg_76 (ix := 42) (pc' := 69) rfl rfl rfl rfl rfl ?_
          refine ex_i2l cg_76 (ix := 43) (pc' := 70) rfl rfl ?_
          refine ex_aload_n cg_76 (ix := 44) (pc' := 71) rfl rfl rfl ?_
          refine ex_getfield cg_76 (ix := 45) (pc' := 74) rfl rfl rfl rfl rfl ?_
          refine ex_iload_n cg_76 (ix := 46) (pc' := 75) rfl rfl rfl ?_
          refine ex_laload cg_76 (ix := 47) (pc' := 76) rfl rfl (by omega) (by omega) rfl ?_
          refine ex_lmul cg_76 (ix := 48) (pc' := 77) rfl rfl ?_
          refine ex_lstore cg_76 (ix := 49) (pc' := 79) (L' := [some (.inr (.inl 77)), some (.inr (.inl 84)), some (.inl (.int i)), some (.inl (.long ((Int32.toInt64 dr) * (g (i - (Int32.ofInt 1)).toNatClampNeg)))), none, some (.inl (.long ((Int32.toInt64 dr) * (g i.toNatClampNeg)))), none]) rfl rfl rfl rfl ?_
          refine ex_aload_n cg_76 (ix := 50) (pc' := 80) rfl rfl rfl ?_
          refine ex_iload_n cg_76 (ix := 51) (pc' := 81) rfl rfl rfl ?_
          refine ex_lload_n cg_76 (ix := 52) (pc' := 82) rfl rfl rfl ?_
          refine ex_aload_n cg_76 (ix := 53) (pc' := 83) rfl rfl rfl ?_
          refine ex_getfield cg_76 (ix := 54) (pc' := 86) rfl rfl rfl rfl rfl ?_
          refine ex_i2l cg_76 (ix := 55) (pc' := 87) rfl rfl ?_
          refine ex_aload_n cg_76 (ix := 56) (pc' := 88) rfl rfl rfl ?_
          refine ex_getfield cg_76 (ix := 57) (pc' := 91) rfl rfl rfl rfl rfl ?_
          refine ex_iload_n cg_76 (ix := 58) (pc' := 92) rfl rfl rfl ?_
          refine ex_laload cg_76 (ix := 59) (pc' := 93) rfl rfl (by omega) (by omega) rfl ?_
          refine ex_lmul cg_76 (ix := 60) (pc' := 94) rfl rfl ?_
          refine ex_ladd cg_76 (ix := 61) (pc' := 95) rfl rfl ?_
          refine ex_lload cg_76 (ix := 62) (pc' := 97) rfl rfl rfl ?_
          refine ex_ladd cg_76 (ix := 63) (pc' := 98) rfl rfl ?_
          refine ex_lastore cg_76 (ix := 64) (pc' := 99) (h' := [(77, .inl (6, [.inr (.inl 78), .inr (.inl 79), .inr (.inl 80), .inr (.inl 81), .inr (.inl 85), .inr (.inl 86), .inl (.long bf), .inl (.int dl), .inl (.int ds), .inl (.int dr), .inl (.int md), .inl (.int bo)])), (80, .inr (.inr (.inl (32, g)))), (84, .inr (.inr (.inl (32, vp_updL (rowU (drF g dl ds dr) t k) i.toNatClampNeg ((((Int32.toInt64 dr) * (g (i - (Int32.ofInt 1)).toNatClampNeg)) + ((Int32.toInt64 ds) * (g i.toNatClampNeg))) + ((Int32.toInt64 dr) * (g i.toNatClampNeg)))))))]) rfl rfl (by omega) (by omega) rfl rfl ?_
          refine ex_iinc cg_76 (ix := 65) (pc' := 102) (L' := [some (.inr (.inl 77)), some (.inr (.inl 84)), some (.inl (.int (i + Int32.ofInt 1))), some (.inl (.long ((Int32.toInt64 dr) * (g (i - (Int32.ofInt 1)).toNatClampNeg)))), none, some (.inl (.long ((Int32.toInt64 dr) * (g i.toNatClampNeg)))), none]) rfl rfl rfl rfl rfl ?_
          refine ex_goto cg_76 (ix := 66) (pc' := 2) rfl rfl ?_
          have e1 : vp_updL (rowU (drF g dl ds dr) t k) i.toNatClampNeg ((((Int32.toInt64 dr) * (g (i - (Int32.ofInt 1)).toNatClampNeg)) + ((Int32.toInt64 ds) * (g i.toNatClampNeg))) + ((Int32.toInt64 dr) * (g i.toNatClampNeg))) = rowU (drF g dl ds dr) t (k + 1) := by
            have a1 : (i - Int32.ofInt 1).toNatClampNeg = k - 1 := cx_clamp (by rw [cx_subc (by omega) (by omega)]; omega)
            rw [hik, a1]
            refine rowU_L ?_
            unfold drF
            rw [if_pos (by omega), if_neg (by omega)]
          rw [e1]
          exact ih (k + 1) (by omega) _ (by rw [cx_addc (by omega) (by omega)]; omega) _ _ _ _
        · have hb45 : ¬ ((Int32.ofInt 31).toInt ≤ i.toInt) := hb45
          refine ex_aload_n cg_76 (ix := 30) (pc' := 49) rfl rfl rfl ?_
          refine ex_getfield cg_76 (ix := 31) (pc' := 52) rfl rfl rfl rfl rfl ?_
          refine ex_i2l cg_76 (ix := 32) (pc' := 53) rfl rfl ?_
          refine ex_aload_n cg_76 (ix := 33) (pc' := 54) rfl rfl rfl ?_
          refine ex_getfield cg_76 (ix := 34) (pc' := 57) rfl rfl rfl rfl rfl ?_
          refine ex_iload_n cg_76 (ix := 35) (pc' := 58) rfl rfl rfl ?_
          refine ex_iconst cg_76 (ix := 36) (pc' := 59) rfl rfl ?_
          refine ex_iadd cg_76 (ix := 37) (pc' := 60) rfl rfl ?_
          refine ex_laload cg_76 (ix := 38) (pc' := 61) rfl rfl (by rw [cx_addc (by omega) (by omega)]; omega) (by rw [cx_addc (by omega) (by omega)]; omega) rfl ?_
          refine ex_lmul cg_76 (ix := 39) (pc' := 62) rfl rfl ?_
          refine ex_goto cg_76 (ix := 40) (pc' := 77) rfl rfl ?_
          refine ex_lstore cg_76 (ix := 49) (pc' := 79) (L' := [some (.inr (.inl 77)), some (.inr (.inl 84)), some (.inl (.int i)), some (.inl (.long ((Int32.toInt64 dr) * (g (i - (Int32.ofInt 1)).toNatClampNeg)))), none, some (.inl (.long ((Int32.toInt64 dl) * (g (i + (Int32.ofInt 1)).toNatClampNeg)))), none]) rfl rfl rfl rfl ?_
          refine ex_aload_n cg_76 (ix := 50) (pc' := 80) rfl rfl rfl ?_
          refine ex_iload_n cg_76 (ix := 51) (pc' := 81) rfl rfl rfl ?_
          refine ex_lload_n cg_76 (ix := 52) (pc' := 82) rfl rfl rfl ?_
          refine ex_aload_n cg_76 (ix := 53) (pc' := 83) rfl rfl rfl ?_
          refine ex_getfield cg_76 (ix := 54) (pc' := 86) rfl rfl rfl rfl rfl ?_
          refine ex_i2l cg_76 (ix := 55) (pc' := 87) rfl rfl ?_
          refine ex_aload_n cg_76 (ix := 56) (pc' := 88) rfl rfl rfl ?_
          refine ex_getfield cg_76 (ix := 57) (pc' := 91) rfl rfl rfl rfl rfl ?_
          refine ex_iload_n cg_76 (ix := 58) (pc' := 92) rfl rfl rfl ?_
          refine ex_laload cg_76 (ix := 59) (pc' := 93) rfl rfl (by omega) (by omega) rfl ?_
          refine ex_lmul cg_76 (ix := 60) (pc' := 94) rfl rfl ?_
          refine ex_ladd cg_76 (ix := 61) (pc' := 95) rfl rfl ?_
          refine ex_lload cg_76 (ix := 62) (pc' := 97) rfl rfl rfl ?_
          refine ex_ladd cg_76 (ix := 63) (pc' := 98) rfl rfl ?_
          refine ex_lastore cg_76 (ix := 64) (pc' := 99) (h' := [(77, .inl (6, [.inr (.inl 78), .inr (.inl 79), .inr (.inl 80), .inr (.inl 81), .inr (.inl 85), .inr (.inl 86), .inl (.long bf), .inl (.int dl), .inl (.int ds), .inl (.int dr), .inl (.int md), .inl (.int bo)])), (80, .inr (.inr (.inl (32, g)))), (84, .inr (.inr (.inl (32, vp_updL (rowU (drF g dl ds dr) t k) i.toNatClampNeg ((((Int32.toInt64 dr) * (g (i - (Int32.ofInt 1)).toNatClampNeg)) + ((Int32.toInt64 ds) * (g i.toNatClampNeg))) + ((Int32.toInt64 dl) * (g (i + (Int32.ofInt 1)).toNatClampNeg)))))))]) rfl rfl (by omega) (by omega) rfl rfl ?_
          refine ex_iinc cg_76 (ix := 65) (pc' := 102) (L' := [some (.inr (.inl 77)), some (.inr (.inl 84)), some (.inl (.int (i + Int32.ofInt 1))), some (.inl (.long ((Int32.toInt64 dr) * (g (i - (Int32.ofInt 1)).toNatClampNeg)))), none, some (.inl (.long ((Int32.toInt64 dl) * (g (i + (Int32.ofInt 1)).toNatClampNeg)))), none]) rfl rfl rfl rfl rfl ?_
          refine ex_goto cg_76 (ix := 66) (pc' := 2) rfl rfl ?_
          have e1 : vp_updL (rowU (drF g dl ds dr) t k) i.toNatClampNeg ((((Int32.toInt64 dr) * (g (i - (Int32.ofInt 1)).toNatClampNeg)) + ((Int32.toInt64 ds) * (g i.toNatClampNeg))) + ((Int32.toInt64 dl) * (g (i + (Int32.ofInt 1)).toNatClampNeg))) = rowU (drF g dl ds dr) t (k + 1) := by
            have a1 : (i - Int32.ofInt 1).toNatClampNeg = k - 1 := cx_clamp (by rw [cx_subc (by omega) (by omega)]; omega)
            have a2 : (i + Int32.ofInt 1).toNatClampNeg = k + 1 := cx_clamp (by rw [cx_addc (by omega) (by omega)]; omega)
            rw [hik, a1, a2]
            refine rowU_L ?_
            unfold drF
            rw [if_pos (by omega), if_pos (by omega)]
          rw [e1]
          exact ih (k + 1) (by omega) _ (by rw [cx_addc (by omega) (by omega)]; omega) _ _ _ _
theorem ct_cy84 {bf : Int64} {dl ds dr md bo : Int32} {g t : Nat → Int64} : cx_Ct 2 76 [.inr (.inl 77), .inr (.inl 84)] ([(77, .inl (6, [.inr (.inl 78), .inr (.inl 79), .inr (.inl 80), .inr (.inl 81), .inr (.inl 85), .inr (.inl 86), .inl (.long bf), .inl (.int dl), .inl (.int ds), .inl (.int dr), .inl (.int md), .inl (.int bo)])), (80, .inr (.inr (.inl (32, g)))), (84, .inr (.inr (.inl (32, t))))]) (fun v h2 => v = none ∧ h2 = [(77, .inl (6, [.inr (.inl 78), .inr (.inl 79), .inr (.inl 80), .inr (.inl 81), .inr (.inl 85), .inr (.inl 86), .inl (.long bf), .inl (.int dl), .inl (.int ds), .inl (.int dr), .inl (.int md), .inl (.int bo)])), (80, .inr (.inr (.inl (32, g)))), (84, .inr (.inr (.inl (32, rowU (drF g dl ds dr) t 32))))]) := by
  refine cx_Ct.of cg_76 (nL := 7) rfl rfl rfl ?_
  show cx_T 2 76 [77, 80, 84] 0 ([some (.inr (.inl 77)), some (.inr (.inl 84)), none, none, none, none, none], [], [(77, .inl (6, [.inr (.inl 78), .inr (.inl 79), .inr (.inl 80), .inr (.inl 81), .inr (.inl 85), .inr (.inl 86), .inl (.long bf), .inl (.int dl), .inl (.int ds), .inl (.int dr), .inl (.int md), .inl (.int bo)])), (80, .inr (.inr (.inl (32, g)))), (84, .inr (.inr (.inl (32, t))))]) _
  refine ex_iconst cg_76 (ix := 0) (pc' := 1) rfl rfl ?_
  refine ex_istore_n cg_76 (ix := 1) (pc' := 2) (L' := [some (.inr (.inl 77)), some (.inr (.inl 84)), some (.inl (.int (Int32.ofInt 0))), none, none, none, none]) rfl rfl rfl rfl ?_
  have e0 := cy_loop84 (d := 2) (g := g) (t := t) (bf := bf) (dl := dl) (ds := ds) (dr := dr) (md := md) (bo := bo) (P := fun v h2 => v = none ∧ h2 = [(77, .inl (6, [.inr (.inl 78), .inr (.inl 79), .inr (.inl 80), .inr (.inl 81), .inr (.inl 85), .inr (.inl 86), .inl (.long bf), .inl (.int dl), .inl (.int ds), .inl (.int dr), .inl (.int md), .inl (.int bo)])), (80, .inr (.inr (.inl (32, g)))), (84, .inr (.inr (.inl (32, rowU (drF g dl ds dr) t 32))))]) ⟨rfl, rfl⟩ 32 0 rfl (Int32.ofInt 0) (by decide +kernel) none none none none
  rw [rowU_0] at e0
  exact e0
theorem lt_loop79 {d : Nat} {bf : Int64} {dl ds dr md bo : Int32} {p q : Int32} {f g : Nat → Int64} {P : Option cx_V → cx_H → Prop}  (hP : P none ([(77, .inl (6, [.inr (.inl 78), .inr (.inl 79), .inr (.inl 80), .inr (.inl 81), .inr (.inl 85), .inr (.inl 86), .inl (.long bf), .inl (.int dl), .inl (.int ds), .inl (.int dr), .inl (.int md), .inl (.int bo)])), (79, .inr (.inr (.inl (32, f)))), (80, .inr (.inr (.inl (32, rowU (lkF f p q) g 32))))])) :
    ∀ (m k : Nat), k + m = 32 → ∀ i : Int32, i.toInt = (k : Int) → cx_T d 75 [77, 79, 80] 3 ([some (.inr (.inl 77)), some (.inr (.inl 79)), some (.inl (.int p)), some (.inl (.int q)), some (.inl (.int i))], [], [(77, .inl (6, [.inr (.inl 78), .inr (.inl 79), .inr (.inl 80), .inr (.inl 81), .inr (.inl 85), .inr (.inl 86), .inl (.long bf), .inl (.int dl), .inl (.int ds), .inl (.int dr), .inl (.int md), .inl (.int bo)])), (79, .inr (.inr (.inl (32, f)))), (80, .inr (.inr (.inl (32, rowU (lkF f p q) g k))))]) P := by
  have kc0 : (Int32.ofInt 0).toInt = 0 := by decide +kernel
  have kc1 : (Int32.ofInt 1).toInt = 1 := by decide +kernel
  have kc8 : (Int32.ofInt 8).toInt = 8 := by decide +kernel
  have kc32 : (Int32.ofInt 32).toInt = 32 := by decide +kernel
  intro m
  induction m with
  | zero =>
    intro k hk i hi 
    have ek : k = 32 := by omega
    subst ek
    refine ex_iload cg_75 (ix := 2) (pc' := 5) rfl rfl rfl ?_
    refine ex_bipush cg_75 (ix := 3) (pc' := 7) rfl rfl rfl ?_
    refine ex_icmp cg_75 (ix := 4) (t := 44) (pc' := 10) rfl rfl rfl (fun hb7 => ?_) (fun hb7 => ?_)
    · have hb7 : (Int32.ofInt 32).toInt ≤ i.toInt := hb7
      refine ex_return_ cg_75 (ix := 24) rfl ?_
      exact hP
    · have hb7 : ¬ ((Int32.ofInt 32).toInt ≤ i.toInt) := hb7
      exfalso; first | omega | exact absurd hb7 (by decide +kernel)
  | succ m ih =>
    intro k hk i hi 
    have hik : i.toNatClampNeg = k := cx_clamp hi
    refine ex_iload cg_75 (ix := 2) (pc' := 5) rfl rfl rfl ?_
    refine ex_bipush cg_75 (ix := 3) (pc' := 7) rfl rfl rfl ?_
    refine ex_icmp cg_75 (ix := 4) (t := 44) (pc' := 10) rfl rfl rfl (fun hb7 => ?_) (fun hb7 => ?_)
    · have hb7 : (Int32.ofInt 32).toInt ≤ i.toInt := hb7
      exfalso; first | omega | exact absurd hb7 (by decide +kernel)
    · have hb7 : ¬ ((Int32.ofInt 32).toInt ≤ i.toInt) := hb7
      refine ex_aload_n cg_75 (ix := 5) (pc' := 11) rfl rfl rfl ?_
      refine ex_getfield cg_75 (ix := 6) (pc' := 14) rfl rfl rfl rfl rfl ?_
      refine ex_iload cg_75 (ix := 7) (pc' := 16) rfl rfl rfl ?_
      refine ex_aload_n cg_75 (ix := 8) (pc' := 17) rfl rfl rfl ?_
      refine ex_iload cg_75 (ix := 9) (pc' := 19) rfl rfl rfl ?_
      refine ex_laload cg_75 (ix := 10) (pc' := 20) rfl rfl (by omega) (by omega) rfl ?_
      refine ex_iload cg_75 (ix := 11) (pc' := 22) rfl rfl rfl ?_
      refine ex_iload_n cg_75 (ix := 12) (pc' := 23) rfl rfl rfl ?_
      refine ex_icmp cg_75 (ix := 13) (t := 33) (pc' := 26) rfl rfl rfl (fun hb23 => ?_) (fun hb23 => ?_)
      · have hb23 : ¬ i.toInt = p.toInt := hb23
        refine ex_bipush cg_75 (ix := 18) (pc' := 35) rfl rfl rfl ?_
        refine ex_i2l cg_75 (ix := 19) (pc' := 36) rfl rfl ?_
        refine ex_lmul cg_75 (ix := 20) (pc' := 37) rfl rfl ?_
        refine ex_lastore cg_75 (ix := 21) (pc' := 38) (h' := [(77, .inl (6, [.inr (.inl 78), .inr (.inl 79), .inr (.inl 80), .inr (.inl 81), .inr (.inl 85), .inr (.inl 86), .inl (.long bf), .inl (.int dl), .inl (.int ds), .inl (.int dr), .inl (.int md), .inl (.int bo)])), (79, .inr (.inr (.inl (32, f)))), (80, .inr (.inr (.inl (32, vp_updL (rowU (lkF f p q) g k) i.toNatClampNeg ((f i.toNatClampNeg) * (Int32.toInt64 (Int32.ofInt 8)))))))]) rfl rfl (by omega) (by omega) rfl rfl ?_
        refine ex_iinc cg_75 (ix := 22) (pc' := 41) (L' := [some (.inr (.inl 77)), some (.inr (.inl 79)), some (.inl (.int p)), some (.inl (.int q)), some (.inl (.int (i + Int32.ofInt 1)))]) rfl rfl rfl rfl rfl ?_
        refine ex_goto cg_75 (ix := 23) (pc' := 3) rfl rfl ?_
        have e1 : vp_updL (rowU (lkF f p q) g k) i.toNatClampNeg ((f i.toNatClampNeg) * (Int32.toInt64 (Int32.ofInt 8))) = rowU (lkF f p q) g (k + 1) := by
          rw [hik]
          refine rowU_L ?_
          unfold lkF
          rw [if_neg (by omega)]
        rw [e1]
        exact ih (k + 1) (by omega) _ (by rw [cx_addc (by omega) (by omega)]; omega)
      · have hb23 : ¬ (¬ i.toInt = p.toInt) := hb23
        refine ex_bipush cg_75 (ix := 14) (pc' := 28) rfl rfl rfl ?_
        refine ex_iload_n cg_75 (ix := 15) (pc' := 29) rfl rfl rfl ?_
        refine ex_isub cg_75 (ix := 16) (pc' := 30) rfl rfl ?_
        refine ex_goto cg_75 (ix := 17) (pc' := 35) rfl rfl ?_
        refine ex_i2l cg_75 (ix := 19) (pc' := 36) rfl rfl ?_
        refine ex_lmul cg_75 (ix := 20) (pc' := 37) rfl rfl ?_
        refine ex_lastore cg_75 (ix := 21) (pc' := 38) (h' := [(77, .inl (6, [.inr (.inl 78), .inr (.inl 79), .inr (.inl 80), .inr (.inl 81), .inr (.inl 85), .inr (.inl 86), .inl (.long bf), .inl (.int dl), .inl (.int ds), .inl (.int dr), .inl (.int md), .inl (.int bo)])), (79, .inr (.inr (.inl (32, f)))), (80, .inr (.inr (.inl (32, vp_updL (rowU (lkF f p q) g k) i.toNatClampNeg ((f i.toNatClampNeg) * (Int32.toInt64 ((Int32.ofInt 8) - q)))))))]) rfl rfl (by omega) (by omega) rfl rfl ?_
        refine ex_iinc cg_75 (ix := 22) (pc' := 41) (L' := [some (.inr (.inl 77)), some (.inr (.inl 79)), some (.inl (.int p)), some (.inl (.int q)), some (.inl (.int (i + Int32.ofInt 1)))]) rfl rfl rfl rfl rfl ?_
        refine ex_goto cg_75 (ix := 23) (pc' := 3) rfl rfl ?_
        have e1 : vp_updL (rowU (lkF f p q) g k) i.toNatClampNeg ((f i.toNatClampNeg) * (Int32.toInt64 ((Int32.ofInt 8) - q))) = rowU (lkF f p q) g (k + 1) := by
          rw [hik]
          refine rowU_L ?_
          unfold lkF
          rw [if_pos (by omega)]
        rw [e1]
        exact ih (k + 1) (by omega) _ (by rw [cx_addc (by omega) (by omega)]; omega)
theorem ct_lt79 {bf : Int64} {dl ds dr md bo : Int32} {p q : Int32} {f g : Nat → Int64} : cx_Ct 2 75 [.inr (.inl 77), .inr (.inl 79), .inl (.int p), .inl (.int q)] ([(77, .inl (6, [.inr (.inl 78), .inr (.inl 79), .inr (.inl 80), .inr (.inl 81), .inr (.inl 85), .inr (.inl 86), .inl (.long bf), .inl (.int dl), .inl (.int ds), .inl (.int dr), .inl (.int md), .inl (.int bo)])), (79, .inr (.inr (.inl (32, f)))), (80, .inr (.inr (.inl (32, g))))]) (fun v h2 => v = none ∧ h2 = [(77, .inl (6, [.inr (.inl 78), .inr (.inl 79), .inr (.inl 80), .inr (.inl 81), .inr (.inl 85), .inr (.inl 86), .inl (.long bf), .inl (.int dl), .inl (.int ds), .inl (.int dr), .inl (.int md), .inl (.int bo)])), (79, .inr (.inr (.inl (32, f)))), (80, .inr (.inr (.inl (32, rowU (lkF f p q) g 32))))]) := by
  refine cx_Ct.of cg_75 (nL := 5) rfl rfl rfl ?_
  show cx_T 2 75 [77, 79, 80] 0 ([some (.inr (.inl 77)), some (.inr (.inl 79)), some (.inl (.int p)), some (.inl (.int q)), none], [], [(77, .inl (6, [.inr (.inl 78), .inr (.inl 79), .inr (.inl 80), .inr (.inl 81), .inr (.inl 85), .inr (.inl 86), .inl (.long bf), .inl (.int dl), .inl (.int ds), .inl (.int dr), .inl (.int md), .inl (.int bo)])), (79, .inr (.inr (.inl (32, f)))), (80, .inr (.inr (.inl (32, g))))]) _
  refine ex_iconst cg_75 (ix := 0) (pc' := 1) rfl rfl ?_
  refine ex_istore cg_75 (ix := 1) (pc' := 3) (L' := [some (.inr (.inl 77)), some (.inr (.inl 79)), some (.inl (.int p)), some (.inl (.int q)), some (.inl (.int (Int32.ofInt 0)))]) rfl rfl rfl rfl ?_
  have e0 := lt_loop79 (d := 2) (f := f) (g := g) (p := p) (q := q) (bf := bf) (dl := dl) (ds := ds) (dr := dr) (md := md) (bo := bo) (P := fun v h2 => v = none ∧ h2 = [(77, .inl (6, [.inr (.inl 78), .inr (.inl 79), .inr (.inl 80), .inr (.inl 81), .inr (.inl 85), .inr (.inl 86), .inl (.long bf), .inl (.int dl), .inl (.int ds), .inl (.int dr), .inl (.int md), .inl (.int bo)])), (79, .inr (.inr (.inl (32, f)))), (80, .inr (.inr (.inl (32, rowU (lkF f p q) g 32))))]) ⟨rfl, rfl⟩ 32 0 rfl (Int32.ofInt 0) (by decide +kernel)
  rw [rowU_0] at e0
  exact e0
theorem lt_loop82 {d : Nat} {bf : Int64} {dl ds dr md bo : Int32} {p q : Int32} {f g : Nat → Int64} {P : Option cx_V → cx_H → Prop}  (hP : P none ([(77, .inl (6, [.inr (.inl 78), .inr (.inl 79), .inr (.inl 80), .inr (.inl 81), .inr (.inl 85), .inr (.inl 86), .inl (.long bf), .inl (.int dl), .inl (.int ds), .inl (.int dr), .inl (.int md), .inl (.int bo)])), (82, .inr (.inr (.inl (32, f)))), (80, .inr (.inr (.inl (32, rowU (lkF f p q) g 32))))])) :
    ∀ (m k : Nat), k + m = 32 → ∀ i : Int32, i.toInt = (k : Int) → cx_T d 75 [77, 82, 80] 3 ([some (.inr (.inl 77)), some (.inr (.inl 82)), some (.inl (.int p)), some (.inl (.int q)), some (.inl (.int i))], [], [(77, .inl (6, [.inr (.inl 78), .inr (.inl 79), .inr (.inl 80), .inr (.inl 81), .inr (.inl 85), .inr (.inl 86), .inl (.long bf), .inl (.int dl), .inl (.int ds), .inl (.int dr), .inl (.int md), .inl (.int bo)])), (82, .inr (.inr (.inl (32, f)))), (80, .inr (.inr (.inl (32, rowU (lkF f p q) g k))))]) P := by
  have kc0 : (Int32.ofInt 0).toInt = 0 := by decide +kernel
  have kc1 : (Int32.ofInt 1).toInt = 1 := by decide +kernel
  have kc8 : (Int32.ofInt 8).toInt = 8 := by decide +kernel
  have kc32 : (Int32.ofInt 32).toInt = 32 := by decide +kernel
  intro m
  induction m with
  | zero =>
    intro k hk i hi 
    have ek : k = 32 := by omega
    subst ek
    refine ex_iload cg_75 (ix := 2) (pc' := 5) rfl rfl rfl ?_
    refine ex_bipush cg_75 (ix := 3) (pc' := 7) rfl rfl rfl ?_
    refine ex_icmp cg_75 (ix := 4) (t := 44) (pc' := 10) rfl rfl rfl (fun hb7 => ?_) (fun hb7 => ?_)
    · have hb7 : (Int32.ofInt 32).toInt ≤ i.toInt := hb7
      refine ex_return_ cg_75 (ix := 24) rfl ?_
      exact hP
    · have hb7 : ¬ ((Int32.ofInt 32).toInt ≤ i.toInt) := hb7
      exfalso; first | omega | exact absurd hb7 (by decide +kernel)
  | succ m ih =>
    intro k hk i hi 
    have hik : i.toNatClampNeg = k := cx_clamp hi
    refine ex_iload cg_75 (ix := 2) (pc' := 5) rfl rfl rfl ?_
    refine ex_bipush cg_75 (ix := 3) (pc' := 7) rfl rfl rfl ?_
    refine ex_icmp cg_75 (ix := 4) (t := 44) (pc' := 10) rfl rfl rfl (fun hb7 => ?_) (fun hb7 => ?_)
    · have hb7 : (Int32.ofInt 32).toInt ≤ i.toInt := hb7
      exfalso; first | omega | exact absurd hb7 (by decide +kernel)
    · have hb7 : ¬ ((Int32.ofInt 32).toInt ≤ i.toInt) := hb7
      refine ex_aload_n cg_75 (ix := 5) (pc' := 11) rfl rfl rfl ?_
      refine ex_getfield cg_75 (ix := 6) (pc' := 14) rfl rfl rfl rfl rfl ?_
      refine ex_iload cg_75 (ix := 7) (pc' := 16) rfl rfl rfl ?_
      refine ex_aload_n cg_75 (ix := 8) (pc' := 17) rfl rfl rfl ?_
      refine ex_iload cg_75 (ix := 9) (pc' := 19) rfl rfl rfl ?_
      refine ex_laload cg_75 (ix := 10) (pc' := 20) rfl rfl (by omega) (by omega) rfl ?_
      refine ex_iload cg_75 (ix := 11) (pc' := 22) rfl rfl rfl ?_
      refine ex_iload_n cg_75 (ix := 12) (pc' := 23) rfl rfl rfl ?_
      refine ex_icmp cg_75 (ix := 13) (t := 33) (pc' := 26) rfl rfl rfl (fun hb23 => ?_) (fun hb23 => ?_)
      · have hb23 : ¬ i.toInt = p.toInt := hb23
        refine ex_bipush cg_75 (ix := 18) (pc' := 35) rfl rfl rfl ?_
        refine ex_i2l cg_75 (ix := 19) (pc' := 36) rfl rfl ?_
        refine ex_lmul cg_75 (ix := 20) (pc' := 37) rfl rfl ?_
        refine ex_lastore cg_75 (ix := 21) (pc' := 38) (h' := [(77, .inl (6, [.inr (.inl 78), .inr (.inl 79), .inr (.inl 80), .inr (.inl 81), .inr (.inl 85), .inr (.inl 86), .inl (.long bf), .inl (.int dl), .inl (.int ds), .inl (.int dr), .inl (.int md), .inl (.int bo)])), (82, .inr (.inr (.inl (32, f)))), (80, .inr (.inr (.inl (32, vp_updL (rowU (lkF f p q) g k) i.toNatClampNeg ((f i.toNatClampNeg) * (Int32.toInt64 (Int32.ofInt 8)))))))]) rfl rfl (by omega) (by omega) rfl rfl ?_
        refine ex_iinc cg_75 (ix := 22) (pc' := 41) (L' := [some (.inr (.inl 77)), some (.inr (.inl 82)), some (.inl (.int p)), some (.inl (.int q)), some (.inl (.int (i + Int32.ofInt 1)))]) rfl rfl rfl rfl rfl ?_
        refine ex_goto cg_75 (ix := 23) (pc' := 3) rfl rfl ?_
        have e1 : vp_updL (rowU (lkF f p q) g k) i.toNatClampNeg ((f i.toNatClampNeg) * (Int32.toInt64 (Int32.ofInt 8))) = rowU (lkF f p q) g (k + 1) := by
          rw [hik]
          refine rowU_L ?_
          unfold lkF
          rw [if_neg (by omega)]
        rw [e1]
        exact ih (k + 1) (by omega) _ (by rw [cx_addc (by omega) (by omega)]; omega)
      · have hb23 : ¬ (¬ i.toInt = p.toInt) := hb23
        refine ex_bipush cg_75 (ix := 14) (pc' := 28) rfl rfl rfl ?_
        refine ex_iload_n cg_75 (ix := 15) (pc' := 29) rfl rfl rfl ?_
        refine ex_isub cg_75 (ix := 16) (pc' := 30) rfl rfl ?_
        refine ex_goto cg_75 (ix := 17) (pc' := 35) rfl rfl ?_
        refine ex_i2l cg_75 (ix := 19) (pc' := 36) rfl rfl ?_
        refine ex_lmul cg_75 (ix := 20) (pc' := 37) rfl rfl ?_
        refine ex_lastore cg_75 (ix := 21) (pc' := 38) (h' := [(77, .inl (6, [.inr (.inl 78), .inr (.inl 79), .inr (.inl 80), .inr (.inl 81), .inr (.inl 85), .inr (.inl 86), .inl (.long bf), .inl (.int dl), .inl (.int ds), .inl (.int dr), .inl (.int md), .inl (.int bo)])), (82, .inr (.inr (.inl (32, f)))), (80, .inr (.inr (.inl (32, vp_updL (rowU (lkF f p q) g k) i.toNatClampNeg ((f i.toNatClampNeg) * (Int32.toInt64 ((Int32.ofInt 8) - q)))))))]) rfl rfl (by omega) (by omega) rfl rfl ?_
        refine ex_iinc cg_75 (ix := 22) (pc' := 41) (L' := [some (.inr (.inl 77)), some (.inr (.inl 82)), some (.inl (.int p)), some (.inl (.int q)), some (.inl (.int (i + Int32.ofInt 1)))]) rfl rfl rfl rfl rfl ?_
        refine ex_goto cg_75 (ix := 23) (pc' := 3) rfl rfl ?_
        have e1 : vp_updL (rowU (lkF f p q) g k) i.toNatClampNeg ((f i.toNatClampNeg) * (Int32.toInt64 ((Int32.ofInt 8) - q))) = rowU (lkF f p q) g (k + 1) := by
          rw [hik]
          refine rowU_L ?_
          unfold lkF
          rw [if_pos (by omega)]
        rw [e1]
        exact ih (k + 1) (by omega) _ (by rw [cx_addc (by omega) (by omega)]; omega)
theorem ct_lt82 {bf : Int64} {dl ds dr md bo : Int32} {p q : Int32} {f g : Nat → Int64} : cx_Ct 2 75 [.inr (.inl 77), .inr (.inl 82), .inl (.int p), .inl (.int q)] ([(77, .inl (6, [.inr (.inl 78), .inr (.inl 79), .inr (.inl 80), .inr (.inl 81), .inr (.inl 85), .inr (.inl 86), .inl (.long bf), .inl (.int dl), .inl (.int ds), .inl (.int dr), .inl (.int md), .inl (.int bo)])), (82, .inr (.inr (.inl (32, f)))), (80, .inr (.inr (.inl (32, g))))]) (fun v h2 => v = none ∧ h2 = [(77, .inl (6, [.inr (.inl 78), .inr (.inl 79), .inr (.inl 80), .inr (.inl 81), .inr (.inl 85), .inr (.inl 86), .inl (.long bf), .inl (.int dl), .inl (.int ds), .inl (.int dr), .inl (.int md), .inl (.int bo)])), (82, .inr (.inr (.inl (32, f)))), (80, .inr (.inr (.inl (32, rowU (lkF f p q) g 32))))]) := by
  refine cx_Ct.of cg_75 (nL := 5) rfl rfl rfl ?_
  show cx_T 2 75 [77, 82, 80] 0 ([some (.inr (.inl 77)), some (.inr (.inl 82)), some (.inl (.int p)), some (.inl (.int q)), none], [], [(77, .inl (6, [.inr (.inl 78), .inr (.inl 79), .inr (.inl 80), .inr (.inl 81), .inr (.inl 85), .inr (.inl 86), .inl (.long bf), .inl (.int dl), .inl (.int ds), .inl (.int dr), .inl (.int md), .inl (.int bo)])), (82, .inr (.inr (.inl (32, f)))), (80, .inr (.inr (.inl (32, g))))]) _
  refine ex_iconst cg_75 (ix := 0) (pc' := 1) rfl rfl ?_
  refine ex_istore cg_75 (ix := 1) (pc' := 3) (L' := [some (.inr (.inl 77)), some (.inr (.inl 82)), some (.inl (.int p)), some (.inl (.int q)), some (.inl (.int (Int32.ofInt 0)))]) rfl rfl rfl rfl ?_
  have e0 := lt_loop82 (d := 2) (f := f) (g := g) (p := p) (q := q) (bf := bf) (dl := dl) (ds := ds) (dr := dr) (md := md) (bo := bo) (P := fun v h2 => v = none ∧ h2 = [(77, .inl (6, [.inr (.inl 78), .inr (.inl 79), .inr (.inl 80), .inr (.inl 81), .inr (.inl 85), .inr (.inl 86), .inl (.long bf), .inl (.int dl), .inl (.int ds), .inl (.int dr), .inl (.int md), .inl (.int bo)])), (82, .inr (.inr (.inl (32, f)))), (80, .inr (.inr (.inl (32, rowU (lkF f p q) g 32))))]) ⟨rfl, rfl⟩ 32 0 rfl (Int32.ofInt 0) (by decide +kernel)
  rw [rowU_0] at e0
  exact e0
theorem lt_loop83 {d : Nat} {bf : Int64} {dl ds dr md bo : Int32} {p q : Int32} {f g : Nat → Int64} {P : Option cx_V → cx_H → Prop}  (hP : P none ([(77, .inl (6, [.inr (.inl 78), .inr (.inl 79), .inr (.inl 80), .inr (.inl 81), .inr (.inl 85), .inr (.inl 86), .inl (.long bf), .inl (.int dl), .inl (.int ds), .inl (.int dr), .inl (.int md), .inl (.int bo)])), (83, .inr (.inr (.inl (32, f)))), (80, .inr (.inr (.inl (32, rowU (lkF f p q) g 32))))])) :
    ∀ (m k : Nat), k + m = 32 → ∀ i : Int32, i.toInt = (k : Int) → cx_T d 75 [77, 83, 80] 3 ([some (.inr (.inl 77)), some (.inr (.inl 83)), some (.inl (.int p)), some (.inl (.int q)), some (.inl (.int i))], [], [(77, .inl (6, [.inr (.inl 78), .inr (.inl 79), .inr (.inl 80), .inr (.inl 81), .inr (.inl 85), .inr (.inl 86), .inl (.long bf), .inl (.int dl), .inl (.int ds), .inl (.int dr), .inl (.int md), .inl (.int bo)])), (83, .inr (.inr (.inl (32, f)))), (80, .inr (.inr (.inl (32, rowU (lkF f p q) g k))))]) P := by
  have kc0 : (Int32.ofInt 0).toInt = 0 := by decide +kernel
  have kc1 : (Int32.ofInt 1).toInt = 1 := by decide +kernel
  have kc8 : (Int32.ofInt 8).toInt = 8 := by decide +kernel
  have kc32 : (Int32.ofInt 32).toInt = 32 := by decide +kernel
  intro m
  induction m with
  | zero =>
    intro k hk i hi 
    have ek : k = 32 := by omega
    subst ek
    refine ex_iload cg_75 (ix := 2) (pc' := 5) rfl rfl rfl ?_
    refine ex_bipush cg_75 (ix := 3) (pc' := 7) rfl rfl rfl ?_
    refine ex_icmp cg_75 (ix := 4) (t := 44) (pc' := 10) rfl rfl rfl (fun hb7 => ?_) (fun hb7 => ?_)
    · have hb7 : (Int32.ofInt 32).toInt ≤ i.toInt := hb7
      refine ex_return_ cg_75 (ix := 24) rfl ?_
      exact hP
    · have hb7 : ¬ ((Int32.ofInt 32).toInt ≤ i.toInt) := hb7
      exfalso; first | omega | exact absurd hb7 (by decide +kernel)
  | succ m ih =>
    intro k hk i hi 
    have hik : i.toNatClampNeg = k := cx_clamp hi
    refine ex_iload cg_75 (ix := 2) (pc' := 5) rfl rfl rfl ?_
    refine ex_bipush cg_75 (ix := 3) (pc' := 7) rfl rfl rfl ?_
    refine ex_icmp cg_75 (ix := 4) (t := 44) (pc' := 10) rfl rfl rfl (fun hb7 => ?_) (fun hb7 => ?_)
    · have hb7 : (Int32.ofInt 32).toInt ≤ i.toInt := hb7
      exfalso; first | omega | exact absurd hb7 (by decide +kernel)
    · have hb7 : ¬ ((Int32.ofInt 32).toInt ≤ i.toInt) := hb7
      refine ex_aload_n cg_75 (ix := 5) (pc' := 11) rfl rfl rfl ?_
      refine ex_getfield cg_75 (ix := 6) (pc' := 14) rfl rfl rfl rfl rfl ?_
      refine ex_iload cg_75 (ix := 7) (pc' := 16) rfl rfl rfl ?_
      refine ex_aload_n cg_75 (ix := 8) (pc' := 17) rfl rfl rfl ?_
      refine ex_iload cg_75 (ix := 9) (pc' := 19) rfl rfl rfl ?_
      refine ex_laload cg_75 (ix := 10) (pc' := 20) rfl rfl (by omega) (by omega) rfl ?_
      refine ex_iload cg_75 (ix := 11) (pc' := 22) rfl rfl rfl ?_
      refine ex_iload_n cg_75 (ix := 12) (pc' := 23) rfl rfl rfl ?_
      refine ex_icmp cg_75 (ix := 13) (t := 33) (pc' := 26) rfl rfl rfl (fun hb23 => ?_) (fun hb23 => ?_)
      · have hb23 : ¬ i.toInt = p.toInt := hb23
        refine ex_bipush cg_75 (ix := 18) (pc' := 35) rfl rfl rfl ?_
        refine ex_i2l cg_75 (ix := 19) (pc' := 36) rfl rfl ?_
        refine ex_lmul cg_75 (ix := 20) (pc' := 37) rfl rfl ?_
        refine ex_lastore cg_75 (ix := 21) (pc' := 38) (h' := [(77, .inl (6, [.inr (.inl 78), .inr (.inl 79), .inr (.inl 80), .inr (.inl 81), .inr (.inl 85), .inr (.inl 86), .inl (.long bf), .inl (.int dl), .inl (.int ds), .inl (.int dr), .inl (.int md), .inl (.int bo)])), (83, .inr (.inr (.inl (32, f)))), (80, .inr (.inr (.inl (32, vp_updL (rowU (lkF f p q) g k) i.toNatClampNeg ((f i.toNatClampNeg) * (Int32.toInt64 (Int32.ofInt 8)))))))]) rfl rfl (by omega) (by omega) rfl rfl ?_
        refine ex_iinc cg_75 (ix := 22) (pc' := 41) (L' := [some (.inr (.inl 77)), some (.inr (.inl 83)), some (.inl (.int p)), some (.inl (.int q)), some (.inl (.int (i + Int32.ofInt 1)))]) rfl rfl rfl rfl rfl ?_
        refine ex_goto cg_75 (ix := 23) (pc' := 3) rfl rfl ?_
        have e1 : vp_updL (rowU (lkF f p q) g k) i.toNatClampNeg ((f i.toNatClampNeg) * (Int32.toInt64 (Int32.ofInt 8))) = rowU (lkF f p q) g (k + 1) := by
          rw [hik]
          refine rowU_L ?_
          unfold lkF
          rw [if_neg (by omega)]
        rw [e1]
        exact ih (k + 1) (by omega) _ (by rw [cx_addc (by omega) (by omega)]; omega)
      · have hb23 : ¬ (¬ i.toInt = p.toInt) := hb23
        refine ex_bipush cg_75 (ix := 14) (pc' := 28) rfl rfl rfl ?_
        refine ex_iload_n cg_75 (ix := 15) (pc' := 29) rfl rfl rfl ?_
        refine ex_isub cg_75 (ix := 16) (pc' := 30) rfl rfl ?_
        refine ex_goto cg_75 (ix := 17) (pc' := 35) rfl rfl ?_
        refine ex_i2l cg_75 (ix := 19) (pc' := 36) rfl rfl ?_
        refine ex_lmul cg_75 (ix := 20) (pc' := 37) rfl rfl ?_
        refine ex_lastore cg_75 (ix := 21) (pc' := 38) (h' := [(77, .inl (6, [.inr (.inl 78), .inr (.inl 79), .inr (.inl 80), .inr (.inl 81), .inr (.inl 85), .inr (.inl 86), .inl (.long bf), .inl (.int dl), .inl (.int ds), .inl (.int dr), .inl (.int md), .inl (.int bo)])), (83, .inr (.inr (.inl (32, f)))), (80, .inr (.inr (.inl (32, vp_updL (rowU (lkF f p q) g k) i.toNatClampNeg ((f i.toNatClampNeg) * (Int32.toInt64 ((Int32.ofInt 8) - q)))))))]) rfl rfl (by omega) (by omega) rfl rfl ?_
        refine ex_iinc cg_75 (ix := 22) (pc' := 41) (L' := [some (.inr (.inl 77)), some (.inr (.inl 83)), some (.inl (.int p)), some (.inl (.int q)), some (.inl (.int (i + Int32.ofInt 1)))]) rfl rfl rfl rfl rfl ?_
        refine ex_goto cg_75 (ix := 23) (pc' := 3) rfl rfl ?_
        have e1 : vp_updL (rowU (lkF f p q) g k) i.toNatClampNeg ((f i.toNatClampNeg) * (Int32.toInt64 ((Int32.ofInt 8) - q))) = rowU (lkF f p q) g (k + 1) := by
          rw [hik]
          refine rowU_L ?_
          unfold lkF
          rw [if_pos (by omega)]
        rw [e1]
        exact ih (k + 1) (by omega) _ (by rw [cx_addc (by omega) (by omega)]; omega)
theorem ct_lt83 {bf : Int64} {dl ds dr md bo : Int32} {p q : Int32} {f g : Nat → Int64} : cx_Ct 2 75 [.inr (.inl 77), .inr (.inl 83), .inl (.int p), .inl (.int q)] ([(77, .inl (6, [.inr (.inl 78), .inr (.inl 79), .inr (.inl 80), .inr (.inl 81), .inr (.inl 85), .inr (.inl 86), .inl (.long bf), .inl (.int dl), .inl (.int ds), .inl (.int dr), .inl (.int md), .inl (.int bo)])), (83, .inr (.inr (.inl (32, f)))), (80, .inr (.inr (.inl (32, g))))]) (fun v h2 => v = none ∧ h2 = [(77, .inl (6, [.inr (.inl 78), .inr (.inl 79), .inr (.inl 80), .inr (.inl 81), .inr (.inl 85), .inr (.inl 86), .inl (.long bf), .inl (.int dl), .inl (.int ds), .inl (.int dr), .inl (.int md), .inl (.int bo)])), (83, .inr (.inr (.inl (32, f)))), (80, .inr (.inr (.inl (32, rowU (lkF f p q) g 32))))]) := by
  refine cx_Ct.of cg_75 (nL := 5) rfl rfl rfl ?_
  show cx_T 2 75 [77, 83, 80] 0 ([some (.inr (.inl 77)), some (.inr (.inl 83)), some (.inl (.int p)), some (.inl (.int q)), none], [], [(77, .inl (6, [.inr (.inl 78), .inr (.inl 79), .inr (.inl 80), .inr (.inl 81), .inr (.inl 85), .inr (.inl 86), .inl (.long bf), .inl (.int dl), .inl (.int ds), .inl (.int dr), .inl (.int md), .inl (.int bo)])), (83, .inr (.inr (.inl (32, f)))), (80, .inr (.inr (.inl (32, g))))]) _
  refine ex_iconst cg_75 (ix := 0) (pc' := 1) rfl rfl ?_
  refine ex_istore cg_75 (ix := 1) (pc' := 3) (L' := [some (.inr (.inl 77)), some (.inr (.inl 83)), some (.inl (.int p)), some (.inl (.int q)), some (.inl (.int (Int32.ofInt 0)))]) rfl rfl rfl rfl ?_
  have e0 := lt_loop83 (d := 2) (f := f) (g := g) (p := p) (q := q) (bf := bf) (dl := dl) (ds := ds) (dr := dr) (md := md) (bo := bo) (P := fun v h2 => v = none ∧ h2 = [(77, .inl (6, [.inr (.inl 78), .inr (.inl 79), .inr (.inl 80), .inr (.inl 81), .inr (.inl 85), .inr (.inl 86), .inl (.long bf), .inl (.int dl), .inl (.int ds), .inl (.int dr), .inl (.int md), .inl (.int bo)])), (83, .inr (.inr (.inl (32, f)))), (80, .inr (.inr (.inl (32, rowU (lkF f p q) g 32))))]) ⟨rfl, rfl⟩ 32 0 rfl (Int32.ofInt 0) (by decide +kernel)
  rw [rowU_0] at e0
  exact e0
theorem ct_pm {bf : Int64} {dl ds dr md bo : Int32} {f g : Nat → Int64} : cx_Ct 3 73 [.inr (.inl 77)] ([(77, .inl (6, [.inr (.inl 78), .inr (.inl 79), .inr (.inl 80), .inr (.inl 81), .inr (.inl 85), .inr (.inl 86), .inl (.long bf), .inl (.int dl), .inl (.int ds), .inl (.int dr), .inl (.int md), .inl (.int bo)])), (79, .inr (.inr (.inl (32, f)))), (80, .inr (.inr (.inl (32, g))))]) (fun v h2 => ∃ f2 g2 : Nat → Int64, v = some (.inl (.int (md + Int32.ofInt 1))) ∧ h2 = [(77, .inl (6, [.inr (.inl 78), .inr (.inl 79), .inr (.inl 80), .inr (.inl 81), .inr (.inl 85), .inr (.inl 86), .inl (.long bf), .inl (.int dl), .inl (.int ds), .inl (.int dr), .inl (.int (md + Int32.ofInt 1)), .inl (.int bo)])), (79, .inr (.inr (.inl (32, f2)))), (80, .inr (.inr (.inl (32, g2))))] ∧ ∀ x : Nat, x < 32 → f2 x = drF f dl ds dr x) := by
  refine cx_Ct.of cg_73 (nL := 1) rfl rfl rfl ?_
  show cx_T 3 73 [77, 79, 80] 0 ([some (.inr (.inl 77))], [], [(77, .inl (6, [.inr (.inl 78), .inr (.inl 79), .inr (.inl 80), .inr (.inl 81), .inr (.inl 85), .inr (.inl 86), .inl (.long bf), .inl (.int dl), .inl (.int ds), .inl (.int dr), .inl (.int md), .inl (.int bo)])), (79, .inr (.inr (.inl (32, f)))), (80, .inr (.inr (.inl (32, g))))]) _
  refine ex_aload_n cg_73 (ix := 0) (pc' := 1) rfl rfl rfl ?_
  refine ex_getfield cg_73 (ix := 1) (pc' := 4) rfl rfl rfl rfl rfl ?_
  refine ex_iconst cg_73 (ix := 2) (pc' := 5) rfl rfl ?_
  refine ex_aload_n cg_73 (ix := 3) (pc' := 6) rfl rfl rfl ?_
  refine ex_getfield cg_73 (ix := 4) (pc' := 9) rfl rfl rfl rfl rfl ?_
  refine ex_iconst cg_73 (ix := 5) (pc' := 10) rfl rfl ?_
  refine ex_bipush cg_73 (ix := 6) (pc' := 12) rfl rfl rfl ?_
  refine ex_copyL cg_73 (ix := 7) (pc' := 15) (h' := [(77, .inl (6, [.inr (.inl 78), .inr (.inl 79), .inr (.inl 80), .inr (.inl 81), .inr (.inl 85), .inr (.inl 86), .inl (.long bf), .inl (.int dl), .inl (.int ds), .inl (.int dr), .inl (.int md), .inl (.int bo)])), (79, .inr (.inr (.inl (32, f)))), (80, .inr (.inr (.inl (32, va_cpy f g 0 0 (Int32.ofInt 32).toNatClampNeg))))]) rfl rfl (by first | decide | omega) rfl rfl rfl (by decide +kernel) (by decide +kernel) (by decide +kernel) rfl rfl ?_
  refine ex_aload_n cg_73 (ix := 8) (pc' := 16) rfl rfl rfl ?_
  refine ex_aload_n cg_73 (ix := 9) (pc' := 17) rfl rfl rfl ?_
  refine ex_getfield cg_73 (ix := 10) (pc' := 20) rfl rfl rfl rfl rfl ?_
  refine ex_callV cg_73 (ix := 11) (pc' := 23) (As := [.inr (.inl 79)]) (r := []) rfl rfl rfl (ct_cy79 (bf := bf) (dl := dl) (ds := ds) (dr := dr) (md := md) (bo := bo) (g := va_cpy f g 0 0 (Int32.ofInt 32).toNatClampNeg) (t := f)) (by first | decide | omega) rfl rfl rfl ⟨rfl, rfl, rfl, trivial⟩ rfl rfl (fun v h2 hq => ?_)
  obtain ⟨rfl, rfl⟩ := hq
  show cx_T _ 73 _ 23 ([some (.inr (.inl 77))], [], [(77, .inl (6, [.inr (.inl 78), .inr (.inl 79), .inr (.inl 80), .inr (.inl 81), .inr (.inl 85), .inr (.inl 86), .inl (.long bf), .inl (.int dl), .inl (.int ds), .inl (.int dr), .inl (.int md), .inl (.int bo)])), (79, .inr (.inr (.inl (32, rowU (drF (va_cpy f g 0 0 (Int32.ofInt 32).toNatClampNeg) dl ds dr) f 32)))), (80, .inr (.inr (.inl (32, va_cpy f g 0 0 (Int32.ofInt 32).toNatClampNeg))))]) _
  refine ex_aload_n cg_73 (ix := 12) (pc' := 24) rfl rfl rfl ?_
  refine ex_dup cg_73 (ix := 13) (pc' := 25) rfl rfl rfl ?_
  refine ex_getfield cg_73 (ix := 14) (pc' := 28) rfl rfl rfl rfl rfl ?_
  refine ex_iconst cg_73 (ix := 15) (pc' := 29) rfl rfl ?_
  refine ex_iadd cg_73 (ix := 16) (pc' := 30) rfl rfl ?_
  refine ex_putfield cg_73 (ix := 17) (pc' := 33) (h' := [(77, .inl (6, [.inr (.inl 78), .inr (.inl 79), .inr (.inl 80), .inr (.inl 81), .inr (.inl 85), .inr (.inl 86), .inl (.long bf), .inl (.int dl), .inl (.int ds), .inl (.int dr), .inl (.int (md + (Int32.ofInt 1))), .inl (.int bo)])), (79, .inr (.inr (.inl (32, rowU (drF (va_cpy f g 0 0 (Int32.ofInt 32).toNatClampNeg) dl ds dr) f 32)))), (80, .inr (.inr (.inl (32, va_cpy f g 0 0 (Int32.ofInt 32).toNatClampNeg))))]) rfl rfl rfl rfl rfl rfl rfl rfl ?_
  refine ex_aload_n cg_73 (ix := 18) (pc' := 34) rfl rfl rfl ?_
  refine ex_getfield cg_73 (ix := 19) (pc' := 37) rfl rfl rfl rfl rfl ?_
  refine ex_ireturn cg_73 (ix := 20) rfl ?_
  exact ⟨_, _, rfl, rfl, fun x hx => by rw [rowU_in hx]; exact drF_E (fun y hy => cpy_in hy) hx⟩
theorem ct_lka {bf : Int64} {dl ds dr md bo : Int32} {p q : Int32} {f g : Nat → Int64} : cx_Ct 3 74 [.inr (.inl 77), .inl (.int p), .inl (.int q)] ([(77, .inl (6, [.inr (.inl 78), .inr (.inl 79), .inr (.inl 80), .inr (.inl 81), .inr (.inl 85), .inr (.inl 86), .inl (.long bf), .inl (.int dl), .inl (.int ds), .inl (.int dr), .inl (.int md), .inl (.int bo)])), (79, .inr (.inr (.inl (32, f)))), (80, .inr (.inr (.inl (32, g))))]) (fun v h2 => ∃ f2 g2 : Nat → Int64, v = some (.inl (.int (md + Int32.ofInt 1))) ∧ h2 = [(77, .inl (6, [.inr (.inl 78), .inr (.inl 79), .inr (.inl 80), .inr (.inl 81), .inr (.inl 85), .inr (.inl 86), .inl (.long bf), .inl (.int dl), .inl (.int ds), .inl (.int dr), .inl (.int (md + Int32.ofInt 1)), .inl (.int bo)])), (79, .inr (.inr (.inl (32, f2)))), (80, .inr (.inr (.inl (32, g2))))] ∧ ∀ x : Nat, x < 32 → f2 x = lkF f p q x) := by
  refine cx_Ct.of cg_74 (nL := 3) rfl rfl rfl ?_
  show cx_T 3 74 [77, 79, 80] 0 ([some (.inr (.inl 77)), some (.inl (.int p)), some (.inl (.int q))], [], [(77, .inl (6, [.inr (.inl 78), .inr (.inl 79), .inr (.inl 80), .inr (.inl 81), .inr (.inl 85), .inr (.inl 86), .inl (.long bf), .inl (.int dl), .inl (.int ds), .inl (.int dr), .inl (.int md), .inl (.int bo)])), (79, .inr (.inr (.inl (32, f)))), (80, .inr (.inr (.inl (32, g))))]) _
  refine ex_aload_n cg_74 (ix := 0) (pc' := 1) rfl rfl rfl ?_
  refine ex_aload_n cg_74 (ix := 1) (pc' := 2) rfl rfl rfl ?_
  refine ex_getfield cg_74 (ix := 2) (pc' := 5) rfl rfl rfl rfl rfl ?_
  refine ex_iload_n cg_74 (ix := 3) (pc' := 6) rfl rfl rfl ?_
  refine ex_iload_n cg_74 (ix := 4) (pc' := 7) rfl rfl rfl ?_
  refine ex_callV cg_74 (ix := 5) (pc' := 10) (As := [.inr (.inl 79), .inl (.int p), .inl (.int q)]) (r := []) rfl rfl rfl (ct_lt79 (bf := bf) (dl := dl) (ds := ds) (dr := dr) (md := md) (bo := bo) (f := f) (g := g) (p := p) (q := q)) (by first | decide | omega) rfl rfl rfl ⟨rfl, rfl, rfl, trivial⟩ rfl rfl (fun v h2 hq => ?_)
  obtain ⟨rfl, rfl⟩ := hq
  show cx_T _ 74 _ 10 ([some (.inr (.inl 77)), some (.inl (.int p)), some (.inl (.int q))], [], [(77, .inl (6, [.inr (.inl 78), .inr (.inl 79), .inr (.inl 80), .inr (.inl 81), .inr (.inl 85), .inr (.inl 86), .inl (.long bf), .inl (.int dl), .inl (.int ds), .inl (.int dr), .inl (.int md), .inl (.int bo)])), (79, .inr (.inr (.inl (32, f)))), (80, .inr (.inr (.inl (32, rowU (lkF f p q) g 32))))]) _
  refine ex_aload_n cg_74 (ix := 6) (pc' := 11) rfl rfl rfl ?_
  refine ex_getfield cg_74 (ix := 7) (pc' := 14) rfl rfl rfl rfl rfl ?_
  refine ex_iconst cg_74 (ix := 8) (pc' := 15) rfl rfl ?_
  refine ex_aload_n cg_74 (ix := 9) (pc' := 16) rfl rfl rfl ?_
  refine ex_getfield cg_74 (ix := 10) (pc' := 19) rfl rfl rfl rfl rfl ?_
  refine ex_iconst cg_74 (ix := 11) (pc' := 20) rfl rfl ?_
  refine ex_bipush cg_74 (ix := 12) (pc' := 22) rfl rfl rfl ?_
  refine ex_copyL cg_74 (ix := 13) (pc' := 25) (h' := [(77, .inl (6, [.inr (.inl 78), .inr (.inl 79), .inr (.inl 80), .inr (.inl 81), .inr (.inl 85), .inr (.inl 86), .inl (.long bf), .inl (.int dl), .inl (.int ds), .inl (.int dr), .inl (.int md), .inl (.int bo)])), (79, .inr (.inr (.inl (32, va_cpy (rowU (lkF f p q) g 32) f 0 0 (Int32.ofInt 32).toNatClampNeg)))), (80, .inr (.inr (.inl (32, rowU (lkF f p q) g 32))))]) rfl rfl (by first | decide | omega) rfl rfl rfl (by decide +kernel) (by decide +kernel) (by decide +kernel) rfl rfl ?_
  refine ex_aload_n cg_74 (ix := 14) (pc' := 26) rfl rfl rfl ?_
  refine ex_dup cg_74 (ix := 15) (pc' := 27) rfl rfl rfl ?_
  refine ex_getfield cg_74 (ix := 16) (pc' := 30) rfl rfl rfl rfl rfl ?_
  refine ex_iconst cg_74 (ix := 17) (pc' := 31) rfl rfl ?_
  refine ex_iadd cg_74 (ix := 18) (pc' := 32) rfl rfl ?_
  refine ex_putfield cg_74 (ix := 19) (pc' := 35) (h' := [(77, .inl (6, [.inr (.inl 78), .inr (.inl 79), .inr (.inl 80), .inr (.inl 81), .inr (.inl 85), .inr (.inl 86), .inl (.long bf), .inl (.int dl), .inl (.int ds), .inl (.int dr), .inl (.int (md + (Int32.ofInt 1))), .inl (.int bo)])), (79, .inr (.inr (.inl (32, va_cpy (rowU (lkF f p q) g 32) f 0 0 (Int32.ofInt 32).toNatClampNeg)))), (80, .inr (.inr (.inl (32, rowU (lkF f p q) g 32))))]) rfl rfl rfl rfl rfl rfl rfl rfl ?_
  refine ex_aload_n cg_74 (ix := 20) (pc' := 36) rfl rfl rfl ?_
  refine ex_getfield cg_74 (ix := 21) (pc' := 39) rfl rfl rfl rfl rfl ?_
  refine ex_ireturn cg_74 (ix := 22) rfl ?_
  exact ⟨_, _, rfl, rfl, fun x hx => by rw [cpy_in hx, rowU_in hx]⟩
def ppT (md p v : Int32) (t : Nat → Int32) (x : Nat) : Int32 := if x = p.toNatClampNeg then v else if 0 < md.toInt then Int32.ofInt 0 else t x
def ppF (md p v : Int32) (f : Nat → Int64) (x : Nat) : Int64 := if x = p.toNatClampNeg then v.toInt64 else if 0 < md.toInt then Int64.ofNat 0 else f x
def ppM (md : Int32) : Int32 := if 0 < md.toInt then Int32.ofInt 0 else md
theorem ct_pp {bf : Int64} {dl ds dr md bo : Int32} {p v : Int32} {t : Nat → Int32} {f : Nat → Int64} (hp0 : 0 ≤ p.toInt) (hp1 : p.toInt < 32) : cx_Ct 2 66 [.inr (.inl 77), .inl (.int p), .inl (.int v)] ([(77, .inl (6, [.inr (.inl 78), .inr (.inl 79), .inr (.inl 80), .inr (.inl 81), .inr (.inl 85), .inr (.inl 86), .inl (.long bf), .inl (.int dl), .inl (.int ds), .inl (.int dr), .inl (.int md), .inl (.int bo)])), (78, .inr (.inl (0, 32, t))), (79, .inr (.inr (.inl (32, f))))]) (fun v_ h2 => ∃ (t2 : Nat → Int32) (f2 : Nat → Int64) (md2 : Int32), v_ = some (.inl (.int (t p.toNatClampNeg))) ∧ h2 = [(77, .inl (6, [.inr (.inl 78), .inr (.inl 79), .inr (.inl 80), .inr (.inl 81), .inr (.inl 85), .inr (.inl 86), .inl (.long bf), .inl (.int dl), .inl (.int ds), .inl (.int dr), .inl (.int md2), .inl (.int bo)])), (78, .inr (.inl (0, 32, t2))), (79, .inr (.inr (.inl (32, f2))))] ∧ (∀ x : Nat, x < 32 → t2 x = ppT md p v t x) ∧ (∀ x : Nat, x < 32 → f2 x = ppF md p v f x) ∧ md2 = ppM md) := by
  have kc0 : (Int32.ofInt 0).toInt = 0 := by decide +kernel
  refine cx_Ct.of cg_66 (nL := 4) rfl rfl rfl ?_
  show cx_T 2 66 [77, 78, 79] 0 ([some (.inr (.inl 77)), some (.inl (.int p)), some (.inl (.int v)), none], [], [(77, .inl (6, [.inr (.inl 78), .inr (.inl 79), .inr (.inl 80), .inr (.inl 81), .inr (.inl 85), .inr (.inl 86), .inl (.long bf), .inl (.int dl), .inl (.int ds), .inl (.int dr), .inl (.int md), .inl (.int bo)])), (78, .inr (.inl (0, 32, t))), (79, .inr (.inr (.inl (32, f))))]) _
  refine ex_aload_n cg_66 (ix := 0) (pc' := 1) rfl rfl rfl ?_
  refine ex_getfield cg_66 (ix := 1) (pc' := 4) rfl rfl rfl rfl rfl ?_
  refine ex_iload_n cg_66 (ix := 2) (pc' := 5) rfl rfl rfl ?_
  refine ex_iaload cg_66 (ix := 3) (pc' := 6) rfl rfl (by omega) (by omega) rfl ?_
  refine ex_istore_n cg_66 (ix := 4) (pc' := 7) (L' := [some (.inr (.inl 77)), some (.inl (.int p)), some (.inl (.int v)), some (.inl (.int (t p.toNatClampNeg)))]) rfl rfl rfl rfl ?_
  refine ex_aload_n cg_66 (ix := 5) (pc' := 8) rfl rfl rfl ?_
  refine ex_getfield cg_66 (ix := 6) (pc' := 11) rfl rfl rfl rfl rfl ?_
  refine ex_if cg_66 (ix := 7) (t := 35) (pc' := 14) rfl rfl rfl (fun hb11 => ?_) (fun hb11 => ?_)
  · have hb11 : md.toInt ≤ 0 := hb11
    refine ex_aload_n cg_66 (ix := 19) (pc' := 36) rfl rfl rfl ?_
    refine ex_getfield cg_66 (ix := 20) (pc' := 39) rfl rfl rfl rfl rfl ?_
    refine ex_iload_n cg_66 (ix := 21) (pc' := 40) rfl rfl rfl ?_
    refine ex_iload_n cg_66 (ix := 22) (pc' := 41) rfl rfl rfl ?_
    refine ex_iastore cg_66 (ix := 23) (pc' := 42) (h' := [(77, .inl (6, [.inr (.inl 78), .inr (.inl 79), .inr (.inl 80), .inr (.inl 81), .inr (.inl 85), .inr (.inl 86), .inl (.long bf), .inl (.int dl), .inl (.int ds), .inl (.int dr), .inl (.int md), .inl (.int bo)])), (78, .inr (.inl (0, 32, upd t p.toNatClampNeg v))), (79, .inr (.inr (.inl (32, f))))]) rfl rfl (by omega) (by omega) rfl rfl ?_
    refine ex_aload_n cg_66 (ix := 24) (pc' := 43) rfl rfl rfl ?_
    refine ex_getfield cg_66 (ix := 25) (pc' := 46) rfl rfl rfl rfl rfl ?_
    refine ex_iload_n cg_66 (ix := 26) (pc' := 47) rfl rfl rfl ?_
    refine ex_iload_n cg_66 (ix := 27) (pc' := 48) rfl rfl rfl ?_
    refine ex_i2l cg_66 (ix := 28) (pc' := 49) rfl rfl ?_
    refine ex_lastore cg_66 (ix := 29) (pc' := 50) (h' := [(77, .inl (6, [.inr (.inl 78), .inr (.inl 79), .inr (.inl 80), .inr (.inl 81), .inr (.inl 85), .inr (.inl 86), .inl (.long bf), .inl (.int dl), .inl (.int ds), .inl (.int dr), .inl (.int md), .inl (.int bo)])), (78, .inr (.inl (0, 32, upd t p.toNatClampNeg v))), (79, .inr (.inr (.inl (32, vp_updL f p.toNatClampNeg (Int32.toInt64 v)))))]) rfl rfl (by omega) (by omega) rfl rfl ?_
    refine ex_iload_n cg_66 (ix := 30) (pc' := 51) rfl rfl rfl ?_
    refine ex_ireturn cg_66 (ix := 31) rfl ?_
    refine ⟨_, _, _, rfl, rfl, fun x hx => ?_, fun x hx => ?_, ?_⟩
    · unfold ppT upd; rw [if_neg (show ¬ 0 < md.toInt by omega)]
    · unfold ppF vp_updL; rw [if_neg (show ¬ 0 < md.toInt by omega)]
    · unfold ppM; rw [if_neg (by omega)]
  · have hb11 : ¬ (md.toInt ≤ 0) := hb11
    refine ex_aload_n cg_66 (ix := 8) (pc' := 15) rfl rfl rfl ?_
    refine ex_getfield cg_66 (ix := 9) (pc' := 18) rfl rfl rfl rfl rfl ?_
    refine ex_iconst cg_66 (ix := 10) (pc' := 19) rfl rfl ?_
    refine ex_fillI cg_66 (ix := 11) (pc' := 22) (h' := [(77, .inl (6, [.inr (.inl 78), .inr (.inl 79), .inr (.inl 80), .inr (.inl 81), .inr (.inl 85), .inr (.inl 86), .inl (.long bf), .inl (.int dl), .inl (.int ds), .inl (.int dr), .inl (.int md), .inl (.int bo)])), (78, .inr (.inl (0, 32, fun i => if i < 32 then (Int32.ofInt 0) else t i))), (79, .inr (.inr (.inl (32, f))))]) rfl rfl (by first | decide | omega) rfl rfl rfl rfl rfl ?_
    refine ex_aload_n cg_66 (ix := 12) (pc' := 23) rfl rfl rfl ?_
    refine ex_getfield cg_66 (ix := 13) (pc' := 26) rfl rfl rfl rfl rfl ?_
    refine ex_lconst cg_66 (ix := 14) (pc' := 27) rfl rfl ?_
    refine ex_fillL cg_66 (ix := 15) (pc' := 30) (h' := [(77, .inl (6, [.inr (.inl 78), .inr (.inl 79), .inr (.inl 80), .inr (.inl 81), .inr (.inl 85), .inr (.inl 86), .inl (.long bf), .inl (.int dl), .inl (.int ds), .inl (.int dr), .inl (.int md), .inl (.int bo)])), (78, .inr (.inl (0, 32, fun i => if i < 32 then (Int32.ofInt 0) else t i))), (79, .inr (.inr (.inl (32, fun i => if i < 32 then (Int64.ofNat 0) else f i))))]) rfl rfl (by first | decide | omega) rfl rfl rfl rfl rfl ?_
    refine ex_aload_n cg_66 (ix := 16) (pc' := 31) rfl rfl rfl ?_
    refine ex_iconst cg_66 (ix := 17) (pc' := 32) rfl rfl ?_
    refine ex_putfield cg_66 (ix := 18) (pc' := 35) (h' := [(77, .inl (6, [.inr (.inl 78), .inr (.inl 79), .inr (.inl 80), .inr (.inl 81), .inr (.inl 85), .inr (.inl 86), .inl (.long bf), .inl (.int dl), .inl (.int ds), .inl (.int dr), .inl (.int (Int32.ofInt 0)), .inl (.int bo)])), (78, .inr (.inl (0, 32, fun i => if i < 32 then (Int32.ofInt 0) else t i))), (79, .inr (.inr (.inl (32, fun i => if i < 32 then (Int64.ofNat 0) else f i))))]) rfl rfl rfl rfl rfl rfl rfl rfl ?_
    refine ex_aload_n cg_66 (ix := 19) (pc' := 36) rfl rfl rfl ?_
    refine ex_getfield cg_66 (ix := 20) (pc' := 39) rfl rfl rfl rfl rfl ?_
    refine ex_iload_n cg_66 (ix := 21) (pc' := 40) rfl rfl rfl ?_
    refine ex_iload_n cg_66 (ix := 22) (pc' := 41) rfl rfl rfl ?_
    refine ex_iastore cg_66 (ix := 23) (pc' := 42) (h' := [(77, .inl (6, [.inr (.inl 78), .inr (.inl 79), .inr (.inl 80), .inr (.inl 81), .inr (.inl 85), .inr (.inl 86), .inl (.long bf), .inl (.int dl), .inl (.int ds), .inl (.int dr), .inl (.int (Int32.ofInt 0)), .inl (.int bo)])), (78, .inr (.inl (0, 32, upd (fun i => if i < 32 then (Int32.ofInt 0) else t i) p.toNatClampNeg v))), (79, .inr (.inr (.inl (32, fun i => if i < 32 then (Int64.ofNat 0) else f i))))]) rfl rfl (by omega) (by omega) rfl rfl ?_
    refine ex_aload_n cg_66 (ix := 24) (pc' := 43) rfl rfl rfl ?_
    refine ex_getfield cg_66 (ix := 25) (pc' := 46) rfl rfl rfl rfl rfl ?_
    refine ex_iload_n cg_66 (ix := 26) (pc' := 47) rfl rfl rfl ?_
    refine ex_iload_n cg_66 (ix := 27) (pc' := 48) rfl rfl rfl ?_
    refine ex_i2l cg_66 (ix := 28) (pc' := 49) rfl rfl ?_
    refine ex_lastore cg_66 (ix := 29) (pc' := 50) (h' := [(77, .inl (6, [.inr (.inl 78), .inr (.inl 79), .inr (.inl 80), .inr (.inl 81), .inr (.inl 85), .inr (.inl 86), .inl (.long bf), .inl (.int dl), .inl (.int ds), .inl (.int dr), .inl (.int (Int32.ofInt 0)), .inl (.int bo)])), (78, .inr (.inl (0, 32, upd (fun i => if i < 32 then (Int32.ofInt 0) else t i) p.toNatClampNeg v))), (79, .inr (.inr (.inl (32, vp_updL (fun i => if i < 32 then (Int64.ofNat 0) else f i) p.toNatClampNeg (Int32.toInt64 v)))))]) rfl rfl (by omega) (by omega) rfl rfl ?_
    refine ex_iload_n cg_66 (ix := 30) (pc' := 51) rfl rfl rfl ?_
    refine ex_ireturn cg_66 (ix := 31) rfl ?_
    refine ⟨_, _, _, rfl, rfl, fun x hx => ?_, fun x hx => ?_, ?_⟩
    · unfold ppT upd; rw [if_pos (show 0 < md.toInt by omega)]; dsimp only; rw [if_pos hx]
    · unfold ppF vp_updL; rw [if_pos (show 0 < md.toInt by omega)]; dsimp only; rw [if_pos hx]
    · unfold ppM; rw [if_pos (by omega)]
theorem ct_xplace {x : Int32} : cx_Ct 2 171 [.inl (.int x)] [] (fun v h2 => ∃ z : Int32, v = some (.inl (.int z)) ∧ h2 = [] ∧ ((0 ≤ x.toInt ∧ x.toInt < 32) ∧ z = Int32.ofInt 1 ∨ ¬ (0 ≤ x.toInt ∧ x.toInt < 32) ∧ z = Int32.ofInt 0)) := by
  have kc32 : (Int32.ofInt 32).toInt = 32 := by decide +kernel
  have kc1 : (Int32.ofInt 1).toInt = 1 := by decide +kernel
  have kc0 : (Int32.ofInt 0).toInt = 0 := by decide +kernel
  refine cx_Ct.of cg_171 (nL := 1) rfl rfl rfl ?_
  show cx_T 2 171 [] 0 ([some (.inl (.int x))], [], []) _
  refine ex_iload_n cg_171 (ix := 0) (pc' := 1) rfl rfl rfl ?_
  refine ex_if cg_171 (ix := 1) (t := 14) (pc' := 4) rfl rfl rfl (fun hb1 => ?_) (fun hb1 => ?_)
  · have hb1 : x.toInt < 0 := hb1
    refine ex_iconst cg_171 (ix := 7) (pc' := 15) rfl rfl ?_
    refine ex_zreturn cg_171 (ix := 8) rfl (by first | exact Or.inl rfl | exact Or.inr rfl | (first | exact Or.inr rfl | exact Or.inl rfl)) ?_
    exact ⟨_, rfl, rfl, Or.inr ⟨by omega, rfl⟩⟩
  · have hb1 : ¬ (x.toInt < 0) := hb1
    refine ex_iload_n cg_171 (ix := 2) (pc' := 5) rfl rfl rfl ?_
    refine ex_bipush cg_171 (ix := 3) (pc' := 7) rfl rfl rfl ?_
    refine ex_icmp cg_171 (ix := 4) (t := 14) (pc' := 10) rfl rfl rfl (fun hb7 => ?_) (fun hb7 => ?_)
    · have hb7 : (Int32.ofInt 32).toInt ≤ x.toInt := hb7
      refine ex_iconst cg_171 (ix := 7) (pc' := 15) rfl rfl ?_
      refine ex_zreturn cg_171 (ix := 8) rfl (by first | exact Or.inl rfl | exact Or.inr rfl | (first | exact Or.inr rfl | exact Or.inl rfl)) ?_
      exact ⟨_, rfl, rfl, Or.inr ⟨by omega, rfl⟩⟩
    · have hb7 : ¬ ((Int32.ofInt 32).toInt ≤ x.toInt) := hb7
      refine ex_iconst cg_171 (ix := 5) (pc' := 11) rfl rfl ?_
      refine ex_goto cg_171 (ix := 6) (pc' := 15) rfl rfl ?_
      refine ex_zreturn cg_171 (ix := 8) rfl (by first | exact Or.inl rfl | exact Or.inr rfl | (first | exact Or.inr rfl | exact Or.inl rfl)) ?_
      exact ⟨_, rfl, rfl, Or.inl ⟨by omega, rfl⟩⟩
def sxO (x a b : Int32) : Int32 := if x.toInt < a.toInt then Int32.ofInt (-4) else if b.toInt < x.toInt then Int32.ofInt (-6) else Int32.ofInt 0
def sxF (f g : Int32) : Int32 := if f.toInt = -4 ∨ g.toInt = -4 then Int32.ofInt (-4) else if f.toInt = 0 then g else f
theorem ct_sxo {x a b : Int32} : cx_Ct 2 172 [.inl (.int x), .inl (.int a), .inl (.int b)] [] (fun v h2 => v = some (.inl (.int (sxO x a b))) ∧ h2 = []) := by
  have kcm4 : (Int32.ofInt (-4)).toInt = -4 := by decide +kernel
  have kcm6 : (Int32.ofInt (-6)).toInt = -6 := by decide +kernel
  have kc0 : (Int32.ofInt 0).toInt = 0 := by decide +kernel
  refine cx_Ct.of cg_172 (nL := 3) rfl rfl rfl ?_
  show cx_T 2 172 [] 0 ([some (.inl (.int x)), some (.inl (.int a)), some (.inl (.int b))], [], []) _
  refine ex_iload_n cg_172 (ix := 0) (pc' := 1) rfl rfl rfl ?_
  refine ex_iload_n cg_172 (ix := 1) (pc' := 2) rfl rfl rfl ?_
  refine ex_icmp cg_172 (ix := 2) (t := 8) (pc' := 5) rfl rfl rfl (fun hb2 => ?_) (fun hb2 => ?_)
  · have hb2 : a.toInt ≤ x.toInt := hb2
    refine ex_iload_n cg_172 (ix := 5) (pc' := 9) rfl rfl rfl ?_
    refine ex_iload_n cg_172 (ix := 6) (pc' := 10) rfl rfl rfl ?_
    refine ex_icmp cg_172 (ix := 7) (t := 18) (pc' := 13) rfl rfl rfl (fun hb10 => ?_) (fun hb10 => ?_)
    · have hb10 : x.toInt ≤ b.toInt := hb10
      refine ex_iconst cg_172 (ix := 10) (pc' := 19) rfl rfl ?_
      refine ex_ireturn cg_172 (ix := 11) rfl ?_
      exact ⟨by unfold sxO; rw [if_neg (by omega), if_neg (by omega)], rfl⟩
    · have hb10 : ¬ (x.toInt ≤ b.toInt) := hb10
      refine ex_bipush cg_172 (ix := 8) (pc' := 15) rfl rfl rfl ?_
      refine ex_goto cg_172 (ix := 9) (pc' := 19) rfl rfl ?_
      refine ex_ireturn cg_172 (ix := 11) rfl ?_
      exact ⟨by unfold sxO; rw [if_neg (by omega), if_pos (by omega)], rfl⟩
  · have hb2 : ¬ (a.toInt ≤ x.toInt) := hb2
    refine ex_bipush cg_172 (ix := 3) (pc' := 7) rfl rfl rfl ?_
    refine ex_ireturn cg_172 (ix := 4) rfl ?_
    exact ⟨by unfold sxO; rw [if_pos (by omega)], rfl⟩
theorem ct_sxf {f g : Int32} : cx_Ct 2 173 [.inl (.int f), .inl (.int g)] [] (fun v h2 => v = some (.inl (.int (sxF f g))) ∧ h2 = []) := by
  have kcm4 : (Int32.ofInt (-4)).toInt = -4 := by decide +kernel
  refine cx_Ct.of cg_173 (nL := 2) rfl rfl rfl ?_
  show cx_T 2 173 [] 0 ([some (.inl (.int f)), some (.inl (.int g))], [], []) _
  refine ex_iload_n cg_173 (ix := 0) (pc' := 1) rfl rfl rfl ?_
  refine ex_bipush cg_173 (ix := 1) (pc' := 3) rfl rfl rfl ?_
  refine ex_icmp cg_173 (ix := 2) (t := 12) (pc' := 6) rfl rfl rfl (fun hb3 => ?_) (fun hb3 => ?_)
  · have hb3 : f.toInt = (Int32.ofInt (-4)).toInt := hb3
    refine ex_bipush cg_173 (ix := 6) (pc' := 14) rfl rfl rfl ?_
    refine ex_ireturn cg_173 (ix := 7) rfl ?_
    exact ⟨by unfold sxF; rw [if_pos (by omega)], rfl⟩
  · have hb3 : ¬ (f.toInt = (Int32.ofInt (-4)).toInt) := hb3
    refine ex_iload_n cg_173 (ix := 3) (pc' := 7) rfl rfl rfl ?_
    refine ex_bipush cg_173 (ix := 4) (pc' := 9) rfl rfl rfl ?_
    refine ex_icmp cg_173 (ix := 5) (t := 15) (pc' := 12) rfl rfl rfl (fun hb9 => ?_) (fun hb9 => ?_)
    · have hb9 : ¬ g.toInt = (Int32.ofInt (-4)).toInt := hb9
      refine ex_iload_n cg_173 (ix := 8) (pc' := 16) rfl rfl rfl ?_
      refine ex_if cg_173 (ix := 9) (t := 23) (pc' := 19) rfl rfl rfl (fun hb16 => ?_) (fun hb16 => ?_)
      · have hb16 : ¬ f.toInt = 0 := hb16
        refine ex_iload_n cg_173 (ix := 12) (pc' := 24) rfl rfl rfl ?_
        refine ex_ireturn cg_173 (ix := 13) rfl ?_
        exact ⟨by unfold sxF; rw [if_neg (by omega), if_neg (by omega)], rfl⟩
      · have hb16 : ¬ (¬ f.toInt = 0) := hb16
        refine ex_iload_n cg_173 (ix := 10) (pc' := 20) rfl rfl rfl ?_
        refine ex_goto cg_173 (ix := 11) (pc' := 24) rfl rfl ?_
        refine ex_ireturn cg_173 (ix := 13) rfl ?_
        exact ⟨by unfold sxF; rw [if_neg (by omega), if_pos (by omega)], rfl⟩
    · have hb9 : ¬ (¬ g.toInt = (Int32.ofInt (-4)).toInt) := hb9
      refine ex_bipush cg_173 (ix := 6) (pc' := 14) rfl rfl rfl ?_
      refine ex_ireturn cg_173 (ix := 7) rfl ?_
      exact ⟨by unfold sxF; rw [if_pos (by omega)], rfl⟩
def h_xs (dy : Int32) (r : Nat → Int32) (bf : Int64) (dl ds dr md bo : Int32) (t : Nat → Int32) (f g : Nat → Int64) : cx_H := [(0, .inl (10, [.inr (.inl 1), .inr (.inl 2), .inr (.inl 15), .inr (.inl 21), .inr (.inl 43), .inr (.inl 68), .inr (.inl 77), .inr (.inl 87), .inr (.inl 101), .inr (.inl 107), .inr (.inl 113), .inl (.int dy)])), (1, .inr (.inl (0, 7, r))), (77, .inl (6, [.inr (.inl 78), .inr (.inl 79), .inr (.inl 80), .inr (.inl 81), .inr (.inl 85), .inr (.inl 86), .inl (.long bf), .inl (.int dl), .inl (.int ds), .inl (.int dr), .inl (.int md), .inl (.int bo)])), (78, .inr (.inl (0, 32, t))), (79, .inr (.inr (.inl (32, f)))), (80, .inr (.inr (.inl (32, g))))]
/-- what parts answers and leaves -/
def ptA (p v : Int32) (t : Nat → Int32) (f : Nat → Int64) (md z : Int32) (t2 : Nat → Int32) (f2 : Nat → Int64) (md2 : Int32) : Prop :=
  (¬ (0 ≤ p.toInt ∧ p.toInt < 32) ∧ z = Int32.ofInt (-1) ∧ t2 = t ∧ f2 = f ∧ md2 = md) ∨
  ((0 ≤ p.toInt ∧ p.toInt < 32) ∧ v.toInt < 0 ∧ z = Int32.ofInt (-4) ∧ t2 = t ∧ f2 = f ∧ md2 = md) ∨
  ((0 ≤ p.toInt ∧ p.toInt < 32) ∧ 1000000 < v.toInt ∧ z = Int32.ofInt (-6) ∧ t2 = t ∧ f2 = f ∧ md2 = md) ∨
  ((0 ≤ p.toInt ∧ p.toInt < 32) ∧ (0 ≤ v.toInt ∧ v.toInt ≤ 1000000) ∧ z = t p.toNatClampNeg ∧ (∀ x : Nat, x < 32 → t2 x = ppT md p v t x) ∧ (∀ x : Nat, x < 32 → f2 x = ppF md p v f x) ∧ md2 = ppM md)
/-- what drifts answers and leaves -/
def dfA (dl ds dr : Int32) (f : Nat → Int64) (md z : Int32) (f2 : Nat → Int64) (md2 : Int32) : Prop :=
  (sumL f 32 = Int64.ofNat 0 ∧ z = Int32.ofInt (-5) ∧ f2 = f ∧ md2 = md) ∨
  (¬ sumL f 32 = Int64.ofNat 0 ∧ 10 ≤ md.toInt ∧ z = Int32.ofInt (-6) ∧ f2 = f ∧ md2 = md) ∨
  (¬ sumL f 32 = Int64.ofNat 0 ∧ md.toInt < 10 ∧ z = md + Int32.ofInt 1 ∧ (∀ x : Nat, x < 32 → f2 x = drF f dl ds dr x) ∧ md2 = md + Int32.ofInt 1)
/-- what look answers and leaves -/
def lkA (p q : Int32) (f : Nat → Int64) (md z : Int32) (f2 : Nat → Int64) (md2 : Int32) : Prop :=
  (¬ (0 ≤ p.toInt ∧ p.toInt < 32) ∧ z = Int32.ofInt (-1) ∧ f2 = f ∧ md2 = md) ∨
  ((0 ≤ p.toInt ∧ p.toInt < 32) ∧ sumL f 32 = Int64.ofNat 0 ∧ z = Int32.ofInt (-5) ∧ f2 = f ∧ md2 = md) ∨
  ((0 ≤ p.toInt ∧ p.toInt < 32) ∧ ¬ sumL f 32 = Int64.ofNat 0 ∧ q.toInt < 1 ∧ z = Int32.ofInt (-4) ∧ f2 = f ∧ md2 = md) ∨
  ((0 ≤ p.toInt ∧ p.toInt < 32) ∧ ¬ sumL f 32 = Int64.ofNat 0 ∧ 1 ≤ q.toInt ∧ (8 < q.toInt ∨ 10 ≤ md.toInt) ∧ z = Int32.ofInt (-6) ∧ f2 = f ∧ md2 = md) ∨
  ((0 ≤ p.toInt ∧ p.toInt < 32) ∧ ¬ sumL f 32 = Int64.ofNat 0 ∧ (1 ≤ q.toInt ∧ q.toInt ≤ 8) ∧ md.toInt < 10 ∧ z = md + Int32.ofInt 1 ∧ (∀ x : Nat, x < 32 → f2 x = lkF f p q x) ∧ md2 = md + Int32.ofInt 1)
theorem ct_parts {dy : Int32} {r : Nat → Int32} {bf : Int64} {dl ds dr md bo : Int32} {t : Nat → Int32} {f g : Nat → Int64} {p v : Int32} : cx_Ct 4 145 [.inr (.inl 0), .inl (.int p), .inl (.int v)] (h_xs dy r bf dl ds dr md bo t f g) (fun v_ h2 => ∃ (z : Int32) (r2 t2 : Nat → Int32) (f2 g2 : Nat → Int64) (md2 : Int32), v_ = some (.inl (.int z)) ∧ h2 = h_xs dy r2 bf dl ds dr md2 bo t2 f2 g2 ∧ ptA p v t f md z t2 f2 md2) := by
  have kcm1 : (Int32.ofInt (-1)).toInt = -1 := by decide +kernel
  have kc0 : (Int32.ofInt 0).toInt = 0 := by decide +kernel
  have kc1 : (Int32.ofInt 1).toInt = 1 := by decide +kernel
  have kc1000000 : (Int32.ofInt 1000000).toInt = 1000000 := by decide +kernel
  refine cx_Ct.of cg_145 (nL := 4) rfl rfl rfl ?_
  show cx_T 4 145 [0, 1, 77, 78, 79, 80] 0 ([some (.inr (.inl 0)), some (.inl (.int p)), some (.inl (.int v)), none], [], (h_xs dy r bf dl ds dr md bo t f g)) _
  refine ex_iload_n cg_145 (ix := 0) (pc' := 1) rfl rfl rfl ?_
  refine ex_callS cg_145 (ix := 1) (pc' := 4) (As := [.inl (.int p)]) (r := []) rfl rfl rfl (ct_xplace (x := p)) (by first | decide | omega) rfl rfl trivial rfl rfl (fun v h2 hq => ?_)
  obtain ⟨z, rfl, rfl, hz1⟩ := hq
  rcases hz1 with ⟨hz1, rfl⟩ | ⟨hz1, rfl⟩
  · show cx_T _ 145 _ 4 ([some (.inr (.inl 0)), some (.inl (.int p)), some (.inl (.int v)), none], [.inl (.int (Int32.ofInt 1))], [(0, .inl (10, [.inr (.inl 1), .inr (.inl 2), .inr (.inl 15), .inr (.inl 21), .inr (.inl 43), .inr (.inl 68), .inr (.inl 77), .inr (.inl 87), .inr (.inl 101), .inr (.inl 107), .inr (.inl 113), .inl (.int dy)])), (1, .inr (.inl (0, 7, r))), (77, .inl (6, [.inr (.inl 78), .inr (.inl 79), .inr (.inl 80), .inr (.inl 81), .inr (.inl 85), .inr (.inl 86), .inl (.long bf), .inl (.int dl), .inl (.int ds), .inl (.int dr), .inl (.int md), .inl (.int bo)])), (78, .inr (.inl (0, 32, t))), (79, .inr (.inr (.inl (32, f)))), (80, .inr (.inr (.inl (32, g))))]) _
    refine ex_if cg_145 (ix := 2) (t := 13) (pc' := 7) rfl rfl rfl (fun hb4 => ?_) (fun hb4 => ?_)
    · have hb4 : ¬ (Int32.ofInt 1).toInt = 0 := hb4
      refine ex_iload_n cg_145 (ix := 7) (pc' := 14) rfl rfl rfl ?_
      refine ex_iconst cg_145 (ix := 8) (pc' := 15) rfl rfl ?_
      refine ex_ldc cg_145 (ix := 9) (pc' := 17) rfl rfl rfl ?_
      refine ex_callS cg_145 (ix := 10) (pc' := 20) (As := [.inl (.int v), .inl (.int (Int32.ofInt 0)), .inl (.int (Int32.ofInt 1000000))]) (r := []) rfl rfl rfl (ct_out (x := v) (a := Int32.ofInt 0) (b := Int32.ofInt 1000000)) (by first | decide | omega) rfl rfl trivial rfl rfl (fun v h2 hq => ?_)
      obtain ⟨z, rfl, rfl, hz3⟩ := hq
      rcases hz3 with ⟨hz3, rfl⟩ | ⟨hz3, hz4, rfl⟩ | ⟨hz3, hz4, rfl⟩
      · show cx_T _ 145 _ 20 ([some (.inr (.inl 0)), some (.inl (.int p)), some (.inl (.int v)), none], [.inl (.int (Int32.ofInt (-4)))], [(0, .inl (10, [.inr (.inl 1), .inr (.inl 2), .inr (.inl 15), .inr (.inl 21), .inr (.inl 43), .inr (.inl 68), .inr (.inl 77), .inr (.inl 87), .inr (.inl 101), .inr (.inl 107), .inr (.inl 113), .inl (.int dy)])), (1, .inr (.inl (0, 7, r))), (77, .inl (6, [.inr (.inl 78), .inr (.inl 79), .inr (.inl 80), .inr (.inl 81), .inr (.inl 85), .inr (.inl 86), .inl (.long bf), .inl (.int dl), .inl (.int ds), .inl (.int dr), .inl (.int md), .inl (.int bo)])), (78, .inr (.inl (0, 32, t))), (79, .inr (.inr (.inl (32, f)))), (80, .inr (.inr (.inl (32, g))))]) _
        refine ex_istore_n cg_145 (ix := 11) (pc' := 21) (L' := [some (.inr (.inl 0)), some (.inl (.int p)), some (.inl (.int v)), some (.inl (.int (Int32.ofInt (-4))))]) rfl rfl rfl rfl ?_
        refine ex_iload_n cg_145 (ix := 12) (pc' := 22) rfl rfl rfl ?_
        refine ex_if cg_145 (ix := 13) (t := 33) (pc' := 25) rfl rfl rfl (fun hb22 => ?_) (fun hb22 => ?_)
        · have hb22 : (Int32.ofInt (-4)).toInt = 0 := hb22
          exfalso; first | omega | exact absurd hb22 (by decide +kernel)
        · have hb22 : ¬ ((Int32.ofInt (-4)).toInt = 0) := hb22
          refine ex_aload_n cg_145 (ix := 14) (pc' := 26) rfl rfl rfl ?_
          refine ex_iload_n cg_145 (ix := 15) (pc' := 27) rfl rfl rfl ?_
          refine ex_callV cg_145 (ix := 16) (pc' := 30) (As := [.inl (.int (Int32.ofInt (-4)))]) (r := []) rfl rfl rfl (ct_xref (dy := dy) (x := Int32.ofInt (-4)) (r := r) (by decide +kernel) (by decide +kernel)) (by first | decide | omega) rfl rfl rfl ⟨rfl, rfl, trivial⟩ rfl rfl (fun v h2 hq => ?_)
          obtain ⟨rfl, r2, rfl⟩ := hq
          show cx_T _ 145 _ 30 ([some (.inr (.inl 0)), some (.inl (.int p)), some (.inl (.int v)), some (.inl (.int (Int32.ofInt (-4))))], [.inl (.int (Int32.ofInt (-4)))], [(0, .inl (10, [.inr (.inl 1), .inr (.inl 2), .inr (.inl 15), .inr (.inl 21), .inr (.inl 43), .inr (.inl 68), .inr (.inl 77), .inr (.inl 87), .inr (.inl 101), .inr (.inl 107), .inr (.inl 113), .inl (.int dy)])), (1, .inr (.inl (0, 7, r2))), (77, .inl (6, [.inr (.inl 78), .inr (.inl 79), .inr (.inl 80), .inr (.inl 81), .inr (.inl 85), .inr (.inl 86), .inl (.long bf), .inl (.int dl), .inl (.int ds), .inl (.int dr), .inl (.int md), .inl (.int bo)])), (78, .inr (.inl (0, 32, t))), (79, .inr (.inr (.inl (32, f)))), (80, .inr (.inr (.inl (32, g))))]) _
          refine ex_goto cg_145 (ix := 17) (pc' := 42) rfl rfl ?_
          refine ex_ireturn cg_145 (ix := 23) rfl ?_
          exact ⟨_, _, t, f, g, md, rfl, rfl, Or.inr (Or.inl ⟨hz1, by omega, rfl, rfl, rfl, rfl⟩)⟩
      · show cx_T _ 145 _ 20 ([some (.inr (.inl 0)), some (.inl (.int p)), some (.inl (.int v)), none], [.inl (.int (Int32.ofInt (-6)))], [(0, .inl (10, [.inr (.inl 1), .inr (.inl 2), .inr (.inl 15), .inr (.inl 21), .inr (.inl 43), .inr (.inl 68), .inr (.inl 77), .inr (.inl 87), .inr (.inl 101), .inr (.inl 107), .inr (.inl 113), .inl (.int dy)])), (1, .inr (.inl (0, 7, r))), (77, .inl (6, [.inr (.inl 78), .inr (.inl 79), .inr (.inl 80), .inr (.inl 81), .inr (.inl 85), .inr (.inl 86), .inl (.long bf), .inl (.int dl), .inl (.int ds), .inl (.int dr), .inl (.int md), .inl (.int bo)])), (78, .inr (.inl (0, 32, t))), (79, .inr (.inr (.inl (32, f)))), (80, .inr (.inr (.inl (32, g))))]) _
        refine ex_istore_n cg_145 (ix := 11) (pc' := 21) (L' := [some (.inr (.inl 0)), some (.inl (.int p)), some (.inl (.int v)), some (.inl (.int (Int32.ofInt (-6))))]) rfl rfl rfl rfl ?_
        refine ex_iload_n cg_145 (ix := 12) (pc' := 22) rfl rfl rfl ?_
        refine ex_if cg_145 (ix := 13) (t := 33) (pc' := 25) rfl rfl rfl (fun hb22 => ?_) (fun hb22 => ?_)
        · have hb22 : (Int32.ofInt (-6)).toInt = 0 := hb22
          exfalso; first | omega | exact absurd hb22 (by decide +kernel)
        · have hb22 : ¬ ((Int32.ofInt (-6)).toInt = 0) := hb22
          refine ex_aload_n cg_145 (ix := 14) (pc' := 26) rfl rfl rfl ?_
          refine ex_iload_n cg_145 (ix := 15) (pc' := 27) rfl rfl rfl ?_
          refine ex_callV cg_145 (ix := 16) (pc' := 30) (As := [.inl (.int (Int32.ofInt (-6)))]) (r := []) rfl rfl rfl (ct_xref (dy := dy) (x := Int32.ofInt (-6)) (r := r) (by decide +kernel) (by decide +kernel)) (by first | decide | omega) rfl rfl rfl ⟨rfl, rfl, trivial⟩ rfl rfl (fun v h2 hq => ?_)
          obtain ⟨rfl, r2, rfl⟩ := hq
          show cx_T _ 145 _ 30 ([some (.inr (.inl 0)), some (.inl (.int p)), some (.inl (.int v)), some (.inl (.int (Int32.ofInt (-6))))], [.inl (.int (Int32.ofInt (-6)))], [(0, .inl (10, [.inr (.inl 1), .inr (.inl 2), .inr (.inl 15), .inr (.inl 21), .inr (.inl 43), .inr (.inl 68), .inr (.inl 77), .inr (.inl 87), .inr (.inl 101), .inr (.inl 107), .inr (.inl 113), .inl (.int dy)])), (1, .inr (.inl (0, 7, r2))), (77, .inl (6, [.inr (.inl 78), .inr (.inl 79), .inr (.inl 80), .inr (.inl 81), .inr (.inl 85), .inr (.inl 86), .inl (.long bf), .inl (.int dl), .inl (.int ds), .inl (.int dr), .inl (.int md), .inl (.int bo)])), (78, .inr (.inl (0, 32, t))), (79, .inr (.inr (.inl (32, f)))), (80, .inr (.inr (.inl (32, g))))]) _
          refine ex_goto cg_145 (ix := 17) (pc' := 42) rfl rfl ?_
          refine ex_ireturn cg_145 (ix := 23) rfl ?_
          exact ⟨_, _, t, f, g, md, rfl, rfl, Or.inr (Or.inr (Or.inl ⟨hz1, by omega, rfl, rfl, rfl, rfl⟩))⟩
      · show cx_T _ 145 _ 20 ([some (.inr (.inl 0)), some (.inl (.int p)), some (.inl (.int v)), none], [.inl (.int (Int32.ofInt 0))], [(0, .inl (10, [.inr (.inl 1), .inr (.inl 2), .inr (.inl 15), .inr (.inl 21), .inr (.inl 43), .inr (.inl 68), .inr (.inl 77), .inr (.inl 87), .inr (.inl 101), .inr (.inl 107), .inr (.inl 113), .inl (.int dy)])), (1, .inr (.inl (0, 7, r))), (77, .inl (6, [.inr (.inl 78), .inr (.inl 79), .inr (.inl 80), .inr (.inl 81), .inr (.inl 85), .inr (.inl 86), .inl (.long bf), .inl (.int dl), .inl (.int ds), .inl (.int dr), .inl (.int md), .inl (.int bo)])), (78, .inr (.inl (0, 32, t))), (79, .inr (.inr (.inl (32, f)))), (80, .inr (.inr (.inl (32, g))))]) _
        refine ex_istore_n cg_145 (ix := 11) (pc' := 21) (L' := [some (.inr (.inl 0)), some (.inl (.int p)), some (.inl (.int v)), some (.inl (.int (Int32.ofInt 0)))]) rfl rfl rfl rfl ?_
        refine ex_iload_n cg_145 (ix := 12) (pc' := 22) rfl rfl rfl ?_
        refine ex_if cg_145 (ix := 13) (t := 33) (pc' := 25) rfl rfl rfl (fun hb22 => ?_) (fun hb22 => ?_)
        · have hb22 : (Int32.ofInt 0).toInt = 0 := hb22
          refine ex_aload_n cg_145 (ix := 18) (pc' := 34) rfl rfl rfl ?_
          refine ex_getfield cg_145 (ix := 19) (pc' := 37) rfl rfl rfl rfl rfl ?_
          refine ex_iload_n cg_145 (ix := 20) (pc' := 38) rfl rfl rfl ?_
          refine ex_iload_n cg_145 (ix := 21) (pc' := 39) rfl rfl rfl ?_
          refine ex_callV cg_145 (ix := 22) (pc' := 42) (As := [.inl (.int p), .inl (.int v)]) (r := []) rfl rfl rfl (ct_pp (bf := bf) (dl := dl) (ds := ds) (dr := dr) (md := md) (bo := bo) (p := p) (v := v) (t := t) (f := f) (by omega) (by omega)) (by first | decide | omega) rfl rfl rfl ⟨rfl, rfl, rfl, trivial⟩ rfl rfl (fun v h2 hq => ?_)
          obtain ⟨t2, f2, md2, rfl, rfl, ht2, hf2, hmd2⟩ := hq
          show cx_T _ 145 _ 42 ([some (.inr (.inl 0)), some (.inl (.int p)), some (.inl (.int v)), some (.inl (.int (Int32.ofInt 0)))], [.inl (.int (t p.toNatClampNeg))], [(0, .inl (10, [.inr (.inl 1), .inr (.inl 2), .inr (.inl 15), .inr (.inl 21), .inr (.inl 43), .inr (.inl 68), .inr (.inl 77), .inr (.inl 87), .inr (.inl 101), .inr (.inl 107), .inr (.inl 113), .inl (.int dy)])), (1, .inr (.inl (0, 7, r))), (77, .inl (6, [.inr (.inl 78), .inr (.inl 79), .inr (.inl 80), .inr (.inl 81), .inr (.inl 85), .inr (.inl 86), .inl (.long bf), .inl (.int dl), .inl (.int ds), .inl (.int dr), .inl (.int md2), .inl (.int bo)])), (78, .inr (.inl (0, 32, t2))), (79, .inr (.inr (.inl (32, f2)))), (80, .inr (.inr (.inl (32, g))))]) _
          refine ex_ireturn cg_145 (ix := 23) rfl ?_
          exact ⟨_, r, t2, f2, g, md2, rfl, rfl, Or.inr (Or.inr (Or.inr ⟨hz1, by omega, rfl, ht2, hf2, hmd2⟩))⟩
        · have hb22 : ¬ ((Int32.ofInt 0).toInt = 0) := hb22
          exfalso; first | omega | exact absurd hb22 (by decide +kernel)
    · have hb4 : ¬ (¬ (Int32.ofInt 1).toInt = 0) := hb4
      exfalso; first | omega | exact absurd hb4 (by decide +kernel)
  · show cx_T _ 145 _ 4 ([some (.inr (.inl 0)), some (.inl (.int p)), some (.inl (.int v)), none], [.inl (.int (Int32.ofInt 0))], [(0, .inl (10, [.inr (.inl 1), .inr (.inl 2), .inr (.inl 15), .inr (.inl 21), .inr (.inl 43), .inr (.inl 68), .inr (.inl 77), .inr (.inl 87), .inr (.inl 101), .inr (.inl 107), .inr (.inl 113), .inl (.int dy)])), (1, .inr (.inl (0, 7, r))), (77, .inl (6, [.inr (.inl 78), .inr (.inl 79), .inr (.inl 80), .inr (.inl 81), .inr (.inl 85), .inr (.inl 86), .inl (.long bf), .inl (.int dl), .inl (.int ds), .inl (.int dr), .inl (.int md), .inl (.int bo)])), (78, .inr (.inl (0, 32, t))), (79, .inr (.inr (.inl (32, f)))), (80, .inr (.inr (.inl (32, g))))]) _
    refine ex_if cg_145 (ix := 2) (t := 13) (pc' := 7) rfl rfl rfl (fun hb4 => ?_) (fun hb4 => ?_)
    · have hb4 : ¬ (Int32.ofInt 0).toInt = 0 := hb4
      exfalso; first | omega | exact absurd hb4 (by decide +kernel)
    · have hb4 : ¬ (¬ (Int32.ofInt 0).toInt = 0) := hb4
      refine ex_aload_n cg_145 (ix := 3) (pc' := 8) rfl rfl rfl ?_
      refine ex_iconst cg_145 (ix := 4) (pc' := 9) rfl rfl ?_
      refine ex_callV cg_145 (ix := 5) (pc' := 12) (As := [.inl (.int (Int32.ofInt (-1)))]) (r := []) rfl rfl rfl (ct_xref (dy := dy) (x := Int32.ofInt (-1)) (r := r) (by decide +kernel) (by decide +kernel)) (by first | decide | omega) rfl rfl rfl ⟨rfl, rfl, trivial⟩ rfl rfl (fun v h2 hq => ?_)
      obtain ⟨rfl, r2, rfl⟩ := hq
      show cx_T _ 145 _ 12 ([some (.inr (.inl 0)), some (.inl (.int p)), some (.inl (.int v)), none], [.inl (.int (Int32.ofInt (-1)))], [(0, .inl (10, [.inr (.inl 1), .inr (.inl 2), .inr (.inl 15), .inr (.inl 21), .inr (.inl 43), .inr (.inl 68), .inr (.inl 77), .inr (.inl 87), .inr (.inl 101), .inr (.inl 107), .inr (.inl 113), .inl (.int dy)])), (1, .inr (.inl (0, 7, r2))), (77, .inl (6, [.inr (.inl 78), .inr (.inl 79), .inr (.inl 80), .inr (.inl 81), .inr (.inl 85), .inr (.inl 86), .inl (.long bf), .inl (.int dl), .inl (.int ds), .inl (.int dr), .inl (.int md), .inl (.int bo)])), (78, .inr (.inl (0, 32, t))), (79, .inr (.inr (.inl (32, f)))), (80, .inr (.inr (.inl (32, g))))]) _
      refine ex_ireturn cg_145 (ix := 6) rfl ?_
      exact ⟨_, _, t, f, g, md, rfl, rfl, Or.inl ⟨hz1, rfl, rfl, rfl, rfl⟩⟩
theorem ct_drifts {dy : Int32} {r : Nat → Int32} {bf : Int64} {dl ds dr md bo : Int32} {t : Nat → Int32} {f g : Nat → Int64} (hm0 : 0 ≤ md.toInt) (hm1 : md.toInt ≤ 10) : cx_Ct 4 147 [.inr (.inl 0)] (h_xs dy r bf dl ds dr md bo t f g) (fun v_ h2 => ∃ (z : Int32) (r2 t2 : Nat → Int32) (f2 g2 : Nat → Int64) (md2 : Int32), v_ = some (.inl (.int z)) ∧ h2 = h_xs dy r2 bf dl ds dr md2 bo t2 f2 g2 ∧ t2 = t ∧ dfA dl ds dr f md z f2 md2) := by
  have kc0 : (Int32.ofInt 0).toInt = 0 := by decide +kernel
  have kc1 : (Int32.ofInt 1).toInt = 1 := by decide +kernel
  refine cx_Ct.of cg_147 (nL := 2) rfl rfl rfl ?_
  show cx_T 4 147 [0, 1, 77, 78, 79, 80] 0 ([some (.inr (.inl 0)), none], [], (h_xs dy r bf dl ds dr md bo t f g)) _
  refine ex_aload_n cg_147 (ix := 0) (pc' := 1) rfl rfl rfl ?_
  refine ex_getfield cg_147 (ix := 1) (pc' := 4) rfl rfl rfl rfl rfl ?_
  refine ex_iconst cg_147 (ix := 2) (pc' := 5) rfl rfl ?_
  refine ex_callV cg_147 (ix := 3) (pc' := 8) (As := [.inl (.int (Int32.ofInt 1))]) (r := []) rfl rfl rfl (ct_flt (bf := bf) (dl := dl) (ds := ds) (dr := dr) (md := md) (bo := bo) (more := Int32.ofInt 1) (f := f) (by omega) (by omega) (by first | decide +kernel | omega) (by first | decide +kernel | omega)) (by first | decide | omega) rfl rfl rfl ⟨rfl, rfl, trivial⟩ rfl rfl (fun v h2 hq => ?_)
  obtain ⟨zf, rfl, rfl, hzf⟩ := hq
  rcases hzf with ⟨hf1, rfl⟩ | ⟨hf1, hf2, rfl⟩ | ⟨hf1, hf2, rfl⟩
  · show cx_T _ 147 _ 8 ([some (.inr (.inl 0)), none], [.inl (.int (Int32.ofInt (-5)))], [(0, .inl (10, [.inr (.inl 1), .inr (.inl 2), .inr (.inl 15), .inr (.inl 21), .inr (.inl 43), .inr (.inl 68), .inr (.inl 77), .inr (.inl 87), .inr (.inl 101), .inr (.inl 107), .inr (.inl 113), .inl (.int dy)])), (1, .inr (.inl (0, 7, r))), (77, .inl (6, [.inr (.inl 78), .inr (.inl 79), .inr (.inl 80), .inr (.inl 81), .inr (.inl 85), .inr (.inl 86), .inl (.long bf), .inl (.int dl), .inl (.int ds), .inl (.int dr), .inl (.int md), .inl (.int bo)])), (78, .inr (.inl (0, 32, t))), (79, .inr (.inr (.inl (32, f)))), (80, .inr (.inr (.inl (32, g))))]) _
    refine ex_istore_n cg_147 (ix := 4) (pc' := 9) (L' := [some (.inr (.inl 0)), some (.inl (.int (Int32.ofInt (-5))))]) rfl rfl rfl rfl ?_
    refine ex_iload_n cg_147 (ix := 5) (pc' := 10) rfl rfl rfl ?_
    refine ex_if cg_147 (ix := 6) (t := 21) (pc' := 13) rfl rfl rfl (fun hb10 => ?_) (fun hb10 => ?_)
    · have hb10 : (Int32.ofInt (-5)).toInt = 0 := hb10
      exfalso; first | omega | exact absurd hb10 (by decide +kernel)
    · have hb10 : ¬ ((Int32.ofInt (-5)).toInt = 0) := hb10
      refine ex_aload_n cg_147 (ix := 7) (pc' := 14) rfl rfl rfl ?_
      refine ex_iload_n cg_147 (ix := 8) (pc' := 15) rfl rfl rfl ?_
      refine ex_callV cg_147 (ix := 9) (pc' := 18) (As := [.inl (.int (Int32.ofInt (-5)))]) (r := []) rfl rfl rfl (ct_xref (dy := dy) (x := Int32.ofInt (-5)) (r := r) (by decide +kernel) (by decide +kernel)) (by first | decide | omega) rfl rfl rfl ⟨rfl, rfl, trivial⟩ rfl rfl (fun v h2 hq => ?_)
      obtain ⟨rfl, r2, rfl⟩ := hq
      show cx_T _ 147 _ 18 ([some (.inr (.inl 0)), some (.inl (.int (Int32.ofInt (-5))))], [.inl (.int (Int32.ofInt (-5)))], [(0, .inl (10, [.inr (.inl 1), .inr (.inl 2), .inr (.inl 15), .inr (.inl 21), .inr (.inl 43), .inr (.inl 68), .inr (.inl 77), .inr (.inl 87), .inr (.inl 101), .inr (.inl 107), .inr (.inl 113), .inl (.int dy)])), (1, .inr (.inl (0, 7, r2))), (77, .inl (6, [.inr (.inl 78), .inr (.inl 79), .inr (.inl 80), .inr (.inl 81), .inr (.inl 85), .inr (.inl 86), .inl (.long bf), .inl (.int dl), .inl (.int ds), .inl (.int dr), .inl (.int md), .inl (.int bo)])), (78, .inr (.inl (0, 32, t))), (79, .inr (.inr (.inl (32, f)))), (80, .inr (.inr (.inl (32, g))))]) _
      refine ex_goto cg_147 (ix := 10) (pc' := 28) rfl rfl ?_
      refine ex_ireturn cg_147 (ix := 14) rfl ?_
      exact ⟨_, _, t, f, g, md, rfl, rfl, rfl, Or.inl ⟨hf1, rfl, rfl, rfl⟩⟩
  · show cx_T _ 147 _ 8 ([some (.inr (.inl 0)), none], [.inl (.int (Int32.ofInt (-6)))], [(0, .inl (10, [.inr (.inl 1), .inr (.inl 2), .inr (.inl 15), .inr (.inl 21), .inr (.inl 43), .inr (.inl 68), .inr (.inl 77), .inr (.inl 87), .inr (.inl 101), .inr (.inl 107), .inr (.inl 113), .inl (.int dy)])), (1, .inr (.inl (0, 7, r))), (77, .inl (6, [.inr (.inl 78), .inr (.inl 79), .inr (.inl 80), .inr (.inl 81), .inr (.inl 85), .inr (.inl 86), .inl (.long bf), .inl (.int dl), .inl (.int ds), .inl (.int dr), .inl (.int md), .inl (.int bo)])), (78, .inr (.inl (0, 32, t))), (79, .inr (.inr (.inl (32, f)))), (80, .inr (.inr (.inl (32, g))))]) _
    refine ex_istore_n cg_147 (ix := 4) (pc' := 9) (L' := [some (.inr (.inl 0)), some (.inl (.int (Int32.ofInt (-6))))]) rfl rfl rfl rfl ?_
    refine ex_iload_n cg_147 (ix := 5) (pc' := 10) rfl rfl rfl ?_
    refine ex_if cg_147 (ix := 6) (t := 21) (pc' := 13) rfl rfl rfl (fun hb10 => ?_) (fun hb10 => ?_)
    · have hb10 : (Int32.ofInt (-6)).toInt = 0 := hb10
      exfalso; first | omega | exact absurd hb10 (by decide +kernel)
    · have hb10 : ¬ ((Int32.ofInt (-6)).toInt = 0) := hb10
      refine ex_aload_n cg_147 (ix := 7) (pc' := 14) rfl rfl rfl ?_
      refine ex_iload_n cg_147 (ix := 8) (pc' := 15) rfl rfl rfl ?_
      refine ex_callV cg_147 (ix := 9) (pc' := 18) (As := [.inl (.int (Int32.ofInt (-6)))]) (r := []) rfl rfl rfl (ct_xref (dy := dy) (x := Int32.ofInt (-6)) (r := r) (by decide +kernel) (by decide +kernel)) (by first | decide | omega) rfl rfl rfl ⟨rfl, rfl, trivial⟩ rfl rfl (fun v h2 hq => ?_)
      obtain ⟨rfl, r2, rfl⟩ := hq
      show cx_T _ 147 _ 18 ([some (.inr (.inl 0)), some (.inl (.int (Int32.ofInt (-6))))], [.inl (.int (Int32.ofInt (-6)))], [(0, .inl (10, [.inr (.inl 1), .inr (.inl 2), .inr (.inl 15), .inr (.inl 21), .inr (.inl 43), .inr (.inl 68), .inr (.inl 77), .inr (.inl 87), .inr (.inl 101), .inr (.inl 107), .inr (.inl 113), .inl (.int dy)])), (1, .inr (.inl (0, 7, r2))), (77, .inl (6, [.inr (.inl 78), .inr (.inl 79), .inr (.inl 80), .inr (.inl 81), .inr (.inl 85), .inr (.inl 86), .inl (.long bf), .inl (.int dl), .inl (.int ds), .inl (.int dr), .inl (.int md), .inl (.int bo)])), (78, .inr (.inl (0, 32, t))), (79, .inr (.inr (.inl (32, f)))), (80, .inr (.inr (.inl (32, g))))]) _
      refine ex_goto cg_147 (ix := 10) (pc' := 28) rfl rfl ?_
      refine ex_ireturn cg_147 (ix := 14) rfl ?_
      exact ⟨_, _, t, f, g, md, rfl, rfl, rfl, Or.inr (Or.inl ⟨hf1, by omega, rfl, rfl, rfl⟩)⟩
  · show cx_T _ 147 _ 8 ([some (.inr (.inl 0)), none], [.inl (.int (Int32.ofInt 0))], [(0, .inl (10, [.inr (.inl 1), .inr (.inl 2), .inr (.inl 15), .inr (.inl 21), .inr (.inl 43), .inr (.inl 68), .inr (.inl 77), .inr (.inl 87), .inr (.inl 101), .inr (.inl 107), .inr (.inl 113), .inl (.int dy)])), (1, .inr (.inl (0, 7, r))), (77, .inl (6, [.inr (.inl 78), .inr (.inl 79), .inr (.inl 80), .inr (.inl 81), .inr (.inl 85), .inr (.inl 86), .inl (.long bf), .inl (.int dl), .inl (.int ds), .inl (.int dr), .inl (.int md), .inl (.int bo)])), (78, .inr (.inl (0, 32, t))), (79, .inr (.inr (.inl (32, f)))), (80, .inr (.inr (.inl (32, g))))]) _
    refine ex_istore_n cg_147 (ix := 4) (pc' := 9) (L' := [some (.inr (.inl 0)), some (.inl (.int (Int32.ofInt 0)))]) rfl rfl rfl rfl ?_
    refine ex_iload_n cg_147 (ix := 5) (pc' := 10) rfl rfl rfl ?_
    refine ex_if cg_147 (ix := 6) (t := 21) (pc' := 13) rfl rfl rfl (fun hb10 => ?_) (fun hb10 => ?_)
    · have hb10 : (Int32.ofInt 0).toInt = 0 := hb10
      refine ex_aload_n cg_147 (ix := 11) (pc' := 22) rfl rfl rfl ?_
      refine ex_getfield cg_147 (ix := 12) (pc' := 25) rfl rfl rfl rfl rfl ?_
      refine ex_callV cg_147 (ix := 13) (pc' := 28) (As := []) (r := []) rfl rfl rfl (ct_pm (bf := bf) (dl := dl) (ds := ds) (dr := dr) (md := md) (bo := bo) (f := f) (g := g)) (by first | decide | omega) rfl rfl rfl ⟨rfl, rfl, rfl, trivial⟩ rfl rfl (fun v h2 hq => ?_)
      obtain ⟨f2, g2, rfl, rfl, hfx⟩ := hq
      show cx_T _ 147 _ 28 ([some (.inr (.inl 0)), some (.inl (.int (Int32.ofInt 0)))], [.inl (.int (md + Int32.ofInt 1))], [(0, .inl (10, [.inr (.inl 1), .inr (.inl 2), .inr (.inl 15), .inr (.inl 21), .inr (.inl 43), .inr (.inl 68), .inr (.inl 77), .inr (.inl 87), .inr (.inl 101), .inr (.inl 107), .inr (.inl 113), .inl (.int dy)])), (1, .inr (.inl (0, 7, r))), (77, .inl (6, [.inr (.inl 78), .inr (.inl 79), .inr (.inl 80), .inr (.inl 81), .inr (.inl 85), .inr (.inl 86), .inl (.long bf), .inl (.int dl), .inl (.int ds), .inl (.int dr), .inl (.int (md + Int32.ofInt 1)), .inl (.int bo)])), (78, .inr (.inl (0, 32, t))), (79, .inr (.inr (.inl (32, f2)))), (80, .inr (.inr (.inl (32, g2))))]) _
      refine ex_ireturn cg_147 (ix := 14) rfl ?_
      exact ⟨_, r, t, f2, g2, _, rfl, rfl, rfl, Or.inr (Or.inr ⟨hf1, by omega, rfl, hfx, rfl⟩)⟩
    · have hb10 : ¬ ((Int32.ofInt 0).toInt = 0) := hb10
      exfalso; first | omega | exact absurd hb10 (by decide +kernel)
theorem ct_look {dy : Int32} {r : Nat → Int32} {bf : Int64} {dl ds dr md bo : Int32} {t : Nat → Int32} {f g : Nat → Int64} {p q : Int32} (hm0 : 0 ≤ md.toInt) (hm1 : md.toInt ≤ 10) : cx_Ct 4 148 [.inr (.inl 0), .inl (.int p), .inl (.int q)] (h_xs dy r bf dl ds dr md bo t f g) (fun v_ h2 => ∃ (z : Int32) (r2 t2 : Nat → Int32) (f2 g2 : Nat → Int64) (md2 : Int32), v_ = some (.inl (.int z)) ∧ h2 = h_xs dy r2 bf dl ds dr md2 bo t2 f2 g2 ∧ t2 = t ∧ lkA p q f md z f2 md2) := by
  have kcm5 : (Int32.ofInt (-5)).toInt = -5 := by decide +kernel
  have kcm1 : (Int32.ofInt (-1)).toInt = -1 := by decide +kernel
  have kc0 : (Int32.ofInt 0).toInt = 0 := by decide +kernel
  have kc1 : (Int32.ofInt 1).toInt = 1 := by decide +kernel
  have kc8 : (Int32.ofInt 8).toInt = 8 := by decide +kernel
  refine cx_Ct.of cg_148 (nL := 4) rfl rfl rfl ?_
  show cx_T 4 148 [0, 1, 77, 78, 79, 80] 0 ([some (.inr (.inl 0)), some (.inl (.int p)), some (.inl (.int q)), none], [], (h_xs dy r bf dl ds dr md bo t f g)) _
  refine ex_iload_n cg_148 (ix := 0) (pc' := 1) rfl rfl rfl ?_
  refine ex_callS cg_148 (ix := 1) (pc' := 4) (As := [.inl (.int p)]) (r := []) rfl rfl rfl (ct_xplace (x := p)) (by first | decide | omega) rfl rfl trivial rfl rfl (fun v h2 hq => ?_)
  obtain ⟨z, rfl, rfl, hz1⟩ := hq
  rcases hz1 with ⟨hz1, rfl⟩ | ⟨hz1, rfl⟩
  · show cx_T _ 148 _ 4 ([some (.inr (.inl 0)), some (.inl (.int p)), some (.inl (.int q)), none], [.inl (.int (Int32.ofInt 1))], [(0, .inl (10, [.inr (.inl 1), .inr (.inl 2), .inr (.inl 15), .inr (.inl 21), .inr (.inl 43), .inr (.inl 68), .inr (.inl 77), .inr (.inl 87), .inr (.inl 101), .inr (.inl 107), .inr (.inl 113), .inl (.int dy)])), (1, .inr (.inl (0, 7, r))), (77, .inl (6, [.inr (.inl 78), .inr (.inl 79), .inr (.inl 80), .inr (.inl 81), .inr (.inl 85), .inr (.inl 86), .inl (.long bf), .inl (.int dl), .inl (.int ds), .inl (.int dr), .inl (.int md), .inl (.int bo)])), (78, .inr (.inl (0, 32, t))), (79, .inr (.inr (.inl (32, f)))), (80, .inr (.inr (.inl (32, g))))]) _
    refine ex_if cg_148 (ix := 2) (t := 13) (pc' := 7) rfl rfl rfl (fun hb4 => ?_) (fun hb4 => ?_)
    · have hb4 : ¬ (Int32.ofInt 1).toInt = 0 := hb4
      refine ex_aload_n cg_148 (ix := 7) (pc' := 14) rfl rfl rfl ?_
      refine ex_getfield cg_148 (ix := 8) (pc' := 17) rfl rfl rfl rfl rfl ?_
      refine ex_callV cg_148 (ix := 9) (pc' := 20) (As := []) (r := []) rfl rfl rfl (ct_tot (bf := bf) (dl := dl) (ds := ds) (dr := dr) (md := md) (bo := bo) (f := f)) (by first | decide | omega) rfl rfl rfl ⟨rfl, rfl, trivial⟩ rfl rfl (fun v h2 hq => ?_)
      obtain ⟨rfl, rfl⟩ := hq
      show cx_T _ 148 _ 20 ([some (.inr (.inl 0)), some (.inl (.int p)), some (.inl (.int q)), none], [.inl (.long (sumL f 32))], [(0, .inl (10, [.inr (.inl 1), .inr (.inl 2), .inr (.inl 15), .inr (.inl 21), .inr (.inl 43), .inr (.inl 68), .inr (.inl 77), .inr (.inl 87), .inr (.inl 101), .inr (.inl 107), .inr (.inl 113), .inl (.int dy)])), (1, .inr (.inl (0, 7, r))), (77, .inl (6, [.inr (.inl 78), .inr (.inl 79), .inr (.inl 80), .inr (.inl 81), .inr (.inl 85), .inr (.inl 86), .inl (.long bf), .inl (.int dl), .inl (.int ds), .inl (.int dr), .inl (.int md), .inl (.int bo)])), (78, .inr (.inl (0, 32, t))), (79, .inr (.inr (.inl (32, f)))), (80, .inr (.inr (.inl (32, g))))]) _
      refine ex_lconst cg_148 (ix := 10) (pc' := 21) rfl rfl ?_
      refine ex_lcmp cg_148 (ix := 11) (pc' := 22) rfl rfl ?_
      have hlc21 := cx_cmp (sumL f 32) (Int64.ofNat 0)
      refine ex_if cg_148 (ix := 12) (t := 32) (pc' := 25) rfl rfl rfl (fun hb22 => ?_) (fun hb22 => ?_)
      · have hb22 : ¬ (lg_cmp (sumL f 32) (Int64.ofNat 0)).toInt = 0 := hb22
        refine ex_iload_n cg_148 (ix := 17) (pc' := 33) rfl rfl rfl ?_
        refine ex_iconst cg_148 (ix := 18) (pc' := 34) rfl rfl ?_
        refine ex_bipush cg_148 (ix := 19) (pc' := 36) rfl rfl rfl ?_
        refine ex_callS cg_148 (ix := 20) (pc' := 39) (As := [.inl (.int q), .inl (.int (Int32.ofInt 1)), .inl (.int (Int32.ofInt 8))]) (r := []) rfl rfl rfl (ct_out (x := q) (a := Int32.ofInt 1) (b := Int32.ofInt 8)) (by first | decide | omega) rfl rfl trivial rfl rfl (fun v h2 hq => ?_)
        obtain ⟨z, rfl, rfl, hz3⟩ := hq
        rcases hz3 with ⟨hz3, rfl⟩ | ⟨hz3, hz4, rfl⟩ | ⟨hz3, hz4, rfl⟩
        · show cx_T _ 148 _ 39 ([some (.inr (.inl 0)), some (.inl (.int p)), some (.inl (.int q)), none], [.inl (.int (Int32.ofInt (-4)))], [(0, .inl (10, [.inr (.inl 1), .inr (.inl 2), .inr (.inl 15), .inr (.inl 21), .inr (.inl 43), .inr (.inl 68), .inr (.inl 77), .inr (.inl 87), .inr (.inl 101), .inr (.inl 107), .inr (.inl 113), .inl (.int dy)])), (1, .inr (.inl (0, 7, r))), (77, .inl (6, [.inr (.inl 78), .inr (.inl 79), .inr (.inl 80), .inr (.inl 81), .inr (.inl 85), .inr (.inl 86), .inl (.long bf), .inl (.int dl), .inl (.int ds), .inl (.int dr), .inl (.int md), .inl (.int bo)])), (78, .inr (.inl (0, 32, t))), (79, .inr (.inr (.inl (32, f)))), (80, .inr (.inr (.inl (32, g))))]) _
          refine ex_aload_n cg_148 (ix := 21) (pc' := 40) rfl rfl rfl ?_
          refine ex_getfield cg_148 (ix := 22) (pc' := 43) rfl rfl rfl rfl rfl ?_
          refine ex_iconst cg_148 (ix := 23) (pc' := 44) rfl rfl ?_
          refine ex_callV cg_148 (ix := 24) (pc' := 47) (As := [.inl (.int (Int32.ofInt 1))]) (r := [.inl (.int (Int32.ofInt (-4)))]) rfl rfl rfl (ct_flt (bf := bf) (dl := dl) (ds := ds) (dr := dr) (md := md) (bo := bo) (more := Int32.ofInt 1) (f := f) (by omega) (by omega) (by first | decide +kernel | omega) (by first | decide +kernel | omega)) (by first | decide | omega) rfl rfl rfl ⟨rfl, rfl, trivial⟩ rfl rfl (fun v h2 hq => ?_)
          obtain ⟨zf, rfl, rfl, hzf⟩ := hq
          rcases hzf with ⟨hf1, rfl⟩ | ⟨hf1, hf2, rfl⟩ | ⟨hf1, hf2, rfl⟩
          · show cx_T _ 148 _ 47 ([some (.inr (.inl 0)), some (.inl (.int p)), some (.inl (.int q)), none], [.inl (.int (Int32.ofInt (-5))), .inl (.int (Int32.ofInt (-4)))], [(0, .inl (10, [.inr (.inl 1), .inr (.inl 2), .inr (.inl 15), .inr (.inl 21), .inr (.inl 43), .inr (.inl 68), .inr (.inl 77), .inr (.inl 87), .inr (.inl 101), .inr (.inl 107), .inr (.inl 113), .inl (.int dy)])), (1, .inr (.inl (0, 7, r))), (77, .inl (6, [.inr (.inl 78), .inr (.inl 79), .inr (.inl 80), .inr (.inl 81), .inr (.inl 85), .inr (.inl 86), .inl (.long bf), .inl (.int dl), .inl (.int ds), .inl (.int dr), .inl (.int md), .inl (.int bo)])), (78, .inr (.inl (0, 32, t))), (79, .inr (.inr (.inl (32, f)))), (80, .inr (.inr (.inl (32, g))))]) _
            refine ex_callS cg_148 (ix := 25) (pc' := 50) (As := [.inl (.int (Int32.ofInt (-4))), .inl (.int (Int32.ofInt (-5)))]) (r := []) rfl rfl rfl (ct_sxf (f := Int32.ofInt (-4)) (g := Int32.ofInt (-5))) (by first | decide | omega) rfl rfl trivial rfl rfl (fun v h2 hq => ?_)
            obtain ⟨rfl, rfl⟩ := hq
            rw [show sxF (Int32.ofInt (-4)) (Int32.ofInt (-5)) = Int32.ofInt (-4) by decide +kernel]
            show cx_T _ 148 _ 50 ([some (.inr (.inl 0)), some (.inl (.int p)), some (.inl (.int q)), none], [.inl (.int (Int32.ofInt (-4)))], [(0, .inl (10, [.inr (.inl 1), .inr (.inl 2), .inr (.inl 15), .inr (.inl 21), .inr (.inl 43), .inr (.inl 68), .inr (.inl 77), .inr (.inl 87), .inr (.inl 101), .inr (.inl 107), .inr (.inl 113), .inl (.int dy)])), (1, .inr (.inl (0, 7, r))), (77, .inl (6, [.inr (.inl 78), .inr (.inl 79), .inr (.inl 80), .inr (.inl 81), .inr (.inl 85), .inr (.inl 86), .inl (.long bf), .inl (.int dl), .inl (.int ds), .inl (.int dr), .inl (.int md), .inl (.int bo)])), (78, .inr (.inl (0, 32, t))), (79, .inr (.inr (.inl (32, f)))), (80, .inr (.inr (.inl (32, g))))]) _
            refine ex_istore_n cg_148 (ix := 26) (pc' := 51) (L' := [some (.inr (.inl 0)), some (.inl (.int p)), some (.inl (.int q)), some (.inl (.int (Int32.ofInt (-4))))]) rfl rfl rfl rfl ?_
            refine ex_iload_n cg_148 (ix := 27) (pc' := 52) rfl rfl rfl ?_
            refine ex_if cg_148 (ix := 28) (t := 63) (pc' := 55) rfl rfl rfl (fun hb52 => ?_) (fun hb52 => ?_)
            · have hb52 : (Int32.ofInt (-4)).toInt = 0 := hb52
              exfalso; first | omega | exact absurd hb52 (by decide +kernel)
            · have hb52 : ¬ ((Int32.ofInt (-4)).toInt = 0) := hb52
              refine ex_aload_n cg_148 (ix := 29) (pc' := 56) rfl rfl rfl ?_
              refine ex_iload_n cg_148 (ix := 30) (pc' := 57) rfl rfl rfl ?_
              refine ex_callV cg_148 (ix := 31) (pc' := 60) (As := [.inl (.int (Int32.ofInt (-4)))]) (r := []) rfl rfl rfl (ct_xref (dy := dy) (x := Int32.ofInt (-4)) (r := r) (by decide +kernel) (by decide +kernel)) (by first | decide | omega) rfl rfl rfl ⟨rfl, rfl, trivial⟩ rfl rfl (fun v h2 hq => ?_)
              obtain ⟨rfl, r2, rfl⟩ := hq
              show cx_T _ 148 _ 60 ([some (.inr (.inl 0)), some (.inl (.int p)), some (.inl (.int q)), some (.inl (.int (Int32.ofInt (-4))))], [.inl (.int (Int32.ofInt (-4)))], [(0, .inl (10, [.inr (.inl 1), .inr (.inl 2), .inr (.inl 15), .inr (.inl 21), .inr (.inl 43), .inr (.inl 68), .inr (.inl 77), .inr (.inl 87), .inr (.inl 101), .inr (.inl 107), .inr (.inl 113), .inl (.int dy)])), (1, .inr (.inl (0, 7, r2))), (77, .inl (6, [.inr (.inl 78), .inr (.inl 79), .inr (.inl 80), .inr (.inl 81), .inr (.inl 85), .inr (.inl 86), .inl (.long bf), .inl (.int dl), .inl (.int ds), .inl (.int dr), .inl (.int md), .inl (.int bo)])), (78, .inr (.inl (0, 32, t))), (79, .inr (.inr (.inl (32, f)))), (80, .inr (.inr (.inl (32, g))))]) _
              refine ex_goto cg_148 (ix := 32) (pc' := 72) rfl rfl ?_
              refine ex_ireturn cg_148 (ix := 38) rfl ?_
              exact ⟨_, _, t, f, g, md, rfl, rfl, rfl, Or.inr (Or.inr (Or.inl ⟨hz1, (fun q => by rcases hlc21 with q2 | q2 | q2 <;> first | omega | (rw [q] at q2; omega)), by omega, rfl, rfl, rfl⟩))⟩
          · show cx_T _ 148 _ 47 ([some (.inr (.inl 0)), some (.inl (.int p)), some (.inl (.int q)), none], [.inl (.int (Int32.ofInt (-6))), .inl (.int (Int32.ofInt (-4)))], [(0, .inl (10, [.inr (.inl 1), .inr (.inl 2), .inr (.inl 15), .inr (.inl 21), .inr (.inl 43), .inr (.inl 68), .inr (.inl 77), .inr (.inl 87), .inr (.inl 101), .inr (.inl 107), .inr (.inl 113), .inl (.int dy)])), (1, .inr (.inl (0, 7, r))), (77, .inl (6, [.inr (.inl 78), .inr (.inl 79), .inr (.inl 80), .inr (.inl 81), .inr (.inl 85), .inr (.inl 86), .inl (.long bf), .inl (.int dl), .inl (.int ds), .inl (.int dr), .inl (.int md), .inl (.int bo)])), (78, .inr (.inl (0, 32, t))), (79, .inr (.inr (.inl (32, f)))), (80, .inr (.inr (.inl (32, g))))]) _
            refine ex_callS cg_148 (ix := 25) (pc' := 50) (As := [.inl (.int (Int32.ofInt (-4))), .inl (.int (Int32.ofInt (-6)))]) (r := []) rfl rfl rfl (ct_sxf (f := Int32.ofInt (-4)) (g := Int32.ofInt (-6))) (by first | decide | omega) rfl rfl trivial rfl rfl (fun v h2 hq => ?_)
            obtain ⟨rfl, rfl⟩ := hq
            rw [show sxF (Int32.ofInt (-4)) (Int32.ofInt (-6)) = Int32.ofInt (-4) by decide +kernel]
            show cx_T _ 148 _ 50 ([some (.inr (.inl 0)), some (.inl (.int p)), some (.inl (.int q)), none], [.inl (.int (Int32.ofInt (-4)))], [(0, .inl (10, [.inr (.inl 1), .inr (.inl 2), .inr (.inl 15), .inr (.inl 21), .inr (.inl 43), .inr (.inl 68), .inr (.inl 77), .inr (.inl 87), .inr (.inl 101), .inr (.inl 107), .inr (.inl 113), .inl (.int dy)])), (1, .inr (.inl (0, 7, r))), (77, .inl (6, [.inr (.inl 78), .inr (.inl 79), .inr (.inl 80), .inr (.inl 81), .inr (.inl 85), .inr (.inl 86), .inl (.long bf), .inl (.int dl), .inl (.int ds), .inl (.int dr), .inl (.int md), .inl (.int bo)])), (78, .inr (.inl (0, 32, t))), (79, .inr (.inr (.inl (32, f)))), (80, .inr (.inr (.inl (32, g))))]) _
            refine ex_istore_n cg_148 (ix := 26) (pc' := 51) (L' := [some (.inr (.inl 0)), some (.inl (.int p)), some (.inl (.int q)), some (.inl (.int (Int32.ofInt (-4))))]) rfl rfl rfl rfl ?_
            refine ex_iload_n cg_148 (ix := 27) (pc' := 52) rfl rfl rfl ?_
            refine ex_if cg_148 (ix := 28) (t := 63) (pc' := 55) rfl rfl rfl (fun hb52 => ?_) (fun hb52 => ?_)
            · have hb52 : (Int32.ofInt (-4)).toInt = 0 := hb52
              exfalso; first | omega | exact absurd hb52 (by decide +kernel)
            · have hb52 : ¬ ((Int32.ofInt (-4)).toInt = 0) := hb52
              refine ex_aload_n cg_148 (ix := 29) (pc' := 56) rfl rfl rfl ?_
              refine ex_iload_n cg_148 (ix := 30) (pc' := 57) rfl rfl rfl ?_
              refine ex_callV cg_148 (ix := 31) (pc' := 60) (As := [.inl (.int (Int32.ofInt (-4)))]) (r := []) rfl rfl rfl (ct_xref (dy := dy) (x := Int32.ofInt (-4)) (r := r) (by decide +kernel) (by decide +kernel)) (by first | decide | omega) rfl rfl rfl ⟨rfl, rfl, trivial⟩ rfl rfl (fun v h2 hq => ?_)
              obtain ⟨rfl, r2, rfl⟩ := hq
              show cx_T _ 148 _ 60 ([some (.inr (.inl 0)), some (.inl (.int p)), some (.inl (.int q)), some (.inl (.int (Int32.ofInt (-4))))], [.inl (.int (Int32.ofInt (-4)))], [(0, .inl (10, [.inr (.inl 1), .inr (.inl 2), .inr (.inl 15), .inr (.inl 21), .inr (.inl 43), .inr (.inl 68), .inr (.inl 77), .inr (.inl 87), .inr (.inl 101), .inr (.inl 107), .inr (.inl 113), .inl (.int dy)])), (1, .inr (.inl (0, 7, r2))), (77, .inl (6, [.inr (.inl 78), .inr (.inl 79), .inr (.inl 80), .inr (.inl 81), .inr (.inl 85), .inr (.inl 86), .inl (.long bf), .inl (.int dl), .inl (.int ds), .inl (.int dr), .inl (.int md), .inl (.int bo)])), (78, .inr (.inl (0, 32, t))), (79, .inr (.inr (.inl (32, f)))), (80, .inr (.inr (.inl (32, g))))]) _
              refine ex_goto cg_148 (ix := 32) (pc' := 72) rfl rfl ?_
              refine ex_ireturn cg_148 (ix := 38) rfl ?_
              exact ⟨_, _, t, f, g, md, rfl, rfl, rfl, Or.inr (Or.inr (Or.inl ⟨hz1, (fun q => by rcases hlc21 with q2 | q2 | q2 <;> first | omega | (rw [q] at q2; omega)), by omega, rfl, rfl, rfl⟩))⟩
          · show cx_T _ 148 _ 47 ([some (.inr (.inl 0)), some (.inl (.int p)), some (.inl (.int q)), none], [.inl (.int (Int32.ofInt 0)), .inl (.int (Int32.ofInt (-4)))], [(0, .inl (10, [.inr (.inl 1), .inr (.inl 2), .inr (.inl 15), .inr (.inl 21), .inr (.inl 43), .inr (.inl 68), .inr (.inl 77), .inr (.inl 87), .inr (.inl 101), .inr (.inl 107), .inr (.inl 113), .inl (.int dy)])), (1, .inr (.inl (0, 7, r))), (77, .inl (6, [.inr (.inl 78), .inr (.inl 79), .inr (.inl 80), .inr (.inl 81), .inr (.inl 85), .inr (.inl 86), .inl (.long bf), .inl (.int dl), .inl (.int ds), .inl (.int dr), .inl (.int md), .inl (.int bo)])), (78, .inr (.inl (0, 32, t))), (79, .inr (.inr (.inl (32, f)))), (80, .inr (.inr (.inl (32, g))))]) _
            refine ex_callS cg_148 (ix := 25) (pc' := 50) (As := [.inl (.int (Int32.ofInt (-4))), .inl (.int (Int32.ofInt 0))]) (r := []) rfl rfl rfl (ct_sxf (f := Int32.ofInt (-4)) (g := Int32.ofInt 0)) (by first | decide | omega) rfl rfl trivial rfl rfl (fun v h2 hq => ?_)
            obtain ⟨rfl, rfl⟩ := hq
            rw [show sxF (Int32.ofInt (-4)) (Int32.ofInt 0) = Int32.ofInt (-4) by decide +kernel]
            show cx_T _ 148 _ 50 ([some (.inr (.inl 0)), some (.inl (.int p)), some (.inl (.int q)), none], [.inl (.int (Int32.ofInt (-4)))], [(0, .inl (10, [.inr (.inl 1), .inr (.inl 2), .inr (.inl 15), .inr (.inl 21), .inr (.inl 43), .inr (.inl 68), .inr (.inl 77), .inr (.inl 87), .inr (.inl 101), .inr (.inl 107), .inr (.inl 113), .inl (.int dy)])), (1, .inr (.inl (0, 7, r))), (77, .inl (6, [.inr (.inl 78), .inr (.inl 79), .inr (.inl 80), .inr (.inl 81), .inr (.inl 85), .inr (.inl 86), .inl (.long bf), .inl (.int dl), .inl (.int ds), .inl (.int dr), .inl (.int md), .inl (.int bo)])), (78, .inr (.inl (0, 32, t))), (79, .inr (.inr (.inl (32, f)))), (80, .inr (.inr (.inl (32, g))))]) _
            refine ex_istore_n cg_148 (ix := 26) (pc' := 51) (L' := [some (.inr (.inl 0)), some (.inl (.int p)), some (.inl (.int q)), some (.inl (.int (Int32.ofInt (-4))))]) rfl rfl rfl rfl ?_
            refine ex_iload_n cg_148 (ix := 27) (pc' := 52) rfl rfl rfl ?_
            refine ex_if cg_148 (ix := 28) (t := 63) (pc' := 55) rfl rfl rfl (fun hb52 => ?_) (fun hb52 => ?_)
            · have hb52 : (Int32.ofInt (-4)).toInt = 0 := hb52
              exfalso; first | omega | exact absurd hb52 (by decide +kernel)
            · have hb52 : ¬ ((Int32.ofInt (-4)).toInt = 0) := hb52
              refine ex_aload_n cg_148 (ix := 29) (pc' := 56) rfl rfl rfl ?_
              refine ex_iload_n cg_148 (ix := 30) (pc' := 57) rfl rfl rfl ?_
              refine ex_callV cg_148 (ix := 31) (pc' := 60) (As := [.inl (.int (Int32.ofInt (-4)))]) (r := []) rfl rfl rfl (ct_xref (dy := dy) (x := Int32.ofInt (-4)) (r := r) (by decide +kernel) (by decide +kernel)) (by first | decide | omega) rfl rfl rfl ⟨rfl, rfl, trivial⟩ rfl rfl (fun v h2 hq => ?_)
              obtain ⟨rfl, r2, rfl⟩ := hq
              show cx_T _ 148 _ 60 ([some (.inr (.inl 0)), some (.inl (.int p)), some (.inl (.int q)), some (.inl (.int (Int32.ofInt (-4))))], [.inl (.int (Int32.ofInt (-4)))], [(0, .inl (10, [.inr (.inl 1), .inr (.inl 2), .inr (.inl 15), .inr (.inl 21), .inr (.inl 43), .inr (.inl 68), .inr (.inl 77), .inr (.inl 87), .inr (.inl 101), .inr (.inl 107), .inr (.inl 113), .inl (.int dy)])), (1, .inr (.inl (0, 7, r2))), (77, .inl (6, [.inr (.inl 78), .inr (.inl 79), .inr (.inl 80), .inr (.inl 81), .inr (.inl 85), .inr (.inl 86), .inl (.long bf), .inl (.int dl), .inl (.int ds), .inl (.int dr), .inl (.int md), .inl (.int bo)])), (78, .inr (.inl (0, 32, t))), (79, .inr (.inr (.inl (32, f)))), (80, .inr (.inr (.inl (32, g))))]) _
              refine ex_goto cg_148 (ix := 32) (pc' := 72) rfl rfl ?_
              refine ex_ireturn cg_148 (ix := 38) rfl ?_
              exact ⟨_, _, t, f, g, md, rfl, rfl, rfl, Or.inr (Or.inr (Or.inl ⟨hz1, (fun q => by rcases hlc21 with q2 | q2 | q2 <;> first | omega | (rw [q] at q2; omega)), by omega, rfl, rfl, rfl⟩))⟩
        · show cx_T _ 148 _ 39 ([some (.inr (.inl 0)), some (.inl (.int p)), some (.inl (.int q)), none], [.inl (.int (Int32.ofInt (-6)))], [(0, .inl (10, [.inr (.inl 1), .inr (.inl 2), .inr (.inl 15), .inr (.inl 21), .inr (.inl 43), .inr (.inl 68), .inr (.inl 77), .inr (.inl 87), .inr (.inl 101), .inr (.inl 107), .inr (.inl 113), .inl (.int dy)])), (1, .inr (.inl (0, 7, r))), (77, .inl (6, [.inr (.inl 78), .inr (.inl 79), .inr (.inl 80), .inr (.inl 81), .inr (.inl 85), .inr (.inl 86), .inl (.long bf), .inl (.int dl), .inl (.int ds), .inl (.int dr), .inl (.int md), .inl (.int bo)])), (78, .inr (.inl (0, 32, t))), (79, .inr (.inr (.inl (32, f)))), (80, .inr (.inr (.inl (32, g))))]) _
          refine ex_aload_n cg_148 (ix := 21) (pc' := 40) rfl rfl rfl ?_
          refine ex_getfield cg_148 (ix := 22) (pc' := 43) rfl rfl rfl rfl rfl ?_
          refine ex_iconst cg_148 (ix := 23) (pc' := 44) rfl rfl ?_
          refine ex_callV cg_148 (ix := 24) (pc' := 47) (As := [.inl (.int (Int32.ofInt 1))]) (r := [.inl (.int (Int32.ofInt (-6)))]) rfl rfl rfl (ct_flt (bf := bf) (dl := dl) (ds := ds) (dr := dr) (md := md) (bo := bo) (more := Int32.ofInt 1) (f := f) (by omega) (by omega) (by first | decide +kernel | omega) (by first | decide +kernel | omega)) (by first | decide | omega) rfl rfl rfl ⟨rfl, rfl, trivial⟩ rfl rfl (fun v h2 hq => ?_)
          obtain ⟨zf, rfl, rfl, hzf⟩ := hq
          rcases hzf with ⟨hf1, rfl⟩ | ⟨hf1, hf2, rfl⟩ | ⟨hf1, hf2, rfl⟩
          · show cx_T _ 148 _ 47 ([some (.inr (.inl 0)), some (.inl (.int p)), some (.inl (.int q)), none], [.inl (.int (Int32.ofInt (-5))), .inl (.int (Int32.ofInt (-6)))], [(0, .inl (10, [.inr (.inl 1), .inr (.inl 2), .inr (.inl 15), .inr (.inl 21), .inr (.inl 43), .inr (.inl 68), .inr (.inl 77), .inr (.inl 87), .inr (.inl 101), .inr (.inl 107), .inr (.inl 113), .inl (.int dy)])), (1, .inr (.inl (0, 7, r))), (77, .inl (6, [.inr (.inl 78), .inr (.inl 79), .inr (.inl 80), .inr (.inl 81), .inr (.inl 85), .inr (.inl 86), .inl (.long bf), .inl (.int dl), .inl (.int ds), .inl (.int dr), .inl (.int md), .inl (.int bo)])), (78, .inr (.inl (0, 32, t))), (79, .inr (.inr (.inl (32, f)))), (80, .inr (.inr (.inl (32, g))))]) _
            refine ex_callS cg_148 (ix := 25) (pc' := 50) (As := [.inl (.int (Int32.ofInt (-6))), .inl (.int (Int32.ofInt (-5)))]) (r := []) rfl rfl rfl (ct_sxf (f := Int32.ofInt (-6)) (g := Int32.ofInt (-5))) (by first | decide | omega) rfl rfl trivial rfl rfl (fun v h2 hq => ?_)
            obtain ⟨rfl, rfl⟩ := hq
            rw [show sxF (Int32.ofInt (-6)) (Int32.ofInt (-5)) = Int32.ofInt (-6) by decide +kernel]
            show cx_T _ 148 _ 50 ([some (.inr (.inl 0)), some (.inl (.int p)), some (.inl (.int q)), none], [.inl (.int (Int32.ofInt (-6)))], [(0, .inl (10, [.inr (.inl 1), .inr (.inl 2), .inr (.inl 15), .inr (.inl 21), .inr (.inl 43), .inr (.inl 68), .inr (.inl 77), .inr (.inl 87), .inr (.inl 101), .inr (.inl 107), .inr (.inl 113), .inl (.int dy)])), (1, .inr (.inl (0, 7, r))), (77, .inl (6, [.inr (.inl 78), .inr (.inl 79), .inr (.inl 80), .inr (.inl 81), .inr (.inl 85), .inr (.inl 86), .inl (.long bf), .inl (.int dl), .inl (.int ds), .inl (.int dr), .inl (.int md), .inl (.int bo)])), (78, .inr (.inl (0, 32, t))), (79, .inr (.inr (.inl (32, f)))), (80, .inr (.inr (.inl (32, g))))]) _
            refine ex_istore_n cg_148 (ix := 26) (pc' := 51) (L' := [some (.inr (.inl 0)), some (.inl (.int p)), some (.inl (.int q)), some (.inl (.int (Int32.ofInt (-6))))]) rfl rfl rfl rfl ?_
            refine ex_iload_n cg_148 (ix := 27) (pc' := 52) rfl rfl rfl ?_
            refine ex_if cg_148 (ix := 28) (t := 63) (pc' := 55) rfl rfl rfl (fun hb52 => ?_) (fun hb52 => ?_)
            · have hb52 : (Int32.ofInt (-6)).toInt = 0 := hb52
              exfalso; first | omega | exact absurd hb52 (by decide +kernel)
            · have hb52 : ¬ ((Int32.ofInt (-6)).toInt = 0) := hb52
              refine ex_aload_n cg_148 (ix := 29) (pc' := 56) rfl rfl rfl ?_
              refine ex_iload_n cg_148 (ix := 30) (pc' := 57) rfl rfl rfl ?_
              refine ex_callV cg_148 (ix := 31) (pc' := 60) (As := [.inl (.int (Int32.ofInt (-6)))]) (r := []) rfl rfl rfl (ct_xref (dy := dy) (x := Int32.ofInt (-6)) (r := r) (by decide +kernel) (by decide +kernel)) (by first | decide | omega) rfl rfl rfl ⟨rfl, rfl, trivial⟩ rfl rfl (fun v h2 hq => ?_)
              obtain ⟨rfl, r2, rfl⟩ := hq
              show cx_T _ 148 _ 60 ([some (.inr (.inl 0)), some (.inl (.int p)), some (.inl (.int q)), some (.inl (.int (Int32.ofInt (-6))))], [.inl (.int (Int32.ofInt (-6)))], [(0, .inl (10, [.inr (.inl 1), .inr (.inl 2), .inr (.inl 15), .inr (.inl 21), .inr (.inl 43), .inr (.inl 68), .inr (.inl 77), .inr (.inl 87), .inr (.inl 101), .inr (.inl 107), .inr (.inl 113), .inl (.int dy)])), (1, .inr (.inl (0, 7, r2))), (77, .inl (6, [.inr (.inl 78), .inr (.inl 79), .inr (.inl 80), .inr (.inl 81), .inr (.inl 85), .inr (.inl 86), .inl (.long bf), .inl (.int dl), .inl (.int ds), .inl (.int dr), .inl (.int md), .inl (.int bo)])), (78, .inr (.inl (0, 32, t))), (79, .inr (.inr (.inl (32, f)))), (80, .inr (.inr (.inl (32, g))))]) _
              refine ex_goto cg_148 (ix := 32) (pc' := 72) rfl rfl ?_
              refine ex_ireturn cg_148 (ix := 38) rfl ?_
              exact ⟨_, _, t, f, g, md, rfl, rfl, rfl, Or.inr (Or.inr (Or.inr (Or.inl ⟨hz1, (fun q => by rcases hlc21 with q2 | q2 | q2 <;> first | omega | (rw [q] at q2; omega)), by omega, by omega, rfl, rfl, rfl⟩)))⟩
          · show cx_T _ 148 _ 47 ([some (.inr (.inl 0)), some (.inl (.int p)), some (.inl (.int q)), none], [.inl (.int (Int32.ofInt (-6))), .inl (.int (Int32.ofInt (-6)))], [(0, .inl (10, [.inr (.inl 1), .inr (.inl 2), .inr (.inl 15), .inr (.inl 21), .inr (.inl 43), .inr (.inl 68), .inr (.inl 77), .inr (.inl 87), .inr (.inl 101), .inr (.inl 107), .inr (.inl 113), .inl (.int dy)])), (1, .inr (.inl (0, 7, r))), (77, .inl (6, [.inr (.inl 78), .inr (.inl 79), .inr (.inl 80), .inr (.inl 81), .inr (.inl 85), .inr (.inl 86), .inl (.long bf), .inl (.int dl), .inl (.int ds), .inl (.int dr), .inl (.int md), .inl (.int bo)])), (78, .inr (.inl (0, 32, t))), (79, .inr (.inr (.inl (32, f)))), (80, .inr (.inr (.inl (32, g))))]) _
            refine ex_callS cg_148 (ix := 25) (pc' := 50) (As := [.inl (.int (Int32.ofInt (-6))), .inl (.int (Int32.ofInt (-6)))]) (r := []) rfl rfl rfl (ct_sxf (f := Int32.ofInt (-6)) (g := Int32.ofInt (-6))) (by first | decide | omega) rfl rfl trivial rfl rfl (fun v h2 hq => ?_)
            obtain ⟨rfl, rfl⟩ := hq
            rw [show sxF (Int32.ofInt (-6)) (Int32.ofInt (-6)) = Int32.ofInt (-6) by decide +kernel]
            show cx_T _ 148 _ 50 ([some (.inr (.inl 0)), some (.inl (.int p)), some (.inl (.int q)), none], [.inl (.int (Int32.ofInt (-6)))], [(0, .inl (10, [.inr (.inl 1), .inr (.inl 2), .inr (.inl 15), .inr (.inl 21), .inr (.inl 43), .inr (.inl 68), .inr (.inl 77), .inr (.inl 87), .inr (.inl 101), .inr (.inl 107), .inr (.inl 113), .inl (.int dy)])), (1, .inr (.inl (0, 7, r))), (77, .inl (6, [.inr (.inl 78), .inr (.inl 79), .inr (.inl 80), .inr (.inl 81), .inr (.inl 85), .inr (.inl 86), .inl (.long bf), .inl (.int dl), .inl (.int ds), .inl (.int dr), .inl (.int md), .inl (.int bo)])), (78, .inr (.inl (0, 32, t))), (79, .inr (.inr (.inl (32, f)))), (80, .inr (.inr (.inl (32, g))))]) _
            refine ex_istore_n cg_148 (ix := 26) (pc' := 51) (L' := [some (.inr (.inl 0)), some (.inl (.int p)), some (.inl (.int q)), some (.inl (.int (Int32.ofInt (-6))))]) rfl rfl rfl rfl ?_
            refine ex_iload_n cg_148 (ix := 27) (pc' := 52) rfl rfl rfl ?_
            refine ex_if cg_148 (ix := 28) (t := 63) (pc' := 55) rfl rfl rfl (fun hb52 => ?_) (fun hb52 => ?_)
            · have hb52 : (Int32.ofInt (-6)).toInt = 0 := hb52
              exfalso; first | omega | exact absurd hb52 (by decide +kernel)
            · have hb52 : ¬ ((Int32.ofInt (-6)).toInt = 0) := hb52
              refine ex_aload_n cg_148 (ix := 29) (pc' := 56) rfl rfl rfl ?_
              refine ex_iload_n cg_148 (ix := 30) (pc' := 57) rfl rfl rfl ?_
              refine ex_callV cg_148 (ix := 31) (pc' := 60) (As := [.inl (.int (Int32.ofInt (-6)))]) (r := []) rfl rfl rfl (ct_xref (dy := dy) (x := Int32.ofInt (-6)) (r := r) (by decide +kernel) (by decide +kernel)) (by first | decide | omega) rfl rfl rfl ⟨rfl, rfl, trivial⟩ rfl rfl (fun v h2 hq => ?_)
              obtain ⟨rfl, r2, rfl⟩ := hq
              show cx_T _ 148 _ 60 ([some (.inr (.inl 0)), some (.inl (.int p)), some (.inl (.int q)), some (.inl (.int (Int32.ofInt (-6))))], [.inl (.int (Int32.ofInt (-6)))], [(0, .inl (10, [.inr (.inl 1), .inr (.inl 2), .inr (.inl 15), .inr (.inl 21), .inr (.inl 43), .inr (.inl 68), .inr (.inl 77), .inr (.inl 87), .inr (.inl 101), .inr (.inl 107), .inr (.inl 113), .inl (.int dy)])), (1, .inr (.inl (0, 7, r2))), (77, .inl (6, [.inr (.inl 78), .inr (.inl 79), .inr (.inl 80), .inr (.inl 81), .inr (.inl 85), .inr (.inl 86), .inl (.long bf), .inl (.int dl), .inl (.int ds), .inl (.int dr), .inl (.int md), .inl (.int bo)])), (78, .inr (.inl (0, 32, t))), (79, .inr (.inr (.inl (32, f)))), (80, .inr (.inr (.inl (32, g))))]) _
              refine ex_goto cg_148 (ix := 32) (pc' := 72) rfl rfl ?_
              refine ex_ireturn cg_148 (ix := 38) rfl ?_
              exact ⟨_, _, t, f, g, md, rfl, rfl, rfl, Or.inr (Or.inr (Or.inr (Or.inl ⟨hz1, (fun q => by rcases hlc21 with q2 | q2 | q2 <;> first | omega | (rw [q] at q2; omega)), by omega, by omega, rfl, rfl, rfl⟩)))⟩
          · show cx_T _ 148 _ 47 ([some (.inr (.inl 0)), some (.inl (.int p)), some (.inl (.int q)), none], [.inl (.int (Int32.ofInt 0)), .inl (.int (Int32.ofInt (-6)))], [(0, .inl (10, [.inr (.inl 1), .inr (.inl 2), .inr (.inl 15), .inr (.inl 21), .inr (.inl 43), .inr (.inl 68), .inr (.inl 77), .inr (.inl 87), .inr (.inl 101), .inr (.inl 107), .inr (.inl 113), .inl (.int dy)])), (1, .inr (.inl (0, 7, r))), (77, .inl (6, [.inr (.inl 78), .inr (.inl 79), .inr (.inl 80), .inr (.inl 81), .inr (.inl 85), .inr (.inl 86), .inl (.long bf), .inl (.int dl), .inl (.int ds), .inl (.int dr), .inl (.int md), .inl (.int bo)])), (78, .inr (.inl (0, 32, t))), (79, .inr (.inr (.inl (32, f)))), (80, .inr (.inr (.inl (32, g))))]) _
            refine ex_callS cg_148 (ix := 25) (pc' := 50) (As := [.inl (.int (Int32.ofInt (-6))), .inl (.int (Int32.ofInt 0))]) (r := []) rfl rfl rfl (ct_sxf (f := Int32.ofInt (-6)) (g := Int32.ofInt 0)) (by first | decide | omega) rfl rfl trivial rfl rfl (fun v h2 hq => ?_)
            obtain ⟨rfl, rfl⟩ := hq
            rw [show sxF (Int32.ofInt (-6)) (Int32.ofInt 0) = Int32.ofInt (-6) by decide +kernel]
            show cx_T _ 148 _ 50 ([some (.inr (.inl 0)), some (.inl (.int p)), some (.inl (.int q)), none], [.inl (.int (Int32.ofInt (-6)))], [(0, .inl (10, [.inr (.inl 1), .inr (.inl 2), .inr (.inl 15), .inr (.inl 21), .inr (.inl 43), .inr (.inl 68), .inr (.inl 77), .inr (.inl 87), .inr (.inl 101), .inr (.inl 107), .inr (.inl 113), .inl (.int dy)])), (1, .inr (.inl (0, 7, r))), (77, .inl (6, [.inr (.inl 78), .inr (.inl 79), .inr (.inl 80), .inr (.inl 81), .inr (.inl 85), .inr (.inl 86), .inl (.long bf), .inl (.int dl), .inl (.int ds), .inl (.int dr), .inl (.int md), .inl (.int bo)])), (78, .inr (.inl (0, 32, t))), (79, .inr (.inr (.inl (32, f)))), (80, .inr (.inr (.inl (32, g))))]) _
            refine ex_istore_n cg_148 (ix := 26) (pc' := 51) (L' := [some (.inr (.inl 0)), some (.inl (.int p)), some (.inl (.int q)), some (.inl (.int (Int32.ofInt (-6))))]) rfl rfl rfl rfl ?_
            refine ex_iload_n cg_148 (ix := 27) (pc' := 52) rfl rfl rfl ?_
            refine ex_if cg_148 (ix := 28) (t := 63) (pc' := 55) rfl rfl rfl (fun hb52 => ?_) (fun hb52 => ?_)
            · have hb52 : (Int32.ofInt (-6)).toInt = 0 := hb52
              exfalso; first | omega | exact absurd hb52 (by decide +kernel)
            · have hb52 : ¬ ((Int32.ofInt (-6)).toInt = 0) := hb52
              refine ex_aload_n cg_148 (ix := 29) (pc' := 56) rfl rfl rfl ?_
              refine ex_iload_n cg_148 (ix := 30) (pc' := 57) rfl rfl rfl ?_
              refine ex_callV cg_148 (ix := 31) (pc' := 60) (As := [.inl (.int (Int32.ofInt (-6)))]) (r := []) rfl rfl rfl (ct_xref (dy := dy) (x := Int32.ofInt (-6)) (r := r) (by decide +kernel) (by decide +kernel)) (by first | decide | omega) rfl rfl rfl ⟨rfl, rfl, trivial⟩ rfl rfl (fun v h2 hq => ?_)
              obtain ⟨rfl, r2, rfl⟩ := hq
              show cx_T _ 148 _ 60 ([some (.inr (.inl 0)), some (.inl (.int p)), some (.inl (.int q)), some (.inl (.int (Int32.ofInt (-6))))], [.inl (.int (Int32.ofInt (-6)))], [(0, .inl (10, [.inr (.inl 1), .inr (.inl 2), .inr (.inl 15), .inr (.inl 21), .inr (.inl 43), .inr (.inl 68), .inr (.inl 77), .inr (.inl 87), .inr (.inl 101), .inr (.inl 107), .inr (.inl 113), .inl (.int dy)])), (1, .inr (.inl (0, 7, r2))), (77, .inl (6, [.inr (.inl 78), .inr (.inl 79), .inr (.inl 80), .inr (.inl 81), .inr (.inl 85), .inr (.inl 86), .inl (.long bf), .inl (.int dl), .inl (.int ds), .inl (.int dr), .inl (.int md), .inl (.int bo)])), (78, .inr (.inl (0, 32, t))), (79, .inr (.inr (.inl (32, f)))), (80, .inr (.inr (.inl (32, g))))]) _
              refine ex_goto cg_148 (ix := 32) (pc' := 72) rfl rfl ?_
              refine ex_ireturn cg_148 (ix := 38) rfl ?_
              exact ⟨_, _, t, f, g, md, rfl, rfl, rfl, Or.inr (Or.inr (Or.inr (Or.inl ⟨hz1, (fun q => by rcases hlc21 with q2 | q2 | q2 <;> first | omega | (rw [q] at q2; omega)), by omega, by omega, rfl, rfl, rfl⟩)))⟩
        · show cx_T _ 148 _ 39 ([some (.inr (.inl 0)), some (.inl (.int p)), some (.inl (.int q)), none], [.inl (.int (Int32.ofInt 0))], [(0, .inl (10, [.inr (.inl 1), .inr (.inl 2), .inr (.inl 15), .inr (.inl 21), .inr (.inl 43), .inr (.inl 68), .inr (.inl 77), .inr (.inl 87), .inr (.inl 101), .inr (.inl 107), .inr (.inl 113), .inl (.int dy)])), (1, .inr (.inl (0, 7, r))), (77, .inl (6, [.inr (.inl 78), .inr (.inl 79), .inr (.inl 80), .inr (.inl 81), .inr (.inl 85), .inr (.inl 86), .inl (.long bf), .inl (.int dl), .inl (.int ds), .inl (.int dr), .inl (.int md), .inl (.int bo)])), (78, .inr (.inl (0, 32, t))), (79, .inr (.inr (.inl (32, f)))), (80, .inr (.inr (.inl (32, g))))]) _
          refine ex_aload_n cg_148 (ix := 21) (pc' := 40) rfl rfl rfl ?_
          refine ex_getfield cg_148 (ix := 22) (pc' := 43) rfl rfl rfl rfl rfl ?_
          refine ex_iconst cg_148 (ix := 23) (pc' := 44) rfl rfl ?_
          refine ex_callV cg_148 (ix := 24) (pc' := 47) (As := [.inl (.int (Int32.ofInt 1))]) (r := [.inl (.int (Int32.ofInt 0))]) rfl rfl rfl (ct_flt (bf := bf) (dl := dl) (ds := ds) (dr := dr) (md := md) (bo := bo) (more := Int32.ofInt 1) (f := f) (by omega) (by omega) (by first | decide +kernel | omega) (by first | decide +kernel | omega)) (by first | decide | omega) rfl rfl rfl ⟨rfl, rfl, trivial⟩ rfl rfl (fun v h2 hq => ?_)
          obtain ⟨zf, rfl, rfl, hzf⟩ := hq
          rcases hzf with ⟨hf1, rfl⟩ | ⟨hf1, hf2, rfl⟩ | ⟨hf1, hf2, rfl⟩
          · show cx_T _ 148 _ 47 ([some (.inr (.inl 0)), some (.inl (.int p)), some (.inl (.int q)), none], [.inl (.int (Int32.ofInt (-5))), .inl (.int (Int32.ofInt 0))], [(0, .inl (10, [.inr (.inl 1), .inr (.inl 2), .inr (.inl 15), .inr (.inl 21), .inr (.inl 43), .inr (.inl 68), .inr (.inl 77), .inr (.inl 87), .inr (.inl 101), .inr (.inl 107), .inr (.inl 113), .inl (.int dy)])), (1, .inr (.inl (0, 7, r))), (77, .inl (6, [.inr (.inl 78), .inr (.inl 79), .inr (.inl 80), .inr (.inl 81), .inr (.inl 85), .inr (.inl 86), .inl (.long bf), .inl (.int dl), .inl (.int ds), .inl (.int dr), .inl (.int md), .inl (.int bo)])), (78, .inr (.inl (0, 32, t))), (79, .inr (.inr (.inl (32, f)))), (80, .inr (.inr (.inl (32, g))))]) _
            refine ex_callS cg_148 (ix := 25) (pc' := 50) (As := [.inl (.int (Int32.ofInt 0)), .inl (.int (Int32.ofInt (-5)))]) (r := []) rfl rfl rfl (ct_sxf (f := Int32.ofInt 0) (g := Int32.ofInt (-5))) (by first | decide | omega) rfl rfl trivial rfl rfl (fun v h2 hq => ?_)
            obtain ⟨rfl, rfl⟩ := hq
            rw [show sxF (Int32.ofInt 0) (Int32.ofInt (-5)) = Int32.ofInt (-5) by decide +kernel]
            show cx_T _ 148 _ 50 ([some (.inr (.inl 0)), some (.inl (.int p)), some (.inl (.int q)), none], [.inl (.int (Int32.ofInt (-5)))], [(0, .inl (10, [.inr (.inl 1), .inr (.inl 2), .inr (.inl 15), .inr (.inl 21), .inr (.inl 43), .inr (.inl 68), .inr (.inl 77), .inr (.inl 87), .inr (.inl 101), .inr (.inl 107), .inr (.inl 113), .inl (.int dy)])), (1, .inr (.inl (0, 7, r))), (77, .inl (6, [.inr (.inl 78), .inr (.inl 79), .inr (.inl 80), .inr (.inl 81), .inr (.inl 85), .inr (.inl 86), .inl (.long bf), .inl (.int dl), .inl (.int ds), .inl (.int dr), .inl (.int md), .inl (.int bo)])), (78, .inr (.inl (0, 32, t))), (79, .inr (.inr (.inl (32, f)))), (80, .inr (.inr (.inl (32, g))))]) _
            refine ex_istore_n cg_148 (ix := 26) (pc' := 51) (L' := [some (.inr (.inl 0)), some (.inl (.int p)), some (.inl (.int q)), some (.inl (.int (Int32.ofInt (-5))))]) rfl rfl rfl rfl ?_
            refine ex_iload_n cg_148 (ix := 27) (pc' := 52) rfl rfl rfl ?_
            refine ex_if cg_148 (ix := 28) (t := 63) (pc' := 55) rfl rfl rfl (fun hb52 => ?_) (fun hb52 => ?_)
            · have hb52 : (Int32.ofInt (-5)).toInt = 0 := hb52
              exfalso; first | omega | exact absurd hb52 (by decide +kernel)
            · have hb52 : ¬ ((Int32.ofInt (-5)).toInt = 0) := hb52
              refine ex_aload_n cg_148 (ix := 29) (pc' := 56) rfl rfl rfl ?_
              refine ex_iload_n cg_148 (ix := 30) (pc' := 57) rfl rfl rfl ?_
              refine ex_callV cg_148 (ix := 31) (pc' := 60) (As := [.inl (.int (Int32.ofInt (-5)))]) (r := []) rfl rfl rfl (ct_xref (dy := dy) (x := Int32.ofInt (-5)) (r := r) (by decide +kernel) (by decide +kernel)) (by first | decide | omega) rfl rfl rfl ⟨rfl, rfl, trivial⟩ rfl rfl (fun v h2 hq => ?_)
              obtain ⟨rfl, r2, rfl⟩ := hq
              show cx_T _ 148 _ 60 ([some (.inr (.inl 0)), some (.inl (.int p)), some (.inl (.int q)), some (.inl (.int (Int32.ofInt (-5))))], [.inl (.int (Int32.ofInt (-5)))], [(0, .inl (10, [.inr (.inl 1), .inr (.inl 2), .inr (.inl 15), .inr (.inl 21), .inr (.inl 43), .inr (.inl 68), .inr (.inl 77), .inr (.inl 87), .inr (.inl 101), .inr (.inl 107), .inr (.inl 113), .inl (.int dy)])), (1, .inr (.inl (0, 7, r2))), (77, .inl (6, [.inr (.inl 78), .inr (.inl 79), .inr (.inl 80), .inr (.inl 81), .inr (.inl 85), .inr (.inl 86), .inl (.long bf), .inl (.int dl), .inl (.int ds), .inl (.int dr), .inl (.int md), .inl (.int bo)])), (78, .inr (.inl (0, 32, t))), (79, .inr (.inr (.inl (32, f)))), (80, .inr (.inr (.inl (32, g))))]) _
              refine ex_goto cg_148 (ix := 32) (pc' := 72) rfl rfl ?_
              refine ex_ireturn cg_148 (ix := 38) rfl ?_
              refine ⟨_, _, t, f, g, md, rfl, rfl, rfl, Or.inr (Or.inl ⟨hz1, ?_, rfl, rfl, rfl⟩)⟩
              first | exact hf1 | (rcases hlc21 with q | q | q <;> first | omega | exact q.2.1)
          · show cx_T _ 148 _ 47 ([some (.inr (.inl 0)), some (.inl (.int p)), some (.inl (.int q)), none], [.inl (.int (Int32.ofInt (-6))), .inl (.int (Int32.ofInt 0))], [(0, .inl (10, [.inr (.inl 1), .inr (.inl 2), .inr (.inl 15), .inr (.inl 21), .inr (.inl 43), .inr (.inl 68), .inr (.inl 77), .inr (.inl 87), .inr (.inl 101), .inr (.inl 107), .inr (.inl 113), .inl (.int dy)])), (1, .inr (.inl (0, 7, r))), (77, .inl (6, [.inr (.inl 78), .inr (.inl 79), .inr (.inl 80), .inr (.inl 81), .inr (.inl 85), .inr (.inl 86), .inl (.long bf), .inl (.int dl), .inl (.int ds), .inl (.int dr), .inl (.int md), .inl (.int bo)])), (78, .inr (.inl (0, 32, t))), (79, .inr (.inr (.inl (32, f)))), (80, .inr (.inr (.inl (32, g))))]) _
            refine ex_callS cg_148 (ix := 25) (pc' := 50) (As := [.inl (.int (Int32.ofInt 0)), .inl (.int (Int32.ofInt (-6)))]) (r := []) rfl rfl rfl (ct_sxf (f := Int32.ofInt 0) (g := Int32.ofInt (-6))) (by first | decide | omega) rfl rfl trivial rfl rfl (fun v h2 hq => ?_)
            obtain ⟨rfl, rfl⟩ := hq
            rw [show sxF (Int32.ofInt 0) (Int32.ofInt (-6)) = Int32.ofInt (-6) by decide +kernel]
            show cx_T _ 148 _ 50 ([some (.inr (.inl 0)), some (.inl (.int p)), some (.inl (.int q)), none], [.inl (.int (Int32.ofInt (-6)))], [(0, .inl (10, [.inr (.inl 1), .inr (.inl 2), .inr (.inl 15), .inr (.inl 21), .inr (.inl 43), .inr (.inl 68), .inr (.inl 77), .inr (.inl 87), .inr (.inl 101), .inr (.inl 107), .inr (.inl 113), .inl (.int dy)])), (1, .inr (.inl (0, 7, r))), (77, .inl (6, [.inr (.inl 78), .inr (.inl 79), .inr (.inl 80), .inr (.inl 81), .inr (.inl 85), .inr (.inl 86), .inl (.long bf), .inl (.int dl), .inl (.int ds), .inl (.int dr), .inl (.int md), .inl (.int bo)])), (78, .inr (.inl (0, 32, t))), (79, .inr (.inr (.inl (32, f)))), (80, .inr (.inr (.inl (32, g))))]) _
            refine ex_istore_n cg_148 (ix := 26) (pc' := 51) (L' := [some (.inr (.inl 0)), some (.inl (.int p)), some (.inl (.int q)), some (.inl (.int (Int32.ofInt (-6))))]) rfl rfl rfl rfl ?_
            refine ex_iload_n cg_148 (ix := 27) (pc' := 52) rfl rfl rfl ?_
            refine ex_if cg_148 (ix := 28) (t := 63) (pc' := 55) rfl rfl rfl (fun hb52 => ?_) (fun hb52 => ?_)
            · have hb52 : (Int32.ofInt (-6)).toInt = 0 := hb52
              exfalso; first | omega | exact absurd hb52 (by decide +kernel)
            · have hb52 : ¬ ((Int32.ofInt (-6)).toInt = 0) := hb52
              refine ex_aload_n cg_148 (ix := 29) (pc' := 56) rfl rfl rfl ?_
              refine ex_iload_n cg_148 (ix := 30) (pc' := 57) rfl rfl rfl ?_
              refine ex_callV cg_148 (ix := 31) (pc' := 60) (As := [.inl (.int (Int32.ofInt (-6)))]) (r := []) rfl rfl rfl (ct_xref (dy := dy) (x := Int32.ofInt (-6)) (r := r) (by decide +kernel) (by decide +kernel)) (by first | decide | omega) rfl rfl rfl ⟨rfl, rfl, trivial⟩ rfl rfl (fun v h2 hq => ?_)
              obtain ⟨rfl, r2, rfl⟩ := hq
              show cx_T _ 148 _ 60 ([some (.inr (.inl 0)), some (.inl (.int p)), some (.inl (.int q)), some (.inl (.int (Int32.ofInt (-6))))], [.inl (.int (Int32.ofInt (-6)))], [(0, .inl (10, [.inr (.inl 1), .inr (.inl 2), .inr (.inl 15), .inr (.inl 21), .inr (.inl 43), .inr (.inl 68), .inr (.inl 77), .inr (.inl 87), .inr (.inl 101), .inr (.inl 107), .inr (.inl 113), .inl (.int dy)])), (1, .inr (.inl (0, 7, r2))), (77, .inl (6, [.inr (.inl 78), .inr (.inl 79), .inr (.inl 80), .inr (.inl 81), .inr (.inl 85), .inr (.inl 86), .inl (.long bf), .inl (.int dl), .inl (.int ds), .inl (.int dr), .inl (.int md), .inl (.int bo)])), (78, .inr (.inl (0, 32, t))), (79, .inr (.inr (.inl (32, f)))), (80, .inr (.inr (.inl (32, g))))]) _
              refine ex_goto cg_148 (ix := 32) (pc' := 72) rfl rfl ?_
              refine ex_ireturn cg_148 (ix := 38) rfl ?_
              exact ⟨_, _, t, f, g, md, rfl, rfl, rfl, Or.inr (Or.inr (Or.inr (Or.inl ⟨hz1, (fun q => by rcases hlc21 with q2 | q2 | q2 <;> first | omega | (rw [q] at q2; omega)), by omega, by omega, rfl, rfl, rfl⟩)))⟩
          · show cx_T _ 148 _ 47 ([some (.inr (.inl 0)), some (.inl (.int p)), some (.inl (.int q)), none], [.inl (.int (Int32.ofInt 0)), .inl (.int (Int32.ofInt 0))], [(0, .inl (10, [.inr (.inl 1), .inr (.inl 2), .inr (.inl 15), .inr (.inl 21), .inr (.inl 43), .inr (.inl 68), .inr (.inl 77), .inr (.inl 87), .inr (.inl 101), .inr (.inl 107), .inr (.inl 113), .inl (.int dy)])), (1, .inr (.inl (0, 7, r))), (77, .inl (6, [.inr (.inl 78), .inr (.inl 79), .inr (.inl 80), .inr (.inl 81), .inr (.inl 85), .inr (.inl 86), .inl (.long bf), .inl (.int dl), .inl (.int ds), .inl (.int dr), .inl (.int md), .inl (.int bo)])), (78, .inr (.inl (0, 32, t))), (79, .inr (.inr (.inl (32, f)))), (80, .inr (.inr (.inl (32, g))))]) _
            refine ex_callS cg_148 (ix := 25) (pc' := 50) (As := [.inl (.int (Int32.ofInt 0)), .inl (.int (Int32.ofInt 0))]) (r := []) rfl rfl rfl (ct_sxf (f := Int32.ofInt 0) (g := Int32.ofInt 0)) (by first | decide | omega) rfl rfl trivial rfl rfl (fun v h2 hq => ?_)
            obtain ⟨rfl, rfl⟩ := hq
            rw [show sxF (Int32.ofInt 0) (Int32.ofInt 0) = Int32.ofInt 0 by decide +kernel]
            show cx_T _ 148 _ 50 ([some (.inr (.inl 0)), some (.inl (.int p)), some (.inl (.int q)), none], [.inl (.int (Int32.ofInt 0))], [(0, .inl (10, [.inr (.inl 1), .inr (.inl 2), .inr (.inl 15), .inr (.inl 21), .inr (.inl 43), .inr (.inl 68), .inr (.inl 77), .inr (.inl 87), .inr (.inl 101), .inr (.inl 107), .inr (.inl 113), .inl (.int dy)])), (1, .inr (.inl (0, 7, r))), (77, .inl (6, [.inr (.inl 78), .inr (.inl 79), .inr (.inl 80), .inr (.inl 81), .inr (.inl 85), .inr (.inl 86), .inl (.long bf), .inl (.int dl), .inl (.int ds), .inl (.int dr), .inl (.int md), .inl (.int bo)])), (78, .inr (.inl (0, 32, t))), (79, .inr (.inr (.inl (32, f)))), (80, .inr (.inr (.inl (32, g))))]) _
            refine ex_istore_n cg_148 (ix := 26) (pc' := 51) (L' := [some (.inr (.inl 0)), some (.inl (.int p)), some (.inl (.int q)), some (.inl (.int (Int32.ofInt 0)))]) rfl rfl rfl rfl ?_
            refine ex_iload_n cg_148 (ix := 27) (pc' := 52) rfl rfl rfl ?_
            refine ex_if cg_148 (ix := 28) (t := 63) (pc' := 55) rfl rfl rfl (fun hb52 => ?_) (fun hb52 => ?_)
            · have hb52 : (Int32.ofInt 0).toInt = 0 := hb52
              refine ex_aload_n cg_148 (ix := 33) (pc' := 64) rfl rfl rfl ?_
              refine ex_getfield cg_148 (ix := 34) (pc' := 67) rfl rfl rfl rfl rfl ?_
              refine ex_iload_n cg_148 (ix := 35) (pc' := 68) rfl rfl rfl ?_
              refine ex_iload_n cg_148 (ix := 36) (pc' := 69) rfl rfl rfl ?_
              refine ex_callV cg_148 (ix := 37) (pc' := 72) (As := [.inl (.int p), .inl (.int q)]) (r := []) rfl rfl rfl (ct_lka (bf := bf) (dl := dl) (ds := ds) (dr := dr) (md := md) (bo := bo) (p := p) (q := q) (f := f) (g := g)) (by first | decide | omega) rfl rfl rfl ⟨rfl, rfl, rfl, trivial⟩ rfl rfl (fun v h2 hq => ?_)
              obtain ⟨f2, g2, rfl, rfl, hfx⟩ := hq
              show cx_T _ 148 _ 72 ([some (.inr (.inl 0)), some (.inl (.int p)), some (.inl (.int q)), some (.inl (.int (Int32.ofInt 0)))], [.inl (.int (md + Int32.ofInt 1))], [(0, .inl (10, [.inr (.inl 1), .inr (.inl 2), .inr (.inl 15), .inr (.inl 21), .inr (.inl 43), .inr (.inl 68), .inr (.inl 77), .inr (.inl 87), .inr (.inl 101), .inr (.inl 107), .inr (.inl 113), .inl (.int dy)])), (1, .inr (.inl (0, 7, r))), (77, .inl (6, [.inr (.inl 78), .inr (.inl 79), .inr (.inl 80), .inr (.inl 81), .inr (.inl 85), .inr (.inl 86), .inl (.long bf), .inl (.int dl), .inl (.int ds), .inl (.int dr), .inl (.int (md + Int32.ofInt 1)), .inl (.int bo)])), (78, .inr (.inl (0, 32, t))), (79, .inr (.inr (.inl (32, f2)))), (80, .inr (.inr (.inl (32, g2))))]) _
              refine ex_ireturn cg_148 (ix := 38) rfl ?_
              exact ⟨_, r, t, f2, g2, _, rfl, rfl, rfl, Or.inr (Or.inr (Or.inr (Or.inr ⟨hz1, hf1, by omega, by omega, rfl, hfx, rfl⟩)))⟩
            · have hb52 : ¬ ((Int32.ofInt 0).toInt = 0) := hb52
              exfalso; first | omega | exact absurd hb52 (by decide +kernel)
      · have hb22 : ¬ (¬ (lg_cmp (sumL f 32) (Int64.ofNat 0)).toInt = 0) := hb22
        refine ex_aload_n cg_148 (ix := 13) (pc' := 26) rfl rfl rfl ?_
        refine ex_bipush cg_148 (ix := 14) (pc' := 28) rfl rfl rfl ?_
        refine ex_callV cg_148 (ix := 15) (pc' := 31) (As := [.inl (.int (Int32.ofInt (-5)))]) (r := []) rfl rfl rfl (ct_xref (dy := dy) (x := Int32.ofInt (-5)) (r := r) (by decide +kernel) (by decide +kernel)) (by first | decide | omega) rfl rfl rfl ⟨rfl, rfl, trivial⟩ rfl rfl (fun v h2 hq => ?_)
        obtain ⟨rfl, r2, rfl⟩ := hq
        show cx_T _ 148 _ 31 ([some (.inr (.inl 0)), some (.inl (.int p)), some (.inl (.int q)), none], [.inl (.int (Int32.ofInt (-5)))], [(0, .inl (10, [.inr (.inl 1), .inr (.inl 2), .inr (.inl 15), .inr (.inl 21), .inr (.inl 43), .inr (.inl 68), .inr (.inl 77), .inr (.inl 87), .inr (.inl 101), .inr (.inl 107), .inr (.inl 113), .inl (.int dy)])), (1, .inr (.inl (0, 7, r2))), (77, .inl (6, [.inr (.inl 78), .inr (.inl 79), .inr (.inl 80), .inr (.inl 81), .inr (.inl 85), .inr (.inl 86), .inl (.long bf), .inl (.int dl), .inl (.int ds), .inl (.int dr), .inl (.int md), .inl (.int bo)])), (78, .inr (.inl (0, 32, t))), (79, .inr (.inr (.inl (32, f)))), (80, .inr (.inr (.inl (32, g))))]) _
        refine ex_ireturn cg_148 (ix := 16) rfl ?_
        refine ⟨_, _, t, f, g, md, rfl, rfl, rfl, Or.inr (Or.inl ⟨hz1, ?_, rfl, rfl, rfl⟩)⟩
        first | exact hf1 | (rcases hlc21 with q | q | q <;> first | omega | exact q.2.1)
    · have hb4 : ¬ (¬ (Int32.ofInt 1).toInt = 0) := hb4
      exfalso; first | omega | exact absurd hb4 (by decide +kernel)
  · show cx_T _ 148 _ 4 ([some (.inr (.inl 0)), some (.inl (.int p)), some (.inl (.int q)), none], [.inl (.int (Int32.ofInt 0))], [(0, .inl (10, [.inr (.inl 1), .inr (.inl 2), .inr (.inl 15), .inr (.inl 21), .inr (.inl 43), .inr (.inl 68), .inr (.inl 77), .inr (.inl 87), .inr (.inl 101), .inr (.inl 107), .inr (.inl 113), .inl (.int dy)])), (1, .inr (.inl (0, 7, r))), (77, .inl (6, [.inr (.inl 78), .inr (.inl 79), .inr (.inl 80), .inr (.inl 81), .inr (.inl 85), .inr (.inl 86), .inl (.long bf), .inl (.int dl), .inl (.int ds), .inl (.int dr), .inl (.int md), .inl (.int bo)])), (78, .inr (.inl (0, 32, t))), (79, .inr (.inr (.inl (32, f)))), (80, .inr (.inr (.inl (32, g))))]) _
    refine ex_if cg_148 (ix := 2) (t := 13) (pc' := 7) rfl rfl rfl (fun hb4 => ?_) (fun hb4 => ?_)
    · have hb4 : ¬ (Int32.ofInt 0).toInt = 0 := hb4
      exfalso; first | omega | exact absurd hb4 (by decide +kernel)
    · have hb4 : ¬ (¬ (Int32.ofInt 0).toInt = 0) := hb4
      refine ex_aload_n cg_148 (ix := 3) (pc' := 8) rfl rfl rfl ?_
      refine ex_iconst cg_148 (ix := 4) (pc' := 9) rfl rfl ?_
      refine ex_callV cg_148 (ix := 5) (pc' := 12) (As := [.inl (.int (Int32.ofInt (-1)))]) (r := []) rfl rfl rfl (ct_xref (dy := dy) (x := Int32.ofInt (-1)) (r := r) (by decide +kernel) (by decide +kernel)) (by first | decide | omega) rfl rfl rfl ⟨rfl, rfl, trivial⟩ rfl rfl (fun v h2 hq => ?_)
      obtain ⟨rfl, r2, rfl⟩ := hq
      show cx_T _ 148 _ 12 ([some (.inr (.inl 0)), some (.inl (.int p)), some (.inl (.int q)), none], [.inl (.int (Int32.ofInt (-1)))], [(0, .inl (10, [.inr (.inl 1), .inr (.inl 2), .inr (.inl 15), .inr (.inl 21), .inr (.inl 43), .inr (.inl 68), .inr (.inl 77), .inr (.inl 87), .inr (.inl 101), .inr (.inl 107), .inr (.inl 113), .inl (.int dy)])), (1, .inr (.inl (0, 7, r2))), (77, .inl (6, [.inr (.inl 78), .inr (.inl 79), .inr (.inl 80), .inr (.inl 81), .inr (.inl 85), .inr (.inl 86), .inl (.long bf), .inl (.int dl), .inl (.int ds), .inl (.int dr), .inl (.int md), .inl (.int bo)])), (78, .inr (.inl (0, 32, t))), (79, .inr (.inr (.inl (32, f)))), (80, .inr (.inr (.inl (32, g))))]) _
      refine ex_ireturn cg_148 (ix := 6) rfl ?_
      exact ⟨_, _, t, f, g, md, rfl, rfl, rfl, Or.inl ⟨hz1, rfl, rfl, rfl⟩⟩
end
