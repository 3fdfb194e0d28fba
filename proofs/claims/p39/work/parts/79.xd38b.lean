noncomputable section
/-- how many of the first k are drawn -/
def cn_x (f : Nat → Int32) : Nat → Int
  | 0 => 0
  | k + 1 => cn_x f k + (if f k = Int32.ofInt (-1) then 0 else 1)
theorem cn_xb {f : Nat → Int32} : ∀ k : Nat, 0 ≤ cn_x f k ∧ cn_x f k ≤ k
  | 0 => ⟨Int.le_refl _, Int.le_refl _⟩
  | k + 1 => by
    have := cn_xb (f := f) k
    rw [cn_x]
    split <;> omega
def cn_m (g : Nat → Int32) (b : Nat) : Nat → Int
  | 0 => 0
  | k + 1 => cn_m g b k + (if (g (24 * b + k)).toInt ≤ 0 then 0 else 1)
theorem cn_mb {g : Nat → Int32} {b : Nat} : ∀ k : Nat, 0 ≤ cn_m g b k ∧ cn_m g b k ≤ k
  | 0 => ⟨Int.le_refl _, Int.le_refl _⟩
  | k + 1 => by
    have := cn_mb (g := g) (b := b) k
    rw [cn_m]
    split <;> omega
def h_hc (F : Nat → Nat → Int32) : cx_H := [(113, .inl (2, [.inr (.inl 114)])), (114, .inr (.inr (.inr (3, [115, 116, 117, 118])))), (115, .inr (.inl (0, 24, F 0))), (116, .inr (.inl (0, 24, F 1))), (117, .inr (.inl (0, 24, F 2))), (118, .inr (.inl (0, 24, F 3)))]
theorem dc_loop {d : Nat} {b : Int32} {k1 : Nat} {f : Nat → Int32} {F : Nat → Nat → Int32} {P : Option cx_V → cx_H → Prop} (hb0 : 0 ≤ b.toInt) (hk1 : [115, 116, 117, 118][b.toNatClampNeg]? = some k1) (hk2 : cx_hg (h_hc F) k1 = some (.inr (.inl (0, 24, f)))) (hP : ∀ n : Int32, n.toInt = cn_x f 24 → P (some (.inl (.int n))) (h_hc F)) :
    ∀ (m k : Nat), k + m = 24 → ∀ n i : Int32, n.toInt = cn_x f k → i.toInt = k → cx_T d 24 [113, 114, 115, 116, 117, 118] 4 ([some (.inr (.inl 113)), some (.inl (.int b)), some (.inl (.int n)), some (.inl (.int i))], [], h_hc F) P := by
  have kc0 : (Int32.ofInt 0).toInt = 0 := by decide +kernel
  have kc24 : (Int32.ofInt 24).toInt = 24 := by decide +kernel
  have kcm1 : (Int32.ofInt (-1)).toInt = -1 := by decide +kernel
  have kc1 : (Int32.ofInt 1).toInt = 1 := by decide +kernel
  intro m
  induction m with
  | zero =>
    intro k hk n i hn hi
    have ek : k = 24 := by omega
    subst ek
    refine ex_iload_n cg_24 (ix := 4) (pc' := 5) rfl rfl rfl ?_
    refine ex_bipush cg_24 (ix := 5) (pc' := 7) rfl rfl rfl ?_
    refine ex_icmp cg_24 (ix := 6) (t := 36) (pc' := 10) rfl rfl rfl (fun hb7 => ?_) (fun hb7 => ?_)
    · have hb7 : (Int32.ofInt 24).toInt ≤ i.toInt := hb7
      refine ex_iload_n cg_24 (ix := 23) (pc' := 37) rfl rfl rfl ?_
      refine ex_ireturn cg_24 (ix := 24) rfl ?_
      exact hP _ hn
    · have hb7 : ¬ ((Int32.ofInt 24).toInt ≤ i.toInt) := hb7
      exfalso; first | omega | exact absurd hb7 (by decide +kernel)
  | succ m ih =>
    intro k hk n i hn hi
    have hik : i.toNatClampNeg = k := cx_clamp hi
    refine ex_iload_n cg_24 (ix := 4) (pc' := 5) rfl rfl rfl ?_
    refine ex_bipush cg_24 (ix := 5) (pc' := 7) rfl rfl rfl ?_
    refine ex_icmp cg_24 (ix := 6) (t := 36) (pc' := 10) rfl rfl rfl (fun hb7 => ?_) (fun hb7 => ?_)
    · have hb7 : (Int32.ofInt 24).toInt ≤ i.toInt := hb7
      exfalso; first | omega | exact absurd hb7 (by decide +kernel)
    · have hb7 : ¬ ((Int32.ofInt 24).toInt ≤ i.toInt) := hb7
      refine ex_iload_n cg_24 (ix := 7) (pc' := 11) rfl rfl rfl ?_
      refine ex_aload_n cg_24 (ix := 8) (pc' := 12) rfl rfl rfl ?_
      refine ex_getfield cg_24 (ix := 9) (pc' := 15) rfl rfl rfl rfl rfl ?_
      refine ex_iload_n cg_24 (ix := 10) (pc' := 16) rfl rfl rfl ?_
      refine ex_aaload cg_24 (ix := 11) (pc' := 17) (k1 := k1) rfl rfl (by omega) hk1 rfl ?_
      refine ex_iload_n cg_24 (ix := 12) (pc' := 18) rfl rfl rfl ?_
      refine ex_iaload cg_24 (ix := 13) (pc' := 19) rfl hk2 (by omega) (by omega) rfl ?_
      refine ex_iconst cg_24 (ix := 14) (pc' := 20) rfl rfl ?_
      refine ex_icmp cg_24 (ix := 15) (t := 27) (pc' := 23) rfl rfl rfl (fun hb20 => ?_) (fun hb20 => ?_)
      · have hb20 : (f i.toNatClampNeg).toInt = (Int32.ofInt (-1)).toInt := hb20
        refine ex_iconst cg_24 (ix := 18) (pc' := 28) rfl rfl ?_
        refine ex_iadd cg_24 (ix := 19) (pc' := 29) rfl rfl ?_
        refine ex_istore_n cg_24 (ix := 20) (pc' := 30) (L' := [some (.inr (.inl 113)), some (.inl (.int b)), some (.inl (.int (n + (Int32.ofInt 0)))), some (.inl (.int i))]) rfl rfl rfl rfl ?_
        refine ex_iinc cg_24 (ix := 21) (pc' := 33) (L' := [some (.inr (.inl 113)), some (.inl (.int b)), some (.inl (.int (n + (Int32.ofInt 0)))), some (.inl (.int (i + Int32.ofInt 1)))]) rfl rfl rfl rfl rfl ?_
        refine ex_goto cg_24 (ix := 22) (pc' := 4) rfl rfl ?_
        have e1 : (n + (Int32.ofInt 0)).toInt = cn_x f (k + 1) := by
          rw [hik] at hb20
          have hbd := cn_xb (f := f) k
          rw [cn_x, if_pos (cx_i32 hb20), cx_addc (by omega) (by omega)]
          omega
        exact ih (k + 1) (by omega) _ _ e1 (by rw [cx_addc (by omega) (by omega)]; omega)
      · have hb20 : ¬ ((f i.toNatClampNeg).toInt = (Int32.ofInt (-1)).toInt) := hb20
        refine ex_iconst cg_24 (ix := 16) (pc' := 24) rfl rfl ?_
        refine ex_goto cg_24 (ix := 17) (pc' := 28) rfl rfl ?_
        refine ex_iadd cg_24 (ix := 19) (pc' := 29) rfl rfl ?_
        refine ex_istore_n cg_24 (ix := 20) (pc' := 30) (L' := [some (.inr (.inl 113)), some (.inl (.int b)), some (.inl (.int (n + (Int32.ofInt 1)))), some (.inl (.int i))]) rfl rfl rfl rfl ?_
        refine ex_iinc cg_24 (ix := 21) (pc' := 33) (L' := [some (.inr (.inl 113)), some (.inl (.int b)), some (.inl (.int (n + (Int32.ofInt 1)))), some (.inl (.int (i + Int32.ofInt 1)))]) rfl rfl rfl rfl rfl ?_
        refine ex_goto cg_24 (ix := 22) (pc' := 4) rfl rfl ?_
        have e1 : (n + (Int32.ofInt 1)).toInt = cn_x f (k + 1) := by
          rw [hik] at hb20
          have hbd := cn_xb (f := f) k
          rw [cn_x, if_neg (fun q => hb20 (by rw [q])), cx_addc (by omega) (by omega)]
          omega
        exact ih (k + 1) (by omega) _ _ e1 (by rw [cx_addc (by omega) (by omega)]; omega)
theorem ct_24 {b : Int32} {k1 : Nat} {f : Nat → Int32} {F : Nat → Nat → Int32} (hb0 : 0 ≤ b.toInt) (hk1 : [115, 116, 117, 118][b.toNatClampNeg]? = some k1) (hk2 : cx_hg (h_hc F) k1 = some (.inr (.inl (0, 24, f)))) : cx_Ct 2 24 [.inr (.inl 113), .inl (.int b)] (h_hc F) (fun v h2 => ∃ n : Int32, v = some (.inl (.int n)) ∧ n.toInt = cn_x f 24 ∧ h2 = h_hc F) := by
  refine cx_Ct.of cg_24 (nL := 4) rfl rfl rfl ?_
  show cx_T 2 24 [113, 114, 115, 116, 117, 118] 0 ([some (.inr (.inl 113)), some (.inl (.int b)), none, none], [], h_hc F) _
  refine ex_iconst cg_24 (ix := 0) (pc' := 1) rfl rfl ?_
  refine ex_istore_n cg_24 (ix := 1) (pc' := 2) (L' := [some (.inr (.inl 113)), some (.inl (.int b)), some (.inl (.int (Int32.ofInt 0))), none]) rfl rfl rfl rfl ?_
  refine ex_iconst cg_24 (ix := 2) (pc' := 3) rfl rfl ?_
  refine ex_istore_n cg_24 (ix := 3) (pc' := 4) (L' := [some (.inr (.inl 113)), some (.inl (.int b)), some (.inl (.int (Int32.ofInt 0))), some (.inl (.int (Int32.ofInt 0)))]) rfl rfl rfl rfl ?_
  exact dc_loop hb0 hk1 hk2 (fun n hn => ⟨n, rfl, hn, rfl⟩) 24 0 rfl _ _ (by show (Int32.ofInt 0).toInt = 0; decide +kernel) (by decide +kernel)
def up2 (F : Nat → Nat → Int32) (b : Nat) (f : Nat → Int32) : Nat → Nat → Int32 := fun i => bif Nat.beq i b then f else F i
theorem ct_put0 {c n : Int32} {F : Nat → Nat → Int32} (hc0 : 0 ≤ c.toInt) (hc1 : c.toInt < 24) : cx_Ct 3 23 [.inr (.inl 113), .inl (.int (Int32.ofInt 0)), .inl (.int c), .inl (.int n)] (h_hc F) (fun v h2 => ∃ z : Int32, v = some (.inl (.int z)) ∧ z.toInt = cn_x (upd (F 0) c.toNatClampNeg n) 24 ∧ h2 = h_hc (up2 F 0 (upd (F 0) c.toNatClampNeg n))) := by
  refine cx_Ct.of cg_23 (nL := 4) rfl rfl rfl ?_
  show cx_T 3 23 [113, 114, 115, 116, 117, 118] 0 ([some (.inr (.inl 113)), some (.inl (.int (Int32.ofInt 0))), some (.inl (.int c)), some (.inl (.int n))], [], h_hc F) _
  refine ex_aload_n cg_23 (ix := 0) (pc' := 1) rfl rfl rfl ?_
  refine ex_getfield cg_23 (ix := 1) (pc' := 4) rfl rfl rfl rfl rfl ?_
  refine ex_iload_n cg_23 (ix := 2) (pc' := 5) rfl rfl rfl ?_
  refine ex_aaload cg_23 (ix := 3) (pc' := 6) (k1 := 115) rfl rfl (by decide +kernel) rfl rfl ?_
  refine ex_iload_n cg_23 (ix := 4) (pc' := 7) rfl rfl rfl ?_
  refine ex_iload_n cg_23 (ix := 5) (pc' := 8) rfl rfl rfl ?_
  refine ex_iastore cg_23 (ix := 6) (pc' := 9) (h' := [(113, .inl (2, [.inr (.inl 114)])), (114, .inr (.inr (.inr (3, [115, 116, 117, 118])))), (115, .inr (.inl (0, 24, upd (F 0) c.toNatClampNeg n))), (116, .inr (.inl (0, 24, F 1))), (117, .inr (.inl (0, 24, F 2))), (118, .inr (.inl (0, 24, F 3)))]) rfl rfl (by omega) (by omega) rfl rfl ?_
  refine ex_aload_n cg_23 (ix := 7) (pc' := 10) rfl rfl rfl ?_
  refine ex_iload_n cg_23 (ix := 8) (pc' := 11) rfl rfl rfl ?_
  refine ex_callV cg_23 (ix := 9) (pc' := 14) (As := [.inl (.int (Int32.ofInt 0))]) (r := []) rfl rfl rfl (ct_24 (b := Int32.ofInt 0) (k1 := 115) (F := up2 F 0 (upd (F 0) c.toNatClampNeg n)) (by decide +kernel) rfl rfl) (by decide) rfl rfl rfl ⟨rfl, rfl, rfl, rfl, rfl, rfl, trivial⟩ rfl rfl (fun v h2 hq => ?_)
  obtain ⟨z, rfl, hz, rfl⟩ := hq
  show cx_T _ 23 _ 14 ([some (.inr (.inl 113)), some (.inl (.int (Int32.ofInt 0))), some (.inl (.int c)), some (.inl (.int n))], [.inl (.int z)], [(113, .inl (2, [.inr (.inl 114)])), (114, .inr (.inr (.inr (3, [115, 116, 117, 118])))), (115, .inr (.inl (0, 24, upd (F 0) c.toNatClampNeg n))), (116, .inr (.inl (0, 24, F 1))), (117, .inr (.inl (0, 24, F 2))), (118, .inr (.inl (0, 24, F 3)))]) _
  refine ex_ireturn cg_23 (ix := 10) rfl ?_
  exact ⟨z, rfl, hz, rfl⟩
theorem ct_put1 {c n : Int32} {F : Nat → Nat → Int32} (hc0 : 0 ≤ c.toInt) (hc1 : c.toInt < 24) : cx_Ct 3 23 [.inr (.inl 113), .inl (.int (Int32.ofInt 1)), .inl (.int c), .inl (.int n)] (h_hc F) (fun v h2 => ∃ z : Int32, v = some (.inl (.int z)) ∧ z.toInt = cn_x (upd (F 1) c.toNatClampNeg n) 24 ∧ h2 = h_hc (up2 F 1 (upd (F 1) c.toNatClampNeg n))) := by
  refine cx_Ct.of cg_23 (nL := 4) rfl rfl rfl ?_
  show cx_T 3 23 [113, 114, 115, 116, 117, 118] 0 ([some (.inr (.inl 113)), some (.inl (.int (Int32.ofInt 1))), some (.inl (.int c)), some (.inl (.int n))], [], h_hc F) _
  refine ex_aload_n cg_23 (ix := 0) (pc' := 1) rfl rfl rfl ?_
  refine ex_getfield cg_23 (ix := 1) (pc' := 4) rfl rfl rfl rfl rfl ?_
  refine ex_iload_n cg_23 (ix := 2) (pc' := 5) rfl rfl rfl ?_
  refine ex_aaload cg_23 (ix := 3) (pc' := 6) (k1 := 116) rfl rfl (by decide +kernel) rfl rfl ?_
  refine ex_iload_n cg_23 (ix := 4) (pc' := 7) rfl rfl rfl ?_
  refine ex_iload_n cg_23 (ix := 5) (pc' := 8) rfl rfl rfl ?_
  refine ex_iastore cg_23 (ix := 6) (pc' := 9) (h' := [(113, .inl (2, [.inr (.inl 114)])), (114, .inr (.inr (.inr (3, [115, 116, 117, 118])))), (115, .inr (.inl (0, 24, F 0))), (116, .inr (.inl (0, 24, upd (F 1) c.toNatClampNeg n))), (117, .inr (.inl (0, 24, F 2))), (118, .inr (.inl (0, 24, F 3)))]) rfl rfl (by omega) (by omega) rfl rfl ?_
  refine ex_aload_n cg_23 (ix := 7) (pc' := 10) rfl rfl rfl ?_
  refine ex_iload_n cg_23 (ix := 8) (pc' := 11) rfl rfl rfl ?_
  refine ex_callV cg_23 (ix := 9) (pc' := 14) (As := [.inl (.int (Int32.ofInt 1))]) (r := []) rfl rfl rfl (ct_24 (b := Int32.ofInt 1) (k1 := 116) (F := up2 F 1 (upd (F 1) c.toNatClampNeg n)) (by decide +kernel) rfl rfl) (by decide) rfl rfl rfl ⟨rfl, rfl, rfl, rfl, rfl, rfl, trivial⟩ rfl rfl (fun v h2 hq => ?_)
  obtain ⟨z, rfl, hz, rfl⟩ := hq
  show cx_T _ 23 _ 14 ([some (.inr (.inl 113)), some (.inl (.int (Int32.ofInt 1))), some (.inl (.int c)), some (.inl (.int n))], [.inl (.int z)], [(113, .inl (2, [.inr (.inl 114)])), (114, .inr (.inr (.inr (3, [115, 116, 117, 118])))), (115, .inr (.inl (0, 24, F 0))), (116, .inr (.inl (0, 24, upd (F 1) c.toNatClampNeg n))), (117, .inr (.inl (0, 24, F 2))), (118, .inr (.inl (0, 24, F 3)))]) _
  refine ex_ireturn cg_23 (ix := 10) rfl ?_
  exact ⟨z, rfl, hz, rfl⟩
theorem ct_put2 {c n : Int32} {F : Nat → Nat → Int32} (hc0 : 0 ≤ c.toInt) (hc1 : c.toInt < 24) : cx_Ct 3 23 [.inr (.inl 113), .inl (.int (Int32.ofInt 2)), .inl (.int c), .inl (.int n)] (h_hc F) (fun v h2 => ∃ z : Int32, v = some (.inl (.int z)) ∧ z.toInt = cn_x (upd (F 2) c.toNatClampNeg n) 24 ∧ h2 = h_hc (up2 F 2 (upd (F 2) c.toNatClampNeg n))) := by
  refine cx_Ct.of cg_23 (nL := 4) rfl rfl rfl ?_
  show cx_T 3 23 [113, 114, 115, 116, 117, 118] 0 ([some (.inr (.inl 113)), some (.inl (.int (Int32.ofInt 2))), some (.inl (.int c)), some (.inl (.int n))], [], h_hc F) _
  refine ex_aload_n cg_23 (ix := 0) (pc' := 1) rfl rfl rfl ?_
  refine ex_getfield cg_23 (ix := 1) (pc' := 4) rfl rfl rfl rfl rfl ?_
  refine ex_iload_n cg_23 (ix := 2) (pc' := 5) rfl rfl rfl ?_
  refine ex_aaload cg_23 (ix := 3) (pc' := 6) (k1 := 117) rfl rfl (by decide +kernel) rfl rfl ?_
  refine ex_iload_n cg_23 (ix := 4) (pc' := 7) rfl rfl rfl ?_
  refine ex_iload_n cg_23 (ix := 5) (pc' := 8) rfl rfl rfl ?_
  refine ex_iastore cg_23 (ix := 6) (pc' := 9) (h' := [(113, .inl (2, [.inr (.inl 114)])), (114, .inr (.inr (.inr (3, [115, 116, 117, 118])))), (115, .inr (.inl (0, 24, F 0))), (116, .inr (.inl (0, 24, F 1))), (117, .inr (.inl (0, 24, upd (F 2) c.toNatClampNeg n))), (118, .inr (.inl (0, 24, F 3)))]) rfl rfl (by omega) (by omega) rfl rfl ?_
  refine ex_aload_n cg_23 (ix := 7) (pc' := 10) rfl rfl rfl ?_
  refine ex_iload_n cg_23 (ix := 8) (pc' := 11) rfl rfl rfl ?_
  refine ex_callV cg_23 (ix := 9) (pc' := 14) (As := [.inl (.int (Int32.ofInt 2))]) (r := []) rfl rfl rfl (ct_24 (b := Int32.ofInt 2) (k1 := 117) (F := up2 F 2 (upd (F 2) c.toNatClampNeg n)) (by decide +kernel) rfl rfl) (by decide) rfl rfl rfl ⟨rfl, rfl, rfl, rfl, rfl, rfl, trivial⟩ rfl rfl (fun v h2 hq => ?_)
  obtain ⟨z, rfl, hz, rfl⟩ := hq
  show cx_T _ 23 _ 14 ([some (.inr (.inl 113)), some (.inl (.int (Int32.ofInt 2))), some (.inl (.int c)), some (.inl (.int n))], [.inl (.int z)], [(113, .inl (2, [.inr (.inl 114)])), (114, .inr (.inr (.inr (3, [115, 116, 117, 118])))), (115, .inr (.inl (0, 24, F 0))), (116, .inr (.inl (0, 24, F 1))), (117, .inr (.inl (0, 24, upd (F 2) c.toNatClampNeg n))), (118, .inr (.inl (0, 24, F 3)))]) _
  refine ex_ireturn cg_23 (ix := 10) rfl ?_
  exact ⟨z, rfl, hz, rfl⟩
theorem ct_put3 {c n : Int32} {F : Nat → Nat → Int32} (hc0 : 0 ≤ c.toInt) (hc1 : c.toInt < 24) : cx_Ct 3 23 [.inr (.inl 113), .inl (.int (Int32.ofInt 3)), .inl (.int c), .inl (.int n)] (h_hc F) (fun v h2 => ∃ z : Int32, v = some (.inl (.int z)) ∧ z.toInt = cn_x (upd (F 3) c.toNatClampNeg n) 24 ∧ h2 = h_hc (up2 F 3 (upd (F 3) c.toNatClampNeg n))) := by
  refine cx_Ct.of cg_23 (nL := 4) rfl rfl rfl ?_
  show cx_T 3 23 [113, 114, 115, 116, 117, 118] 0 ([some (.inr (.inl 113)), some (.inl (.int (Int32.ofInt 3))), some (.inl (.int c)), some (.inl (.int n))], [], h_hc F) _
  refine ex_aload_n cg_23 (ix := 0) (pc' := 1) rfl rfl rfl ?_
  refine ex_getfield cg_23 (ix := 1) (pc' := 4) rfl rfl rfl rfl rfl ?_
  refine ex_iload_n cg_23 (ix := 2) (pc' := 5) rfl rfl rfl ?_
  refine ex_aaload cg_23 (ix := 3) (pc' := 6) (k1 := 118) rfl rfl (by decide +kernel) rfl rfl ?_
  refine ex_iload_n cg_23 (ix := 4) (pc' := 7) rfl rfl rfl ?_
  refine ex_iload_n cg_23 (ix := 5) (pc' := 8) rfl rfl rfl ?_
  refine ex_iastore cg_23 (ix := 6) (pc' := 9) (h' := [(113, .inl (2, [.inr (.inl 114)])), (114, .inr (.inr (.inr (3, [115, 116, 117, 118])))), (115, .inr (.inl (0, 24, F 0))), (116, .inr (.inl (0, 24, F 1))), (117, .inr (.inl (0, 24, F 2))), (118, .inr (.inl (0, 24, upd (F 3) c.toNatClampNeg n)))]) rfl rfl (by omega) (by omega) rfl rfl ?_
  refine ex_aload_n cg_23 (ix := 7) (pc' := 10) rfl rfl rfl ?_
  refine ex_iload_n cg_23 (ix := 8) (pc' := 11) rfl rfl rfl ?_
  refine ex_callV cg_23 (ix := 9) (pc' := 14) (As := [.inl (.int (Int32.ofInt 3))]) (r := []) rfl rfl rfl (ct_24 (b := Int32.ofInt 3) (k1 := 118) (F := up2 F 3 (upd (F 3) c.toNatClampNeg n)) (by decide +kernel) rfl rfl) (by decide) rfl rfl rfl ⟨rfl, rfl, rfl, rfl, rfl, rfl, trivial⟩ rfl rfl (fun v h2 hq => ?_)
  obtain ⟨z, rfl, hz, rfl⟩ := hq
  show cx_T _ 23 _ 14 ([some (.inr (.inl 113)), some (.inl (.int (Int32.ofInt 3))), some (.inl (.int c)), some (.inl (.int n))], [.inl (.int z)], [(113, .inl (2, [.inr (.inl 114)])), (114, .inr (.inr (.inr (3, [115, 116, 117, 118])))), (115, .inr (.inl (0, 24, F 0))), (116, .inr (.inl (0, 24, F 1))), (117, .inr (.inl (0, 24, F 2))), (118, .inr (.inl (0, 24, upd (F 3) c.toNatClampNeg n)))]) _
  refine ex_ireturn cg_23 (ix := 10) rfl ?_
  exact ⟨z, rfl, hz, rfl⟩
end
