noncomputable section
theorem cg_46 : cx_G 46 tb_46 TbX4 (some .int) := cx_G.of gok_46
theorem cg_47 : cx_G 47 tb_47 TbX4 (some .boolean) := cx_G.of gok_47
theorem cg_49 : cx_G 49 tb_49 TbX4 (some .int) := cx_G.of gok_49
theorem cg_50 : cx_G 50 tb_50 TbX4 (some .boolean) := cx_G.of gok_50
theorem cg_48 : cx_G 48 tb_48 TbX4 none := cx_G.of gok_48
theorem cg_51 : cx_G 51 tb_51 TbX4 none := cx_G.of gok_51
theorem cg_52 : cx_G 52 tb_52 TbX4 (some .int) := cx_G.of gok_52
theorem cg_95 : cx_G 95 tb_95 TbX8 (some .int) := cx_G.of gok_95
theorem cg_53 : cx_G 53 tb_53 TbX4 none := cx_G.of gok_53
theorem cg_55 : cx_G 55 tb_55 TbX4 (some .int) := cx_G.of gok_55
theorem cg_54 : cx_G 54 tb_54 TbX4 none := cx_G.of gok_54
theorem cg_45 : cx_G 45 tb_45 TbX4 (some .int) := cx_G.of gok_45
theorem cg_56 : cx_G 56 tb_56 TbX4 none := cx_G.of gok_56
theorem cg_57 : cx_G 57 tb_57 TbX4 (some .int) := cx_G.of gok_57
theorem cg_58 : cx_G 58 tb_58 TbX4 (some .boolean) := cx_G.of gok_58
theorem cg_59 : cx_G 59 tb_59 TbX4 (some .boolean) := cx_G.of gok_59
theorem cg_170 : cx_G 170 tb_170 TbX10 (some .boolean) := cx_G.of gok_170
theorem cg_39 : cx_G 39 tb_39 TbX4 (some .boolean) := cx_G.of gok_39
theorem cg_40 : cx_G 40 tb_40 TbX4 (some .int) := cx_G.of gok_40
theorem cg_44 : cx_G 44 tb_44 TbX4 (some .int) := cx_G.of gok_44
theorem cg_138 : cx_G 138 tb_138 TbX10 (some .int) := cx_G.of gok_138
theorem cg_139 : cx_G 139 tb_139 TbX10 (some .int) := cx_G.of gok_139
theorem cg_137 : cx_G 137 tb_137 TbX10 (some .int) := cx_G.of gok_137
theorem cg_41 : cx_G 41 tb_41 TbX4 (some .int) := cx_G.of gok_41
theorem cg_128 : cx_G 128 tb_128 TbX10 (some .int) := cx_G.of gok_128
theorem cg_42 : cx_G 42 tb_42 TbX4 (some .int) := cx_G.of gok_42
/-- the static row -/
def cOne (j : Nat) : Int32 := match j with
  | 0 => 1
  | 1 => 5
  | 2 => 25
  | _ => 125
section CXS
variable {d j : Nat} {ks : List Nat} {pc pc' : Nat} {tb : List (Nat × Instr × Nat)} {T : ab_Tb} {rt : Option FieldType} {L L' : List (Option cx_V)} {r : List cx_V} {h h' : cx_H} {P : Option cx_V → cx_H → Prop} {ix : Nat}
theorem ex_getstatic (G : cx_G j tb T rt) {cp : Nat} (hi : tb[ix]? = some (pc, .getstatic cp, 3)) (hT : T.2.2.2.1 cp = true) (hp : pc' = pc + 3) (k : cx_T d j ks pc' (L, .inr (.inr ()) :: r, h) P) : cx_T d j ks pc (L, r, h) P := by
  subst hp
  intro p l e s m args below meth c D A cs tS w0 X hk ls stk ws hf S H locs hP hD hS
  have hm := (ab_TOK_mono G.2.2.1.1 (Ts := ab_wM ZZ j) (fun w hw => List.mem_cons_of_mem _ hw)).2.2.2 cp hT
  exact va_gets X.1 X.2.1 X.2.2.2.2.2.2.2.1 hS X.2.2.2.1 (X.2.2.2.2.1 _ hm) (fun _ z => z) (G.2.1 _ _ _ (List.mem_of_getElem? hi)) (k p l e s m args below meth c D A cs tS w0 X hk ls (.ref tS :: stk) (ws) (hf) ⟨S.1, S.2.1, rfl, S.2.2⟩ H locs hP hD hS)
theorem ex_sload (G : cx_G j tb T rt) {i : Int32} (hi : tb[ix]? = some (pc, .iaload, 1)) (hi0 : 0 ≤ i.toInt) (hiN : i.toInt < (4 : Nat)) (hp : pc' = pc + 1) (k : cx_T d j ks pc' (L, .inl (.int (cOne i.toNatClampNeg)) :: r, h) P) : cx_T d j ks pc (L, .inl (.int i) :: .inr (.inr ()) :: r, h) P := by
  subst hp
  intro p l e s m args below meth c D A cs tS w0 X hk ls stk ws hf S H locs hP hD hS
  obtain ⟨y1, stk1, rfl, hv1, S1⟩ := cx_top S.2.2
  have hv1 : y1 = .int i := hv1
  subst hv1
  obtain ⟨x1, stk2, rfl, hv, S2⟩ := cx_top S1
  have hv : x1 = .ref tS := hv
  subst hv
  have hin : vp_in i 4 := ab_vpin hi0 hiN
  have hc : ab_code1 i.toNatClampNeg = .int (cOne i.toNatClampNeg) := by
    generalize i.toNatClampNeg = q
    rcases q with _ | _ | _ | q <;> rfl
  exact va_ti X.1 X.2.1 X.2.2.2.2.2.2.2.2.1 hS hin (v := .int (cOne i.toNatClampNeg)) hc (G.2.1 _ _ _ (List.mem_of_getElem? hi)) (k p l e s m args below meth c D A cs tS w0 X hk ls (.int (cOne i.toNatClampNeg) :: stk2) (ws) (hf) ⟨S.1, S.2.1, rfl, S2⟩ H locs hP hD hS)
end CXS
theorem cOne_v {b : Nat} (h : b < 4) : (cOne b).toInt = ((p5 b : Nat) : Int) := by
  rcases (show b = 0 ∨ b = 1 ∨ b = 2 ∨ b = 3 by omega) with rfl | rfl | rfl | rfl <;> decide +kernel
def up2 (F : Nat → Nat → Int32) (b : Nat) (f : Nat → Int32) : Nat → Nat → Int32 := fun i => bif Nat.beq i b then f else F i
theorem up2_me {F : Nat → Nat → Int32} {b : Nat} {f : Nat → Int32} : up2 F b f b = f := by
  unfold up2
  rw [Nat.beq_refl]
  rfl
theorem up2_ne {F : Nat → Nat → Int32} {b i : Nat} {f : Nat → Int32} (h : ¬ i = b) : up2 F b f i = F i := by
  unfold up2
  have : Nat.beq i b = false := by
    cases hq : Nat.beq i b with
    | false => rfl
    | true => exact absurd (Nat.eq_of_beq_eq_true hq) h
  rw [this]
  rfl
theorem ro_min {x y : Int32} : (if y < x then y else x).toInt = min x.toInt y.toInt := by
  by_cases q : y < x
  · rw [if_pos q]; rw [Int32.lt_iff_toInt_lt] at q; omega
  · rw [if_neg q]; rw [Int32.lt_iff_toInt_lt] at q; omega
def b2R (p : Prop) : Int32 := bif bP p then Int32.ofInt 1 else Int32.ofInt 0
theorem b2R_y {p : Prop} (h : p) : b2R p = Int32.ofInt 1 := by
  unfold b2R
  rw [bP_iff.mpr h]
  rfl
theorem b2R_n {p : Prop} (h : ¬ p) : b2R p = Int32.ofInt 0 := by
  unfold b2R
  have : bP p = false := by
    cases hq : bP p with
    | false => rfl
    | true => exact absurd (bP_iff.mp hq) h
  rw [this]
  rfl
theorem b2R_0 {p : Prop} : (b2R p).toInt = 0 ↔ ¬ p := by
  by_cases h : p
  · rw [b2R_y h]
    exact ⟨fun z => absurd z (by decide +kernel), fun z => absurd h z⟩
  · rw [b2R_n h]
    exact ⟨fun _ => h, fun _ => by decide +kernel⟩
def thH (th : Nat → Int32) : Prop := ∀ s b : Nat, s < 70 → b < 4 → (th (4 * s + b)).toInt = ((cN s b : Nat) : Int)
def cdH (cd : Nat → Int32) : Prop := ∀ s : Nat, s < 70 → (cd s).toInt = ((cdN s : Nat) : Int)
def szH (sz : Nat → Int32) : Prop := ∀ s : Nat, s < 70 → (sz s).toInt = ((szN s : Nat) : Int)
def spH (sp : Nat → Int32) : Prop := ∀ c : Nat, c < 625 → (sp c).toInt = ((spN c : Nat) : Int)
def miH (mi : Nat → Int32) : Prop := ∀ b : Nat, b < 4 → 0 ≤ (mi b).toInt ∧ (mi b).toInt ≤ 40
/-- near enough to go on there -/
def nbF (mi : Nat → Int32) (b t : Nat) : Prop := (b < 4 ∧ t < 4) ∧ (mi b).toInt - (mi t).toInt ≤ 10 ∧ (mi t).toInt - (mi b).toInt ≤ 10
def spC5 (i : Nat) : Bool := (Nat.beq i 0 || Nat.blt 0 (szNl i)) && (Nat.blt (cdNl i) 625 && (List.range 4).all (fun b => Nat.beq (cNl i b) 0 || Nat.blt (spNl (cdNl i - p5 b)) i))
theorem spC5_ok : (List.range 70).all spC5 = true := by decide +kernel
theorem sp_5 {i : Nat} (h : i < 70) : (i = 0 ∨ 0 < szN i) ∧ cdN i < 625 ∧ ∀ b, b < 4 → 0 < cN i b → spN (cdN i - p5 b) < i := by
  rw [cN_e, szN_e, cdN_e, spN_e]
  have h1 := List.all_eq_true.mp spC5_ok i (List.mem_range.mpr h)
  unfold spC5 at h1
  rw [Bool.and_eq_true, Bool.and_eq_true, Bool.or_eq_true] at h1
  refine ⟨h1.1.elim (fun q => Or.inl (Nat.eq_of_beq_eq_true q)) (fun q => Or.inr (Nat.le_of_ble_eq_true q)), Nat.le_of_ble_eq_true h1.2.1, fun b hb hp => ?_⟩
  have h2 : (Nat.beq (cNl i b) 0 || Nat.blt (spNl (cdNl i - p5 b)) i) = true := List.all_eq_true.mp h1.2.2 b (List.mem_range.mpr hb)
  rw [Bool.or_eq_true] at h2
  rcases h2 with q | q
  · have := Nat.eq_of_beq_eq_true q
    omega
  · exact Nat.le_of_ble_eq_true q
def spC6 (c : Nat) : Bool := Nat.blt (spNl c) 70
theorem spC6_ok : (List.range 625).all spC6 = true := by decide +kernel
theorem spN_lt {c : Nat} (h : c < 625) : spN c < 70 := by
  rw [spN_e]
  have h1 := List.all_eq_true.mp spC6_ok c (List.mem_range.mpr h)
  unfold spC6 at h1
  exact Nat.le_of_ble_eq_true h1
theorem cN_le {s b : Nat} (hs : s < 70) (hb : b < 4) : cN s b ≤ szN s ∧ szN s ≤ 4 := by
  have h := sp_sz hs
  rcases (show b = 0 ∨ b = 1 ∨ b = 2 ∨ b = 3 by omega) with rfl | rfl | rfl | rfl <;> omega
/-- one guard less at a beach -/
def decC (c : Nat → Nat) (to : Nat) : Nat → Nat := fun x => if x = to then c x - 1 else c x
theorem sp_dec {n to : Nat} (hn : n < 70) (ht : to < 4) (h : 0 < cN n to) : cdN n - p5 to < 625 ∧ p5 to ≤ cdN n ∧ spN (cdN n - p5 to) < 70 ∧ ∀ b, b < 4 → cN (spN (cdN n - p5 to)) b = decC (cN n) to b := by
  have h0 := sp_sz hn
  have h5 := (sp_5 hn).2.1
  rcases (show to = 0 ∨ to = 1 ∨ to = 2 ∨ to = 3 by omega) with rfl | rfl | rfl | rfl
  · have hp : p5 0 = 1 := rfl
    have k := sp_ex (n0 := cN n 0 - 1) (n1 := cN n 1) (n2 := cN n 2) (n3 := cN n 3) (by omega)
    have e : cdN n - p5 0 = (cN n 0 - 1) + 5 * cN n 1 + 25 * cN n 2 + 125 * cN n 3 := by omega
    have e2 : p5 0 ≤ cdN n := by omega
    rw [e]
    refine ⟨by omega, e2, k.1, fun b hb => ?_⟩
    unfold decC
    rcases (show b = 0 ∨ b = 1 ∨ b = 2 ∨ b = 3 by omega) with rfl | rfl | rfl | rfl
    · rw [if_pos rfl]; exact k.2.1
    · rw [if_neg (by decide)]; exact k.2.2.1
    · rw [if_neg (by decide)]; exact k.2.2.2.1
    · rw [if_neg (by decide)]; exact k.2.2.2.2
  · have hp : p5 1 = 5 := rfl
    have k := sp_ex (n0 := cN n 0) (n1 := cN n 1 - 1) (n2 := cN n 2) (n3 := cN n 3) (by omega)
    have e : cdN n - p5 1 = cN n 0 + 5 * (cN n 1 - 1) + 25 * cN n 2 + 125 * cN n 3 := by omega
    have e2 : p5 1 ≤ cdN n := by omega
    rw [e]
    refine ⟨by omega, e2, k.1, fun b hb => ?_⟩
    unfold decC
    rcases (show b = 0 ∨ b = 1 ∨ b = 2 ∨ b = 3 by omega) with rfl | rfl | rfl | rfl
    · rw [if_neg (by decide)]; exact k.2.1
    · rw [if_pos rfl]; exact k.2.2.1
    · rw [if_neg (by decide)]; exact k.2.2.2.1
    · rw [if_neg (by decide)]; exact k.2.2.2.2
  · have hp : p5 2 = 25 := rfl
    have k := sp_ex (n0 := cN n 0) (n1 := cN n 1) (n2 := cN n 2 - 1) (n3 := cN n 3) (by omega)
    have e : cdN n - p5 2 = cN n 0 + 5 * cN n 1 + 25 * (cN n 2 - 1) + 125 * cN n 3 := by omega
    have e2 : p5 2 ≤ cdN n := by omega
    rw [e]
    refine ⟨by omega, e2, k.1, fun b hb => ?_⟩
    unfold decC
    rcases (show b = 0 ∨ b = 1 ∨ b = 2 ∨ b = 3 by omega) with rfl | rfl | rfl | rfl
    · rw [if_neg (by decide)]; exact k.2.1
    · rw [if_neg (by decide)]; exact k.2.2.1
    · rw [if_pos rfl]; exact k.2.2.2.1
    · rw [if_neg (by decide)]; exact k.2.2.2.2
  · have hp : p5 3 = 125 := rfl
    have k := sp_ex (n0 := cN n 0) (n1 := cN n 1) (n2 := cN n 2) (n3 := cN n 3 - 1) (by omega)
    have e : cdN n - p5 3 = cN n 0 + 5 * cN n 1 + 25 * cN n 2 + 125 * (cN n 3 - 1) := by omega
    have e2 : p5 3 ≤ cdN n := by omega
    rw [e]
    refine ⟨by omega, e2, k.1, fun b hb => ?_⟩
    unfold decC
    rcases (show b = 0 ∨ b = 1 ∨ b = 2 ∨ b = 3 by omega) with rfl | rfl | rfl | rfl
    · rw [if_neg (by decide)]; exact k.2.1
    · rw [if_neg (by decide)]; exact k.2.2.1
    · rw [if_neg (by decide)]; exact k.2.2.2.1
    · rw [if_pos rfl]; exact k.2.2.2.2
theorem cnL_fb {c : Nat → Nat} {b : Nat} (hb : b < 4) (h : 0 < c b) (h0 : ∀ x, x < b → c x = 0) : cnL c = b :: cnL (decC c b) := by
  rcases (show b = 0 ∨ b = 1 ∨ b = 2 ∨ b = 3 by omega) with rfl | rfl | rfl | rfl
  · have d0 : decC c 0 0 = c 0 - 1 := if_pos rfl
    have d1 : decC c 0 1 = c 1 := if_neg (by decide)
    have d2 : decC c 0 2 = c 2 := if_neg (by decide)
    have d3 : decC c 0 3 = c 3 := if_neg (by decide)
    unfold cnL
    rw [d0, d1, d2, d3]
    cases hx : c 0 with
    | zero => omega
    | succ q => rfl
  · have d0 : decC c 1 0 = c 0 := if_neg (by decide)
    have d1 : decC c 1 1 = c 1 - 1 := if_pos rfl
    have d2 : decC c 1 2 = c 2 := if_neg (by decide)
    have d3 : decC c 1 3 = c 3 := if_neg (by decide)
    have e0 := h0 0 (by omega)
    unfold cnL
    rw [d0, d1, d2, d3, e0]
    cases hx : c 1 with
    | zero => omega
    | succ q => rfl
  · have d0 : decC c 2 0 = c 0 := if_neg (by decide)
    have d1 : decC c 2 1 = c 1 := if_neg (by decide)
    have d2 : decC c 2 2 = c 2 - 1 := if_pos rfl
    have d3 : decC c 2 3 = c 3 := if_neg (by decide)
    have e0 := h0 0 (by omega)
    have e1 := h0 1 (by omega)
    unfold cnL
    rw [d0, d1, d2, d3, e0, e1]
    cases hx : c 2 with
    | zero => omega
    | succ q => rfl
  · have d0 : decC c 3 0 = c 0 := if_neg (by decide)
    have d1 : decC c 3 1 = c 1 := if_neg (by decide)
    have d2 : decC c 3 2 = c 2 := if_neg (by decide)
    have d3 : decC c 3 3 = c 3 - 1 := if_pos rfl
    have e0 := h0 0 (by omega)
    have e1 := h0 1 (by omega)
    have e2 := h0 2 (by omega)
    unfold cnL
    rw [d0, d1, d2, d3, e0, e1, e2]
    cases hx : c 3 with
    | zero => omega
    | succ q => rfl
theorem cnL_len {c : Nat → Nat} : (cnL c).length = c4 c := by
  unfold cnL c4
  rw [List.length_append, List.length_append, List.length_append, List.length_replicate, List.length_replicate, List.length_replicate, List.length_replicate]
  omega
theorem cho_sz {nb : Nat → Nat → Prop} {s n : Nat} (hs : s < 70) (hn : n < 70) (h : cho nb (cnL (cN s)) (cN n)) : szN n ≤ szN s := by
  have h1 := cho_len h
  rw [cnL_len, c4_sz hs, c4_sz hn] at h1
  exact h1
theorem cho_0 {nb : Nat → Nat → Prop} {q : Nat} (hq : q < 70) : cho nb (cnL (cN 0)) (cN q) ↔ q = 0 := by
  have e : cnL (cN 0) = [] := by
    rw [cN_e]
    rfl
  rw [e]
  constructor
  · intro h
    have h1 : ∀ b, b < 4 → cN q b = 0 := h
    have h2 := sp_sz hq
    rw [h1 0 (by omega), h1 1 (by omega), h1 2 (by omega), h1 3 (by omega)] at h2
    rcases (sp_5 hq).1 with z | z
    · exact z
    · omega
  · rintro rfl
    intro b hb
    rw [cN_e]
    rcases (show b = 0 ∨ b = 1 ∨ b = 2 ∨ b = 3 by omega) with rfl | rfl | rfl | rfl <;> rfl
/-- one guard at the first beach goes on to this one -/
def oQ (mi : Nat → Int32) (b l n to : Nat) : Prop := to < 4 ∧ 0 < cN n to ∧ nbF mi b to ∧ cho (nbF mi) (cnL (cN l)) (decC (cN n) to)
theorem cho_fb {mi : Nat → Int32} {s b l n : Nat} (hb : b < 4) (h : 0 < cN s b) (h0 : ∀ x, x < b → cN s x = 0) (hl : ∀ x, x < 4 → cN l x = decC (cN s) b x) : cho (nbF mi) (cnL (cN s)) (cN n) ↔ (cho (nbF mi) (cnL (cN l)) (cN n) ∨ ∃ to, oQ mi b l n to) := by
  rw [cnL_fb hb h h0, ← cnL_E hl]
  exact Iff.rfl
theorem ro_abs {x y : Int32} (hx : 0 ≤ x.toInt ∧ x.toInt ≤ 40) (hy : 0 ≤ y.toInt ∧ y.toInt ≤ 40) : 10 < (if 0 ≤ x - y then x - y else 0 - (x - y)).toInt ↔ ¬ (x.toInt - y.toInt ≤ 10 ∧ y.toInt - x.toInt ≤ 10) := by
  have e1 : (x - y).toInt = x.toInt - y.toInt := cx_subc (by omega) (by omega)
  have z : (0 : Int32).toInt = 0 := by decide
  by_cases q : 0 ≤ x - y
  · rw [if_pos q, e1]
    rw [Int32.le_iff_toInt_le, z, e1] at q
    omega
  · rw [if_neg q, cx_subc (by omega) (by omega), z, e1]
    rw [Int32.le_iff_toInt_le, z, e1] at q
    omega
theorem ct_ga {g fk pf pt pr : Int32} {th : Nat → Int32} {x y : Int32} {sN bN : Nat} (hth : thH th) (hx : x.toInt = (sN : Int)) (hs : sN < 70) (hy : y.toInt = (bN : Int)) (hb : bN < 4) : cx_Ct 2 46 [.inr (.inl 43), .inl (.int x), .inl (.int y)] ([(43, .inl (4, [.inr (.inl 2), .inr (.inl 44), .inr (.inl 45), .inr (.inl 46), .inr (.inl 47), .inr (.inl 48), .inr (.inl 49), .inr (.inl 50), .inr (.inl 57), .inr (.inl 58), .inr (.inl 66), .inr (.inl 67), .inl (.int g), .inl (.int fk), .inl (.int pf), .inl (.int pt), .inl (.int pr)])), (48, .inr (.inl (0, 280, th)))]) (fun v h2 => ∃ z : Int32, v = some (.inl (.int z)) ∧ h2 = [(43, .inl (4, [.inr (.inl 2), .inr (.inl 44), .inr (.inl 45), .inr (.inl 46), .inr (.inl 47), .inr (.inl 48), .inr (.inl 49), .inr (.inl 50), .inr (.inl 57), .inr (.inl 58), .inr (.inl 66), .inr (.inl 67), .inl (.int g), .inl (.int fk), .inl (.int pf), .inl (.int pt), .inl (.int pr)])), (48, .inr (.inl (0, 280, th)))] ∧ z.toInt = ((cN sN bN : Nat) : Int)) := by
  have kc4 : (Int32.ofInt 4).toInt = 4 := by decide +kernel
  have hm4 : (x * Int32.ofInt 4).toInt = 4 * x.toInt := cx_mulk2 kc4 (by omega) (by omega)
  have hix : (x * Int32.ofInt 4 + y).toInt = ((4 * sN + bN : Nat) : Int) := by
    rw [cx_addc (by omega) (by omega), hm4]
    omega
  refine cx_Ct.of cg_46 (nL := 3) rfl rfl rfl ?_
  show cx_T 2 46 [43, 48] 0 ([some (.inr (.inl 43)), some (.inl (.int x)), some (.inl (.int y))], [], ([(43, .inl (4, [.inr (.inl 2), .inr (.inl 44), .inr (.inl 45), .inr (.inl 46), .inr (.inl 47), .inr (.inl 48), .inr (.inl 49), .inr (.inl 50), .inr (.inl 57), .inr (.inl 58), .inr (.inl 66), .inr (.inl 67), .inl (.int g), .inl (.int fk), .inl (.int pf), .inl (.int pt), .inl (.int pr)])), (48, .inr (.inl (0, 280, th)))])) _
  refine ex_aload_n cg_46 (ix := 0) (pc' := 1) rfl rfl rfl ?_
  refine ex_getfield cg_46 (ix := 1) (pc' := 4) rfl rfl rfl rfl rfl ?_
  refine ex_iload_n cg_46 (ix := 2) (pc' := 5) rfl rfl rfl ?_
  refine ex_iconst cg_46 (ix := 3) (pc' := 6) rfl rfl ?_
  refine ex_imul cg_46 (ix := 4) (pc' := 7) rfl rfl ?_
  refine ex_iload_n cg_46 (ix := 5) (pc' := 8) rfl rfl rfl ?_
  refine ex_iadd cg_46 (ix := 6) (pc' := 9) rfl rfl ?_
  refine ex_iaload cg_46 (ix := 7) (pc' := 10) rfl rfl (by omega) (by omega) rfl ?_
  refine ex_ireturn cg_46 (ix := 8) rfl ?_
  exact ⟨_, rfl, rfl, by rw [cx_clamp hix]; exact hth sN bN hs hb⟩
theorem ct_nr {g fk pf pt pr : Int32} {mi : Nat → Int32} {x y : Int32} {bN tN : Nat} (hmi : miH mi) (hx : x.toInt = (bN : Int)) (hb : bN < 4) (hy : y.toInt = (tN : Int)) (ht : tN < 4) : cx_Ct 2 47 [.inr (.inl 43), .inl (.int x), .inl (.int y)] ([(43, .inl (4, [.inr (.inl 2), .inr (.inl 44), .inr (.inl 45), .inr (.inl 46), .inr (.inl 47), .inr (.inl 48), .inr (.inl 49), .inr (.inl 50), .inr (.inl 57), .inr (.inl 58), .inr (.inl 66), .inr (.inl 67), .inl (.int g), .inl (.int fk), .inl (.int pf), .inl (.int pt), .inl (.int pr)])), (44, .inr (.inl (0, 4, mi)))]) (fun v h2 => ∃ z : Int32, v = some (.inl (.int z)) ∧ h2 = [(43, .inl (4, [.inr (.inl 2), .inr (.inl 44), .inr (.inl 45), .inr (.inl 46), .inr (.inl 47), .inr (.inl 48), .inr (.inl 49), .inr (.inl 50), .inr (.inl 57), .inr (.inl 58), .inr (.inl 66), .inr (.inl 67), .inl (.int g), .inl (.int fk), .inl (.int pf), .inl (.int pt), .inl (.int pr)])), (44, .inr (.inl (0, 4, mi)))] ∧ (z = Int32.ofInt 1 ∧ nbF mi bN tN ∨ z = Int32.ofInt 0 ∧ ¬ nbF mi bN tN)) := by
  have kc10 : (Int32.ofInt 10).toInt = 10 := by decide +kernel
  have kc1 : (Int32.ofInt 1).toInt = 1 := by decide +kernel
  have kc0 : (Int32.ofInt 0).toInt = 0 := by decide +kernel
  have hcx := cx_clamp hx
  have hcy := cx_clamp hy
  have hmx := hmi _ (show x.toNatClampNeg < 4 by omega)
  have hmy := hmi _ (show y.toNatClampNeg < 4 by omega)
  refine cx_Ct.of cg_47 (nL := 3) rfl rfl rfl ?_
  show cx_T 2 47 [43, 44] 0 ([some (.inr (.inl 43)), some (.inl (.int x)), some (.inl (.int y))], [], ([(43, .inl (4, [.inr (.inl 2), .inr (.inl 44), .inr (.inl 45), .inr (.inl 46), .inr (.inl 47), .inr (.inl 48), .inr (.inl 49), .inr (.inl 50), .inr (.inl 57), .inr (.inl 58), .inr (.inl 66), .inr (.inl 67), .inl (.int g), .inl (.int fk), .inl (.int pf), .inl (.int pt), .inl (.int pr)])), (44, .inr (.inl (0, 4, mi)))])) _
  refine ex_aload_n cg_47 (ix := 0) (pc' := 1) rfl rfl rfl ?_
  refine ex_getfield cg_47 (ix := 1) (pc' := 4) rfl rfl rfl rfl rfl ?_
  refine ex_iload_n cg_47 (ix := 2) (pc' := 5) rfl rfl rfl ?_
  refine ex_iaload cg_47 (ix := 3) (pc' := 6) rfl rfl (by omega) (by omega) rfl ?_
  refine ex_aload_n cg_47 (ix := 4) (pc' := 7) rfl rfl rfl ?_
  refine ex_getfield cg_47 (ix := 5) (pc' := 10) rfl rfl rfl rfl rfl ?_
  refine ex_iload_n cg_47 (ix := 6) (pc' := 11) rfl rfl rfl ?_
  refine ex_iaload cg_47 (ix := 7) (pc' := 12) rfl rfl (by omega) (by omega) rfl ?_
  refine ex_isub cg_47 (ix := 8) (pc' := 13) rfl rfl ?_
  refine ex_abs cg_47 (ix := 9) (pc' := 16) rfl rfl (by first | decide | omega) rfl rfl ?_
  refine ex_bipush cg_47 (ix := 10) (pc' := 18) rfl rfl rfl ?_
  refine ex_icmp cg_47 (ix := 11) (t := 25) (pc' := 21) rfl rfl rfl (fun hb18 => ?_) (fun hb18 => ?_)
  · have hb18 : (Int32.ofInt 10).toInt < (if 0 ≤ ((mi x.toNatClampNeg) - (mi y.toNatClampNeg)) then ((mi x.toNatClampNeg) - (mi y.toNatClampNeg)) else 0 - ((mi x.toNatClampNeg) - (mi y.toNatClampNeg))).toInt := hb18
    refine ex_iconst cg_47 (ix := 14) (pc' := 26) rfl rfl ?_
    refine ex_zreturn cg_47 (ix := 15) rfl (by first | exact Or.inl rfl | exact Or.inr rfl | (omega)) ?_
    rw [kc10, ro_abs hmx hmy, hcx, hcy] at hb18
    exact ⟨_, rfl, rfl, Or.inr ⟨rfl, fun q => hb18 q.2⟩⟩
  · have hb18 : ¬ ((Int32.ofInt 10).toInt < (if 0 ≤ ((mi x.toNatClampNeg) - (mi y.toNatClampNeg)) then ((mi x.toNatClampNeg) - (mi y.toNatClampNeg)) else 0 - ((mi x.toNatClampNeg) - (mi y.toNatClampNeg))).toInt) := hb18
    refine ex_iconst cg_47 (ix := 12) (pc' := 22) rfl rfl ?_
    refine ex_goto cg_47 (ix := 13) (pc' := 26) rfl rfl ?_
    refine ex_zreturn cg_47 (ix := 15) rfl (by first | exact Or.inl rfl | exact Or.inr rfl | (omega)) ?_
    rw [kc10, ro_abs hmx hmy, hcx, hcy] at hb18
    exact ⟨_, rfl, rfl, Or.inl ⟨rfl, ⟨hb, ht⟩, Classical.byContradiction hb18⟩⟩
theorem fb_loop {g fk pf pt pr : Int32} {th : Nat → Int32} {x : Int32} {sN : Nat} {P : Option cx_V → cx_H → Prop} (hth : thH th) (hx : x.toInt = (sN : Int)) (hs : sN < 70) (hs1 : 1 ≤ sN) (hP : ∀ (z : Int32) (bN : Nat), (z.toInt = (bN : Int) ∧ bN < 4 ∧ 0 < cN sN bN ∧ ∀ q : Nat, q < bN → cN sN q = 0) → P (some (.inl (.int z))) ([(43, .inl (4, [.inr (.inl 2), .inr (.inl 44), .inr (.inl 45), .inr (.inl 46), .inr (.inl 47), .inr (.inl 48), .inr (.inl 49), .inr (.inl 50), .inr (.inl 57), .inr (.inl 58), .inr (.inl 66), .inr (.inl 67), .inl (.int g), .inl (.int fk), .inl (.int pf), .inl (.int pt), .inl (.int pr)])), (48, .inr (.inl (0, 280, th)))])) :
    ∀ (m k : Nat), k + m = 4 → ∀ i : Int32, i.toInt = (k : Int) → (∀ q : Nat, q < k → cN sN q = 0) → cx_T 3 49 [43, 48] 2 ([some (.inr (.inl 43)), some (.inl (.int x)), some (.inl (.int i))], [], [(43, .inl (4, [.inr (.inl 2), .inr (.inl 44), .inr (.inl 45), .inr (.inl 46), .inr (.inl 47), .inr (.inl 48), .inr (.inl 49), .inr (.inl 50), .inr (.inl 57), .inr (.inl 58), .inr (.inl 66), .inr (.inl 67), .inl (.int g), .inl (.int fk), .inl (.int pf), .inl (.int pt), .inl (.int pr)])), (48, .inr (.inl (0, 280, th)))]) P := by
  have kc0 : (Int32.ofInt 0).toInt = 0 := by decide +kernel
  have kc1 : (Int32.ofInt 1).toInt = 1 := by decide +kernel
  have kc4 : (Int32.ofInt 4).toInt = 4 := by decide +kernel
  intro m
  induction m with
  | zero =>
    intro k hk i hi hz0
    have ek : k = 4 := by omega
    refine ex_iload_n cg_49 (ix := 2) (pc' := 3) rfl rfl rfl ?_
    refine ex_iconst cg_49 (ix := 3) (pc' := 4) rfl rfl ?_
    refine ex_icmp cg_49 (ix := 4) (t := 24) (pc' := 7) rfl rfl rfl (fun hb4 => ?_) (fun hb4 => ?_)
    · have hb4 : (Int32.ofInt 4).toInt ≤ i.toInt := hb4
      refine ex_iconst cg_49 (ix := 14) (pc' := 25) rfl rfl ?_
      refine ex_ireturn cg_49 (ix := 15) rfl ?_
      exfalso
      rw [ek] at hz0
      have h1 := (sp_5 hs).1
      have h2 := (sp_sz hs).1
      rw [hz0 0 (by omega), hz0 1 (by omega), hz0 2 (by omega), hz0 3 (by omega)] at h2
      omega
    · have hb4 : ¬ ((Int32.ofInt 4).toInt ≤ i.toInt) := hb4
      exfalso; first | omega | exact absurd hb4 (by decide +kernel)
  | succ m ih =>
    intro k hk i hi hz0
    have hik : i.toNatClampNeg = k := cx_clamp hi
    refine ex_iload_n cg_49 (ix := 2) (pc' := 3) rfl rfl rfl ?_
    refine ex_iconst cg_49 (ix := 3) (pc' := 4) rfl rfl ?_
    refine ex_icmp cg_49 (ix := 4) (t := 24) (pc' := 7) rfl rfl rfl (fun hb4 => ?_) (fun hb4 => ?_)
    · have hb4 : (Int32.ofInt 4).toInt ≤ i.toInt := hb4
      exfalso; first | omega | exact absurd hb4 (by decide +kernel)
    · have hb4 : ¬ ((Int32.ofInt 4).toInt ≤ i.toInt) := hb4
      refine ex_aload_n cg_49 (ix := 5) (pc' := 8) rfl rfl rfl ?_
      refine ex_iload_n cg_49 (ix := 6) (pc' := 9) rfl rfl rfl ?_
      refine ex_iload_n cg_49 (ix := 7) (pc' := 10) rfl rfl rfl ?_
      refine ex_callV cg_49 (ix := 8) (pc' := 13) (As := [.inl (.int x), .inl (.int i)]) (r := []) rfl rfl rfl (ct_ga (g := g) (fk := fk) (pf := pf) (pt := pt) (pr := pr) (th := th) (x := x) (y := i) (sN := sN) (bN := k) hth hx hs hi (by omega)) (by first | decide | omega) rfl rfl rfl ⟨rfl, rfl, trivial⟩ rfl rfl (fun v h2 hq => ?_)
      obtain ⟨z, rfl, rfl, hz⟩ := hq
      show cx_T _ 49 _ 13 ([some (.inr (.inl 43)), some (.inl (.int x)), some (.inl (.int i))], [.inl (.int z)], [(43, .inl (4, [.inr (.inl 2), .inr (.inl 44), .inr (.inl 45), .inr (.inl 46), .inr (.inl 47), .inr (.inl 48), .inr (.inl 49), .inr (.inl 50), .inr (.inl 57), .inr (.inl 58), .inr (.inl 66), .inr (.inl 67), .inl (.int g), .inl (.int fk), .inl (.int pf), .inl (.int pt), .inl (.int pr)])), (48, .inr (.inl (0, 280, th)))]) _
      refine ex_if cg_49 (ix := 9) (t := 18) (pc' := 16) rfl rfl rfl (fun hb13 => ?_) (fun hb13 => ?_)
      · have hb13 : z.toInt ≤ 0 := hb13
        refine ex_iinc cg_49 (ix := 12) (pc' := 21) (L' := [some (.inr (.inl 43)), some (.inl (.int x)), some (.inl (.int (i + Int32.ofInt 1)))]) rfl rfl rfl rfl rfl ?_
        refine ex_goto cg_49 (ix := 13) (pc' := 2) rfl rfl ?_
        exact ih (k + 1) (by omega) _ (by rw [cx_addc (by omega) (by omega)]; omega) (fun q hq => by
          by_cases e : q = k
          · rw [e]; omega
          · exact hz0 q (by omega))
      · have hb13 : ¬ (z.toInt ≤ 0) := hb13
        refine ex_iload_n cg_49 (ix := 10) (pc' := 17) rfl rfl rfl ?_
        refine ex_ireturn cg_49 (ix := 11) rfl ?_
        exact hP i k ⟨hi, by omega, by omega, hz0⟩
theorem ct_fbc {g fk pf pt pr : Int32} {th : Nat → Int32} {x : Int32} {sN : Nat} (hth : thH th) (hx : x.toInt = (sN : Int)) (hs : sN < 70) (hs1 : 1 ≤ sN) : cx_Ct 3 49 [.inr (.inl 43), .inl (.int x)] ([(43, .inl (4, [.inr (.inl 2), .inr (.inl 44), .inr (.inl 45), .inr (.inl 46), .inr (.inl 47), .inr (.inl 48), .inr (.inl 49), .inr (.inl 50), .inr (.inl 57), .inr (.inl 58), .inr (.inl 66), .inr (.inl 67), .inl (.int g), .inl (.int fk), .inl (.int pf), .inl (.int pt), .inl (.int pr)])), (48, .inr (.inl (0, 280, th)))]) (fun v h2 => ∃ (z : Int32) (bN : Nat), v = some (.inl (.int z)) ∧ h2 = [(43, .inl (4, [.inr (.inl 2), .inr (.inl 44), .inr (.inl 45), .inr (.inl 46), .inr (.inl 47), .inr (.inl 48), .inr (.inl 49), .inr (.inl 50), .inr (.inl 57), .inr (.inl 58), .inr (.inl 66), .inr (.inl 67), .inl (.int g), .inl (.int fk), .inl (.int pf), .inl (.int pt), .inl (.int pr)])), (48, .inr (.inl (0, 280, th)))] ∧ z.toInt = (bN : Int) ∧ bN < 4 ∧ 0 < cN sN bN ∧ ∀ q : Nat, q < bN → cN sN q = 0) := by
  have kc0 : (Int32.ofInt 0).toInt = 0 := by decide +kernel
  have kc4 : (Int32.ofInt 4).toInt = 4 := by decide +kernel
  have kc1 : (Int32.ofInt 1).toInt = 1 := by decide +kernel
  refine cx_Ct.of cg_49 (nL := 3) rfl rfl rfl ?_
  show cx_T 3 49 [43, 48] 0 ([some (.inr (.inl 43)), some (.inl (.int x)), none], [], ([(43, .inl (4, [.inr (.inl 2), .inr (.inl 44), .inr (.inl 45), .inr (.inl 46), .inr (.inl 47), .inr (.inl 48), .inr (.inl 49), .inr (.inl 50), .inr (.inl 57), .inr (.inl 58), .inr (.inl 66), .inr (.inl 67), .inl (.int g), .inl (.int fk), .inl (.int pf), .inl (.int pt), .inl (.int pr)])), (48, .inr (.inl (0, 280, th)))])) _
  refine ex_iconst cg_49 (ix := 0) (pc' := 1) rfl rfl ?_
  refine ex_istore_n cg_49 (ix := 1) (pc' := 2) (L' := [some (.inr (.inl 43)), some (.inl (.int x)), some (.inl (.int (Int32.ofInt 0)))]) rfl rfl rfl rfl ?_
  exact fb_loop (g := g) (fk := fk) (pf := pf) (pt := pt) (pr := pr) (th := th) (x := x) (sN := sN) hth hx hs hs1 (P := fun v h2 => ∃ (z : Int32) (bN : Nat), v = some (.inl (.int z)) ∧ h2 = [(43, .inl (4, [.inr (.inl 2), .inr (.inl 44), .inr (.inl 45), .inr (.inl 46), .inr (.inl 47), .inr (.inl 48), .inr (.inl 49), .inr (.inl 50), .inr (.inl 57), .inr (.inl 58), .inr (.inl 66), .inr (.inl 67), .inl (.int g), .inl (.int fk), .inl (.int pf), .inl (.int pt), .inl (.int pr)])), (48, .inr (.inl (0, 280, th)))] ∧ z.toInt = (bN : Int) ∧ bN < 4 ∧ 0 < cN sN bN ∧ ∀ q : Nat, q < bN → cN sN q = 0) (fun z bN hz => ⟨z, bN, rfl, rfl, hz⟩) 4 0 (by omega) (Int32.ofInt 0) (by decide +kernel) (fun q hq => absurd hq (Nat.not_lt_zero q))
theorem om_loop {g fk pf pt pr : Int32} {mi cd sp th fo : Nat → Int32} {x y n : Int32} {lN bN nN : Nat} {P : Option cx_V → cx_H → Prop} (hth : thH th) (hcd : cdH cd) (hsp : spH sp) (hmi : miH mi) (hx : x.toInt = (lN : Int)) (hl : lN < 70) (hy : y.toInt = (bN : Int)) (hb : bN < 4) (hn : n.toInt = (nN : Int)) (hn70 : nN < 70) (hfo : ∀ q : Nat, q < 70 → fo (70 * lN + q) = b2R (cho (nbF mi) (cnL (cN lN)) (cN q))) (hP : ∀ z : Int32, ((z = Int32.ofInt 1 ∧ (∃ to, oQ mi bN lN nN to)) ∨ (z = Int32.ofInt 0 ∧ ¬ ∃ to, oQ mi bN lN nN to)) → P (some (.inl (.int z))) ([(43, .inl (4, [.inr (.inl 2), .inr (.inl 44), .inr (.inl 45), .inr (.inl 46), .inr (.inl 47), .inr (.inl 48), .inr (.inl 49), .inr (.inl 50), .inr (.inl 57), .inr (.inl 58), .inr (.inl 66), .inr (.inl 67), .inl (.int g), .inl (.int fk), .inl (.int pf), .inl (.int pt), .inl (.int pr)])), (44, .inr (.inl (0, 4, mi))), (45, .inr (.inl (0, 70, cd))), (47, .inr (.inl (0, 625, sp))), (48, .inr (.inl (0, 280, th))), (49, .inr (.inl (2, 4900, fo)))])) :
    ∀ (m k : Nat), k + m = 4 → ∀ i : Int32, i.toInt = (k : Int) → (∀ to : Nat, to < k → ¬ oQ mi bN lN nN to) → cx_T 3 50 [43, 44, 45, 47, 48, 49] 3 ([some (.inr (.inl 43)), some (.inl (.int x)), some (.inl (.int y)), some (.inl (.int n)), some (.inl (.int i))], [], [(43, .inl (4, [.inr (.inl 2), .inr (.inl 44), .inr (.inl 45), .inr (.inl 46), .inr (.inl 47), .inr (.inl 48), .inr (.inl 49), .inr (.inl 50), .inr (.inl 57), .inr (.inl 58), .inr (.inl 66), .inr (.inl 67), .inl (.int g), .inl (.int fk), .inl (.int pf), .inl (.int pt), .inl (.int pr)])), (44, .inr (.inl (0, 4, mi))), (45, .inr (.inl (0, 70, cd))), (47, .inr (.inl (0, 625, sp))), (48, .inr (.inl (0, 280, th))), (49, .inr (.inl (2, 4900, fo)))]) P := by
  have kc0 : (Int32.ofInt 0).toInt = 0 := by decide +kernel
  have kc1 : (Int32.ofInt 1).toInt = 1 := by decide +kernel
  have kc4 : (Int32.ofInt 4).toInt = 4 := by decide +kernel
  have kc70 : (Int32.ofInt 70).toInt = 70 := by decide +kernel
  intro m
  induction m with
  | zero =>
    intro k hk i hi hno
    have ek : k = 4 := by omega
    refine ex_iload cg_50 (ix := 2) (pc' := 5) rfl rfl rfl ?_
    refine ex_iconst cg_50 (ix := 3) (pc' := 6) rfl rfl ?_
    refine ex_icmp cg_50 (ix := 4) (t := 68) (pc' := 9) rfl rfl rfl (fun hb6 => ?_) (fun hb6 => ?_)
    · have hb6 : (Int32.ofInt 4).toInt ≤ i.toInt := hb6
      refine ex_iconst cg_50 (ix := 38) (pc' := 69) rfl rfl ?_
      refine ex_zreturn cg_50 (ix := 39) rfl (by first | exact Or.inl rfl | exact Or.inr rfl | (omega)) ?_
      rw [ek] at hno
      exact hP _ (Or.inr ⟨rfl, fun ⟨to, q⟩ => hno to q.1 q⟩)
    · have hb6 : ¬ ((Int32.ofInt 4).toInt ≤ i.toInt) := hb6
      exfalso; first | omega | exact absurd hb6 (by decide +kernel)
  | succ m ih =>
    intro k hk i hi hno
    have hik : i.toNatClampNeg = k := cx_clamp hi
    refine ex_iload cg_50 (ix := 2) (pc' := 5) rfl rfl rfl ?_
    refine ex_iconst cg_50 (ix := 3) (pc' := 6) rfl rfl ?_
    refine ex_icmp cg_50 (ix := 4) (t := 68) (pc' := 9) rfl rfl rfl (fun hb6 => ?_) (fun hb6 => ?_)
    · have hb6 : (Int32.ofInt 4).toInt ≤ i.toInt := hb6
      exfalso; first | omega | exact absurd hb6 (by decide +kernel)
    · have hb6 : ¬ ((Int32.ofInt 4).toInt ≤ i.toInt) := hb6
      refine ex_aload_n cg_50 (ix := 5) (pc' := 10) rfl rfl rfl ?_
      refine ex_iload_n cg_50 (ix := 6) (pc' := 11) rfl rfl rfl ?_
      refine ex_iload cg_50 (ix := 7) (pc' := 13) rfl rfl rfl ?_
      refine ex_callV cg_50 (ix := 8) (pc' := 16) (As := [.inl (.int n), .inl (.int i)]) (r := []) rfl rfl rfl (ct_ga (g := g) (fk := fk) (pf := pf) (pt := pt) (pr := pr) (th := th) (x := n) (y := i) (sN := nN) (bN := k) hth hn hn70 hi (by omega)) (by first | decide | omega) rfl rfl rfl ⟨rfl, rfl, trivial⟩ rfl rfl (fun v h2 hq => ?_)
      obtain ⟨z, rfl, rfl, hz⟩ := hq
      show cx_T _ 50 _ 16 ([some (.inr (.inl 43)), some (.inl (.int x)), some (.inl (.int y)), some (.inl (.int n)), some (.inl (.int i))], [.inl (.int z)], [(43, .inl (4, [.inr (.inl 2), .inr (.inl 44), .inr (.inl 45), .inr (.inl 46), .inr (.inl 47), .inr (.inl 48), .inr (.inl 49), .inr (.inl 50), .inr (.inl 57), .inr (.inl 58), .inr (.inl 66), .inr (.inl 67), .inl (.int g), .inl (.int fk), .inl (.int pf), .inl (.int pt), .inl (.int pr)])), (44, .inr (.inl (0, 4, mi))), (45, .inr (.inl (0, 70, cd))), (47, .inr (.inl (0, 625, sp))), (48, .inr (.inl (0, 280, th))), (49, .inr (.inl (2, 4900, fo)))]) _
      refine ex_if cg_50 (ix := 9) (t := 62) (pc' := 19) rfl rfl rfl (fun hb16 => ?_) (fun hb16 => ?_)
      · have hb16 : z.toInt ≤ 0 := hb16
        refine ex_iinc cg_50 (ix := 36) (pc' := 65) (L' := [some (.inr (.inl 43)), some (.inl (.int x)), some (.inl (.int y)), some (.inl (.int n)), some (.inl (.int (i + Int32.ofInt 1)))]) rfl rfl rfl rfl rfl ?_
        refine ex_goto cg_50 (ix := 37) (pc' := 3) rfl rfl ?_
        have hQ : ¬ oQ mi bN lN nN k := fun ⟨q1, q2, q3, q4⟩ => by
          first
          | omega
          | exact hnr q3
          | exact (b2R_0.mp (by rw [← hfv]; exact hb57)) (cho_E (fun b hb => (hd.2.2.2 b hb).symm) q4)
        exact ih (k + 1) (by omega) _ (by rw [cx_addc (by omega) (by omega)]; omega) (fun to ht q => by
          by_cases e : to = k
          · rw [e] at q; exact hQ q
          · exact hno to (by omega) q)
      · have hb16 : ¬ (z.toInt ≤ 0) := hb16
        refine ex_aload_n cg_50 (ix := 10) (pc' := 20) rfl rfl rfl ?_
        refine ex_iload_n cg_50 (ix := 11) (pc' := 21) rfl rfl rfl ?_
        refine ex_iload cg_50 (ix := 12) (pc' := 23) rfl rfl rfl ?_
        refine ex_callV cg_50 (ix := 13) (pc' := 26) (As := [.inl (.int y), .inl (.int i)]) (r := []) rfl rfl rfl (ct_nr (g := g) (fk := fk) (pf := pf) (pt := pt) (pr := pr) (mi := mi) (x := y) (y := i) (bN := bN) (tN := k) hmi hy hb hi (by omega)) (by first | decide | omega) rfl rfl rfl ⟨rfl, rfl, trivial⟩ rfl rfl (fun v h2 hq => ?_)
        obtain ⟨z2, rfl, rfl, hz2⟩ := hq
        rcases hz2 with ⟨rfl, hnr⟩ | ⟨rfl, hnr⟩
        · show cx_T _ 50 _ 26 ([some (.inr (.inl 43)), some (.inl (.int x)), some (.inl (.int y)), some (.inl (.int n)), some (.inl (.int i))], [.inl (.int (Int32.ofInt 1))], [(43, .inl (4, [.inr (.inl 2), .inr (.inl 44), .inr (.inl 45), .inr (.inl 46), .inr (.inl 47), .inr (.inl 48), .inr (.inl 49), .inr (.inl 50), .inr (.inl 57), .inr (.inl 58), .inr (.inl 66), .inr (.inl 67), .inl (.int g), .inl (.int fk), .inl (.int pf), .inl (.int pt), .inl (.int pr)])), (44, .inr (.inl (0, 4, mi))), (45, .inr (.inl (0, 70, cd))), (47, .inr (.inl (0, 625, sp))), (48, .inr (.inl (0, 280, th))), (49, .inr (.inl (2, 4900, fo)))]) _
          refine ex_if cg_50 (ix := 14) (t := 62) (pc' := 29) rfl rfl rfl (fun hb26 => ?_) (fun hb26 => ?_)
          · have hb26 : (Int32.ofInt 1).toInt = 0 := hb26
            exfalso; first | omega | exact absurd hb26 (by decide +kernel)
          · have hb26 : ¬ ((Int32.ofInt 1).toInt = 0) := hb26
            have hd := sp_dec (n := nN) (to := k) hn70 (by omega) (by omega)
            have hcv : (cd n.toNatClampNeg).toInt = ((cdN nN : Nat) : Int) := by
              rw [cx_clamp hn]
              exact hcd _ hn70
            have hov : (cOne i.toNatClampNeg).toInt = ((p5 k : Nat) : Int) := by
              rw [cx_clamp hi]
              exact cOne_v (by omega)
            have hc5 := (sp_5 hn70).2.1
            have hsv : (cd n.toNatClampNeg - cOne i.toNatClampNeg).toInt = ((cdN nN - p5 k : Nat) : Int) := by
              rw [cx_subc (by omega) (by omega)]
              omega
            have hscl := cx_clamp hsv
            have hspv : (sp (cd n.toNatClampNeg - cOne i.toNatClampNeg).toNatClampNeg).toInt = ((spN (cdN nN - p5 k) : Nat) : Int) := by
              rw [hscl]
              exact hsp _ hd.1
            have hm70 : (x * Int32.ofInt 70).toInt = 70 * x.toInt := cx_mulk2 kc70 (by omega) (by omega)
            have hix : (x * Int32.ofInt 70 + sp (cd n.toNatClampNeg - cOne i.toNatClampNeg).toNatClampNeg).toInt = ((70 * lN + spN (cdN nN - p5 k) : Nat) : Int) := by
              rw [cx_addc (by omega) (by omega), hm70]
              omega
            have hfv : fo (x * Int32.ofInt 70 + sp (cd n.toNatClampNeg - cOne i.toNatClampNeg).toNatClampNeg).toNatClampNeg = b2R (cho (nbF mi) (cnL (cN lN)) (cN (spN (cdN nN - p5 k)))) := by
              rw [cx_clamp hix]
              exact hfo _ hd.2.2.1
            refine ex_aload_n cg_50 (ix := 15) (pc' := 30) rfl rfl rfl ?_
            refine ex_getfield cg_50 (ix := 16) (pc' := 33) rfl rfl rfl rfl rfl ?_
            refine ex_iload_n cg_50 (ix := 17) (pc' := 34) rfl rfl rfl ?_
            refine ex_bipush cg_50 (ix := 18) (pc' := 36) rfl rfl rfl ?_
            refine ex_imul cg_50 (ix := 19) (pc' := 37) rfl rfl ?_
            refine ex_aload_n cg_50 (ix := 20) (pc' := 38) rfl rfl rfl ?_
            refine ex_getfield cg_50 (ix := 21) (pc' := 41) rfl rfl rfl rfl rfl ?_
            refine ex_aload_n cg_50 (ix := 22) (pc' := 42) rfl rfl rfl ?_
            refine ex_getfield cg_50 (ix := 23) (pc' := 45) rfl rfl rfl rfl rfl ?_
            refine ex_iload_n cg_50 (ix := 24) (pc' := 46) rfl rfl rfl ?_
            refine ex_iaload cg_50 (ix := 25) (pc' := 47) rfl rfl (by omega) (by omega) rfl ?_
            refine ex_getstatic cg_50 (ix := 26) (pc' := 50) rfl rfl rfl ?_
            refine ex_iload cg_50 (ix := 27) (pc' := 52) rfl rfl rfl ?_
            refine ex_sload cg_50 (ix := 28) (pc' := 53) rfl (by omega) (by omega) rfl ?_
            refine ex_isub cg_50 (ix := 29) (pc' := 54) rfl rfl ?_
            refine ex_iaload cg_50 (ix := 30) (pc' := 55) rfl rfl (by omega) (by omega) rfl ?_
            refine ex_iadd cg_50 (ix := 31) (pc' := 56) rfl rfl ?_
            refine ex_baload cg_50 (ix := 32) (pc' := 57) rfl rfl (by omega) (by omega) rfl ?_
            refine ex_if cg_50 (ix := 33) (t := 62) (pc' := 60) rfl rfl rfl (fun hb57 => ?_) (fun hb57 => ?_)
            · have hb57 : (fo ((x * (Int32.ofInt 70)) + (sp ((cd n.toNatClampNeg) - (cOne i.toNatClampNeg)).toNatClampNeg)).toNatClampNeg).toInt = 0 := hb57
              refine ex_iinc cg_50 (ix := 36) (pc' := 65) (L' := [some (.inr (.inl 43)), some (.inl (.int x)), some (.inl (.int y)), some (.inl (.int n)), some (.inl (.int (i + Int32.ofInt 1)))]) rfl rfl rfl rfl rfl ?_
              refine ex_goto cg_50 (ix := 37) (pc' := 3) rfl rfl ?_
              have hQ : ¬ oQ mi bN lN nN k := fun ⟨q1, q2, q3, q4⟩ => by
                first
                | omega
                | exact hnr q3
                | exact (b2R_0.mp (by rw [← hfv]; exact hb57)) (cho_E (fun b hb => (hd.2.2.2 b hb).symm) q4)
              exact ih (k + 1) (by omega) _ (by rw [cx_addc (by omega) (by omega)]; omega) (fun to ht q => by
                by_cases e : to = k
                · rw [e] at q; exact hQ q
                · exact hno to (by omega) q)
            · have hb57 : ¬ ((fo ((x * (Int32.ofInt 70)) + (sp ((cd n.toNatClampNeg) - (cOne i.toNatClampNeg)).toNatClampNeg)).toNatClampNeg).toInt = 0) := hb57
              refine ex_iconst cg_50 (ix := 34) (pc' := 61) rfl rfl ?_
              refine ex_zreturn cg_50 (ix := 35) rfl (by first | exact Or.inl rfl | exact Or.inr rfl | (omega)) ?_
              have hfy : cho (nbF mi) (cnL (cN lN)) (cN (spN (cdN nN - p5 k))) := Classical.byContradiction (fun q => hb57 (by rw [hfv]; exact b2R_0.mpr q))
              exact hP _ (Or.inl ⟨rfl, k, by omega, by omega, hnr, cho_E hd.2.2.2 hfy⟩)
        · show cx_T _ 50 _ 26 ([some (.inr (.inl 43)), some (.inl (.int x)), some (.inl (.int y)), some (.inl (.int n)), some (.inl (.int i))], [.inl (.int (Int32.ofInt 0))], [(43, .inl (4, [.inr (.inl 2), .inr (.inl 44), .inr (.inl 45), .inr (.inl 46), .inr (.inl 47), .inr (.inl 48), .inr (.inl 49), .inr (.inl 50), .inr (.inl 57), .inr (.inl 58), .inr (.inl 66), .inr (.inl 67), .inl (.int g), .inl (.int fk), .inl (.int pf), .inl (.int pt), .inl (.int pr)])), (44, .inr (.inl (0, 4, mi))), (45, .inr (.inl (0, 70, cd))), (47, .inr (.inl (0, 625, sp))), (48, .inr (.inl (0, 280, th))), (49, .inr (.inl (2, 4900, fo)))]) _
          refine ex_if cg_50 (ix := 14) (t := 62) (pc' := 29) rfl rfl rfl (fun hb26 => ?_) (fun hb26 => ?_)
          · have hb26 : (Int32.ofInt 0).toInt = 0 := hb26
            refine ex_iinc cg_50 (ix := 36) (pc' := 65) (L' := [some (.inr (.inl 43)), some (.inl (.int x)), some (.inl (.int y)), some (.inl (.int n)), some (.inl (.int (i + Int32.ofInt 1)))]) rfl rfl rfl rfl rfl ?_
            refine ex_goto cg_50 (ix := 37) (pc' := 3) rfl rfl ?_
            have hQ : ¬ oQ mi bN lN nN k := fun ⟨q1, q2, q3, q4⟩ => by
              first
              | omega
              | exact hnr q3
              | exact (b2R_0.mp (by rw [← hfv]; exact hb57)) (cho_E (fun b hb => (hd.2.2.2 b hb).symm) q4)
            exact ih (k + 1) (by omega) _ (by rw [cx_addc (by omega) (by omega)]; omega) (fun to ht q => by
              by_cases e : to = k
              · rw [e] at q; exact hQ q
              · exact hno to (by omega) q)
          · have hb26 : ¬ ((Int32.ofInt 0).toInt = 0) := hb26
            exfalso; first | omega | exact absurd hb26 (by decide +kernel)
theorem ct_om {g fk pf pt pr : Int32} {mi cd sp th fo : Nat → Int32} {x y n : Int32} {lN bN nN : Nat} (hth : thH th) (hcd : cdH cd) (hsp : spH sp) (hmi : miH mi) (hx : x.toInt = (lN : Int)) (hl : lN < 70) (hy : y.toInt = (bN : Int)) (hb : bN < 4) (hn : n.toInt = (nN : Int)) (hn70 : nN < 70) (hfo : ∀ q : Nat, q < 70 → fo (70 * lN + q) = b2R (cho (nbF mi) (cnL (cN lN)) (cN q))) : cx_Ct 3 50 [.inr (.inl 43), .inl (.int x), .inl (.int y), .inl (.int n)] ([(43, .inl (4, [.inr (.inl 2), .inr (.inl 44), .inr (.inl 45), .inr (.inl 46), .inr (.inl 47), .inr (.inl 48), .inr (.inl 49), .inr (.inl 50), .inr (.inl 57), .inr (.inl 58), .inr (.inl 66), .inr (.inl 67), .inl (.int g), .inl (.int fk), .inl (.int pf), .inl (.int pt), .inl (.int pr)])), (44, .inr (.inl (0, 4, mi))), (45, .inr (.inl (0, 70, cd))), (47, .inr (.inl (0, 625, sp))), (48, .inr (.inl (0, 280, th))), (49, .inr (.inl (2, 4900, fo)))]) (fun v h2 => ∃ z : Int32, v = some (.inl (.int z)) ∧ h2 = [(43, .inl (4, [.inr (.inl 2), .inr (.inl 44), .inr (.inl 45), .inr (.inl 46), .inr (.inl 47), .inr (.inl 48), .inr (.inl 49), .inr (.inl 50), .inr (.inl 57), .inr (.inl 58), .inr (.inl 66), .inr (.inl 67), .inl (.int g), .inl (.int fk), .inl (.int pf), .inl (.int pt), .inl (.int pr)])), (44, .inr (.inl (0, 4, mi))), (45, .inr (.inl (0, 70, cd))), (47, .inr (.inl (0, 625, sp))), (48, .inr (.inl (0, 280, th))), (49, .inr (.inl (2, 4900, fo)))] ∧ ((z = Int32.ofInt 1 ∧ (∃ to, oQ mi bN lN nN to)) ∨ (z = Int32.ofInt 0 ∧ ¬ ∃ to, oQ mi bN lN nN to))) := by
  have kc0 : (Int32.ofInt 0).toInt = 0 := by decide +kernel
  have kc4 : (Int32.ofInt 4).toInt = 4 := by decide +kernel
  have kc70 : (Int32.ofInt 70).toInt = 70 := by decide +kernel
  have kc1 : (Int32.ofInt 1).toInt = 1 := by decide +kernel
  refine cx_Ct.of cg_50 (nL := 5) rfl rfl rfl ?_
  show cx_T 3 50 [43, 44, 45, 47, 48, 49] 0 ([some (.inr (.inl 43)), some (.inl (.int x)), some (.inl (.int y)), some (.inl (.int n)), none], [], ([(43, .inl (4, [.inr (.inl 2), .inr (.inl 44), .inr (.inl 45), .inr (.inl 46), .inr (.inl 47), .inr (.inl 48), .inr (.inl 49), .inr (.inl 50), .inr (.inl 57), .inr (.inl 58), .inr (.inl 66), .inr (.inl 67), .inl (.int g), .inl (.int fk), .inl (.int pf), .inl (.int pt), .inl (.int pr)])), (44, .inr (.inl (0, 4, mi))), (45, .inr (.inl (0, 70, cd))), (47, .inr (.inl (0, 625, sp))), (48, .inr (.inl (0, 280, th))), (49, .inr (.inl (2, 4900, fo)))])) _
  refine ex_iconst cg_50 (ix := 0) (pc' := 1) rfl rfl ?_
  refine ex_istore cg_50 (ix := 1) (pc' := 3) (L' := [some (.inr (.inl 43)), some (.inl (.int x)), some (.inl (.int y)), some (.inl (.int n)), some (.inl (.int (Int32.ofInt 0)))]) rfl rfl rfl rfl ?_
  exact om_loop (g := g) (fk := fk) (pf := pf) (pt := pt) (pr := pr) (mi := mi) (cd := cd) (sp := sp) (th := th) (fo := fo) (x := x) (y := y) (n := n) (lN := lN) (bN := bN) (nN := nN) hth hcd hsp hmi hx hl hy hb hn hn70 hfo (P := fun v h2 => ∃ z : Int32, v = some (.inl (.int z)) ∧ h2 = [(43, .inl (4, [.inr (.inl 2), .inr (.inl 44), .inr (.inl 45), .inr (.inl 46), .inr (.inl 47), .inr (.inl 48), .inr (.inl 49), .inr (.inl 50), .inr (.inl 57), .inr (.inl 58), .inr (.inl 66), .inr (.inl 67), .inl (.int g), .inl (.int fk), .inl (.int pf), .inl (.int pt), .inl (.int pr)])), (44, .inr (.inl (0, 4, mi))), (45, .inr (.inl (0, 70, cd))), (47, .inr (.inl (0, 625, sp))), (48, .inr (.inl (0, 280, th))), (49, .inr (.inl (2, 4900, fo)))] ∧ ((z = Int32.ofInt 1 ∧ (∃ to, oQ mi bN lN nN to)) ∨ (z = Int32.ofInt 0 ∧ ¬ ∃ to, oQ mi bN lN nN to))) (fun z hz => ⟨z, rfl, rfl, hz⟩) 4 0 (by omega) (Int32.ofInt 0) (by decide +kernel) (fun q hq => absurd hq (Nat.not_lt_zero q))
theorem fi_loop {g fk pf pt pr : Int32} {mi cd sz sp th : Nat → Int32} {fo : Nat → Int32} {y b l : Int32} {sN bN lN : Nat} {P : Option cx_V → cx_H → Prop} (hth : thH th) (hcd : cdH cd) (hsz : szH sz) (hsp : spH sp) (hmi : miH mi) (hy : y.toInt = (sN : Int)) (hs70 : sN < 70) (hb : b.toInt = (bN : Int)) (hb4 : bN < 4) (hl : l.toInt = (lN : Int)) (hls : lN < sN) (hrow : ∀ q : Nat, q < 70 → fo (70 * lN + q) = b2R (cho (nbF mi) (cnL (cN lN)) (cN q))) (hstep : ∀ q : Nat, q < 70 → (cho (nbF mi) (cnL (cN sN)) (cN q) ↔ (cho (nbF mi) (cnL (cN lN)) (cN q) ∨ ∃ to, oQ mi bN lN q to))) (hP : ∀ (fx : Nat → Int32) (i : Int32), (∀ q : Nat, q < 70 → fx (70 * sN + q) = b2R (cho (nbF mi) (cnL (cN sN)) (cN q))) → (∀ j : Nat, ¬ (70 * sN ≤ j ∧ j < 70 * sN + 70) → fx j = fo j) →  cx_T 4 48 [43, 44, 45, 46, 47, 48, 49] 122 ([some (.inr (.inl 43)), some (.inl (.int y)), some (.inl (.int b)), some (.inl (.int l)), some (.inl (.int i))], [], [(43, .inl (4, [.inr (.inl 2), .inr (.inl 44), .inr (.inl 45), .inr (.inl 46), .inr (.inl 47), .inr (.inl 48), .inr (.inl 49), .inr (.inl 50), .inr (.inl 57), .inr (.inl 58), .inr (.inl 66), .inr (.inl 67), .inl (.int g), .inl (.int fk), .inl (.int pf), .inl (.int pt), .inl (.int pr)])), (44, .inr (.inl (0, 4, mi))), (45, .inr (.inl (0, 70, cd))), (46, .inr (.inl (0, 70, sz))), (47, .inr (.inl (0, 625, sp))), (48, .inr (.inl (0, 280, th))), (49, .inr (.inl (2, 4900, fx)))]) P) :
    ∀ (m k : Nat), k + m = 70 → ∀ i : Int32, i.toInt = (k : Int) → ∀ (fx : Nat → Int32), (∀ q : Nat, q < k → fx (70 * sN + q) = b2R (cho (nbF mi) (cnL (cN sN)) (cN q))) → (∀ j : Nat, ¬ (70 * sN ≤ j ∧ j < 70 * sN + 70) → fx j = fo j) → cx_T 4 48 [43, 44, 45, 46, 47, 48, 49] 50 ([some (.inr (.inl 43)), some (.inl (.int y)), some (.inl (.int b)), some (.inl (.int l)), some (.inl (.int i))], [], [(43, .inl (4, [.inr (.inl 2), .inr (.inl 44), .inr (.inl 45), .inr (.inl 46), .inr (.inl 47), .inr (.inl 48), .inr (.inl 49), .inr (.inl 50), .inr (.inl 57), .inr (.inl 58), .inr (.inl 66), .inr (.inl 67), .inl (.int g), .inl (.int fk), .inl (.int pf), .inl (.int pt), .inl (.int pr)])), (44, .inr (.inl (0, 4, mi))), (45, .inr (.inl (0, 70, cd))), (46, .inr (.inl (0, 70, sz))), (47, .inr (.inl (0, 625, sp))), (48, .inr (.inl (0, 280, th))), (49, .inr (.inl (2, 4900, fx)))]) P := by
  have kc0 : (Int32.ofInt 0).toInt = 0 := by decide +kernel
  have kc1 : (Int32.ofInt 1).toInt = 1 := by decide +kernel
  have kc70 : (Int32.ofInt 70).toInt = 70 := by decide +kernel
  intro m
  induction m with
  | zero =>
    intro k hk i hi fx hx1 hx2
    have ek : k = 70 := by omega
    refine ex_iload cg_48 (ix := 32) (pc' := 52) rfl rfl rfl ?_
    refine ex_bipush cg_48 (ix := 33) (pc' := 54) rfl rfl rfl ?_
    refine ex_icmp cg_48 (ix := 34) (t := 122) (pc' := 57) rfl rfl rfl (fun hb54 => ?_) (fun hb54 => ?_)
    · have hb54 : (Int32.ofInt 70).toInt ≤ i.toInt := hb54
      rw [ek] at hx1
      exact hP fx i hx1 hx2
    · have hb54 : ¬ ((Int32.ofInt 70).toInt ≤ i.toInt) := hb54
      exfalso; first | omega | exact absurd hb54 (by decide +kernel)
  | succ m ih =>
    intro k hk i hi fx hx1 hx2
    have hik : i.toNatClampNeg = k := cx_clamp hi
    have hy0 : (y * Int32.ofInt 70).toInt = 70 * y.toInt := cx_mulk2 kc70 (by omega) (by omega)
    have hl0 : (l * Int32.ofInt 70).toInt = 70 * l.toInt := cx_mulk2 kc70 (by omega) (by omega)
    have hix : (y * Int32.ofInt 70 + i).toInt = ((70 * sN + k : Nat) : Int) := by
      rw [cx_addc (by omega) (by omega), hy0]
      omega
    have hixc := cx_clamp hix
    have hil : (l * Int32.ofInt 70 + i).toInt = ((70 * lN + k : Nat) : Int) := by
      rw [cx_addc (by omega) (by omega), hl0]
      omega
    have hlv : fx (l * Int32.ofInt 70 + i).toNatClampNeg = b2R (cho (nbF mi) (cnL (cN lN)) (cN k)) := by
      rw [cx_clamp hil, hx2 _ (by omega)]
      exact hrow k (by omega)
    have hz1 : (sz i.toNatClampNeg).toInt = ((szN k : Nat) : Int) := by
      rw [hik]
      exact hsz k (by omega)
    have hz2 : (sz y.toNatClampNeg).toInt = ((szN sN : Nat) : Int) := by
      rw [cx_clamp hy]
      exact hsz sN hs70
    refine ex_iload cg_48 (ix := 32) (pc' := 52) rfl rfl rfl ?_
    refine ex_bipush cg_48 (ix := 33) (pc' := 54) rfl rfl rfl ?_
    refine ex_icmp cg_48 (ix := 34) (t := 122) (pc' := 57) rfl rfl rfl (fun hb54 => ?_) (fun hb54 => ?_)
    · have hb54 : (Int32.ofInt 70).toInt ≤ i.toInt := hb54
      exfalso; first | omega | exact absurd hb54 (by decide +kernel)
    · have hb54 : ¬ ((Int32.ofInt 70).toInt ≤ i.toInt) := hb54
      refine ex_aload_n cg_48 (ix := 35) (pc' := 58) rfl rfl rfl ?_
      refine ex_getfield cg_48 (ix := 36) (pc' := 61) rfl rfl rfl rfl rfl ?_
      refine ex_iload_n cg_48 (ix := 37) (pc' := 62) rfl rfl rfl ?_
      refine ex_bipush cg_48 (ix := 38) (pc' := 64) rfl rfl rfl ?_
      refine ex_imul cg_48 (ix := 39) (pc' := 65) rfl rfl ?_
      refine ex_iload cg_48 (ix := 40) (pc' := 67) rfl rfl rfl ?_
      refine ex_iadd cg_48 (ix := 41) (pc' := 68) rfl rfl ?_
      refine ex_aload_n cg_48 (ix := 42) (pc' := 69) rfl rfl rfl ?_
      refine ex_getfield cg_48 (ix := 43) (pc' := 72) rfl rfl rfl rfl rfl ?_
      refine ex_iload cg_48 (ix := 44) (pc' := 74) rfl rfl rfl ?_
      refine ex_iaload cg_48 (ix := 45) (pc' := 75) rfl rfl (by omega) (by omega) rfl ?_
      refine ex_aload_n cg_48 (ix := 46) (pc' := 76) rfl rfl rfl ?_
      refine ex_getfield cg_48 (ix := 47) (pc' := 79) rfl rfl rfl rfl rfl ?_
      refine ex_iload_n cg_48 (ix := 48) (pc' := 80) rfl rfl rfl ?_
      refine ex_iaload cg_48 (ix := 49) (pc' := 81) rfl rfl (by omega) (by omega) rfl ?_
      refine ex_icmp cg_48 (ix := 50) (t := 114) (pc' := 84) rfl rfl rfl (fun hb81 => ?_) (fun hb81 => ?_)
      · have hb81 : (sz y.toNatClampNeg).toInt < (sz i.toNatClampNeg).toInt := hb81
        refine ex_iconst cg_48 (ix := 68) (pc' := 115) rfl rfl ?_
        refine ex_bastore cg_48 (ix := 69) (pc' := 116) (h' := [(43, .inl (4, [.inr (.inl 2), .inr (.inl 44), .inr (.inl 45), .inr (.inl 46), .inr (.inl 47), .inr (.inl 48), .inr (.inl 49), .inr (.inl 50), .inr (.inl 57), .inr (.inl 58), .inr (.inl 66), .inr (.inl 67), .inl (.int g), .inl (.int fk), .inl (.int pf), .inl (.int pt), .inl (.int pr)])), (44, .inr (.inl (0, 4, mi))), (45, .inr (.inl (0, 70, cd))), (46, .inr (.inl (0, 70, sz))), (47, .inr (.inl (0, 625, sp))), (48, .inr (.inl (0, 280, th))), (49, .inr (.inl (2, 4900, upd fx ((y * (Int32.ofInt 70)) + i).toNatClampNeg (vp_nar .boolean (Int32.ofInt 0)))))]) rfl rfl (by omega) (by omega) rfl rfl ?_
        refine ex_iinc cg_48 (ix := 70) (pc' := 119) (L' := [some (.inr (.inl 43)), some (.inl (.int y)), some (.inl (.int b)), some (.inl (.int l)), some (.inl (.int (i + Int32.ofInt 1)))]) rfl rfl rfl rfl rfl ?_
        refine ex_goto cg_48 (ix := 71) (pc' := 50) rfl rfl ?_
        have hc : ¬ cho (nbF mi) (cnL (cN sN)) (cN k) := fun z => by
          have hsl := cho_sz hs70 (by omega) z
          rcases (hstep k (by omega)).mp z with q | q
          · first
            | omega
            | exact (b2R_0.mp (by rw [← hlv]; exact Classical.byContradiction hb96)) q
          · first
            | omega
            | exact hom q
        have hval : vp_nar .boolean (Int32.ofInt 0) = b2R (cho (nbF mi) (cnL (cN sN)) (cN k)) := by
          rw [b2R_n hc]
          decide +kernel
        refine ih (k + 1) (by omega) _ (by rw [cx_addc (by omega) (by omega)]; omega) _ (fun q hq => ?_) (fun j hj => ?_)
        · rw [hixc]
          unfold upd
          by_cases e : q = k
          · rw [e, if_pos rfl]; exact hval
          · rw [if_neg (by omega)]; exact hx1 q (by omega)
        · rw [hixc]
          unfold upd
          rw [if_neg (by omega)]; exact hx2 j hj
      · have hb81 : ¬ ((sz y.toNatClampNeg).toInt < (sz i.toNatClampNeg).toInt) := hb81
        refine ex_aload_n cg_48 (ix := 51) (pc' := 85) rfl rfl rfl ?_
        refine ex_getfield cg_48 (ix := 52) (pc' := 88) rfl rfl rfl rfl rfl ?_
        refine ex_iload_n cg_48 (ix := 53) (pc' := 89) rfl rfl rfl ?_
        refine ex_bipush cg_48 (ix := 54) (pc' := 91) rfl rfl rfl ?_
        refine ex_imul cg_48 (ix := 55) (pc' := 92) rfl rfl ?_
        refine ex_iload cg_48 (ix := 56) (pc' := 94) rfl rfl rfl ?_
        refine ex_iadd cg_48 (ix := 57) (pc' := 95) rfl rfl ?_
        refine ex_baload cg_48 (ix := 58) (pc' := 96) rfl rfl (by omega) (by omega) rfl ?_
        refine ex_if cg_48 (ix := 59) (t := 110) (pc' := 99) rfl rfl rfl (fun hb96 => ?_) (fun hb96 => ?_)
        · have hb96 : ¬ (fx ((l * (Int32.ofInt 70)) + i).toNatClampNeg).toInt = 0 := hb96
          refine ex_iconst cg_48 (ix := 66) (pc' := 111) rfl rfl ?_
          refine ex_goto cg_48 (ix := 67) (pc' := 115) rfl rfl ?_
          refine ex_bastore cg_48 (ix := 69) (pc' := 116) (h' := [(43, .inl (4, [.inr (.inl 2), .inr (.inl 44), .inr (.inl 45), .inr (.inl 46), .inr (.inl 47), .inr (.inl 48), .inr (.inl 49), .inr (.inl 50), .inr (.inl 57), .inr (.inl 58), .inr (.inl 66), .inr (.inl 67), .inl (.int g), .inl (.int fk), .inl (.int pf), .inl (.int pt), .inl (.int pr)])), (44, .inr (.inl (0, 4, mi))), (45, .inr (.inl (0, 70, cd))), (46, .inr (.inl (0, 70, sz))), (47, .inr (.inl (0, 625, sp))), (48, .inr (.inl (0, 280, th))), (49, .inr (.inl (2, 4900, upd fx ((y * (Int32.ofInt 70)) + i).toNatClampNeg (vp_nar .boolean (Int32.ofInt 1)))))]) rfl rfl (by omega) (by omega) rfl rfl ?_
          refine ex_iinc cg_48 (ix := 70) (pc' := 119) (L' := [some (.inr (.inl 43)), some (.inl (.int y)), some (.inl (.int b)), some (.inl (.int l)), some (.inl (.int (i + Int32.ofInt 1)))]) rfl rfl rfl rfl rfl ?_
          refine ex_goto cg_48 (ix := 71) (pc' := 50) rfl rfl ?_
          have hc : cho (nbF mi) (cnL (cN sN)) (cN k) := (hstep k (by omega)).mpr (by
            first
            | exact Or.inr hom
            | exact Or.inl (Classical.byContradiction (fun q => hb96 (by rw [hlv]; exact b2R_0.mpr q))))
          have hval : vp_nar .boolean (Int32.ofInt 1) = b2R (cho (nbF mi) (cnL (cN sN)) (cN k)) := by
            rw [b2R_y hc]
            decide +kernel
          refine ih (k + 1) (by omega) _ (by rw [cx_addc (by omega) (by omega)]; omega) _ (fun q hq => ?_) (fun j hj => ?_)
          · rw [hixc]
            unfold upd
            by_cases e : q = k
            · rw [e, if_pos rfl]; exact hval
            · rw [if_neg (by omega)]; exact hx1 q (by omega)
          · rw [hixc]
            unfold upd
            rw [if_neg (by omega)]; exact hx2 j hj
        · have hb96 : ¬ (¬ (fx ((l * (Int32.ofInt 70)) + i).toNatClampNeg).toInt = 0) := hb96
          refine ex_aload_n cg_48 (ix := 60) (pc' := 100) rfl rfl rfl ?_
          refine ex_iload_n cg_48 (ix := 61) (pc' := 101) rfl rfl rfl ?_
          refine ex_iload_n cg_48 (ix := 62) (pc' := 102) rfl rfl rfl ?_
          refine ex_iload cg_48 (ix := 63) (pc' := 104) rfl rfl rfl ?_
          refine ex_callV cg_48 (ix := 64) (pc' := 107) (As := [.inl (.int l), .inl (.int b), .inl (.int i)]) (r := [.inl (.int ((y * (Int32.ofInt 70)) + i)), .inr (.inl 49)]) rfl rfl rfl (ct_om (g := g) (fk := fk) (pf := pf) (pt := pt) (pr := pr) (mi := mi) (cd := cd) (sp := sp) (th := th) (fo := fx) (x := l) (y := b) (n := i) (lN := lN) (bN := bN) (nN := k) hth hcd hsp hmi hl (by omega) hb hb4 hi (by omega) (fun q hq => by rw [hx2 _ (by omega)]; exact hrow q hq)) (by first | decide | omega) rfl rfl rfl ⟨rfl, rfl, rfl, rfl, rfl, rfl, trivial⟩ rfl rfl (fun v h2 hq => ?_)
          obtain ⟨z2, rfl, rfl, hz3⟩ := hq
          rcases hz3 with ⟨rfl, hom⟩ | ⟨rfl, hom⟩
          · show cx_T _ 48 _ 107 ([some (.inr (.inl 43)), some (.inl (.int y)), some (.inl (.int b)), some (.inl (.int l)), some (.inl (.int i))], [.inl (.int (Int32.ofInt 1)), .inl (.int ((y * (Int32.ofInt 70)) + i)), .inr (.inl 49)], [(43, .inl (4, [.inr (.inl 2), .inr (.inl 44), .inr (.inl 45), .inr (.inl 46), .inr (.inl 47), .inr (.inl 48), .inr (.inl 49), .inr (.inl 50), .inr (.inl 57), .inr (.inl 58), .inr (.inl 66), .inr (.inl 67), .inl (.int g), .inl (.int fk), .inl (.int pf), .inl (.int pt), .inl (.int pr)])), (44, .inr (.inl (0, 4, mi))), (45, .inr (.inl (0, 70, cd))), (46, .inr (.inl (0, 70, sz))), (47, .inr (.inl (0, 625, sp))), (48, .inr (.inl (0, 280, th))), (49, .inr (.inl (2, 4900, fx)))]) _
            refine ex_if cg_48 (ix := 65) (t := 114) (pc' := 110) rfl rfl rfl (fun hb107 => ?_) (fun hb107 => ?_)
            · have hb107 : (Int32.ofInt 1).toInt = 0 := hb107
              exfalso; first | omega | exact absurd hb107 (by decide +kernel)
            · have hb107 : ¬ ((Int32.ofInt 1).toInt = 0) := hb107
              refine ex_iconst cg_48 (ix := 66) (pc' := 111) rfl rfl ?_
              refine ex_goto cg_48 (ix := 67) (pc' := 115) rfl rfl ?_
              refine ex_bastore cg_48 (ix := 69) (pc' := 116) (h' := [(43, .inl (4, [.inr (.inl 2), .inr (.inl 44), .inr (.inl 45), .inr (.inl 46), .inr (.inl 47), .inr (.inl 48), .inr (.inl 49), .inr (.inl 50), .inr (.inl 57), .inr (.inl 58), .inr (.inl 66), .inr (.inl 67), .inl (.int g), .inl (.int fk), .inl (.int pf), .inl (.int pt), .inl (.int pr)])), (44, .inr (.inl (0, 4, mi))), (45, .inr (.inl (0, 70, cd))), (46, .inr (.inl (0, 70, sz))), (47, .inr (.inl (0, 625, sp))), (48, .inr (.inl (0, 280, th))), (49, .inr (.inl (2, 4900, upd fx ((y * (Int32.ofInt 70)) + i).toNatClampNeg (vp_nar .boolean (Int32.ofInt 1)))))]) rfl rfl (by omega) (by omega) rfl rfl ?_
              refine ex_iinc cg_48 (ix := 70) (pc' := 119) (L' := [some (.inr (.inl 43)), some (.inl (.int y)), some (.inl (.int b)), some (.inl (.int l)), some (.inl (.int (i + Int32.ofInt 1)))]) rfl rfl rfl rfl rfl ?_
              refine ex_goto cg_48 (ix := 71) (pc' := 50) rfl rfl ?_
              have hc : cho (nbF mi) (cnL (cN sN)) (cN k) := (hstep k (by omega)).mpr (by
                first
                | exact Or.inr hom
                | exact Or.inl (Classical.byContradiction (fun q => hb96 (by rw [hlv]; exact b2R_0.mpr q))))
              have hval : vp_nar .boolean (Int32.ofInt 1) = b2R (cho (nbF mi) (cnL (cN sN)) (cN k)) := by
                rw [b2R_y hc]
                decide +kernel
              refine ih (k + 1) (by omega) _ (by rw [cx_addc (by omega) (by omega)]; omega) _ (fun q hq => ?_) (fun j hj => ?_)
              · rw [hixc]
                unfold upd
                by_cases e : q = k
                · rw [e, if_pos rfl]; exact hval
                · rw [if_neg (by omega)]; exact hx1 q (by omega)
              · rw [hixc]
                unfold upd
                rw [if_neg (by omega)]; exact hx2 j hj
          · show cx_T _ 48 _ 107 ([some (.inr (.inl 43)), some (.inl (.int y)), some (.inl (.int b)), some (.inl (.int l)), some (.inl (.int i))], [.inl (.int (Int32.ofInt 0)), .inl (.int ((y * (Int32.ofInt 70)) + i)), .inr (.inl 49)], [(43, .inl (4, [.inr (.inl 2), .inr (.inl 44), .inr (.inl 45), .inr (.inl 46), .inr (.inl 47), .inr (.inl 48), .inr (.inl 49), .inr (.inl 50), .inr (.inl 57), .inr (.inl 58), .inr (.inl 66), .inr (.inl 67), .inl (.int g), .inl (.int fk), .inl (.int pf), .inl (.int pt), .inl (.int pr)])), (44, .inr (.inl (0, 4, mi))), (45, .inr (.inl (0, 70, cd))), (46, .inr (.inl (0, 70, sz))), (47, .inr (.inl (0, 625, sp))), (48, .inr (.inl (0, 280, th))), (49, .inr (.inl (2, 4900, fx)))]) _
            refine ex_if cg_48 (ix := 65) (t := 114) (pc' := 110) rfl rfl rfl (fun hb107 => ?_) (fun hb107 => ?_)
            · have hb107 : (Int32.ofInt 0).toInt = 0 := hb107
              refine ex_iconst cg_48 (ix := 68) (pc' := 115) rfl rfl ?_
              refine ex_bastore cg_48 (ix := 69) (pc' := 116) (h' := [(43, .inl (4, [.inr (.inl 2), .inr (.inl 44), .inr (.inl 45), .inr (.inl 46), .inr (.inl 47), .inr (.inl 48), .inr (.inl 49), .inr (.inl 50), .inr (.inl 57), .inr (.inl 58), .inr (.inl 66), .inr (.inl 67), .inl (.int g), .inl (.int fk), .inl (.int pf), .inl (.int pt), .inl (.int pr)])), (44, .inr (.inl (0, 4, mi))), (45, .inr (.inl (0, 70, cd))), (46, .inr (.inl (0, 70, sz))), (47, .inr (.inl (0, 625, sp))), (48, .inr (.inl (0, 280, th))), (49, .inr (.inl (2, 4900, upd fx ((y * (Int32.ofInt 70)) + i).toNatClampNeg (vp_nar .boolean (Int32.ofInt 0)))))]) rfl rfl (by omega) (by omega) rfl rfl ?_
              refine ex_iinc cg_48 (ix := 70) (pc' := 119) (L' := [some (.inr (.inl 43)), some (.inl (.int y)), some (.inl (.int b)), some (.inl (.int l)), some (.inl (.int (i + Int32.ofInt 1)))]) rfl rfl rfl rfl rfl ?_
              refine ex_goto cg_48 (ix := 71) (pc' := 50) rfl rfl ?_
              have hc : ¬ cho (nbF mi) (cnL (cN sN)) (cN k) := fun z => by
                have hsl := cho_sz hs70 (by omega) z
                rcases (hstep k (by omega)).mp z with q | q
                · first
                  | omega
                  | exact (b2R_0.mp (by rw [← hlv]; exact Classical.byContradiction hb96)) q
                · first
                  | omega
                  | exact hom q
              have hval : vp_nar .boolean (Int32.ofInt 0) = b2R (cho (nbF mi) (cnL (cN sN)) (cN k)) := by
                rw [b2R_n hc]
                decide +kernel
              refine ih (k + 1) (by omega) _ (by rw [cx_addc (by omega) (by omega)]; omega) _ (fun q hq => ?_) (fun j hj => ?_)
              · rw [hixc]
                unfold upd
                by_cases e : q = k
                · rw [e, if_pos rfl]; exact hval
                · rw [if_neg (by omega)]; exact hx1 q (by omega)
              · rw [hixc]
                unfold upd
                rw [if_neg (by omega)]; exact hx2 j hj
            · have hb107 : ¬ ((Int32.ofInt 0).toInt = 0) := hb107
              exfalso; first | omega | exact absurd hb107 (by decide +kernel)
theorem fo_loop {g fk pf pt pr : Int32} {mi cd sz sp th : Nat → Int32} {P : Option cx_V → cx_H → Prop} (hth : thH th) (hcd : cdH cd) (hsz : szH sz) (hsp : spH sp) (hmi : miH mi) (hP : ∀ fo : Nat → Int32, (∀ s q : Nat, s < 70 → q < 70 → fo (70 * s + q) = b2R (cho (nbF mi) (cnL (cN s)) (cN q))) →  P none ([(43, .inl (4, [.inr (.inl 2), .inr (.inl 44), .inr (.inl 45), .inr (.inl 46), .inr (.inl 47), .inr (.inl 48), .inr (.inl 49), .inr (.inl 50), .inr (.inl 57), .inr (.inl 58), .inr (.inl 66), .inr (.inl 67), .inl (.int g), .inl (.int (Int32.ofInt 1)), .inl (.int pf), .inl (.int pt), .inl (.int pr)])), (44, .inr (.inl (0, 4, mi))), (45, .inr (.inl (0, 70, cd))), (46, .inr (.inl (0, 70, sz))), (47, .inr (.inl (0, 625, sp))), (48, .inr (.inl (0, 280, th))), (49, .inr (.inl (2, 4900, fo)))])) :
    ∀ (m k : Nat), k + m = 70 → ∀ i : Int32, i.toInt = (k : Int) → ∀ (fo : Nat → Int32) (A B C : Option cx_V), 1 ≤ k → (∀ s q : Nat, s < k → q < 70 → fo (70 * s + q) = b2R (cho (nbF mi) (cnL (cN s)) (cN q))) → cx_T 4 48 [43, 44, 45, 46, 47, 48, 49] 17 ([some (.inr (.inl 43)), some (.inl (.int i)), A, B, C], [], [(43, .inl (4, [.inr (.inl 2), .inr (.inl 44), .inr (.inl 45), .inr (.inl 46), .inr (.inl 47), .inr (.inl 48), .inr (.inl 49), .inr (.inl 50), .inr (.inl 57), .inr (.inl 58), .inr (.inl 66), .inr (.inl 67), .inl (.int g), .inl (.int fk), .inl (.int pf), .inl (.int pt), .inl (.int pr)])), (44, .inr (.inl (0, 4, mi))), (45, .inr (.inl (0, 70, cd))), (46, .inr (.inl (0, 70, sz))), (47, .inr (.inl (0, 625, sp))), (48, .inr (.inl (0, 280, th))), (49, .inr (.inl (2, 4900, fo)))]) P := by
  have kc0 : (Int32.ofInt 0).toInt = 0 := by decide +kernel
  have kc1 : (Int32.ofInt 1).toInt = 1 := by decide +kernel
  have kc70 : (Int32.ofInt 70).toInt = 70 := by decide +kernel
  intro m
  induction m with
  | zero =>
    intro k hk i hi fo A B C hk1 hfo
    have ek : k = 70 := by omega
    refine ex_iload_n cg_48 (ix := 11) (pc' := 18) rfl rfl rfl ?_
    refine ex_bipush cg_48 (ix := 12) (pc' := 20) rfl rfl rfl ?_
    refine ex_icmp cg_48 (ix := 13) (t := 128) (pc' := 23) rfl rfl rfl (fun hb20 => ?_) (fun hb20 => ?_)
    · have hb20 : (Int32.ofInt 70).toInt ≤ i.toInt := hb20
      refine ex_aload_n cg_48 (ix := 74) (pc' := 129) rfl rfl rfl ?_
      refine ex_iconst cg_48 (ix := 75) (pc' := 130) rfl rfl ?_
      refine ex_putfield cg_48 (ix := 76) (pc' := 133) (h' := [(43, .inl (4, [.inr (.inl 2), .inr (.inl 44), .inr (.inl 45), .inr (.inl 46), .inr (.inl 47), .inr (.inl 48), .inr (.inl 49), .inr (.inl 50), .inr (.inl 57), .inr (.inl 58), .inr (.inl 66), .inr (.inl 67), .inl (.int g), .inl (.int (Int32.ofInt 1)), .inl (.int pf), .inl (.int pt), .inl (.int pr)])), (44, .inr (.inl (0, 4, mi))), (45, .inr (.inl (0, 70, cd))), (46, .inr (.inl (0, 70, sz))), (47, .inr (.inl (0, 625, sp))), (48, .inr (.inl (0, 280, th))), (49, .inr (.inl (2, 4900, fo)))]) rfl rfl rfl rfl rfl rfl rfl rfl ?_
      refine ex_return_ cg_48 (ix := 77) rfl ?_
      rw [ek] at hfo
      exact hP fo hfo
    · have hb20 : ¬ ((Int32.ofInt 70).toInt ≤ i.toInt) := hb20
      exfalso; first | omega | exact absurd hb20 (by decide +kernel)
  | succ m ih =>
    intro k hk i hi fo A B C hk1 hfo
    have hik : i.toNatClampNeg = k := cx_clamp hi
    refine ex_iload_n cg_48 (ix := 11) (pc' := 18) rfl rfl rfl ?_
    refine ex_bipush cg_48 (ix := 12) (pc' := 20) rfl rfl rfl ?_
    refine ex_icmp cg_48 (ix := 13) (t := 128) (pc' := 23) rfl rfl rfl (fun hb20 => ?_) (fun hb20 => ?_)
    · have hb20 : (Int32.ofInt 70).toInt ≤ i.toInt := hb20
      exfalso; first | omega | exact absurd hb20 (by decide +kernel)
    · have hb20 : ¬ ((Int32.ofInt 70).toInt ≤ i.toInt) := hb20
      refine ex_aload_n cg_48 (ix := 14) (pc' := 24) rfl rfl rfl ?_
      refine ex_iload_n cg_48 (ix := 15) (pc' := 25) rfl rfl rfl ?_
      refine ex_callV cg_48 (ix := 16) (pc' := 28) (As := [.inl (.int i)]) (r := []) rfl rfl rfl (ct_fbc (g := g) (fk := fk) (pf := pf) (pt := pt) (pr := pr) (th := th) (x := i) (sN := k) hth hi (by omega) (by omega)) (by first | decide | omega) rfl rfl rfl ⟨rfl, rfl, trivial⟩ rfl rfl (fun v h2 hq => ?_)
      obtain ⟨z, bN, rfl, rfl, hz, hb4, hbp, hb0⟩ := hq
      show cx_T _ 48 _ 28 ([some (.inr (.inl 43)), some (.inl (.int i)), A, B, C], [.inl (.int z)], [(43, .inl (4, [.inr (.inl 2), .inr (.inl 44), .inr (.inl 45), .inr (.inl 46), .inr (.inl 47), .inr (.inl 48), .inr (.inl 49), .inr (.inl 50), .inr (.inl 57), .inr (.inl 58), .inr (.inl 66), .inr (.inl 67), .inl (.int g), .inl (.int fk), .inl (.int pf), .inl (.int pt), .inl (.int pr)])), (44, .inr (.inl (0, 4, mi))), (45, .inr (.inl (0, 70, cd))), (46, .inr (.inl (0, 70, sz))), (47, .inr (.inl (0, 625, sp))), (48, .inr (.inl (0, 280, th))), (49, .inr (.inl (2, 4900, fo)))]) _
      refine ex_istore_n cg_48 (ix := 17) (pc' := 29) (L' := [some (.inr (.inl 43)), some (.inl (.int i)), some (.inl (.int z)), B, C]) rfl rfl rfl rfl ?_
      have hd := sp_dec (n := k) (to := bN) (by omega) hb4 hbp
      have hlt := (sp_5 (show k < 70 by omega)).2.2 bN hb4 hbp
      have hcv : (cd i.toNatClampNeg).toInt = ((cdN k : Nat) : Int) := by
        rw [cx_clamp hi]
        exact hcd _ (show k < 70 by omega)
      have hov : (cOne z.toNatClampNeg).toInt = ((p5 bN : Nat) : Int) := by
        rw [cx_clamp hz]
        exact cOne_v hb4
      have hc5 := (sp_5 (show k < 70 by omega)).2.1
      have hsv : (cd i.toNatClampNeg - cOne z.toNatClampNeg).toInt = ((cdN k - p5 bN : Nat) : Int) := by
        rw [cx_subc (by omega) (by omega)]
        omega
      have hscl := cx_clamp hsv
      have hspv : (sp (cd i.toNatClampNeg - cOne z.toNatClampNeg).toNatClampNeg).toInt = ((spN (cdN k - p5 bN) : Nat) : Int) := by
        rw [hscl]
        exact hsp _ hd.1
      refine ex_aload_n cg_48 (ix := 18) (pc' := 30) rfl rfl rfl ?_
      refine ex_getfield cg_48 (ix := 19) (pc' := 33) rfl rfl rfl rfl rfl ?_
      refine ex_aload_n cg_48 (ix := 20) (pc' := 34) rfl rfl rfl ?_
      refine ex_getfield cg_48 (ix := 21) (pc' := 37) rfl rfl rfl rfl rfl ?_
      refine ex_iload_n cg_48 (ix := 22) (pc' := 38) rfl rfl rfl ?_
      refine ex_iaload cg_48 (ix := 23) (pc' := 39) rfl rfl (by omega) (by omega) rfl ?_
      refine ex_getstatic cg_48 (ix := 24) (pc' := 42) rfl rfl rfl ?_
      refine ex_iload_n cg_48 (ix := 25) (pc' := 43) rfl rfl rfl ?_
      refine ex_sload cg_48 (ix := 26) (pc' := 44) rfl (by omega) (by omega) rfl ?_
      refine ex_isub cg_48 (ix := 27) (pc' := 45) rfl rfl ?_
      refine ex_iaload cg_48 (ix := 28) (pc' := 46) rfl rfl (by omega) (by omega) rfl ?_
      refine ex_istore_n cg_48 (ix := 29) (pc' := 47) (L' := [some (.inr (.inl 43)), some (.inl (.int i)), some (.inl (.int z)), some (.inl (.int (sp ((cd i.toNatClampNeg) - (cOne z.toNatClampNeg)).toNatClampNeg))), C]) rfl rfl rfl rfl ?_
      refine ex_iconst cg_48 (ix := 30) (pc' := 48) rfl rfl ?_
      refine ex_istore cg_48 (ix := 31) (pc' := 50) (L' := [some (.inr (.inl 43)), some (.inl (.int i)), some (.inl (.int z)), some (.inl (.int (sp ((cd i.toNatClampNeg) - (cOne z.toNatClampNeg)).toNatClampNeg))), some (.inl (.int (Int32.ofInt 0)))]) rfl rfl rfl rfl ?_
      refine fi_loop (g := g) (fk := fk) (pf := pf) (pt := pt) (pr := pr) (mi := mi) (cd := cd) (sz := sz) (sp := sp) (th := th) (fo := fo) (y := i) (b := z) (l := sp (cd i.toNatClampNeg - cOne z.toNatClampNeg).toNatClampNeg) (sN := k) (bN := bN) (lN := spN (cdN k - p5 bN)) hth hcd hsz hsp hmi hi (by omega) hz hb4 hspv hlt (fun q hq => hfo _ q hlt hq) (fun q hq => cho_fb hb4 hbp hb0 hd.2.2.2) (P := P) (fun fx i2 hf1 hf2 => ?_) 70 0 (by omega) (Int32.ofInt 0) (by decide +kernel) fo (fun q hq => absurd hq (Nat.not_lt_zero q)) (fun _ _ => rfl)
      refine ex_iinc cg_48 (ix := 72) (pc' := 125) (L' := [some (.inr (.inl 43)), some (.inl (.int (i + Int32.ofInt 1))), some (.inl (.int z)), some (.inl (.int (sp (cd i.toNatClampNeg - cOne z.toNatClampNeg).toNatClampNeg))), some (.inl (.int i2))]) rfl rfl rfl rfl rfl ?_
      refine ex_goto cg_48 (ix := 73) (pc' := 17) rfl rfl ?_
      exact ih (k + 1) (by omega) _ (by rw [cx_addc (by omega) (by omega)]; omega) fx _ _ _ (by omega) (fun s q hs hq => by
        by_cases e : s = k
        · rw [e]; exact hf1 q hq
        · rw [hf2 _ (by omega)]; exact hfo s q (by omega) hq)
/-- the table of those who may go on -/
def tbH (mi fo : Nat → Int32) : Prop := ∀ s q : Nat, s < 70 → q < 70 → fo (70 * s + q) = b2R (cho (nbF mi) (cnL (cN s)) (cN q))
theorem ct_ff {g fk pf pt pr : Int32} {mi cd sz sp th : Nat → Int32} {fo : Nat → Int32} (hth : thH th) (hcd : cdH cd) (hsz : szH sz) (hsp : spH sp) (hmi : miH mi) (hfk : ¬ fk.toInt = 0 → tbH mi fo) (h00 : ∀ q : Nat, 1 ≤ q → q < 70 → fo q = Int32.ofInt 0) : cx_Ct 4 48 [.inr (.inl 43)] ([(43, .inl (4, [.inr (.inl 2), .inr (.inl 44), .inr (.inl 45), .inr (.inl 46), .inr (.inl 47), .inr (.inl 48), .inr (.inl 49), .inr (.inl 50), .inr (.inl 57), .inr (.inl 58), .inr (.inl 66), .inr (.inl 67), .inl (.int g), .inl (.int fk), .inl (.int pf), .inl (.int pt), .inl (.int pr)])), (44, .inr (.inl (0, 4, mi))), (45, .inr (.inl (0, 70, cd))), (46, .inr (.inl (0, 70, sz))), (47, .inr (.inl (0, 625, sp))), (48, .inr (.inl (0, 280, th))), (49, .inr (.inl (2, 4900, fo)))]) (fun v h2 => v = none ∧ ∃ (fo2 : Nat → Int32) (fk2 : Int32), h2 = [(43, .inl (4, [.inr (.inl 2), .inr (.inl 44), .inr (.inl 45), .inr (.inl 46), .inr (.inl 47), .inr (.inl 48), .inr (.inl 49), .inr (.inl 50), .inr (.inl 57), .inr (.inl 58), .inr (.inl 66), .inr (.inl 67), .inl (.int g), .inl (.int fk2), .inl (.int pf), .inl (.int pt), .inl (.int pr)])), (44, .inr (.inl (0, 4, mi))), (45, .inr (.inl (0, 70, cd))), (46, .inr (.inl (0, 70, sz))), (47, .inr (.inl (0, 625, sp))), (48, .inr (.inl (0, 280, th))), (49, .inr (.inl (2, 4900, fo2)))] ∧ (fk2 = fk ∨ fk2 = Int32.ofInt 1) ∧ ¬ fk2.toInt = 0 ∧ tbH mi fo2) := by
  have kc0 : (Int32.ofInt 0).toInt = 0 := by decide +kernel
  have kc1 : (Int32.ofInt 1).toInt = 1 := by decide +kernel
  have kc70 : (Int32.ofInt 70).toInt = 70 := by decide +kernel
  refine cx_Ct.of cg_48 (nL := 5) rfl rfl rfl ?_
  show cx_T 4 48 [43, 44, 45, 46, 47, 48, 49] 0 ([some (.inr (.inl 43)), none, none, none, none], [], ([(43, .inl (4, [.inr (.inl 2), .inr (.inl 44), .inr (.inl 45), .inr (.inl 46), .inr (.inl 47), .inr (.inl 48), .inr (.inl 49), .inr (.inl 50), .inr (.inl 57), .inr (.inl 58), .inr (.inl 66), .inr (.inl 67), .inl (.int g), .inl (.int fk), .inl (.int pf), .inl (.int pt), .inl (.int pr)])), (44, .inr (.inl (0, 4, mi))), (45, .inr (.inl (0, 70, cd))), (46, .inr (.inl (0, 70, sz))), (47, .inr (.inl (0, 625, sp))), (48, .inr (.inl (0, 280, th))), (49, .inr (.inl (2, 4900, fo)))])) _
  refine ex_aload_n cg_48 (ix := 0) (pc' := 1) rfl rfl rfl ?_
  refine ex_getfield cg_48 (ix := 1) (pc' := 4) rfl rfl rfl rfl rfl ?_
  refine ex_if cg_48 (ix := 2) (t := 8) (pc' := 7) rfl rfl rfl (fun hb4 => ?_) (fun hb4 => ?_)
  · have hb4 : fk.toInt = 0 := hb4
    refine ex_aload_n cg_48 (ix := 4) (pc' := 9) rfl rfl rfl ?_
    refine ex_getfield cg_48 (ix := 5) (pc' := 12) rfl rfl rfl rfl rfl ?_
    refine ex_iconst cg_48 (ix := 6) (pc' := 13) rfl rfl ?_
    refine ex_iconst cg_48 (ix := 7) (pc' := 14) rfl rfl ?_
    refine ex_bastore cg_48 (ix := 8) (pc' := 15) (h' := [(43, .inl (4, [.inr (.inl 2), .inr (.inl 44), .inr (.inl 45), .inr (.inl 46), .inr (.inl 47), .inr (.inl 48), .inr (.inl 49), .inr (.inl 50), .inr (.inl 57), .inr (.inl 58), .inr (.inl 66), .inr (.inl 67), .inl (.int g), .inl (.int fk), .inl (.int pf), .inl (.int pt), .inl (.int pr)])), (44, .inr (.inl (0, 4, mi))), (45, .inr (.inl (0, 70, cd))), (46, .inr (.inl (0, 70, sz))), (47, .inr (.inl (0, 625, sp))), (48, .inr (.inl (0, 280, th))), (49, .inr (.inl (2, 4900, upd fo (Int32.ofInt 0).toNatClampNeg (vp_nar .boolean (Int32.ofInt 1)))))]) rfl rfl (by omega) (by omega) rfl rfl ?_
    refine ex_iconst cg_48 (ix := 9) (pc' := 16) rfl rfl ?_
    refine ex_istore_n cg_48 (ix := 10) (pc' := 17) (L' := [some (.inr (.inl 43)), some (.inl (.int (Int32.ofInt 1))), none, none, none]) rfl rfl rfl rfl ?_
    refine fo_loop (g := g) (fk := fk) (pf := pf) (pt := pt) (pr := pr) (mi := mi) (cd := cd) (sz := sz) (sp := sp) (th := th) hth hcd hsz hsp hmi (P := fun v h2 => v = none ∧ ∃ (fo2 : Nat → Int32) (fk2 : Int32), h2 = [(43, .inl (4, [.inr (.inl 2), .inr (.inl 44), .inr (.inl 45), .inr (.inl 46), .inr (.inl 47), .inr (.inl 48), .inr (.inl 49), .inr (.inl 50), .inr (.inl 57), .inr (.inl 58), .inr (.inl 66), .inr (.inl 67), .inl (.int g), .inl (.int fk2), .inl (.int pf), .inl (.int pt), .inl (.int pr)])), (44, .inr (.inl (0, 4, mi))), (45, .inr (.inl (0, 70, cd))), (46, .inr (.inl (0, 70, sz))), (47, .inr (.inl (0, 625, sp))), (48, .inr (.inl (0, 280, th))), (49, .inr (.inl (2, 4900, fo2)))] ∧ (fk2 = fk ∨ fk2 = Int32.ofInt 1) ∧ ¬ fk2.toInt = 0 ∧ tbH mi fo2) (fun fo2 h2 => ⟨rfl, fo2, Int32.ofInt 1, rfl, Or.inr rfl, by decide +kernel, h2⟩) 69 1 (by omega) (Int32.ofInt 1) (by decide +kernel) _ none none none (Nat.le_refl _) (fun s q hs hq => ?_)
    have es : s = 0 := by omega
    subst es
    have e0 : (Int32.ofInt 0).toNatClampNeg = 0 := by decide +kernel
    rw [e0]
    unfold upd
    by_cases e : q = 0
    · rw [e, if_pos (by omega), b2R_y ((cho_0 (by omega)).mpr rfl)]
      decide +kernel
    · rw [if_neg (by omega), b2R_n (fun z => e ((cho_0 hq).mp z)), Nat.mul_zero, Nat.zero_add]
      exact h00 q (by omega) hq
  · have hb4 : ¬ (fk.toInt = 0) := hb4
    refine ex_return_ cg_48 (ix := 3) rfl ?_
    exact ⟨rfl, fo, fk, rfl, Or.inl rfl, hb4, hfk hb4⟩
end
