noncomputable section
theorem cg_132 : cx_G 132 tb_132 TbX10 (some .int) := cx_G.of gok_132
theorem cg_195 : cx_G 195 tb_195 TbX11 (some .int) := cx_G.of gok_195
def h_ms (mi : Nat → Int32) (ml : Nat → Int64) (g t s : Nat → Int32) : cx_H := [(119, .inl (11, vs_119 mi ml)), (121, .inr (.inl (0, 96, g))), (122, .inr (.inl (0, 16, t))), (123, .inr (.inl (0, 16, s)))]
def swU (x : Int) : Prop := (0 ≤ x ∧ x ≤ 9) ∨ x = 99
/-- yes or no, as a number -/
def isB (z : Int32) (P : Prop) : Prop := (z = Int32.ofInt 1 ∧ P) ∨ (z = Int32.ofInt 0 ∧ ¬ P)
def AllN (G : Int → Prop) (a : Int) : Nat → Prop
  | 0 => True
  | n + 1 => AllN G a n ∧ G (a + n)
def ExN (G : Int → Prop) (a : Int) : Nat → Prop
  | 0 => False
  | n + 1 => ExN G a n ∨ G (a + n)
theorem AllN_iff {G : Int → Prop} {a : Int} : ∀ n : Nat, AllN G a n ↔ ∀ i : Int, a ≤ i → i < a + n → G i
  | 0 => ⟨fun _ i h1 h2 => by omega, fun _ => trivial⟩
  | n + 1 => by
    rw [AllN, AllN_iff n]
    constructor
    · intro h i h1 h2
      rcases (show i < a + n ∨ i = a + n by omega) with q | q
      · exact h.1 i h1 q
      · rw [q]; exact h.2
    · intro h
      exact ⟨fun i h1 h2 => h i h1 (by omega), h _ (by omega) (by omega)⟩
theorem ExN_iff {G : Int → Prop} {a : Int} : ∀ n : Nat, ExN G a n ↔ ∃ i : Int, a ≤ i ∧ i < a + n ∧ G i
  | 0 => ⟨fun h => h.elim, fun ⟨i, h1, h2, _⟩ => by exfalso; omega⟩
  | n + 1 => by
    rw [ExN, ExN_iff n]
    constructor
    · rintro (⟨i, h1, h2, h3⟩ | h)
      · exact ⟨i, h1, by omega, h3⟩
      · exact ⟨_, by omega, by omega, h⟩
    · rintro ⟨i, h1, h2, h3⟩
      rcases (show i < a + n ∨ i = a + n by omega) with q | q
      · exact Or.inl ⟨i, h1, q, h3⟩
      · exact Or.inr (by rw [← q]; exact h3)
theorem isB_0 {z : Int32} {P : Prop} (h : isB z P) (q : z.toInt = 0) : ¬ P := by
  have k1 : (Int32.ofInt 1).toInt = 1 := by decide +kernel
  rcases h with ⟨rfl, h⟩ | ⟨rfl, h⟩
  · omega
  · exact h
theorem isB_1 {z : Int32} {P : Prop} (h : isB z P) (q : ¬ z.toInt = 0) : P := by
  have k0 : (Int32.ofInt 0).toInt = 0 := by decide +kernel
  rcases h with ⟨rfl, h⟩ | ⟨rfl, h⟩
  · exact h
  · exact absurd k0 q
theorem hg_le {f : Nat → Int32} {c : Nat} {ls sg : Int} (h1 : ls ≤ sg) (h2 : (f c).toInt ≤ hg f c sg) : hg f c sg ≤ hg f c ls := by
  have h3 : ∀ (base : Int) (lo n : Nat), hgF f base lo n ≤ base := fun base lo n => by
    induction n with
    | zero => exact Int.le_refl _
    | succ n ih => rw [hgF]; omega
  have h4 := h3 ((f c).toInt + 4) (c - 1) (min 23 (c + 1) + 1 - (c - 1))
  unfold hg at h2 ⊢
  by_cases a1 : 6 < sg
  · rw [if_pos a1] at h2
    omega
  · rw [if_neg a1] at h2 ⊢
    rw [if_neg (show ¬ 6 < ls by omega)]
    by_cases a2 : sg < 3
    · rw [if_pos a2, if_pos (show ls < 3 by omega)]
      exact Int.le_refl _
    · rw [if_neg a2]
      by_cases a3 : ls < 3
      · rw [if_pos a3]; exact h4
      · rw [if_neg a3]; exact Int.le_refl _
/-- a cell is good by a tide and a swell -/
def gdQ (f : Nat → Int32) (c : Nat) (t sw : Int) : Prop := (f c).toInt ≤ t ∧ t ≤ hg f c sw
theorem sfV_of {f : Nat → Int32} {c : Nat} {lo hi gs ls : Int} {al so : Int32} {NT NS : Nat} (h1 : lo ≤ hi) (h2 : ls ≤ gs) (hT : (NT : Int) = hi - lo + 1) (hS : (NS : Int) = gs - ls + 1) (ha : isB al (AllN (fun t => AllN (gdQ f c t) ls NS) lo NT)) (hs : isB so (ExN (fun t => ExN (gdQ f c t) ls NS) lo NT)) :
    (¬ al.toInt = 0 → sfV f c lo hi gs ls = 2) ∧ (al.toInt = 0 → ¬ so.toInt = 0 → sfV f c lo hi gs ls = 1) ∧ (al.toInt = 0 → so.toInt = 0 → sfV f c lo hi gs ls = 0) := by
  have eA : AllN (fun t => AllN (gdQ f c t) ls NS) lo NT ↔ ((f c).toInt ≤ lo ∧ hi ≤ hg f c gs) := by
    rw [AllN_iff]
    constructor
    · intro h
      have a1 := (AllN_iff NS).mp (h lo (by omega) (by omega)) gs (by omega) (by omega)
      have a2 := (AllN_iff NS).mp (h hi (by omega) (by omega)) gs (by omega) (by omega)
      exact ⟨a1.1, a2.2⟩
    · rintro ⟨a1, a2⟩ t b1 b2
      refine (AllN_iff NS).mpr (fun sg c1 c2 => ⟨by omega, ?_⟩)
      have := hg_le (f := f) (c := c) (ls := sg) (sg := gs) (by omega) (by omega)
      omega
  have eE : ExN (fun t => ExN (gdQ f c t) ls NS) lo NT ↔ max lo (f c).toInt ≤ min hi (hg f c ls) := by
    rw [ExN_iff]
    constructor
    · rintro ⟨t, b1, b2, h⟩
      obtain ⟨sg, c1, c2, d1, d2⟩ := (ExN_iff NS).mp h
      have := hg_le (f := f) (c := c) (ls := ls) (sg := sg) (by omega) (by omega)
      omega
    · intro h
      refine ⟨max lo (f c).toInt, by omega, by omega, (ExN_iff NS).mpr ⟨ls, by omega, by omega, ?_, ?_⟩⟩
      · omega
      · omega
  rw [eA] at ha
  rw [eE] at hs
  unfold sfV
  refine ⟨fun q => by rw [if_pos (isB_1 ha q)], fun q q2 => by rw [if_neg (isB_0 ha q), if_pos (isB_1 hs q2)], fun q q2 => by rw [if_neg (isB_0 ha q), if_neg (isB_0 hs q2)]⟩
theorem isB_a1 {z : Int32} {P Q : Prop} (h : isB z P) (q : ¬ z.toInt = 0) (g : Q) : isB (Int32.ofInt 1) (P ∧ Q) := Or.inl ⟨rfl, isB_1 h q, g⟩
theorem isB_a0 {z : Int32} {P Q : Prop} (h : isB z P) (q : z.toInt = 0) : isB (Int32.ofInt 0) (P ∧ Q) := Or.inr ⟨rfl, fun r => isB_0 h q r.1⟩
theorem isB_an {P Q : Prop} (g : ¬ Q) : isB (Int32.ofInt 0) (P ∧ Q) := Or.inr ⟨rfl, fun r => g r.2⟩
theorem isB_o1 {z : Int32} {P Q : Prop} (h : isB z P) (q : ¬ z.toInt = 0) : isB (Int32.ofInt 1) (P ∨ Q) := Or.inl ⟨rfl, Or.inl (isB_1 h q)⟩
theorem isB_og {P Q : Prop} (g : Q) : isB (Int32.ofInt 1) (P ∨ Q) := Or.inl ⟨rfl, Or.inr g⟩
theorem isB_o0 {z : Int32} {P Q : Prop} (h : isB z P) (q : z.toInt = 0) (g : ¬ Q) : isB (Int32.ofInt 0) (P ∨ Q) := Or.inr ⟨rfl, fun r => r.elim (isB_0 h q) g⟩
theorem sw_b {s : Nat → Int32} (hs : ∀ i : Nat, i < 16 → swU (s i).toInt) : ∀ k : Nat, k ≤ 16 → -1 ≤ (sw_g s k).toInt ∧ (sw_g s k).toInt ≤ 9
  | 0, _ => by
    have k1 : (Int32.ofInt (-1)).toInt = -1 := by decide +kernel
    rw [sw_g]; omega
  | k + 1, hk => by
    have ih := sw_b hs k (by omega)
    have hk2 := hs k (by omega)
    unfold swU at hk2
    rw [sw_g]
    split <;> omega
theorem sx_b {s : Nat → Int32} (hs : ∀ i : Nat, i < 16 → swU (s i).toInt) {k : Nat} (hk : k < 16) : (0 ≤ (sw_x s k).toInt ∧ (sw_x s k).toInt ≤ 9) ∧ 0 ≤ (sw_l s k).toInt ∧ (sw_l s k).toInt ≤ (sw_x s k).toInt := by
  have k9 : (Int32.ofInt 9).toInt = 9 := by decide +kernel
  have k0 : (Int32.ofInt 0).toInt = 0 := by decide +kernel
  have h1 := sw_b hs 16 (by omega)
  have h2 := hs k hk
  unfold swU at h2
  unfold sw_x sw_l
  by_cases q : (s k).toInt = 99
  · rw [if_pos q, if_pos q]
    by_cases q2 : 0 ≤ (sw_g s 16).toInt
    · rw [if_pos q2]; omega
    · rw [if_neg q2]; omega
  · rw [if_neg q, if_neg q]; omega
theorem td_b1 {a b : Int} (ha : tdU a) (hb : tdU b) : -9 ≤ td_lo a b ∧ td_lo a b ≤ td_hi a b ∧ td_hi a b ≤ 9 := by
  unfold tdU at ha hb
  unfold td_lo td_hi
  by_cases q : ¬ a = 99 ∧ ¬ b = 99
  · rw [if_pos q, if_pos q]; omega
  · rw [if_neg q, if_neg q]
    by_cases q2 : a = 99 ∧ b = 99
    · rw [if_pos q2]; omega
    · rw [if_neg q2]; omega
/-- with what stood ahead -/
def AllB (AP : Prop) (G : Int → Prop) (a : Int) : Nat → Prop
  | 0 => AP
  | n + 1 => AllB AP G a n ∧ G (a + n)
def ExB (EP : Prop) (G : Int → Prop) (a : Int) : Nat → Prop
  | 0 => EP
  | n + 1 => ExB EP G a n ∨ G (a + n)
theorem AllB_iff {AP : Prop} {G : Int → Prop} {a : Int} : ∀ n : Nat, AllB AP G a n ↔ AP ∧ AllN G a n
  | 0 => ⟨fun h => ⟨h, trivial⟩, fun h => h.1⟩
  | n + 1 => by rw [AllB, AllB_iff n, AllN, and_assoc]
theorem ExB_iff {EP : Prop} {G : Int → Prop} {a : Int} : ∀ n : Nat, ExB EP G a n ↔ EP ∨ ExN G a n
  | 0 => ⟨fun h => Or.inl h, fun h => h.elim id (fun q => q.elim)⟩
  | n + 1 => by rw [ExB, ExB_iff n, ExN, or_assoc]
theorem isB_iff {z : Int32} {P Q : Prop} (h : isB z P) (e : P ↔ Q) : isB z Q := h.elim (fun q => Or.inl ⟨q.1, e.mp q.2⟩) (fun q => Or.inr ⟨q.1, fun r => q.2 (e.mpr r)⟩)
theorem ct_mls {mi : Nat → Int32} {ml : Nat → Int64} {s : Nat → Int32} {x : Int32} {hN : Nat} (hx : x.toInt = (hN : Int)) (hh : hN < 16) : cx_Ct 2 190 [.inr (.inl 119), .inl (.int x)] ([(119, .inl (11, vs_119 mi ml)), (123, .inr (.inl (0, 16, s)))]) (fun v h2 => v = some (.inl (.int (sw_l s hN))) ∧ h2 = [(119, .inl (11, vs_119 mi ml)), (123, .inr (.inl (0, 16, s)))]) := by
  have kc0 : (Int32.ofInt 0).toInt = 0 := by decide +kernel
  have kc99 : (Int32.ofInt 99).toInt = 99 := by decide +kernel
  have hck : x.toNatClampNeg = hN := cx_clamp hx
  refine cx_Ct.of cg_190 (nL := 2) rfl rfl rfl ?_
  show cx_T 2 190 [119, 123] 0 ([some (.inr (.inl 119)), some (.inl (.int x))], [], ([(119, .inl (11, vs_119 mi ml)), (123, .inr (.inl (0, 16, s)))])) _
  refine ex_aload_n cg_190 (ix := 0) (pc' := 1) rfl rfl rfl ?_
  refine ex_getfield cg_190 (ix := 1) (pc' := 4) (v := .inr (.inl 123)) rfl rfl rfl rfl rfl ?_
  refine ex_iload_n cg_190 (ix := 2) (pc' := 5) rfl rfl rfl ?_
  refine ex_iaload cg_190 (ix := 3) (pc' := 6) rfl rfl (by omega) (by omega) rfl ?_
  refine ex_bipush cg_190 (ix := 4) (pc' := 8) rfl rfl rfl ?_
  refine ex_icmp cg_190 (ix := 5) (t := 15) (pc' := 11) rfl rfl rfl (fun hb8 => ?_) (fun hb8 => ?_)
  · have hb8 : ¬ (s x.toNatClampNeg).toInt = (Int32.ofInt 99).toInt := hb8
    refine ex_aload_n cg_190 (ix := 8) (pc' := 16) rfl rfl rfl ?_
    refine ex_getfield cg_190 (ix := 9) (pc' := 19) (v := .inr (.inl 123)) rfl rfl rfl rfl rfl ?_
    refine ex_iload_n cg_190 (ix := 10) (pc' := 20) rfl rfl rfl ?_
    refine ex_iaload cg_190 (ix := 11) (pc' := 21) rfl rfl (by omega) (by omega) rfl ?_
    refine ex_ireturn cg_190 (ix := 12) rfl ?_
    exact ⟨by unfold sw_l; rw [if_neg (by rw [← hck]; omega)]; rw [hck], rfl⟩
  · have hb8 : ¬ (¬ (s x.toNatClampNeg).toInt = (Int32.ofInt 99).toInt) := hb8
    refine ex_iconst cg_190 (ix := 6) (pc' := 12) rfl rfl ?_
    refine ex_goto cg_190 (ix := 7) (pc' := 21) rfl rfl ?_
    refine ex_ireturn cg_190 (ix := 12) rfl ?_
    exact ⟨by unfold sw_l; rw [if_pos (by rw [← hck]; omega)], rfl⟩
theorem si_loop {mi : Nat → Int32} {ml : Nat → Int64} {g t s : Nat → Int32} {b c x : Int32} {bN cN hN : Nat} {f : Nat → Int32} {tide : Int32} {ls : Int} {NS : Nat} {AP EP : Prop} {P : Option cx_V → cx_H → Prop} (hb : b.toInt = (bN : Int)) (hbN : bN < 4) (hfg : ∀ i : Nat, i < 24 → g (24 * bN + i) = f i) (hf : bkU f) (hc : c.toInt = (cN : Int)) (hcN : cN < 24) (ht0 : -9 ≤ tide.toInt) (ht9 : tide.toInt ≤ 9) (hl0 : 0 ≤ ls) (hg9 : (mi 12).toInt ≤ 9) (hNS : (NS : Int) = (mi 12).toInt - ls + 1)
    (hP : ∀ (al so i : Int32) (o8 : Option cx_V), isB al (AllB AP (gdQ f cN tide.toInt) ls NS) → isB so (ExB EP (gdQ f cN tide.toInt) ls NS) → cx_T 6 194 [119, 121, 122, 123] 94 ([some (.inr (.inl 119)), some (.inl (.int b)), some (.inl (.int c)), some (.inl (.int x)), some (.inl (.int al)), some (.inl (.int so)), some (.inl (.int tide)), some (.inl (.int i)), o8], [], [(119, .inl (11, vs_119 mi ml)), (121, .inr (.inl (0, 96, g))), (122, .inr (.inl (0, 16, t))), (123, .inr (.inl (0, 16, s)))]) P) :
    ∀ (m k : Nat), k + m = NS → ∀ (i al so : Int32) (o8 : Option cx_V), i.toInt = ls + (k : Int) → isB al (AllB AP (gdQ f cN tide.toInt) ls k) → isB so (ExB EP (gdQ f cN tide.toInt) ls k) → cx_T 6 194 [119, 121, 122, 123] 33 ([some (.inr (.inl 119)), some (.inl (.int b)), some (.inl (.int c)), some (.inl (.int x)), some (.inl (.int al)), some (.inl (.int so)), some (.inl (.int tide)), some (.inl (.int i)), o8], [], [(119, .inl (11, vs_119 mi ml)), (121, .inr (.inl (0, 96, g))), (122, .inr (.inl (0, 16, t))), (123, .inr (.inl (0, 16, s)))]) P := by
  have kc0 : (Int32.ofInt 0).toInt = 0 := by decide +kernel
  have kc1 : (Int32.ofInt 1).toInt = 1 := by decide +kernel
  intro m
  induction m with
  | zero =>
    intro k hk i al so o8 hi hal hso
    have ek : k = NS := by omega
    rw [ek] at hal hso
    refine ex_iload cg_194 (ix := 18) (pc' := 35) rfl rfl rfl ?_
    refine ex_aload_n cg_194 (ix := 19) (pc' := 36) rfl rfl rfl ?_
    refine ex_getfield cg_194 (ix := 20) (pc' := 39) (v := .inl (.int (mi 12))) rfl rfl rfl rfl rfl ?_
    refine ex_icmp cg_194 (ix := 21) (t := 94) (pc' := 42) rfl rfl rfl (fun hb39 => ?_) (fun hb39 => ?_)
    · have hb39 : (mi 12).toInt < i.toInt := hb39
      exact hP _ _ _ _ hal hso
    · have hb39 : ¬ ((mi 12).toInt < i.toInt) := hb39
      exfalso; first | omega | exact absurd hb39 (by decide +kernel)
  | succ m ih =>
    intro k hk i al so o8 hi hal hso
    refine ex_iload cg_194 (ix := 18) (pc' := 35) rfl rfl rfl ?_
    refine ex_aload_n cg_194 (ix := 19) (pc' := 36) rfl rfl rfl ?_
    refine ex_getfield cg_194 (ix := 20) (pc' := 39) (v := .inl (.int (mi 12))) rfl rfl rfl rfl rfl ?_
    refine ex_icmp cg_194 (ix := 21) (t := 94) (pc' := 42) rfl rfl rfl (fun hb39 => ?_) (fun hb39 => ?_)
    · have hb39 : (mi 12).toInt < i.toInt := hb39
      exfalso; first | omega | exact absurd hb39 (by decide +kernel)
    · have hb39 : ¬ ((mi 12).toInt < i.toInt) := hb39
      refine ex_aload_n cg_194 (ix := 22) (pc' := 43) rfl rfl rfl ?_
      refine ex_iload_n cg_194 (ix := 23) (pc' := 44) rfl rfl rfl ?_
      refine ex_iload_n cg_194 (ix := 24) (pc' := 45) rfl rfl rfl ?_
      refine ex_iload cg_194 (ix := 25) (pc' := 47) rfl rfl rfl ?_
      refine ex_iload cg_194 (ix := 26) (pc' := 49) rfl rfl rfl ?_
      refine ex_callV cg_194 (ix := 27) (pc' := 52) (As := [.inl (.int b), .inl (.int c), .inl (.int tide), .inl (.int i)]) (r := []) rfl rfl rfl (ct_good (mi := mi) (ml := ml) (g := g) (b := b) (c := c) (tide := tide) (sw := i) (bN := bN) (cN := cN) (f := f) hb hbN hfg hf ht0 ht9 hc hcN) (by first | decide | omega) rfl rfl rfl ⟨rfl, rfl, trivial⟩ rfl rfl (fun v h2 hq => ?_)
      obtain ⟨zr, rfl, rfl, hgd⟩ := hq
      rcases hgd with ⟨rfl, hgd⟩ | ⟨rfl, hgd⟩
      · show cx_T _ 194 _ 52 ([some (.inr (.inl 119)), some (.inl (.int b)), some (.inl (.int c)), some (.inl (.int x)), some (.inl (.int al)), some (.inl (.int so)), some (.inl (.int tide)), some (.inl (.int i)), o8], [.inl (.int (Int32.ofInt 1))], [(119, .inl (11, vs_119 mi ml)), (121, .inr (.inl (0, 96, g))), (122, .inr (.inl (0, 16, t))), (123, .inr (.inl (0, 16, s)))]) _
        refine ex_istore cg_194 (ix := 28) (pc' := 54) (L' := [some (.inr (.inl 119)), some (.inl (.int b)), some (.inl (.int c)), some (.inl (.int x)), some (.inl (.int al)), some (.inl (.int so)), some (.inl (.int tide)), some (.inl (.int i)), some (.inl (.int (Int32.ofInt 1)))]) rfl rfl rfl rfl ?_
        refine ex_iload cg_194 (ix := 29) (pc' := 56) rfl rfl rfl ?_
        refine ex_if cg_194 (ix := 30) (t := 68) (pc' := 59) rfl rfl rfl (fun hb56 => ?_) (fun hb56 => ?_)
        · have hb56 : al.toInt = 0 := hb56
          refine ex_iconst cg_194 (ix := 35) (pc' := 69) rfl rfl ?_
          refine ex_istore cg_194 (ix := 36) (pc' := 71) (L' := [some (.inr (.inl 119)), some (.inl (.int b)), some (.inl (.int c)), some (.inl (.int x)), some (.inl (.int (Int32.ofInt 0))), some (.inl (.int so)), some (.inl (.int tide)), some (.inl (.int i)), some (.inl (.int (Int32.ofInt 1)))]) rfl rfl rfl rfl ?_
          refine ex_iload cg_194 (ix := 37) (pc' := 73) rfl rfl rfl ?_
          refine ex_if cg_194 (ix := 38) (t := 81) (pc' := 76) rfl rfl rfl (fun hb73 => ?_) (fun hb73 => ?_)
          · have hb73 : ¬ so.toInt = 0 := hb73
            refine ex_iconst cg_194 (ix := 41) (pc' := 82) rfl rfl ?_
            refine ex_goto cg_194 (ix := 42) (pc' := 86) rfl rfl ?_
            refine ex_istore cg_194 (ix := 44) (pc' := 88) (L' := [some (.inr (.inl 119)), some (.inl (.int b)), some (.inl (.int c)), some (.inl (.int x)), some (.inl (.int (Int32.ofInt 0))), some (.inl (.int (Int32.ofInt 1))), some (.inl (.int tide)), some (.inl (.int i)), some (.inl (.int (Int32.ofInt 1)))]) rfl rfl rfl rfl ?_
            refine ex_iinc cg_194 (ix := 45) (pc' := 91) (L' := [some (.inr (.inl 119)), some (.inl (.int b)), some (.inl (.int c)), some (.inl (.int x)), some (.inl (.int (Int32.ofInt 0))), some (.inl (.int (Int32.ofInt 1))), some (.inl (.int tide)), some (.inl (.int (i + Int32.ofInt 1))), some (.inl (.int (Int32.ofInt 1)))]) rfl rfl rfl rfl rfl ?_
            refine ex_goto cg_194 (ix := 46) (pc' := 33) rfl rfl ?_
            refine ih (k + 1) (by omega) _ _ _ _ (by rw [cx_addc (by omega) (by omega)]; omega) ?_ ?_
            · have hG : gdQ f cN tide.toInt (ls + (k : Int)) := by rw [← hi]; exact hgd
              exact isB_a0 hal hb56
            · have hG : gdQ f cN tide.toInt (ls + (k : Int)) := by rw [← hi]; exact hgd
              exact isB_og hG
          · have hb73 : ¬ (¬ so.toInt = 0) := hb73
            refine ex_iload cg_194 (ix := 39) (pc' := 78) rfl rfl rfl ?_
            refine ex_if cg_194 (ix := 40) (t := 85) (pc' := 81) rfl rfl rfl (fun hb78 => ?_) (fun hb78 => ?_)
            · have hb78 : (Int32.ofInt 1).toInt = 0 := hb78
              exfalso; first | omega | exact absurd hb78 (by decide +kernel)
            · have hb78 : ¬ ((Int32.ofInt 1).toInt = 0) := hb78
              refine ex_iconst cg_194 (ix := 41) (pc' := 82) rfl rfl ?_
              refine ex_goto cg_194 (ix := 42) (pc' := 86) rfl rfl ?_
              refine ex_istore cg_194 (ix := 44) (pc' := 88) (L' := [some (.inr (.inl 119)), some (.inl (.int b)), some (.inl (.int c)), some (.inl (.int x)), some (.inl (.int (Int32.ofInt 0))), some (.inl (.int (Int32.ofInt 1))), some (.inl (.int tide)), some (.inl (.int i)), some (.inl (.int (Int32.ofInt 1)))]) rfl rfl rfl rfl ?_
              refine ex_iinc cg_194 (ix := 45) (pc' := 91) (L' := [some (.inr (.inl 119)), some (.inl (.int b)), some (.inl (.int c)), some (.inl (.int x)), some (.inl (.int (Int32.ofInt 0))), some (.inl (.int (Int32.ofInt 1))), some (.inl (.int tide)), some (.inl (.int (i + Int32.ofInt 1))), some (.inl (.int (Int32.ofInt 1)))]) rfl rfl rfl rfl rfl ?_
              refine ex_goto cg_194 (ix := 46) (pc' := 33) rfl rfl ?_
              refine ih (k + 1) (by omega) _ _ _ _ (by rw [cx_addc (by omega) (by omega)]; omega) ?_ ?_
              · have hG : gdQ f cN tide.toInt (ls + (k : Int)) := by rw [← hi]; exact hgd
                exact isB_a0 hal hb56
              · have hG : gdQ f cN tide.toInt (ls + (k : Int)) := by rw [← hi]; exact hgd
                exact isB_og hG
        · have hb56 : ¬ (al.toInt = 0) := hb56
          refine ex_iload cg_194 (ix := 31) (pc' := 61) rfl rfl rfl ?_
          refine ex_if cg_194 (ix := 32) (t := 68) (pc' := 64) rfl rfl rfl (fun hb61 => ?_) (fun hb61 => ?_)
          · have hb61 : (Int32.ofInt 1).toInt = 0 := hb61
            exfalso; first | omega | exact absurd hb61 (by decide +kernel)
          · have hb61 : ¬ ((Int32.ofInt 1).toInt = 0) := hb61
            refine ex_iconst cg_194 (ix := 33) (pc' := 65) rfl rfl ?_
            refine ex_goto cg_194 (ix := 34) (pc' := 69) rfl rfl ?_
            refine ex_istore cg_194 (ix := 36) (pc' := 71) (L' := [some (.inr (.inl 119)), some (.inl (.int b)), some (.inl (.int c)), some (.inl (.int x)), some (.inl (.int (Int32.ofInt 1))), some (.inl (.int so)), some (.inl (.int tide)), some (.inl (.int i)), some (.inl (.int (Int32.ofInt 1)))]) rfl rfl rfl rfl ?_
            refine ex_iload cg_194 (ix := 37) (pc' := 73) rfl rfl rfl ?_
            refine ex_if cg_194 (ix := 38) (t := 81) (pc' := 76) rfl rfl rfl (fun hb73 => ?_) (fun hb73 => ?_)
            · have hb73 : ¬ so.toInt = 0 := hb73
              refine ex_iconst cg_194 (ix := 41) (pc' := 82) rfl rfl ?_
              refine ex_goto cg_194 (ix := 42) (pc' := 86) rfl rfl ?_
              refine ex_istore cg_194 (ix := 44) (pc' := 88) (L' := [some (.inr (.inl 119)), some (.inl (.int b)), some (.inl (.int c)), some (.inl (.int x)), some (.inl (.int (Int32.ofInt 1))), some (.inl (.int (Int32.ofInt 1))), some (.inl (.int tide)), some (.inl (.int i)), some (.inl (.int (Int32.ofInt 1)))]) rfl rfl rfl rfl ?_
              refine ex_iinc cg_194 (ix := 45) (pc' := 91) (L' := [some (.inr (.inl 119)), some (.inl (.int b)), some (.inl (.int c)), some (.inl (.int x)), some (.inl (.int (Int32.ofInt 1))), some (.inl (.int (Int32.ofInt 1))), some (.inl (.int tide)), some (.inl (.int (i + Int32.ofInt 1))), some (.inl (.int (Int32.ofInt 1)))]) rfl rfl rfl rfl rfl ?_
              refine ex_goto cg_194 (ix := 46) (pc' := 33) rfl rfl ?_
              refine ih (k + 1) (by omega) _ _ _ _ (by rw [cx_addc (by omega) (by omega)]; omega) ?_ ?_
              · have hG : gdQ f cN tide.toInt (ls + (k : Int)) := by rw [← hi]; exact hgd
                exact isB_a1 hal hb56 hG
              · have hG : gdQ f cN tide.toInt (ls + (k : Int)) := by rw [← hi]; exact hgd
                exact isB_og hG
            · have hb73 : ¬ (¬ so.toInt = 0) := hb73
              refine ex_iload cg_194 (ix := 39) (pc' := 78) rfl rfl rfl ?_
              refine ex_if cg_194 (ix := 40) (t := 85) (pc' := 81) rfl rfl rfl (fun hb78 => ?_) (fun hb78 => ?_)
              · have hb78 : (Int32.ofInt 1).toInt = 0 := hb78
                exfalso; first | omega | exact absurd hb78 (by decide +kernel)
              · have hb78 : ¬ ((Int32.ofInt 1).toInt = 0) := hb78
                refine ex_iconst cg_194 (ix := 41) (pc' := 82) rfl rfl ?_
                refine ex_goto cg_194 (ix := 42) (pc' := 86) rfl rfl ?_
                refine ex_istore cg_194 (ix := 44) (pc' := 88) (L' := [some (.inr (.inl 119)), some (.inl (.int b)), some (.inl (.int c)), some (.inl (.int x)), some (.inl (.int (Int32.ofInt 1))), some (.inl (.int (Int32.ofInt 1))), some (.inl (.int tide)), some (.inl (.int i)), some (.inl (.int (Int32.ofInt 1)))]) rfl rfl rfl rfl ?_
                refine ex_iinc cg_194 (ix := 45) (pc' := 91) (L' := [some (.inr (.inl 119)), some (.inl (.int b)), some (.inl (.int c)), some (.inl (.int x)), some (.inl (.int (Int32.ofInt 1))), some (.inl (.int (Int32.ofInt 1))), some (.inl (.int tide)), some (.inl (.int (i + Int32.ofInt 1))), some (.inl (.int (Int32.ofInt 1)))]) rfl rfl rfl rfl rfl ?_
                refine ex_goto cg_194 (ix := 46) (pc' := 33) rfl rfl ?_
                refine ih (k + 1) (by omega) _ _ _ _ (by rw [cx_addc (by omega) (by omega)]; omega) ?_ ?_
                · have hG : gdQ f cN tide.toInt (ls + (k : Int)) := by rw [← hi]; exact hgd
                  exact isB_a1 hal hb56 hG
                · have hG : gdQ f cN tide.toInt (ls + (k : Int)) := by rw [← hi]; exact hgd
                  exact isB_og hG
      · show cx_T _ 194 _ 52 ([some (.inr (.inl 119)), some (.inl (.int b)), some (.inl (.int c)), some (.inl (.int x)), some (.inl (.int al)), some (.inl (.int so)), some (.inl (.int tide)), some (.inl (.int i)), o8], [.inl (.int (Int32.ofInt 0))], [(119, .inl (11, vs_119 mi ml)), (121, .inr (.inl (0, 96, g))), (122, .inr (.inl (0, 16, t))), (123, .inr (.inl (0, 16, s)))]) _
        refine ex_istore cg_194 (ix := 28) (pc' := 54) (L' := [some (.inr (.inl 119)), some (.inl (.int b)), some (.inl (.int c)), some (.inl (.int x)), some (.inl (.int al)), some (.inl (.int so)), some (.inl (.int tide)), some (.inl (.int i)), some (.inl (.int (Int32.ofInt 0)))]) rfl rfl rfl rfl ?_
        refine ex_iload cg_194 (ix := 29) (pc' := 56) rfl rfl rfl ?_
        refine ex_if cg_194 (ix := 30) (t := 68) (pc' := 59) rfl rfl rfl (fun hb56 => ?_) (fun hb56 => ?_)
        · have hb56 : al.toInt = 0 := hb56
          refine ex_iconst cg_194 (ix := 35) (pc' := 69) rfl rfl ?_
          refine ex_istore cg_194 (ix := 36) (pc' := 71) (L' := [some (.inr (.inl 119)), some (.inl (.int b)), some (.inl (.int c)), some (.inl (.int x)), some (.inl (.int (Int32.ofInt 0))), some (.inl (.int so)), some (.inl (.int tide)), some (.inl (.int i)), some (.inl (.int (Int32.ofInt 0)))]) rfl rfl rfl rfl ?_
          refine ex_iload cg_194 (ix := 37) (pc' := 73) rfl rfl rfl ?_
          refine ex_if cg_194 (ix := 38) (t := 81) (pc' := 76) rfl rfl rfl (fun hb73 => ?_) (fun hb73 => ?_)
          · have hb73 : ¬ so.toInt = 0 := hb73
            refine ex_iconst cg_194 (ix := 41) (pc' := 82) rfl rfl ?_
            refine ex_goto cg_194 (ix := 42) (pc' := 86) rfl rfl ?_
            refine ex_istore cg_194 (ix := 44) (pc' := 88) (L' := [some (.inr (.inl 119)), some (.inl (.int b)), some (.inl (.int c)), some (.inl (.int x)), some (.inl (.int (Int32.ofInt 0))), some (.inl (.int (Int32.ofInt 1))), some (.inl (.int tide)), some (.inl (.int i)), some (.inl (.int (Int32.ofInt 0)))]) rfl rfl rfl rfl ?_
            refine ex_iinc cg_194 (ix := 45) (pc' := 91) (L' := [some (.inr (.inl 119)), some (.inl (.int b)), some (.inl (.int c)), some (.inl (.int x)), some (.inl (.int (Int32.ofInt 0))), some (.inl (.int (Int32.ofInt 1))), some (.inl (.int tide)), some (.inl (.int (i + Int32.ofInt 1))), some (.inl (.int (Int32.ofInt 0)))]) rfl rfl rfl rfl rfl ?_
            refine ex_goto cg_194 (ix := 46) (pc' := 33) rfl rfl ?_
            refine ih (k + 1) (by omega) _ _ _ _ (by rw [cx_addc (by omega) (by omega)]; omega) ?_ ?_
            · have hG : ¬ gdQ f cN tide.toInt (ls + (k : Int)) := by rw [← hi]; exact hgd
              exact isB_an hG
            · have hG : ¬ gdQ f cN tide.toInt (ls + (k : Int)) := by rw [← hi]; exact hgd
              exact isB_o1 hso hb73
          · have hb73 : ¬ (¬ so.toInt = 0) := hb73
            refine ex_iload cg_194 (ix := 39) (pc' := 78) rfl rfl rfl ?_
            refine ex_if cg_194 (ix := 40) (t := 85) (pc' := 81) rfl rfl rfl (fun hb78 => ?_) (fun hb78 => ?_)
            · have hb78 : (Int32.ofInt 0).toInt = 0 := hb78
              refine ex_iconst cg_194 (ix := 43) (pc' := 86) rfl rfl ?_
              refine ex_istore cg_194 (ix := 44) (pc' := 88) (L' := [some (.inr (.inl 119)), some (.inl (.int b)), some (.inl (.int c)), some (.inl (.int x)), some (.inl (.int (Int32.ofInt 0))), some (.inl (.int (Int32.ofInt 0))), some (.inl (.int tide)), some (.inl (.int i)), some (.inl (.int (Int32.ofInt 0)))]) rfl rfl rfl rfl ?_
              refine ex_iinc cg_194 (ix := 45) (pc' := 91) (L' := [some (.inr (.inl 119)), some (.inl (.int b)), some (.inl (.int c)), some (.inl (.int x)), some (.inl (.int (Int32.ofInt 0))), some (.inl (.int (Int32.ofInt 0))), some (.inl (.int tide)), some (.inl (.int (i + Int32.ofInt 1))), some (.inl (.int (Int32.ofInt 0)))]) rfl rfl rfl rfl rfl ?_
              refine ex_goto cg_194 (ix := 46) (pc' := 33) rfl rfl ?_
              refine ih (k + 1) (by omega) _ _ _ _ (by rw [cx_addc (by omega) (by omega)]; omega) ?_ ?_
              · have hG : ¬ gdQ f cN tide.toInt (ls + (k : Int)) := by rw [← hi]; exact hgd
                exact isB_an hG
              · have hG : ¬ gdQ f cN tide.toInt (ls + (k : Int)) := by rw [← hi]; exact hgd
                exact isB_o0 hso (by omega) hG
            · have hb78 : ¬ ((Int32.ofInt 0).toInt = 0) := hb78
              exfalso; first | omega | exact absurd hb78 (by decide +kernel)
        · have hb56 : ¬ (al.toInt = 0) := hb56
          refine ex_iload cg_194 (ix := 31) (pc' := 61) rfl rfl rfl ?_
          refine ex_if cg_194 (ix := 32) (t := 68) (pc' := 64) rfl rfl rfl (fun hb61 => ?_) (fun hb61 => ?_)
          · have hb61 : (Int32.ofInt 0).toInt = 0 := hb61
            refine ex_iconst cg_194 (ix := 35) (pc' := 69) rfl rfl ?_
            refine ex_istore cg_194 (ix := 36) (pc' := 71) (L' := [some (.inr (.inl 119)), some (.inl (.int b)), some (.inl (.int c)), some (.inl (.int x)), some (.inl (.int (Int32.ofInt 0))), some (.inl (.int so)), some (.inl (.int tide)), some (.inl (.int i)), some (.inl (.int (Int32.ofInt 0)))]) rfl rfl rfl rfl ?_
            refine ex_iload cg_194 (ix := 37) (pc' := 73) rfl rfl rfl ?_
            refine ex_if cg_194 (ix := 38) (t := 81) (pc' := 76) rfl rfl rfl (fun hb73 => ?_) (fun hb73 => ?_)
            · have hb73 : ¬ so.toInt = 0 := hb73
              refine ex_iconst cg_194 (ix := 41) (pc' := 82) rfl rfl ?_
              refine ex_goto cg_194 (ix := 42) (pc' := 86) rfl rfl ?_
              refine ex_istore cg_194 (ix := 44) (pc' := 88) (L' := [some (.inr (.inl 119)), some (.inl (.int b)), some (.inl (.int c)), some (.inl (.int x)), some (.inl (.int (Int32.ofInt 0))), some (.inl (.int (Int32.ofInt 1))), some (.inl (.int tide)), some (.inl (.int i)), some (.inl (.int (Int32.ofInt 0)))]) rfl rfl rfl rfl ?_
              refine ex_iinc cg_194 (ix := 45) (pc' := 91) (L' := [some (.inr (.inl 119)), some (.inl (.int b)), some (.inl (.int c)), some (.inl (.int x)), some (.inl (.int (Int32.ofInt 0))), some (.inl (.int (Int32.ofInt 1))), some (.inl (.int tide)), some (.inl (.int (i + Int32.ofInt 1))), some (.inl (.int (Int32.ofInt 0)))]) rfl rfl rfl rfl rfl ?_
              refine ex_goto cg_194 (ix := 46) (pc' := 33) rfl rfl ?_
              refine ih (k + 1) (by omega) _ _ _ _ (by rw [cx_addc (by omega) (by omega)]; omega) ?_ ?_
              · have hG : ¬ gdQ f cN tide.toInt (ls + (k : Int)) := by rw [← hi]; exact hgd
                exact isB_an hG
              · have hG : ¬ gdQ f cN tide.toInt (ls + (k : Int)) := by rw [← hi]; exact hgd
                exact isB_o1 hso hb73
            · have hb73 : ¬ (¬ so.toInt = 0) := hb73
              refine ex_iload cg_194 (ix := 39) (pc' := 78) rfl rfl rfl ?_
              refine ex_if cg_194 (ix := 40) (t := 85) (pc' := 81) rfl rfl rfl (fun hb78 => ?_) (fun hb78 => ?_)
              · have hb78 : (Int32.ofInt 0).toInt = 0 := hb78
                refine ex_iconst cg_194 (ix := 43) (pc' := 86) rfl rfl ?_
                refine ex_istore cg_194 (ix := 44) (pc' := 88) (L' := [some (.inr (.inl 119)), some (.inl (.int b)), some (.inl (.int c)), some (.inl (.int x)), some (.inl (.int (Int32.ofInt 0))), some (.inl (.int (Int32.ofInt 0))), some (.inl (.int tide)), some (.inl (.int i)), some (.inl (.int (Int32.ofInt 0)))]) rfl rfl rfl rfl ?_
                refine ex_iinc cg_194 (ix := 45) (pc' := 91) (L' := [some (.inr (.inl 119)), some (.inl (.int b)), some (.inl (.int c)), some (.inl (.int x)), some (.inl (.int (Int32.ofInt 0))), some (.inl (.int (Int32.ofInt 0))), some (.inl (.int tide)), some (.inl (.int (i + Int32.ofInt 1))), some (.inl (.int (Int32.ofInt 0)))]) rfl rfl rfl rfl rfl ?_
                refine ex_goto cg_194 (ix := 46) (pc' := 33) rfl rfl ?_
                refine ih (k + 1) (by omega) _ _ _ _ (by rw [cx_addc (by omega) (by omega)]; omega) ?_ ?_
                · have hG : ¬ gdQ f cN tide.toInt (ls + (k : Int)) := by rw [← hi]; exact hgd
                  exact isB_an hG
                · have hG : ¬ gdQ f cN tide.toInt (ls + (k : Int)) := by rw [← hi]; exact hgd
                  exact isB_o0 hso (by omega) hG
              · have hb78 : ¬ ((Int32.ofInt 0).toInt = 0) := hb78
                exfalso; first | omega | exact absurd hb78 (by decide +kernel)
          · have hb61 : ¬ ((Int32.ofInt 0).toInt = 0) := hb61
            exfalso; first | omega | exact absurd hb61 (by decide +kernel)
theorem so_loop_ {mi : Nat → Int32} {ml : Nat → Int64} {g t s : Nat → Int32} {b c x : Int32} {bN cN hN : Nat} {f : Nat → Int32} {lo : Int} {NS NT : Nat} {P : Option cx_V → cx_H → Prop} (hb : b.toInt = (bN : Int)) (hbN : bN < 4) (hfg : ∀ i : Nat, i < 24 → g (24 * bN + i) = f i) (hf : bkU f) (hc : c.toInt = (cN : Int)) (hcN : cN < 24) (hx : x.toInt = (hN : Int)) (hh : hN < 16) (hlo : -9 ≤ lo) (hhi : (mi 11).toInt ≤ 9) (hl0 : 0 ≤ (sw_l s hN).toInt) (hg9 : (mi 12).toInt ≤ 9) (hNS : (NS : Int) = (mi 12).toInt - (sw_l s hN).toInt + 1) (hNT : (NT : Int) = (mi 11).toInt - lo + 1)
    (hP : ∀ (al so i : Int32) (o7 o8 : Option cx_V), isB al (AllN (fun t => AllN (gdQ f cN t) (sw_l s hN).toInt NS) lo NT) → isB so (ExN (fun t => ExN (gdQ f cN t) (sw_l s hN).toInt NS) lo NT) → cx_T 6 194 [119, 121, 122, 123] 100 ([some (.inr (.inl 119)), some (.inl (.int b)), some (.inl (.int c)), some (.inl (.int x)), some (.inl (.int al)), some (.inl (.int so)), some (.inl (.int i)), o7, o8], [], [(119, .inl (11, vs_119 mi ml)), (121, .inr (.inl (0, 96, g))), (122, .inr (.inl (0, 16, t))), (123, .inr (.inl (0, 16, s)))]) P) :
    ∀ (m k : Nat), k + m = NT → ∀ (i al so : Int32) (o7 o8 : Option cx_V), i.toInt = lo + (k : Int) → isB al (AllN (fun t => AllN (gdQ f cN t) (sw_l s hN).toInt NS) lo k) → isB so (ExN (fun t => ExN (gdQ f cN t) (sw_l s hN).toInt NS) lo k) → cx_T 6 194 [119, 121, 122, 123] 17 ([some (.inr (.inl 119)), some (.inl (.int b)), some (.inl (.int c)), some (.inl (.int x)), some (.inl (.int al)), some (.inl (.int so)), some (.inl (.int i)), o7, o8], [], [(119, .inl (11, vs_119 mi ml)), (121, .inr (.inl (0, 96, g))), (122, .inr (.inl (0, 16, t))), (123, .inr (.inl (0, 16, s)))]) P := by
  have kc0 : (Int32.ofInt 0).toInt = 0 := by decide +kernel
  have kc1 : (Int32.ofInt 1).toInt = 1 := by decide +kernel
  intro m
  induction m with
  | zero =>
    intro k hk i al so o7 o8 hi hal hso
    have ek : k = NT := by omega
    rw [ek] at hal hso
    refine ex_iload cg_194 (ix := 10) (pc' := 19) rfl rfl rfl ?_
    refine ex_aload_n cg_194 (ix := 11) (pc' := 20) rfl rfl rfl ?_
    refine ex_getfield cg_194 (ix := 12) (pc' := 23) (v := .inl (.int (mi 11))) rfl rfl rfl rfl rfl ?_
    refine ex_icmp cg_194 (ix := 13) (t := 100) (pc' := 26) rfl rfl rfl (fun hb23 => ?_) (fun hb23 => ?_)
    · have hb23 : (mi 11).toInt < i.toInt := hb23
      exact hP _ _ _ _ _ hal hso
    · have hb23 : ¬ ((mi 11).toInt < i.toInt) := hb23
      exfalso; first | omega | exact absurd hb23 (by decide +kernel)
  | succ m ih =>
    intro k hk i al so o7 o8 hi hal hso
    refine ex_iload cg_194 (ix := 10) (pc' := 19) rfl rfl rfl ?_
    refine ex_aload_n cg_194 (ix := 11) (pc' := 20) rfl rfl rfl ?_
    refine ex_getfield cg_194 (ix := 12) (pc' := 23) (v := .inl (.int (mi 11))) rfl rfl rfl rfl rfl ?_
    refine ex_icmp cg_194 (ix := 13) (t := 100) (pc' := 26) rfl rfl rfl (fun hb23 => ?_) (fun hb23 => ?_)
    · have hb23 : (mi 11).toInt < i.toInt := hb23
      exfalso; first | omega | exact absurd hb23 (by decide +kernel)
    · have hb23 : ¬ ((mi 11).toInt < i.toInt) := hb23
      refine ex_aload_n cg_194 (ix := 14) (pc' := 27) rfl rfl rfl ?_
      refine ex_iload_n cg_194 (ix := 15) (pc' := 28) rfl rfl rfl ?_
      refine ex_callV cg_194 (ix := 16) (pc' := 31) (As := [.inl (.int x)]) (r := []) rfl rfl rfl (ct_mls (mi := mi) (ml := ml) (s := s) (x := x) (hN := hN) hx hh) (by first | decide | omega) rfl rfl rfl ⟨rfl, rfl, trivial⟩ rfl rfl (fun v h2 hq => ?_)
      obtain ⟨rfl, rfl⟩ := hq
      show cx_T _ 194 _ 31 ([some (.inr (.inl 119)), some (.inl (.int b)), some (.inl (.int c)), some (.inl (.int x)), some (.inl (.int al)), some (.inl (.int so)), some (.inl (.int i)), o7, o8], [.inl (.int (sw_l s hN))], [(119, .inl (11, vs_119 mi ml)), (121, .inr (.inl (0, 96, g))), (122, .inr (.inl (0, 16, t))), (123, .inr (.inl (0, 16, s)))]) _
      refine ex_istore cg_194 (ix := 17) (pc' := 33) (L' := [some (.inr (.inl 119)), some (.inl (.int b)), some (.inl (.int c)), some (.inl (.int x)), some (.inl (.int al)), some (.inl (.int so)), some (.inl (.int i)), some (.inl (.int (sw_l s hN))), o8]) rfl rfl rfl rfl ?_
      refine si_loop (hN := hN) (tide := i) (ls := (sw_l s hN).toInt) (NS := NS) (AP := AllN (fun t => AllN (gdQ f cN t) (sw_l s hN).toInt NS) lo k) (EP := ExN (fun t => ExN (gdQ f cN t) (sw_l s hN).toInt NS) lo k) hb hbN hfg hf hc hcN (by omega) (by omega) hl0 hg9 hNS (fun al' so' i' o8' hal' hso' => ?_) NS 0 (by omega) _ _ _ _ (by omega) hal hso
      refine ex_iinc cg_194 (ix := 47) (pc' := 97) (L' := [some (.inr (.inl 119)), some (.inl (.int b)), some (.inl (.int c)), some (.inl (.int x)), some (.inl (.int al')), some (.inl (.int so')), some (.inl (.int (i + Int32.ofInt 1))), some (.inl (.int i')), o8']) rfl rfl rfl rfl rfl ?_
      refine ex_goto cg_194 (ix := 48) (pc' := 17) rfl rfl ?_
      refine ih (k + 1) (by omega) _ _ _ _ _ (by rw [cx_addc (by omega) (by omega)]; omega) ?_ ?_
      · exact isB_iff hal' (by rw [AllB_iff, AllN, hi])
      · exact isB_iff hso' (by rw [ExB_iff, ExN, hi])
theorem ct_sfn {mi : Nat → Int32} {ml : Nat → Int64} {g t s : Nat → Int32} {b c x : Int32} {bN cN hN : Nat} {f : Nat → Int32} (hb : b.toInt = (bN : Int)) (hbN : bN < 4) (hfg : ∀ i : Nat, i < 24 → g (24 * bN + i) = f i) (hf : bkU f) (hc : c.toInt = (cN : Int)) (hcN : cN < 24) (hx : x.toInt = (hN : Int)) (hh : hN < 16) (ht : ∀ i : Nat, i < 16 → tdU (t i).toInt) (hs : ∀ i : Nat, i < 16 → swU (s i).toInt) : cx_Ct 6 194 [.inr (.inl 119), .inl (.int b), .inl (.int c), .inl (.int x)] (h_ms mi ml g t s) (fun v h2 => ∃ z l_ m_ : Int32, v = some (.inl (.int z)) ∧ l_.toInt = td_lo (td_a t hN).toInt (td_b t hN (16 - hN)).toInt ∧ m_.toInt = td_hi (td_a t hN).toInt (td_b t hN (16 - hN)).toInt ∧ h2 = h_ms (upi (upi (upi mi 10 l_) 11 m_) 12 (sw_x s hN)) ml g t s ∧ z.toInt = sfV f cN (td_lo (td_a t hN).toInt (td_b t hN (16 - hN)).toInt) (td_hi (td_a t hN).toInt (td_b t hN (16 - hN)).toInt) (sw_x s hN).toInt (sw_l s hN).toInt) := by
  have kc0 : (Int32.ofInt 0).toInt = 0 := by decide +kernel
  have kc1 : (Int32.ofInt 1).toInt = 1 := by decide +kernel
  have kc2 : (Int32.ofInt 2).toInt = 2 := by decide +kernel
  have hsx := sx_b hs hh
  have htd := td_b1 (td_aU hN (fun i hi => ht i (by omega))) (td_bU (16 - hN) hN (fun i h1 h2 => ht i (by omega)))
  refine cx_Ct.of cg_194 (nL := 9) rfl rfl rfl ?_
  show cx_T 6 194 [119, 121, 122, 123] 0 ([some (.inr (.inl 119)), some (.inl (.int b)), some (.inl (.int c)), some (.inl (.int x)), none, none, none, none, none], [], (h_ms mi ml g t s)) _
  refine ex_aload_n cg_194 (ix := 0) (pc' := 1) rfl rfl rfl ?_
  refine ex_iload_n cg_194 (ix := 1) (pc' := 2) rfl rfl rfl ?_
  refine ex_callV cg_194 (ix := 2) (pc' := 5) (As := [.inl (.int x)]) (r := []) rfl rfl rfl (ct_fm (x := x) (h := hN) (mi := mi) (ml := ml) (t := t) (s := s) hx hh ht) (by first | decide | omega) rfl rfl rfl ⟨rfl, rfl, rfl, trivial⟩ rfl rfl (fun v h2 hq => ?_)
  obtain ⟨rfl, l_, m_, hl_, hm_, rfl⟩ := hq
  show cx_T _ 194 _ 5 ([some (.inr (.inl 119)), some (.inl (.int b)), some (.inl (.int c)), some (.inl (.int x)), none, none, none, none, none], [], [(119, .inl (11, vs_119 (upi (upi (upi mi 10 l_) 11 m_) 12 (sw_x s hN)) ml)), (121, .inr (.inl (0, 96, g))), (122, .inr (.inl (0, 16, t))), (123, .inr (.inl (0, 16, s)))]) _
  obtain ⟨NS, hNS⟩ : ∃ n : Nat, (n : Int) = (sw_x s hN).toInt - (sw_l s hN).toInt + 1 := ⟨((sw_x s hN).toInt - (sw_l s hN).toInt + 1).toNat, by omega⟩
  obtain ⟨NT, hNT⟩ : ∃ n : Nat, (n : Int) = m_.toInt - l_.toInt + 1 := ⟨(m_.toInt - l_.toInt + 1).toNat, by omega⟩
  refine ex_iconst cg_194 (ix := 3) (pc' := 6) rfl rfl ?_
  refine ex_istore cg_194 (ix := 4) (pc' := 8) (L' := [some (.inr (.inl 119)), some (.inl (.int b)), some (.inl (.int c)), some (.inl (.int x)), some (.inl (.int (Int32.ofInt 1))), none, none, none, none]) rfl rfl rfl rfl ?_
  refine ex_iconst cg_194 (ix := 5) (pc' := 9) rfl rfl ?_
  refine ex_istore cg_194 (ix := 6) (pc' := 11) (L' := [some (.inr (.inl 119)), some (.inl (.int b)), some (.inl (.int c)), some (.inl (.int x)), some (.inl (.int (Int32.ofInt 1))), some (.inl (.int (Int32.ofInt 0))), none, none, none]) rfl rfl rfl rfl ?_
  refine ex_aload_n cg_194 (ix := 7) (pc' := 12) rfl rfl rfl ?_
  refine ex_getfield cg_194 (ix := 8) (pc' := 15) (v := .inl (.int l_)) rfl rfl rfl rfl rfl ?_
  refine ex_istore cg_194 (ix := 9) (pc' := 17) (L' := [some (.inr (.inl 119)), some (.inl (.int b)), some (.inl (.int c)), some (.inl (.int x)), some (.inl (.int (Int32.ofInt 1))), some (.inl (.int (Int32.ofInt 0))), some (.inl (.int l_)), none, none]) rfl rfl rfl rfl ?_
  refine so_loop_ (mi := (upi (upi (upi mi 10 l_) 11 m_) 12 (sw_x s hN))) (lo := l_.toInt) (NS := NS) (NT := NT) hb hbN hfg hf hc hcN hx hh (by omega) (show m_.toInt ≤ 9 by omega) (by omega) (show (sw_x s hN).toInt ≤ 9 by omega) (show (NS : Int) = (sw_x s hN).toInt - (sw_l s hN).toInt + 1 from hNS) (show (NT : Int) = m_.toInt - l_.toInt + 1 from hNT) (fun al' so' i' o7' o8' hal' hso' => ?_) NT 0 (by omega) _ _ _ _ _ (by omega) (Or.inl ⟨rfl, trivial⟩) (Or.inr ⟨rfl, fun q => q.elim⟩)
  obtain ⟨hv1, hv2, hv3⟩ := sfV_of (lo := l_.toInt) (hi := m_.toInt) (gs := (sw_x s hN).toInt) (ls := (sw_l s hN).toInt) (by omega) (by omega) hNT hNS hal' hso'
  rw [hl_, hm_] at hv1 hv2 hv3
  refine ex_iload cg_194 (ix := 49) (pc' := 102) rfl rfl rfl ?_
  refine ex_if cg_194 (ix := 50) (t := 109) (pc' := 105) rfl rfl rfl (fun hb102 => ?_) (fun hb102 => ?_)
  · have hb102 : al'.toInt = 0 := hb102
    refine ex_iload cg_194 (ix := 53) (pc' := 111) rfl rfl rfl ?_
    refine ex_if cg_194 (ix := 54) (t := 118) (pc' := 114) rfl rfl rfl (fun hb111 => ?_) (fun hb111 => ?_)
    · have hb111 : so'.toInt = 0 := hb111
      refine ex_iconst cg_194 (ix := 57) (pc' := 119) rfl rfl ?_
      refine ex_ireturn cg_194 (ix := 58) rfl ?_
      exact ⟨Int32.ofInt 0, l_, m_, rfl, hl_, hm_, rfl, by rw [hv3 hb102 hb111]; exact kc0⟩
    · have hb111 : ¬ (so'.toInt = 0) := hb111
      refine ex_iconst cg_194 (ix := 55) (pc' := 115) rfl rfl ?_
      refine ex_goto cg_194 (ix := 56) (pc' := 119) rfl rfl ?_
      refine ex_ireturn cg_194 (ix := 58) rfl ?_
      exact ⟨Int32.ofInt 1, l_, m_, rfl, hl_, hm_, rfl, by rw [hv2 hb102 hb111]; exact kc1⟩
  · have hb102 : ¬ (al'.toInt = 0) := hb102
    refine ex_iconst cg_194 (ix := 51) (pc' := 106) rfl rfl ?_
    refine ex_goto cg_194 (ix := 52) (pc' := 119) rfl rfl ?_
    refine ex_ireturn cg_194 (ix := 58) rfl ?_
    exact ⟨Int32.ofInt 2, l_, m_, rfl, hl_, hm_, rfl, by rw [hv1 hb102]; exact kc2⟩
end
