noncomputable section
theorem cg_189 : cx_G 189 tb_189 TbX11 none := cx_G.of gok_189
/-- the nearest tides as the reference finds them -/
def fm_a (t : Nat → Int32) (h : Nat) : Nat → Int32
  | 0 => Int32.ofInt 99
  | k + 1 => if k ≤ h ∧ ¬ (t k).toInt = 99 then t k else fm_a t h k
def fm_b (t : Nat → Int32) (h : Nat) : Nat → Int32
  | 0 => Int32.ofInt 99
  | k + 1 => if h ≤ k ∧ ¬ (t k).toInt = 99 ∧ (fm_b t h k).toInt = 99 then t k else fm_b t h k
theorem fm_a_lo {t : Nat → Int32} {h : Nat} : ∀ k : Nat, k ≤ h → fm_a t h (k + 1) = td_a t k
  | 0, hk => by
    rw [fm_a, td_a]
    by_cases q : (t 0).toInt = 99
    · rw [if_neg (by omega), if_pos q]; rfl
    · rw [if_pos ⟨by omega, q⟩, if_neg q]
  | k + 1, hk => by
    rw [fm_a, td_a]
    by_cases q : (t (k + 1)).toInt = 99
    · rw [if_neg (by omega), if_pos q]; exact fm_a_lo k (by omega)
    · rw [if_pos ⟨by omega, q⟩, if_neg q]
theorem fm_a_hi {t : Nat → Int32} {h : Nat} : ∀ k : Nat, h + 1 ≤ k → fm_a t h k = td_a t h
  | 0, hk => by omega
  | k + 1, hk => by
    by_cases q : k = h
    · subst q; exact fm_a_lo k (Nat.le_refl _)
    · rw [fm_a, if_neg (by omega)]; exact fm_a_hi k (by omega)
theorem fm_b_lo {t : Nat → Int32} {h : Nat} : ∀ k : Nat, k ≤ h → fm_b t h k = Int32.ofInt 99
  | 0, _ => rfl
  | k + 1, hk => by rw [fm_b, if_neg (by omega)]; exact fm_b_lo k (by omega)
/-- from what was found up to k, and the rest -/
def fm_c (t : Nat → Int32) (x : Int32) (k n : Nat) : Int32 := if x.toInt = 99 then td_b t k n else x
theorem fm_b_hi {t : Nat → Int32} {h : Nat} : ∀ n k : Nat, h ≤ k → fm_c t (fm_b t h k) k n = fm_b t h (k + n) ∨ (fm_b t h (k + n)).toInt = 99 ∧ (fm_c t (fm_b t h k) k n).toInt = 99
  | 0, k, hk => by
    unfold fm_c
    by_cases q : (fm_b t h k).toInt = 99
    · rw [if_pos q]; exact Or.inr ⟨q, by rw [td_b]; decide +kernel⟩
    · rw [if_neg q]; exact Or.inl rfl
  | n + 1, k, hk => by
    have ih := fm_b_hi (t := t) (h := h) n (k + 1) (by omega)
    have e1 : fm_c t (fm_b t h k) k (n + 1) = fm_c t (fm_b t h (k + 1)) (k + 1) n := by
      unfold fm_c
      by_cases q : (fm_b t h k).toInt = 99
      · by_cases q2 : (t k).toInt = 99
        · have e2 : fm_b t h (k + 1) = fm_b t h k := by rw [fm_b, if_neg (fun u => u.2.1 q2)]
          have e3 : td_b t k (n + 1) = td_b t (k + 1) n := by rw [td_b, if_pos q2]
          rw [e2, if_pos q, if_pos q, e3]
        · have e2 : fm_b t h (k + 1) = t k := by rw [fm_b, if_pos ⟨hk, q2, q⟩]
          have e3 : td_b t k (n + 1) = t k := by rw [td_b, if_neg q2]
          rw [e2, if_pos q, if_neg q2, e3]
      · have e2 : fm_b t h (k + 1) = fm_b t h k := by rw [fm_b, if_neg (fun u => q u.2.2)]
        rw [e2, if_neg q, if_neg q]
    rw [e1, show k + (n + 1) = k + 1 + n by omega]
    exact ih
theorem fm_b_eq {t : Nat → Int32} {h : Nat} (hh : h < 16) : (fm_b t h 16).toInt = (td_b t h (16 - h)).toInt := by
  have h1 := fm_b_hi (t := t) (h := h) (16 - h) h (Nat.le_refl _)
  have e1 : fm_c t (fm_b t h h) h (16 - h) = td_b t h (16 - h) := by
    unfold fm_c
    rw [fm_b_lo h (Nat.le_refl _), if_pos (by decide +kernel)]
  rw [e1, show h + (16 - h) = 16 by omega] at h1
  rcases h1 with q | ⟨q1, q2⟩
  · rw [q]
  · rw [q1, q2]
def h_mm (mi : Nat → Int32) (ml : Nat → Int64) (t s : Nat → Int32) : cx_H := [(119, .inl (11, vs_119 mi ml)), (122, .inr (.inl (0, 16, t))), (123, .inr (.inl (0, 16, s)))]
theorem fm_loop {d h : Nat} {x y : Int32} {mi : Nat → Int32} {ml : Nat → Int64} {t s : Nat → Int32} {P : Option cx_V → cx_H → Prop} (hx : x.toInt = (h : Int)) (hend : ∀ b2 b3 b4 i : Int32, b2 = fm_a t h 16 → b3 = fm_b t h 16 → b4 = sw_g s 16 → cx_T d 189 [119, 122, 123] 139 ([some (.inr (.inl 119)), some (.inl (.int x)), some (.inl (.int b2)), some (.inl (.int b3)), some (.inl (.int b4)), some (.inl (.int i))], [], h_mm (upi mi 12 y) ml t s) P) : ∀ (n k : Nat), k + n = 16 → ∀ b2 b3 b4 i : Int32, b2 = fm_a t h k → b3 = fm_b t h k → b4 = sw_g s k → i.toInt = k → cx_T d 189 [119, 122, 123] 22 ([some (.inr (.inl 119)), some (.inl (.int x)), some (.inl (.int b2)), some (.inl (.int b3)), some (.inl (.int b4)), some (.inl (.int i))], [], h_mm (upi mi 12 y) ml t s) P := by
  have kc99 : (Int32.ofInt 99).toInt = 99 := by decide +kernel
  have kc16 : (Int32.ofInt 16).toInt = 16 := by decide +kernel
  have kc1 : (Int32.ofInt 1).toInt = 1 := by decide +kernel
  intro n
  induction n with
  | zero =>
    intro k hk b2 b3 b4 i h2 h3 h4 hi
    have ek : k = 16 := by omega
    subst ek
    refine ex_iload cg_189 (ix := 14) (pc' := 24) rfl rfl rfl ?_
    refine ex_bipush cg_189 (ix := 15) (pc' := 26) rfl rfl rfl ?_
    refine ex_icmp cg_189 (ix := 16) (t := 139) (pc' := 29) rfl rfl rfl (fun hb26 => ?_) (fun hb26 => ?_)
    · have hb26 : (Int32.ofInt 16).toInt ≤ i.toInt := hb26
      exact hend _ _ _ _ h2 h3 h4
    · have hb26 : ¬ ((Int32.ofInt 16).toInt ≤ i.toInt) := hb26
      exfalso; first | omega | exact absurd hb26 (by decide +kernel)
  | succ n ih =>
    intro k hk b2 b3 b4 i h2 h3 h4 hi
    have hik : i.toNatClampNeg = k := cx_clamp hi
    have K131 : ∀ z2 z3 z : Int32, z2 = fm_a t h (k + 1) → z3 = fm_b t h (k + 1) → z = sw_g s (k + 1) → cx_T d 189 [119, 122, 123] 131 ([some (.inr (.inl 119)), some (.inl (.int x)), some (.inl (.int z2)), some (.inl (.int z3)), some (.inl (.int b4)), some (.inl (.int i))], [.inl (.int z)], h_mm (upi mi 12 y) ml t s) P := by
      intro z2 z3 z e2 e3 e4
      refine ex_istore cg_189 (ix := 70) (pc' := 133) (L' := [some (.inr (.inl 119)), some (.inl (.int x)), some (.inl (.int z2)), some (.inl (.int z3)), some (.inl (.int z)), some (.inl (.int i))]) rfl rfl rfl rfl ?_
      refine ex_iinc cg_189 (ix := 71) (pc' := 136) (L' := [some (.inr (.inl 119)), some (.inl (.int x)), some (.inl (.int z2)), some (.inl (.int z3)), some (.inl (.int z)), some (.inl (.int (i + Int32.ofInt 1)))]) rfl rfl rfl rfl rfl ?_
      refine ex_goto cg_189 (ix := 72) (pc' := 22) rfl rfl ?_
      exact ih (k + 1) (by omega) _ _ _ _ e2 e3 e4 (by rw [cx_addc (by omega) (by omega)]; omega)
    have K94 : ∀ z2 z : Int32, z2 = fm_a t h (k + 1) → z = fm_b t h (k + 1) → cx_T d 189 [119, 122, 123] 94 ([some (.inr (.inl 119)), some (.inl (.int x)), some (.inl (.int z2)), some (.inl (.int b3)), some (.inl (.int b4)), some (.inl (.int i))], [.inl (.int z)], h_mm (upi mi 12 y) ml t s) P := by
      intro z2 z e2 e3
      refine ex_istore_n cg_189 (ix := 51) (pc' := 95) (L' := [some (.inr (.inl 119)), some (.inl (.int x)), some (.inl (.int z2)), some (.inl (.int z)), some (.inl (.int b4)), some (.inl (.int i))]) rfl rfl rfl rfl ?_
      refine ex_aload_n cg_189 (ix := 52) (pc' := 96) rfl rfl rfl ?_
      refine ex_getfield cg_189 (ix := 53) (pc' := 99) (v := .inr (.inl 123)) rfl rfl rfl rfl rfl ?_
      refine ex_iload cg_189 (ix := 54) (pc' := 101) rfl rfl rfl ?_
      refine ex_iaload cg_189 (ix := 55) (pc' := 102) rfl rfl (by omega) (by omega) rfl ?_
      refine ex_bipush cg_189 (ix := 56) (pc' := 104) rfl rfl rfl ?_
      refine ex_icmp cg_189 (ix := 57) (t := 129) (pc' := 107) rfl rfl rfl (fun hb104 => ?_) (fun hb104 => ?_)
      · have hb104 : (s i.toNatClampNeg).toInt = (Int32.ofInt 99).toInt := hb104
        refine ex_iload cg_189 (ix := 69) (pc' := 131) rfl rfl rfl ?_
        exact K131 _ _ _ e2 e3 (by rw [sw_g, ← h4, if_neg (by first | (rw [hik] at hb104 hb116; omega) | (rw [hik] at hb104; omega))])
      · have hb104 : ¬ ((s i.toNatClampNeg).toInt = (Int32.ofInt 99).toInt) := hb104
        refine ex_aload_n cg_189 (ix := 58) (pc' := 108) rfl rfl rfl ?_
        refine ex_getfield cg_189 (ix := 59) (pc' := 111) (v := .inr (.inl 123)) rfl rfl rfl rfl rfl ?_
        refine ex_iload cg_189 (ix := 60) (pc' := 113) rfl rfl rfl ?_
        refine ex_iaload cg_189 (ix := 61) (pc' := 114) rfl rfl (by omega) (by omega) rfl ?_
        refine ex_iload cg_189 (ix := 62) (pc' := 116) rfl rfl rfl ?_
        refine ex_icmp cg_189 (ix := 63) (t := 129) (pc' := 119) rfl rfl rfl (fun hb116 => ?_) (fun hb116 => ?_)
        · have hb116 : (s i.toNatClampNeg).toInt ≤ b4.toInt := hb116
          refine ex_iload cg_189 (ix := 69) (pc' := 131) rfl rfl rfl ?_
          exact K131 _ _ _ e2 e3 (by rw [sw_g, ← h4, if_neg (by first | (rw [hik] at hb104 hb116; omega) | (rw [hik] at hb104; omega))])
        · have hb116 : ¬ ((s i.toNatClampNeg).toInt ≤ b4.toInt) := hb116
          refine ex_aload_n cg_189 (ix := 64) (pc' := 120) rfl rfl rfl ?_
          refine ex_getfield cg_189 (ix := 65) (pc' := 123) (v := .inr (.inl 123)) rfl rfl rfl rfl rfl ?_
          refine ex_iload cg_189 (ix := 66) (pc' := 125) rfl rfl rfl ?_
          refine ex_iaload cg_189 (ix := 67) (pc' := 126) rfl rfl (by omega) (by omega) rfl ?_
          refine ex_goto cg_189 (ix := 68) (pc' := 131) rfl rfl ?_
          exact K131 _ _ _ e2 e3 (by rw [hik] at hb104 hb116 ⊢; rw [sw_g, ← h4, if_pos ⟨by omega, by omega⟩])
    have K58 : ∀ z : Int32, z = fm_a t h (k + 1) → cx_T d 189 [119, 122, 123] 58 ([some (.inr (.inl 119)), some (.inl (.int x)), some (.inl (.int b2)), some (.inl (.int b3)), some (.inl (.int b4)), some (.inl (.int i))], [.inl (.int z)], h_mm (upi mi 12 y) ml t s) P := by
      intro z e2
      refine ex_istore_n cg_189 (ix := 32) (pc' := 59) (L' := [some (.inr (.inl 119)), some (.inl (.int x)), some (.inl (.int z)), some (.inl (.int b3)), some (.inl (.int b4)), some (.inl (.int i))]) rfl rfl rfl rfl ?_
      refine ex_iload cg_189 (ix := 33) (pc' := 61) rfl rfl rfl ?_
      refine ex_iload_n cg_189 (ix := 34) (pc' := 62) rfl rfl rfl ?_
      refine ex_icmp cg_189 (ix := 35) (t := 93) (pc' := 65) rfl rfl rfl (fun hb62 => ?_) (fun hb62 => ?_)
      · have hb62 : i.toInt < x.toInt := hb62
        refine ex_iload_n cg_189 (ix := 50) (pc' := 94) rfl rfl rfl ?_
        exact K94 _ _ e2 (by rw [fm_b, ← h3, if_neg (by first | omega | (rw [hik] at hb74; omega))])
      · have hb62 : ¬ (i.toInt < x.toInt) := hb62
        refine ex_aload_n cg_189 (ix := 36) (pc' := 66) rfl rfl rfl ?_
        refine ex_getfield cg_189 (ix := 37) (pc' := 69) (v := .inr (.inl 122)) rfl rfl rfl rfl rfl ?_
        refine ex_iload cg_189 (ix := 38) (pc' := 71) rfl rfl rfl ?_
        refine ex_iaload cg_189 (ix := 39) (pc' := 72) rfl rfl (by omega) (by omega) rfl ?_
        refine ex_bipush cg_189 (ix := 40) (pc' := 74) rfl rfl rfl ?_
        refine ex_icmp cg_189 (ix := 41) (t := 93) (pc' := 77) rfl rfl rfl (fun hb74 => ?_) (fun hb74 => ?_)
        · have hb74 : (t i.toNatClampNeg).toInt = (Int32.ofInt 99).toInt := hb74
          refine ex_iload_n cg_189 (ix := 50) (pc' := 94) rfl rfl rfl ?_
          exact K94 _ _ e2 (by rw [fm_b, ← h3, if_neg (by first | omega | (rw [hik] at hb74; omega))])
        · have hb74 : ¬ ((t i.toNatClampNeg).toInt = (Int32.ofInt 99).toInt) := hb74
          refine ex_iload_n cg_189 (ix := 42) (pc' := 78) rfl rfl rfl ?_
          refine ex_bipush cg_189 (ix := 43) (pc' := 80) rfl rfl rfl ?_
          refine ex_icmp cg_189 (ix := 44) (t := 93) (pc' := 83) rfl rfl rfl (fun hb80 => ?_) (fun hb80 => ?_)
          · have hb80 : ¬ b3.toInt = (Int32.ofInt 99).toInt := hb80
            refine ex_iload_n cg_189 (ix := 50) (pc' := 94) rfl rfl rfl ?_
            exact K94 _ _ e2 (by rw [fm_b, ← h3, if_neg (by first | omega | (rw [hik] at hb74; omega))])
          · have hb80 : ¬ (¬ b3.toInt = (Int32.ofInt 99).toInt) := hb80
            refine ex_aload_n cg_189 (ix := 45) (pc' := 84) rfl rfl rfl ?_
            refine ex_getfield cg_189 (ix := 46) (pc' := 87) (v := .inr (.inl 122)) rfl rfl rfl rfl rfl ?_
            refine ex_iload cg_189 (ix := 47) (pc' := 89) rfl rfl rfl ?_
            refine ex_iaload cg_189 (ix := 48) (pc' := 90) rfl rfl (by omega) (by omega) rfl ?_
            refine ex_goto cg_189 (ix := 49) (pc' := 94) rfl rfl ?_
            exact K94 _ _ e2 (by rw [hik] at hb74 ⊢; rw [fm_b, ← h3, if_pos ⟨by omega, by omega, by omega⟩])
    refine ex_iload cg_189 (ix := 14) (pc' := 24) rfl rfl rfl ?_
    refine ex_bipush cg_189 (ix := 15) (pc' := 26) rfl rfl rfl ?_
    refine ex_icmp cg_189 (ix := 16) (t := 139) (pc' := 29) rfl rfl rfl (fun hb26 => ?_) (fun hb26 => ?_)
    · have hb26 : (Int32.ofInt 16).toInt ≤ i.toInt := hb26
      exfalso; first | omega | exact absurd hb26 (by decide +kernel)
    · have hb26 : ¬ ((Int32.ofInt 16).toInt ≤ i.toInt) := hb26
      refine ex_iload cg_189 (ix := 17) (pc' := 31) rfl rfl rfl ?_
      refine ex_iload_n cg_189 (ix := 18) (pc' := 32) rfl rfl rfl ?_
      refine ex_icmp cg_189 (ix := 19) (t := 57) (pc' := 35) rfl rfl rfl (fun hb32 => ?_) (fun hb32 => ?_)
      · have hb32 : x.toInt < i.toInt := hb32
        refine ex_iload_n cg_189 (ix := 31) (pc' := 58) rfl rfl rfl ?_
        exact K58 _ (by rw [fm_a, ← h2, if_neg (by first | omega | (rw [hik] at hb44; omega))])
      · have hb32 : ¬ (x.toInt < i.toInt) := hb32
        refine ex_aload_n cg_189 (ix := 20) (pc' := 36) rfl rfl rfl ?_
        refine ex_getfield cg_189 (ix := 21) (pc' := 39) (v := .inr (.inl 122)) rfl rfl rfl rfl rfl ?_
        refine ex_iload cg_189 (ix := 22) (pc' := 41) rfl rfl rfl ?_
        refine ex_iaload cg_189 (ix := 23) (pc' := 42) rfl rfl (by omega) (by omega) rfl ?_
        refine ex_bipush cg_189 (ix := 24) (pc' := 44) rfl rfl rfl ?_
        refine ex_icmp cg_189 (ix := 25) (t := 57) (pc' := 47) rfl rfl rfl (fun hb44 => ?_) (fun hb44 => ?_)
        · have hb44 : (t i.toNatClampNeg).toInt = (Int32.ofInt 99).toInt := hb44
          refine ex_iload_n cg_189 (ix := 31) (pc' := 58) rfl rfl rfl ?_
          exact K58 _ (by rw [fm_a, ← h2, if_neg (by first | omega | (rw [hik] at hb44; omega))])
        · have hb44 : ¬ ((t i.toNatClampNeg).toInt = (Int32.ofInt 99).toInt) := hb44
          refine ex_aload_n cg_189 (ix := 26) (pc' := 48) rfl rfl rfl ?_
          refine ex_getfield cg_189 (ix := 27) (pc' := 51) (v := .inr (.inl 122)) rfl rfl rfl rfl rfl ?_
          refine ex_iload cg_189 (ix := 28) (pc' := 53) rfl rfl rfl ?_
          refine ex_iaload cg_189 (ix := 29) (pc' := 54) rfl rfl (by omega) (by omega) rfl ?_
          refine ex_goto cg_189 (ix := 30) (pc' := 58) rfl rfl ?_
          exact K58 _ (by rw [hik] at hb44 ⊢; rw [fm_a, ← h2, if_pos ⟨by omega, by omega⟩])
theorem fm_tides {d h : Nat} {x b2 b3 b4 i : Int32} {mi : Nat → Int32} {ml : Nat → Int64} {t s : Nat → Int32} {P : Option cx_V → cx_H → Prop} (h2 : tdU b2.toInt) (h3 : tdU b3.toInt) (hP : ∀ l m : Int32, l.toInt = td_lo b2.toInt b3.toInt → m.toInt = td_hi b2.toInt b3.toInt → P none (h_mm (upi (upi (upi mi 10 l) 11 m) 12 (sw_x s h)) ml t s)) : cx_T d 189 [119, 122, 123] 164 ([some (.inr (.inl 119)), some (.inl (.int x)), some (.inl (.int b2)), some (.inl (.int b3)), some (.inl (.int b4)), some (.inl (.int i))], [], h_mm (upi mi 12 (sw_x s h)) ml t s) P := by
  unfold tdU at h2 h3
  have kc99 : (Int32.ofInt 99).toInt = 99 := by decide +kernel
  have kc9 : (Int32.ofInt 9).toInt = 9 := by decide +kernel
  have kcm9 : (Int32.ofInt (-9)).toInt = -9 := by decide +kernel
  have kc6 : (Int32.ofInt 6).toInt = 6 := by decide +kernel
  have kcm6 : (Int32.ofInt (-6)).toInt = -6 := by decide +kernel
  have kc3 : (Int32.ofInt 3).toInt = 3 := by decide +kernel
  refine ex_iload_n cg_189 (ix := 84) (pc' := 165) rfl rfl rfl ?_
  refine ex_bipush cg_189 (ix := 85) (pc' := 167) rfl rfl rfl ?_
  refine ex_icmp cg_189 (ix := 86) (t := 207) (pc' := 170) rfl rfl rfl (fun hb167 => ?_) (fun hb167 => ?_)
  · have hb167 : b2.toInt = (Int32.ofInt 99).toInt := hb167
    refine ex_iload_n cg_189 (ix := 107) (pc' := 208) rfl rfl rfl ?_
    refine ex_bipush cg_189 (ix := 108) (pc' := 210) rfl rfl rfl ?_
    refine ex_icmp cg_189 (ix := 109) (t := 217) (pc' := 213) rfl rfl rfl (fun hb210 => ?_) (fun hb210 => ?_)
    · have hb210 : b2.toInt = (Int32.ofInt 99).toInt := hb210
      refine ex_iload_n cg_189 (ix := 112) (pc' := 218) rfl rfl rfl ?_
      refine ex_istore cg_189 (ix := 113) (pc' := 220) (L' := [some (.inr (.inl 119)), some (.inl (.int x)), some (.inl (.int b2)), some (.inl (.int b3)), some (.inl (.int b4)), some (.inl (.int b3))]) rfl rfl rfl rfl ?_
      refine ex_aload_n cg_189 (ix := 114) (pc' := 221) rfl rfl rfl ?_
      refine ex_iload cg_189 (ix := 115) (pc' := 223) rfl rfl rfl ?_
      refine ex_bipush cg_189 (ix := 116) (pc' := 225) rfl rfl rfl ?_
      refine ex_icmp cg_189 (ix := 117) (t := 235) (pc' := 228) rfl rfl rfl (fun hb225 => ?_) (fun hb225 => ?_)
      · have hb225 : b3.toInt = (Int32.ofInt 99).toInt := hb225
        refine ex_bipush cg_189 (ix := 121) (pc' := 237) rfl rfl rfl ?_
        refine ex_goto cg_189 (ix := 122) (pc' := 244) rfl rfl ?_
        refine ex_putfield cg_189 (ix := 126) (pc' := 247) (h' := [(119, .inl (11, vs_119 (upi (upi mi 10 (Int32.ofInt (-9))) 12 (sw_x s h)) ml)), (122, .inr (.inl (0, 16, t))), (123, .inr (.inl (0, 16, s)))]) rfl rfl rfl rfl rfl rfl rfl rfl ?_
        refine ex_aload_n cg_189 (ix := 127) (pc' := 248) rfl rfl rfl ?_
        refine ex_iload cg_189 (ix := 128) (pc' := 250) rfl rfl rfl ?_
        refine ex_bipush cg_189 (ix := 129) (pc' := 252) rfl rfl rfl ?_
        refine ex_icmp cg_189 (ix := 130) (t := 262) (pc' := 255) rfl rfl rfl (fun hb252 => ?_) (fun hb252 => ?_)
        · have hb252 : b3.toInt = (Int32.ofInt 99).toInt := hb252
          refine ex_bipush cg_189 (ix := 134) (pc' := 264) rfl rfl rfl ?_
          refine ex_goto cg_189 (ix := 135) (pc' := 271) rfl rfl ?_
          refine ex_putfield cg_189 (ix := 139) (pc' := 274) (h' := [(119, .inl (11, vs_119 (upi (upi (upi mi 10 (Int32.ofInt (-9))) 11 (Int32.ofInt 9)) 12 (sw_x s h)) ml)), (122, .inr (.inl (0, 16, t))), (123, .inr (.inl (0, 16, s)))]) rfl rfl rfl rfl rfl rfl rfl rfl ?_
          refine ex_return_ cg_189 (ix := 140) rfl ?_
          refine hP _ _ ?_ ?_
          · unfold td_lo
            first | (rw [if_pos ⟨by omega, by omega⟩]; omega) | (rw [if_neg (by omega), if_pos ⟨by omega, by omega⟩]; omega) | (rw [if_neg (by omega), if_neg (by omega)]; first | omega | (rw [cx_subc (by omega) (by omega)]; omega))
          · unfold td_hi
            first | (rw [if_pos ⟨by omega, by omega⟩]; omega) | (rw [if_neg (by omega)]; first | omega | (rw [cx_addc (by omega) (by omega)]; omega))
        · have hb252 : ¬ (b3.toInt = (Int32.ofInt 99).toInt) := hb252
          refine ex_iload cg_189 (ix := 131) (pc' := 257) rfl rfl rfl ?_
          refine ex_bipush cg_189 (ix := 132) (pc' := 259) rfl rfl rfl ?_
          refine ex_icmp cg_189 (ix := 133) (t := 267) (pc' := 262) rfl rfl rfl (fun hb259 => ?_) (fun hb259 => ?_)
          · have hb259 : b3.toInt ≤ (Int32.ofInt 6).toInt := hb259
            refine ex_iload cg_189 (ix := 136) (pc' := 269) rfl rfl rfl ?_
            refine ex_iconst cg_189 (ix := 137) (pc' := 270) rfl rfl ?_
            refine ex_iadd cg_189 (ix := 138) (pc' := 271) rfl rfl ?_
            refine ex_putfield cg_189 (ix := 139) (pc' := 274) (h' := [(119, .inl (11, vs_119 (upi (upi (upi mi 10 (Int32.ofInt (-9))) 11 (b3 + (Int32.ofInt 3))) 12 (sw_x s h)) ml)), (122, .inr (.inl (0, 16, t))), (123, .inr (.inl (0, 16, s)))]) rfl rfl rfl rfl rfl rfl rfl rfl ?_
            refine ex_return_ cg_189 (ix := 140) rfl ?_
            refine hP _ _ ?_ ?_
            · unfold td_lo
              first | (rw [if_pos ⟨by omega, by omega⟩]; omega) | (rw [if_neg (by omega), if_pos ⟨by omega, by omega⟩]; omega) | (rw [if_neg (by omega), if_neg (by omega)]; first | omega | (rw [cx_subc (by omega) (by omega)]; omega))
            · unfold td_hi
              first | (rw [if_pos ⟨by omega, by omega⟩]; omega) | (rw [if_neg (by omega)]; first | omega | (rw [cx_addc (by omega) (by omega)]; omega))
          · have hb259 : ¬ (b3.toInt ≤ (Int32.ofInt 6).toInt) := hb259
            refine ex_bipush cg_189 (ix := 134) (pc' := 264) rfl rfl rfl ?_
            refine ex_goto cg_189 (ix := 135) (pc' := 271) rfl rfl ?_
            refine ex_putfield cg_189 (ix := 139) (pc' := 274) (h' := [(119, .inl (11, vs_119 (upi (upi (upi mi 10 (Int32.ofInt (-9))) 11 (Int32.ofInt 9)) 12 (sw_x s h)) ml)), (122, .inr (.inl (0, 16, t))), (123, .inr (.inl (0, 16, s)))]) rfl rfl rfl rfl rfl rfl rfl rfl ?_
            refine ex_return_ cg_189 (ix := 140) rfl ?_
            refine hP _ _ ?_ ?_
            · unfold td_lo
              first | (rw [if_pos ⟨by omega, by omega⟩]; omega) | (rw [if_neg (by omega), if_pos ⟨by omega, by omega⟩]; omega) | (rw [if_neg (by omega), if_neg (by omega)]; first | omega | (rw [cx_subc (by omega) (by omega)]; omega))
            · unfold td_hi
              first | (rw [if_pos ⟨by omega, by omega⟩]; omega) | (rw [if_neg (by omega)]; first | omega | (rw [cx_addc (by omega) (by omega)]; omega))
      · have hb225 : ¬ (b3.toInt = (Int32.ofInt 99).toInt) := hb225
        refine ex_iload cg_189 (ix := 118) (pc' := 230) rfl rfl rfl ?_
        refine ex_bipush cg_189 (ix := 119) (pc' := 232) rfl rfl rfl ?_
        refine ex_icmp cg_189 (ix := 120) (t := 240) (pc' := 235) rfl rfl rfl (fun hb232 => ?_) (fun hb232 => ?_)
        · have hb232 : (Int32.ofInt (-6)).toInt ≤ b3.toInt := hb232
          refine ex_iload cg_189 (ix := 123) (pc' := 242) rfl rfl rfl ?_
          refine ex_iconst cg_189 (ix := 124) (pc' := 243) rfl rfl ?_
          refine ex_isub cg_189 (ix := 125) (pc' := 244) rfl rfl ?_
          refine ex_putfield cg_189 (ix := 126) (pc' := 247) (h' := [(119, .inl (11, vs_119 (upi (upi mi 10 (b3 - (Int32.ofInt 3))) 12 (sw_x s h)) ml)), (122, .inr (.inl (0, 16, t))), (123, .inr (.inl (0, 16, s)))]) rfl rfl rfl rfl rfl rfl rfl rfl ?_
          refine ex_aload_n cg_189 (ix := 127) (pc' := 248) rfl rfl rfl ?_
          refine ex_iload cg_189 (ix := 128) (pc' := 250) rfl rfl rfl ?_
          refine ex_bipush cg_189 (ix := 129) (pc' := 252) rfl rfl rfl ?_
          refine ex_icmp cg_189 (ix := 130) (t := 262) (pc' := 255) rfl rfl rfl (fun hb252 => ?_) (fun hb252 => ?_)
          · have hb252 : b3.toInt = (Int32.ofInt 99).toInt := hb252
            refine ex_bipush cg_189 (ix := 134) (pc' := 264) rfl rfl rfl ?_
            refine ex_goto cg_189 (ix := 135) (pc' := 271) rfl rfl ?_
            refine ex_putfield cg_189 (ix := 139) (pc' := 274) (h' := [(119, .inl (11, vs_119 (upi (upi (upi mi 10 (b3 - (Int32.ofInt 3))) 11 (Int32.ofInt 9)) 12 (sw_x s h)) ml)), (122, .inr (.inl (0, 16, t))), (123, .inr (.inl (0, 16, s)))]) rfl rfl rfl rfl rfl rfl rfl rfl ?_
            refine ex_return_ cg_189 (ix := 140) rfl ?_
            refine hP _ _ ?_ ?_
            · unfold td_lo
              first | (rw [if_pos ⟨by omega, by omega⟩]; omega) | (rw [if_neg (by omega), if_pos ⟨by omega, by omega⟩]; omega) | (rw [if_neg (by omega), if_neg (by omega)]; first | omega | (rw [cx_subc (by omega) (by omega)]; omega))
            · unfold td_hi
              first | (rw [if_pos ⟨by omega, by omega⟩]; omega) | (rw [if_neg (by omega)]; first | omega | (rw [cx_addc (by omega) (by omega)]; omega))
          · have hb252 : ¬ (b3.toInt = (Int32.ofInt 99).toInt) := hb252
            refine ex_iload cg_189 (ix := 131) (pc' := 257) rfl rfl rfl ?_
            refine ex_bipush cg_189 (ix := 132) (pc' := 259) rfl rfl rfl ?_
            refine ex_icmp cg_189 (ix := 133) (t := 267) (pc' := 262) rfl rfl rfl (fun hb259 => ?_) (fun hb259 => ?_)
            · have hb259 : b3.toInt ≤ (Int32.ofInt 6).toInt := hb259
              refine ex_iload cg_189 (ix := 136) (pc' := 269) rfl rfl rfl ?_
              refine ex_iconst cg_189 (ix := 137) (pc' := 270) rfl rfl ?_
              refine ex_iadd cg_189 (ix := 138) (pc' := 271) rfl rfl ?_
              refine ex_putfield cg_189 (ix := 139) (pc' := 274) (h' := [(119, .inl (11, vs_119 (upi (upi (upi mi 10 (b3 - (Int32.ofInt 3))) 11 (b3 + (Int32.ofInt 3))) 12 (sw_x s h)) ml)), (122, .inr (.inl (0, 16, t))), (123, .inr (.inl (0, 16, s)))]) rfl rfl rfl rfl rfl rfl rfl rfl ?_
              refine ex_return_ cg_189 (ix := 140) rfl ?_
              refine hP _ _ ?_ ?_
              · unfold td_lo
                first | (rw [if_pos ⟨by omega, by omega⟩]; omega) | (rw [if_neg (by omega), if_pos ⟨by omega, by omega⟩]; omega) | (rw [if_neg (by omega), if_neg (by omega)]; first | omega | (rw [cx_subc (by omega) (by omega)]; omega))
              · unfold td_hi
                first | (rw [if_pos ⟨by omega, by omega⟩]; omega) | (rw [if_neg (by omega)]; first | omega | (rw [cx_addc (by omega) (by omega)]; omega))
            · have hb259 : ¬ (b3.toInt ≤ (Int32.ofInt 6).toInt) := hb259
              refine ex_bipush cg_189 (ix := 134) (pc' := 264) rfl rfl rfl ?_
              refine ex_goto cg_189 (ix := 135) (pc' := 271) rfl rfl ?_
              refine ex_putfield cg_189 (ix := 139) (pc' := 274) (h' := [(119, .inl (11, vs_119 (upi (upi (upi mi 10 (b3 - (Int32.ofInt 3))) 11 (Int32.ofInt 9)) 12 (sw_x s h)) ml)), (122, .inr (.inl (0, 16, t))), (123, .inr (.inl (0, 16, s)))]) rfl rfl rfl rfl rfl rfl rfl rfl ?_
              refine ex_return_ cg_189 (ix := 140) rfl ?_
              refine hP _ _ ?_ ?_
              · unfold td_lo
                first | (rw [if_pos ⟨by omega, by omega⟩]; omega) | (rw [if_neg (by omega), if_pos ⟨by omega, by omega⟩]; omega) | (rw [if_neg (by omega), if_neg (by omega)]; first | omega | (rw [cx_subc (by omega) (by omega)]; omega))
              · unfold td_hi
                first | (rw [if_pos ⟨by omega, by omega⟩]; omega) | (rw [if_neg (by omega)]; first | omega | (rw [cx_addc (by omega) (by omega)]; omega))
        · have hb232 : ¬ ((Int32.ofInt (-6)).toInt ≤ b3.toInt) := hb232
          refine ex_bipush cg_189 (ix := 121) (pc' := 237) rfl rfl rfl ?_
          refine ex_goto cg_189 (ix := 122) (pc' := 244) rfl rfl ?_
          refine ex_putfield cg_189 (ix := 126) (pc' := 247) (h' := [(119, .inl (11, vs_119 (upi (upi mi 10 (Int32.ofInt (-9))) 12 (sw_x s h)) ml)), (122, .inr (.inl (0, 16, t))), (123, .inr (.inl (0, 16, s)))]) rfl rfl rfl rfl rfl rfl rfl rfl ?_
          refine ex_aload_n cg_189 (ix := 127) (pc' := 248) rfl rfl rfl ?_
          refine ex_iload cg_189 (ix := 128) (pc' := 250) rfl rfl rfl ?_
          refine ex_bipush cg_189 (ix := 129) (pc' := 252) rfl rfl rfl ?_
          refine ex_icmp cg_189 (ix := 130) (t := 262) (pc' := 255) rfl rfl rfl (fun hb252 => ?_) (fun hb252 => ?_)
          · have hb252 : b3.toInt = (Int32.ofInt 99).toInt := hb252
            refine ex_bipush cg_189 (ix := 134) (pc' := 264) rfl rfl rfl ?_
            refine ex_goto cg_189 (ix := 135) (pc' := 271) rfl rfl ?_
            refine ex_putfield cg_189 (ix := 139) (pc' := 274) (h' := [(119, .inl (11, vs_119 (upi (upi (upi mi 10 (Int32.ofInt (-9))) 11 (Int32.ofInt 9)) 12 (sw_x s h)) ml)), (122, .inr (.inl (0, 16, t))), (123, .inr (.inl (0, 16, s)))]) rfl rfl rfl rfl rfl rfl rfl rfl ?_
            refine ex_return_ cg_189 (ix := 140) rfl ?_
            refine hP _ _ ?_ ?_
            · unfold td_lo
              first | (rw [if_pos ⟨by omega, by omega⟩]; omega) | (rw [if_neg (by omega), if_pos ⟨by omega, by omega⟩]; omega) | (rw [if_neg (by omega), if_neg (by omega)]; first | omega | (rw [cx_subc (by omega) (by omega)]; omega))
            · unfold td_hi
              first | (rw [if_pos ⟨by omega, by omega⟩]; omega) | (rw [if_neg (by omega)]; first | omega | (rw [cx_addc (by omega) (by omega)]; omega))
          · have hb252 : ¬ (b3.toInt = (Int32.ofInt 99).toInt) := hb252
            refine ex_iload cg_189 (ix := 131) (pc' := 257) rfl rfl rfl ?_
            refine ex_bipush cg_189 (ix := 132) (pc' := 259) rfl rfl rfl ?_
            refine ex_icmp cg_189 (ix := 133) (t := 267) (pc' := 262) rfl rfl rfl (fun hb259 => ?_) (fun hb259 => ?_)
            · have hb259 : b3.toInt ≤ (Int32.ofInt 6).toInt := hb259
              refine ex_iload cg_189 (ix := 136) (pc' := 269) rfl rfl rfl ?_
              refine ex_iconst cg_189 (ix := 137) (pc' := 270) rfl rfl ?_
              refine ex_iadd cg_189 (ix := 138) (pc' := 271) rfl rfl ?_
              refine ex_putfield cg_189 (ix := 139) (pc' := 274) (h' := [(119, .inl (11, vs_119 (upi (upi (upi mi 10 (Int32.ofInt (-9))) 11 (b3 + (Int32.ofInt 3))) 12 (sw_x s h)) ml)), (122, .inr (.inl (0, 16, t))), (123, .inr (.inl (0, 16, s)))]) rfl rfl rfl rfl rfl rfl rfl rfl ?_
              refine ex_return_ cg_189 (ix := 140) rfl ?_
              refine hP _ _ ?_ ?_
              · unfold td_lo
                first | (rw [if_pos ⟨by omega, by omega⟩]; omega) | (rw [if_neg (by omega), if_pos ⟨by omega, by omega⟩]; omega) | (rw [if_neg (by omega), if_neg (by omega)]; first | omega | (rw [cx_subc (by omega) (by omega)]; omega))
              · unfold td_hi
                first | (rw [if_pos ⟨by omega, by omega⟩]; omega) | (rw [if_neg (by omega)]; first | omega | (rw [cx_addc (by omega) (by omega)]; omega))
            · have hb259 : ¬ (b3.toInt ≤ (Int32.ofInt 6).toInt) := hb259
              refine ex_bipush cg_189 (ix := 134) (pc' := 264) rfl rfl rfl ?_
              refine ex_goto cg_189 (ix := 135) (pc' := 271) rfl rfl ?_
              refine ex_putfield cg_189 (ix := 139) (pc' := 274) (h' := [(119, .inl (11, vs_119 (upi (upi (upi mi 10 (Int32.ofInt (-9))) 11 (Int32.ofInt 9)) 12 (sw_x s h)) ml)), (122, .inr (.inl (0, 16, t))), (123, .inr (.inl (0, 16, s)))]) rfl rfl rfl rfl rfl rfl rfl rfl ?_
              refine ex_return_ cg_189 (ix := 140) rfl ?_
              refine hP _ _ ?_ ?_
              · unfold td_lo
                first | (rw [if_pos ⟨by omega, by omega⟩]; omega) | (rw [if_neg (by omega), if_pos ⟨by omega, by omega⟩]; omega) | (rw [if_neg (by omega), if_neg (by omega)]; first | omega | (rw [cx_subc (by omega) (by omega)]; omega))
              · unfold td_hi
                first | (rw [if_pos ⟨by omega, by omega⟩]; omega) | (rw [if_neg (by omega)]; first | omega | (rw [cx_addc (by omega) (by omega)]; omega))
    · have hb210 : ¬ (b2.toInt = (Int32.ofInt 99).toInt) := hb210
      refine ex_iload_n cg_189 (ix := 110) (pc' := 214) rfl rfl rfl ?_
      refine ex_goto cg_189 (ix := 111) (pc' := 218) rfl rfl ?_
      refine ex_istore cg_189 (ix := 113) (pc' := 220) (L' := [some (.inr (.inl 119)), some (.inl (.int x)), some (.inl (.int b2)), some (.inl (.int b3)), some (.inl (.int b4)), some (.inl (.int b2))]) rfl rfl rfl rfl ?_
      refine ex_aload_n cg_189 (ix := 114) (pc' := 221) rfl rfl rfl ?_
      refine ex_iload cg_189 (ix := 115) (pc' := 223) rfl rfl rfl ?_
      refine ex_bipush cg_189 (ix := 116) (pc' := 225) rfl rfl rfl ?_
      refine ex_icmp cg_189 (ix := 117) (t := 235) (pc' := 228) rfl rfl rfl (fun hb225 => ?_) (fun hb225 => ?_)
      · have hb225 : b2.toInt = (Int32.ofInt 99).toInt := hb225
        refine ex_bipush cg_189 (ix := 121) (pc' := 237) rfl rfl rfl ?_
        refine ex_goto cg_189 (ix := 122) (pc' := 244) rfl rfl ?_
        refine ex_putfield cg_189 (ix := 126) (pc' := 247) (h' := [(119, .inl (11, vs_119 (upi (upi mi 10 (Int32.ofInt (-9))) 12 (sw_x s h)) ml)), (122, .inr (.inl (0, 16, t))), (123, .inr (.inl (0, 16, s)))]) rfl rfl rfl rfl rfl rfl rfl rfl ?_
        refine ex_aload_n cg_189 (ix := 127) (pc' := 248) rfl rfl rfl ?_
        refine ex_iload cg_189 (ix := 128) (pc' := 250) rfl rfl rfl ?_
        refine ex_bipush cg_189 (ix := 129) (pc' := 252) rfl rfl rfl ?_
        refine ex_icmp cg_189 (ix := 130) (t := 262) (pc' := 255) rfl rfl rfl (fun hb252 => ?_) (fun hb252 => ?_)
        · have hb252 : b2.toInt = (Int32.ofInt 99).toInt := hb252
          refine ex_bipush cg_189 (ix := 134) (pc' := 264) rfl rfl rfl ?_
          refine ex_goto cg_189 (ix := 135) (pc' := 271) rfl rfl ?_
          refine ex_putfield cg_189 (ix := 139) (pc' := 274) (h' := [(119, .inl (11, vs_119 (upi (upi (upi mi 10 (Int32.ofInt (-9))) 11 (Int32.ofInt 9)) 12 (sw_x s h)) ml)), (122, .inr (.inl (0, 16, t))), (123, .inr (.inl (0, 16, s)))]) rfl rfl rfl rfl rfl rfl rfl rfl ?_
          refine ex_return_ cg_189 (ix := 140) rfl ?_
          refine hP _ _ ?_ ?_
          · unfold td_lo
            first | (rw [if_pos ⟨by omega, by omega⟩]; omega) | (rw [if_neg (by omega), if_pos ⟨by omega, by omega⟩]; omega) | (rw [if_neg (by omega), if_neg (by omega)]; first | omega | (rw [cx_subc (by omega) (by omega)]; omega))
          · unfold td_hi
            first | (rw [if_pos ⟨by omega, by omega⟩]; omega) | (rw [if_neg (by omega)]; first | omega | (rw [cx_addc (by omega) (by omega)]; omega))
        · have hb252 : ¬ (b2.toInt = (Int32.ofInt 99).toInt) := hb252
          refine ex_iload cg_189 (ix := 131) (pc' := 257) rfl rfl rfl ?_
          refine ex_bipush cg_189 (ix := 132) (pc' := 259) rfl rfl rfl ?_
          refine ex_icmp cg_189 (ix := 133) (t := 267) (pc' := 262) rfl rfl rfl (fun hb259 => ?_) (fun hb259 => ?_)
          · have hb259 : b2.toInt ≤ (Int32.ofInt 6).toInt := hb259
            refine ex_iload cg_189 (ix := 136) (pc' := 269) rfl rfl rfl ?_
            refine ex_iconst cg_189 (ix := 137) (pc' := 270) rfl rfl ?_
            refine ex_iadd cg_189 (ix := 138) (pc' := 271) rfl rfl ?_
            refine ex_putfield cg_189 (ix := 139) (pc' := 274) (h' := [(119, .inl (11, vs_119 (upi (upi (upi mi 10 (Int32.ofInt (-9))) 11 (b2 + (Int32.ofInt 3))) 12 (sw_x s h)) ml)), (122, .inr (.inl (0, 16, t))), (123, .inr (.inl (0, 16, s)))]) rfl rfl rfl rfl rfl rfl rfl rfl ?_
            refine ex_return_ cg_189 (ix := 140) rfl ?_
            refine hP _ _ ?_ ?_
            · unfold td_lo
              first | (rw [if_pos ⟨by omega, by omega⟩]; omega) | (rw [if_neg (by omega), if_pos ⟨by omega, by omega⟩]; omega) | (rw [if_neg (by omega), if_neg (by omega)]; first | omega | (rw [cx_subc (by omega) (by omega)]; omega))
            · unfold td_hi
              first | (rw [if_pos ⟨by omega, by omega⟩]; omega) | (rw [if_neg (by omega)]; first | omega | (rw [cx_addc (by omega) (by omega)]; omega))
          · have hb259 : ¬ (b2.toInt ≤ (Int32.ofInt 6).toInt) := hb259
            refine ex_bipush cg_189 (ix := 134) (pc' := 264) rfl rfl rfl ?_
            refine ex_goto cg_189 (ix := 135) (pc' := 271) rfl rfl ?_
            refine ex_putfield cg_189 (ix := 139) (pc' := 274) (h' := [(119, .inl (11, vs_119 (upi (upi (upi mi 10 (Int32.ofInt (-9))) 11 (Int32.ofInt 9)) 12 (sw_x s h)) ml)), (122, .inr (.inl (0, 16, t))), (123, .inr (.inl (0, 16, s)))]) rfl rfl rfl rfl rfl rfl rfl rfl ?_
            refine ex_return_ cg_189 (ix := 140) rfl ?_
            refine hP _ _ ?_ ?_
            · unfold td_lo
              first | (rw [if_pos ⟨by omega, by omega⟩]; omega) | (rw [if_neg (by omega), if_pos ⟨by omega, by omega⟩]; omega) | (rw [if_neg (by omega), if_neg (by omega)]; first | omega | (rw [cx_subc (by omega) (by omega)]; omega))
            · unfold td_hi
              first | (rw [if_pos ⟨by omega, by omega⟩]; omega) | (rw [if_neg (by omega)]; first | omega | (rw [cx_addc (by omega) (by omega)]; omega))
      · have hb225 : ¬ (b2.toInt = (Int32.ofInt 99).toInt) := hb225
        refine ex_iload cg_189 (ix := 118) (pc' := 230) rfl rfl rfl ?_
        refine ex_bipush cg_189 (ix := 119) (pc' := 232) rfl rfl rfl ?_
        refine ex_icmp cg_189 (ix := 120) (t := 240) (pc' := 235) rfl rfl rfl (fun hb232 => ?_) (fun hb232 => ?_)
        · have hb232 : (Int32.ofInt (-6)).toInt ≤ b2.toInt := hb232
          refine ex_iload cg_189 (ix := 123) (pc' := 242) rfl rfl rfl ?_
          refine ex_iconst cg_189 (ix := 124) (pc' := 243) rfl rfl ?_
          refine ex_isub cg_189 (ix := 125) (pc' := 244) rfl rfl ?_
          refine ex_putfield cg_189 (ix := 126) (pc' := 247) (h' := [(119, .inl (11, vs_119 (upi (upi mi 10 (b2 - (Int32.ofInt 3))) 12 (sw_x s h)) ml)), (122, .inr (.inl (0, 16, t))), (123, .inr (.inl (0, 16, s)))]) rfl rfl rfl rfl rfl rfl rfl rfl ?_
          refine ex_aload_n cg_189 (ix := 127) (pc' := 248) rfl rfl rfl ?_
          refine ex_iload cg_189 (ix := 128) (pc' := 250) rfl rfl rfl ?_
          refine ex_bipush cg_189 (ix := 129) (pc' := 252) rfl rfl rfl ?_
          refine ex_icmp cg_189 (ix := 130) (t := 262) (pc' := 255) rfl rfl rfl (fun hb252 => ?_) (fun hb252 => ?_)
          · have hb252 : b2.toInt = (Int32.ofInt 99).toInt := hb252
            refine ex_bipush cg_189 (ix := 134) (pc' := 264) rfl rfl rfl ?_
            refine ex_goto cg_189 (ix := 135) (pc' := 271) rfl rfl ?_
            refine ex_putfield cg_189 (ix := 139) (pc' := 274) (h' := [(119, .inl (11, vs_119 (upi (upi (upi mi 10 (b2 - (Int32.ofInt 3))) 11 (Int32.ofInt 9)) 12 (sw_x s h)) ml)), (122, .inr (.inl (0, 16, t))), (123, .inr (.inl (0, 16, s)))]) rfl rfl rfl rfl rfl rfl rfl rfl ?_
            refine ex_return_ cg_189 (ix := 140) rfl ?_
            refine hP _ _ ?_ ?_
            · unfold td_lo
              first | (rw [if_pos ⟨by omega, by omega⟩]; omega) | (rw [if_neg (by omega), if_pos ⟨by omega, by omega⟩]; omega) | (rw [if_neg (by omega), if_neg (by omega)]; first | omega | (rw [cx_subc (by omega) (by omega)]; omega))
            · unfold td_hi
              first | (rw [if_pos ⟨by omega, by omega⟩]; omega) | (rw [if_neg (by omega)]; first | omega | (rw [cx_addc (by omega) (by omega)]; omega))
          · have hb252 : ¬ (b2.toInt = (Int32.ofInt 99).toInt) := hb252
            refine ex_iload cg_189 (ix := 131) (pc' := 257) rfl rfl rfl ?_
            refine ex_bipush cg_189 (ix := 132) (pc' := 259) rfl rfl rfl ?_
            refine ex_icmp cg_189 (ix := 133) (t := 267) (pc' := 262) rfl rfl rfl (fun hb259 => ?_) (fun hb259 => ?_)
            · have hb259 : b2.toInt ≤ (Int32.ofInt 6).toInt := hb259
              refine ex_iload cg_189 (ix := 136) (pc' := 269) rfl rfl rfl ?_
              refine ex_iconst cg_189 (ix := 137) (pc' := 270) rfl rfl ?_
              refine ex_iadd cg_189 (ix := 138) (pc' := 271) rfl rfl ?_
              refine ex_putfield cg_189 (ix := 139) (pc' := 274) (h' := [(119, .inl (11, vs_119 (upi (upi (upi mi 10 (b2 - (Int32.ofInt 3))) 11 (b2 + (Int32.ofInt 3))) 12 (sw_x s h)) ml)), (122, .inr (.inl (0, 16, t))), (123, .inr (.inl (0, 16, s)))]) rfl rfl rfl rfl rfl rfl rfl rfl ?_
              refine ex_return_ cg_189 (ix := 140) rfl ?_
              refine hP _ _ ?_ ?_
              · unfold td_lo
                first | (rw [if_pos ⟨by omega, by omega⟩]; omega) | (rw [if_neg (by omega), if_pos ⟨by omega, by omega⟩]; omega) | (rw [if_neg (by omega), if_neg (by omega)]; first | omega | (rw [cx_subc (by omega) (by omega)]; omega))
              · unfold td_hi
                first | (rw [if_pos ⟨by omega, by omega⟩]; omega) | (rw [if_neg (by omega)]; first | omega | (rw [cx_addc (by omega) (by omega)]; omega))
            · have hb259 : ¬ (b2.toInt ≤ (Int32.ofInt 6).toInt) := hb259
              refine ex_bipush cg_189 (ix := 134) (pc' := 264) rfl rfl rfl ?_
              refine ex_goto cg_189 (ix := 135) (pc' := 271) rfl rfl ?_
              refine ex_putfield cg_189 (ix := 139) (pc' := 274) (h' := [(119, .inl (11, vs_119 (upi (upi (upi mi 10 (b2 - (Int32.ofInt 3))) 11 (Int32.ofInt 9)) 12 (sw_x s h)) ml)), (122, .inr (.inl (0, 16, t))), (123, .inr (.inl (0, 16, s)))]) rfl rfl rfl rfl rfl rfl rfl rfl ?_
              refine ex_return_ cg_189 (ix := 140) rfl ?_
              refine hP _ _ ?_ ?_
              · unfold td_lo
                first | (rw [if_pos ⟨by omega, by omega⟩]; omega) | (rw [if_neg (by omega), if_pos ⟨by omega, by omega⟩]; omega) | (rw [if_neg (by omega), if_neg (by omega)]; first | omega | (rw [cx_subc (by omega) (by omega)]; omega))
              · unfold td_hi
                first | (rw [if_pos ⟨by omega, by omega⟩]; omega) | (rw [if_neg (by omega)]; first | omega | (rw [cx_addc (by omega) (by omega)]; omega))
        · have hb232 : ¬ ((Int32.ofInt (-6)).toInt ≤ b2.toInt) := hb232
          refine ex_bipush cg_189 (ix := 121) (pc' := 237) rfl rfl rfl ?_
          refine ex_goto cg_189 (ix := 122) (pc' := 244) rfl rfl ?_
          refine ex_putfield cg_189 (ix := 126) (pc' := 247) (h' := [(119, .inl (11, vs_119 (upi (upi mi 10 (Int32.ofInt (-9))) 12 (sw_x s h)) ml)), (122, .inr (.inl (0, 16, t))), (123, .inr (.inl (0, 16, s)))]) rfl rfl rfl rfl rfl rfl rfl rfl ?_
          refine ex_aload_n cg_189 (ix := 127) (pc' := 248) rfl rfl rfl ?_
          refine ex_iload cg_189 (ix := 128) (pc' := 250) rfl rfl rfl ?_
          refine ex_bipush cg_189 (ix := 129) (pc' := 252) rfl rfl rfl ?_
          refine ex_icmp cg_189 (ix := 130) (t := 262) (pc' := 255) rfl rfl rfl (fun hb252 => ?_) (fun hb252 => ?_)
          · have hb252 : b2.toInt = (Int32.ofInt 99).toInt := hb252
            refine ex_bipush cg_189 (ix := 134) (pc' := 264) rfl rfl rfl ?_
            refine ex_goto cg_189 (ix := 135) (pc' := 271) rfl rfl ?_
            refine ex_putfield cg_189 (ix := 139) (pc' := 274) (h' := [(119, .inl (11, vs_119 (upi (upi (upi mi 10 (Int32.ofInt (-9))) 11 (Int32.ofInt 9)) 12 (sw_x s h)) ml)), (122, .inr (.inl (0, 16, t))), (123, .inr (.inl (0, 16, s)))]) rfl rfl rfl rfl rfl rfl rfl rfl ?_
            refine ex_return_ cg_189 (ix := 140) rfl ?_
            refine hP _ _ ?_ ?_
            · unfold td_lo
              first | (rw [if_pos ⟨by omega, by omega⟩]; omega) | (rw [if_neg (by omega), if_pos ⟨by omega, by omega⟩]; omega) | (rw [if_neg (by omega), if_neg (by omega)]; first | omega | (rw [cx_subc (by omega) (by omega)]; omega))
            · unfold td_hi
              first | (rw [if_pos ⟨by omega, by omega⟩]; omega) | (rw [if_neg (by omega)]; first | omega | (rw [cx_addc (by omega) (by omega)]; omega))
          · have hb252 : ¬ (b2.toInt = (Int32.ofInt 99).toInt) := hb252
            refine ex_iload cg_189 (ix := 131) (pc' := 257) rfl rfl rfl ?_
            refine ex_bipush cg_189 (ix := 132) (pc' := 259) rfl rfl rfl ?_
            refine ex_icmp cg_189 (ix := 133) (t := 267) (pc' := 262) rfl rfl rfl (fun hb259 => ?_) (fun hb259 => ?_)
            · have hb259 : b2.toInt ≤ (Int32.ofInt 6).toInt := hb259
              refine ex_iload cg_189 (ix := 136) (pc' := 269) rfl rfl rfl ?_
              refine ex_iconst cg_189 (ix := 137) (pc' := 270) rfl rfl ?_
              refine ex_iadd cg_189 (ix := 138) (pc' := 271) rfl rfl ?_
              refine ex_putfield cg_189 (ix := 139) (pc' := 274) (h' := [(119, .inl (11, vs_119 (upi (upi (upi mi 10 (Int32.ofInt (-9))) 11 (b2 + (Int32.ofInt 3))) 12 (sw_x s h)) ml)), (122, .inr (.inl (0, 16, t))), (123, .inr (.inl (0, 16, s)))]) rfl rfl rfl rfl rfl rfl rfl rfl ?_
              refine ex_return_ cg_189 (ix := 140) rfl ?_
              refine hP _ _ ?_ ?_
              · unfold td_lo
                first | (rw [if_pos ⟨by omega, by omega⟩]; omega) | (rw [if_neg (by omega), if_pos ⟨by omega, by omega⟩]; omega) | (rw [if_neg (by omega), if_neg (by omega)]; first | omega | (rw [cx_subc (by omega) (by omega)]; omega))
              · unfold td_hi
                first | (rw [if_pos ⟨by omega, by omega⟩]; omega) | (rw [if_neg (by omega)]; first | omega | (rw [cx_addc (by omega) (by omega)]; omega))
            · have hb259 : ¬ (b2.toInt ≤ (Int32.ofInt 6).toInt) := hb259
              refine ex_bipush cg_189 (ix := 134) (pc' := 264) rfl rfl rfl ?_
              refine ex_goto cg_189 (ix := 135) (pc' := 271) rfl rfl ?_
              refine ex_putfield cg_189 (ix := 139) (pc' := 274) (h' := [(119, .inl (11, vs_119 (upi (upi (upi mi 10 (Int32.ofInt (-9))) 11 (Int32.ofInt 9)) 12 (sw_x s h)) ml)), (122, .inr (.inl (0, 16, t))), (123, .inr (.inl (0, 16, s)))]) rfl rfl rfl rfl rfl rfl rfl rfl ?_
              refine ex_return_ cg_189 (ix := 140) rfl ?_
              refine hP _ _ ?_ ?_
              · unfold td_lo
                first | (rw [if_pos ⟨by omega, by omega⟩]; omega) | (rw [if_neg (by omega), if_pos ⟨by omega, by omega⟩]; omega) | (rw [if_neg (by omega), if_neg (by omega)]; first | omega | (rw [cx_subc (by omega) (by omega)]; omega))
              · unfold td_hi
                first | (rw [if_pos ⟨by omega, by omega⟩]; omega) | (rw [if_neg (by omega)]; first | omega | (rw [cx_addc (by omega) (by omega)]; omega))
  · have hb167 : ¬ (b2.toInt = (Int32.ofInt 99).toInt) := hb167
    refine ex_iload_n cg_189 (ix := 87) (pc' := 171) rfl rfl rfl ?_
    refine ex_bipush cg_189 (ix := 88) (pc' := 173) rfl rfl rfl ?_
    refine ex_icmp cg_189 (ix := 89) (t := 207) (pc' := 176) rfl rfl rfl (fun hb173 => ?_) (fun hb173 => ?_)
    · have hb173 : b3.toInt = (Int32.ofInt 99).toInt := hb173
      refine ex_iload_n cg_189 (ix := 107) (pc' := 208) rfl rfl rfl ?_
      refine ex_bipush cg_189 (ix := 108) (pc' := 210) rfl rfl rfl ?_
      refine ex_icmp cg_189 (ix := 109) (t := 217) (pc' := 213) rfl rfl rfl (fun hb210 => ?_) (fun hb210 => ?_)
      · have hb210 : b2.toInt = (Int32.ofInt 99).toInt := hb210
        refine ex_iload_n cg_189 (ix := 112) (pc' := 218) rfl rfl rfl ?_
        refine ex_istore cg_189 (ix := 113) (pc' := 220) (L' := [some (.inr (.inl 119)), some (.inl (.int x)), some (.inl (.int b2)), some (.inl (.int b3)), some (.inl (.int b4)), some (.inl (.int b3))]) rfl rfl rfl rfl ?_
        refine ex_aload_n cg_189 (ix := 114) (pc' := 221) rfl rfl rfl ?_
        refine ex_iload cg_189 (ix := 115) (pc' := 223) rfl rfl rfl ?_
        refine ex_bipush cg_189 (ix := 116) (pc' := 225) rfl rfl rfl ?_
        refine ex_icmp cg_189 (ix := 117) (t := 235) (pc' := 228) rfl rfl rfl (fun hb225 => ?_) (fun hb225 => ?_)
        · have hb225 : b3.toInt = (Int32.ofInt 99).toInt := hb225
          refine ex_bipush cg_189 (ix := 121) (pc' := 237) rfl rfl rfl ?_
          refine ex_goto cg_189 (ix := 122) (pc' := 244) rfl rfl ?_
          refine ex_putfield cg_189 (ix := 126) (pc' := 247) (h' := [(119, .inl (11, vs_119 (upi (upi mi 10 (Int32.ofInt (-9))) 12 (sw_x s h)) ml)), (122, .inr (.inl (0, 16, t))), (123, .inr (.inl (0, 16, s)))]) rfl rfl rfl rfl rfl rfl rfl rfl ?_
          refine ex_aload_n cg_189 (ix := 127) (pc' := 248) rfl rfl rfl ?_
          refine ex_iload cg_189 (ix := 128) (pc' := 250) rfl rfl rfl ?_
          refine ex_bipush cg_189 (ix := 129) (pc' := 252) rfl rfl rfl ?_
          refine ex_icmp cg_189 (ix := 130) (t := 262) (pc' := 255) rfl rfl rfl (fun hb252 => ?_) (fun hb252 => ?_)
          · have hb252 : b3.toInt = (Int32.ofInt 99).toInt := hb252
            refine ex_bipush cg_189 (ix := 134) (pc' := 264) rfl rfl rfl ?_
            refine ex_goto cg_189 (ix := 135) (pc' := 271) rfl rfl ?_
            refine ex_putfield cg_189 (ix := 139) (pc' := 274) (h' := [(119, .inl (11, vs_119 (upi (upi (upi mi 10 (Int32.ofInt (-9))) 11 (Int32.ofInt 9)) 12 (sw_x s h)) ml)), (122, .inr (.inl (0, 16, t))), (123, .inr (.inl (0, 16, s)))]) rfl rfl rfl rfl rfl rfl rfl rfl ?_
            refine ex_return_ cg_189 (ix := 140) rfl ?_
            refine hP _ _ ?_ ?_
            · unfold td_lo
              first | (rw [if_pos ⟨by omega, by omega⟩]; omega) | (rw [if_neg (by omega), if_pos ⟨by omega, by omega⟩]; omega) | (rw [if_neg (by omega), if_neg (by omega)]; first | omega | (rw [cx_subc (by omega) (by omega)]; omega))
            · unfold td_hi
              first | (rw [if_pos ⟨by omega, by omega⟩]; omega) | (rw [if_neg (by omega)]; first | omega | (rw [cx_addc (by omega) (by omega)]; omega))
          · have hb252 : ¬ (b3.toInt = (Int32.ofInt 99).toInt) := hb252
            refine ex_iload cg_189 (ix := 131) (pc' := 257) rfl rfl rfl ?_
            refine ex_bipush cg_189 (ix := 132) (pc' := 259) rfl rfl rfl ?_
            refine ex_icmp cg_189 (ix := 133) (t := 267) (pc' := 262) rfl rfl rfl (fun hb259 => ?_) (fun hb259 => ?_)
            · have hb259 : b3.toInt ≤ (Int32.ofInt 6).toInt := hb259
              refine ex_iload cg_189 (ix := 136) (pc' := 269) rfl rfl rfl ?_
              refine ex_iconst cg_189 (ix := 137) (pc' := 270) rfl rfl ?_
              refine ex_iadd cg_189 (ix := 138) (pc' := 271) rfl rfl ?_
              refine ex_putfield cg_189 (ix := 139) (pc' := 274) (h' := [(119, .inl (11, vs_119 (upi (upi (upi mi 10 (Int32.ofInt (-9))) 11 (b3 + (Int32.ofInt 3))) 12 (sw_x s h)) ml)), (122, .inr (.inl (0, 16, t))), (123, .inr (.inl (0, 16, s)))]) rfl rfl rfl rfl rfl rfl rfl rfl ?_
              refine ex_return_ cg_189 (ix := 140) rfl ?_
              refine hP _ _ ?_ ?_
              · unfold td_lo
                first | (rw [if_pos ⟨by omega, by omega⟩]; omega) | (rw [if_neg (by omega), if_pos ⟨by omega, by omega⟩]; omega) | (rw [if_neg (by omega), if_neg (by omega)]; first | omega | (rw [cx_subc (by omega) (by omega)]; omega))
              · unfold td_hi
                first | (rw [if_pos ⟨by omega, by omega⟩]; omega) | (rw [if_neg (by omega)]; first | omega | (rw [cx_addc (by omega) (by omega)]; omega))
            · have hb259 : ¬ (b3.toInt ≤ (Int32.ofInt 6).toInt) := hb259
              refine ex_bipush cg_189 (ix := 134) (pc' := 264) rfl rfl rfl ?_
              refine ex_goto cg_189 (ix := 135) (pc' := 271) rfl rfl ?_
              refine ex_putfield cg_189 (ix := 139) (pc' := 274) (h' := [(119, .inl (11, vs_119 (upi (upi (upi mi 10 (Int32.ofInt (-9))) 11 (Int32.ofInt 9)) 12 (sw_x s h)) ml)), (122, .inr (.inl (0, 16, t))), (123, .inr (.inl (0, 16, s)))]) rfl rfl rfl rfl rfl rfl rfl rfl ?_
              refine ex_return_ cg_189 (ix := 140) rfl ?_
              refine hP _ _ ?_ ?_
              · unfold td_lo
                first | (rw [if_pos ⟨by omega, by omega⟩]; omega) | (rw [if_neg (by omega), if_pos ⟨by omega, by omega⟩]; omega) | (rw [if_neg (by omega), if_neg (by omega)]; first | omega | (rw [cx_subc (by omega) (by omega)]; omega))
              · unfold td_hi
                first | (rw [if_pos ⟨by omega, by omega⟩]; omega) | (rw [if_neg (by omega)]; first | omega | (rw [cx_addc (by omega) (by omega)]; omega))
        · have hb225 : ¬ (b3.toInt = (Int32.ofInt 99).toInt) := hb225
          refine ex_iload cg_189 (ix := 118) (pc' := 230) rfl rfl rfl ?_
          refine ex_bipush cg_189 (ix := 119) (pc' := 232) rfl rfl rfl ?_
          refine ex_icmp cg_189 (ix := 120) (t := 240) (pc' := 235) rfl rfl rfl (fun hb232 => ?_) (fun hb232 => ?_)
          · have hb232 : (Int32.ofInt (-6)).toInt ≤ b3.toInt := hb232
            refine ex_iload cg_189 (ix := 123) (pc' := 242) rfl rfl rfl ?_
            refine ex_iconst cg_189 (ix := 124) (pc' := 243) rfl rfl ?_
            refine ex_isub cg_189 (ix := 125) (pc' := 244) rfl rfl ?_
            refine ex_putfield cg_189 (ix := 126) (pc' := 247) (h' := [(119, .inl (11, vs_119 (upi (upi mi 10 (b3 - (Int32.ofInt 3))) 12 (sw_x s h)) ml)), (122, .inr (.inl (0, 16, t))), (123, .inr (.inl (0, 16, s)))]) rfl rfl rfl rfl rfl rfl rfl rfl ?_
            refine ex_aload_n cg_189 (ix := 127) (pc' := 248) rfl rfl rfl ?_
            refine ex_iload cg_189 (ix := 128) (pc' := 250) rfl rfl rfl ?_
            refine ex_bipush cg_189 (ix := 129) (pc' := 252) rfl rfl rfl ?_
            refine ex_icmp cg_189 (ix := 130) (t := 262) (pc' := 255) rfl rfl rfl (fun hb252 => ?_) (fun hb252 => ?_)
            · have hb252 : b3.toInt = (Int32.ofInt 99).toInt := hb252
              refine ex_bipush cg_189 (ix := 134) (pc' := 264) rfl rfl rfl ?_
              refine ex_goto cg_189 (ix := 135) (pc' := 271) rfl rfl ?_
              refine ex_putfield cg_189 (ix := 139) (pc' := 274) (h' := [(119, .inl (11, vs_119 (upi (upi (upi mi 10 (b3 - (Int32.ofInt 3))) 11 (Int32.ofInt 9)) 12 (sw_x s h)) ml)), (122, .inr (.inl (0, 16, t))), (123, .inr (.inl (0, 16, s)))]) rfl rfl rfl rfl rfl rfl rfl rfl ?_
              refine ex_return_ cg_189 (ix := 140) rfl ?_
              refine hP _ _ ?_ ?_
              · unfold td_lo
                first | (rw [if_pos ⟨by omega, by omega⟩]; omega) | (rw [if_neg (by omega), if_pos ⟨by omega, by omega⟩]; omega) | (rw [if_neg (by omega), if_neg (by omega)]; first | omega | (rw [cx_subc (by omega) (by omega)]; omega))
              · unfold td_hi
                first | (rw [if_pos ⟨by omega, by omega⟩]; omega) | (rw [if_neg (by omega)]; first | omega | (rw [cx_addc (by omega) (by omega)]; omega))
            · have hb252 : ¬ (b3.toInt = (Int32.ofInt 99).toInt) := hb252
              refine ex_iload cg_189 (ix := 131) (pc' := 257) rfl rfl rfl ?_
              refine ex_bipush cg_189 (ix := 132) (pc' := 259) rfl rfl rfl ?_
              refine ex_icmp cg_189 (ix := 133) (t := 267) (pc' := 262) rfl rfl rfl (fun hb259 => ?_) (fun hb259 => ?_)
              · have hb259 : b3.toInt ≤ (Int32.ofInt 6).toInt := hb259
                refine ex_iload cg_189 (ix := 136) (pc' := 269) rfl rfl rfl ?_
                refine ex_iconst cg_189 (ix := 137) (pc' := 270) rfl rfl ?_
                refine ex_iadd cg_189 (ix := 138) (pc' := 271) rfl rfl ?_
                refine ex_putfield cg_189 (ix := 139) (pc' := 274) (h' := [(119, .inl (11, vs_119 (upi (upi (upi mi 10 (b3 - (Int32.ofInt 3))) 11 (b3 + (Int32.ofInt 3))) 12 (sw_x s h)) ml)), (122, .inr (.inl (0, 16, t))), (123, .inr (.inl (0, 16, s)))]) rfl rfl rfl rfl rfl rfl rfl rfl ?_
                refine ex_return_ cg_189 (ix := 140) rfl ?_
                refine hP _ _ ?_ ?_
                · unfold td_lo
                  first | (rw [if_pos ⟨by omega, by omega⟩]; omega) | (rw [if_neg (by omega), if_pos ⟨by omega, by omega⟩]; omega) | (rw [if_neg (by omega), if_neg (by omega)]; first | omega | (rw [cx_subc (by omega) (by omega)]; omega))
                · unfold td_hi
                  first | (rw [if_pos ⟨by omega, by omega⟩]; omega) | (rw [if_neg (by omega)]; first | omega | (rw [cx_addc (by omega) (by omega)]; omega))
              · have hb259 : ¬ (b3.toInt ≤ (Int32.ofInt 6).toInt) := hb259
                refine ex_bipush cg_189 (ix := 134) (pc' := 264) rfl rfl rfl ?_
                refine ex_goto cg_189 (ix := 135) (pc' := 271) rfl rfl ?_
                refine ex_putfield cg_189 (ix := 139) (pc' := 274) (h' := [(119, .inl (11, vs_119 (upi (upi (upi mi 10 (b3 - (Int32.ofInt 3))) 11 (Int32.ofInt 9)) 12 (sw_x s h)) ml)), (122, .inr (.inl (0, 16, t))), (123, .inr (.inl (0, 16, s)))]) rfl rfl rfl rfl rfl rfl rfl rfl ?_
                refine ex_return_ cg_189 (ix := 140) rfl ?_
                refine hP _ _ ?_ ?_
                · unfold td_lo
                  first | (rw [if_pos ⟨by omega, by omega⟩]; omega) | (rw [if_neg (by omega), if_pos ⟨by omega, by omega⟩]; omega) | (rw [if_neg (by omega), if_neg (by omega)]; first | omega | (rw [cx_subc (by omega) (by omega)]; omega))
                · unfold td_hi
                  first | (rw [if_pos ⟨by omega, by omega⟩]; omega) | (rw [if_neg (by omega)]; first | omega | (rw [cx_addc (by omega) (by omega)]; omega))
          · have hb232 : ¬ ((Int32.ofInt (-6)).toInt ≤ b3.toInt) := hb232
            refine ex_bipush cg_189 (ix := 121) (pc' := 237) rfl rfl rfl ?_
            refine ex_goto cg_189 (ix := 122) (pc' := 244) rfl rfl ?_
            refine ex_putfield cg_189 (ix := 126) (pc' := 247) (h' := [(119, .inl (11, vs_119 (upi (upi mi 10 (Int32.ofInt (-9))) 12 (sw_x s h)) ml)), (122, .inr (.inl (0, 16, t))), (123, .inr (.inl (0, 16, s)))]) rfl rfl rfl rfl rfl rfl rfl rfl ?_
            refine ex_aload_n cg_189 (ix := 127) (pc' := 248) rfl rfl rfl ?_
            refine ex_iload cg_189 (ix := 128) (pc' := 250) rfl rfl rfl ?_
            refine ex_bipush cg_189 (ix := 129) (pc' := 252) rfl rfl rfl ?_
            refine ex_icmp cg_189 (ix := 130) (t := 262) (pc' := 255) rfl rfl rfl (fun hb252 => ?_) (fun hb252 => ?_)
            · have hb252 : b3.toInt = (Int32.ofInt 99).toInt := hb252
              refine ex_bipush cg_189 (ix := 134) (pc' := 264) rfl rfl rfl ?_
              refine ex_goto cg_189 (ix := 135) (pc' := 271) rfl rfl ?_
              refine ex_putfield cg_189 (ix := 139) (pc' := 274) (h' := [(119, .inl (11, vs_119 (upi (upi (upi mi 10 (Int32.ofInt (-9))) 11 (Int32.ofInt 9)) 12 (sw_x s h)) ml)), (122, .inr (.inl (0, 16, t))), (123, .inr (.inl (0, 16, s)))]) rfl rfl rfl rfl rfl rfl rfl rfl ?_
              refine ex_return_ cg_189 (ix := 140) rfl ?_
              refine hP _ _ ?_ ?_
              · unfold td_lo
                first | (rw [if_pos ⟨by omega, by omega⟩]; omega) | (rw [if_neg (by omega), if_pos ⟨by omega, by omega⟩]; omega) | (rw [if_neg (by omega), if_neg (by omega)]; first | omega | (rw [cx_subc (by omega) (by omega)]; omega))
              · unfold td_hi
                first | (rw [if_pos ⟨by omega, by omega⟩]; omega) | (rw [if_neg (by omega)]; first | omega | (rw [cx_addc (by omega) (by omega)]; omega))
            · have hb252 : ¬ (b3.toInt = (Int32.ofInt 99).toInt) := hb252
              refine ex_iload cg_189 (ix := 131) (pc' := 257) rfl rfl rfl ?_
              refine ex_bipush cg_189 (ix := 132) (pc' := 259) rfl rfl rfl ?_
              refine ex_icmp cg_189 (ix := 133) (t := 267) (pc' := 262) rfl rfl rfl (fun hb259 => ?_) (fun hb259 => ?_)
              · have hb259 : b3.toInt ≤ (Int32.ofInt 6).toInt := hb259
                refine ex_iload cg_189 (ix := 136) (pc' := 269) rfl rfl rfl ?_
                refine ex_iconst cg_189 (ix := 137) (pc' := 270) rfl rfl ?_
                refine ex_iadd cg_189 (ix := 138) (pc' := 271) rfl rfl ?_
                refine ex_putfield cg_189 (ix := 139) (pc' := 274) (h' := [(119, .inl (11, vs_119 (upi (upi (upi mi 10 (Int32.ofInt (-9))) 11 (b3 + (Int32.ofInt 3))) 12 (sw_x s h)) ml)), (122, .inr (.inl (0, 16, t))), (123, .inr (.inl (0, 16, s)))]) rfl rfl rfl rfl rfl rfl rfl rfl ?_
                refine ex_return_ cg_189 (ix := 140) rfl ?_
                refine hP _ _ ?_ ?_
                · unfold td_lo
                  first | (rw [if_pos ⟨by omega, by omega⟩]; omega) | (rw [if_neg (by omega), if_pos ⟨by omega, by omega⟩]; omega) | (rw [if_neg (by omega), if_neg (by omega)]; first | omega | (rw [cx_subc (by omega) (by omega)]; omega))
                · unfold td_hi
                  first | (rw [if_pos ⟨by omega, by omega⟩]; omega) | (rw [if_neg (by omega)]; first | omega | (rw [cx_addc (by omega) (by omega)]; omega))
              · have hb259 : ¬ (b3.toInt ≤ (Int32.ofInt 6).toInt) := hb259
                refine ex_bipush cg_189 (ix := 134) (pc' := 264) rfl rfl rfl ?_
                refine ex_goto cg_189 (ix := 135) (pc' := 271) rfl rfl ?_
                refine ex_putfield cg_189 (ix := 139) (pc' := 274) (h' := [(119, .inl (11, vs_119 (upi (upi (upi mi 10 (Int32.ofInt (-9))) 11 (Int32.ofInt 9)) 12 (sw_x s h)) ml)), (122, .inr (.inl (0, 16, t))), (123, .inr (.inl (0, 16, s)))]) rfl rfl rfl rfl rfl rfl rfl rfl ?_
                refine ex_return_ cg_189 (ix := 140) rfl ?_
                refine hP _ _ ?_ ?_
                · unfold td_lo
                  first | (rw [if_pos ⟨by omega, by omega⟩]; omega) | (rw [if_neg (by omega), if_pos ⟨by omega, by omega⟩]; omega) | (rw [if_neg (by omega), if_neg (by omega)]; first | omega | (rw [cx_subc (by omega) (by omega)]; omega))
                · unfold td_hi
                  first | (rw [if_pos ⟨by omega, by omega⟩]; omega) | (rw [if_neg (by omega)]; first | omega | (rw [cx_addc (by omega) (by omega)]; omega))
      · have hb210 : ¬ (b2.toInt = (Int32.ofInt 99).toInt) := hb210
        refine ex_iload_n cg_189 (ix := 110) (pc' := 214) rfl rfl rfl ?_
        refine ex_goto cg_189 (ix := 111) (pc' := 218) rfl rfl ?_
        refine ex_istore cg_189 (ix := 113) (pc' := 220) (L' := [some (.inr (.inl 119)), some (.inl (.int x)), some (.inl (.int b2)), some (.inl (.int b3)), some (.inl (.int b4)), some (.inl (.int b2))]) rfl rfl rfl rfl ?_
        refine ex_aload_n cg_189 (ix := 114) (pc' := 221) rfl rfl rfl ?_
        refine ex_iload cg_189 (ix := 115) (pc' := 223) rfl rfl rfl ?_
        refine ex_bipush cg_189 (ix := 116) (pc' := 225) rfl rfl rfl ?_
        refine ex_icmp cg_189 (ix := 117) (t := 235) (pc' := 228) rfl rfl rfl (fun hb225 => ?_) (fun hb225 => ?_)
        · have hb225 : b2.toInt = (Int32.ofInt 99).toInt := hb225
          refine ex_bipush cg_189 (ix := 121) (pc' := 237) rfl rfl rfl ?_
          refine ex_goto cg_189 (ix := 122) (pc' := 244) rfl rfl ?_
          refine ex_putfield cg_189 (ix := 126) (pc' := 247) (h' := [(119, .inl (11, vs_119 (upi (upi mi 10 (Int32.ofInt (-9))) 12 (sw_x s h)) ml)), (122, .inr (.inl (0, 16, t))), (123, .inr (.inl (0, 16, s)))]) rfl rfl rfl rfl rfl rfl rfl rfl ?_
          refine ex_aload_n cg_189 (ix := 127) (pc' := 248) rfl rfl rfl ?_
          refine ex_iload cg_189 (ix := 128) (pc' := 250) rfl rfl rfl ?_
          refine ex_bipush cg_189 (ix := 129) (pc' := 252) rfl rfl rfl ?_
          refine ex_icmp cg_189 (ix := 130) (t := 262) (pc' := 255) rfl rfl rfl (fun hb252 => ?_) (fun hb252 => ?_)
          · have hb252 : b2.toInt = (Int32.ofInt 99).toInt := hb252
            refine ex_bipush cg_189 (ix := 134) (pc' := 264) rfl rfl rfl ?_
            refine ex_goto cg_189 (ix := 135) (pc' := 271) rfl rfl ?_
            refine ex_putfield cg_189 (ix := 139) (pc' := 274) (h' := [(119, .inl (11, vs_119 (upi (upi (upi mi 10 (Int32.ofInt (-9))) 11 (Int32.ofInt 9)) 12 (sw_x s h)) ml)), (122, .inr (.inl (0, 16, t))), (123, .inr (.inl (0, 16, s)))]) rfl rfl rfl rfl rfl rfl rfl rfl ?_
            refine ex_return_ cg_189 (ix := 140) rfl ?_
            refine hP _ _ ?_ ?_
            · unfold td_lo
              first | (rw [if_pos ⟨by omega, by omega⟩]; omega) | (rw [if_neg (by omega), if_pos ⟨by omega, by omega⟩]; omega) | (rw [if_neg (by omega), if_neg (by omega)]; first | omega | (rw [cx_subc (by omega) (by omega)]; omega))
            · unfold td_hi
              first | (rw [if_pos ⟨by omega, by omega⟩]; omega) | (rw [if_neg (by omega)]; first | omega | (rw [cx_addc (by omega) (by omega)]; omega))
          · have hb252 : ¬ (b2.toInt = (Int32.ofInt 99).toInt) := hb252
            refine ex_iload cg_189 (ix := 131) (pc' := 257) rfl rfl rfl ?_
            refine ex_bipush cg_189 (ix := 132) (pc' := 259) rfl rfl rfl ?_
            refine ex_icmp cg_189 (ix := 133) (t := 267) (pc' := 262) rfl rfl rfl (fun hb259 => ?_) (fun hb259 => ?_)
            · have hb259 : b2.toInt ≤ (Int32.ofInt 6).toInt := hb259
              refine ex_iload cg_189 (ix := 136) (pc' := 269) rfl rfl rfl ?_
              refine ex_iconst cg_189 (ix := 137) (pc' := 270) rfl rfl ?_
              refine ex_iadd cg_189 (ix := 138) (pc' := 271) rfl rfl ?_
              refine ex_putfield cg_189 (ix := 139) (pc' := 274) (h' := [(119, .inl (11, vs_119 (upi (upi (upi mi 10 (Int32.ofInt (-9))) 11 (b2 + (Int32.ofInt 3))) 12 (sw_x s h)) ml)), (122, .inr (.inl (0, 16, t))), (123, .inr (.inl (0, 16, s)))]) rfl rfl rfl rfl rfl rfl rfl rfl ?_
              refine ex_return_ cg_189 (ix := 140) rfl ?_
              refine hP _ _ ?_ ?_
              · unfold td_lo
                first | (rw [if_pos ⟨by omega, by omega⟩]; omega) | (rw [if_neg (by omega), if_pos ⟨by omega, by omega⟩]; omega) | (rw [if_neg (by omega), if_neg (by omega)]; first | omega | (rw [cx_subc (by omega) (by omega)]; omega))
              · unfold td_hi
                first | (rw [if_pos ⟨by omega, by omega⟩]; omega) | (rw [if_neg (by omega)]; first | omega | (rw [cx_addc (by omega) (by omega)]; omega))
            · have hb259 : ¬ (b2.toInt ≤ (Int32.ofInt 6).toInt) := hb259
              refine ex_bipush cg_189 (ix := 134) (pc' := 264) rfl rfl rfl ?_
              refine ex_goto cg_189 (ix := 135) (pc' := 271) rfl rfl ?_
              refine ex_putfield cg_189 (ix := 139) (pc' := 274) (h' := [(119, .inl (11, vs_119 (upi (upi (upi mi 10 (Int32.ofInt (-9))) 11 (Int32.ofInt 9)) 12 (sw_x s h)) ml)), (122, .inr (.inl (0, 16, t))), (123, .inr (.inl (0, 16, s)))]) rfl rfl rfl rfl rfl rfl rfl rfl ?_
              refine ex_return_ cg_189 (ix := 140) rfl ?_
              refine hP _ _ ?_ ?_
              · unfold td_lo
                first | (rw [if_pos ⟨by omega, by omega⟩]; omega) | (rw [if_neg (by omega), if_pos ⟨by omega, by omega⟩]; omega) | (rw [if_neg (by omega), if_neg (by omega)]; first | omega | (rw [cx_subc (by omega) (by omega)]; omega))
              · unfold td_hi
                first | (rw [if_pos ⟨by omega, by omega⟩]; omega) | (rw [if_neg (by omega)]; first | omega | (rw [cx_addc (by omega) (by omega)]; omega))
        · have hb225 : ¬ (b2.toInt = (Int32.ofInt 99).toInt) := hb225
          refine ex_iload cg_189 (ix := 118) (pc' := 230) rfl rfl rfl ?_
          refine ex_bipush cg_189 (ix := 119) (pc' := 232) rfl rfl rfl ?_
          refine ex_icmp cg_189 (ix := 120) (t := 240) (pc' := 235) rfl rfl rfl (fun hb232 => ?_) (fun hb232 => ?_)
          · have hb232 : (Int32.ofInt (-6)).toInt ≤ b2.toInt := hb232
            refine ex_iload cg_189 (ix := 123) (pc' := 242) rfl rfl rfl ?_
            refine ex_iconst cg_189 (ix := 124) (pc' := 243) rfl rfl ?_
            refine ex_isub cg_189 (ix := 125) (pc' := 244) rfl rfl ?_
            refine ex_putfield cg_189 (ix := 126) (pc' := 247) (h' := [(119, .inl (11, vs_119 (upi (upi mi 10 (b2 - (Int32.ofInt 3))) 12 (sw_x s h)) ml)), (122, .inr (.inl (0, 16, t))), (123, .inr (.inl (0, 16, s)))]) rfl rfl rfl rfl rfl rfl rfl rfl ?_
            refine ex_aload_n cg_189 (ix := 127) (pc' := 248) rfl rfl rfl ?_
            refine ex_iload cg_189 (ix := 128) (pc' := 250) rfl rfl rfl ?_
            refine ex_bipush cg_189 (ix := 129) (pc' := 252) rfl rfl rfl ?_
            refine ex_icmp cg_189 (ix := 130) (t := 262) (pc' := 255) rfl rfl rfl (fun hb252 => ?_) (fun hb252 => ?_)
            · have hb252 : b2.toInt = (Int32.ofInt 99).toInt := hb252
              refine ex_bipush cg_189 (ix := 134) (pc' := 264) rfl rfl rfl ?_
              refine ex_goto cg_189 (ix := 135) (pc' := 271) rfl rfl ?_
              refine ex_putfield cg_189 (ix := 139) (pc' := 274) (h' := [(119, .inl (11, vs_119 (upi (upi (upi mi 10 (b2 - (Int32.ofInt 3))) 11 (Int32.ofInt 9)) 12 (sw_x s h)) ml)), (122, .inr (.inl (0, 16, t))), (123, .inr (.inl (0, 16, s)))]) rfl rfl rfl rfl rfl rfl rfl rfl ?_
              refine ex_return_ cg_189 (ix := 140) rfl ?_
              refine hP _ _ ?_ ?_
              · unfold td_lo
                first | (rw [if_pos ⟨by omega, by omega⟩]; omega) | (rw [if_neg (by omega), if_pos ⟨by omega, by omega⟩]; omega) | (rw [if_neg (by omega), if_neg (by omega)]; first | omega | (rw [cx_subc (by omega) (by omega)]; omega))
              · unfold td_hi
                first | (rw [if_pos ⟨by omega, by omega⟩]; omega) | (rw [if_neg (by omega)]; first | omega | (rw [cx_addc (by omega) (by omega)]; omega))
            · have hb252 : ¬ (b2.toInt = (Int32.ofInt 99).toInt) := hb252
              refine ex_iload cg_189 (ix := 131) (pc' := 257) rfl rfl rfl ?_
              refine ex_bipush cg_189 (ix := 132) (pc' := 259) rfl rfl rfl ?_
              refine ex_icmp cg_189 (ix := 133) (t := 267) (pc' := 262) rfl rfl rfl (fun hb259 => ?_) (fun hb259 => ?_)
              · have hb259 : b2.toInt ≤ (Int32.ofInt 6).toInt := hb259
                refine ex_iload cg_189 (ix := 136) (pc' := 269) rfl rfl rfl ?_
                refine ex_iconst cg_189 (ix := 137) (pc' := 270) rfl rfl ?_
                refine ex_iadd cg_189 (ix := 138) (pc' := 271) rfl rfl ?_
                refine ex_putfield cg_189 (ix := 139) (pc' := 274) (h' := [(119, .inl (11, vs_119 (upi (upi (upi mi 10 (b2 - (Int32.ofInt 3))) 11 (b2 + (Int32.ofInt 3))) 12 (sw_x s h)) ml)), (122, .inr (.inl (0, 16, t))), (123, .inr (.inl (0, 16, s)))]) rfl rfl rfl rfl rfl rfl rfl rfl ?_
                refine ex_return_ cg_189 (ix := 140) rfl ?_
                refine hP _ _ ?_ ?_
                · unfold td_lo
                  first | (rw [if_pos ⟨by omega, by omega⟩]; omega) | (rw [if_neg (by omega), if_pos ⟨by omega, by omega⟩]; omega) | (rw [if_neg (by omega), if_neg (by omega)]; first | omega | (rw [cx_subc (by omega) (by omega)]; omega))
                · unfold td_hi
                  first | (rw [if_pos ⟨by omega, by omega⟩]; omega) | (rw [if_neg (by omega)]; first | omega | (rw [cx_addc (by omega) (by omega)]; omega))
              · have hb259 : ¬ (b2.toInt ≤ (Int32.ofInt 6).toInt) := hb259
                refine ex_bipush cg_189 (ix := 134) (pc' := 264) rfl rfl rfl ?_
                refine ex_goto cg_189 (ix := 135) (pc' := 271) rfl rfl ?_
                refine ex_putfield cg_189 (ix := 139) (pc' := 274) (h' := [(119, .inl (11, vs_119 (upi (upi (upi mi 10 (b2 - (Int32.ofInt 3))) 11 (Int32.ofInt 9)) 12 (sw_x s h)) ml)), (122, .inr (.inl (0, 16, t))), (123, .inr (.inl (0, 16, s)))]) rfl rfl rfl rfl rfl rfl rfl rfl ?_
                refine ex_return_ cg_189 (ix := 140) rfl ?_
                refine hP _ _ ?_ ?_
                · unfold td_lo
                  first | (rw [if_pos ⟨by omega, by omega⟩]; omega) | (rw [if_neg (by omega), if_pos ⟨by omega, by omega⟩]; omega) | (rw [if_neg (by omega), if_neg (by omega)]; first | omega | (rw [cx_subc (by omega) (by omega)]; omega))
                · unfold td_hi
                  first | (rw [if_pos ⟨by omega, by omega⟩]; omega) | (rw [if_neg (by omega)]; first | omega | (rw [cx_addc (by omega) (by omega)]; omega))
          · have hb232 : ¬ ((Int32.ofInt (-6)).toInt ≤ b2.toInt) := hb232
            refine ex_bipush cg_189 (ix := 121) (pc' := 237) rfl rfl rfl ?_
            refine ex_goto cg_189 (ix := 122) (pc' := 244) rfl rfl ?_
            refine ex_putfield cg_189 (ix := 126) (pc' := 247) (h' := [(119, .inl (11, vs_119 (upi (upi mi 10 (Int32.ofInt (-9))) 12 (sw_x s h)) ml)), (122, .inr (.inl (0, 16, t))), (123, .inr (.inl (0, 16, s)))]) rfl rfl rfl rfl rfl rfl rfl rfl ?_
            refine ex_aload_n cg_189 (ix := 127) (pc' := 248) rfl rfl rfl ?_
            refine ex_iload cg_189 (ix := 128) (pc' := 250) rfl rfl rfl ?_
            refine ex_bipush cg_189 (ix := 129) (pc' := 252) rfl rfl rfl ?_
            refine ex_icmp cg_189 (ix := 130) (t := 262) (pc' := 255) rfl rfl rfl (fun hb252 => ?_) (fun hb252 => ?_)
            · have hb252 : b2.toInt = (Int32.ofInt 99).toInt := hb252
              refine ex_bipush cg_189 (ix := 134) (pc' := 264) rfl rfl rfl ?_
              refine ex_goto cg_189 (ix := 135) (pc' := 271) rfl rfl ?_
              refine ex_putfield cg_189 (ix := 139) (pc' := 274) (h' := [(119, .inl (11, vs_119 (upi (upi (upi mi 10 (Int32.ofInt (-9))) 11 (Int32.ofInt 9)) 12 (sw_x s h)) ml)), (122, .inr (.inl (0, 16, t))), (123, .inr (.inl (0, 16, s)))]) rfl rfl rfl rfl rfl rfl rfl rfl ?_
              refine ex_return_ cg_189 (ix := 140) rfl ?_
              refine hP _ _ ?_ ?_
              · unfold td_lo
                first | (rw [if_pos ⟨by omega, by omega⟩]; omega) | (rw [if_neg (by omega), if_pos ⟨by omega, by omega⟩]; omega) | (rw [if_neg (by omega), if_neg (by omega)]; first | omega | (rw [cx_subc (by omega) (by omega)]; omega))
              · unfold td_hi
                first | (rw [if_pos ⟨by omega, by omega⟩]; omega) | (rw [if_neg (by omega)]; first | omega | (rw [cx_addc (by omega) (by omega)]; omega))
            · have hb252 : ¬ (b2.toInt = (Int32.ofInt 99).toInt) := hb252
              refine ex_iload cg_189 (ix := 131) (pc' := 257) rfl rfl rfl ?_
              refine ex_bipush cg_189 (ix := 132) (pc' := 259) rfl rfl rfl ?_
              refine ex_icmp cg_189 (ix := 133) (t := 267) (pc' := 262) rfl rfl rfl (fun hb259 => ?_) (fun hb259 => ?_)
              · have hb259 : b2.toInt ≤ (Int32.ofInt 6).toInt := hb259
                refine ex_iload cg_189 (ix := 136) (pc' := 269) rfl rfl rfl ?_
                refine ex_iconst cg_189 (ix := 137) (pc' := 270) rfl rfl ?_
                refine ex_iadd cg_189 (ix := 138) (pc' := 271) rfl rfl ?_
                refine ex_putfield cg_189 (ix := 139) (pc' := 274) (h' := [(119, .inl (11, vs_119 (upi (upi (upi mi 10 (Int32.ofInt (-9))) 11 (b2 + (Int32.ofInt 3))) 12 (sw_x s h)) ml)), (122, .inr (.inl (0, 16, t))), (123, .inr (.inl (0, 16, s)))]) rfl rfl rfl rfl rfl rfl rfl rfl ?_
                refine ex_return_ cg_189 (ix := 140) rfl ?_
                refine hP _ _ ?_ ?_
                · unfold td_lo
                  first | (rw [if_pos ⟨by omega, by omega⟩]; omega) | (rw [if_neg (by omega), if_pos ⟨by omega, by omega⟩]; omega) | (rw [if_neg (by omega), if_neg (by omega)]; first | omega | (rw [cx_subc (by omega) (by omega)]; omega))
                · unfold td_hi
                  first | (rw [if_pos ⟨by omega, by omega⟩]; omega) | (rw [if_neg (by omega)]; first | omega | (rw [cx_addc (by omega) (by omega)]; omega))
              · have hb259 : ¬ (b2.toInt ≤ (Int32.ofInt 6).toInt) := hb259
                refine ex_bipush cg_189 (ix := 134) (pc' := 264) rfl rfl rfl ?_
                refine ex_goto cg_189 (ix := 135) (pc' := 271) rfl rfl ?_
                refine ex_putfield cg_189 (ix := 139) (pc' := 274) (h' := [(119, .inl (11, vs_119 (upi (upi (upi mi 10 (Int32.ofInt (-9))) 11 (Int32.ofInt 9)) 12 (sw_x s h)) ml)), (122, .inr (.inl (0, 16, t))), (123, .inr (.inl (0, 16, s)))]) rfl rfl rfl rfl rfl rfl rfl rfl ?_
                refine ex_return_ cg_189 (ix := 140) rfl ?_
                refine hP _ _ ?_ ?_
                · unfold td_lo
                  first | (rw [if_pos ⟨by omega, by omega⟩]; omega) | (rw [if_neg (by omega), if_pos ⟨by omega, by omega⟩]; omega) | (rw [if_neg (by omega), if_neg (by omega)]; first | omega | (rw [cx_subc (by omega) (by omega)]; omega))
                · unfold td_hi
                  first | (rw [if_pos ⟨by omega, by omega⟩]; omega) | (rw [if_neg (by omega)]; first | omega | (rw [cx_addc (by omega) (by omega)]; omega))
    · have hb173 : ¬ (b3.toInt = (Int32.ofInt 99).toInt) := hb173
      refine ex_aload_n cg_189 (ix := 90) (pc' := 177) rfl rfl rfl ?_
      refine ex_iload_n cg_189 (ix := 91) (pc' := 178) rfl rfl rfl ?_
      refine ex_iload_n cg_189 (ix := 92) (pc' := 179) rfl rfl rfl ?_
      refine ex_icmp cg_189 (ix := 93) (t := 186) (pc' := 182) rfl rfl rfl (fun hb179 => ?_) (fun hb179 => ?_)
      · have hb179 : b3.toInt ≤ b2.toInt := hb179
        refine ex_iload_n cg_189 (ix := 96) (pc' := 187) rfl rfl rfl ?_
        refine ex_putfield cg_189 (ix := 97) (pc' := 190) (h' := [(119, .inl (11, vs_119 (upi (upi mi 10 b3) 12 (sw_x s h)) ml)), (122, .inr (.inl (0, 16, t))), (123, .inr (.inl (0, 16, s)))]) rfl rfl rfl rfl rfl rfl rfl rfl ?_
        refine ex_aload_n cg_189 (ix := 98) (pc' := 191) rfl rfl rfl ?_
        refine ex_iload_n cg_189 (ix := 99) (pc' := 192) rfl rfl rfl ?_
        refine ex_iload_n cg_189 (ix := 100) (pc' := 193) rfl rfl rfl ?_
        refine ex_icmp cg_189 (ix := 101) (t := 200) (pc' := 196) rfl rfl rfl (fun hb193 => ?_) (fun hb193 => ?_)
        · have hb193 : b3.toInt ≤ b2.toInt := hb193
          refine ex_iload_n cg_189 (ix := 104) (pc' := 201) rfl rfl rfl ?_
          refine ex_putfield cg_189 (ix := 105) (pc' := 204) (h' := [(119, .inl (11, vs_119 (upi (upi (upi mi 10 b3) 11 b2) 12 (sw_x s h)) ml)), (122, .inr (.inl (0, 16, t))), (123, .inr (.inl (0, 16, s)))]) rfl rfl rfl rfl rfl rfl rfl rfl ?_
          refine ex_goto cg_189 (ix := 106) (pc' := 274) rfl rfl ?_
          refine ex_return_ cg_189 (ix := 140) rfl ?_
          refine hP _ _ ?_ ?_
          · unfold td_lo
            first | (rw [if_pos ⟨by omega, by omega⟩]; omega) | (rw [if_neg (by omega), if_pos ⟨by omega, by omega⟩]; omega) | (rw [if_neg (by omega), if_neg (by omega)]; first | omega | (rw [cx_subc (by omega) (by omega)]; omega))
          · unfold td_hi
            first | (rw [if_pos ⟨by omega, by omega⟩]; omega) | (rw [if_neg (by omega)]; first | omega | (rw [cx_addc (by omega) (by omega)]; omega))
        · have hb193 : ¬ (b3.toInt ≤ b2.toInt) := hb193
          refine ex_iload_n cg_189 (ix := 102) (pc' := 197) rfl rfl rfl ?_
          refine ex_goto cg_189 (ix := 103) (pc' := 201) rfl rfl ?_
          refine ex_putfield cg_189 (ix := 105) (pc' := 204) (h' := [(119, .inl (11, vs_119 (upi (upi (upi mi 10 b3) 11 b3) 12 (sw_x s h)) ml)), (122, .inr (.inl (0, 16, t))), (123, .inr (.inl (0, 16, s)))]) rfl rfl rfl rfl rfl rfl rfl rfl ?_
          refine ex_goto cg_189 (ix := 106) (pc' := 274) rfl rfl ?_
          refine ex_return_ cg_189 (ix := 140) rfl ?_
          refine hP _ _ ?_ ?_
          · unfold td_lo
            first | (rw [if_pos ⟨by omega, by omega⟩]; omega) | (rw [if_neg (by omega), if_pos ⟨by omega, by omega⟩]; omega) | (rw [if_neg (by omega), if_neg (by omega)]; first | omega | (rw [cx_subc (by omega) (by omega)]; omega))
          · unfold td_hi
            first | (rw [if_pos ⟨by omega, by omega⟩]; omega) | (rw [if_neg (by omega)]; first | omega | (rw [cx_addc (by omega) (by omega)]; omega))
      · have hb179 : ¬ (b3.toInt ≤ b2.toInt) := hb179
        refine ex_iload_n cg_189 (ix := 94) (pc' := 183) rfl rfl rfl ?_
        refine ex_goto cg_189 (ix := 95) (pc' := 187) rfl rfl ?_
        refine ex_putfield cg_189 (ix := 97) (pc' := 190) (h' := [(119, .inl (11, vs_119 (upi (upi mi 10 b2) 12 (sw_x s h)) ml)), (122, .inr (.inl (0, 16, t))), (123, .inr (.inl (0, 16, s)))]) rfl rfl rfl rfl rfl rfl rfl rfl ?_
        refine ex_aload_n cg_189 (ix := 98) (pc' := 191) rfl rfl rfl ?_
        refine ex_iload_n cg_189 (ix := 99) (pc' := 192) rfl rfl rfl ?_
        refine ex_iload_n cg_189 (ix := 100) (pc' := 193) rfl rfl rfl ?_
        refine ex_icmp cg_189 (ix := 101) (t := 200) (pc' := 196) rfl rfl rfl (fun hb193 => ?_) (fun hb193 => ?_)
        · have hb193 : b3.toInt ≤ b2.toInt := hb193
          refine ex_iload_n cg_189 (ix := 104) (pc' := 201) rfl rfl rfl ?_
          refine ex_putfield cg_189 (ix := 105) (pc' := 204) (h' := [(119, .inl (11, vs_119 (upi (upi (upi mi 10 b2) 11 b2) 12 (sw_x s h)) ml)), (122, .inr (.inl (0, 16, t))), (123, .inr (.inl (0, 16, s)))]) rfl rfl rfl rfl rfl rfl rfl rfl ?_
          refine ex_goto cg_189 (ix := 106) (pc' := 274) rfl rfl ?_
          refine ex_return_ cg_189 (ix := 140) rfl ?_
          refine hP _ _ ?_ ?_
          · unfold td_lo
            first | (rw [if_pos ⟨by omega, by omega⟩]; omega) | (rw [if_neg (by omega), if_pos ⟨by omega, by omega⟩]; omega) | (rw [if_neg (by omega), if_neg (by omega)]; first | omega | (rw [cx_subc (by omega) (by omega)]; omega))
          · unfold td_hi
            first | (rw [if_pos ⟨by omega, by omega⟩]; omega) | (rw [if_neg (by omega)]; first | omega | (rw [cx_addc (by omega) (by omega)]; omega))
        · have hb193 : ¬ (b3.toInt ≤ b2.toInt) := hb193
          refine ex_iload_n cg_189 (ix := 102) (pc' := 197) rfl rfl rfl ?_
          refine ex_goto cg_189 (ix := 103) (pc' := 201) rfl rfl ?_
          refine ex_putfield cg_189 (ix := 105) (pc' := 204) (h' := [(119, .inl (11, vs_119 (upi (upi (upi mi 10 b2) 11 b3) 12 (sw_x s h)) ml)), (122, .inr (.inl (0, 16, t))), (123, .inr (.inl (0, 16, s)))]) rfl rfl rfl rfl rfl rfl rfl rfl ?_
          refine ex_goto cg_189 (ix := 106) (pc' := 274) rfl rfl ?_
          refine ex_return_ cg_189 (ix := 140) rfl ?_
          refine hP _ _ ?_ ?_
          · unfold td_lo
            first | (rw [if_pos ⟨by omega, by omega⟩]; omega) | (rw [if_neg (by omega), if_pos ⟨by omega, by omega⟩]; omega) | (rw [if_neg (by omega), if_neg (by omega)]; first | omega | (rw [cx_subc (by omega) (by omega)]; omega))
          · unfold td_hi
            first | (rw [if_pos ⟨by omega, by omega⟩]; omega) | (rw [if_neg (by omega)]; first | omega | (rw [cx_addc (by omega) (by omega)]; omega))
theorem fm_swell {d h : Nat} {x b2 b3 b4 i : Int32} {mi : Nat → Int32} {ml : Nat → Int64} {t s : Nat → Int32} {P : Option cx_V → cx_H → Prop} (h4 : b4 = sw_g s 16) (hend : cx_T d 189 [119, 122, 123] 164 ([some (.inr (.inl 119)), some (.inl (.int x)), some (.inl (.int b2)), some (.inl (.int b3)), some (.inl (.int b4)), some (.inl (.int i))], [], h_mm (upi mi 12 (sw_x s h)) ml t s) P) : cx_T d 189 [119, 122, 123] 139 ([some (.inr (.inl 119)), some (.inl (.int x)), some (.inl (.int b2)), some (.inl (.int b3)), some (.inl (.int b4)), some (.inl (.int i))], [], h_mm (upi mi 12 (s h)) ml t s) P := by
  have kc99 : (Int32.ofInt 99).toInt = 99 := by decide +kernel
  have kc9 : (Int32.ofInt 9).toInt = 9 := by decide +kernel
  refine ex_aload_n cg_189 (ix := 73) (pc' := 140) rfl rfl rfl ?_
  refine ex_getfield cg_189 (ix := 74) (pc' := 143) (v := .inl (.int (s h))) rfl rfl rfl rfl rfl ?_
  refine ex_bipush cg_189 (ix := 75) (pc' := 145) rfl rfl rfl ?_
  refine ex_icmp cg_189 (ix := 76) (t := 164) (pc' := 148) rfl rfl rfl (fun hb145 => ?_) (fun hb145 => ?_)
  · have hb145 : ¬ (s h).toInt = (Int32.ofInt 99).toInt := hb145
    rw [sw_x, if_neg (by omega)] at hend
    exact hend
  · have hb145 : ¬ (¬ (s h).toInt = (Int32.ofInt 99).toInt) := hb145
    refine ex_aload_n cg_189 (ix := 77) (pc' := 149) rfl rfl rfl ?_
    refine ex_iload cg_189 (ix := 78) (pc' := 151) rfl rfl rfl ?_
    refine ex_if cg_189 (ix := 79) (t := 159) (pc' := 154) rfl rfl rfl (fun hb151 => ?_) (fun hb151 => ?_)
    · have hb151 : 0 ≤ b4.toInt := hb151
      refine ex_iload cg_189 (ix := 82) (pc' := 161) rfl rfl rfl ?_
      refine ex_putfield cg_189 (ix := 83) (pc' := 164) (h' := [(119, .inl (11, vs_119 (upi mi 12 b4) ml)), (122, .inr (.inl (0, 16, t))), (123, .inr (.inl (0, 16, s)))]) rfl rfl rfl rfl rfl rfl rfl rfl ?_
      rw [sw_x, if_pos (by omega), ← h4, if_pos hb151] at hend
      exact hend
    · have hb151 : ¬ (0 ≤ b4.toInt) := hb151
      refine ex_bipush cg_189 (ix := 80) (pc' := 156) rfl rfl rfl ?_
      refine ex_goto cg_189 (ix := 81) (pc' := 161) rfl rfl ?_
      refine ex_putfield cg_189 (ix := 83) (pc' := 164) (h' := [(119, .inl (11, vs_119 (upi mi 12 (Int32.ofInt 9)) ml)), (122, .inr (.inl (0, 16, t))), (123, .inr (.inl (0, 16, s)))]) rfl rfl rfl rfl rfl rfl rfl rfl ?_
      rw [sw_x, if_pos (by omega), ← h4, if_neg hb151] at hend
      exact hend
theorem ct_fm {x : Int32} {h : Nat} {mi : Nat → Int32} {ml : Nat → Int64} {t s : Nat → Int32} (hx : x.toInt = (h : Int)) (hh : h < 16) (ht : ∀ i : Nat, i < 16 → tdU (t i).toInt) : cx_Ct 2 189 [.inr (.inl 119), .inl (.int x)] (h_mm mi ml t s) (fun v h2 => v = none ∧ ∃ l m : Int32, l.toInt = td_lo (td_a t h).toInt (td_b t h (16 - h)).toInt ∧ m.toInt = td_hi (td_a t h).toInt (td_b t h (16 - h)).toInt ∧ h2 = h_mm (upi (upi (upi mi 10 l) 11 m) 12 (sw_x s h)) ml t s) := by
  have hik : x.toNatClampNeg = h := cx_clamp hx
  refine cx_Ct.of cg_189 (nL := 6) rfl rfl rfl ?_
  show cx_T 2 189 [119, 122, 123] 0 ([some (.inr (.inl 119)), some (.inl (.int x)), none, none, none, none], [], h_mm mi ml t s) _
  refine ex_bipush cg_189 (ix := 0) (pc' := 2) rfl rfl rfl ?_
  refine ex_istore_n cg_189 (ix := 1) (pc' := 3) (L' := [some (.inr (.inl 119)), some (.inl (.int x)), some (.inl (.int (Int32.ofInt 99))), none, none, none]) rfl rfl rfl rfl ?_
  refine ex_bipush cg_189 (ix := 2) (pc' := 5) rfl rfl rfl ?_
  refine ex_istore_n cg_189 (ix := 3) (pc' := 6) (L' := [some (.inr (.inl 119)), some (.inl (.int x)), some (.inl (.int (Int32.ofInt 99))), some (.inl (.int (Int32.ofInt 99))), none, none]) rfl rfl rfl rfl ?_
  refine ex_aload_n cg_189 (ix := 4) (pc' := 7) rfl rfl rfl ?_
  refine ex_aload_n cg_189 (ix := 5) (pc' := 8) rfl rfl rfl ?_
  refine ex_getfield cg_189 (ix := 6) (pc' := 11) (v := .inr (.inl 123)) rfl rfl rfl rfl rfl ?_
  refine ex_iload_n cg_189 (ix := 7) (pc' := 12) rfl rfl rfl ?_
  refine ex_iaload cg_189 (ix := 8) (pc' := 13) rfl rfl (by omega) (by omega) rfl ?_
  refine ex_putfield cg_189 (ix := 9) (pc' := 16) (h' := [(119, .inl (11, vs_119 (upi mi 12 (s x.toNatClampNeg)) ml)), (122, .inr (.inl (0, 16, t))), (123, .inr (.inl (0, 16, s)))]) rfl rfl rfl rfl rfl rfl rfl rfl ?_
  refine ex_iconst cg_189 (ix := 10) (pc' := 17) rfl rfl ?_
  refine ex_istore cg_189 (ix := 11) (pc' := 19) (L' := [some (.inr (.inl 119)), some (.inl (.int x)), some (.inl (.int (Int32.ofInt 99))), some (.inl (.int (Int32.ofInt 99))), some (.inl (.int (Int32.ofInt (-1)))), none]) rfl rfl rfl rfl ?_
  refine ex_iconst cg_189 (ix := 12) (pc' := 20) rfl rfl ?_
  refine ex_istore cg_189 (ix := 13) (pc' := 22) (L' := [some (.inr (.inl 119)), some (.inl (.int x)), some (.inl (.int (Int32.ofInt 99))), some (.inl (.int (Int32.ofInt 99))), some (.inl (.int (Int32.ofInt (-1)))), some (.inl (.int (Int32.ofInt 0)))]) rfl rfl rfl rfl ?_
  rw [hik]
  refine fm_loop hx (fun b2 b3 b4 i e2 e3 e4 => fm_swell e4 (fm_tides ?_ ?_ (fun l m hl hm => ?_))) 16 0 rfl _ _ _ _ rfl rfl rfl (by decide +kernel)
  · rw [e2, fm_a_hi 16 (by omega)]; exact td_aU h (fun i hi => ht i (by omega))
  · rw [e3, fm_b_eq hh]; exact td_bU (16 - h) h (fun i h1 h2 => ht i (by omega))
  · rw [e2, e3, fm_a_hi 16 (by omega), fm_b_eq hh] at hl hm
    exact ⟨rfl, l, m, hl, hm, rfl⟩
end
