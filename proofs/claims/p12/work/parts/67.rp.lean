noncomputable section
/-- what is the same in both -/
def RP : rl_P := ([], [((0, 11), (119, 1))], [])
/-- the roster, in both: miles, who may follow, heads, guards, the plan and the tables, as told -/
def RO (mi fo pl ro mh : Nat → Int32) (hd : Nat → Nat → Int32) (g fk pf pt pr mf mt : Int32) : Prop := (∀ b u : Nat, b < 4 → u < 16 → mh (16 * b + u) = hd b u) ∧ (¬ fk.toInt = 0 → tbH mi fo) ∧ (∀ q : Nat, 1 ≤ q → q < 70 → fo q = Int32.ofInt 0) ∧ rosX (nbF mi) hd g.toNatClampNeg pf pt pr pl ∧ rosM (nbF mi) hd g.toNatClampNeg mf mt ro
def F4 (f0 f1 f2 f3 : Nat → Int32) : Nat → Nat → Int32 := fun i => bif Nat.beq i 0 then f0 else bif Nat.beq i 1 then f1 else bif Nat.beq i 2 then f2 else f3
def XRw (N : Nat) (f : Nat → Int32) (l : Option (List Value)) : Prop := l = some ((List.range N).map (fun i => .int (f i)))
def XQ (ws : va_W) : Prop := ∃ (mi fo pl f0 f1 f2 f3 mh ro : Nat → Int32) (g fk pf pt pr mf mt : Int32), XRw 4 mi (rl_row ws 44) ∧ XRw 4900 fo (rl_row ws 49) ∧ XRw 24 pl (rl_row ws 67) ∧ XRw 16 f0 (rl_row ws 6) ∧ XRw 16 f1 (rl_row ws 7) ∧ XRw 16 f2 (rl_row ws 8) ∧ XRw 16 f3 (rl_row ws 9) ∧ XRw 4 mi (rl_row ws 120) ∧ XRw 64 mh (rl_row ws 124) ∧ XRw 45927 ro (rl_row ws 130) ∧ rl_fld ws (43, 12) = some (.int g) ∧ rl_fld ws (43, 13) = some (.int fk) ∧ rl_fld ws (43, 14) = some (.int pf) ∧ rl_fld ws (43, 15) = some (.int pt) ∧ rl_fld ws (43, 16) = some (.int pr) ∧ rl_fld ws (119, 8) = some (.int g) ∧ rl_fld ws (119, 22) = some (.int mf) ∧ rl_fld ws (119, 23) = some (.int mt) ∧ RO mi fo pl ro mh (F4 f0 f1 f2 f3) g fk pf pt pr mf mt
def XS : List Nat := [44, 49, 67, 6, 7, 8, 9, 120, 124, 130, 3764, 3765, 3766, 3767, 3768, 8624, 8638, 8639]
theorem XQ_fr {M : Nat → Bool} {ws ws' : va_W} (hM : XS.all (fun k => !M k) = true) (hg : ab_gr M ws ws') (h : XQ ws) : XQ ws' := by
  obtain ⟨mi, fo, pl, f0, f1, f2, f3, mh, ro, g, fk, pf, pt, pr, mf, mt, h1, h2, h3, h4, h5, h6, h7, h8, h9, h10, g1, g2, g3, g4, g5, g6, g7, g8, hR⟩ := h
  have hk : ∀ k ∈ XS, M k = false := fun k hk => by simpa using List.all_eq_true.mp hM k hk
  have hr : ∀ {k N : Nat} {f : Nat → Int32}, M k = false → XRw N f (rl_row ws k) → XRw N f (rl_row ws' k) := fun q e => rl_row_keep hg q e
  refine ⟨mi, fo, pl, f0, f1, f2, f3, mh, ro, g, fk, pf, pt, pr, mf, mt, hr (hk _ (by decide)) h1, hr (hk _ (by decide)) h2, hr (hk _ (by decide)) h3, hr (hk _ (by decide)) h4, hr (hk _ (by decide)) h5, hr (hk _ (by decide)) h6, hr (hk _ (by decide)) h7, hr (hk _ (by decide)) h8, hr (hk _ (by decide)) h9, hr (hk _ (by decide)) h10, rl_fld_keep hg ?_ g1, rl_fld_keep hg ?_ g2, rl_fld_keep hg ?_ g3, rl_fld_keep hg ?_ g4, rl_fld_keep hg ?_ g5, rl_fld_keep hg ?_ g6, rl_fld_keep hg ?_ g7, rl_fld_keep hg ?_ g8, hR⟩
  · show (!M 3764) = true
    rw [hk 3764 (by decide)]; rfl
  · show (!M 3765) = true
    rw [hk 3765 (by decide)]; rfl
  · show (!M 3766) = true
    rw [hk 3766 (by decide)]; rfl
  · show (!M 3767) = true
    rw [hk 3767 (by decide)]; rfl
  · show (!M 3768) = true
    rw [hk 3768 (by decide)]; rfl
  · show (!M 8624) = true
    rw [hk 8624 (by decide)]; rfl
  · show (!M 8638) = true
    rw [hk 8638 (by decide)]; rfl
  · show (!M 8639) = true
    rw [hk 8639 (by decide)]; rfl
/-- what is kept by every turn -/
def rx_EQ (ws : va_W) : Prop := rl_EQ RP ws ∧ XQ ws
end
