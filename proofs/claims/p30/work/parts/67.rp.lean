noncomputable section
/-- what is the same in both -/
def RP : rl_P := ([], [], [])
/-- the children, in both -/
def XR (lm fm fb mk ch : Nat → Int32) (lo fo jc us kn : Int32) (LN FN : Nat) : Prop := lo.toInt = (LN : Int) ∧ fo.toInt = (FN : Int) ∧ (ch 0).toInt = (LN : Int) ∧ (ch 1).toInt = (FN : Int) ∧ LN ≤ 8 ∧ FN ≤ 8 ∧ (∀ x : Nat, x < 8 → lm x = mk x ∧ fm x = mk (8 + x)) ∧ (kn = Int32.ofInt 1 → JR lm fm LN FN fb jc us)
def XRw (N : Nat) (f : Nat → Int32) (l : Option (List Value)) : Prop := l = some ((List.range N).map (fun i => .int (f i)))
def XQ (ws : va_W) : Prop := ∃ (lm fm fb mk ch : Nat → Int32) (lo fo jc us kn : Int32) (LN FN : Nat), XRw 8 lm (rl_row ws 88) ∧ XRw 8 fm (rl_row ws 89) ∧ XRw 8 fb (rl_row ws 100) ∧ XRw 2 ch (rl_row ws 149) ∧ XRw 16 mk (rl_row ws 150) ∧ rl_fld ws (87, 4) = some (.int lo) ∧ rl_fld ws (87, 5) = some (.int fo) ∧ rl_fld ws (87, 6) = some (.int jc) ∧ rl_fld ws (87, 7) = some (.int us) ∧ rl_fld ws (87, 8) = some (.int kn) ∧ XR lm fm fb mk ch lo fo jc us kn LN FN
def XS : List Nat := [88, 89, 100, 149, 150, 6572, 6573, 6574, 6575, 6576]
theorem XQ_fr {M : Nat → Bool} {ws ws' : va_W} (hM : XS.all (fun k => !M k) = true) (hg : ab_gr M ws ws') (h : XQ ws) : XQ ws' := by
  obtain ⟨lm, fm, fb, mk, ch, lo, fo, jc, us, kn, LN, FN, h1, h2, h3, h4, h5, g4, g5, g6, g7, g8, hR⟩ := h
  have hk : ∀ k ∈ XS, M k = false := fun k hk => by simpa using List.all_eq_true.mp hM k hk
  have hr : ∀ {k N : Nat} {f : Nat → Int32}, M k = false → XRw N f (rl_row ws k) → XRw N f (rl_row ws' k) := fun q e => rl_row_keep hg q e
  refine ⟨lm, fm, fb, mk, ch, lo, fo, jc, us, kn, LN, FN, hr (hk _ (by decide)) h1, hr (hk _ (by decide)) h2, hr (hk _ (by decide)) h3, hr (hk _ (by decide)) h4, hr (hk _ (by decide)) h5, rl_fld_keep hg ?_ g4, rl_fld_keep hg ?_ g5, rl_fld_keep hg ?_ g6, rl_fld_keep hg ?_ g7, rl_fld_keep hg ?_ g8, hR⟩
  · show (!M 6572) = true
    rw [hk 6572 (by decide)]; rfl
  · show (!M 6573) = true
    rw [hk 6573 (by decide)]; rfl
  · show (!M 6574) = true
    rw [hk 6574 (by decide)]; rfl
  · show (!M 6575) = true
    rw [hk 6575 (by decide)]; rfl
  · show (!M 6576) = true
    rw [hk 6576 (by decide)]; rfl
/-- what is kept by every turn -/
def rx_EQ (ws : va_W) : Prop := rl_EQ RP ws ∧ XQ ws
end
