noncomputable section
/-- what is the same in both -/
def RP : rl_P := ([], [], [])
/-- heads drawn, in both -/
def XQ (ws : va_W) : Prop := ∀ b c : Nat, b < 4 → c < 24 → ∃ x y : Int32, rl_nth (rl_row ws (115 + b)) c = some (.int x) ∧ rl_nth (rl_row ws 163) (24 * b + c) = some (.int y) ∧ y.toInt = x.toInt + 1 ∧ -1 ≤ x.toInt ∧ x.toInt ≤ 30
def XS : List Nat := [115, 116, 117, 118, 163]
theorem rl_nth_keep {M : Nat → Bool} {ws ws' : va_W} {k i : Nat} {v : Value} (hg : ab_gr M ws ws') (hM : M k = false) (h : rl_nth (rl_row ws k) i = some v) : rl_nth (rl_row ws' k) i = some v := by
  cases hr : rl_row ws k with
  | none => rw [hr] at h; cases h
  | some l => rw [rl_row_keep hg hM hr]; rw [hr] at h; exact h
theorem XQ_fr {M : Nat → Bool} {ws ws' : va_W} (hM : XS.all (fun k => !M k) = true) (hg : ab_gr M ws ws') (h : XQ ws) : XQ ws' := fun b c hb hc => by
  obtain ⟨x, y, h1, h2, h3⟩ := h b c hb hc
  have hk : ∀ k ∈ XS, M k = false := fun k hk => by simpa using List.all_eq_true.mp hM k hk
  refine ⟨x, y, rl_nth_keep hg (hk _ ?_) h1, rl_nth_keep hg (hk _ (by decide)) h2, h3⟩
  rcases (show b = 0 ∨ b = 1 ∨ b = 2 ∨ b = 3 by omega) with rfl | rfl | rfl | rfl <;> decide
/-- what is kept by every turn -/
def rx_EQ (ws : va_W) : Prop := rl_EQ RP ws ∧ XQ ws
end
