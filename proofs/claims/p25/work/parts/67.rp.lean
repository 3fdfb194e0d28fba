noncomputable section
/-- what is the same in both -/
def RP : rl_P := ([([143], 78), ([144], 79)], [((119, 42), (77, 7)), ((119, 43), (77, 8)), ((119, 44), (77, 9)), ((119, 41), (77, 10)), ((119, 45), (77, 11))], [((119, 45), .ofNat 0, .ofNat 31)])
/-- what stays and drifts is four parts of four -/
def XQ (ws : va_W) : Prop := ∃ x y z : Int32, rl_fld ws (119, 42) = some (.int x) ∧ rl_fld ws (119, 43) = some (.int y) ∧ rl_fld ws (119, 44) = some (.int z) ∧ x.toInt + y.toInt + z.toInt = 4
def XS : List Nat := [8658, 8659, 8660]
theorem XQ_fr {M : Nat → Bool} {ws ws' : va_W} (hM : XS.all (fun k => !M k) = true) (hg : ab_gr M ws ws') (h : XQ ws) : XQ ws' := by
  obtain ⟨x, y, z, h1, h2, h3, h4⟩ := h
  have hk : ∀ k ∈ XS, M k = false := fun k hk => by simpa using List.all_eq_true.mp hM k hk
  refine ⟨x, y, z, rl_fld_keep hg ?_ h1, rl_fld_keep hg ?_ h2, rl_fld_keep hg ?_ h3, h4⟩
  · show (!M 8658) = true
    rw [hk 8658 (by decide)]; rfl
  · show (!M 8659) = true
    rw [hk 8659 (by decide)]; rfl
  · show (!M 8660) = true
    rw [hk 8660 (by decide)]; rfl
/-- what is kept by every turn -/
def rx_EQ (ws : va_W) : Prop := rl_EQ RP ws ∧ XQ ws
end
