noncomputable section
/-- what is the same in both -/
def RP : rl_P := ([([3], 122), ([4], 123), ([17, 18, 19, 20], 121)], [((0, 11), (119, 1))], [])
/-- nothing beside RP -/
def XQ (_ : va_W) : Prop := True
def XS : List Nat := []
theorem XQ_fr {M : Nat → Bool} {ws ws' : va_W} (_ : XS.all (fun k => !M k) = true) (_ : ab_gr M ws ws') (_ : XQ ws) : XQ ws' := trivial
/-- what is kept by every turn -/
def rx_EQ (ws : va_W) : Prop := rl_EQ RP ws ∧ XQ ws
end
