noncomputable section
/-- what is the same in both -/
def RP : rl_P := ([], [((43, 12), (119, 8))])
end
