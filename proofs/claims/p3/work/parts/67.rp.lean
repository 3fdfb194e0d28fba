noncomputable section
/-- what is the same in both -/
def RP : rl_P := ([([17, 18, 19, 20], 121)], [])
end
