noncomputable section
/-- what is the same in both -/
def RP : rl_P := ([], [((0, 11), (119, 1))], [])
/-- the roster, in both: miles, who may follow, heads, guards, the plan and the tables, as told -/
def RO (mi fo pl ro mh : Nat → Int32) (hd : Nat → Nat → Int32) (g fk pf pt pr mf mt : Int32) : Prop := (∀ b u : Nat, b < 4 → u < 16 → mh (16 * b + u) = hd b u) ∧ (¬ fk.toInt = 0 → tbH mi fo) ∧ (∀ q : Nat, 1 ≤ q → q < 70 → fo q = Int32.ofInt 0) ∧ rosX (nbF mi) hd g.toNatClampNeg pf pt pr pl ∧ rosM (nbF mi) hd g.toNatClampNeg mf mt ro
def F4 (f0 f1 f2 f3 : Nat → Int32) : Nat → Nat → Int32 := fun i => bif Nat.beq i 0 then f0 else bif Nat.beq i 1 then f1 else bif Nat.beq i 2 then f2 else f3
def XRw (N : Nat) (f : Nat → Int32) (l : Option (List Value)) : Prop := l = some ((List.range N).map (fun i => .int (f i)))
def XQ (ws : va_W) : Prop := ∃ (mi fo pl f0 f1 f2 f3 mh ro : Nat → Int32) (g fk pf pt pr mf mt : Int32), XRw 4 mi (rl_row ws 44) ∧ XRw 4900 fo (rl_row ws 49) ∧ XRw 24 pl (rl_row ws 67) ∧ XRw 16 f0 (rl_row ws 6) ∧ XRw 16 f1 (rl_row ws 7) ∧ XRw 16 f2 (rl_row ws 8) ∧ XRw 16 f3 (rl_row ws 9) ∧ XRw 4 mi (rl_row ws 120) ∧ XRw 64 mh (rl_row ws 124) ∧ XRw 45927 ro (rl_row ws 130) ∧ rl_fld ws (43, 12) = some (.int g) ∧ rl_fld ws (43, 13) = some (.int fk) ∧ rl_fld ws (43, 14) = some (.int pf) ∧ rl_fld ws (43, 15) = some (.int pt) ∧ rl_fld ws (43, 16) = some (.int pr) ∧ rl_fld ws (119, 8) = some (.int g) ∧ rl_fld ws (119, 22) = some (.int mf) ∧ rl_fld ws (119, 23) = some (.int mt) ∧ RO mi fo pl ro mh (F4 f0 f1 f2 f3) g fk pf pt pr mf mt
end
