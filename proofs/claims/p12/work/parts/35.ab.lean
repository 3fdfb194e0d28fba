noncomputable section
def tN (a b : Nat) : ab_TV := some (.inl (false, .ofNat a, .ofNat b))
def tM (a b : Nat) : ab_TV := some (.inl (false, .negSucc a, .ofNat b))
def tQ (a b : Nat) : ab_TV := some (.inl (false, .negSucc a, .negSucc b))
def tF : ab_TV := some (.inl (false, .negSucc 2147483647, .ofNat 2147483647))
def tL (a b : Nat) : ab_TV := some (.inl (true, .ofNat a, .ofNat b))
def tK (a b : Nat) : ab_TV := some (.inl (true, .negSucc a, .ofNat b))
def tR (k : Nat) : ab_TV := some (.inr (.inl [k]))
end
