/-! ===== shapes ===== -/
def iv_H (_ : Nat) : sy_h := (.inr (), .inr ())
def iv_nh (_ : Nat) : Nat := 0
