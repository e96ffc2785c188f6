theorem hk_ob : ∃ R : Nat → XS → DS → List MS → Prop, ObAll R := sorry
