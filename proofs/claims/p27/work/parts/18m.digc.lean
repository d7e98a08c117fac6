/-! the buffer as it lies in the class -/
def BC (σ : St) (len : Nat) (b : Nat → Int) : Prop := σ.1 0 8 = iI (len : Int) ∧ ∀ i : Nat, i < len → σ.1 137 i = iI (b i)
