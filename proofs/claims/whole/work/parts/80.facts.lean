def RelW (σ : Nat → Nat → Int32) : Prop := σ 12 1 = 3
theorem facts_all : FactsOf RelW := sorry
theorem rel_0 : RelW σ0 := rfl
