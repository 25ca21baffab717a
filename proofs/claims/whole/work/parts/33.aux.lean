section AuxH
theorem te_ne {σ : Nat → Nat → Int32} {b i1 i2 a : Nat} {x : Int32} (hm : ¬ σ b 1 < 0) (h1 : a ≠ b) (h2 : ∀ j, j < 5 → a ≠ b + 2 + j) : s_takeEdge σ b i1 i2 x a = σ a := by
  unfold s_takeEdge
  repeat' split
  all_goals first | with_reducible rfl | rw [take_ne hm h1 h2] | rw [tb_ne hm h1 h2] | rw [tb_ne (take_nn hm) h1 h2, take_ne hm h1 h2] | rw [tb_ne (tb_nn hm) h1 h2, tb_ne hm h1 h2] | rw [tb_ne (tb_nn (take_nn hm)) h1 h2, tb_ne (take_nn hm) h1 h2, take_ne hm h1 h2]
theorem te_nn {σ : Nat → Nat → Int32} {b i1 i2 : Nat} {x : Int32} (hm : ¬ σ b 1 < 0) : ¬ s_takeEdge σ b i1 i2 x b 1 < 0 := by
  unfold s_takeEdge
  repeat' split
  all_goals first | with_reducible exact hm | with_reducible exact take_nn hm | with_reducible exact tb_nn hm | with_reducible exact tb_nn (take_nn hm) | with_reducible exact tb_nn (tb_nn hm) | with_reducible exact tb_nn (tb_nn (take_nn hm))
theorem isP_ne {b fb : Nat} (h : isP b) (hf : isP fb) (hne : fb ≠ b) : ∀ j, j < 5 → fb ≠ b + 2 + j := by
  intro j hj
  rcases h with rfl | rfl | rfl <;> rcases hf with rfl | rfl | rfl <;> omega
theorem ti_0 {σ : Nat → Nat → Int32} {b fb : Nat} (hne : fb ≠ b) : (w2 σ b 1 0) fb 1 = σ fb 1 ∧ ¬ (w2 σ b 1 0) b 1 < 0 := by
  constructor
  · rw [w2_ne hne]
  · rw [w2_same]
    decide
theorem ti_step {σ0 σ : Nat → Nat → Int32} {b fb i1 i2 : Nat} {x : Int32} (h : isP b) (hf : isP fb) (hne : fb ≠ b) (hI : σ fb 1 = σ0 fb 1 ∧ ¬ σ b 1 < 0) : s_takeEdge σ b i1 i2 x fb 1 = σ0 fb 1 ∧ ¬ s_takeEdge σ b i1 i2 x b 1 < 0 := by
  constructor
  · rw [te_ne hI.2 hne (isP_ne h hf hne)]
    exact hI.1
  · exact te_nn hI.2
end AuxH
