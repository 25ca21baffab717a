section AuxD
variable {σ : Nat → Nat → Int32} {y : Int32}
theorem frefuse_1 : f_refuse σ 1 y = 1 := by
  unfold f_refuse
  rw [if_neg (by decide), w2_same, if_neg (by decide)]
theorem frefuse_01 : f_refuse σ 0 1 = 1 := by
  unfold f_refuse
  rw [if_pos rfl, if_neg (by decide), w2_same, if_neg (by decide)]
theorem frefuse_00 : f_refuse σ 0 0 = 0 := by
  unfold f_refuse
  rw [if_pos rfl, if_pos rfl, w2_same, if_pos (by decide)]
theorem srefuse_1 : s_refuse σ 1 y = w2 σ 35 0 1 := by
  unfold s_refuse
  rw [if_neg (by decide)]
  split <;> rfl
theorem srefuse_01 : s_refuse σ 0 1 = w2 σ 35 0 2 := by
  unfold s_refuse
  rw [if_pos rfl, if_neg (by decide)]
  split <;> rfl
theorem srefuse_00 : s_refuse σ 0 0 = w2 σ 35 0 0 := by
  unfold s_refuse
  rw [if_pos rfl, if_pos rfl]
  split <;> rfl
end AuxD
section AuxE
theorem vary_q {n : Int32} (h : ¬ f_in_ n 0 6 = 0) : 0 ≤ (4 + 4 * n).toInt ∧ (4 + 4 * n).toInt ≤ 28 := by
  have b := in_b h
  have l0 : (0 : Int32).toInt = 0 := by decide
  have l4 : (4 : Int32).toInt = 4 := by decide
  have l6 : (6 : Int32).toInt = 6 := by decide
  simp only [Int32.toInt_add, Int32.toInt_mul, Int.bmod_def, l4]
  omega
theorem nar01 {x : Int32} (h : x = 0 ∨ x = 1) : narrow .boolean (.int x) = .int x := by
  rcases h with rfl | rfl <;> rfl
theorem fit01 {x : Int32} (h : x = 0 ∨ x = 1) : fits .boolean (.int x) = true := by
  rcases h with rfl | rfl <;> rfl
theorem corner_1 (t : Int32) : f_cornerOf t 1 = t + 1 := by
  unfold f_cornerOf
  rw [if_neg (by decide)]
theorem corner_2 (t : Int32) : f_cornerOf t 2 = t + 2 := by
  unfold f_cornerOf
  rw [if_neg (by decide)]
end AuxE
