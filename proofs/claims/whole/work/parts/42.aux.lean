section AuxK
theorem bel3 {j : Int32} (h : ¬ f_isBelow j 3 = 0) : 0 ≤ j.toInt ∧ j.toInt ≤ 2 := by
  have b := below_b h
  have l : (3 : Int32).toInt = 3 := by decide
  omega
theorem vq7 {n : Int32} (h : ¬ f_isBelow n 7 = 0) : 0 ≤ (4 + 4 * n).toInt ∧ (4 + 4 * n).toInt ≤ 28 := by
  have b := below_b h
  have l7 : (7 : Int32).toInt = 7 := by decide
  have l4 : (4 : Int32).toInt = 4 := by decide
  simp only [Int32.toInt_add, Int32.toInt_mul, Int.bmod_def, l4]
  omega
theorem fan_b {t m : Int32} (h : ¬ f_isBelow t (f_fanOf m) = 0) (hm : rng m) : 0 ≤ t.toInt ∧ t.toInt ≤ 2 := by
  have b := below_b h
  obtain ⟨h1, h2⟩ := hm
  unfold f_fanOf at b
  have l0 : (0 : Int32).toInt = 0 := by decide
  have l2 : (2 : Int32).toInt = 2 := by decide
  split at b
  · rw [Int32.toInt_sub, Int.bmod_def, l2] at b
    omega
  · omega
theorem fcor_in {t j : Int32} (ht : 0 ≤ t.toInt ∧ t.toInt ≤ 2) (hj : 0 ≤ j.toInt ∧ j.toInt ≤ 2) : vp_in (f_fanCorner t j) 5 := by
  rw [vp_in_iff]
  unfold f_fanCorner
  split
  · exact ⟨by decide, by decide⟩
  · rw [Int32.toInt_add, Int.bmod_def]
    omega
end AuxK
