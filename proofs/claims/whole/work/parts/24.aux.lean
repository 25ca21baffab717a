section AuxB
theorem in_b {x y z : Int32} (h : ¬ f_in_ x y z = 0) : y.toInt ≤ x.toInt ∧ x.toInt ≤ z.toInt := by
  unfold f_in_ at h
  by_cases h1 : x < y
  · rw [if_pos h1] at h; exact absurd rfl h
  · by_cases h2 : z < x
    · rw [if_neg h1, if_pos h2] at h; exact absurd rfl h
    · rw [Int32.lt_iff_toInt_lt] at h1 h2
      omega
theorem within_b {x y z : Int32} (h : ¬ f_isWithin x y z = 0) : y.toInt ≤ x.toInt ∧ x.toInt ≤ z.toInt := by
  unfold f_isWithin at h
  by_cases h1 : x < y
  · rw [if_pos h1] at h; exact absurd rfl h
  · by_cases h2 : z < x
    · rw [if_neg h1, if_pos h2] at h; exact absurd rfl h
    · rw [Int32.lt_iff_toInt_lt] at h1 h2
      omega
theorem below_b {x y : Int32} (h : ¬ f_isBelow x y = 0) : 0 ≤ x.toInt ∧ x.toInt < y.toInt := by
  rw [isBelow_0] at h
  have h1 : ¬ x < 0 := fun z => h (Or.inl z)
  have h2 : ¬ y ≤ x := fun z => h (Or.inr z)
  rw [x_lt0] at h1
  rw [Int32.le_iff_toInt_le] at h2
  omega
theorem mx256_ne (z : Int32) : ¬ (if (256 : Int32) < z then z else (256 : Int32)).toInt64 = 0 := by
  intro h
  have h1 := congrArg Int64.toInt h
  rw [Int32.toInt_toInt64] at h1
  have l0 : (0 : Int64).toInt = 0 := by decide
  have l1 : (256 : Int32).toInt = 256 := by decide
  split at h1
  · rename_i h2
    rw [Int32.lt_iff_toInt_lt] at h2
    omega
  · omega
end AuxB
section AuxC
theorem wat_in {w : Int64} (h1 : ¬ lg_cmp w 0 < 0) (h2 : lg_cmp w 4095 ≤ 0) : vp_in w.toInt32 4096 := by
  rw [lg_cmp_lt] at h1
  rw [lg_cmp_le] at h2
  rw [Int64.lt_iff_toInt_lt] at h1
  rw [Int64.le_iff_toInt_le] at h2
  have e0 : (0 : Int64).toInt = 0 := by decide
  have e1 : (4095 : Int64).toInt = 4095 := by decide
  rw [e0] at h1
  rw [e1] at h2
  have h3 := Kit.i32_of_i64 (x := w) (by omega) (by omega)
  exact vp_in_iff.mpr ⟨by omega, by omega⟩
end AuxC
