section AuxF
theorem lp_end {NV kv : Int32} {N k : Nat} (hN : NV = nI N) (hB : N < 2147483648) (hk : k ≤ N) (e : kv = nI k) (c : NV ≤ kv) : k = N := by
  subst hN e
  have := (nI_leI (a := N) (b := k) hB (Nat.lt_of_le_of_lt hk hB)).mp c
  omega
theorem lp_body {NV kv : Int32} {N k : Nat} (hN : NV = nI N) (hB : N < 2147483648) (hk : k ≤ N) (e : kv = nI k) (c : ¬ NV ≤ kv) : k < N ∧ kv.toInt = (k : Int) ∧ kv.toNatClampNeg = k := by
  subst hN e
  have h1 : ¬ N ≤ k := fun z => c (nI_le z (Nat.lt_of_le_of_lt hk hB))
  exact ⟨by omega, nI_toInt (Nat.lt_of_le_of_lt hk hB), nI_clamp (Nat.lt_of_le_of_lt hk hB)⟩
theorem made_b {t x : Int32} (h : ¬ f_in_ t 0 (x - 1) = 0) (hx : 0 ≤ x.toInt ∧ x.toInt ≤ 3) : 0 ≤ t.toInt ∧ t.toInt ≤ 2 := by
  have b := in_b h
  have l0 : (0 : Int32).toInt = 0 := by decide
  have l1 : (1 : Int32).toInt = 1 := by decide
  rw [Int32.toInt_sub, l1, l0, Int.bmod_def] at b
  omega
theorem corner_b (t j : Int32) (ht : 0 ≤ t.toInt ∧ t.toInt ≤ 2) (hj : 0 ≤ j.toInt ∧ j.toInt ≤ 2) : 0 ≤ (f_cornerOf t j).toInt ∧ (f_cornerOf t j).toInt ≤ 4 := by
  unfold f_cornerOf
  split
  · decide
  · rw [Int32.toInt_add, Int.bmod_def]
    omega
theorem in_02 {j : Int32} (h : ¬ f_in_ j 0 2 = 0) : 0 ≤ j.toInt ∧ j.toInt ≤ 2 := by
  have b := in_b h
  have l0 : (0 : Int32).toInt = 0 := by decide
  have l2 : (2 : Int32).toInt = 2 := by decide
  omega
end AuxF
