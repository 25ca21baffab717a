section AuxG
theorem nn_lt {x : Int32} (h0 : ¬ x < 0) (h : x < 5) : x.toNatClampNeg < 5 := vp_lt (in_of (y := 5) rfl h0 h)
theorem nn_succ {x : Int32} (h0 : ¬ x < 0) (h : x < 5) : ¬ x + 1 < 0 := by
  rw [x_lt0] at h0 ⊢
  rw [Int32.lt_iff_toInt_lt] at h
  have l5 : (5 : Int32).toInt = 5 := by decide
  have l1 : (1 : Int32).toInt = 1 := by decide
  rw [Int32.toInt_add, Int.bmod_def, l1]
  omega
theorem L_tb_ne {σ : Nat → Nat → Int32} {b i1 i2 : Nat} {f : Int64} {a : Nat} (h : a ≠ b + 2 + (σ b 1).toNatClampNeg) : ∀ k, L_tb σ b i1 i2 f k a = σ a := by
  intro k
  induction k with
  | zero => rfl
  | succ k ih =>
    show B_tb σ b i1 i2 f (L_tb σ b i1 i2 f k) (nI k) a = σ a
    unfold B_tb
    rw [w2_ne h, ih]
theorem take_ne {σ : Nat → Nat → Int32} {b i1 a : Nat} (hm : ¬ σ b 1 < 0) (h1 : a ≠ b) (h2 : ∀ j, j < 5 → a ≠ b + 2 + j) : s_take σ b i1 a = σ a := by
  unfold s_take
  split
  · rename_i h
    rw [w2_ne h1, cp2_ne (h2 _ (nn_lt hm h))]
  · rfl
theorem tb_ne {σ : Nat → Nat → Int32} {b i1 i2 a : Nat} {f : Int64} (hm : ¬ σ b 1 < 0) (h1 : a ≠ b) (h2 : ∀ j, j < 5 → a ≠ b + 2 + j) : s_takeBetween σ b i1 i2 f a = σ a := by
  unfold s_takeBetween
  split
  · rename_i h
    rw [w2_ne h1, L_tb_ne (h2 _ (nn_lt hm h))]
  · rfl
theorem take_nn {σ : Nat → Nat → Int32} {b i1 : Nat} (hm : ¬ σ b 1 < 0) : ¬ s_take σ b i1 b 1 < 0 := by
  unfold s_take
  split
  · rename_i h
    rw [w2_same, cp2_ne (by omega)]
    exact nn_succ hm h
  · exact hm
theorem tb_nn {σ : Nat → Nat → Int32} {b i1 i2 : Nat} {f : Int64} (hm : ¬ σ b 1 < 0) : ¬ s_takeBetween σ b i1 i2 f b 1 < 0 := by
  unfold s_takeBetween
  split
  · rename_i h
    rw [w2_same, L_tb_ne (by omega)]
    exact nn_succ hm h
  · exact hm
theorem nI_self {x : Int32} (h : 0 ≤ x.toInt ∧ x.toInt ≤ 5) : x = nI x.toNatClampNeg := by
  obtain ⟨j, hj, e⟩ := nI_of (x_lt0.mpr h.1)
  rw [e, nI_clamp hj]
theorem cl_le {x : Int32} (h : 0 ≤ x.toInt ∧ x.toInt ≤ 5) : x.toNatClampNeg ≤ 5 := by
  obtain ⟨j, hj, e⟩ := nI_of (x_lt0.mpr h.1)
  have h2 := h.2
  rw [e, nI_toInt hj] at h2
  rw [e, nI_clamp hj]
  omega
theorem cl_lt {x : Int32} (h : 0 ≤ x.toInt ∧ x.toInt ≤ 5) : x.toNatClampNeg < 2147483648 := Nat.lt_of_le_of_lt (cl_le h) (by omega)
theorem next_in {m v : Int32} {k N : Nat} (hm : m = nI N) (hN : N ≤ 5) (hk : k < N) (e : v = nI k) (c : ¬ m ≤ v + 1) : vp_in (v + 1) 5 := by
  subst hm e
  rw [nI_1] at c ⊢
  have h1 : k + 1 < N := by
    rcases Nat.lt_or_ge (k + 1) N with h | h
    · exact h
    · exact absurd (nI_le h (by omega)) c
  exact vp_in_nI (by omega) (by omega)
theorem cur_in {v : Int32} {k N : Nat} (hN : N ≤ 5) (hk : k < N) (e : v = nI k) : vp_in v 5 := by
  subst e
  exact vp_in_nI (by omega) (by omega)
end AuxG
