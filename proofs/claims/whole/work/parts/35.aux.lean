section AuxI
abbrev rng (x : Int32) : Prop := 0 ≤ x.toInt ∧ x.toInt ≤ 5
theorem rng_nn {x : Int32} (h : rng x) : ¬ x < 0 := x_lt0.mpr h.1
theorem rng_succ {x : Int32} (h : rng x) (h5 : x < 5) : rng (x + 1) := by
  obtain ⟨h1, h2⟩ := h
  rw [Int32.lt_iff_toInt_lt] at h5
  have l5 : (5 : Int32).toInt = 5 := by decide
  have l1 : (1 : Int32).toInt = 1 := by decide
  show 0 ≤ (x + 1).toInt ∧ (x + 1).toInt ≤ 5
  rw [Int32.toInt_add, Int.bmod_def, l1]
  omega
theorem take_rng {σ : Nat → Nat → Int32} {b i1 : Nat} (h : rng (σ b 1)) : rng (s_take σ b i1 b 1) := by
  unfold s_take
  split
  · rename_i h5
    rw [w2_same, cp2_ne (by omega)]
    exact rng_succ h h5
  · exact h
theorem tb_rng {σ : Nat → Nat → Int32} {b i1 i2 : Nat} {f : Int64} (h : rng (σ b 1)) : rng (s_takeBetween σ b i1 i2 f b 1) := by
  unfold s_takeBetween
  split
  · rename_i h5
    rw [w2_same, L_tb_ne (by omega)]
    exact rng_succ h h5
  · exact h
theorem te_rng {σ : Nat → Nat → Int32} {b i1 i2 : Nat} {x : Int32} (h : rng (σ b 1)) : rng (s_takeEdge σ b i1 i2 x b 1) := by
  unfold s_takeEdge
  repeat' split
  all_goals first | with_reducible exact h | with_reducible exact take_rng h | with_reducible exact tb_rng h | with_reducible exact tb_rng (take_rng h) | with_reducible exact tb_rng (tb_rng h) | with_reducible exact tb_rng (tb_rng (take_rng h))
theorem Lti_rng {σ : Nat → Nat → Int32} {b fb : Nat} {x : Int32} : ∀ k, rng (L_ti σ b fb x k b 1) := by
  intro k
  induction k with
  | zero =>
    show rng ((w2 σ b 1 0) b 1)
    rw [w2_same]
    exact ⟨by decide, by decide⟩
  | succ k ih =>
    show rng (B_ti σ b fb x (L_ti σ b fb x k) (nI k) b 1)
    unfold B_ti
    split
    · exact te_rng ih
    · exact te_rng ih
theorem ti_rng {σ : Nat → Nat → Int32} {b fb : Nat} {x : Int32} : rng (s_takeInside σ b fb x b 1) := by
  unfold s_takeInside
  split
  · exact Lti_rng _
  · rw [w2_same]
    exact ⟨by decide, by decide⟩
theorem slay_ne {σ : Nat → Nat → Int32} {i a : Nat} (h : a ≠ i) : s_slay σ i a = σ a := by
  unfold s_slay
  simp only [w2_ne h]
theorem cur_in5 {v m : Int32} {k : Nat} (hm : rng m) (hk : k < m.toNatClampNeg) (e : v = nI k) : vp_in v 5 := cur_in (cl_le hm) hk e
theorem slay_26 {σ : Nat → Nat → Int32} {j : Nat} : s_slay σ (26 + 2 + j) 26 1 = σ 26 1 := by rw [slay_ne (by omega)]
end AuxI
