section RelE
theorem fan_k : ∀ k, k < 6 → (f_fanOf (nI k)) = nI (k - 2) ∧ (f_fanOf (nI k)).toInt = ((k - 2 : Nat) : Int) ∧ (f_fanOf (nI k) - 1).toInt = ((k - 2 : Nat) : Int) - 1 := by decide +kernel
theorem fan_of {m : Int32} (h : rng m) : ∃ k, k < 6 ∧ m = nI k ∧ m.toNatClampNeg = k := by
  obtain ⟨k, hk, e⟩ := nI_of (rng_nn h)
  have h2 := h.2
  rw [e, nI_toInt hk] at h2
  exact ⟨k, by omega, e, by rw [e, nI_clamp hk]⟩
theorem fan_bd {σ : Nat → Nat → Int32} (h : RelW σ) : 0 ≤ (σ 35 11).toInt ∧ (σ 35 11).toInt ≤ 3 := by
  obtain ⟨_, _, _, _, _, _, g⟩ := h
  rw [g.2.1]
  obtain ⟨k, hk, e, _⟩ := fan_of g.1
  rw [e, (fan_k k hk).2.1]
  omega
theorem fan_bi {σ : Nat → Nat → Int32} (h : RelW σ) {x : Int32} : f_isBelow x (f_fanOf (σ 26 1)) = 0 ↔ f_in_ x 0 (σ 35 11 - 1) = 0 := by
  obtain ⟨_, _, _, _, _, _, g⟩ := h
  rw [g.2.1]
  obtain ⟨k, hk, e, _⟩ := fan_of g.1
  refine bi ?_
  rw [e, (fan_k k hk).2.1, (fan_k k hk).2.2]
  omega
/-- a corner of a triangle that was made -/
theorem fan_c {σ : Nat → Nat → Int32} (h : RelW σ) {x : Int32} (hx : ¬ f_isBelow x (f_fanOf (σ 26 1)) = 0) : ∃ i : Nat, x = nI i ∧ i + 2 < (σ 26 1).toNatClampNeg ∧ (σ 26 1).toNatClampNeg ≤ 5 := by
  obtain ⟨_, _, _, _, _, _, g⟩ := h
  obtain ⟨k, hk, e, ek⟩ := fan_of g.1
  have b := below_b hx
  rw [ek]
  rw [e, (fan_k k hk).2.1] at b
  obtain ⟨i, hi, ei⟩ := nI_of (x_lt0.mpr b.1)
  rw [ei, nI_toInt hi] at b
  exact ⟨i, ei, by omega, by omega⟩
theorem ixk {c k : Nat} (hc : c < 8) (hk : k < 32) : (32 * nI c + nI k).toNatClampNeg = 32 * c + k := ixq0 hc hk
theorem ix4 {c k : Nat} (hc : c < 8) (hk : k < 4) : (4 * nI c + nI k).toNatClampNeg = 4 * c + k := by
  rw [show (4 : Int32) = nI 4 from rfl, pk_mul, nI_add, nI_clamp (by omega)]
theorem ix40 {c : Nat} (hc : c < 8) : (4 * nI c).toNatClampNeg = 4 * c := (ix8 c hc).2.1
theorem size_eq {σ : Nat → Nat → Int32} (h : RelW σ) {x v : Int32} (hx : ¬ f_isBelow x (f_fanOf (σ 26 1)) = 0) : f_sizeOf σ 26 x = f_rareaOf (w2 σ 35 0 v) x := by
  obtain ⟨i, e, hi, h5⟩ := fan_c h hx
  obtain ⟨_, _, _, _, _, _, g⟩ := h
  have n0 : (0 : Int32).toNatClampNeg = 0 := by decide
  have n1 : (1 : Int32).toNatClampNeg = 1 := by decide
  have c1 : f_cornerOf x 1 = nI (i + 1) := by unfold f_cornerOf; rw [if_neg (by decide : ¬ (1 : Int32) = 0), e]; exact nI_add i 1
  have c2 : f_cornerOf x 2 = nI (i + 2) := by unfold f_cornerOf; rw [if_neg (by decide : ¬ (2 : Int32) = 0), e]; exact nI_add i 2
  have t1 : (x + 1).toNatClampNeg = i + 1 := by rw [e, show nI i + 1 = nI (i + 1) from nI_add i 1, nI_clamp (by omega)]
  have t2 : (x + 2).toNatClampNeg = i + 2 := by rw [e, show nI i + 2 = nI (i + 2) from nI_add i 2, nI_clamp (by omega)]
  unfold f_sizeOf f_rareaOf
  rw [c1, c2, t1, t2, n0, n1, w2_ne (by decide), ix40 (by omega), ix40 (by omega), show (4 * nI (i + 1) + 1).toNatClampNeg = 4 * (i + 1) + 1 from (ix8 _ (by omega)).2.2.1, show (4 * nI (i + 2) + 1).toNatClampNeg = 4 * (i + 2) + 1 from (ix8 _ (by omega)).2.2.1]
  have g0 := fun k hk => (g.2.2 0 (by omega)).1 k hk
  have g1 := fun k hk => (g.2.2 (i + 1) (by omega)).1 k hk
  have g2 := fun k hk => (g.2.2 (i + 2) (by omega)).1 k hk
  rw [g0 0 (by decide), g0 1 (by decide), g1 0 (by decide), g1 1 (by decide), g2 0 (by decide), g2 1 (by decide)]
  rfl
theorem m_area : ∀ σ (a0 : Int32), RelW σ → s_rarea (s_varea σ a0) a0 35 0 = t_varea σ a0 ∧ (t_varea σ a0 = 0 → f_varea σ a0 = f_rarea (s_varea σ a0) a0) ∧ RelW (s_rarea (s_varea σ a0) a0) := by
  intro σ a0 hR
  have sv : s_varea σ a0 = σ := by
    unfold s_varea
    split
    all_goals rfl
  rw [sv]
  unfold s_rarea t_varea f_varea f_rarea
  by_cases h1 : f_in_ a0 0 (σ 35 11 - 1) = 0
  · have h1b := (fan_bi hR).mpr h1
    rw [if_pos h1, if_pos h1b]
    exact ⟨w2_same, fun h => absurd h (by decide), rel_thrown hR⟩
  · have h1b : ¬ f_isBelow a0 (f_fanOf (σ 26 1)) = 0 := fun h => h1 ((fan_bi hR).mp h)
    rw [if_neg h1, if_neg h1b, if_neg h1b, if_neg h1]
    exact ⟨w2_same, fun _ => size_eq hR h1b, rel_thrown hR⟩
theorem m_area_b : ∀ {σ} {a0 : Int32}, RelW σ → 0 ≤ ((s_varea σ a0) 35 11).toInt ∧ ((s_varea σ a0) 35 11).toInt ≤ 3 := by
  intro σ a0 hR
  have sv : s_varea σ a0 = σ := by
    unfold s_varea
    split
    all_goals rfl
  rw [sv]
  exact fan_bd hR
theorem m_got : ∀ σ (a0 a1 a2 : Int32), RelW σ → s_rgot (s_vgot σ a0 a1 a2) a0 a1 a2 35 0 = t_vgot σ a0 a1 a2 ∧ (t_vgot σ a0 a1 a2 = 0 → f_vgot σ a0 a1 a2 = f_rgot (s_vgot σ a0 a1 a2) a0 a1 a2) ∧ RelW (s_rgot (s_vgot σ a0 a1 a2) a0 a1 a2) := by
  intro σ a0 a1 a2 hR
  have sv : s_vgot σ a0 a1 a2 = σ := by
    unfold s_vgot
    repeat' split
    all_goals rfl
  rw [sv]
  by_cases h1 : f_in_ a0 0 (σ 35 11 - 1) = 0
  · have h1b := (fan_bi hR).mpr h1
    have e1 : s_rgot σ a0 a1 a2 = w2 σ 35 0 1 := by
      unfold s_rgot
      rw [if_pos h1]
      repeat' split
      all_goals rfl
    have e2 : t_vgot σ a0 a1 a2 = 1 := by unfold t_vgot; rw [if_pos h1b]
    rw [e1, e2]
    exact ⟨w2_same, fun h => absurd h (by decide), rel_thrown hR⟩
  have h1b : ¬ f_isBelow a0 (f_fanOf (σ 26 1)) = 0 := fun h => h1 ((fan_bi hR).mp h)
  by_cases h2 : f_in_ a1 0 2 = 0
  · have h2b : f_isBelow a1 3 = 0 := (bi rfl).mpr h2
    have e1 : s_rgot σ a0 a1 a2 = w2 σ 35 0 2 := by unfold s_rgot; rw [if_neg h1, if_pos h2]
    have e2 : t_vgot σ a0 a1 a2 = 2 := by unfold t_vgot; rw [if_neg h1b, if_pos h2b]
    rw [e1, e2]
    exact ⟨w2_same, fun h => absurd h (by decide), rel_thrown hR⟩
  have h2b : ¬ f_isBelow a1 3 = 0 := fun h => h2 ((bi rfl).mp h)
  by_cases h3 : f_in_ a2 0 31 = 0
  · have h3b : f_isBelow a2 32 = 0 := (bi rfl).mpr h3
    have e1 : s_rgot σ a0 a1 a2 = w2 σ 35 0 2 := by unfold s_rgot; rw [if_neg h1, if_neg h2, if_pos h3]
    have e2 : t_vgot σ a0 a1 a2 = 2 := by unfold t_vgot; rw [if_neg h1b, if_neg h2b, if_pos h3b]
    rw [e1, e2]
    exact ⟨w2_same, fun h => absurd h (by decide), rel_thrown hR⟩
  have h3b : ¬ f_isBelow a2 32 = 0 := fun h => h3 ((bi rfl).mp h)
  have e1 : s_rgot σ a0 a1 a2 = w2 σ 35 0 0 := by
    unfold s_rgot
    rw [if_neg h1, if_neg h2, if_neg h3]
    split
    all_goals rfl
  have e2 : t_vgot σ a0 a1 a2 = 0 := by unfold t_vgot; rw [if_neg h1b, if_neg h2b, if_neg h3b]
  rw [e1, e2]
  refine ⟨w2_same, fun _ => ?_, rel_thrown hR⟩
  obtain ⟨i, e, hi, h5⟩ := fan_c hR h1b
  obtain ⟨j, hj, ej⟩ := in_nat (n := 2) rfl h2
  obtain ⟨k, hk, ek⟩ := in_nat (n := 31) rfl h3
  have hc : ∃ c, c < (σ 26 1).toNatClampNeg ∧ f_fanCorner a0 a1 = nI c ∧ f_cornerOf a0 a1 = nI c := by
    unfold f_fanCorner f_cornerOf
    by_cases z : a1 = 0
    · exact ⟨0, by omega, by rw [if_pos z]; rfl, by rw [if_pos z]; rfl⟩
    · exact ⟨i + j, by omega, by rw [if_neg z, e, ej, nI_add], by rw [if_neg z, e, ej, nI_add]⟩
  obtain ⟨c, hc, ec1, ec2⟩ := hc
  obtain ⟨_, _, _, _, _, _, g⟩ := hR
  have gc := g.2.2 c hc
  unfold f_vgot f_rgot
  rw [if_neg h1b, if_neg h2b, if_neg h3b, if_neg h1, if_neg h2, if_neg h3, ec1, ec2, w2_ne (by decide), w2_ne (by decide), ek, nI_clamp (show c < 2 ^ 31 by omega), nI_clamp (show k < 2 ^ 31 by omega)]
  by_cases k4 : (4 : Int32) ≤ nI k
  · rw [if_pos k4, ixk (by omega) (by omega)]
    rw [Int32.le_iff_toInt_le, nI_toInt (by omega)] at k4
    have l4 : (4 : Int32).toInt = 4 := by decide
    exact gc.2 k (by omega) (by omega)
  · rw [if_neg k4]
    rw [Int32.le_iff_toInt_le, nI_toInt (by omega)] at k4
    have l4 : (4 : Int32).toInt = 4 := by decide
    rw [ix4 (by omega) (by omega)]
    exact gc.1 k (by omega)
theorem m_got_b : ∀ {σ} {a0 a1 a2 : Int32}, RelW σ → 0 ≤ ((s_vgot σ a0 a1 a2) 35 11).toInt ∧ ((s_vgot σ a0 a1 a2) 35 11).toInt ≤ 3 := by
  intro σ a0 a1 a2 hR
  have sv : s_vgot σ a0 a1 a2 = σ := by
    unfold s_vgot
    repeat' split
    all_goals rfl
  rw [sv]
  exact fan_bd hR
theorem and1 (y : Int32) : y &&& 1 = 0 ∨ y &&& 1 = 1 := by
  have b1 : ∀ i, i < 32 → bt 1 i = decide (i = 0) := by decide +kernel
  have b0 : ∀ i, i < 32 → bt 0 i = false := by decide +kernel
  cases h : bt y 0
  · refine Or.inl (b_ext fun i hi => ?_)
    rw [b_and, b1 i hi, b0 i hi]
    by_cases z : i = 0
    · rw [z, h]; rfl
    · rw [decide_eq_false z, Bool.and_false]
  · refine Or.inr (b_ext fun i hi => ?_)
    rw [b_and, b1 i hi]
    by_cases z : i = 0
    · rw [z, h]; rfl
    · rw [decide_eq_false z, Bool.and_false]
theorem m_side : ∀ σ (a0 : Int32), RelW σ → s_rside (s_vside σ a0) a0 35 0 = t_vside σ a0 ∧ (t_vside σ a0 = 0 → f_vside σ a0 = f_rside (s_vside σ a0) a0) ∧ RelW (s_rside (s_vside σ a0) a0) := by
  intro σ a0 hR
  have sv : s_vside σ a0 = σ := by
    unfold s_vside
    repeat' split
    all_goals rfl
  rw [sv]
  by_cases h1 : f_in_ a0 0 (σ 35 11 - 1) = 0
  · have h1b := (fan_bi hR).mpr h1
    have e1 : s_rside σ a0 = w2 σ 35 0 1 := by unfold s_rside; rw [if_pos h1]
    have e2 : t_vside σ a0 = 1 := by unfold t_vside; rw [if_pos h1b]
    rw [e1, e2]
    exact ⟨w2_same, fun h => absurd h (by decide), rel_thrown hR⟩
  have h1b : ¬ f_isBelow a0 (f_fanOf (σ 26 1)) = 0 := fun h => h1 ((fan_bi hR).mp h)
  have e1 : s_rside σ a0 = w2 σ 35 0 0 := by
    unfold s_rside
    rw [if_neg h1]
    repeat' split
    all_goals rfl
  have e2 : t_vside σ a0 = 0 := by
    unfold t_vside
    rw [if_neg h1b]
    repeat' split
    all_goals rfl
  rw [e1, e2]
  refine ⟨w2_same, fun _ => ?_, rel_thrown hR⟩
  unfold f_vside f_rside
  rw [if_neg h1b, if_neg h1, ← size_eq hR h1b, w2_off (by decide), w2_off (by decide)]
  obtain ⟨_, _, _, _, _, f, _⟩ := hR
  rw [← f.1, ← f.2.1]
  unfold f_isOut
  generalize lg_cmp (f_sizeOf σ 26 a0) 0 = t
  rcases and1 (σ 0 6 >>> ((1 : Int32) &&& 31)) with q1 | q1 <;> rcases and1 (σ 0 6 >>> ((0 : Int32) &&& 31)) with q0 | q0 <;> rw [q0, q1] <;> by_cases z : t = 0 <;> simp [z]
theorem m_side_b : ∀ {σ} {a0 : Int32}, RelW σ → 0 ≤ ((s_vside σ a0) 35 11).toInt ∧ ((s_vside σ a0) 35 11).toInt ≤ 3 := by
  intro σ a0 hR
  have sv : s_vside σ a0 = σ := by
    unfold s_vside
    repeat' split
    all_goals rfl
  rw [sv]
  exact fan_bd hR
end RelE
