section RelB
theorem in3 {x : Int32} (h : ¬ f_in_ x 0 2 = 0) : x = 0 ∨ x = 1 ∨ x = 2 := by
  have b := in_b h
  have l0 : (0 : Int32).toInt = 0 := by decide
  have l2 : (2 : Int32).toInt = 2 := by decide
  rcases (by omega : x.toInt = 0 ∨ x.toInt = 1 ∨ x.toInt = 2) with e | e | e
  · exact Or.inl (Int32.toInt_inj.mp (by rw [e]; rfl))
  · exact Or.inr (Or.inl (Int32.toInt_inj.mp (by rw [e]; rfl)))
  · exact Or.inr (Or.inr (Int32.toInt_inj.mp (by rw [e]; rfl)))
theorem at_word {σ : Nat → Nat → Int32} (h : rM σ) (w : Int64) : f_at σ w = f_wordAt σ w := by
  unfold f_at f_wordAt
  by_cases h1 : lg_cmp w 0 < 0
  · rw [if_pos h1, if_pos h1]
  · rw [if_neg h1, if_neg h1]
    have e1 : (4096 : Int64).toInt = 4096 := by decide
    have e2 : (4095 : Int64).toInt = 4095 := by decide
    by_cases h2 : 0 ≤ lg_cmp w 4096
    · have h3 : ¬ lg_cmp w 4095 ≤ 0 := by
        rw [lg_cmp_ge, Int64.le_iff_toInt_le] at h2
        rw [lg_cmp_le, Int64.le_iff_toInt_le]
        omega
      rw [if_pos h2, if_neg h3]
    · have h3 : lg_cmp w 4095 ≤ 0 := by
        rw [lg_cmp_ge, Int64.le_iff_toInt_le] at h2
        rw [lg_cmp_le, Int64.le_iff_toInt_le]
        omega
      rw [if_neg h2, if_pos h3]
      exact h _ (vp_lt (at_in h1 h2))
theorem wordAt_t {σ : Nat → Nat → Int32} {v : Int32} (w : Int64) : f_wordAt (w2 σ 35 0 v) w = f_wordAt σ w := by
  unfold f_wordAt
  rw [w2_ne (by decide)]
theorem m_corner : ∀ σ (a0 a1 a2 : Int32), RelW σ → s_rcorner (s_vcorner σ a0 a1 a2) a0 a1 a2 35 0 = t_vcorner σ a0 a1 a2 ∧ (t_vcorner σ a0 a1 a2 = 0 → f_vcorner σ a0 a1 a2 = f_rcorner (s_vcorner σ a0 a1 a2) a0 a1 a2) ∧ RelW (s_rcorner (s_vcorner σ a0 a1 a2) a0 a1 a2) := by
  intro σ a0 a1 a2 hR
  have sv : s_vcorner σ a0 a1 a2 = σ := by
    unfold s_vcorner
    repeat' split
    all_goals rfl
  rw [sv]
  have bad : ∀ v : Int32, s_rcorner σ a0 a1 a2 = w2 σ 35 0 1 → t_vcorner σ a0 a1 a2 = 1 → s_rcorner σ a0 a1 a2 35 0 = t_vcorner σ a0 a1 a2 ∧ (t_vcorner σ a0 a1 a2 = 0 → f_vcorner σ a0 a1 a2 = f_rcorner σ a0 a1 a2) ∧ RelW (s_rcorner σ a0 a1 a2) := by
    intro v e1 e2
    rw [e1, e2]
    exact ⟨w2_same, fun h => absurd h (by decide), rel_thrown hR⟩
  by_cases h1 : f_in_ a0 0 2 = 0
  · have h1b : f_isBelow a0 3 = 0 := (bi rfl).mpr h1
    exact bad 0 (by unfold s_rcorner; rw [if_pos h1]) (by unfold t_vcorner; rw [if_pos h1b])
  · have h1b : ¬ f_isBelow a0 3 = 0 := fun h => h1 ((bi rfl).mp h)
    by_cases h2 : f_in_ a1 0 100000000 = 0
    · have h2b : f_isBelow a1 100000001 = 0 := (bi rfl).mpr h2
      exact bad 0 (by unfold s_rcorner; rw [if_neg h1, if_pos h2]) (by unfold t_vcorner; rw [if_neg h1b, if_pos h2b])
    · have h2b : ¬ f_isBelow a1 100000001 = 0 := fun h => h2 ((bi rfl).mp h)
      by_cases h3 : f_in_ a2 0 2 = 0
      · have h3b : f_isBelow a2 3 = 0 := (bi rfl).mpr h3
        exact bad 0 (by unfold s_rcorner; rw [if_neg h1, if_neg h2, if_pos h3]) (by unfold t_vcorner; rw [if_neg h1b, if_neg h2b, if_pos h3b])
      · have h3b : ¬ f_isBelow a2 3 = 0 := fun h => h3 ((bi rfl).mp h)
        have es : s_rcorner σ a0 a1 a2 = w2 σ 35 0 0 := by
          unfold s_rcorner
          rw [if_neg h1, if_neg h2, if_neg h3]
          repeat' split
          all_goals rfl
        have et : t_vcorner σ a0 a1 a2 = 0 := by
          unfold t_vcorner
          rw [if_neg h1b, if_neg h2b, if_neg h3b]
          repeat' split
          all_goals rfl
        rw [es, et]
        refine ⟨w2_same, fun _ => ?_, rel_thrown hR⟩
        unfold f_vcorner f_rcorner
        rw [if_neg h1b, if_neg h2b, if_neg h3b, if_neg h1, if_neg h2, if_neg h3]
        rcases in3 h1 with e | e | e
        · rw [if_pos e, if_pos e]
        · rw [e]
          unfold f_stripCorner
          rw [if_neg (by decide : ¬ (1 : Int32) = 0), if_pos rfl, if_neg (by decide : ¬ (1 : Int32) = 0), if_neg (by decide : ¬ (1 : Int32) = 2)]
        · rw [e]
          unfold f_fanCorner
          rw [if_neg (by decide : ¬ (2 : Int32) = 0), if_neg (by decide : ¬ (2 : Int32) = 1), if_neg (by decide : ¬ (2 : Int32) = 0), if_pos (rfl : (2 : Int32) = 2)]
theorem i32_64_32 (k : Int32) : k.toInt64.toInt32 = k := by
  apply Int32.toInt_inj.mp
  have h1 := k.toInt_lt
  have h2 := k.le_toInt
  rw [Kit.i32_of_i64 (by rw [Int32.toInt_toInt64]; exact h2) (by rw [Int32.toInt_toInt64]; exact h1), Int32.toInt_toInt64]
theorem at_k {σ : Nat → Nat → Int32} {k : Int32} (h : ¬ f_isBelow k 4096 = 0) : f_at σ k.toInt64 = σ 2 k.toNatClampNeg := by
  have b := below_b h
  have l : (4096 : Int32).toInt = 4096 := by decide
  have l0 : (0 : Int64).toInt = 0 := by decide
  have l1 : (4096 : Int64).toInt = 4096 := by decide
  unfold f_at
  rw [if_neg (by rw [lg_cmp_lt, Int64.lt_iff_toInt_lt, Int32.toInt_toInt64]; omega), if_neg (by rw [lg_cmp_ge, Int64.le_iff_toInt_le, Int32.toInt_toInt64]; omega), i32_64_32]
theorem m_word : ∀ σ (a0 a1 : Int32), RelW σ → s_rword (s_vword σ a0 a1) a0 a1 35 0 = t_vword σ a0 a1 ∧ (t_vword σ a0 a1 = 0 → f_vword σ a0 a1 = f_rword (s_vword σ a0 a1) a0 a1) ∧ RelW (s_rword (s_vword σ a0 a1) a0 a1) := by
  intro σ a0 a1 hR
  by_cases h1 : f_in_ a0 0 4095 = 0
  · have h1b : f_isBelow a0 4096 = 0 := (bi rfl).mpr h1
    have e1 : s_vword σ a0 a1 = σ := by unfold s_vword; rw [if_pos h1b]
    have e2 : t_vword σ a0 a1 = 1 := by unfold t_vword; rw [if_pos h1b]
    have e3 : s_rword σ a0 a1 = w2 σ 35 0 1 := by unfold s_rword; rw [if_pos h1]
    rw [e1, e2, e3]
    exact ⟨w2_same, fun h => absurd h (by decide), rel_thrown hR⟩
  · have h1b : ¬ f_isBelow a0 4096 = 0 := fun h => h1 ((bi rfl).mp h)
    have e1 : s_vword σ a0 a1 = w2 σ 2 a0.toNatClampNeg a1 := by unfold s_vword s_swap; rw [if_neg h1b, if_neg h1b]
    have e2 : t_vword σ a0 a1 = 0 := by unfold t_vword; rw [if_neg h1b]
    have e3 : ∀ σ, s_rword σ a0 a1 = w2 (w2 σ 35 0 0) 36 a0.toNatClampNeg a1 := by intro σ; unfold s_rword; rw [if_neg h1]
    have hk : a0.toNatClampNeg < 4096 := vp_lt (below_in (n := 4096) rfl h1b)
    rw [e1, e2, e3]
    refine ⟨by rw [w2_ne (by decide)]; exact w2_same, fun _ => ?_, ?_⟩
    · unfold f_vword f_rword f_swap
      rw [if_neg h1b, if_neg h1b, if_neg h1, at_k h1b, w2_ne (by decide), w2_ne (by decide)]
      exact hR.2.1 _ hk
    · obtain ⟨a, b, c, d, e, f, g⟩ := hR
      have ne : ∀ x, x ≠ 2 → x ≠ 36 → x ≠ 35 → w2 (w2 (w2 σ 2 a0.toNatClampNeg a1) 35 0 0) 36 a0.toNatClampNeg a1 x = σ x := fun x h2 h3 h4 => by rw [w2_ne h3, w2_ne h4, w2_ne h2]
      have ne35 : ∀ y, y ≠ 0 → w2 (w2 (w2 σ 2 a0.toNatClampNeg a1) 35 0 0) 36 a0.toNatClampNeg a1 35 y = σ 35 y := fun y hy => by rw [w2_ne (by decide), w2_off hy, w2_ne (by decide)]
      refine ⟨by rw [ne 12 (by decide) (by decide) (by decide)]; exact a, fun j hj => ?_, fun n k hn hk => ?_, fun j k hj hk => ?_, ?_, ?_, ?_⟩
      · rw [w2_ne (by decide), w2_ne (by decide)]
        by_cases hjk : j = a0.toNatClampNeg
        · rw [hjk, w2_same, w2_same]
        · rw [w2_off hjk, w2_off hjk, w2_ne (by decide), w2_ne (by decide)]
          exact b j hj
      · rw [ne (4 + n) (by omega) (by omega) (by omega), ne 37 (by decide) (by decide) (by decide)]; exact c n k hn hk
      · rw [ne (12 + 2 + j) (by omega) (by omega) (by omega), ne 38 (by decide) (by decide) (by decide)]; exact d j k hj hk
      · unfold rV
        rw [ne 33 (by decide) (by decide) (by decide), ne 39 (by decide) (by decide) (by decide)]; exact e
      · unfold rF
        rw [ne 0 (by decide) (by decide) (by decide), ne35 5 (by decide), ne35 6 (by decide)]; exact f
      · unfold rD
        rw [ne 26 (by decide) (by decide) (by decide), ne35 11 (by decide), ne 42 (by decide) (by decide) (by decide), ne 40 (by decide) (by decide) (by decide)]
        refine ⟨g.1, g.2.1, fun c hc => ?_⟩
        have hc5 := cl_le g.1
        rw [ne (26 + 2 + c) (by omega) (by omega) (by omega)]
        exact g.2.2 c hc
end RelB
