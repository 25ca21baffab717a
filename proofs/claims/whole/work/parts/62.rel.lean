section RelC
theorem rM_c {σ σ' : Nat → Nat → Int32} (h : rM σ) (h2 : σ' 2 = σ 2) (h36 : σ' 36 = σ 36) : rM σ' := fun j hj => by rw [h2, h36]; exact h j hj
theorem rA_c {σ σ' : Nat → Nat → Int32} (h : rA σ) (h1 : ∀ n, n < 8 → σ' (4 + n) = σ (4 + n)) (h37 : σ' 37 = σ 37) : rA σ' := fun n c hn hc => by rw [h1 n hn, h37]; exact h n c hn hc
theorem rC_c {σ σ' : Nat → Nat → Int32} (h : rC σ) (h1 : ∀ n, n < 3 → σ' (12 + 2 + n) = σ (12 + 2 + n)) (h38 : σ' 38 = σ 38) : rC σ' := fun n c hn hc => by rw [h1 n hn, h38]; exact h n c hn hc
theorem rV_c {σ σ' : Nat → Nat → Int32} (h : rV σ) (h1 : σ' 33 = σ 33) (h2 : σ' 39 = σ 39) : rV σ' := by unfold rV; rw [h1, h2]; exact h
theorem rF_c {σ σ' : Nat → Nat → Int32} (h : rF σ) (h1 : σ' 0 6 = σ 0 6) (h2 : σ' 0 7 = σ 0 7) (h3 : σ' 35 5 = σ 35 5) (h4 : σ' 35 6 = σ 35 6) : rF σ' := by unfold rF; rw [h1, h2, h3, h4]; exact h
theorem rD_c {σ σ' : Nat → Nat → Int32} (h : rD σ) (h26 : σ' 26 1 = σ 26 1) (h35 : σ' 35 11 = σ 35 11) (h1 : ∀ c, c < 5 → σ' (26 + 2 + c) = σ (26 + 2 + c)) (h42 : σ' 42 = σ 42) (h40 : σ' 40 = σ 40) : rD σ' := by
  unfold rD
  rw [h26, h35, h42, h40]
  refine ⟨h.1, h.2.1, fun c hc => ?_⟩
  have hc5 := cl_le h.1
  rw [h1 c (by omega)]
  exact h.2.2 c hc
theorem rD_z {σ' : Nat → Nat → Int32} (h26 : σ' 26 1 = 0) (h35 : σ' 35 11 = 0) : rD σ' := by
  unfold rD
  rw [h26, h35]
  exact ⟨⟨by decide, by decide⟩, by decide, fun c hc => absurd hc (Nat.not_lt_zero c)⟩
theorem w4_at {σ : Nat → Nat → Int32} {i A B C D : Nat} {x y z w : Int32} (m : Nat) : w2 (w2 (w2 (w2 σ i A x) i B y) i C z) i D w i m = if m = D then w else if m = C then z else if m = B then y else if m = A then x else σ i m := by simp only [w2, true_and]
theorem w4_ne {σ : Nat → Nat → Int32} {i A B C D a : Nat} {x y z w : Int32} (h : a ≠ i) : w2 (w2 (w2 (w2 σ i A x) i B y) i C z) i D w a = σ a := by rw [w2_ne h, w2_ne h, w2_ne h, w2_ne h]
theorem in_nat {x z : Int32} {n : Nat} (hz : z.toInt = (n : Int)) (h : ¬ f_in_ x 0 z = 0) : ∃ j : Nat, j ≤ n ∧ x = nI j := by
  have b := in_b h
  have l0 : (0 : Int32).toInt = 0 := by decide
  exact nI_of2 hz (x_lt0.mpr (by omega)) (by rw [Int32.le_iff_toInt_le]; omega)
theorem ix8 : ∀ j, j < 8 → (nI j).toNatClampNeg = j ∧ (4 * nI j).toNatClampNeg = 4 * j ∧ ((4 * nI j) + 1).toNatClampNeg = 4 * j + 1 ∧ ((4 * nI j) + 2).toNatClampNeg = 4 * j + 2 ∧ ((4 * nI j) + 3).toNatClampNeg = 4 * j + 3 := by decide +kernel
theorem m_attr : ∀ σ (a0 a1 a2 a3 a4 : Int32), RelW σ → s_rattr (s_vattr σ a0 a1 a2 a3 a4) a0 a1 a2 a3 a4 35 0 = t_vattr σ a0 a1 a2 a3 a4 ∧ RelW (s_rattr (s_vattr σ a0 a1 a2 a3 a4) a0 a1 a2 a3 a4) := by
  intro σ a0 a1 a2 a3 a4 hR
  have bad : s_vattr σ a0 a1 a2 a3 a4 = σ → s_rattr σ a0 a1 a2 a3 a4 = w2 σ 35 0 1 → t_vattr σ a0 a1 a2 a3 a4 = 1 → s_rattr (s_vattr σ a0 a1 a2 a3 a4) a0 a1 a2 a3 a4 35 0 = t_vattr σ a0 a1 a2 a3 a4 ∧ RelW (s_rattr (s_vattr σ a0 a1 a2 a3 a4) a0 a1 a2 a3 a4) := by
    intro e1 e2 e3
    rw [e1, e2, e3]
    exact ⟨w2_same, rel_thrown hR⟩
  by_cases h1 : f_in_ a0 0 7 = 0
  · have h1b : f_isBelow a0 8 = 0 := (bi rfl).mpr h1
    exact bad (by unfold s_vattr; rw [if_pos h1b]) (by unfold s_rattr; rw [if_pos h1]) (by unfold t_vattr; rw [if_pos h1b])
  have h1b : ¬ f_isBelow a0 8 = 0 := fun h => h1 ((bi rfl).mp h)
  by_cases h2 : a1 < 0
  · exact bad (by unfold s_vattr; rw [if_neg h1b, if_pos h2]) (by unfold s_rattr; rw [if_neg h1, if_pos h2]) (by unfold t_vattr; rw [if_neg h1b, if_pos h2])
  by_cases h3 : a2 < 0
  · have h3b : ¬ 0 ≤ a2 := Int32.not_le.mpr h3
    exact bad (by unfold s_vattr; rw [if_neg h1b, if_neg h2, if_neg h3b]) (by unfold s_rattr; rw [if_neg h1, if_neg h2, if_pos h3]) (by unfold t_vattr; rw [if_neg h1b, if_neg h2, if_neg h3b])
  have h3b : 0 ≤ a2 := Int32.not_lt.mp h3
  by_cases h4 : f_in_ a3 0 4 = 0
  · have h4b : f_isBelow a3 5 = 0 := (bi rfl).mpr h4
    exact bad (by unfold s_vattr; rw [if_neg h1b, if_neg h2, if_pos h3b, if_pos h4b]) (by unfold s_rattr; rw [if_neg h1, if_neg h2, if_neg h3, if_pos h4]) (by unfold t_vattr; rw [if_neg h1b, if_neg h2, if_pos h3b, if_pos h4b])
  have h4b : ¬ f_isBelow a3 5 = 0 := fun h => h4 ((bi rfl).mp h)
  by_cases h5 : f_in_ a4 0 3 = 0
  · have h5b : f_isBelow a4 4 = 0 := (bi rfl).mpr h5
    exact bad (by unfold s_vattr; rw [if_neg h1b, if_neg h2, if_pos h3b, if_neg h4b, if_pos h5b]) (by unfold s_rattr; rw [if_neg h1, if_neg h2, if_neg h3, if_neg h4, if_pos h5]) (by unfold t_vattr; rw [if_neg h1b, if_neg h2, if_pos h3b, if_neg h4b, if_pos h5b])
  have h5b : ¬ f_isBelow a4 4 = 0 := fun h => h5 ((bi rfl).mp h)
  obtain ⟨j, hj, e0⟩ := in_nat (n := 7) rfl h1
  obtain ⟨i0, i1, i2, i3, i4⟩ := ix8 j (by omega)
  have es : s_vattr σ a0 a1 a2 a3 a4 = s_become σ j a1 a2 a3 a4 := by
    unfold s_vattr
    rw [if_neg h1b, if_neg h2, if_pos h3b, if_neg h4b, if_neg h5b, e0, i0]
  have et : t_vattr σ a0 a1 a2 a3 a4 = 0 := by
    unfold t_vattr
    rw [if_neg h1b, if_neg h2, if_pos h3b, if_neg h4b, if_neg h5b]
  have er : ∀ ρ, s_rattr ρ a0 a1 a2 a3 a4 = w2 (w2 (w2 (w2 (w2 ρ 35 0 0) 37 (4 * j) a1) 37 (4 * j + 1) a2) 37 (4 * j + 2) a3) 37 (4 * j + 3) a4 := by
    intro ρ
    unfold s_rattr
    rw [if_neg h1, if_neg h2, if_neg h3, if_neg h4, if_neg h5, e0, i1, i2, i3, i4]
  rw [es, et, er]
  refine ⟨by rw [w4_ne (by decide)]; exact w2_same, ?_⟩
  obtain ⟨a, b, c, d, e, f, g⟩ := hR
  have ne : ∀ x, x ≠ 4 + j → x ≠ 37 → x ≠ 35 → w2 (w2 (w2 (w2 (w2 (s_become σ j a1 a2 a3 a4) 35 0 0) 37 (4 * j) a1) 37 (4 * j + 1) a2) 37 (4 * j + 2) a3) 37 (4 * j + 3) a4 x = σ x := fun x h2 h3 h4 => by unfold s_become; rw [w4_ne h3, w2_ne h4, w4_ne h2]
  have ne35 : ∀ y, y ≠ 0 → w2 (w2 (w2 (w2 (w2 (s_become σ j a1 a2 a3 a4) 35 0 0) 37 (4 * j) a1) 37 (4 * j + 1) a2) 37 (4 * j + 2) a3) 37 (4 * j + 3) a4 35 y = σ 35 y := fun y hy => by unfold s_become; rw [w4_ne (by decide), w2_off hy, w4_ne (by omega)]
  refine ⟨by rw [ne 12 (by omega) (by decide) (by decide)]; exact a, rM_c b (ne 2 (by omega) (by decide) (by decide)) (ne 36 (by omega) (by decide) (by decide)), ?_, rC_c d (fun n hn => ne _ (by omega) (by omega) (by omega)) (ne 38 (by omega) (by decide) (by decide)), rV_c e (ne 33 (by omega) (by decide) (by decide)) (ne 39 (by omega) (by decide) (by decide)), rF_c f (by rw [ne 0 (by omega) (by decide) (by decide)]) (by rw [ne 0 (by omega) (by decide) (by decide)]) (ne35 5 (by decide)) (ne35 6 (by decide)), rD_c g (by rw [ne 26 (by omega) (by decide) (by decide)]) (ne35 11 (by decide)) (fun n hn => ne _ (by omega) (by omega) (by omega)) (ne 42 (by omega) (by decide) (by decide)) (ne 40 (by omega) (by decide) (by decide))⟩
  intro n k hn hk
  rw [w4_at, w4_ne (by omega), w2_ne (by omega)]
  unfold s_become
  by_cases hnj : n = j
  · subst hnj
    rw [w4_at, w2_ne (by decide), w4_ne (by omega)]
    have q := c n k hn hk
    rcases (by omega : k = 0 ∨ k = 1 ∨ k = 2 ∨ k = 3) with rfl | rfl | rfl | rfl <;> simp
  · rw [w4_ne (by omega), w2_ne (by decide), w4_ne (by omega), if_neg (by omega), if_neg (by omega), if_neg (by omega), if_neg (by omega)]
    exact c n k hn hk
theorem m_view : ∀ σ (a0 a1 a2 a3 a4 a5 : Int32), RelW σ → s_rview (s_vview σ a0 a1 a2 a3 a4 a5) a0 a1 a2 a3 a4 a5 35 0 = t_vview σ a0 a1 a2 a3 a4 a5 ∧ RelW (s_rview (s_vview σ a0 a1 a2 a3 a4 a5) a0 a1 a2 a3 a4 a5) := by
  intro σ a0 a1 a2 a3 a4 a5 hR
  have bad : s_vview σ a0 a1 a2 a3 a4 a5 = σ → s_rview σ a0 a1 a2 a3 a4 a5 = w2 σ 35 0 1 → t_vview σ a0 a1 a2 a3 a4 a5 = 1 → s_rview (s_vview σ a0 a1 a2 a3 a4 a5) a0 a1 a2 a3 a4 a5 35 0 = t_vview σ a0 a1 a2 a3 a4 a5 ∧ RelW (s_rview (s_vview σ a0 a1 a2 a3 a4 a5) a0 a1 a2 a3 a4 a5) := by
    intro e1 e2 e3
    rw [e1, e2, e3]
    exact ⟨w2_same, rel_thrown hR⟩
  simp only [s_vview, s_rview, t_vview, wi] at bad ⊢
  by_cases h1 : f_in_ a0 (-1023) 1023 = 0
  · simp only [h1, if_true] at bad ⊢; exact bad trivial trivial trivial
  by_cases h2 : f_in_ a1 (-1023) 1023 = 0
  · simp only [h1, h2, if_true, if_false] at bad ⊢; exact bad trivial trivial trivial
  by_cases h3 : f_in_ a2 1 1024 = 0
  · simp only [h1, h2, h3, if_true, if_false] at bad ⊢; exact bad trivial trivial trivial
  by_cases h4 : f_in_ a3 1 1024 = 0
  · simp only [h1, h2, h3, h4, if_true, if_false] at bad ⊢; exact bad trivial trivial trivial
  by_cases h5 : f_in_ a4 0 16777215 = 0
  · simp only [h1, h2, h3, h4, h5, if_true, if_false] at bad ⊢; exact bad trivial trivial trivial
  by_cases h6 : f_in_ a5 0 16777215 = 0
  · simp only [h1, h2, h3, h4, h5, h6, if_true, if_false] at bad ⊢; exact bad trivial trivial trivial
  simp only [h1, h2, h3, h4, h5, h6, if_false]
  clear bad
  have b4 := in_b h5
  have b5 := in_b h6
  have l0 : (0 : Int32).toInt = 0 := by decide
  have l1 : (16777215 : Int32).toInt = 16777215 := by decide
  rw [l0, l1] at b4 b5
  have k0 : (0 : Int32).toNatClampNeg = 0 := by decide
  have k1 : (1 : Int32).toNatClampNeg = 1 := by decide
  have k2 : (2 : Int32).toNatClampNeg = 2 := by decide
  have k3 : (3 : Int32).toNatClampNeg = 3 := by decide
  have k4 : (4 : Int32).toNatClampNeg = 4 := by decide
  have k5 : (5 : Int32).toNatClampNeg = 5 := by decide
  rw [k0, k1, k2, k3, k4, k5]
  unfold s_sbecome
  obtain ⟨a, b, c, d, e, f, g⟩ := hR
  refine ⟨by simp [w2], ?_, rM_c b (by funext y; simp [w2]) (by funext y; simp [w2]), rA_c c (fun n hn => by repeat rw [w2_ne (by omega)]) (by funext y; simp [w2]), rC_c d (fun n hn => by repeat rw [w2_ne (by omega)]) (by funext y; simp [w2]), ⟨fun k hk => ?_, ?_, ?_⟩, rF_c f (by simp [w2]) (by simp [w2]) (by simp [w2]) (by simp [w2]), rD_z (by simp [w2]) (by simp [w2])⟩
  · simp [w2]; exact a
  · rcases (by omega : k = 0 ∨ k = 1 ∨ k = 2 ∨ k = 3 ∨ k = 4 ∨ k = 5) with rfl | rfl | rfl | rfl | rfl | rfl <;> simp [w2]
  · simp [w2]; exact b4
  · simp [w2]; exact b5
theorem m_faces : ∀ σ (a0 a1 : Int32), (a1 = 0 ∨ a1 = 1) → RelW σ → s_rfaces (s_vfaces σ a0 a1) a0 a1 35 0 = t_vfaces σ a0 a1 ∧ RelW (s_rfaces (s_vfaces σ a0 a1) a0 a1) := by
  intro σ a0 a1 h01 hR
  unfold s_rfaces s_vfaces t_vfaces
  rw [wi]
  by_cases h1 : f_in_ a0 0 3 = 0
  · rw [if_pos h1, if_pos h1, if_pos h1]
    exact ⟨w2_same, rel_thrown hR⟩
  · rw [if_neg h1, if_neg h1, if_neg h1]
    obtain ⟨a, b, c, d, e, f, g⟩ := hR
    refine ⟨by simp [w2], ?_, rM_c b (by funext y; simp [w2]) (by funext y; simp [w2]), rA_c c (fun n hn => by repeat rw [w2_ne (by omega)]) (by funext y; simp [w2]), rC_c d (fun n hn => by repeat rw [w2_ne (by omega)]) (by funext y; simp [w2]), rV_c e (by funext y; simp [w2]) (by funext y; simp [w2]), ⟨by simp [w2], by simp [w2], by simp [w2]; exact h01⟩, rD_z (by simp [w2]) (by simp [w2])⟩
    simp [w2]; exact a
end RelC
