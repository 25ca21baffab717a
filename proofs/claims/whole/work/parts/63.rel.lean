section RelD
theorem ixq {j q i : Nat} (hj : j < 8) (hq : q + i < 32) : ((32 * nI j + nI q) + nI i).toNatClampNeg = 32 * j + (q + i) := by
  rw [show (32 : Int32) = nI 32 from rfl, pk_mul, nI_add, nI_add, nI_clamp (by omega)]
  omega
theorem ixq0 {j q : Nat} (hj : j < 8) (hq : q < 32) : (32 * nI j + nI q).toNatClampNeg = 32 * j + q := by
  rw [show (32 : Int32) = nI 32 from rfl, pk_mul, nI_add, nI_clamp (by omega)]
theorem rel_put {σ : Nat → Nat → Int32} {j q : Nat} {x y z w v : Int32} (hj : j < 3) (hq : q + 3 < 32) (hR : RelW σ) : ∀ ρ, (∀ a, a ≠ 35 → ρ a = s_putVector σ (nI j) (nI q) x y z w a) → ρ 35 5 = σ 35 5 → ρ 35 6 = σ 35 6 → RelW (w2 (w2 (w2 (w2 (w2 (w2 ρ 35 0 v) 38 ((32 * nI j + nI q).toNatClampNeg) x) 38 (((32 * nI j + nI q) + 1).toNatClampNeg) y) 38 (((32 * nI j + nI q) + 2).toNatClampNeg) z) 38 (((32 * nI j + nI q) + 3).toNatClampNeg) w) 35 11 0) := by
  intro ρ hρ h5 h6
  have i0 : (nI q).toNatClampNeg = q := nI_clamp (by omega)
  have i1 : (nI q + 1).toNatClampNeg = q + 1 := by rw [show (1 : Int32) = nI 1 from rfl, nI_add, nI_clamp (by omega)]
  have i2 : (nI q + 2).toNatClampNeg = q + 2 := by rw [show (2 : Int32) = nI 2 from rfl, nI_add, nI_clamp (by omega)]
  have i3 : (nI q + 3).toNatClampNeg = q + 3 := by rw [show (3 : Int32) = nI 3 from rfl, nI_add, nI_clamp (by omega)]
  have ij : (nI j).toNatClampNeg = j := nI_clamp (by omega)
  unfold s_putVector at hρ
  rw [ij, i0, i1, i2, i3] at hρ
  rw [ixq0 (by omega) (by omega), show ((32 * nI j + nI q) + 1).toNatClampNeg = 32 * j + (q + 1) from ixq (i := 1) (by omega) (by omega), show ((32 * nI j + nI q) + 2).toNatClampNeg = 32 * j + (q + 2) from ixq (i := 2) (by omega) (by omega), show ((32 * nI j + nI q) + 3).toNatClampNeg = 32 * j + (q + 3) from ixq (i := 3) (by omega) (by omega)]
  have ne : ∀ t, t ≠ 38 → t ≠ 35 → t ≠ 26 → t ≠ 12 + 2 + j → w2 (w2 (w2 (w2 (w2 (w2 ρ 35 0 v) 38 (32 * j + q) x) 38 (32 * j + (q + 1)) y) 38 (32 * j + (q + 2)) z) 38 (32 * j + (q + 3)) w) 35 11 0 t = σ t := fun t h1 h2 h3 h4 => by rw [w2_ne h2, w4_ne h1, w2_ne h2, hρ t h2, w2_ne h3, w4_ne h4]
  obtain ⟨a, b, c, d, e, f, g⟩ := hR
  refine ⟨by rw [ne 12 (by decide) (by decide) (by decide) (by omega)]; exact a, rM_c b (ne 2 (by decide) (by decide) (by decide) (by omega)) (ne 36 (by decide) (by decide) (by decide) (by omega)), rA_c c (fun n hn => ne _ (by omega) (by omega) (by omega) (by omega)) (ne 37 (by decide) (by decide) (by decide) (by omega)), ?_, rV_c e (ne 33 (by decide) (by decide) (by decide) (by omega)) (ne 39 (by decide) (by decide) (by decide) (by omega)), rF_c f (by rw [ne 0 (by decide) (by decide) (by decide) (by omega)]) (by rw [ne 0 (by decide) (by decide) (by decide) (by omega)]) (by rw [w2_off (by decide), w4_ne (by decide), w2_off (by decide), h5]) (by rw [w2_off (by decide), w4_ne (by decide), w2_off (by decide), h6]), rD_z (by rw [w2_ne (by decide), w4_ne (by decide), w2_ne (by decide), hρ 26 (by decide), w2_same]) w2_same⟩
  intro n k hn hk
  have eL : ∀ t, t ≠ 38 → t ≠ 35 → t ≠ 26 → w2 (w2 (w2 (w2 (w2 (w2 ρ 35 0 v) 38 (32 * j + q) x) 38 (32 * j + (q + 1)) y) 38 (32 * j + (q + 2)) z) 38 (32 * j + (q + 3)) w) 35 11 0 t = w2 (w2 (w2 (w2 σ (12 + 2 + j) q x) (12 + 2 + j) (q + 1) y) (12 + 2 + j) (q + 2) z) (12 + 2 + j) (q + 3) w t := fun t h1 h2 h3 => by rw [w2_ne h2, w4_ne h1, w2_ne h2, hρ t h2, w2_ne h3]
  have eR : ∀ m, w2 (w2 (w2 (w2 (w2 (w2 ρ 35 0 v) 38 (32 * j + q) x) 38 (32 * j + (q + 1)) y) 38 (32 * j + (q + 2)) z) 38 (32 * j + (q + 3)) w) 35 11 0 38 m = if m = 32 * j + (q + 3) then w else if m = 32 * j + (q + 2) then z else if m = 32 * j + (q + 1) then y else if m = 32 * j + q then x else σ 38 m := fun m => by rw [w2_ne (by decide), w4_at, w2_ne (by decide), hρ _ (by decide), w2_ne (by decide), w4_ne (by omega)]
  rw [eL _ (by omega) (by omega) (by omega), eR]
  by_cases hnj : n = j
  · subst hnj
    rw [w4_at]
    by_cases g3 : k = q + 3
    · rw [if_pos g3, if_pos (by omega)]
    rw [if_neg g3, if_neg (by omega : ¬ 32 * n + k = 32 * n + (q + 3))]
    by_cases g2 : k = q + 2
    · rw [if_pos g2, if_pos (by omega)]
    rw [if_neg g2, if_neg (by omega : ¬ 32 * n + k = 32 * n + (q + 2))]
    by_cases g1 : k = q + 1
    · rw [if_pos g1, if_pos (by omega)]
    rw [if_neg g1, if_neg (by omega : ¬ 32 * n + k = 32 * n + (q + 1))]
    by_cases g0 : k = q
    · rw [if_pos g0, if_pos (by omega)]
    rw [if_neg g0, if_neg (by omega : ¬ 32 * n + k = 32 * n + q)]
    exact d n k hn hk
  · rw [w4_ne (by omega), if_neg (by omega), if_neg (by omega), if_neg (by omega), if_neg (by omega)]
    exact d n k hn hk
theorem m_place : ∀ σ (a0 a1 a2 a3 a4 : Int32), RelW σ → s_rplace (s_vplace σ a0 a1 a2 a3 a4) a0 a1 a2 a3 a4 35 0 = t_vplace σ a0 a1 a2 a3 a4 ∧ RelW (s_rplace (s_vplace σ a0 a1 a2 a3 a4) a0 a1 a2 a3 a4) := by
  intro σ a0 a1 a2 a3 a4 hR
  unfold s_rplace s_rtell s_vplace t_vplace
  by_cases h1 : f_in_ a0 0 2 = 0
  · have h1b : f_isBelow a0 3 = 0 := (bi rfl).mpr h1
    rw [if_pos h1, if_pos h1b, if_pos h1b]
    exact ⟨w2_same, rel_thrown hR⟩
  · have h1b : ¬ f_isBelow a0 3 = 0 := fun h => h1 ((bi rfl).mp h)
    rw [if_neg h1, if_neg h1b, if_neg h1b]
    obtain ⟨j, hj, e0⟩ := in_nat (n := 2) rfl h1
    subst e0
    refine ⟨by rw [w2_off (by decide), w4_ne (by decide)]; exact w2_same, ?_⟩
    exact rel_put (q := 0) (by omega) (by omega) hR _ (fun a ha => rfl) (by unfold s_putVector; rw [w2_ne (by decide), w4_ne (by rw [nI_clamp (by omega)]; omega)]) (by unfold s_putVector; rw [w2_ne (by decide), w4_ne (by rw [nI_clamp (by omega)]; omega)])
theorem m_vary : ∀ σ (a0 a1 a2 a3 a4 a5 : Int32), RelW σ → s_rvary (s_vvary σ a0 a1 a2 a3 a4 a5) a0 a1 a2 a3 a4 a5 35 0 = t_vvary σ a0 a1 a2 a3 a4 a5 ∧ RelW (s_rvary (s_vvary σ a0 a1 a2 a3 a4 a5) a0 a1 a2 a3 a4 a5) := by
  intro σ a0 a1 a2 a3 a4 a5 hR
  unfold s_rvary s_rtell s_vvary t_vvary
  by_cases h1 : f_in_ a0 0 2 = 0
  · have h1b : f_isBelow a0 3 = 0 := (bi rfl).mpr h1
    rw [if_pos h1b, if_pos h1b, if_pos h1]
    split
    · exact ⟨w2_same, rel_thrown hR⟩
    · exact ⟨w2_same, rel_thrown (rel_thrown hR)⟩
  · have h1b : ¬ f_isBelow a0 3 = 0 := fun h => h1 ((bi rfl).mp h)
    rw [if_neg h1b, if_neg h1b, if_neg h1]
    by_cases h2 : f_in_ a1 0 6 = 0
    · have h2b : f_isBelow a1 7 = 0 := (bi rfl).mpr h2
      rw [if_pos h2, if_pos h2b, if_pos h2b]
      exact ⟨w2_same, rel_thrown hR⟩
    · have h2b : ¬ f_isBelow a1 7 = 0 := fun h => h2 ((bi rfl).mp h)
      rw [if_neg h2, if_neg h2b, if_neg h2b]
      obtain ⟨j, hj, e0⟩ := in_nat (n := 2) rfl h1
      obtain ⟨q, hq, e1⟩ := in_nat (n := 6) rfl h2
      subst e0
      have eq : (4 + 4 * a1) = nI (4 + 4 * q) := by rw [e1, show (4 : Int32) = nI 4 from rfl, pk_mul, nI_add]
      rw [eq]
      refine ⟨by rw [w2_off (by decide), w4_ne (by decide)]; exact w2_same, ?_⟩
      exact rel_put (q := 4 + 4 * q) (by omega) (by omega) hR _ (fun a ha => w2_ne ha) (by rw [w2_off (by decide)]; unfold s_putVector; rw [w2_ne (by decide), w4_ne (by rw [nI_clamp (by omega)]; omega)]) (by rw [w2_off (by decide)]; unfold s_putVector; rw [w2_ne (by decide), w4_ne (by rw [nI_clamp (by omega)]; omega)])
end RelD
