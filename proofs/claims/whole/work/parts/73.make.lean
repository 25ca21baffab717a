section MakeM
theorem fan_n : ∀ n, n < 6 → (n = 0 ∨ 3 ≤ n) → (if nI n = 0 then (0 : Int32) else nI n - 2) = f_fanOf (nI n) := by decide +kernel
/-- the reference's make, from its corners -/
theorem rmake_h {M : Nat → Nat → Int32} {l : Pg} (hl : l.1 = 3) (h38 : ∀ i k, i < 3 → k < 32 → M 38 (32 * i + k) = l.2 i k) :
    f_rmake M = f_fanOf (nI (pCut (pCut l 0) 1).1) ∧ s_rmake M 35 11 = f_fanOf (nI (pCut (pCut l 0) 1).1) ∧
    (∀ i, i < (pCut (pCut l 0) 1).1 → ∀ m, m < 4 → s_rmake M 42 (4 * i + m) = layC (M 39) ((pCut (pCut l 0) 1).2 i) m) ∧
    (∀ i k, i < (pCut (pCut l 0) 1).1 → k < 32 → s_rmake M 40 (32 * i + k) = (pCut (pCut l 0) 1).2 i k) ∧
    (∀ a, a ≠ 35 → a ≠ 40 → a ≠ 41 → a ≠ 42 → s_rmake M a = M a) ∧ s_rmake M 35 5 = M 35 5 ∧ s_rmake M 35 6 = M 35 6 ∧ rmk_ok M := by
  have hx : ¬ (1 : Int32) = 0 := by decide
  obtain ⟨m1, m2⟩ := L_m1_h (σ := M) (ρ := w2 (w2 M 35 0 (0 : Int32)) 35 7 (3 : Int32)) 96 (by decide)
  unfold f_rmake s_rmake rmk_ok
  generalize L_m1 M (w2 (w2 M 35 0 (0 : Int32)) 35 7 (3 : Int32)) 96 = ρ1 at m1 m2
  have q1 : hQ ρ1 l := by
    refine ⟨by rw [m2 35 (by decide), w2_same, hl]; rfl, fun i k hi hk => ?_⟩
    rw [m1 _ (by omega), w2_ne (by decide), w2_ne (by decide)]
    exact h38 i k (by omega) hk
  have n4 := pN_le4 (q := l) (x := 0) hl
  obtain ⟨q2, f2, g2⟩ := rcut_h (x := 0) q1 (by omega) (by rw [hl]; omega)
  generalize s_rcut ρ1 (0 : Int32) = ρ2 at q2 f2 g2
  have n5 := cut2_n (l := l) hl hx
  have c4 : (pCut l 0).1 ≤ 4 := by
    rcases cut1_n hl with e | e | ⟨e, _, _⟩ <;> omega
  obtain ⟨q3, f3, g3⟩ := rcut_h (x := 1) q2 (by omega) n5
  obtain ⟨p5, p3⟩ := cut_c n5
  have pw := cut_w (q := pCut l 0) hx
  generalize s_rcut ρ2 (1 : Int32) = ρ3 at q3 f3 g3
  generalize pCut (pCut l 0) 1 = P at q3 p5 p3 pw
  have e3 : (ρ3 35 7).toNatClampNeg = P.1 := by rw [q3.1, nI_clamp (by omega)]
  rw [e3]
  obtain ⟨a1, a2⟩ := m2_h (σ := M) p5 q3 P.1 (Nat.le_refl _)
  generalize L_m2 M ρ3 P.1 = ρ4 at a1 a2
  have e4 : ρ4 35 7 = nI P.1 := by rw [a2 35 (by decide)]; exact q3.1
  have fa : ∀ a, a ≠ 35 → a ≠ 40 → a ≠ 41 → a ≠ 42 → ρ4 a = M a := fun a h1 h2 h3 h4 => by rw [a2 a h4, f3 a h1 h2 h3, f2 a h1 h2 h3, m2 a h2, w2_ne h1, w2_ne h1]
  have f35 : ∀ y, y ≠ 0 → y ≠ 7 → y ≠ 9 → ρ4 35 y = M 35 y := fun y h1 h2 h3 => by rw [a2 35 (by decide), g3 y h2 h3, g2 y h2 h3, m2 35 (by decide), w2_off h2, w2_off h1]
  have fn := fan_n P.1 (by omega) p3
  have ok : (0 ≤ (ρ2 35 7).toInt ∧ (ρ2 35 7).toInt ≤ 4) ∧ rng (ρ3 35 7) ∧ ∀ k : Nat, k < P.1 → ¬ ρ3 40 (((32 : Int32) * nI k) + 3).toNatClampNeg = 0 := by
    refine ⟨by rw [q2.1, nI_toInt (by omega)]; omega, by unfold rng; rw [q3.1, nI_toInt (by omega)]; omega, fun k hk h0 => ?_⟩
    rw [show (32 * nI k + 3).toNatClampNeg = 32 * k + 3 from ixk (k := 3) (by omega) (by decide), q3.2 k 3 hk (by decide)] at h0
    have w := pw k hk
    rw [h0] at w
    exact absurd w (by decide)
  have f39 : ρ3 39 = M 39 := by rw [← fa 39 (by decide) (by decide) (by decide) (by decide), a2 39 (by decide)]
  rw [f39] at a1
  rw [e4] at *
  by_cases h0 : nI P.1 = 0
  · rw [if_pos h0, if_pos h0]
    rw [if_pos h0] at fn
    refine ⟨by rw [w2_same, fn], by rw [w2_same, fn], fun i hi m hm => by rw [w2_ne (by decide)]; exact a1 i hi m hm, fun i k hi hk => by rw [w2_ne (by decide), a2 40 (by decide)]; exact q3.2 i k hi hk, fun a h1 h2 h3 h4 => by rw [w2_ne h1]; exact fa a h1 h2 h3 h4, by rw [w2_off (by decide)]; exact f35 5 (by decide) (by decide) (by decide), by rw [w2_off (by decide)]; exact f35 6 (by decide) (by decide) (by decide), ok⟩
  · rw [if_neg h0, if_neg h0]
    rw [if_neg h0] at fn
    refine ⟨by rw [w2_same, fn], by rw [w2_same, fn], fun i hi m hm => by rw [w2_ne (by decide)]; exact a1 i hi m hm, fun i k hi hk => by rw [w2_ne (by decide), a2 40 (by decide)]; exact q3.2 i k hi hk, fun a h1 h2 h3 h4 => by rw [w2_ne h1]; exact fa a h1 h2 h3 h4, by rw [w2_off (by decide)]; exact f35 5 (by decide) (by decide) (by decide), by rw [w2_off (by decide)]; exact f35 6 (by decide) (by decide) (by decide), ok⟩
/-- the corners that were told -/
def toldC (σ : Nat → Nat → Int32) : Pg := (3, fun j k => σ (12 + 2 + j) k)
/-- the object's make, from the same corners -/
theorem make_h {σ : Nat → Nat → Int32} (hR : RelW σ) :
    f_make σ = f_fanOf (nI (pCut (pCut (toldC σ) 0) 1).1) ∧ s_make σ 26 1 = nI (pCut (pCut (toldC σ) 0) 1).1 ∧ (pCut (pCut (toldC σ) 0) 1).1 ≤ 5 ∧
    (∀ i, i < (pCut (pCut (toldC σ) 0) 1).1 → ∀ m, m < 32 → s_make σ (26 + 2 + i) m = layC (σ 33) ((pCut (pCut (toldC σ) 0) 1).2 i) m) ∧
    (∀ a, a < 19 ∨ 32 < a → s_make σ a = σ a) := by
  have hx : ¬ (1 : Int32) = 0 := by decide
  have hl : (toldC σ).1 = 3 := rfl
  have h12 : hV σ 12 (toldC σ) := ⟨by rw [hR.1]; rfl, fun i k _ _ => rfl⟩
  obtain ⟨_, _, _, _, hV33, _, _⟩ := hR
  have n4 := pN_le4 (q := toldC σ) (x := 0) hl
  obtain ⟨q2, f2⟩ := ti_cut (b := 19) (x := 0) rfl h12 (by omega) (by rw [hl]; omega)
  have n5 := cut2_n (l := toldC σ) hl hx
  have c4 : (pCut (toldC σ) 0).1 ≤ 4 := by
    rcases cut1_n hl with e | e | ⟨e, _, _⟩ <;> omega
  obtain ⟨q3, f3⟩ := ti_cut (b := 26) (x := 1) rfl q2 (by omega) n5
  obtain ⟨p5, p3⟩ := cut_c n5
  have pw := cut_w (q := pCut (toldC σ) 0) hx
  have L0 : L_mk σ 0 = s_takeInside (s_takeInside σ 19 12 0) 26 19 1 := by unfold L_mk; rfl
  have fr : ∀ a, a < 19 ∨ 32 < a → s_takeInside (s_takeInside σ 19 12 0) 26 19 1 a = σ a := by
    intro a ha
    rw [f3 a (by omega) (by intro j hj; omega), f2 a (by omega) (by intro j hj; omega)]
  unfold f_make s_make
  rw [← L0] at q3 fr ⊢
  generalize pCut (pCut (toldC σ) 0) 1 = P at q3 p5 p3 pw
  have e3 : (L_mk σ 0 26 1).toNatClampNeg = P.1 := by rw [q3.1, nI_clamp (by omega)]
  rw [e3]
  have e33 : L_mk σ 0 33 = σ 33 := fr 33 (by omega)
  obtain ⟨a1, a2⟩ := mk_h q3 p5 pw (by rw [e33]; exact hV33.2.1) (by rw [e33]; exact hV33.2.2) P.1 (Nat.le_refl _)
  have e26 : L_mk σ P.1 26 1 = nI P.1 := by rw [a2 26 (by intro i hi; omega)]; exact q3.1
  refine ⟨by rw [e26], e26, p5, fun i hi m hm => by rw [a1 i hi m hm, e33], fun a ha => by rw [a2 a (by intro i hi; omega)]; exact fr a ha⟩
theorem m_make2 {σ : Nat → Nat → Int32} (hR : RelW σ) : f_make σ = f_rmake (s_make σ) ∧ RelW (s_rmake (s_make σ)) ∧ rmk_ok (s_make σ) := by
  obtain ⟨v1, v2, v3, v4, v5⟩ := make_h hR
  obtain ⟨r1, r2, r3, r4, r5, r6, r7, r8⟩ := rmake_h (M := s_make σ) (l := toldC σ) rfl (fun i k hi hk => by
    rw [v5 38 (by omega)]
    exact (hR.2.2.2.1 i k hi hk).symm)
  obtain ⟨a, b, c, d, e, f, g⟩ := hR
  refine ⟨by rw [v1, r1], ?_, r8⟩
  have fr : ∀ a, a ≠ 35 → a ≠ 40 → a ≠ 41 → a ≠ 42 → (a < 19 ∨ 32 < a) → s_rmake (s_make σ) a = σ a := fun a h1 h2 h3 h4 h5 => by rw [r5 a h1 h2 h3 h4, v5 a h5]
  have e26 : s_rmake (s_make σ) 26 1 = nI (pCut (pCut (toldC σ) 0) 1).1 := by rw [r5 26 (by decide) (by decide) (by decide) (by decide)]; exact v2
  refine ⟨by rw [fr 12 (by decide) (by decide) (by decide) (by decide) (by omega)]; exact a, rM_c b (fr 2 (by decide) (by decide) (by decide) (by decide) (by omega)) (fr 36 (by decide) (by decide) (by decide) (by decide) (by omega)), rA_c c (fun n hn => fr _ (by omega) (by omega) (by omega) (by omega) (by omega)) (fr 37 (by decide) (by decide) (by decide) (by decide) (by omega)), rC_c d (fun n hn => fr _ (by omega) (by omega) (by omega) (by omega) (by omega)) (fr 38 (by decide) (by decide) (by decide) (by decide) (by omega)), rV_c e (fr 33 (by decide) (by decide) (by decide) (by decide) (by omega)) (fr 39 (by decide) (by decide) (by decide) (by decide) (by omega)), rF_c f (by rw [fr 0 (by decide) (by decide) (by decide) (by decide) (by omega)]) (by rw [fr 0 (by decide) (by decide) (by decide) (by decide) (by omega)]) (by rw [r6, v5 35 (by omega)]) (by rw [r7, v5 35 (by omega)]), ?_⟩
  unfold rD
  rw [e26, r2, nI_clamp (by omega)]
  refine ⟨⟨by rw [nI_toInt (by omega)]; omega, by rw [nI_toInt (by omega)]; omega⟩, rfl, fun i hi => ⟨fun k hk => ?_, fun k h4 hk => ?_⟩⟩
  · rw [r3 i hi k hk, r5 _ (by omega) (by omega) (by omega) (by omega), v4 i hi k (by omega), v5 39 (by omega), layC_c e.1]
  · rw [r4 i k hi hk, r5 _ (by omega) (by omega) (by omega) (by omega), v4 i hi k hk]
    unfold layC
    rw [if_neg (by omega), if_neg (by omega), if_neg (by omega), if_neg (by omega)]
end MakeM
