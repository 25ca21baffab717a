section LayR
theorem B_m2_eq {σ ρ : Nat → Nat → Int32} {q : Pg} {i : Nat} (h5 : q.1 ≤ 5) (hi : i < q.1) (h : ∀ k, k < 32 → ρ 40 (32 * i + k) = q.2 i k) : (∀ m, m < 4 → B_m2 σ ρ (nI i) 42 (4 * i + m) = layC (ρ 39) (q.2 i) m) ∧ (∀ t, t < 4 * i → B_m2 σ ρ (nI i) 42 t = ρ 42 t) ∧ (∀ a, a ≠ 42 → B_m2 σ ρ (nI i) a = ρ a) := by
  have n0 : (0 : Int32).toNatClampNeg = 0 := by decide
  have n1 : (1 : Int32).toNatClampNeg = 1 := by decide
  have n2 : (2 : Int32).toNatClampNeg = 2 := by decide
  have n3 : (3 : Int32).toNatClampNeg = 3 := by decide
  have n4 : (4 : Int32).toNatClampNeg = 4 := by decide
  have n5 : (5 : Int32).toNatClampNeg = 5 := by decide
  obtain ⟨_, i0, i1, i2, i3⟩ := ix8 i (by omega)
  have j0 : (32 * nI i).toNatClampNeg = 32 * i := by rw [show (32 : Int32) = nI 32 from rfl, pk_mul, nI_clamp (by omega)]
  have j1 : (32 * nI i + 1).toNatClampNeg = 32 * i + 1 := ixk (k := 1) (by omega) (by decide)
  have j2 : (32 * nI i + 2).toNatClampNeg = 32 * i + 2 := ixk (k := 2) (by omega) (by decide)
  have j3 : (32 * nI i + 3).toNatClampNeg = 32 * i + 3 := ixk (k := 3) (by omega) (by decide)
  have h0 : ρ 40 (32 * i) = q.2 i 0 := h 0 (by decide)
  have key : B_m2 σ ρ (nI i) = w2 (w2 (w2 (w2 ρ 42 (4 * i) (f_rlay (q.2 i 0) (q.2 i 3) (ρ 39 0) (ρ 39 2))) 42 (4 * i + 1) (f_rlay (q.2 i 1) (q.2 i 3) (ρ 39 1) (ρ 39 3))) 42 (4 * i + 2) (f_depthOf (q.2 i 2) (q.2 i 3) (ρ 39 4) (ρ 39 5))) 42 (4 * i + 3) (if (1 : Int32) ≤ 1073741824 / q.2 i 3 then 1073741824 / q.2 i 3 else 1) := by
    unfold B_m2
    rw [i0, i1, i2, i3, j0, j1, j2, j3, n0, n1, n2, n3, n4, n5]
    simp only [w2_ne (by decide : (40 : Nat) ≠ 42), w2_ne (by decide : (39 : Nat) ≠ 42)]
    rw [h0, h 1 (by decide), h 2 (by decide), h 3 (by decide)]
    split
    · rfl
    · rfl
  rw [key]
  refine ⟨fun m hm => ?_, fun t ht => ?_, fun a ha => w4_ne ha⟩
  · rw [w4_at]
    unfold layC
    rcases (by omega : m = 0 ∨ m = 1 ∨ m = 2 ∨ m = 3) with rfl | rfl | rfl | rfl
    · rw [if_neg (by omega), if_neg (by omega), if_neg (by omega), if_pos (by omega), if_pos rfl]
    · rw [if_neg (by omega), if_neg (by omega), if_pos rfl, if_neg (by omega), if_pos rfl]
    · rw [if_neg (by omega), if_pos rfl, if_neg (by omega), if_neg (by omega), if_pos rfl]
    · rw [if_pos (rfl : 4 * i + 3 = 4 * i + 3), if_neg (by decide : ¬ (3 : Nat) = 0), if_neg (by decide : ¬ (3 : Nat) = 1), if_neg (by decide : ¬ (3 : Nat) = 2), if_pos (rfl : (3 : Nat) = 3)]
  · rw [w4_at, if_neg (by omega), if_neg (by omega), if_neg (by omega), if_neg (by omega)]
theorem m2_h {σ ρ : Nat → Nat → Int32} {q : Pg} (h5 : q.1 ≤ 5) (h : hQ ρ q) : ∀ k, k ≤ q.1 → (∀ i, i < k → ∀ m, m < 4 → L_m2 σ ρ k 42 (4 * i + m) = layC (ρ 39) (q.2 i) m) ∧ (∀ a, a ≠ 42 → L_m2 σ ρ k a = ρ a) := by
  intro k
  induction k with
  | zero => intro _; exact ⟨fun i hi => absurd hi (Nat.not_lt_zero i), fun a _ => rfl⟩
  | succ k ih =>
    intro hk
    obtain ⟨i1, i2⟩ := ih (by omega)
    obtain ⟨b1, b2, b3⟩ := B_m2_eq (σ := σ) (ρ := L_m2 σ ρ k) (q := q) (i := k) h5 (by omega) (fun m hm => by rw [i2 40 (by decide)]; exact h.2 k m (by omega) hm)
    unfold L_m2
    refine ⟨fun i hi m hm => ?_, fun a ha => ?_⟩
    · by_cases e : i = k
      · rw [e, b1 m hm, i2 39 (by decide)]
      · rw [b2 _ (by omega)]
        exact i1 i (by omega) m hm
    · rw [b3 a ha]
      exact i2 a ha
theorem L_m1_h {σ ρ : Nat → Nat → Int32} : ∀ n, n < 2 ^ 31 → (∀ t, t < n → L_m1 σ ρ n 40 t = ρ 38 t) ∧ (∀ a, a ≠ 40 → L_m1 σ ρ n a = ρ a) := by
  intro n
  induction n with
  | zero => intro _; exact ⟨fun t ht => absurd ht (Nat.not_lt_zero t), fun a _ => rfl⟩
  | succ n ih =>
    intro hn
    obtain ⟨i1, i2⟩ := ih (by omega)
    unfold L_m1 B_m1
    rw [nI_clamp (by omega), i2 38 (by decide)]
    refine ⟨fun t ht => ?_, fun a ha => ?_⟩
    · by_cases e : t = n
      · rw [e, w2_same]
      · rw [w2_off e]
        exact i1 t (by omega)
    · rw [w2_ne ha]
      exact i2 a ha
theorem layC_c {V V' c : Nat → Int32} (h : ∀ k, k < 6 → V k = V' k) : layC V c = layC V' c := by
  funext k
  unfold layC
  rw [h 0 (by decide), h 1 (by decide), h 2 (by decide), h 3 (by decide), h 4 (by decide), h 5 (by decide)]
end LayR
