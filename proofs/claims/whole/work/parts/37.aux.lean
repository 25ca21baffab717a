section AuxJ
theorem le45 {x : Int32} (h : 0 ≤ x.toInt ∧ x.toInt ≤ 4) : 0 ≤ x.toInt ∧ x.toInt ≤ 5 := ⟨h.1, by omega⟩
theorem cl4 {x : Int32} (h : 0 ≤ x.toInt ∧ x.toInt ≤ 4) : x.toNatClampNeg ≤ 4 := by
  obtain ⟨j, hj, e⟩ := nI_of (x_lt0.mpr h.1)
  have h2 := h.2
  rw [e, nI_toInt hj] at h2
  rw [e, nI_clamp hj]
  omega
theorem ct_c {m v : Int32} {k : Nat} (h : k < m.toNatClampNeg) (hn : 0 ≤ m.toInt ∧ m.toInt ≤ 4) (e : v = nI k) : 0 ≤ v.toInt ∧ v.toInt ≤ 7 := by
  have := cl4 hn
  rw [e, nI_toInt (by omega)]
  omega
theorem ct_d {m v : Int32} {k : Nat} (h : k < m.toNatClampNeg) (hn : 0 ≤ m.toInt ∧ m.toInt ≤ 4) (e : v = nI k) : 0 ≤ (v + 1).toInt ∧ (v + 1).toInt ≤ 7 := by
  have := cl4 hn
  rw [e, nI_1, nI_toInt (by omega)]
  omega
/-- how many there are, and that there are few of the new ones -/
def ct2 (σ0 : Nat → Nat → Int32) (n : Nat) (X : Nat → Nat → Int32) : Prop := X 35 7 = σ0 35 7 ∧ 0 ≤ (X 35 9).toInt ∧ (X 35 9).toInt ≤ (n : Int)
theorem ct2_mono {σ0 X : Nat → Nat → Int32} {n n' : Nat} (h : ct2 σ0 n X) (hn : n ≤ n') : ct2 σ0 n' X := ⟨h.1, h.2.1, by have := h.2.2; omega⟩
theorem ct2_inc {σ0 X Y : Nat → Nat → Int32} {n : Nat} (h : ct2 σ0 n X) (hn : n ≤ 100) (h7 : Y 35 7 = X 35 7) (h9 : Y 35 9 = X 35 9 + 1) : ct2 σ0 (n + 1) Y := by
  obtain ⟨a, b, c⟩ := h
  have l1 : (1 : Int32).toInt = 1 := by decide
  refine ⟨h7.trans a, ?_, ?_⟩
  · rw [h9, Int32.toInt_add, Int.bmod_def, l1]
    omega
  · rw [h9, Int32.toInt_add, Int.bmod_def, l1]
    omega
theorem ct2_0 {σ : Nat → Nat → Int32} : ct2 σ (2 * 0) (w2 σ 35 9 0) := by
  refine ⟨w2_off (by decide), ?_, ?_⟩
  · rw [w2_same]; decide
  · rw [w2_same]; decide
theorem L_bw_ne {σ : Nat → Nat → Int32} {x y z : Int32} {a : Nat} (h : a ≠ 41) : ∀ k, L_bw σ x y z k a = σ a := by
  intro k
  induction k with
  | zero => rfl
  | succ k ih =>
    show B_bw σ x y z (L_bw σ x y z k) (nI k) a = σ a
    unfold B_bw
    rw [w2_ne h, ih]
theorem rb_7 {σ : Nat → Nat → Int32} {x y z : Int32} : s_rbetween σ x y z 35 7 = σ 35 7 := by
  unfold s_rbetween
  rw [w2_off (by decide), L_bw_ne (by decide)]
theorem rb_9 {σ : Nat → Nat → Int32} {x y z : Int32} : s_rbetween σ x y z 35 9 = σ 35 9 + 1 := by
  unfold s_rbetween
  rw [w2_same, L_bw_ne (by decide)]
theorem rb_40 {σ : Nat → Nat → Int32} {x y z : Int32} {a : Nat} (h1 : a ≠ 41) (h2 : a ≠ 35) : s_rbetween σ x y z a = σ a := by
  unfold s_rbetween
  rw [w2_ne h2, L_bw_ne h1]
theorem ins_ring {σ σ' : Nat → Nat → Int32} (h : σ' 40 = σ 40) (c e : Int32) : f_rinside σ' c e = f_rinside σ c e := by
  unfold f_rinside
  rw [h]
theorem sub_ne {x y : Int64} (h1 : ¬ lg_cmp x 0 < 0) (h2 : lg_cmp y 0 < 0) : ¬ x - y = 0 := by
  intro h
  have e : x = y := by
    have h3 : x - y + y = 0 + y := by rw [h]
    rw [Int64.sub_add_cancel, Int64.zero_add] at h3
    exact h3
  rw [e] at h1
  exact h1 h2
theorem ct_ne {σ σ' : Nat → Nat → Int32} (h : σ' 40 = σ 40) {c d e : Int32} (h1 : ¬ lg_cmp (f_rinside σ c e) 0 < 0) (h2 : lg_cmp (f_rinside σ d e) 0 < 0) : ¬ (f_rinside σ' c e - f_rinside σ' d e) = 0 := by
  rw [ins_ring h, ins_ring h]
  exact sub_ne h1 h2
theorem ct_f0 {σ X : Nat → Nat → Int32} {k N : Nat} (h : ct2 σ (2 * k) X) (hk : k < N) (hN : N ≤ 4) : 0 ≤ (X 35 9).toInt ∧ (X 35 9).toInt ≤ 7 := by
  obtain ⟨a, b, c⟩ := h
  omega
theorem ct_f1 {σ X Y : Nat → Nat → Int32} {k N : Nat} (h : ct2 σ (2 * k) X) (hk : k < N) (hN : N ≤ 4) (e : Y 35 9 = X 35 9 + 1) : 0 ≤ (Y 35 9).toInt ∧ (Y 35 9).toInt ≤ 7 := by
  obtain ⟨a, b, c⟩ := h
  have l1 : (1 : Int32).toInt = 1 := by decide
  rw [e, Int32.toInt_add, Int.bmod_def, l1]
  omega
theorem cr_nv {X E : Nat → Nat → Int32} (hI : X 35 7 = E 35 7) (hE : 0 ≤ (E 35 7).toInt ∧ (E 35 7).toInt ≤ 8) : (32 : Int32) * X 35 7 = nI ((32 : Int32) * E 35 7).toNatClampNeg := by
  rw [hI]
  obtain ⟨j, hj, e⟩ := nI_of (x := (32 : Int32) * E 35 7) (x_lt0.mpr (by
    have l : (32 : Int32).toInt = 32 := by decide
    rw [Int32.toInt_mul, Int.bmod_def, l]
    omega))
  rw [e, nI_clamp hj]
theorem cr_le {E : Nat → Nat → Int32} (hE : 0 ≤ (E 35 7).toInt ∧ (E 35 7).toInt ≤ 8) : ((32 : Int32) * E 35 7).toNatClampNeg ≤ 256 := by
  have l : (32 : Int32).toInt = 32 := by decide
  have h : 0 ≤ ((32 : Int32) * E 35 7).toInt ∧ ((32 : Int32) * E 35 7).toInt ≤ 256 := by
    rw [Int32.toInt_mul, Int.bmod_def, l]
    omega
  obtain ⟨j, hj, e⟩ := nI_of (x_lt0.mpr h.1)
  have h2 := h.2
  rw [e, nI_toInt hj] at h2
  rw [e, nI_clamp hj]
  omega
theorem cr_lt {E : Nat → Nat → Int32} (hE : 0 ≤ (E 35 7).toInt ∧ (E 35 7).toInt ≤ 8) : ((32 : Int32) * E 35 7).toNatClampNeg < 2147483648 := Nat.lt_of_le_of_lt (cr_le hE) (by omega)
theorem crE0 {X : Nat → Nat → Int32} : 0 ≤ ((w2 X 35 7 0) 35 7).toInt ∧ ((w2 X 35 7 0) 35 7).toInt ≤ 8 := by
  rw [w2_same]; decide
theorem crE1 {σ X : Nat → Nat → Int32} {N : Nat} (h : ct2 σ (2 * N) X) (hN : N ≤ 4) : 0 ≤ ((w2 X 35 7 (X 35 9)) 35 7).toInt ∧ ((w2 X 35 7 (X 35 9)) 35 7).toInt ≤ 8 := by
  rw [w2_same]
  obtain ⟨a, b, c⟩ := h
  omega
theorem cr_in {v : Int32} {k N : Nat} (hN : N ≤ 256) (hk : k < N) (e : v = nI k) : vp_in v 256 := by
  subst e
  exact vp_in_nI (by omega) (by omega)
end AuxJ
