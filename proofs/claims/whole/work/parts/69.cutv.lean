section CutV
/-- a polygon of the object holds these corners -/
def hV (σ : Nat → Nat → Int32) (b : Nat) (p : Pg) : Prop := σ b 1 = nI p.1 ∧ ∀ i k, i < p.1 → k < 32 → σ (b + 2 + i) k = p.2 i k
theorem hV_nn {σ : Nat → Nat → Int32} {b : Nat} {p : Pg} (h : hV σ b p) (h5 : p.1 ≤ 5) : ¬ σ b 1 < 0 := by
  rw [h.1]
  exact nI_pos (by omega)
theorem take_h {σ : Nat → Nat → Int32} {b i1 : Nat} {p : Pg} {c : Nat → Int32} (hp : hV σ b p) (h5 : p.1 < 5) (hc : ∀ k, k < 32 → σ i1 k = c k) : hV (s_take σ b i1) b (pPush p c) := by
  have e1 := hp.1
  have el : (σ b 1).toNatClampNeg = p.1 := by rw [e1, nI_clamp (by omega)]
  have e32 : (32 : Int32).toNatClampNeg = 32 := by decide
  have lt : σ b 1 < 5 := by rw [e1]; exact nI_lt (b := 5) h5 (by omega)
  unfold s_take
  rw [if_pos lt, el, e32]
  refine ⟨?_, fun i k hi hk => ?_⟩
  · rw [w2_same, cp2_ne (by omega), e1]
    exact nI_add p.1 1
  · rw [w2_ne (by omega)]
    show _ = (if i = p.1 then c else p.2 i) k
    have hi2 : i < p.1 + 1 := hi
    by_cases e : i = p.1
    · rw [if_pos e, e]
      show (if b + 2 + p.1 = b + 2 + p.1 ∧ k < 32 then σ i1 k else σ (b + 2 + p.1) k) = c k
      rw [if_pos ⟨rfl, hk⟩]
      exact hc k hk
    · rw [if_neg e, cp2_ne (by omega)]
      exact hp.2 i k (by omega) hk
theorem L_tb_at {σ : Nat → Nat → Int32} {b i1 i2 m : Nat} {f : Int64} {c e : Nat → Int32} (hm : (σ b 1).toNatClampNeg = m) (h1 : i1 ≠ b + 2 + m) (h2 : i2 ≠ b + 2 + m) (hc : ∀ k, k < 32 → σ i1 k = c k) (he : ∀ k, k < 32 → σ i2 k = e k) : ∀ n, n ≤ 32 → ∀ k, k < n → L_tb σ b i1 i2 f n (b + 2 + m) k = ((c k).toInt64 + f_floorDiv (((e k).toInt64 - (c k).toInt64) * f) 65536).toInt32 := by
  intro n
  induction n with
  | zero => intro _ k hk; exact absurd hk (Nat.not_lt_zero k)
  | succ n ih =>
    intro hn k hk
    unfold L_tb B_tb
    rw [hm, nI_clamp (by omega), L_tb_ne (by rw [hm]; exact h1), L_tb_ne (by rw [hm]; exact h2)]
    by_cases e : k = n
    · rw [e, w2_same, hc n (by omega), he n (by omega)]
    · rw [w2_off e]
      exact ih (by omega) k (by omega)
theorem tb_h {σ : Nat → Nat → Int32} {b i1 i2 : Nat} {p : Pg} {c e : Nat → Int32} {f : Int64} (hp : hV σ b p) (h5 : p.1 < 5) (h1 : ∀ j, j < 5 → i1 ≠ b + 2 + j) (h2 : ∀ j, j < 5 → i2 ≠ b + 2 + j) (hc : ∀ k, k < 32 → σ i1 k = c k) (he : ∀ k, k < 32 → σ i2 k = e k) : hV (s_takeBetween σ b i1 i2 f) b (pPush p (fun k => ((c k).toInt64 + f_floorDiv (((e k).toInt64 - (c k).toInt64) * f) 65536).toInt32)) := by
  have e1 := hp.1
  have el : (σ b 1).toNatClampNeg = p.1 := by rw [e1, nI_clamp (by omega)]
  have lt : σ b 1 < 5 := by rw [e1]; exact nI_lt (b := 5) h5 (by omega)
  unfold s_takeBetween
  rw [if_pos lt]
  refine ⟨?_, fun i k hi hk => ?_⟩
  · rw [w2_same, L_tb_ne (by omega), e1]
    exact nI_add p.1 1
  · rw [w2_ne (by omega)]
    have hi2 : i < p.1 + 1 := hi
    by_cases q : i = p.1
    · show _ = (if i = p.1 then (fun k => ((c k).toInt64 + f_floorDiv (((e k).toInt64 - (c k).toInt64) * f) 65536).toInt32) else p.2 i) k
      rw [if_pos q, q]
      exact L_tb_at el (h1 _ h5) (h2 _ h5) hc he 32 (by omega) k hk
    · show _ = (if i = p.1 then _ else p.2 i) k
      rw [if_neg q, L_tb_ne (by rw [el]; omega)]
      exact hp.2 i k (by omega) hk
theorem cB_eq {c e : Nat → Int32} {x : Int32} (s1 : ¬ cD c x < 0) (s2 : cD e x < 0) : (fun k => ((c k).toInt64 + f_floorDiv (((e k).toInt64 - (c k).toInt64) * f_share (cD c x) (cD e x)) 65536).toInt32) = cB c e x := by
  rw [cD_neg] at s1 s2
  have b1 := cD_b c x
  have b2 := cD_b e x
  rw [(sh_eq (a := cD c x) (b := cD e x) ⟨by omega, b1.2⟩ ⟨b2.1, s2⟩).2.2.1]
  funext k
  unfold cB
  rw [fd_down (by decide)]
theorem dist_eq {σ : Nat → Nat → Int32} {i : Nat} {c : Nat → Int32} (hc : ∀ k, k < 32 → σ i k = c k) (x : Int32) : f_distance σ i x = cD c x := by
  have e2 : (2 : Int32).toNatClampNeg = 2 := by decide
  have e3 : (3 : Int32).toNatClampNeg = 3 := by decide
  unfold f_distance cD
  rw [e2, e3, hc 2 (by decide), hc 3 (by decide)]
theorem te_h {σ : Nat → Nat → Int32} {b i1 i2 : Nat} {p : Pg} {c e : Nat → Int32} {x : Int32} (hp : hV σ b p) (h5 : (pE p c e x).1 ≤ 5) (n1 : i1 ≠ b) (n2 : i2 ≠ b) (h1 : ∀ j, j < 5 → i1 ≠ b + 2 + j) (h2 : ∀ j, j < 5 → i2 ≠ b + 2 + j) (hc : ∀ k, k < 32 → σ i1 k = c k) (he : ∀ k, k < 32 → σ i2 k = e k) : hV (s_takeEdge σ b i1 i2 x) b (pE p c e x) := by
  have hn := pE_n p c e x
  unfold s_takeEdge
  rw [dist_eq hc, dist_eq he]
  unfold pE at h5 ⊢
  by_cases s1 : cD c x < 0
  · have a1 : lg_cmp (cD c x) 0 < 0 := (lg_cmp_lt _ _).mpr s1
    have a3 : ¬ 0 ≤ lg_cmp (cD c x) 0 := Int32.not_le.mpr a1
    by_cases s2 : cD e x < 0
    · have a2 : lg_cmp (cD e x) 0 < 0 := (lg_cmp_lt _ _).mpr s2
      simp only [a1, a2, a3, s1, s2, if_true, if_false]
      exact hp
    · have a2 : ¬ lg_cmp (cD e x) 0 < 0 := fun h => s2 ((lg_cmp_lt _ _).mp h)
      simp only [a1, a2, a3, s1, s2, if_true, if_false] at h5 ⊢
      have h6 : p.1 + 1 ≤ 5 := h5
      rw [← cB_eq s2 s1]
      exact tb_h hp (by omega) h2 h1 he hc
  · have a1 : ¬ lg_cmp (cD c x) 0 < 0 := fun h => s1 ((lg_cmp_lt _ _).mp h)
    have a3 : 0 ≤ lg_cmp (cD c x) 0 := Int32.not_lt.mp a1
    by_cases s2 : cD e x < 0
    · have a2 : lg_cmp (cD e x) 0 < 0 := (lg_cmp_lt _ _).mpr s2
      have a4 : ¬ 0 ≤ lg_cmp (cD e x) 0 := Int32.not_le.mpr a2
      simp only [a1, a2, a3, a4, s1, s2, if_true, if_false] at h5 ⊢
      have h6 : p.1 + 1 + 1 ≤ 5 := h5
      have hnn := hV_nn hp (by omega)
      rw [← cB_eq s1 s2]
      exact tb_h (take_h hp (by omega) hc) (show p.1 + 1 < 5 by omega) h1 h2 (by rw [take_ne hnn n1 h1]; exact hc) (by rw [take_ne hnn n2 h2]; exact he)
    · have a2 : ¬ lg_cmp (cD e x) 0 < 0 := fun h => s2 ((lg_cmp_lt _ _).mp h)
      have a4 : 0 ≤ lg_cmp (cD e x) 0 := Int32.not_lt.mp a2
      simp only [a1, a2, a3, a4, s1, s2, if_true, if_false] at h5 ⊢
      have h6 : p.1 + 1 ≤ 5 := h5
      exact take_h hp (by omega) hc
theorem ti_h {σ : Nat → Nat → Int32} {b fb : Nat} {x : Int32} {q : Pg} (hb : b = fb + 7) (hq : hV σ fb q) (hq5 : q.1 ≤ 5) (h5 : (pN q x q.1).1 ≤ 5) : ∀ k, k ≤ q.1 → hV (L_ti σ b fb x k) b (pN q x k) ∧ (∀ a, a ≠ b → (∀ j, j < 5 → a ≠ b + 2 + j) → L_ti σ b fb x k a = σ a) := by
  intro k
  induction k with
  | zero =>
    intro _
    exact ⟨⟨w2_same, fun i k hi _ => absurd hi (Nat.not_lt_zero i)⟩, fun a ha _ => w2_ne ha⟩
  | succ k ih =>
    intro hk
    obtain ⟨i1, i2⟩ := ih (by omega)
    have k5 : (pN q x (k + 1)).1 ≤ 5 := by
      have := pN_le q x (k + 1) (q.1 - (k + 1))
      rw [show k + 1 + (q.1 - (k + 1)) = q.1 by omega] at this
      omega
    have k5' : (pN q x k).1 ≤ 5 := Nat.le_trans (pN_le q x k 1) k5
    have hnn := hV_nn i1 k5'
    have ek : (nI k).toNatClampNeg = k := nI_clamp (by omega)
    have ek1 : nI k + 1 = nI (k + 1) := nI_add k 1
    have e0 : (0 : Int32).toNatClampNeg = 0 := by decide
    have row : ∀ i, i < q.1 → ∀ m, m < 32 → L_ti σ b fb x k (fb + 2 + i) m = q.2 i m := by
      intro i hi m hm
      rw [i2 _ (by omega) (by intro j hj; omega)]
      exact hq.2 i m hi hm
    unfold L_ti B_ti
    rw [i2 fb (by omega) (by intro j hj; omega), hq.1, ek1, ek, e0]
    by_cases hx : k + 1 = q.1
    · rw [if_pos (by rw [hx]; exact Int32.le_refl _)]
      have ex : pX q.1 k = 0 := by unfold pX; rw [if_pos hx]
      have k6 := k5
      unfold pN at k6 ⊢
      rw [ex] at k6 ⊢
      refine ⟨te_h i1 k6 (by omega) (by omega) (by intro j hj; omega) (by intro j hj; omega) (row k (by omega)) (row 0 (by omega)), fun a h1 h2 => ?_⟩
      rw [te_ne hnn h1 h2]
      exact i2 a h1 h2
    · rw [if_neg (nI_ge (by omega) (by omega)), nI_clamp (show k + 1 < 2 ^ 31 by omega)]
      have ex : pX q.1 k = k + 1 := by unfold pX; rw [if_neg hx]
      have k6 := k5
      unfold pN at k6 ⊢
      rw [ex] at k6 ⊢
      refine ⟨te_h i1 k6 (by omega) (by omega) (by intro j hj; omega) (by intro j hj; omega) (row k (by omega)) (row (k + 1) (by omega)), fun a h1 h2 => ?_⟩
      rw [te_ne hnn h1 h2]
      exact i2 a h1 h2
theorem three_le {n : Nat} (h : n ≤ 5) : (3 : Int32) ≤ nI n ↔ 3 ≤ n := (by decide +kernel : ∀ n, n < 6 → ((3 : Int32) ≤ nI n ↔ 3 ≤ n)) n (by omega)
/-- the object's cut -/
theorem ti_cut {σ : Nat → Nat → Int32} {b fb : Nat} {x : Int32} {q : Pg} (hb : b = fb + 7) (hq : hV σ fb q) (hq5 : q.1 ≤ 5) (h5 : (pN q x q.1).1 ≤ 5) : hV (s_takeInside σ b fb x) b (pCut q x) ∧ (∀ a, a ≠ b → (∀ j, j < 5 → a ≠ b + 2 + j) → s_takeInside σ b fb x a = σ a) := by
  obtain ⟨i1, i2⟩ := ti_h hb hq hq5 h5 q.1 (Nat.le_refl _)
  unfold s_takeInside pCut pT
  have eq : (σ fb 1).toNatClampNeg = q.1 := by rw [hq.1, nI_clamp (by omega)]
  rw [eq]
  by_cases h3 : 3 ≤ (pN q x q.1).1
  · rw [if_pos h3, if_pos (by rw [i1.1]; exact (three_le h5).mpr h3)]
    exact ⟨i1, i2⟩
  · rw [if_neg h3, if_neg (by rw [i1.1]; exact fun h => h3 ((three_le h5).mp h))]
    refine ⟨⟨w2_same, fun i k hi _ => absurd hi (Nat.not_lt_zero i)⟩, fun a h1 h2 => ?_⟩
    rw [w2_ne h1]
    exact i2 a h1 h2
end CutV
