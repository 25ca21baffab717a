section CutR
/-- the corners that the reference has laid by, and those that it cuts -/
def hR (σ : Nat → Nat → Int32) (p : Pg) : Prop := σ 35 9 = nI p.1 ∧ ∀ i k, i < p.1 → k < 32 → σ 41 (32 * i + k) = p.2 i k
def hQ (σ : Nat → Nat → Int32) (q : Pg) : Prop := σ 35 7 = nI q.1 ∧ ∀ i k, i < q.1 → k < 32 → σ 40 (32 * i + k) = q.2 i k
/-- only these cells were written -/
def frR (σ σ' : Nat → Nat → Int32) : Prop := (∀ a, a ≠ 41 → a ≠ 35 → σ' a = σ a) ∧ (∀ y, y ≠ 9 → σ' 35 y = σ 35 y)
theorem frR_trans {σ σ' σ'' : Nat → Nat → Int32} (h1 : frR σ σ') (h2 : frR σ' σ'') : frR σ σ'' := ⟨fun a ha hb => by rw [h2.1 a ha hb, h1.1 a ha hb], fun y hy => by rw [h2.2 y hy, h1.2 y hy]⟩
theorem hQ_f {σ σ' : Nat → Nat → Int32} {q : Pg} (h : hQ σ q) (f : frR σ σ') : hQ σ' q := ⟨by rw [f.2 7 (by decide)]; exact h.1, fun i k hi hk => by rw [f.1 40 (by decide) (by decide)]; exact h.2 i k hi hk⟩
theorem rin_eq {σ : Nat → Nat → Int32} {q : Pg} {i : Nat} (h : hQ σ q) (h5 : q.1 ≤ 5) (hi : i < q.1) (x : Int32) : f_rinside σ (nI i) x = cD (q.2 i) x := by
  unfold f_rinside cD
  rw [show (32 * nI i + 2).toNatClampNeg = 32 * i + 2 from ixk (k := 2) (by omega) (by decide), show (32 * nI i + 3).toNatClampNeg = 32 * i + 3 from ixk (k := 3) (by omega) (by decide), h.2 i 2 hi (by decide), h.2 i 3 hi (by decide)]
theorem L_bw_at {σ : Nat → Nat → Int32} {q : Pg} {i j m : Nat} {x : Int32} (h : hQ σ q) (h5 : q.1 ≤ 5) (hi : i < q.1) (hj : j < q.1) (hm : σ 35 9 = nI m) (m8 : m < 8) : ∀ n, n ≤ 32 → (∀ k, k < n → L_bw σ (nI i) (nI j) x n 41 (32 * m + k) = cB (q.2 i) (q.2 j) x k) ∧ (∀ t, t < 32 * m → L_bw σ (nI i) (nI j) x n 41 t = σ 41 t) := by
  intro n
  induction n with
  | zero => intro _; exact ⟨fun k hk => absurd hk (Nat.not_lt_zero k), fun t _ => rfl⟩
  | succ n ih =>
    intro hn
    obtain ⟨i1, i2⟩ := ih (by omega)
    unfold L_bw B_bw
    rw [L_bw_ne (a := 35) (by decide), L_bw_ne (a := 40) (by decide), hm, ixk m8 (by omega), ixk (c := i) (by omega) (by omega), ixk (c := j) (by omega) (by omega), rin_eq h h5 hi, rin_eq h h5 hj, h.2 i n hi (by omega), h.2 j n hj (by omega)]
    refine ⟨fun k hk => ?_, fun t ht => ?_⟩
    · by_cases e : k = n
      · rw [e, w2_same]
        rfl
      · rw [w2_off (by omega)]
        exact i1 k (by omega)
    · rw [w2_off (by omega)]
      exact i2 t ht
theorem bw_h {σ : Nat → Nat → Int32} {p q : Pg} {i j : Nat} {x : Int32} (hp : hR σ p) (hp8 : p.1 < 8) (h : hQ σ q) (h5 : q.1 ≤ 5) (hi : i < q.1) (hj : j < q.1) : hR (s_rbetween σ (nI i) (nI j) x) (pPush p (cB (q.2 i) (q.2 j) x)) ∧ frR σ (s_rbetween σ (nI i) (nI j) x) := by
  obtain ⟨i1, i2⟩ := L_bw_at (x := x) h h5 hi hj hp.1 hp8 32 (by omega)
  unfold s_rbetween
  refine ⟨⟨?_, fun a k ha hk => ?_⟩, fun a h1 h2 => ?_, fun y hy => ?_⟩
  · rw [w2_same, L_bw_ne (by decide), hp.1]
    exact nI_add p.1 1
  · rw [w2_ne (by decide)]
    have ha2 : a < p.1 + 1 := ha
    show _ = (if a = p.1 then _ else p.2 a) k
    by_cases e : a = p.1
    · rw [if_pos e, e]
      exact i1 k hk
    · rw [if_neg e, i2 _ (by omega)]
      exact hp.2 a k (by omega) hk
  · rw [w2_ne h2, L_bw_ne h1]
  · rw [w2_off hy, L_bw_ne (by decide)]
theorem L_cq_ne2 {σ : Nat → Nat → Int32} {x v : Int32} {σc σe : Nat → Nat → Int32} {a : Nat} (h : a ≠ 41) : ∀ n, L_cq σ x σc v σe n a = σe a := by
  intro n
  induction n with
  | zero => rfl
  | succ n ih =>
    unfold L_cq B_cq
    rw [w2_ne h]
    exact ih
theorem L_cq_at {σ σc ρ : Nat → Nat → Int32} {q : Pg} {i m : Nat} {x : Int32} (h : hQ ρ q) (h5 : q.1 ≤ 5) (hi : i < q.1) (hm : ρ 35 9 = nI m) (m8 : m < 8) : ∀ n, n ≤ 32 → (∀ k, k < n → L_cq σ x σc (nI i) ρ n 41 (32 * m + k) = q.2 i k) ∧ (∀ t, t < 32 * m → L_cq σ x σc (nI i) ρ n 41 t = ρ 41 t) := by
  intro n
  induction n with
  | zero => intro _; exact ⟨fun k hk => absurd hk (Nat.not_lt_zero k), fun t _ => rfl⟩
  | succ n ih =>
    intro hn
    obtain ⟨i1, i2⟩ := ih (by omega)
    unfold L_cq B_cq
    rw [L_cq_ne2 (a := 35) (by decide), L_cq_ne2 (a := 40) (by decide), hm, ixk m8 (by omega), ixk (c := i) (by omega) (by omega), h.2 i n hi (by omega)]
    refine ⟨fun k hk => ?_, fun t ht => ?_⟩
    · by_cases e : k = n
      · rw [e, w2_same]
      · rw [w2_off (by omega)]
        exact i1 k (by omega)
    · rw [w2_off (by omega)]
      exact i2 t ht
theorem cq_h {σ σc ρ : Nat → Nat → Int32} {p q : Pg} {i : Nat} {x : Int32} (hp : hR ρ p) (hp8 : p.1 < 8) (h : hQ ρ q) (h5 : q.1 ≤ 5) (hi : i < q.1) : hR (w2 (L_cq σ x σc (nI i) ρ 32) 35 9 (((L_cq σ x σc (nI i) ρ 32) 35 9) + 1)) (pPush p (q.2 i)) ∧ frR ρ (w2 (L_cq σ x σc (nI i) ρ 32) 35 9 (((L_cq σ x σc (nI i) ρ 32) 35 9) + 1)) := by
  obtain ⟨i1, i2⟩ := L_cq_at (σ := σ) (σc := σc) (x := x) h h5 hi hp.1 hp8 32 (by omega)
  refine ⟨⟨?_, fun a k ha hk => ?_⟩, fun a h1 h2 => ?_, fun y hy => ?_⟩
  · rw [w2_same, L_cq_ne2 (by decide), hp.1]
    exact nI_add p.1 1
  · rw [w2_ne (by decide)]
    have ha2 : a < p.1 + 1 := ha
    show _ = (if a = p.1 then _ else p.2 a) k
    by_cases e : a = p.1
    · rw [if_pos e, e]
      exact i1 k hk
    · rw [if_neg e, i2 _ (by omega)]
      exact hp.2 a k (by omega) hk
  · rw [w2_ne h2, L_cq_ne2 h1]
  · rw [w2_off hy, L_cq_ne2 (by decide)]
theorem ct_step {σ ρ : Nat → Nat → Int32} {p q : Pg} {k j : Nat} {x : Int32} (hp : hR ρ p) (h : hQ ρ q) (h5 : q.1 ≤ 5) (hk : k < q.1) (hj : j < q.1) (p5 : (pE p (q.2 k) (q.2 j) x).1 ≤ 5) :
    hR (if (lg_cmp (f_rinside ρ (nI k) x) 0) < 0 then if (lg_cmp (f_rinside ρ (nI j) x) 0) < 0 then ρ else s_rbetween ρ (nI j) (nI k) x else if (lg_cmp (f_rinside ρ (nI j) x) 0) < 0 then s_rbetween (w2 (L_cq σ x ρ (nI k) ρ 32) 35 9 (((L_cq σ x ρ (nI k) ρ 32) 35 9) + 1)) (nI k) (nI j) x else w2 (L_cq σ x ρ (nI k) ρ 32) 35 9 (((L_cq σ x ρ (nI k) ρ 32) 35 9) + 1)) (pE p (q.2 k) (q.2 j) x) ∧
    frR ρ (if (lg_cmp (f_rinside ρ (nI k) x) 0) < 0 then if (lg_cmp (f_rinside ρ (nI j) x) 0) < 0 then ρ else s_rbetween ρ (nI j) (nI k) x else if (lg_cmp (f_rinside ρ (nI j) x) 0) < 0 then s_rbetween (w2 (L_cq σ x ρ (nI k) ρ 32) 35 9 (((L_cq σ x ρ (nI k) ρ 32) 35 9) + 1)) (nI k) (nI j) x else w2 (L_cq σ x ρ (nI k) ρ 32) 35 9 (((L_cq σ x ρ (nI k) ρ 32) 35 9) + 1)) := by
  rw [rin_eq h h5 hk, rin_eq h h5 hj]
  unfold pE at p5 ⊢
  by_cases s1 : cD (q.2 k) x < 0
  · rw [if_pos ((lg_cmp_lt _ _).mpr s1)]
    rw [if_pos s1] at p5 ⊢
    by_cases s2 : cD (q.2 j) x < 0
    · rw [if_pos ((lg_cmp_lt _ _).mpr s2)]
      rw [if_pos s2]
      exact ⟨hp, fun a _ _ => rfl, fun y _ => rfl⟩
    · rw [if_neg (fun h => s2 ((lg_cmp_lt _ _).mp h))]
      rw [if_neg s2] at p5 ⊢
      have h6 : p.1 + 1 ≤ 5 := p5
      exact bw_h hp (by omega) h h5 hj hk
  · rw [if_neg (fun h => s1 ((lg_cmp_lt _ _).mp h))]
    rw [if_neg s1] at p5 ⊢
    by_cases s2 : cD (q.2 j) x < 0
    · rw [if_pos ((lg_cmp_lt _ _).mpr s2)]
      rw [if_pos s2] at p5 ⊢
      have h6 : p.1 + 1 + 1 ≤ 5 := p5
      obtain ⟨c1, c2⟩ := cq_h (σ := σ) (σc := ρ) (x := x) hp (by omega) h h5 hk
      obtain ⟨d1, d2⟩ := bw_h (x := x) c1 (show p.1 + 1 < 8 by omega) (hQ_f h c2) h5 hk hj
      exact ⟨d1, frR_trans c2 d2⟩
    · rw [if_neg (fun h => s2 ((lg_cmp_lt _ _).mp h))]
      rw [if_neg s2] at p5 ⊢
      have h6 : p.1 + 1 ≤ 5 := p5
      exact cq_h hp (by omega) h h5 hk
theorem ct_h {σ ρ : Nat → Nat → Int32} {q : Pg} {x : Int32} (h0 : ρ 35 9 = 0) (h : hQ ρ q) (h5 : q.1 ≤ 5) (p5 : (pN q x q.1).1 ≤ 5) : ∀ k, k ≤ q.1 → hR (L_ct σ x ρ k) (pN q x k) ∧ frR ρ (L_ct σ x ρ k) := by
  intro k
  induction k with
  | zero => intro _; exact ⟨⟨h0, fun i k hi _ => absurd hi (Nat.not_lt_zero i)⟩, fun a _ _ => rfl, fun y _ => rfl⟩
  | succ k ih =>
    intro hk
    obtain ⟨i1, i2⟩ := ih (by omega)
    have k5 : (pN q x (k + 1)).1 ≤ 5 := by
      have := pN_le q x (k + 1) (q.1 - (k + 1))
      rw [show k + 1 + (q.1 - (k + 1)) = q.1 by omega] at this
      omega
    have hq := hQ_f h i2
    have ek1 : nI k + 1 = nI (k + 1) := nI_add k 1
    unfold L_ct B_ct
    rw [hq.1, ek1]
    by_cases hx : k + 1 = q.1
    · rw [if_pos (by rw [hx])]
      have ex : pX q.1 k = 0 := by unfold pX; rw [if_pos hx]
      have k6 := k5
      unfold pN at k6 ⊢
      rw [ex] at k6 ⊢
      obtain ⟨d1, d2⟩ := ct_step (σ := σ) i1 hq h5 (show k < q.1 by omega) (show 0 < q.1 by omega) k6
      exact ⟨d1, frR_trans i2 d2⟩
    · rw [if_neg (fun e => hx (by have := congrArg Int32.toNatClampNeg e; rw [nI_clamp (by omega), nI_clamp (by omega)] at this; exact this))]
      have ex : pX q.1 k = k + 1 := by unfold pX; rw [if_neg hx]
      have k6 := k5
      unfold pN at k6 ⊢
      rw [ex] at k6 ⊢
      obtain ⟨d1, d2⟩ := ct_step (σ := σ) i1 hq h5 (show k < q.1 by omega) (show k + 1 < q.1 by omega) k6
      exact ⟨d1, frR_trans i2 d2⟩
theorem L_cr_ne2 {σ : Nat → Nat → Int32} {x : Int32} {σe : Nat → Nat → Int32} {a : Nat} (h : a ≠ 40) : ∀ n, L_cr σ x σe n a = σe a := by
  intro n
  induction n with
  | zero => rfl
  | succ n ih =>
    unfold L_cr B_cr
    rw [w2_ne h]
    exact ih
theorem L_cr_at {σ : Nat → Nat → Int32} {x : Int32} {σe : Nat → Nat → Int32} : ∀ n, n < 2 ^ 31 → ∀ t, t < n → L_cr σ x σe n 40 t = σe 41 t := by
  intro n
  induction n with
  | zero => intro _ t ht; exact absurd ht (Nat.not_lt_zero t)
  | succ n ih =>
    intro hn t ht
    unfold L_cr B_cr
    rw [nI_clamp (by omega), L_cr_ne2 (by decide)]
    by_cases e : t = n
    · rw [e, w2_same]
    · rw [w2_off e]
      exact ih (by omega) t (by omega)
/-- the reference's cut -/
theorem rcut_h {σ : Nat → Nat → Int32} {q : Pg} {x : Int32} (h : hQ σ q) (h5 : q.1 ≤ 5) (p5 : (pN q x q.1).1 ≤ 5) : hQ (s_rcut σ x) (pCut q x) ∧ (∀ a, a ≠ 35 → a ≠ 40 → a ≠ 41 → s_rcut σ x a = σ a) ∧ (∀ y, y ≠ 7 → y ≠ 9 → s_rcut σ x 35 y = σ 35 y) := by
  have hq0 : hQ (w2 σ 35 9 0) q := ⟨by rw [w2_off (by decide)]; exact h.1, fun i k hi hk => by rw [w2_ne (by decide)]; exact h.2 i k hi hk⟩
  obtain ⟨i1, i2⟩ := ct_h (σ := σ) (x := x) w2_same hq0 h5 p5 q.1 (Nat.le_refl _)
  have eq : (σ 35 7).toNatClampNeg = q.1 := by rw [h.1, nI_clamp (by omega)]
  have fr : ∀ v n, (∀ a, a ≠ 35 → a ≠ 40 → a ≠ 41 → L_cr σ x (w2 (L_ct σ x (w2 σ 35 9 0) q.1) 35 7 v) n a = σ a) ∧ (∀ y, y ≠ 7 → y ≠ 9 → L_cr σ x (w2 (L_ct σ x (w2 σ 35 9 0) q.1) 35 7 v) n 35 y = σ 35 y) := by
    intro v n
    refine ⟨fun a h1 h2 h3 => ?_, fun y h1 h2 => ?_⟩
    · rw [L_cr_ne2 h2, w2_ne h1, i2.1 a h3 h1, w2_ne h1]
    · rw [L_cr_ne2 (by decide), w2_off h1, i2.2 y h2, w2_off h2]
  unfold s_rcut pCut pT
  rw [eq, i1.1]
  by_cases h3 : 3 ≤ (pN q x q.1).1
  · rw [if_pos h3, if_pos ((three_le p5).mpr h3), w2_same]
    have e32 : (32 * nI (pN q x q.1).1).toNatClampNeg = 32 * (pN q x q.1).1 := by rw [show (32 : Int32) = nI 32 from rfl, pk_mul, nI_clamp (by omega)]
    rw [e32]
    refine ⟨⟨by rw [L_cr_ne2 (by decide), w2_same], fun i k hi hk => ?_⟩, fr _ _⟩
    rw [L_cr_at _ (by omega) _ (by omega), w2_ne (by decide)]
    exact i1.2 i k hi hk
  · rw [if_neg h3, if_neg (fun h => h3 ((three_le p5).mp h)), w2_same]
    refine ⟨⟨by rw [L_cr_ne2 (by decide), w2_same]; rfl, fun i k hi hk => absurd hi (Nat.not_lt_zero i)⟩, fr _ _⟩
end CutR
