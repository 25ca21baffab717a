section Poly
abbrev Pg := Nat × (Nat → Nat → Int32)
def pPush (p : Pg) (c : Nat → Int32) : Pg := (p.1 + 1, fun i => if i = p.1 then c else p.2 i)
def pE (p : Pg) (c e : Nat → Int32) (x : Int32) : Pg := if cD c x < 0 then (if cD e x < 0 then p else pPush p (cB e c x)) else (if cD e x < 0 then pPush (pPush p c) (cB c e x) else pPush p c)
def pX (n k : Nat) : Nat := if k + 1 = n then 0 else k + 1
def pN (q : Pg) (x : Int32) : Nat → Pg
  | 0 => (0, fun _ _ => 0)
  | k + 1 => pE (pN q x k) (q.2 k) (q.2 (pX q.1 k)) x
def pT (p : Pg) : Pg := if 3 ≤ p.1 then p else (0, p.2)
/-- the corners that are left of a polygon -/
def pCut (q : Pg) (x : Int32) : Pg := pT (pN q x q.1)
def pc (s t : Bool) : Nat := match s, t with
  | true, true => 0
  | true, false => 1
  | false, true => 2
  | false, false => 1
def pS (c : Nat → Int32) (x : Int32) : Bool := decide (cD c x < 0)
theorem cD_neg {c : Nat → Int32} {x : Int32} : cD c x < 0 ↔ (cD c x).toInt < 0 := by
  rw [Int64.lt_iff_toInt_lt]
  exact Iff.rfl
theorem pE_n (p : Pg) (c e : Nat → Int32) (x : Int32) : (pE p c e x).1 = p.1 + pc (pS c x) (pS e x) := by
  unfold pE pS
  by_cases h1 : cD c x < 0 <;> by_cases h2 : cD e x < 0 <;> simp [h1, h2, pc, pPush]
theorem pN_le (q : Pg) (x : Int32) (k : Nat) : ∀ m, (pN q x k).1 ≤ (pN q x (k + m)).1
  | 0 => Nat.le_refl _
  | m + 1 => Nat.le_trans (pN_le q x k m) (by
      show _ ≤ (pE (pN q x (k + m)) (q.2 (k + m)) (q.2 (pX q.1 (k + m))) x).1
      rw [pE_n]
      omega)
theorem pc3 : ∀ a b c : Bool, 0 + pc a b + pc b c + pc c a ≤ 4 := by decide
theorem pc4 : ∀ a b c d : Bool, ¬ (a = c ∧ b = d ∧ a ≠ b) → 0 + pc a b + pc b c + pc c d + pc d a ≤ 5 := by decide
theorem pN_3 {q : Pg} {x : Int32} (h : q.1 = 3) : (pN q x 3).1 = 0 + pc (pS (q.2 0) x) (pS (q.2 1) x) + pc (pS (q.2 1) x) (pS (q.2 2) x) + pc (pS (q.2 2) x) (pS (q.2 0) x) := by
  have n0 : pX q.1 0 = 1 := by rw [h]; rfl
  have n1 : pX q.1 1 = 2 := by rw [h]; rfl
  have n2 : pX q.1 2 = 0 := by rw [h]; rfl
  unfold pN
  rw [pE_n]
  unfold pN
  rw [pE_n]
  unfold pN
  rw [pE_n]
  unfold pN
  rw [n0, n1, n2]
theorem pN_4 {q : Pg} {x : Int32} (h : q.1 = 4) : (pN q x 4).1 = 0 + pc (pS (q.2 0) x) (pS (q.2 1) x) + pc (pS (q.2 1) x) (pS (q.2 2) x) + pc (pS (q.2 2) x) (pS (q.2 3) x) + pc (pS (q.2 3) x) (pS (q.2 0) x) := by
  have n0 : pX q.1 0 = 1 := by rw [h]; rfl
  have n1 : pX q.1 1 = 2 := by rw [h]; rfl
  have n2 : pX q.1 2 = 3 := by rw [h]; rfl
  have n3 : pX q.1 3 = 0 := by rw [h]; rfl
  unfold pN
  rw [pE_n]
  unfold pN
  rw [pE_n]
  unfold pN
  rw [pE_n]
  unfold pN
  rw [pE_n]
  unfold pN
  rw [n0, n1, n2, n3]
theorem pN_le4 {q : Pg} {x : Int32} (h : q.1 = 3) : (pN q x 3).1 ≤ 4 := by
  rw [pN_3 h]
  exact pc3 _ _ _
theorem pS_w {c : Nat → Int32} {x : Int32} (hx : ¬ x = 0) : (pS c x = true) ↔ (c 3).toInt < 256 := by
  unfold pS
  rw [decide_eq_true_iff, cD_neg, cD_1 c hx]
  omega
theorem pS_eq {c e : Nat → Int32} {x : Int32} (hx : ¬ x = 0) : (pS c x = pS e x) ↔ ((c 3).toInt < 256 ↔ (e 3).toInt < 256) := by
  rw [← pS_w hx, ← pS_w hx]
  cases pS c x <;> cases pS e x <;> decide
/-- four corners behind the first plane: inside and outside don't take turns -/
theorem no_alt {l : Pg} (h : l.1 = 3) (h4 : (pN l 0 3).1 = 4) {x : Int32} (hx : ¬ x = 0) : ¬ (pS ((pN l 0 3).2 0) x = pS ((pN l 0 3).2 2) x ∧ pS ((pN l 0 3).2 1) x = pS ((pN l 0 3).2 3) x ∧ pS ((pN l 0 3).2 0) x ≠ pS ((pN l 0 3).2 1) x) := by
  have n0 : pX l.1 0 = 1 := by rw [h]; rfl
  have n1 : pX l.1 1 = 2 := by rw [h]; rfl
  have n2 : pX l.1 2 = 0 := by rw [h]; rfl
  rw [Ne, pS_eq hx, pS_eq hx, pS_eq hx]
  rw [pN_3 h] at h4
  by_cases s0 : cD (l.2 0) 0 < 0 <;> by_cases s1 : cD (l.2 1) 0 < 0 <;> by_cases s2 : cD (l.2 2) 0 < 0
  all_goals try (exfalso; revert h4; simp [pS, s0, s1, s2, pc]; done)
  · have b1 := cB_bt (c := l.2 1) (e := l.2 0) (x := 0) (by rw [cD_neg] at s1; omega) (cD_neg.mp s0) 3
    have b2 := cB_bt (c := l.2 2) (e := l.2 0) (x := 0) (by rw [cD_neg] at s2; omega) (cD_neg.mp s0) 3
    have e0 : (pN l 0 3).2 0 = cB (l.2 1) (l.2 0) 0 := by simp [pN, pE, pPush, n0, n1, n2, s0, s1, s2]
    have e1 : (pN l 0 3).2 1 = l.2 1 := by simp [pN, pE, pPush, n0, n1, n2, s0, s1, s2]
    have e2 : (pN l 0 3).2 2 = l.2 2 := by simp [pN, pE, pPush, n0, n1, n2, s0, s1, s2]
    have e3 : (pN l 0 3).2 3 = cB (l.2 2) (l.2 0) 0 := by simp [pN, pE, pPush, n0, n1, n2, s0, s1, s2]
    rw [e0, e1, e2, e3]
    omega
  · have b1 := cB_bt (c := l.2 0) (e := l.2 1) (x := 0) (by rw [cD_neg] at s0; omega) (cD_neg.mp s1) 3
    have b2 := cB_bt (c := l.2 2) (e := l.2 1) (x := 0) (by rw [cD_neg] at s2; omega) (cD_neg.mp s1) 3
    have e0 : (pN l 0 3).2 0 = l.2 0 := by simp [pN, pE, pPush, n0, n1, n2, s0, s1, s2]
    have e1 : (pN l 0 3).2 1 = cB (l.2 0) (l.2 1) 0 := by simp [pN, pE, pPush, n0, n1, n2, s0, s1, s2]
    have e2 : (pN l 0 3).2 2 = cB (l.2 2) (l.2 1) 0 := by simp [pN, pE, pPush, n0, n1, n2, s0, s1, s2]
    have e3 : (pN l 0 3).2 3 = l.2 2 := by simp [pN, pE, pPush, n0, n1, n2, s0, s1, s2]
    rw [e0, e1, e2, e3]
    omega
  · have b1 := cB_bt (c := l.2 1) (e := l.2 2) (x := 0) (by rw [cD_neg] at s1; omega) (cD_neg.mp s2) 3
    have b2 := cB_bt (c := l.2 0) (e := l.2 2) (x := 0) (by rw [cD_neg] at s0; omega) (cD_neg.mp s2) 3
    have e0 : (pN l 0 3).2 0 = l.2 0 := by simp [pN, pE, pPush, n0, n1, n2, s0, s1, s2]
    have e1 : (pN l 0 3).2 1 = l.2 1 := by simp [pN, pE, pPush, n0, n1, n2, s0, s1, s2]
    have e2 : (pN l 0 3).2 2 = cB (l.2 1) (l.2 2) 0 := by simp [pN, pE, pPush, n0, n1, n2, s0, s1, s2]
    have e3 : (pN l 0 3).2 3 = cB (l.2 0) (l.2 2) 0 := by simp [pN, pE, pPush, n0, n1, n2, s0, s1, s2]
    rw [e0, e1, e2, e3]
    omega
/-- the first cut leaves at most four corners, the second at most five -/
theorem cut1_n {l : Pg} (h : l.1 = 3) : (pCut l 0).1 = 0 ∨ (pCut l 0).1 = 3 ∨ ((pCut l 0).1 = 4 ∧ pCut l 0 = pN l 0 3 ∧ (pN l 0 3).1 = 4) := by
  have h4 := pN_le4 (q := l) (x := 0) h
  unfold pCut pT
  rw [h]
  by_cases h3 : 3 ≤ (pN l 0 3).1
  · rw [if_pos h3]
    rcases (by omega : (pN l 0 3).1 = 3 ∨ (pN l 0 3).1 = 4) with e | e
    · exact Or.inr (Or.inl e)
    · exact Or.inr (Or.inr ⟨e, rfl, e⟩)
  · rw [if_neg h3]
    exact Or.inl rfl
theorem cut2_n {l : Pg} (h : l.1 = 3) {x : Int32} (hx : ¬ x = 0) : (pN (pCut l 0) x (pCut l 0).1).1 ≤ 5 := by
  rcases cut1_n h with e | e | ⟨e, e2, e3⟩
  · rw [e]
    exact Nat.zero_le 5
  · have := pN_le4 (q := pCut l 0) (x := x) e
    rw [e]
    omega
  · rw [e, pN_4 e, e2]
    exact pc4 _ _ _ _ (no_alt h e3 hx)
theorem cut_c {q : Pg} {x : Int32} (h : (pN q x q.1).1 ≤ 5) : (pCut q x).1 ≤ 5 ∧ ((pCut q x).1 = 0 ∨ 3 ≤ (pCut q x).1) := by
  unfold pCut pT
  by_cases h3 : 3 ≤ (pN q x q.1).1
  · rw [if_pos h3]; omega
  · rw [if_neg h3]
    exact ⟨Nat.zero_le 5, Or.inl rfl⟩
theorem push_w {p : Pg} {c : Nat → Int32} (hp : ∀ i, i < p.1 → 256 ≤ (p.2 i 3).toInt) (hc : 256 ≤ (c 3).toInt) : ∀ i, i < (pPush p c).1 → 256 ≤ ((pPush p c).2 i 3).toInt := by
  intro i hi
  show 256 ≤ ((if i = p.1 then c else p.2 i) 3).toInt
  have hi2 : i < p.1 + 1 := hi
  by_cases e : i = p.1
  · rw [if_pos e]; exact hc
  · rw [if_neg e]; exact hp i (by omega)
theorem pN_w {q : Pg} {x : Int32} (hx : ¬ x = 0) : ∀ k i, i < (pN q x k).1 → 256 ≤ ((pN q x k).2 i 3).toInt := by
  intro k
  induction k with
  | zero => intro i hi; exact absurd hi (Nat.not_lt_zero i)
  | succ k ih =>
    unfold pN pE
    generalize q.2 k = c
    generalize q.2 (pX q.1 k) = e
    have i1 := cD_1 c hx
    have i2 := cD_1 e hx
    by_cases h1 : cD c x < 0
    · rw [if_pos h1]
      by_cases h2 : cD e x < 0
      · rw [if_pos h2]; exact ih
      · rw [if_neg h2]
        rw [cD_neg] at h1 h2
        exact push_w ih (cB_w hx (by omega) h1)
    · rw [if_neg h1]
      by_cases h2 : cD e x < 0
      · rw [if_pos h2]
        rw [cD_neg] at h1 h2
        exact push_w (push_w ih (by omega)) (cB_w hx (by omega) h2)
      · rw [if_neg h2]
        rw [cD_neg] at h1
        exact push_w ih (by omega)
theorem cut_w {q : Pg} {x : Int32} (hx : ¬ x = 0) : ∀ i, i < (pCut q x).1 → 256 ≤ ((pCut q x).2 i 3).toInt := by
  unfold pCut pT
  by_cases h3 : 3 ≤ (pN q x q.1).1
  · rw [if_pos h3]; exact pN_w hx _
  · rw [if_neg h3]; exact fun i hi => absurd hi (Nat.not_lt_zero i)
end Poly
