section RelA
def rM (σ : Nat → Nat → Int32) : Prop := ∀ j, j < 4096 → σ 2 j = σ 36 j
def rA (σ : Nat → Nat → Int32) : Prop := ∀ n c, n < 8 → c < 4 → σ (4 + n) c = σ 37 (4 * n + c)
def rC (σ : Nat → Nat → Int32) : Prop := ∀ j k, j < 3 → k < 32 → σ (12 + 2 + j) k = σ 38 (32 * j + k)
def rV (σ : Nat → Nat → Int32) : Prop := (∀ c, c < 6 → σ 33 c = σ 39 c) ∧ (0 ≤ (σ 33 4).toInt ∧ (σ 33 4).toInt ≤ 16777215) ∧ (0 ≤ (σ 33 5).toInt ∧ (σ 33 5).toInt ≤ 16777215)
def rF (σ : Nat → Nat → Int32) : Prop := σ 0 6 = σ 35 5 ∧ σ 0 7 = σ 35 6 ∧ (σ 0 7 = 0 ∨ σ 0 7 = 1)
def rD (σ : Nat → Nat → Int32) : Prop := rng (σ 26 1) ∧ σ 35 11 = f_fanOf (σ 26 1) ∧ ∀ c, c < (σ 26 1).toNatClampNeg → (∀ k, k < 4 → σ (26 + 2 + c) k = σ 42 (4 * c + k)) ∧ (∀ k, 4 ≤ k → k < 32 → σ (26 + 2 + c) k = σ 40 (32 * c + k))
/-- the object and the reference tell the same -/
def RelW (σ : Nat → Nat → Int32) : Prop := σ 12 1 = 3 ∧ rM σ ∧ rA σ ∧ rC σ ∧ rV σ ∧ rF σ ∧ rD σ
theorem rel_0 : RelW σ0 := by
  refine ⟨rfl, ?_, ?_, ?_, ?_, ?_, ?_⟩
  · intro j _
    rw [← σ0_row (by decide) (by decide) (by decide) j, ← σ0_row (by decide) (by decide) (by decide) j]
  · intro n c hn _
    rw [← σ0_row (by omega) (by omega) (by omega) c, ← σ0_row (by decide) (by decide) (by decide)]
  · intro j k hj _
    rw [← σ0_row (by omega) (by omega) (by omega) k, ← σ0_row (by decide) (by decide) (by decide)]
  · refine ⟨fun c hc => ?_, ⟨by decide, by decide⟩, ⟨by decide, by decide⟩⟩
    rcases (by omega : c = 0 ∨ c = 1 ∨ c = 2 ∨ c = 3 ∨ c = 4 ∨ c = 5) with rfl | rfl | rfl | rfl | rfl | rfl <;> rfl
  · exact ⟨rfl, rfl, Or.inl rfl⟩
  · exact ⟨⟨by decide, by decide⟩, by decide, fun c hc => absurd hc (by rw [show (σ0 26 1) = 0 from rfl]; exact Nat.not_lt_zero c)⟩
/-- tables that agree in all that the relation speaks of -/
theorem rel_of {σ σ' : Nat → Nat → Int32} (h : RelW σ) (h1 : ∀ a, a ≠ 35 → σ' a = σ a) (h5 : σ' 35 5 = σ 35 5) (h6 : σ' 35 6 = σ 35 6) (h11 : σ' 35 11 = σ 35 11) : RelW σ' := by
  obtain ⟨a, b, c, d, e, f, g⟩ := h
  refine ⟨by rw [h1 12 (by decide)]; exact a, fun j hj => ?_, fun n k hn hk => ?_, fun j k hj hk => ?_, ?_, ?_, ?_⟩
  · rw [h1 2 (by decide), h1 36 (by decide)]; exact b j hj
  · rw [h1 (4 + n) (by omega), h1 37 (by decide)]; exact c n k hn hk
  · rw [h1 (12 + 2 + j) (by omega), h1 38 (by decide)]; exact d j k hj hk
  · unfold rV
    rw [h1 33 (by decide), h1 39 (by decide)]; exact e
  · unfold rF
    rw [h1 0 (by decide), h5, h6]; exact f
  · unfold rD
    rw [h1 26 (by decide), h11, h1 42 (by decide), h1 40 (by decide)]
    refine ⟨g.1, g.2.1, fun c hc => ?_⟩
    have hc5 := cl_le g.1
    rw [h1 (26 + 2 + c) (by omega)]
    exact g.2.2 c hc
theorem rel_thrown {σ : Nat → Nat → Int32} {v : Int32} (h : RelW σ) : RelW (w2 σ 35 0 v) :=
  rel_of h (fun a ha => w2_ne ha) (w2_off (by decide)) (w2_off (by decide)) (w2_off (by decide))
theorem in_0 {x y z : Int32} : f_in_ x y z = 0 ↔ (x < y ∨ z < x) := by
  unfold f_in_
  by_cases h1 : x < y
  · simp [h1]
  · by_cases h2 : z < x
    · simp [h2]
    · simp [h1, h2]
theorem bi {x y z : Int32} (h : y.toInt = z.toInt + 1) : f_isBelow x y = 0 ↔ f_in_ x 0 z = 0 := by
  have e : y ≤ x ↔ z < x := by
    rw [Int32.le_iff_toInt_le, Int32.lt_iff_toInt_lt]
    omega
  rw [isBelow_0, in_0, e]
theorem wi {x y z : Int32} : f_isWithin x y z = f_in_ x y z := rfl
theorem m_triangles : ∀ σ (a0 a1 : Int32), RelW σ → s_rtriangles (s_vtriangles σ a0 a1) a0 a1 35 0 = t_vtriangles σ a0 a1 ∧ (t_vtriangles σ a0 a1 = 0 → f_vtriangles σ a0 a1 = f_rtriangles (s_vtriangles σ a0 a1) a0 a1) ∧ RelW (s_rtriangles (s_vtriangles σ a0 a1) a0 a1) := by
  intro σ a0 a1 hR
  have sv : s_vtriangles σ a0 a1 = σ := by
    unfold s_vtriangles
    repeat' split
    all_goals rfl
  rw [sv]
  unfold t_vtriangles f_vtriangles s_rtriangles f_rtriangles f_fanOf
  by_cases h1 : f_in_ a0 0 2 = 0
  · have h1b : f_isBelow a0 3 = 0 := (bi rfl).mpr h1
    simp only [h1, h1b, if_true]
    exact ⟨w2_same, fun h => absurd h (by decide), rel_thrown hR⟩
  · have h1b : ¬ f_isBelow a0 3 = 0 := fun h => h1 ((bi rfl).mp h)
    simp only [h1, h1b, if_false]
    by_cases h2 : 0 ≤ a1
    · simp only [h2, if_true]
      by_cases h3 : a0 = 0
      · simp only [h3, if_true]
        exact ⟨w2_same, fun _ => by first | rfl | trivial, rel_thrown hR⟩
      · simp only [h3, if_false]
        split
        · exact ⟨w2_same, fun _ => by first | rfl | trivial, rel_thrown hR⟩
        · exact ⟨w2_same, fun _ => by first | rfl | trivial, rel_thrown hR⟩
    · simp only [h2, if_false]
      exact ⟨w2_same, fun h => absurd h (by decide), rel_thrown hR⟩
end RelA
