section MathB
/-- how far a corner lies inside -/
def cD (c : Nat → Int32) (x : Int32) : Int64 := if x = 0 then (c 2).toInt64 + (c 3).toInt64 else (c 3).toInt64 - 256
/-- the new corner between one inside and one outside -/
def cB (c e : Nat → Int32) (x : Int32) : Nat → Int32 := fun k => ((c k).toInt64 + f_down (((e k).toInt64 - (c k).toInt64) * f_down (65536 * cD c x) (cD c x - cD e x)) 65536).toInt32
theorem cD_0 (c : Nat → Int32) : (cD c 0).toInt = (c 2).toInt + (c 3).toInt := by
  unfold cD
  have a1 := Int32.toInt_lt (c 2)
  have a2 := Int32.le_toInt (c 2)
  have b1 := Int32.toInt_lt (c 3)
  have b2 := Int32.le_toInt (c 3)
  rw [if_pos rfl, Kit.i64_add (by rw [Int32.toInt_toInt64, Int32.toInt_toInt64]; omega) (by rw [Int32.toInt_toInt64, Int32.toInt_toInt64]; omega), Int32.toInt_toInt64, Int32.toInt_toInt64]
theorem cD_1 (c : Nat → Int32) {x : Int32} (hx : ¬ x = 0) : (cD c x).toInt = (c 3).toInt - 256 := by
  unfold cD
  have b1 := Int32.toInt_lt (c 3)
  have b2 := Int32.le_toInt (c 3)
  have l : (256 : Int64).toInt = 256 := by decide
  rw [if_neg hx, Kit.i64_sub (by rw [Int32.toInt_toInt64, l]; omega) (by rw [Int32.toInt_toInt64, l]; omega), Int32.toInt_toInt64, l]
theorem cD_b (c : Nat → Int32) (x : Int32) : -4294967296 ≤ (cD c x).toInt ∧ (cD c x).toInt ≤ 4294967296 := by
  have a1 := Int32.toInt_lt (c 2)
  have a2 := Int32.le_toInt (c 2)
  have b1 := Int32.toInt_lt (c 3)
  have b2 := Int32.le_toInt (c 3)
  by_cases hx : x = 0
  · subst hx
    rw [cD_0]
    omega
  · rw [cD_1 c hx]
    omega
/-- the share -/
theorem sh_eq {a b : Int64} (ha : 0 ≤ a.toInt ∧ a.toInt ≤ 4294967296) (hb : -4294967296 ≤ b.toInt ∧ b.toInt < 0) : (a - b).toInt = a.toInt - b.toInt ∧ (65536 * a).toInt = 65536 * a.toInt ∧ f_share a b = f_down (65536 * a) (a - b) ∧ (f_down (65536 * a) (a - b)).toInt = 65536 * a.toInt / (a.toInt - b.toInt) := by
  have l : (65536 : Int64).toInt = 65536 := by decide
  have l1 : (1 : Int64).toInt = 1 := by decide
  have e1 : (a - b).toInt = a.toInt - b.toInt := Kit.i64_sub (by omega) (by omega)
  have e2 : (65536 * a).toInt = 65536 * a.toInt := by rw [Kit.i64_mul (by rw [l]; omega) (by rw [l]; omega), l]
  refine ⟨e1, e2, ?_, ?_⟩
  · unfold f_share
    rw [if_neg (by rw [Int64.lt_iff_toInt_lt, e1, l1]; omega), fd_down (by omega)]
  · rw [down_int (by omega), e1, e2]
theorem sh_b {a b : Int} (ha : 0 ≤ a) (hb : b < 0) : 0 ≤ 65536 * a / (a - b) ∧ 65536 * a / (a - b) < 65536 ∧ 65536 * a / (a - b) * (a - b) ≤ 65536 * a :=
  ⟨Int.ediv_nonneg (by omega) (by omega), (Int.ediv_lt_iff_lt_mul (by omega)).mpr (by omega), Int.ediv_mul_le _ (by omega)⟩
/-- a number between two others -/
theorem bt_b {p q f : Int} (h0 : 0 ≤ f) (h1 : f < 65536) (hp : -2147483648 ≤ p ∧ p < 2147483648) (hq : -2147483648 ≤ q ∧ q < 2147483648) : -300000000000000 ≤ (q - p) * f ∧ (q - p) * f ≤ 300000000000000 ∧ (p ≤ q → p ≤ p + (q - p) * f / 65536 ∧ p + (q - p) * f / 65536 ≤ q) ∧ (q ≤ p → q ≤ p + (q - p) * f / 65536 ∧ p + (q - p) * f / 65536 ≤ p) := by
  rcases Int.le_total p q with h | h
  · have a1 : 0 ≤ (q - p) * f := Int.mul_nonneg (by omega) h0
    have a2 : (q - p) * f ≤ (q - p) * 65536 := Int.mul_le_mul_of_nonneg_left (by omega) (by omega)
    generalize (q - p) * f = t at a1 a2
    omega
  · have a1 : (q - p) * f ≤ 0 := Int.mul_nonpos_of_nonpos_of_nonneg (by omega) h0
    have a2 : (q - p) * 65536 ≤ (q - p) * f := Int.mul_le_mul_of_nonpos_left (by omega) (by omega)
    generalize (q - p) * f = t at a1 a2
    omega
theorem cB_int {c e : Nat → Int32} {x : Int32} (hc : 0 ≤ (cD c x).toInt) (he : (cD e x).toInt < 0) (k : Nat) : (cB c e x k).toInt = (c k).toInt + ((e k).toInt - (c k).toInt) * (65536 * (cD c x).toInt / ((cD c x).toInt - (cD e x).toInt)) / 65536 := by
  have b1 := cD_b c x
  have b2 := cD_b e x
  obtain ⟨s1, s2, s3, s4⟩ := sh_eq (a := cD c x) (b := cD e x) ⟨hc, b1.2⟩ ⟨b2.1, he⟩
  obtain ⟨t1, t2, t3⟩ := sh_b hc he
  have l : (65536 : Int64).toInt = 65536 := by decide
  have c1 := Int32.toInt_lt (c k)
  have c2 := Int32.le_toInt (c k)
  have e1 := Int32.toInt_lt (e k)
  have e2 := Int32.le_toInt (e k)
  obtain ⟨m1, m2, m3, m4⟩ := bt_b t1 t2 (p := (c k).toInt) (q := (e k).toInt) (by omega) (by omega)
  have d1 : ((e k).toInt64 - (c k).toInt64).toInt = (e k).toInt - (c k).toInt := by
    rw [Kit.i64_sub (by rw [Int32.toInt_toInt64, Int32.toInt_toInt64]; omega) (by rw [Int32.toInt_toInt64, Int32.toInt_toInt64]; omega), Int32.toInt_toInt64, Int32.toInt_toInt64]
  have d2 : (((e k).toInt64 - (c k).toInt64) * f_down (65536 * cD c x) (cD c x - cD e x)).toInt = ((e k).toInt - (c k).toInt) * (65536 * (cD c x).toInt / ((cD c x).toInt - (cD e x).toInt)) := by
    rw [Kit.i64_mul (by rw [d1, s4]; omega) (by rw [d1, s4]; omega), d1, s4]
  have d3 := down_int (x := ((e k).toInt64 - (c k).toInt64) * f_down (65536 * cD c x) (cD c x - cD e x)) (y := 65536) (by decide)
  rw [d2, l] at d3
  unfold cB
  have d4 : ((c k).toInt64 + f_down (((e k).toInt64 - (c k).toInt64) * f_down (65536 * cD c x) (cD c x - cD e x)) 65536).toInt = (c k).toInt + ((e k).toInt - (c k).toInt) * (65536 * (cD c x).toInt / ((cD c x).toInt - (cD e x).toInt)) / 65536 := by
    rw [Kit.i64_add (by rw [d3, Int32.toInt_toInt64]; omega) (by rw [d3, Int32.toInt_toInt64]; omega), d3, Int32.toInt_toInt64]
  rcases Int.le_total (c k).toInt (e k).toInt with h | h
  · have m5 := m3 h
    rw [Kit.i32_of_i64 (by rw [d4]; omega) (by rw [d4]; omega), d4]
  · have m5 := m4 h
    rw [Kit.i32_of_i64 (by rw [d4]; omega) (by rw [d4]; omega), d4]
/-- it lies between its ends -/
theorem cB_bt {c e : Nat → Int32} {x : Int32} (hc : 0 ≤ (cD c x).toInt) (he : (cD e x).toInt < 0) (k : Nat) : ((c k).toInt ≤ (cB c e x k).toInt ∧ (cB c e x k).toInt ≤ (e k).toInt) ∨ ((e k).toInt ≤ (cB c e x k).toInt ∧ (cB c e x k).toInt ≤ (c k).toInt) := by
  have c1 := Int32.toInt_lt (c k)
  have c2 := Int32.le_toInt (c k)
  have e1 := Int32.toInt_lt (e k)
  have e2 := Int32.le_toInt (e k)
  obtain ⟨t1, t2, t3⟩ := sh_b hc he
  obtain ⟨m1, m2, m3, m4⟩ := bt_b t1 t2 (p := (c k).toInt) (q := (e k).toInt) (by omega) (by omega)
  rw [cB_int hc he]
  rcases Int.le_total (c k).toInt (e k).toInt with h | h
  · exact Or.inl (m3 h)
  · exact Or.inr (m4 h)
/-- before the eye it lies at least at 256 -/
theorem cB_w {c e : Nat → Int32} {x : Int32} (hx : ¬ x = 0) (hc : 0 ≤ (cD c x).toInt) (he : (cD e x).toInt < 0) : 256 ≤ (cB c e x 3).toInt := by
  obtain ⟨t1, t2, t3⟩ := sh_b hc he
  rw [cB_int hc he]
  rw [cD_1 c hx] at t1 t2 t3 ⊢
  rw [cD_1 e hx] at t1 t2 t3 ⊢
  have q : (c 3).toInt - 256 - ((e 3).toInt - 256) = (c 3).toInt - (e 3).toInt := by omega
  rw [q] at t1 t2 t3 ⊢
  generalize 65536 * ((c 3).toInt - 256) / ((c 3).toInt - (e 3).toInt) = f at t1 t2 t3
  have z : ((e 3).toInt - (c 3).toInt) * f = -(f * ((c 3).toInt - (e 3).toInt)) := by rw [Int.mul_comm f, ← Int.neg_mul]; congr 1; omega
  rw [z]
  generalize f * ((c 3).toInt - (e 3).toInt) = t at t3
  omega
end MathB
