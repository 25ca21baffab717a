section MathA
theorem mx_sgn (x y : Int64) (hy : 0 < y.toInt) : (x ^^^ y) < 0 ↔ x.toInt < 0 := by
  rw [Int64.lt_iff_toInt_lt]
  have h0 : (0 : Int64).toInt = 0 := by decide
  rw [h0]
  have h1 := BitVec.msb_xor (x := x.toBitVec) (y := y.toBitVec)
  rw [BitVec.msb_eq_toInt, BitVec.msb_eq_toInt, BitVec.msb_eq_toInt] at h1
  have hy1 : y.toBitVec.toInt = y.toInt := rfl
  have hy2 : decide (y.toBitVec.toInt < 0) = false := decide_eq_false (by omega)
  rw [hy2, Bool.xor_false] at h1
  exact decide_eq_decide.mp h1
theorem mx_q {x y : Int64} (hy : 0 < y.toInt) : (x / y).toInt = x.toInt.tdiv y.toInt := Kit.i64_div (by omega)
theorem mx_tm {a b : Int} (hb : 0 < b) : a.tdiv b * b + a.tmod b = a ∧ -b < a.tmod b ∧ a.tmod b < b ∧ (0 ≤ a → 0 ≤ a.tmod b) ∧ (a < 0 → a.tmod b ≤ 0) := by
  have h1 := Int.mul_tdiv_add_tmod a b
  rw [Int.mul_comm] at h1
  have h2 : a.tmod b < b := Int.tmod_lt_of_pos a hb
  have h3 : (-a).tmod b < b := Int.tmod_lt_of_pos (-a) hb
  rw [Int.neg_tmod] at h3
  refine ⟨h1, by omega, h2, fun h => Int.tmod_nonneg b h, fun h => ?_⟩
  have := Int.tmod_nonneg (a := -a) b (by omega)
  rw [Int.neg_tmod] at this
  omega
theorem mx_qy {x y : Int64} (hy : 0 < y.toInt) : (x / y * y).toInt = x.toInt.tdiv y.toInt * y.toInt := by
  have h1 := Int64.le_toInt x
  have h2 := Int64.toInt_lt x
  have h2y := Int64.toInt_lt y
  have hq := mx_q (x := x) hy
  obtain ⟨h3, h4, h5, h6, h7⟩ := mx_tm (a := x.toInt) hy
  rcases Int.lt_or_le x.toInt 0 with hn | hn
  · have h8 := h7 hn
    rw [Kit.i64_mul (by rw [hq]; omega) (by rw [hq]; omega), hq]
  · have h8 := h6 hn
    rw [Kit.i64_mul (by rw [hq]; omega) (by rw [hq]; omega), hq]
theorem fd_down {x y : Int64} (hy : 0 < y.toInt) : f_floorDiv x y = f_down x y := by
  unfold f_floorDiv f_down
  have hs := mx_sgn x y hy
  have hqy := mx_qy (x := x) hy
  obtain ⟨h3, h4, h5, h6, h7⟩ := mx_tm (a := x.toInt) hy
  by_cases hn : x.toInt < 0
  · rw [if_neg (by rw [lg_cmp_ge, ← Int64.not_lt]; exact fun h => h (hs.mpr hn))]
    have h8 := h7 hn
    by_cases hz : lg_cmp (x / y * y) x = 0
    · rw [if_pos hz]
      rw [lg_cmp_eq] at hz
      rw [if_pos (by rw [lg_cmp_le, hz]; exact Int64.le_refl x)]
    · rw [if_neg hz]
      rw [lg_cmp_eq] at hz
      have hz2 : ¬ (x / y * y).toInt = x.toInt := fun h => hz (Int64.toInt_inj.mp h)
      rw [if_neg (by rw [lg_cmp_le, Int64.le_iff_toInt_le]; omega)]
  · rw [if_pos (by rw [lg_cmp_ge, ← Int64.not_lt]; exact fun h => hn (hs.mp h)), if_pos (by rw [lg_cmp_le, Int64.le_iff_toInt_le]; have h8 := h6 (by omega); omega)]
theorem down_int {x y : Int64} (hy : 0 < y.toInt) : (f_down x y).toInt = x.toInt / y.toInt := by
  unfold f_down
  obtain ⟨h3, h4, h5, h6, h7⟩ := mx_tm (a := x.toInt) hy
  have h1 := Int64.le_toInt x
  have h2 := Int64.toInt_lt x
  by_cases c : x.toInt.tdiv y.toInt * y.toInt ≤ x.toInt
  · rw [if_pos (by rw [lg_cmp_le, Int64.le_iff_toInt_le, mx_qy hy]; exact c), mx_q hy]
    exact (((Int.ediv_emod_unique (a := x.toInt) (r := x.toInt.tmod y.toInt) (q := x.toInt.tdiv y.toInt) hy).mpr ⟨by rw [Int.mul_comm]; omega, by omega, by omega⟩).1).symm
  · rw [if_neg (by rw [lg_cmp_le, Int64.le_iff_toInt_le, mx_qy hy]; exact c)]
    have l1 : (1 : Int64).toInt = 1 := by decide
    have hq0 : x.toInt.tdiv y.toInt ≤ 0 := by
      rcases Int.lt_or_le 0 (x.toInt.tdiv y.toInt) with h | h
      · have hx : x.toInt < 0 := by omega
        have : 1 * y.toInt ≤ x.toInt.tdiv y.toInt * y.toInt := Int.mul_le_mul_of_nonneg_right (by omega) (by omega)
        omega
      · exact h
    have hq1 : x.toInt.tdiv y.toInt * y.toInt ≤ x.toInt.tdiv y.toInt * 1 := Int.mul_le_mul_of_nonpos_left hq0 (by omega)
    rw [Kit.i64_sub (by rw [mx_q hy, l1]; omega) (by rw [mx_q hy, l1]; omega), mx_q hy, l1]
    have e2 : y.toInt * (x.toInt.tdiv y.toInt - 1) = x.toInt.tdiv y.toInt * y.toInt - y.toInt := by rw [Int.mul_sub, Int.mul_one, Int.mul_comm]
    exact (((Int.ediv_emod_unique (a := x.toInt) (r := x.toInt.tmod y.toInt + y.toInt) (q := x.toInt.tdiv y.toInt - 1) hy).mpr ⟨by rw [e2]; omega, by omega, by omega⟩).1).symm
theorem fm_down {x y : Int64} (hy : 0 < y.toInt) : f_floorMod x y = x - f_down x y * y := by
  unfold f_floorMod f_down
  have hs := mx_sgn x y hy
  have hqy := mx_qy (x := x) hy
  obtain ⟨h3, h4, h5, h6, h7⟩ := mx_tm (a := x.toInt) hy
  by_cases hn : x.toInt < 0
  · rw [if_neg (by rw [lg_cmp_ge, ← Int64.not_lt]; exact fun h => h (hs.mpr hn))]
    have h8 := h7 hn
    have hd : (x - x / y * y).toInt = x.toInt - x.toInt.tdiv y.toInt * y.toInt := by
      have h1 := Int64.le_toInt x
      have h2 := Int64.toInt_lt y
      rw [Kit.i64_sub (by rw [hqy]; omega) (by rw [hqy]; omega), hqy]
    have l0 : (0 : Int64).toInt = 0 := by decide
    by_cases hz : lg_cmp (x - x / y * y) 0 = 0
    · rw [if_pos hz]
      rw [lg_cmp_eq] at hz
      rw [hz, l0] at hd
      rw [if_pos (by rw [lg_cmp_le, Int64.le_iff_toInt_le]; omega)]
    · rw [if_neg hz]
      rw [lg_cmp_eq] at hz
      have hz2 : ¬ (x - x / y * y).toInt = 0 := fun h => hz (Int64.toInt_inj.mp (by rw [h, l0]))
      rw [if_neg (by rw [lg_cmp_le, Int64.le_iff_toInt_le]; omega)]
      grind
  · rw [if_pos (by rw [lg_cmp_ge, ← Int64.not_lt]; exact fun h => hn (hs.mp h)), if_pos (by rw [lg_cmp_le, Int64.le_iff_toInt_le]; have h8 := h6 (by omega); omega)]
end MathA
