section RelF
theorem ush_half (x : Int32) {n : Nat} (hn : n ≤ 16) : (x.toUInt32 >>> ((nI n).toUInt32 &&& Int32.toUInt32 31)).toInt32 &&& 65535 = (x >>> (nI n &&& 31)) &&& 65535 := by
  refine b_ext fun i hi => ?_
  rw [b_and, b_and, b_65535, b_ushr n (by omega), b_sshr n (by omega) x hi]
  by_cases h : i < 16
  · rw [if_pos (by omega)]
  · rw [decide_eq_false h, Bool.and_false, Bool.and_false]
theorem ush_oct (x : Int32) {n : Nat} (hn : n ≤ 24) : (x.toUInt32 >>> ((nI n).toUInt32 &&& Int32.toUInt32 31)).toInt32 &&& 255 = (x >>> (nI n &&& 31)) &&& 255 := by
  refine b_ext fun i hi => ?_
  rw [b_and, b_and, b_255, b_ushr n (by omega), b_sshr n (by omega) x hi]
  by_cases h : i < 8
  · rw [if_pos (by omega)]
  · rw [decide_eq_false h, Bool.and_false, Bool.and_false]
theorem half_eq {σ : Nat → Nat → Int32} (h : rM σ) {v : Int32} (w : Int64) {k : Int32} (hk : ¬ k < 0) : f_half σ w k = f_halfAt (w2 σ 35 0 v) (w + (k / 2).toInt64) (k - k / 2 * 2) := by
  obtain ⟨n, hn, e⟩ := nI_of hk
  unfold f_half f_halfAt
  have e1 : k - k / 2 * 2 = nI (n % 2) := by rw [e]; exact pk_rem hn (by decide) (by decide)
  have e2 : 16 * nI (n % 2) = nI (16 * (n % 2)) := pk_mul 16 _
  rw [wordAt_t, at_word h, e1, e2]
  exact ush_half _ (by omega)
theorem oct_eq {σ : Nat → Nat → Int32} (h : rM σ) {v : Int32} (w : Int64) {n : Nat} (hn : n ≤ 3) : f_octet σ w (nI n) = f_byteAt (w2 σ 35 0 v) w (nI n) := by
  unfold f_octet f_byteAt
  have e2 : 8 * nI n = nI (8 * n) := pk_mul 8 _
  rw [wordAt_t, at_word h, e2]
  exact ush_oct _ (by omega)
theorem and_b (y : Int32) {m : Int32} {n : Nat} (hm : m.toBitVec.toNat = n) (hn : n < 2 ^ 31) : 0 ≤ (y &&& m).toInt ∧ (y &&& m).toInt ≤ (n : Int) := by
  have h1 : (y &&& m).toBitVec.toNat ≤ n := by
    rw [Int32.toBitVec_and, BitVec.toNat_and, ← hm]
    exact Nat.and_le_right
  have h2 : (y &&& m).toInt = ((y &&& m).toBitVec.toNat : Int) := by
    show (y &&& m).toBitVec.toInt = _
    rw [BitVec.toInt_eq_toNat_of_lt (by omega)]
  omega
theorem sg_half (y : Int32) : (y &&& 65535).toInt16.toInt32 * 256 = if (y &&& 65535) ≤ 32767 then 256 * (y &&& 65535) else 256 * ((y &&& 65535) - 65536) := by
  have b := and_b y (m := 65535) (n := 65535) (by decide) (by decide)
  generalize (y &&& 65535) = h at b
  have l1 : (32767 : Int32).toInt = 32767 := by decide
  have l2 : (65536 : Int32).toInt = 65536 := by decide
  by_cases c : h ≤ 32767
  · rw [if_pos c]
    rw [Int32.le_iff_toInt_le, l1] at c
    have e : h.toInt16.toInt32 = h := by
      apply Int32.toInt_inj.mp
      rw [lg_i2s_toInt]
      exact Int.bmod_eq_of_le (by omega) (by omega)
    rw [e, Int32.mul_comm]
  · rw [if_neg c]
    rw [Int32.le_iff_toInt_le, l1] at c
    have e : h.toInt16.toInt32 = h - 65536 := by
      apply Int32.toInt_inj.mp
      rw [lg_i2s_toInt, Int32.toInt_sub, l2, Int.bmod_def, Int.bmod_def]
      omega
    rw [e, Int32.mul_comm]
theorem sg_oct (y : Int32) : (y &&& 255).toInt8.toInt32 * 65536 = if (y &&& 255) ≤ 127 then 65536 * (y &&& 255) else 65536 * ((y &&& 255) - 256) := by
  have b := and_b y (m := 255) (n := 255) (by decide) (by decide)
  generalize (y &&& 255) = h at b
  have l1 : (127 : Int32).toInt = 127 := by decide
  have l2 : (256 : Int32).toInt = 256 := by decide
  by_cases c : h ≤ 127
  · rw [if_pos c]
    rw [Int32.le_iff_toInt_le, l1] at c
    have e : h.toInt8.toInt32 = h := by
      apply Int32.toInt_inj.mp
      rw [lg_i2b_toInt]
      exact Int.bmod_eq_of_le (by omega) (by omega)
    rw [e, Int32.mul_comm]
  · rw [if_neg c]
    rw [Int32.le_iff_toInt_le, l1] at c
    have e : h.toInt8.toInt32 = h - 256 := by
      apply Int32.toInt_inj.mp
      rw [lg_i2b_toInt, Int32.toInt_sub, l2, Int.bmod_def, Int.bmod_def]
      omega
    rw [e, Int32.mul_comm]
theorem sgh {σ : Nat → Nat → Int32} (w : Int64) (k : Int32) : (f_halfAt σ w k).toInt16.toInt32 * 256 = if f_halfAt σ w k ≤ 32767 then 256 * f_halfAt σ w k else 256 * (f_halfAt σ w k - 65536) := by
  unfold f_halfAt
  exact sg_half _
theorem sgo {σ : Nat → Nat → Int32} (w : Int64) (k : Int32) : (f_byteAt σ w k).toInt8.toInt32 * 65536 = if f_byteAt σ w k ≤ 127 then 65536 * f_byteAt σ w k else 65536 * (f_byteAt σ w k - 256) := by
  unfold f_byteAt
  exact sg_oct _
theorem m_index : ∀ σ (a0 a1 a2 : Int32), RelW σ → s_rindex (s_vindex σ a0 a1 a2) a0 a1 a2 35 0 = t_vindex σ a0 a1 a2 ∧ (t_vindex σ a0 a1 a2 = 0 → f_vindex σ a0 a1 a2 = f_rindex (s_vindex σ a0 a1 a2) a0 a1 a2) ∧ RelW (s_rindex (s_vindex σ a0 a1 a2) a0 a1 a2) := by
  intro σ a0 a1 a2 hR
  have sv : s_vindex σ a0 a1 a2 = σ := by
    unfold s_vindex
    repeat' split
    all_goals rfl
  rw [sv]
  have bad : s_rindex σ a0 a1 a2 = w2 σ 35 0 1 → t_vindex σ a0 a1 a2 = 1 → s_rindex σ a0 a1 a2 35 0 = t_vindex σ a0 a1 a2 ∧ (t_vindex σ a0 a1 a2 = 0 → f_vindex σ a0 a1 a2 = f_rindex σ a0 a1 a2) ∧ RelW (s_rindex σ a0 a1 a2) := by
    intro e1 e2
    rw [e1, e2]
    exact ⟨w2_same, fun h => absurd h (by decide), rel_thrown hR⟩
  by_cases h2 : a1 < 0
  · exact bad (by unfold s_rindex; rw [if_pos h2]) (by unfold t_vindex; split; rfl; rfl)
  by_cases h3 : a2 < 0
  · have h3b : ¬ 0 ≤ a2 := Int32.not_le.mpr h3
    exact bad (by unfold s_rindex; rw [if_neg h2, if_pos h3]) (by unfold t_vindex; rw [if_neg h2, if_neg h3b]; split; rfl; rfl)
  have h3b : 0 ≤ a2 := Int32.not_lt.mp h3
  by_cases h1 : f_in_ a0 0 2 = 0
  · have h1b : f_isBelow a0 3 = 0 := (bi rfl).mpr h1
    exact bad (by unfold s_rindex; rw [if_neg h2, if_neg h3, if_pos h1]) (by unfold t_vindex; rw [if_pos h1b])
  have h1b : ¬ f_isBelow a0 3 = 0 := fun h => h1 ((bi rfl).mp h)
  have e1 : s_rindex σ a0 a1 a2 = w2 σ 35 0 0 := by
    unfold s_rindex
    rw [if_neg h2, if_neg h3, if_neg h1]
    repeat' split
    all_goals rfl
  have e2 : t_vindex σ a0 a1 a2 = 0 := by
    unfold t_vindex
    rw [if_neg h1b, if_neg h2, if_pos h3b]
    repeat' split
    all_goals rfl
  rw [e1, e2]
  refine ⟨w2_same, fun _ => ?_, rel_thrown hR⟩
  have hM := hR.2.1
  obtain ⟨n, hn, en⟩ := nI_of h3
  have er : a2 - a2 / 4 * 4 = nI (n % 4) := by rw [en]; exact pk_rem hn (by decide) (by decide)
  unfold f_vindex f_rindex
  rw [if_neg h1b, if_neg h2, if_pos h3b, if_neg h2, if_neg h3, if_neg h1, wordAt_t, ← half_eq hM _ h3, at_word hM, er, oct_eq hM _ (by omega)]
theorem m_fetch : ∀ σ (a0 a1 a2 : Int32), RelW σ → s_rfetch (s_vfetch σ a0 a1 a2) a0 a1 a2 35 0 = t_vfetch σ a0 a1 a2 ∧ (t_vfetch σ a0 a1 a2 = 0 → f_vfetch σ a0 a1 a2 = f_rfetch (s_vfetch σ a0 a1 a2) a0 a1 a2) ∧ RelW (s_rfetch (s_vfetch σ a0 a1 a2) a0 a1 a2) := by
  intro σ a0 a1 a2 hR
  have sv : s_vfetch σ a0 a1 a2 = σ := by
    unfold s_vfetch
    repeat' split
    all_goals rfl
  rw [sv]
  have bad : s_rfetch σ a0 a1 a2 = w2 σ 35 0 1 → t_vfetch σ a0 a1 a2 = 1 → s_rfetch σ a0 a1 a2 35 0 = t_vfetch σ a0 a1 a2 ∧ (t_vfetch σ a0 a1 a2 = 0 → f_vfetch σ a0 a1 a2 = f_rfetch σ a0 a1 a2) ∧ RelW (s_rfetch σ a0 a1 a2) := by
    intro e1 e2
    rw [e1, e2]
    exact ⟨w2_same, fun h => absurd h (by decide), rel_thrown hR⟩
  by_cases h1 : f_in_ a0 0 7 = 0
  · have h1b : f_isBelow a0 8 = 0 := (bi rfl).mpr h1
    exact bad (by unfold s_rfetch; rw [if_pos h1]) (by unfold t_vfetch; rw [if_pos h1b])
  have h1b : ¬ f_isBelow a0 8 = 0 := fun h => h1 ((bi rfl).mp h)
  by_cases h2 : f_in_ a2 0 3 = 0
  · have h2b : f_isBelow a2 4 = 0 := (bi rfl).mpr h2
    exact bad (by unfold s_rfetch; rw [if_neg h1, if_pos h2]) (by unfold t_vfetch; rw [if_neg h1b, if_pos h2b])
  have h2b : ¬ f_isBelow a2 4 = 0 := fun h => h2 ((bi rfl).mp h)
  by_cases h3 : 0 ≤ a1
  rotate_left
  · exact bad (by unfold s_rfetch; rw [if_neg h1, if_neg h2, if_neg h3]) (by unfold t_vfetch; rw [if_neg h1b, if_neg h2b, if_neg h3])
  have e1 : s_rfetch σ a0 a1 a2 = w2 σ 35 0 0 := by
    unfold s_rfetch
    rw [if_neg h1, if_neg h2, if_pos h3]
    repeat' split
    all_goals rfl
  have e2 : t_vfetch σ a0 a1 a2 = 0 := by
    unfold t_vfetch
    rw [if_neg h1b, if_neg h2b, if_pos h3]
  rw [e1, e2]
  refine ⟨w2_same, fun _ => ?_, rel_thrown hR⟩
  have hM := hR.2.1
  have hA := hR.2.2.1
  obtain ⟨j, hj, e0⟩ := in_nat (n := 7) rfl h1
  obtain ⟨k, hk, ek⟩ := in_nat (n := 3) rfl h2
  obtain ⟨i0, i1, i2, i3, i4⟩ := ix8 j (by omega)
  have hk0 : ¬ a2 < 0 := by rw [ek]; exact nI_pos (by omega)
  unfold f_vfetch f_rfetch
  rw [if_neg h1b, if_neg h2b, if_pos h3, if_neg h1, if_neg h2, if_pos h3]
  unfold f_read
  rw [e0, i0, i1, i2, i3, i4, show (w2 σ 35 0 0) 37 = σ 37 from w2_ne (by decide), show σ (4 + j) 0 = σ 37 (4 * j) from hA j 0 (by omega) (by decide), hA j 1 (by omega) (by decide), hA j 2 (by omega) (by decide), hA j 3 (by omega) (by decide), wordAt_t, at_word hM, half_eq hM (v := 0) _ hk0, sgh, ek, oct_eq hM (v := 0) _ hk, sgo]
end RelF
