section LayM
theorem clamp_eq {v lo hi : Int64} (hlh : lo.toInt ≤ hi.toInt) : (if (if v < hi then v else hi) < lo then lo else (if v < hi then v else hi)).toInt32 = if 0 ≤ lg_cmp v lo then (if lg_cmp v hi ≤ 0 then v.toInt32 else hi.toInt32) else lo.toInt32 := by
  by_cases h1 : v < lo
  · have h2 : ¬ 0 ≤ lg_cmp v lo := by rw [lg_cmp_ge, Int64.not_le]; exact h1
    rw [if_neg h2]
    rw [Int64.lt_iff_toInt_lt] at h1
    by_cases h3 : v < hi
    · rw [if_pos h3, if_pos (by rw [Int64.lt_iff_toInt_lt]; exact h1)]
    · rw [Int64.lt_iff_toInt_lt] at h3
      omega
  · have h2 : 0 ≤ lg_cmp v lo := by rw [lg_cmp_ge]; exact Int64.not_lt.mp h1
    rw [if_pos h2]
    by_cases h3 : v < hi
    · rw [if_pos h3, if_neg h1, if_pos (by rw [lg_cmp_le, Int64.le_iff_toInt_le]; rw [Int64.lt_iff_toInt_lt] at h3; omega)]
    · rw [if_neg h3, if_neg (by rw [Int64.lt_iff_toInt_lt]; omega)]
      by_cases h4 : lg_cmp v hi ≤ 0
      · rw [if_pos h4]
        rw [lg_cmp_le, Int64.le_iff_toInt_le] at h4
        rw [Int64.lt_iff_toInt_lt] at h3
        rw [show v = hi from Int64.toInt_inj.mp (by omega)]
      · rw [if_neg h4]
theorem w_pos {w : Int32} (h : 256 ≤ w.toInt) : 0 < w.toInt64.toInt := by rw [Int32.toInt_toInt64]; omega
theorem lay_eq {x w c h : Int32} (hw : 256 ≤ w.toInt) : (f_sixteenths (f_towards x w.toInt64) c h).toInt32 = f_rlay x w c h := by
  unfold f_sixteenths f_towards f_rlay
  rw [fd_down (w_pos hw), fd_down (y := 8192) (by decide)]
  exact clamp_eq (by decide)
theorem sub64 {u z : Int32} (hu : 0 ≤ u.toInt ∧ u.toInt ≤ 16777215) (hz : 0 ≤ z.toInt ∧ z.toInt ≤ 16777215) : (u - z).toInt64 = u.toInt64 - z.toInt64 := by
  apply Int64.toInt_inj.mp
  rw [Int32.toInt_toInt64, Kit.i64_sub (by rw [Int32.toInt_toInt64, Int32.toInt_toInt64]; omega) (by rw [Int32.toInt_toInt64, Int32.toInt_toInt64]; omega), Int32.toInt_toInt64, Int32.toInt_toInt64, Int32.toInt_sub, Int.bmod_def]
  omega
theorem depth_eq {σ : Nat → Nat → Int32} {x w : Int32} (hw : 256 ≤ w.toInt) (h4 : 0 ≤ (σ 33 4).toInt ∧ (σ 33 4).toInt ≤ 16777215) (h5 : 0 ≤ (σ 33 5).toInt ∧ (σ 33 5).toInt ≤ 16777215) : (f_depth σ (f_towards x w.toInt64)).toInt32 = f_depthOf x w (σ 33 4) (σ 33 5) := by
  have F : ∀ x, f_floorDiv x 131072 = f_down x 131072 := fun x => fd_down (by decide)
  have M : ∀ x, f_floorMod x 131072 = x - f_down x 131072 * 131072 := fun x => fm_down (by decide)
  unfold f_depth f_towards f_depthOf
  simp only [F, M]
  rw [fd_down (w_pos hw), sub64 h5 h4]
  exact clamp_eq (by decide)
theorem q_eq {w : Int32} (hw : 256 ≤ w.toInt) : (if (1073741824 / w.toInt64) < (1 : Int64) then (1 : Int64) else (1073741824 / w.toInt64)).toInt32 = if (1 : Int32) ≤ 1073741824 / w then 1073741824 / w else 1 := by
  have e1 : ((1073741824 : Int64) / w.toInt64).toInt = (1073741824 : Int).tdiv w.toInt := by
    rw [Kit.i64_div (by rw [Int32.toInt_toInt64]; omega), Int32.toInt_toInt64]
    rfl
  have e2 : ((1073741824 : Int32) / w).toInt = (1073741824 : Int).tdiv w.toInt := by
    rw [Kit.i32_div (by omega)]
    rfl
  have l1 : (1 : Int64).toInt = 1 := by decide
  have l2 : (1 : Int32).toInt = 1 := by decide
  by_cases h : (1 : Int32) ≤ 1073741824 / w
  · rw [if_pos h]
    rw [Int32.le_iff_toInt_le, e2, l2] at h
    rw [if_neg (by rw [Int64.lt_iff_toInt_lt, e1, l1]; omega)]
    apply Int32.toInt_inj.mp
    have b1 := Int32.le_toInt (1073741824 / w)
    have b2 := Int32.toInt_lt (1073741824 / w)
    rw [e2] at b1 b2
    rw [Kit.i32_of_i64 (by rw [e1]; exact b1) (by rw [e1]; exact b2), e1, e2]
  · rw [if_neg h]
    rw [Int32.le_iff_toInt_le, e2, l2] at h
    rw [if_pos (by rw [Int64.lt_iff_toInt_lt, e1, l1]; omega)]
    rfl
/-- a corner laid on the screen -/
def layC (V c : Nat → Int32) : Nat → Int32 := fun k => if k = 0 then f_rlay (c 0) (c 3) (V 0) (V 2) else if k = 1 then f_rlay (c 1) (c 3) (V 1) (V 3) else if k = 2 then f_depthOf (c 2) (c 3) (V 4) (V 5) else if k = 3 then (if (1 : Int32) ≤ 1073741824 / c 3 then 1073741824 / c 3 else 1) else c k
theorem mx_id {w : Int32} (hw : 256 ≤ w.toInt) : (if (256 : Int32) < w then w else (256 : Int32)) = w := by
  by_cases h : (256 : Int32) < w
  · rw [if_pos h]
  · rw [if_neg h]
    rw [Int32.lt_iff_toInt_lt] at h
    have l : (256 : Int32).toInt = 256 := by decide
    exact Int32.toInt_inj.mp (by omega)
theorem depth_c {σ σ' : Nat → Nat → Int32} (h : σ' 33 = σ 33) (t : Int64) : f_depth σ' t = f_depth σ t := by
  unfold f_depth
  rw [h]
theorem slay_at {σ : Nat → Nat → Int32} {i : Nat} {c : Nat → Int32} (h33 : i ≠ 33) (hc : ∀ k, k < 32 → σ i k = c k) (hw : 256 ≤ (c 3).toInt) (h4 : 0 ≤ (σ 33 4).toInt ∧ (σ 33 4).toInt ≤ 16777215) (h5 : 0 ≤ (σ 33 5).toInt ∧ (σ 33 5).toInt ≤ 16777215) : ∀ k, k < 32 → s_slay σ i i k = layC (σ 33) c k := by
  have n0 : (0 : Int32).toNatClampNeg = 0 := by decide
  have n1 : (1 : Int32).toNatClampNeg = 1 := by decide
  have n2 : (2 : Int32).toNatClampNeg = 2 := by decide
  have n3 : (3 : Int32).toNatClampNeg = 3 := by decide
  have h33' : 33 ≠ i := fun e => h33 e.symm
  intro k hk
  unfold s_slay layC
  rw [n0, n1, n2, n3, hc 3 (by decide), mx_id hw, hc 0 (by decide), lay_eq hw, q_eq hw]
  by_cases k3 : k = 3
  · subst k3
    rw [w2_same, if_neg (by decide : ¬ (3 : Nat) = 0), if_neg (by decide : ¬ (3 : Nat) = 1), if_neg (by decide : ¬ (3 : Nat) = 2), if_pos (rfl : (3 : Nat) = 3)]
  rw [w2_off k3]
  by_cases k2 : k = 2
  · subst k2
    rw [w2_same, if_neg (by decide), if_neg (by decide), if_pos rfl, w2_off (by decide), w2_off (by decide), w2_off (by decide), hc 2 (by decide), depth_c (σ := σ) (by rw [w2_ne h33', w2_ne h33']), depth_eq hw h4 h5]
  rw [w2_off k2]
  by_cases k1 : k = 1
  · subst k1
    rw [w2_same, if_neg (by decide), if_pos rfl, w2_off (by decide), hc 1 (by decide), w2_ne h33', lay_eq hw]
  rw [w2_off k1]
  by_cases k0 : k = 0
  · subst k0
    rw [w2_same, if_pos rfl]
  rw [w2_off k0, if_neg k0, if_neg k1, if_neg k2, if_neg k3]
  exact hc k hk
theorem mk_h {σ : Nat → Nat → Int32} {p : Pg} (hp : hV (L_mk σ 0) 26 p) (p5 : p.1 ≤ 5) (hw : ∀ i, i < p.1 → 256 ≤ (p.2 i 3).toInt) (h4 : 0 ≤ (L_mk σ 0 33 4).toInt ∧ (L_mk σ 0 33 4).toInt ≤ 16777215) (h5 : 0 ≤ (L_mk σ 0 33 5).toInt ∧ (L_mk σ 0 33 5).toInt ≤ 16777215) : ∀ k, k ≤ p.1 → (∀ i, i < k → ∀ m, m < 32 → L_mk σ k (26 + 2 + i) m = layC (L_mk σ 0 33) (p.2 i) m) ∧ (∀ a, (∀ i, i < k → a ≠ 26 + 2 + i) → L_mk σ k a = L_mk σ 0 a) := by
  intro k
  induction k with
  | zero => intro _; exact ⟨fun i hi => absurd hi (Nat.not_lt_zero i), fun a _ => rfl⟩
  | succ k ih =>
    intro hk
    obtain ⟨i1, i2⟩ := ih (by omega)
    have e33 : L_mk σ k 33 = L_mk σ 0 33 := i2 33 (by intro i hi; omega)
    have e : L_mk σ (k + 1) = s_slay (L_mk σ k) (26 + 2 + k) := by
      show B_mk σ (L_mk σ k) (nI k) = _
      unfold B_mk
      rw [nI_clamp (by omega)]
    rw [e]
    refine ⟨fun i hi m hm => ?_, fun a ha => ?_⟩
    · by_cases q : i = k
      · subst q
        rw [slay_at (c := p.2 i) (by omega) (fun m hm => by rw [i2 _ (by intro j hj; omega)]; exact hp.2 i m (by omega) hm) (hw i (by omega)) (by rw [e33]; exact h4) (by rw [e33]; exact h5) m hm, e33]
      · rw [slay_ne (by omega)]
        exact i1 i (by omega) m hm
    · rw [slay_ne (ha k (by omega))]
      exact i2 a (fun i hi => ha i (by omega))
end LayM
