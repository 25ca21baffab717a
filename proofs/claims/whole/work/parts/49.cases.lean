theorem uo_vword {σ : Nat → Nat → Int32} {τ : Nat → Nat → Int64} {a0 a1 : Int32} (h : t_vword σ a0 a1 = 0) : u_vword σ τ a0 a1 34 (0 : Int32).toNatClampNeg = (f_vword σ a0 a1).toInt64 := by
  unfold u_vword
  rw [if_pos h, wl2_row]
  exact pk_uLs
set_option maxHeartbeats 800000 in
set_option maxRecDepth 100000 in
theorem lc_word {p : Program} {l : Launch} {e : Env} {s : State} {m : MethodId} {below : List Frame} {meth : Method} {c : Code} {b L : Nat} {xs : Nat → Int32} {D : va_G} {cs : Nat → ClassId} {ad : Nat → Nat} {Q : State → Prop} (C0 : lC p l s m meth c b L xs D cs ad) (Rel : (Nat → Nat → Int32) → Prop) (hF : ∀ σ (a0 a1 : Int32), Rel σ → s_rword (s_vword σ a0 a1) a0 a1 35 0 = t_vword σ a0 a1 ∧ (t_vword σ a0 a1 = 0 → f_vword σ a0 a1 = f_rword (s_vword σ a0 a1) a0 a1) ∧ Rel (s_rword (s_vword σ a0 a1) a0 a1))  {σ : Nat → Nat → Int32} {τ : Nat → Nat → Int64} {H : Heap} {locs : List Loc} {cells slots : Nat} {v : Int32} {ls : Array Slot} (hR : Rel σ) (hP : va_P D vwCl (gW cs ad σ τ) H) (hS : va_S (fun q => s.heap.size ≤ q) s.heap H locs) (hc9 : cells + 10 ≤ 601024) (hs9 : slots + 100 ≤ 7293034) (hv : 0 ≤ v.toInt ∧ v.toInt + 7 ≤ (L : Int) ∧ L ≤ 3584) (hl : lv_has ls 8 [(0, .ref b), (1, .ref (ad 0)), (2, .ref (ad 35)), (3, .ref (ad 34)), (4, .int v)]) (K : ∀ (σ9 : Nat → Nat → Int32) (τ9 : Nat → Nat → Int64) (H9 : Heap) (locs9 : List Loc) (cells9 slots9 : Nat) (ls9 : Array Slot), Rel σ9 → va_P D vwCl (gW cs ad σ9 τ9) H9 → va_S (fun q => s.heap.size ≤ q) s.heap H9 locs9 → cells9 ≤ cells + 1 → slots9 ≤ slots + 6 → lv_has ls9 8 [(0, .ref b), (1, .ref (ad 0)), (2, .ref (ad 35)), (3, .ref (ad 34)), (4, .int v)] → W p l e room_1 s m #[Value.ref b] below meth c H9 locs9 cells9 slots9 Q (F0 m 1120 ls9 [])) : W p l e room_1 s m #[Value.ref b] below meth c H locs cells slots Q (F0 m 112 ls []) := by
  obtain ⟨hx, hb, hml, hown, ht, hXs, hbl, hL, hinj, hnew, hK, hX, hl9⟩ := C0
  have hbA : ¬ (fun q : Nat => s.heap.size ≤ q) b := Nat.not_le.mpr hbl
  refine lv_aload_n hx hb dL_law_112 rfl (lv_at hl 1 rfl) ?_
  refine lv_aload_n hx hb dL_law_113 rfl (lv_at hl 0 rfl) ?_
  refine lv_iload hx hb dL_law_114 (lv_at hl 4 rfl) ?_
  refine lv_iconst (v := 1) hx hb dL_law_116 (by decide) ?_
  refine lv_iadd hx hb dL_law_117 ?_
  have hi_1 : vp_in (v + 1) L := (by have l1 : (1 : Int32).toInt = 1 := (by decide); have b0 := hv; rw [vp_in_iff]; (try simp only [Int32.toInt_add, Int32.toInt_sub, Int32.toInt_mul, Int.bmod_def, l1]); omega)
  refine va_sld hx hb hXs hbl hbA hS hi_1 dL_law_118 ?_
  refine lv_aload_n hx hb dL_law_119 rfl (lv_at hl 0 rfl) ?_
  refine lv_iload hx hb dL_law_120 (lv_at hl 4 rfl) ?_
  refine lv_iconst (v := 2) hx hb dL_law_122 (by decide) ?_
  refine lv_iadd hx hb dL_law_123 ?_
  have hi_2 : vp_in (v + 2) L := (by have l2 : (2 : Int32).toInt = 2 := (by decide); have b0 := hv; rw [vp_in_iff]; (try simp only [Int32.toInt_add, Int32.toInt_sub, Int32.toInt_mul, Int.bmod_def, l2]); omega)
  refine va_sld hx hb hXs hbl hbA hS hi_2 dL_law_124 ?_
  refine lv_aload_n hx hb dL_law_125 rfl (lv_at hl 3 rfl) ?_
  have F := hF σ (xs ((v + 1).toNatClampNeg)) (xs ((v + 2).toNatClampNeg)) hR
  refine g_runR (v := .int (t_vword σ (xs ((v + 1).toNatClampNeg)) (xs ((v + 2).toNatClampNeg)))) (vx_runSW (As := [.ref (ad 0), .int (xs ((v + 1).toNatClampNeg)), .int (xs ((v + 2).toNatClampNeg)), .ref (ad 34)]) (rest := []) ⟨hx, hb, hml, hown, ht⟩ (c_hvword l hl9 hinj σ τ _ (xs ((v + 1).toNatClampNeg)) (xs ((v + 2).toNatClampNeg)) ) (qSW 4 ht tw_194 tw_195 tw_0 tk_L_word rfl rfl (by decide +kernel) ⟨(Nat.le_of_ble_eq_true rfl), (Nat.le_of_ble_eq_true rfl)⟩) (g_psL hK hP hX hS hnew) rfl rfl hl.1 rfl (lv_room (Nat.le_of_ble_eq_true rfl)) dL_law_126 ⟨by show _ ≤ 601024; omega, by show _ ≤ 7293034; omega⟩) hS (fun q _ h => gA_new hnew hS.1 q h) (fun q h => gA_new hnew hS.1 q h) (fun H locs hP hz hS => ?_)
  refine lv_istore (lv' := [(5, .int (t_vword σ (xs ((v + 1).toNatClampNeg)) (xs ((v + 2).toNatClampNeg)))), (0, .ref b), (1, .ref (ad 0)), (2, .ref (ad 35)), (3, .ref (ad 34)), (4, .int v)]) hx hb dL_law_129 hl (by decide) rfl (fun ls hl => ?_)
  refine lv_aload_n hx hb dL_law_131 rfl (lv_at hl 3 rfl) ?_
  refine lv_aload_n hx hb dL_law_132 rfl (lv_at hl 1 rfl) ?_
  refine lv_iload hx hb dL_law_133 (lv_at hl 5 rfl) ?_
  refine lv_iconst (v := 1) hx hb dL_law_135 (by decide) ?_
  refine lv_iadd hx hb dL_law_136 ?_
  have hi_3 : vp_in (v + 1) L := (by have l1 : (1 : Int32).toInt = 1 := (by decide); have b0 := hv; rw [vp_in_iff]; (try simp only [Int32.toInt_add, Int32.toInt_sub, Int32.toInt_mul, Int.bmod_def, l1]); omega)
  refine va_sld hx hb hXs hbl hbA hS hi_3 dL_law_137 ?_
  refine lv_aload_n hx hb dL_law_138 rfl (lv_at hl 1 rfl) ?_
  refine lv_iload hx hb dL_law_139 (lv_at hl 5 rfl) ?_
  refine lv_iconst (v := 2) hx hb dL_law_141 (by decide) ?_
  refine lv_iadd hx hb dL_law_142 ?_
  have hi_4 : vp_in (v + 2) L := (by have l2 : (2 : Int32).toInt = 2 := (by decide); have b0 := hv; rw [vp_in_iff]; (try simp only [Int32.toInt_add, Int32.toInt_sub, Int32.toInt_mul, Int.bmod_def, l2]); omega)
  refine va_sld hx hb hXs hbl hbA hS hi_4 dL_law_143 ?_
  refine g_runR (v := .int (f_rword (s_vword σ (xs ((v + 1).toNatClampNeg)) (xs ((v + 2).toNatClampNeg)))  (xs ((v + 1).toNatClampNeg)) (xs ((v + 2).toNatClampNeg)))) (va_runV (C := RR) (As := [.int (xs ((v + 1).toNatClampNeg)), .int (xs ((v + 2).toNatClampNeg))]) (rest := []) ⟨hx, hb, hml, hown, ht⟩ (c_rword l hinj (s_vword σ (xs ((v + 1).toNatClampNeg)) (xs ((v + 2).toNatClampNeg))) (u_vword σ τ (xs ((v + 1).toNatClampNeg)) (xs ((v + 2).toNatClampNeg))) _  (xs ((v + 1).toNatClampNeg)) (xs ((v + 2).toNatClampNeg)) ) (qV 2 ht tw_496 tw_497 tw_498 tw_6 tk_R_word rfl rfl (by decide +kernel) ⟨(Nat.le_of_ble_eq_true rfl), (Nat.le_of_ble_eq_true rfl)⟩) (g_pv (ci := 5) hK hP (by decide) rfl kR rfl) rfl rfl hl.1 rfl (lv_room (Nat.le_of_ble_eq_true rfl)) dL_law_144 ⟨by show _ ≤ 601024; omega, by show _ ≤ 7293034; omega⟩) hS (fun q _ h => gA_new hnew hS.1 q h) (fun q h => gA_new hnew hS.1 q h) (fun H locs hP hz hS => ?_)
  refine lv_istore (lv' := [(6, .int (f_rword (s_vword σ (xs ((v + 1).toNatClampNeg)) (xs ((v + 2).toNatClampNeg)))  (xs ((v + 1).toNatClampNeg)) (xs ((v + 2).toNatClampNeg)))), (5, .int (t_vword σ (xs ((v + 1).toNatClampNeg)) (xs ((v + 2).toNatClampNeg)))), (0, .ref b), (1, .ref (ad 0)), (2, .ref (ad 35)), (3, .ref (ad 34)), (4, .int v)]) hx hb dL_law_147 hl (by decide) rfl (fun ls hl => ?_)
  refine lv_aload_n hx hb dL_law_149 rfl (lv_at hl 4 rfl) ?_
  refine g_pure (v := .int (f_thrown (s_rword (s_vword σ (xs ((v + 1).toNatClampNeg)) (xs ((v + 2).toNatClampNeg)))  (xs ((v + 1).toNatClampNeg)) (xs ((v + 2).toNatClampNeg)))  )) (va_runV (C := RR) (As := []) (rest := []) ⟨hx, hb, hml, hown, ht⟩ (c_thrown l hinj (s_rword (s_vword σ (xs ((v + 1).toNatClampNeg)) (xs ((v + 2).toNatClampNeg)))  (xs ((v + 1).toNatClampNeg)) (xs ((v + 2).toNatClampNeg))) (u_vword σ τ (xs ((v + 1).toNatClampNeg)) (xs ((v + 2).toNatClampNeg))) _   ) (qV 0 ht tw_492 tw_493 tw_494 tw_6 tk_R_thrown rfl rfl (by decide +kernel) ⟨(Nat.le_of_ble_eq_true rfl), (Nat.le_of_ble_eq_true rfl)⟩) (g_pv (ci := 5) hK hP (by decide) rfl kR rfl) rfl rfl hl.1 rfl (lv_room (Nat.le_of_ble_eq_true rfl)) dL_law_150 ⟨by show _ ≤ 601024; omega, by show _ ≤ 7293034; omega⟩) ?_
  refine lv_iload hx hb dL_law_153 (lv_at hl 1 rfl) ?_
  refine lv_icmp_eq (tgt := 160) hx hb dL_law_155 (by decide) (fun c_5 => ?_) (fun c_5 => ?_)
  · refine lv_iload hx hb dL_law_160 (lv_at hl 1 rfl) ?_
    refine lv_if_ne (tgt := 177) hx hb dL_law_162 (by decide) (fun c_6 => ?_) (fun c_6 => ?_)
    · refine lv_goto (tgt := 1120) hx hb dL_law_177 (by decide) ?_
      exact K _ _ _ _ _ _ ls F.2.2 hP hS (by omega) (by omega) (lv_sub hl [2, 3, 4, 5, 6] rfl)
    · refine lv_aload_n hx hb dL_law_165 rfl (lv_at hl 5 rfl) ?_
      refine lv_iconst (v := 0) hx hb dL_law_166 (by decide) ?_
      have hi_7 : vp_in (0 : Int32) 1 := (by unfold vp_in; decide)
      refine g_lald hx hb hK hP 34 3 (by decide) (fun r t => kL) rfl hi_7 dL_law_167 ?_
      refine lv_iload hx hb dL_law_168 (lv_at hl 0 rfl) ?_
      refine lv_i2l hx hb dL_law_170 rfl ?_
      refine W.lcmp hx hb dL_law_171 ?_
      refine lv_if_eq (tgt := 177) hx hb dL_law_172 (by decide) (fun c_8 => ?_) (fun c_8 => ?_)
      · refine lv_goto (tgt := 1120) hx hb dL_law_177 (by decide) ?_
        exact K _ _ _ _ _ _ ls F.2.2 hP hS (by omega) (by omega) (lv_sub hl [2, 3, 4, 5, 6] rfl)
      · exact absurd ((lg_cmp_eq _ _).mpr ((uo_vword c_6).trans (congrArg Int32.toInt64 (F.2.1 c_6)))) c_8
  · exact absurd F.1 c_5
set_option maxHeartbeats 800000 in
set_option maxRecDepth 100000 in
theorem lc_attribute {p : Program} {l : Launch} {e : Env} {s : State} {m : MethodId} {below : List Frame} {meth : Method} {c : Code} {b L : Nat} {xs : Nat → Int32} {D : va_G} {cs : Nat → ClassId} {ad : Nat → Nat} {Q : State → Prop} (C0 : lC p l s m meth c b L xs D cs ad) (Rel : (Nat → Nat → Int32) → Prop) (hF : ∀ σ (a0 a1 a2 a3 a4 : Int32), Rel σ → s_rattr (s_vattr σ a0 a1 a2 a3 a4) a0 a1 a2 a3 a4 35 0 = t_vattr σ a0 a1 a2 a3 a4 ∧ Rel (s_rattr (s_vattr σ a0 a1 a2 a3 a4) a0 a1 a2 a3 a4))  {σ : Nat → Nat → Int32} {τ : Nat → Nat → Int64} {H : Heap} {locs : List Loc} {cells slots : Nat} {v : Int32} {ls : Array Slot} (hR : Rel σ) (hP : va_P D vwCl (gW cs ad σ τ) H) (hS : va_S (fun q => s.heap.size ≤ q) s.heap H locs) (hc9 : cells + 10 ≤ 601024) (hs9 : slots + 100 ≤ 7293034) (hv : 0 ≤ v.toInt ∧ v.toInt + 7 ≤ (L : Int) ∧ L ≤ 3584) (hl : lv_has ls 8 [(0, .ref b), (1, .ref (ad 0)), (2, .ref (ad 35)), (3, .ref (ad 34)), (4, .int v)]) (K : ∀ (σ9 : Nat → Nat → Int32) (τ9 : Nat → Nat → Int64) (H9 : Heap) (locs9 : List Loc) (cells9 slots9 : Nat) (ls9 : Array Slot), Rel σ9 → va_P D vwCl (gW cs ad σ9 τ9) H9 → va_S (fun q => s.heap.size ≤ q) s.heap H9 locs9 → cells9 ≤ cells + 1 → slots9 ≤ slots + 6 → lv_has ls9 8 [(0, .ref b), (1, .ref (ad 0)), (2, .ref (ad 35)), (3, .ref (ad 34)), (4, .int v)] → W p l e room_1 s m #[Value.ref b] below meth c H9 locs9 cells9 slots9 Q (F0 m 1120 ls9 [])) : W p l e room_1 s m #[Value.ref b] below meth c H locs cells slots Q (F0 m 180 ls []) := by
  obtain ⟨hx, hb, hml, hown, ht, hXs, hbl, hL, hinj, hnew, hK, hX, hl9⟩ := C0
  have hbA : ¬ (fun q : Nat => s.heap.size ≤ q) b := Nat.not_le.mpr hbl
  refine lv_aload_n hx hb dL_law_180 rfl (lv_at hl 1 rfl) ?_
  refine lv_aload_n hx hb dL_law_181 rfl (lv_at hl 0 rfl) ?_
  refine lv_iload hx hb dL_law_182 (lv_at hl 4 rfl) ?_
  refine lv_iconst (v := 1) hx hb dL_law_184 (by decide) ?_
  refine lv_iadd hx hb dL_law_185 ?_
  have hi_1 : vp_in (v + 1) L := (by have l1 : (1 : Int32).toInt = 1 := (by decide); have b0 := hv; rw [vp_in_iff]; (try simp only [Int32.toInt_add, Int32.toInt_sub, Int32.toInt_mul, Int.bmod_def, l1]); omega)
  refine va_sld hx hb hXs hbl hbA hS hi_1 dL_law_186 ?_
  refine lv_aload_n hx hb dL_law_187 rfl (lv_at hl 0 rfl) ?_
  refine lv_iload hx hb dL_law_188 (lv_at hl 4 rfl) ?_
  refine lv_iconst (v := 2) hx hb dL_law_190 (by decide) ?_
  refine lv_iadd hx hb dL_law_191 ?_
  have hi_2 : vp_in (v + 2) L := (by have l2 : (2 : Int32).toInt = 2 := (by decide); have b0 := hv; rw [vp_in_iff]; (try simp only [Int32.toInt_add, Int32.toInt_sub, Int32.toInt_mul, Int.bmod_def, l2]); omega)
  refine va_sld hx hb hXs hbl hbA hS hi_2 dL_law_192 ?_
  refine lv_aload_n hx hb dL_law_193 rfl (lv_at hl 0 rfl) ?_
  refine lv_iload hx hb dL_law_194 (lv_at hl 4 rfl) ?_
  refine lv_iconst (v := 3) hx hb dL_law_196 (by decide) ?_
  refine lv_iadd hx hb dL_law_197 ?_
  have hi_3 : vp_in (v + 3) L := (by have l3 : (3 : Int32).toInt = 3 := (by decide); have b0 := hv; rw [vp_in_iff]; (try simp only [Int32.toInt_add, Int32.toInt_sub, Int32.toInt_mul, Int.bmod_def, l3]); omega)
  refine va_sld hx hb hXs hbl hbA hS hi_3 dL_law_198 ?_
  refine lv_aload_n hx hb dL_law_199 rfl (lv_at hl 0 rfl) ?_
  refine lv_iload hx hb dL_law_200 (lv_at hl 4 rfl) ?_
  refine lv_iconst (v := 4) hx hb dL_law_202 (by decide) ?_
  refine lv_iadd hx hb dL_law_203 ?_
  have hi_4 : vp_in (v + 4) L := (by have l4 : (4 : Int32).toInt = 4 := (by decide); have b0 := hv; rw [vp_in_iff]; (try simp only [Int32.toInt_add, Int32.toInt_sub, Int32.toInt_mul, Int.bmod_def, l4]); omega)
  refine va_sld hx hb hXs hbl hbA hS hi_4 dL_law_204 ?_
  refine lv_aload_n hx hb dL_law_205 rfl (lv_at hl 0 rfl) ?_
  refine lv_iload hx hb dL_law_206 (lv_at hl 4 rfl) ?_
  refine lv_iconst (v := 5) hx hb dL_law_208 (by decide) ?_
  refine lv_iadd hx hb dL_law_209 ?_
  have hi_5 : vp_in (v + 5) L := (by have l5 : (5 : Int32).toInt = 5 := (by decide); have b0 := hv; rw [vp_in_iff]; (try simp only [Int32.toInt_add, Int32.toInt_sub, Int32.toInt_mul, Int.bmod_def, l5]); omega)
  refine va_sld hx hb hXs hbl hbA hS hi_5 dL_law_210 ?_
  have F := hF σ (xs ((v + 1).toNatClampNeg)) (xs ((v + 2).toNatClampNeg)) (xs ((v + 3).toNatClampNeg)) (xs ((v + 4).toNatClampNeg)) (xs ((v + 5).toNatClampNeg)) hR
  refine g_runR (v := .int (t_vattr σ (xs ((v + 1).toNatClampNeg)) (xs ((v + 2).toNatClampNeg)) (xs ((v + 3).toNatClampNeg)) (xs ((v + 4).toNatClampNeg)) (xs ((v + 5).toNatClampNeg)))) (vx_runSW (As := [.ref (ad 0), .int (xs ((v + 1).toNatClampNeg)), .int (xs ((v + 2).toNatClampNeg)), .int (xs ((v + 3).toNatClampNeg)), .int (xs ((v + 4).toNatClampNeg)), .int (xs ((v + 5).toNatClampNeg))]) (rest := []) ⟨hx, hb, hml, hown, ht⟩ (c_hvattr l hl9 hinj σ τ _ (xs ((v + 1).toNatClampNeg)) (xs ((v + 2).toNatClampNeg)) (xs ((v + 3).toNatClampNeg)) (xs ((v + 4).toNatClampNeg)) (xs ((v + 5).toNatClampNeg)) ) (qSW 6 ht tw_282 tw_283 tw_0 tk_L_attribute rfl rfl (by decide +kernel) ⟨(Nat.le_of_ble_eq_true rfl), (Nat.le_of_ble_eq_true rfl)⟩) (g_psL hK hP hX hS hnew) rfl rfl hl.1 rfl (lv_room (Nat.le_of_ble_eq_true rfl)) dL_law_211 ⟨by show _ ≤ 601024; omega, by show _ ≤ 7293034; omega⟩) hS (fun q _ h => gA_new hnew hS.1 q h) (fun q h => gA_new hnew hS.1 q h) (fun H locs hP hz hS => ?_)
  refine lv_istore (lv' := [(5, .int (t_vattr σ (xs ((v + 1).toNatClampNeg)) (xs ((v + 2).toNatClampNeg)) (xs ((v + 3).toNatClampNeg)) (xs ((v + 4).toNatClampNeg)) (xs ((v + 5).toNatClampNeg)))), (0, .ref b), (1, .ref (ad 0)), (2, .ref (ad 35)), (3, .ref (ad 34)), (4, .int v)]) hx hb dL_law_214 hl (by decide) rfl (fun ls hl => ?_)
  refine lv_aload_n hx hb dL_law_216 rfl (lv_at hl 3 rfl) ?_
  refine lv_aload_n hx hb dL_law_217 rfl (lv_at hl 1 rfl) ?_
  refine lv_iload hx hb dL_law_218 (lv_at hl 5 rfl) ?_
  refine lv_iconst (v := 1) hx hb dL_law_220 (by decide) ?_
  refine lv_iadd hx hb dL_law_221 ?_
  have hi_6 : vp_in (v + 1) L := (by have l1 : (1 : Int32).toInt = 1 := (by decide); have b0 := hv; rw [vp_in_iff]; (try simp only [Int32.toInt_add, Int32.toInt_sub, Int32.toInt_mul, Int.bmod_def, l1]); omega)
  refine va_sld hx hb hXs hbl hbA hS hi_6 dL_law_222 ?_
  refine lv_aload_n hx hb dL_law_223 rfl (lv_at hl 1 rfl) ?_
  refine lv_iload hx hb dL_law_224 (lv_at hl 5 rfl) ?_
  refine lv_iconst (v := 2) hx hb dL_law_226 (by decide) ?_
  refine lv_iadd hx hb dL_law_227 ?_
  have hi_7 : vp_in (v + 2) L := (by have l2 : (2 : Int32).toInt = 2 := (by decide); have b0 := hv; rw [vp_in_iff]; (try simp only [Int32.toInt_add, Int32.toInt_sub, Int32.toInt_mul, Int.bmod_def, l2]); omega)
  refine va_sld hx hb hXs hbl hbA hS hi_7 dL_law_228 ?_
  refine lv_aload_n hx hb dL_law_229 rfl (lv_at hl 1 rfl) ?_
  refine lv_iload hx hb dL_law_230 (lv_at hl 5 rfl) ?_
  refine lv_iconst (v := 3) hx hb dL_law_232 (by decide) ?_
  refine lv_iadd hx hb dL_law_233 ?_
  have hi_8 : vp_in (v + 3) L := (by have l3 : (3 : Int32).toInt = 3 := (by decide); have b0 := hv; rw [vp_in_iff]; (try simp only [Int32.toInt_add, Int32.toInt_sub, Int32.toInt_mul, Int.bmod_def, l3]); omega)
  refine va_sld hx hb hXs hbl hbA hS hi_8 dL_law_234 ?_
  refine lv_aload_n hx hb dL_law_235 rfl (lv_at hl 1 rfl) ?_
  refine lv_iload hx hb dL_law_236 (lv_at hl 5 rfl) ?_
  refine lv_iconst (v := 4) hx hb dL_law_238 (by decide) ?_
  refine lv_iadd hx hb dL_law_239 ?_
  have hi_9 : vp_in (v + 4) L := (by have l4 : (4 : Int32).toInt = 4 := (by decide); have b0 := hv; rw [vp_in_iff]; (try simp only [Int32.toInt_add, Int32.toInt_sub, Int32.toInt_mul, Int.bmod_def, l4]); omega)
  refine va_sld hx hb hXs hbl hbA hS hi_9 dL_law_240 ?_
  refine lv_aload_n hx hb dL_law_241 rfl (lv_at hl 1 rfl) ?_
  refine lv_iload hx hb dL_law_242 (lv_at hl 5 rfl) ?_
  refine lv_iconst (v := 5) hx hb dL_law_244 (by decide) ?_
  refine lv_iadd hx hb dL_law_245 ?_
  have hi_10 : vp_in (v + 5) L := (by have l5 : (5 : Int32).toInt = 5 := (by decide); have b0 := hv; rw [vp_in_iff]; (try simp only [Int32.toInt_add, Int32.toInt_sub, Int32.toInt_mul, Int.bmod_def, l5]); omega)
  refine va_sld hx hb hXs hbl hbA hS hi_10 dL_law_246 ?_
  refine g_runV (va_runV (C := RR) (As := [.int (xs ((v + 1).toNatClampNeg)), .int (xs ((v + 2).toNatClampNeg)), .int (xs ((v + 3).toNatClampNeg)), .int (xs ((v + 4).toNatClampNeg)), .int (xs ((v + 5).toNatClampNeg))]) (rest := []) ⟨hx, hb, hml, hown, ht⟩ (c_rattr l hinj (s_vattr σ (xs ((v + 1).toNatClampNeg)) (xs ((v + 2).toNatClampNeg)) (xs ((v + 3).toNatClampNeg)) (xs ((v + 4).toNatClampNeg)) (xs ((v + 5).toNatClampNeg))) τ _  (xs ((v + 1).toNatClampNeg)) (xs ((v + 2).toNatClampNeg)) (xs ((v + 3).toNatClampNeg)) (xs ((v + 4).toNatClampNeg)) (xs ((v + 5).toNatClampNeg)) ) (qV 5 ht tw_507 tw_508 tw_509 tw_6 tk_R_attribute rfl rfl (by decide +kernel) ⟨(Nat.le_of_ble_eq_true rfl), (Nat.le_of_ble_eq_true rfl)⟩) (g_pv (ci := 5) hK hP (by decide) rfl kR rfl) rfl rfl hl.1 rfl (lv_room (Nat.le_of_ble_eq_true rfl)) dL_law_247 ⟨by show _ ≤ 601024; omega, by show _ ≤ 7293034; omega⟩) hS (fun q _ h => gA_new hnew hS.1 q h) (fun q h => gA_new hnew hS.1 q h) (fun H locs hP hz hS => ?_)
  refine lv_aload_n hx hb dL_law_250 rfl (lv_at hl 3 rfl) ?_
  refine g_pure (v := .int (f_thrown (s_rattr (s_vattr σ (xs ((v + 1).toNatClampNeg)) (xs ((v + 2).toNatClampNeg)) (xs ((v + 3).toNatClampNeg)) (xs ((v + 4).toNatClampNeg)) (xs ((v + 5).toNatClampNeg)))  (xs ((v + 1).toNatClampNeg)) (xs ((v + 2).toNatClampNeg)) (xs ((v + 3).toNatClampNeg)) (xs ((v + 4).toNatClampNeg)) (xs ((v + 5).toNatClampNeg)))  )) (va_runV (C := RR) (As := []) (rest := []) ⟨hx, hb, hml, hown, ht⟩ (c_thrown l hinj (s_rattr (s_vattr σ (xs ((v + 1).toNatClampNeg)) (xs ((v + 2).toNatClampNeg)) (xs ((v + 3).toNatClampNeg)) (xs ((v + 4).toNatClampNeg)) (xs ((v + 5).toNatClampNeg)))  (xs ((v + 1).toNatClampNeg)) (xs ((v + 2).toNatClampNeg)) (xs ((v + 3).toNatClampNeg)) (xs ((v + 4).toNatClampNeg)) (xs ((v + 5).toNatClampNeg))) τ _   ) (qV 0 ht tw_492 tw_493 tw_494 tw_6 tk_R_thrown rfl rfl (by decide +kernel) ⟨(Nat.le_of_ble_eq_true rfl), (Nat.le_of_ble_eq_true rfl)⟩) (g_pv (ci := 5) hK hP (by decide) rfl kR rfl) rfl rfl hl.1 rfl (lv_room (Nat.le_of_ble_eq_true rfl)) dL_law_251 ⟨by show _ ≤ 601024; omega, by show _ ≤ 7293034; omega⟩) ?_
  refine lv_iload hx hb dL_law_254 (lv_at hl 0 rfl) ?_
  refine lv_icmp_eq (tgt := 261) hx hb dL_law_256 (by decide) (fun c_11 => ?_) (fun c_11 => ?_)
  · refine lv_goto (tgt := 1120) hx hb dL_law_261 (by decide) ?_
    exact K _ _ _ _ _ _ ls F.2 hP hS (by omega) (by omega) (lv_sub hl [1, 2, 3, 4, 5] rfl)
  · exact absurd F.1 c_11
theorem uo_vfetch {σ : Nat → Nat → Int32} {τ : Nat → Nat → Int64} {a0 a1 a2 : Int32} (h : t_vfetch σ a0 a1 a2 = 0) : u_vfetch σ τ a0 a1 a2 34 (0 : Int32).toNatClampNeg = (f_vfetch σ a0 a1 a2).toInt64 := by
  unfold u_vfetch
  rw [if_pos h, wl2_row]
  exact pk_uLs
set_option maxHeartbeats 800000 in
set_option maxRecDepth 100000 in
theorem lc_fetch {p : Program} {l : Launch} {e : Env} {s : State} {m : MethodId} {below : List Frame} {meth : Method} {c : Code} {b L : Nat} {xs : Nat → Int32} {D : va_G} {cs : Nat → ClassId} {ad : Nat → Nat} {Q : State → Prop} (C0 : lC p l s m meth c b L xs D cs ad) (Rel : (Nat → Nat → Int32) → Prop) (hF : ∀ σ (a0 a1 a2 : Int32), Rel σ → s_rfetch (s_vfetch σ a0 a1 a2) a0 a1 a2 35 0 = t_vfetch σ a0 a1 a2 ∧ (t_vfetch σ a0 a1 a2 = 0 → f_vfetch σ a0 a1 a2 = f_rfetch (s_vfetch σ a0 a1 a2) a0 a1 a2) ∧ Rel (s_rfetch (s_vfetch σ a0 a1 a2) a0 a1 a2))  {σ : Nat → Nat → Int32} {τ : Nat → Nat → Int64} {H : Heap} {locs : List Loc} {cells slots : Nat} {v : Int32} {ls : Array Slot} (hR : Rel σ) (hP : va_P D vwCl (gW cs ad σ τ) H) (hS : va_S (fun q => s.heap.size ≤ q) s.heap H locs) (hc9 : cells + 10 ≤ 601024) (hs9 : slots + 100 ≤ 7293034) (hv : 0 ≤ v.toInt ∧ v.toInt + 7 ≤ (L : Int) ∧ L ≤ 3584) (hl : lv_has ls 8 [(0, .ref b), (1, .ref (ad 0)), (2, .ref (ad 35)), (3, .ref (ad 34)), (4, .int v)]) (K : ∀ (σ9 : Nat → Nat → Int32) (τ9 : Nat → Nat → Int64) (H9 : Heap) (locs9 : List Loc) (cells9 slots9 : Nat) (ls9 : Array Slot), Rel σ9 → va_P D vwCl (gW cs ad σ9 τ9) H9 → va_S (fun q => s.heap.size ≤ q) s.heap H9 locs9 → cells9 ≤ cells + 1 → slots9 ≤ slots + 6 → lv_has ls9 8 [(0, .ref b), (1, .ref (ad 0)), (2, .ref (ad 35)), (3, .ref (ad 34)), (4, .int v)] → W p l e room_1 s m #[Value.ref b] below meth c H9 locs9 cells9 slots9 Q (F0 m 1120 ls9 [])) : W p l e room_1 s m #[Value.ref b] below meth c H locs cells slots Q (F0 m 264 ls []) := by
  obtain ⟨hx, hb, hml, hown, ht, hXs, hbl, hL, hinj, hnew, hK, hX, hl9⟩ := C0
  have hbA : ¬ (fun q : Nat => s.heap.size ≤ q) b := Nat.not_le.mpr hbl
  refine lv_aload_n hx hb dL_law_264 rfl (lv_at hl 1 rfl) ?_
  refine lv_aload_n hx hb dL_law_265 rfl (lv_at hl 0 rfl) ?_
  refine lv_iload hx hb dL_law_266 (lv_at hl 4 rfl) ?_
  refine lv_iconst (v := 1) hx hb dL_law_268 (by decide) ?_
  refine lv_iadd hx hb dL_law_269 ?_
  have hi_1 : vp_in (v + 1) L := (by have l1 : (1 : Int32).toInt = 1 := (by decide); have b0 := hv; rw [vp_in_iff]; (try simp only [Int32.toInt_add, Int32.toInt_sub, Int32.toInt_mul, Int.bmod_def, l1]); omega)
  refine va_sld hx hb hXs hbl hbA hS hi_1 dL_law_270 ?_
  refine lv_aload_n hx hb dL_law_271 rfl (lv_at hl 0 rfl) ?_
  refine lv_iload hx hb dL_law_272 (lv_at hl 4 rfl) ?_
  refine lv_iconst (v := 2) hx hb dL_law_274 (by decide) ?_
  refine lv_iadd hx hb dL_law_275 ?_
  have hi_2 : vp_in (v + 2) L := (by have l2 : (2 : Int32).toInt = 2 := (by decide); have b0 := hv; rw [vp_in_iff]; (try simp only [Int32.toInt_add, Int32.toInt_sub, Int32.toInt_mul, Int.bmod_def, l2]); omega)
  refine va_sld hx hb hXs hbl hbA hS hi_2 dL_law_276 ?_
  refine lv_aload_n hx hb dL_law_277 rfl (lv_at hl 0 rfl) ?_
  refine lv_iload hx hb dL_law_278 (lv_at hl 4 rfl) ?_
  refine lv_iconst (v := 3) hx hb dL_law_280 (by decide) ?_
  refine lv_iadd hx hb dL_law_281 ?_
  have hi_3 : vp_in (v + 3) L := (by have l3 : (3 : Int32).toInt = 3 := (by decide); have b0 := hv; rw [vp_in_iff]; (try simp only [Int32.toInt_add, Int32.toInt_sub, Int32.toInt_mul, Int.bmod_def, l3]); omega)
  refine va_sld hx hb hXs hbl hbA hS hi_3 dL_law_282 ?_
  refine lv_aload_n hx hb dL_law_283 rfl (lv_at hl 3 rfl) ?_
  have F := hF σ (xs ((v + 1).toNatClampNeg)) (xs ((v + 2).toNatClampNeg)) (xs ((v + 3).toNatClampNeg)) hR
  refine g_runR (v := .int (t_vfetch σ (xs ((v + 1).toNatClampNeg)) (xs ((v + 2).toNatClampNeg)) (xs ((v + 3).toNatClampNeg)))) (vx_runSW (As := [.ref (ad 0), .int (xs ((v + 1).toNatClampNeg)), .int (xs ((v + 2).toNatClampNeg)), .int (xs ((v + 3).toNatClampNeg)), .ref (ad 34)]) (rest := []) ⟨hx, hb, hml, hown, ht⟩ (c_hvfetch l hl9 hinj σ τ _ (xs ((v + 1).toNatClampNeg)) (xs ((v + 2).toNatClampNeg)) (xs ((v + 3).toNatClampNeg)) ) (qSW 5 ht tw_311 tw_312 tw_0 tk_L_fetch rfl rfl (by decide +kernel) ⟨(Nat.le_of_ble_eq_true rfl), (Nat.le_of_ble_eq_true rfl)⟩) (g_psL hK hP hX hS hnew) rfl rfl hl.1 rfl (lv_room (Nat.le_of_ble_eq_true rfl)) dL_law_284 ⟨by show _ ≤ 601024; omega, by show _ ≤ 7293034; omega⟩) hS (fun q _ h => gA_new hnew hS.1 q h) (fun q h => gA_new hnew hS.1 q h) (fun H locs hP hz hS => ?_)
  refine lv_istore (lv' := [(5, .int (t_vfetch σ (xs ((v + 1).toNatClampNeg)) (xs ((v + 2).toNatClampNeg)) (xs ((v + 3).toNatClampNeg)))), (0, .ref b), (1, .ref (ad 0)), (2, .ref (ad 35)), (3, .ref (ad 34)), (4, .int v)]) hx hb dL_law_287 hl (by decide) rfl (fun ls hl => ?_)
  refine lv_aload_n hx hb dL_law_289 rfl (lv_at hl 3 rfl) ?_
  refine lv_aload_n hx hb dL_law_290 rfl (lv_at hl 1 rfl) ?_
  refine lv_iload hx hb dL_law_291 (lv_at hl 5 rfl) ?_
  refine lv_iconst (v := 1) hx hb dL_law_293 (by decide) ?_
  refine lv_iadd hx hb dL_law_294 ?_
  have hi_4 : vp_in (v + 1) L := (by have l1 : (1 : Int32).toInt = 1 := (by decide); have b0 := hv; rw [vp_in_iff]; (try simp only [Int32.toInt_add, Int32.toInt_sub, Int32.toInt_mul, Int.bmod_def, l1]); omega)
  refine va_sld hx hb hXs hbl hbA hS hi_4 dL_law_295 ?_
  refine lv_aload_n hx hb dL_law_296 rfl (lv_at hl 1 rfl) ?_
  refine lv_iload hx hb dL_law_297 (lv_at hl 5 rfl) ?_
  refine lv_iconst (v := 2) hx hb dL_law_299 (by decide) ?_
  refine lv_iadd hx hb dL_law_300 ?_
  have hi_5 : vp_in (v + 2) L := (by have l2 : (2 : Int32).toInt = 2 := (by decide); have b0 := hv; rw [vp_in_iff]; (try simp only [Int32.toInt_add, Int32.toInt_sub, Int32.toInt_mul, Int.bmod_def, l2]); omega)
  refine va_sld hx hb hXs hbl hbA hS hi_5 dL_law_301 ?_
  refine lv_aload_n hx hb dL_law_302 rfl (lv_at hl 1 rfl) ?_
  refine lv_iload hx hb dL_law_303 (lv_at hl 5 rfl) ?_
  refine lv_iconst (v := 3) hx hb dL_law_305 (by decide) ?_
  refine lv_iadd hx hb dL_law_306 ?_
  have hi_6 : vp_in (v + 3) L := (by have l3 : (3 : Int32).toInt = 3 := (by decide); have b0 := hv; rw [vp_in_iff]; (try simp only [Int32.toInt_add, Int32.toInt_sub, Int32.toInt_mul, Int.bmod_def, l3]); omega)
  refine va_sld hx hb hXs hbl hbA hS hi_6 dL_law_307 ?_
  refine g_runR (v := .int (f_rfetch (s_vfetch σ (xs ((v + 1).toNatClampNeg)) (xs ((v + 2).toNatClampNeg)) (xs ((v + 3).toNatClampNeg)))  (xs ((v + 1).toNatClampNeg)) (xs ((v + 2).toNatClampNeg)) (xs ((v + 3).toNatClampNeg)))) (va_runV (C := RR) (As := [.int (xs ((v + 1).toNatClampNeg)), .int (xs ((v + 2).toNatClampNeg)), .int (xs ((v + 3).toNatClampNeg))]) (rest := []) ⟨hx, hb, hml, hown, ht⟩ (c_rfetch l hinj (s_vfetch σ (xs ((v + 1).toNatClampNeg)) (xs ((v + 2).toNatClampNeg)) (xs ((v + 3).toNatClampNeg))) (u_vfetch σ τ (xs ((v + 1).toNatClampNeg)) (xs ((v + 2).toNatClampNeg)) (xs ((v + 3).toNatClampNeg))) _  (xs ((v + 1).toNatClampNeg)) (xs ((v + 2).toNatClampNeg)) (xs ((v + 3).toNatClampNeg)) ) (qV 3 ht tw_511 tw_512 tw_513 tw_6 tk_R_fetch rfl rfl (by decide +kernel) ⟨(Nat.le_of_ble_eq_true rfl), (Nat.le_of_ble_eq_true rfl)⟩) (g_pv (ci := 5) hK hP (by decide) rfl kR rfl) rfl rfl hl.1 rfl (lv_room (Nat.le_of_ble_eq_true rfl)) dL_law_308 ⟨by show _ ≤ 601024; omega, by show _ ≤ 7293034; omega⟩) hS (fun q _ h => gA_new hnew hS.1 q h) (fun q h => gA_new hnew hS.1 q h) (fun H locs hP hz hS => ?_)
  refine lv_istore (lv' := [(6, .int (f_rfetch (s_vfetch σ (xs ((v + 1).toNatClampNeg)) (xs ((v + 2).toNatClampNeg)) (xs ((v + 3).toNatClampNeg)))  (xs ((v + 1).toNatClampNeg)) (xs ((v + 2).toNatClampNeg)) (xs ((v + 3).toNatClampNeg)))), (5, .int (t_vfetch σ (xs ((v + 1).toNatClampNeg)) (xs ((v + 2).toNatClampNeg)) (xs ((v + 3).toNatClampNeg)))), (0, .ref b), (1, .ref (ad 0)), (2, .ref (ad 35)), (3, .ref (ad 34)), (4, .int v)]) hx hb dL_law_311 hl (by decide) rfl (fun ls hl => ?_)
  refine lv_aload_n hx hb dL_law_313 rfl (lv_at hl 4 rfl) ?_
  refine g_pure (v := .int (f_thrown (s_rfetch (s_vfetch σ (xs ((v + 1).toNatClampNeg)) (xs ((v + 2).toNatClampNeg)) (xs ((v + 3).toNatClampNeg)))  (xs ((v + 1).toNatClampNeg)) (xs ((v + 2).toNatClampNeg)) (xs ((v + 3).toNatClampNeg)))  )) (va_runV (C := RR) (As := []) (rest := []) ⟨hx, hb, hml, hown, ht⟩ (c_thrown l hinj (s_rfetch (s_vfetch σ (xs ((v + 1).toNatClampNeg)) (xs ((v + 2).toNatClampNeg)) (xs ((v + 3).toNatClampNeg)))  (xs ((v + 1).toNatClampNeg)) (xs ((v + 2).toNatClampNeg)) (xs ((v + 3).toNatClampNeg))) (u_vfetch σ τ (xs ((v + 1).toNatClampNeg)) (xs ((v + 2).toNatClampNeg)) (xs ((v + 3).toNatClampNeg))) _   ) (qV 0 ht tw_492 tw_493 tw_494 tw_6 tk_R_thrown rfl rfl (by decide +kernel) ⟨(Nat.le_of_ble_eq_true rfl), (Nat.le_of_ble_eq_true rfl)⟩) (g_pv (ci := 5) hK hP (by decide) rfl kR rfl) rfl rfl hl.1 rfl (lv_room (Nat.le_of_ble_eq_true rfl)) dL_law_314 ⟨by show _ ≤ 601024; omega, by show _ ≤ 7293034; omega⟩) ?_
  refine lv_iload hx hb dL_law_317 (lv_at hl 1 rfl) ?_
  refine lv_icmp_eq (tgt := 324) hx hb dL_law_319 (by decide) (fun c_7 => ?_) (fun c_7 => ?_)
  · refine lv_iload hx hb dL_law_324 (lv_at hl 1 rfl) ?_
    refine lv_if_ne (tgt := 341) hx hb dL_law_326 (by decide) (fun c_8 => ?_) (fun c_8 => ?_)
    · refine lv_goto (tgt := 1120) hx hb dL_law_341 (by decide) ?_
      exact K _ _ _ _ _ _ ls F.2.2 hP hS (by omega) (by omega) (lv_sub hl [2, 3, 4, 5, 6] rfl)
    · refine lv_aload_n hx hb dL_law_329 rfl (lv_at hl 5 rfl) ?_
      refine lv_iconst (v := 0) hx hb dL_law_330 (by decide) ?_
      have hi_9 : vp_in (0 : Int32) 1 := (by unfold vp_in; decide)
      refine g_lald hx hb hK hP 34 3 (by decide) (fun r t => kL) rfl hi_9 dL_law_331 ?_
      refine lv_iload hx hb dL_law_332 (lv_at hl 0 rfl) ?_
      refine lv_i2l hx hb dL_law_334 rfl ?_
      refine W.lcmp hx hb dL_law_335 ?_
      refine lv_if_eq (tgt := 341) hx hb dL_law_336 (by decide) (fun c_10 => ?_) (fun c_10 => ?_)
      · refine lv_goto (tgt := 1120) hx hb dL_law_341 (by decide) ?_
        exact K _ _ _ _ _ _ ls F.2.2 hP hS (by omega) (by omega) (lv_sub hl [2, 3, 4, 5, 6] rfl)
      · exact absurd ((lg_cmp_eq _ _).mpr ((uo_vfetch c_8).trans (congrArg Int32.toInt64 (F.2.1 c_8)))) c_10
  · exact absurd F.1 c_7
theorem uo_vindex {σ : Nat → Nat → Int32} {τ : Nat → Nat → Int64} {a0 a1 a2 : Int32} (h : t_vindex σ a0 a1 a2 = 0) : u_vindex σ τ a0 a1 a2 34 (0 : Int32).toNatClampNeg = (f_vindex σ a0 a1 a2).toInt64 := by
  unfold u_vindex
  rw [if_pos h, wl2_row]
  exact pk_uLs
set_option maxHeartbeats 800000 in
set_option maxRecDepth 100000 in
theorem lc_index {p : Program} {l : Launch} {e : Env} {s : State} {m : MethodId} {below : List Frame} {meth : Method} {c : Code} {b L : Nat} {xs : Nat → Int32} {D : va_G} {cs : Nat → ClassId} {ad : Nat → Nat} {Q : State → Prop} (C0 : lC p l s m meth c b L xs D cs ad) (Rel : (Nat → Nat → Int32) → Prop) (hF : ∀ σ (a0 a1 a2 : Int32), Rel σ → s_rindex (s_vindex σ a0 a1 a2) a0 a1 a2 35 0 = t_vindex σ a0 a1 a2 ∧ (t_vindex σ a0 a1 a2 = 0 → f_vindex σ a0 a1 a2 = f_rindex (s_vindex σ a0 a1 a2) a0 a1 a2) ∧ Rel (s_rindex (s_vindex σ a0 a1 a2) a0 a1 a2))  {σ : Nat → Nat → Int32} {τ : Nat → Nat → Int64} {H : Heap} {locs : List Loc} {cells slots : Nat} {v : Int32} {ls : Array Slot} (hR : Rel σ) (hP : va_P D vwCl (gW cs ad σ τ) H) (hS : va_S (fun q => s.heap.size ≤ q) s.heap H locs) (hc9 : cells + 10 ≤ 601024) (hs9 : slots + 100 ≤ 7293034) (hv : 0 ≤ v.toInt ∧ v.toInt + 7 ≤ (L : Int) ∧ L ≤ 3584) (hl : lv_has ls 8 [(0, .ref b), (1, .ref (ad 0)), (2, .ref (ad 35)), (3, .ref (ad 34)), (4, .int v)]) (K : ∀ (σ9 : Nat → Nat → Int32) (τ9 : Nat → Nat → Int64) (H9 : Heap) (locs9 : List Loc) (cells9 slots9 : Nat) (ls9 : Array Slot), Rel σ9 → va_P D vwCl (gW cs ad σ9 τ9) H9 → va_S (fun q => s.heap.size ≤ q) s.heap H9 locs9 → cells9 ≤ cells + 1 → slots9 ≤ slots + 6 → lv_has ls9 8 [(0, .ref b), (1, .ref (ad 0)), (2, .ref (ad 35)), (3, .ref (ad 34)), (4, .int v)] → W p l e room_1 s m #[Value.ref b] below meth c H9 locs9 cells9 slots9 Q (F0 m 1120 ls9 [])) : W p l e room_1 s m #[Value.ref b] below meth c H locs cells slots Q (F0 m 344 ls []) := by
  obtain ⟨hx, hb, hml, hown, ht, hXs, hbl, hL, hinj, hnew, hK, hX, hl9⟩ := C0
  have hbA : ¬ (fun q : Nat => s.heap.size ≤ q) b := Nat.not_le.mpr hbl
  refine lv_aload_n hx hb dL_law_344 rfl (lv_at hl 1 rfl) ?_
  refine lv_aload_n hx hb dL_law_345 rfl (lv_at hl 0 rfl) ?_
  refine lv_iload hx hb dL_law_346 (lv_at hl 4 rfl) ?_
  refine lv_iconst (v := 1) hx hb dL_law_348 (by decide) ?_
  refine lv_iadd hx hb dL_law_349 ?_
  have hi_1 : vp_in (v + 1) L := (by have l1 : (1 : Int32).toInt = 1 := (by decide); have b0 := hv; rw [vp_in_iff]; (try simp only [Int32.toInt_add, Int32.toInt_sub, Int32.toInt_mul, Int.bmod_def, l1]); omega)
  refine va_sld hx hb hXs hbl hbA hS hi_1 dL_law_350 ?_
  refine lv_aload_n hx hb dL_law_351 rfl (lv_at hl 0 rfl) ?_
  refine lv_iload hx hb dL_law_352 (lv_at hl 4 rfl) ?_
  refine lv_iconst (v := 2) hx hb dL_law_354 (by decide) ?_
  refine lv_iadd hx hb dL_law_355 ?_
  have hi_2 : vp_in (v + 2) L := (by have l2 : (2 : Int32).toInt = 2 := (by decide); have b0 := hv; rw [vp_in_iff]; (try simp only [Int32.toInt_add, Int32.toInt_sub, Int32.toInt_mul, Int.bmod_def, l2]); omega)
  refine va_sld hx hb hXs hbl hbA hS hi_2 dL_law_356 ?_
  refine lv_aload_n hx hb dL_law_357 rfl (lv_at hl 0 rfl) ?_
  refine lv_iload hx hb dL_law_358 (lv_at hl 4 rfl) ?_
  refine lv_iconst (v := 3) hx hb dL_law_360 (by decide) ?_
  refine lv_iadd hx hb dL_law_361 ?_
  have hi_3 : vp_in (v + 3) L := (by have l3 : (3 : Int32).toInt = 3 := (by decide); have b0 := hv; rw [vp_in_iff]; (try simp only [Int32.toInt_add, Int32.toInt_sub, Int32.toInt_mul, Int.bmod_def, l3]); omega)
  refine va_sld hx hb hXs hbl hbA hS hi_3 dL_law_362 ?_
  refine lv_aload_n hx hb dL_law_363 rfl (lv_at hl 3 rfl) ?_
  have F := hF σ (xs ((v + 1).toNatClampNeg)) (xs ((v + 2).toNatClampNeg)) (xs ((v + 3).toNatClampNeg)) hR
  refine g_runR (v := .int (t_vindex σ (xs ((v + 1).toNatClampNeg)) (xs ((v + 2).toNatClampNeg)) (xs ((v + 3).toNatClampNeg)))) (vx_runSW (As := [.ref (ad 0), .int (xs ((v + 1).toNatClampNeg)), .int (xs ((v + 2).toNatClampNeg)), .int (xs ((v + 3).toNatClampNeg)), .ref (ad 34)]) (rest := []) ⟨hx, hb, hml, hown, ht⟩ (c_hvindex l hl9 hinj σ τ _ (xs ((v + 1).toNatClampNeg)) (xs ((v + 2).toNatClampNeg)) (xs ((v + 3).toNatClampNeg)) ) (qSW 5 ht tw_334 tw_335 tw_0 tk_L_index rfl rfl (by decide +kernel) ⟨(Nat.le_of_ble_eq_true rfl), (Nat.le_of_ble_eq_true rfl)⟩) (g_psL hK hP hX hS hnew) rfl rfl hl.1 rfl (lv_room (Nat.le_of_ble_eq_true rfl)) dL_law_364 ⟨by show _ ≤ 601024; omega, by show _ ≤ 7293034; omega⟩) hS (fun q _ h => gA_new hnew hS.1 q h) (fun q h => gA_new hnew hS.1 q h) (fun H locs hP hz hS => ?_)
  refine lv_istore (lv' := [(5, .int (t_vindex σ (xs ((v + 1).toNatClampNeg)) (xs ((v + 2).toNatClampNeg)) (xs ((v + 3).toNatClampNeg)))), (0, .ref b), (1, .ref (ad 0)), (2, .ref (ad 35)), (3, .ref (ad 34)), (4, .int v)]) hx hb dL_law_367 hl (by decide) rfl (fun ls hl => ?_)
  refine lv_aload_n hx hb dL_law_369 rfl (lv_at hl 3 rfl) ?_
  refine lv_aload_n hx hb dL_law_370 rfl (lv_at hl 1 rfl) ?_
  refine lv_iload hx hb dL_law_371 (lv_at hl 5 rfl) ?_
  refine lv_iconst (v := 1) hx hb dL_law_373 (by decide) ?_
  refine lv_iadd hx hb dL_law_374 ?_
  have hi_4 : vp_in (v + 1) L := (by have l1 : (1 : Int32).toInt = 1 := (by decide); have b0 := hv; rw [vp_in_iff]; (try simp only [Int32.toInt_add, Int32.toInt_sub, Int32.toInt_mul, Int.bmod_def, l1]); omega)
  refine va_sld hx hb hXs hbl hbA hS hi_4 dL_law_375 ?_
  refine lv_aload_n hx hb dL_law_376 rfl (lv_at hl 1 rfl) ?_
  refine lv_iload hx hb dL_law_377 (lv_at hl 5 rfl) ?_
  refine lv_iconst (v := 2) hx hb dL_law_379 (by decide) ?_
  refine lv_iadd hx hb dL_law_380 ?_
  have hi_5 : vp_in (v + 2) L := (by have l2 : (2 : Int32).toInt = 2 := (by decide); have b0 := hv; rw [vp_in_iff]; (try simp only [Int32.toInt_add, Int32.toInt_sub, Int32.toInt_mul, Int.bmod_def, l2]); omega)
  refine va_sld hx hb hXs hbl hbA hS hi_5 dL_law_381 ?_
  refine lv_aload_n hx hb dL_law_382 rfl (lv_at hl 1 rfl) ?_
  refine lv_iload hx hb dL_law_383 (lv_at hl 5 rfl) ?_
  refine lv_iconst (v := 3) hx hb dL_law_385 (by decide) ?_
  refine lv_iadd hx hb dL_law_386 ?_
  have hi_6 : vp_in (v + 3) L := (by have l3 : (3 : Int32).toInt = 3 := (by decide); have b0 := hv; rw [vp_in_iff]; (try simp only [Int32.toInt_add, Int32.toInt_sub, Int32.toInt_mul, Int.bmod_def, l3]); omega)
  refine va_sld hx hb hXs hbl hbA hS hi_6 dL_law_387 ?_
  refine g_runR (v := .int (f_rindex (s_vindex σ (xs ((v + 1).toNatClampNeg)) (xs ((v + 2).toNatClampNeg)) (xs ((v + 3).toNatClampNeg)))  (xs ((v + 1).toNatClampNeg)) (xs ((v + 2).toNatClampNeg)) (xs ((v + 3).toNatClampNeg)))) (va_runV (C := RR) (As := [.int (xs ((v + 1).toNatClampNeg)), .int (xs ((v + 2).toNatClampNeg)), .int (xs ((v + 3).toNatClampNeg))]) (rest := []) ⟨hx, hb, hml, hown, ht⟩ (c_rindex l hinj (s_vindex σ (xs ((v + 1).toNatClampNeg)) (xs ((v + 2).toNatClampNeg)) (xs ((v + 3).toNatClampNeg))) (u_vindex σ τ (xs ((v + 1).toNatClampNeg)) (xs ((v + 2).toNatClampNeg)) (xs ((v + 3).toNatClampNeg))) _  (xs ((v + 1).toNatClampNeg)) (xs ((v + 2).toNatClampNeg)) (xs ((v + 3).toNatClampNeg)) ) (qV 3 ht tw_530 tw_531 tw_532 tw_6 tk_R_index rfl rfl (by decide +kernel) ⟨(Nat.le_of_ble_eq_true rfl), (Nat.le_of_ble_eq_true rfl)⟩) (g_pv (ci := 5) hK hP (by decide) rfl kR rfl) rfl rfl hl.1 rfl (lv_room (Nat.le_of_ble_eq_true rfl)) dL_law_388 ⟨by show _ ≤ 601024; omega, by show _ ≤ 7293034; omega⟩) hS (fun q _ h => gA_new hnew hS.1 q h) (fun q h => gA_new hnew hS.1 q h) (fun H locs hP hz hS => ?_)
  refine lv_istore (lv' := [(6, .int (f_rindex (s_vindex σ (xs ((v + 1).toNatClampNeg)) (xs ((v + 2).toNatClampNeg)) (xs ((v + 3).toNatClampNeg)))  (xs ((v + 1).toNatClampNeg)) (xs ((v + 2).toNatClampNeg)) (xs ((v + 3).toNatClampNeg)))), (5, .int (t_vindex σ (xs ((v + 1).toNatClampNeg)) (xs ((v + 2).toNatClampNeg)) (xs ((v + 3).toNatClampNeg)))), (0, .ref b), (1, .ref (ad 0)), (2, .ref (ad 35)), (3, .ref (ad 34)), (4, .int v)]) hx hb dL_law_391 hl (by decide) rfl (fun ls hl => ?_)
  refine lv_aload_n hx hb dL_law_393 rfl (lv_at hl 4 rfl) ?_
  refine g_pure (v := .int (f_thrown (s_rindex (s_vindex σ (xs ((v + 1).toNatClampNeg)) (xs ((v + 2).toNatClampNeg)) (xs ((v + 3).toNatClampNeg)))  (xs ((v + 1).toNatClampNeg)) (xs ((v + 2).toNatClampNeg)) (xs ((v + 3).toNatClampNeg)))  )) (va_runV (C := RR) (As := []) (rest := []) ⟨hx, hb, hml, hown, ht⟩ (c_thrown l hinj (s_rindex (s_vindex σ (xs ((v + 1).toNatClampNeg)) (xs ((v + 2).toNatClampNeg)) (xs ((v + 3).toNatClampNeg)))  (xs ((v + 1).toNatClampNeg)) (xs ((v + 2).toNatClampNeg)) (xs ((v + 3).toNatClampNeg))) (u_vindex σ τ (xs ((v + 1).toNatClampNeg)) (xs ((v + 2).toNatClampNeg)) (xs ((v + 3).toNatClampNeg))) _   ) (qV 0 ht tw_492 tw_493 tw_494 tw_6 tk_R_thrown rfl rfl (by decide +kernel) ⟨(Nat.le_of_ble_eq_true rfl), (Nat.le_of_ble_eq_true rfl)⟩) (g_pv (ci := 5) hK hP (by decide) rfl kR rfl) rfl rfl hl.1 rfl (lv_room (Nat.le_of_ble_eq_true rfl)) dL_law_394 ⟨by show _ ≤ 601024; omega, by show _ ≤ 7293034; omega⟩) ?_
  refine lv_iload hx hb dL_law_397 (lv_at hl 1 rfl) ?_
  refine lv_icmp_eq (tgt := 404) hx hb dL_law_399 (by decide) (fun c_7 => ?_) (fun c_7 => ?_)
  · refine lv_iload hx hb dL_law_404 (lv_at hl 1 rfl) ?_
    refine lv_if_ne (tgt := 421) hx hb dL_law_406 (by decide) (fun c_8 => ?_) (fun c_8 => ?_)
    · refine lv_goto (tgt := 1120) hx hb dL_law_421 (by decide) ?_
      exact K _ _ _ _ _ _ ls F.2.2 hP hS (by omega) (by omega) (lv_sub hl [2, 3, 4, 5, 6] rfl)
    · refine lv_aload_n hx hb dL_law_409 rfl (lv_at hl 5 rfl) ?_
      refine lv_iconst (v := 0) hx hb dL_law_410 (by decide) ?_
      have hi_9 : vp_in (0 : Int32) 1 := (by unfold vp_in; decide)
      refine g_lald hx hb hK hP 34 3 (by decide) (fun r t => kL) rfl hi_9 dL_law_411 ?_
      refine lv_iload hx hb dL_law_412 (lv_at hl 0 rfl) ?_
      refine lv_i2l hx hb dL_law_414 rfl ?_
      refine W.lcmp hx hb dL_law_415 ?_
      refine lv_if_eq (tgt := 421) hx hb dL_law_416 (by decide) (fun c_10 => ?_) (fun c_10 => ?_)
      · refine lv_goto (tgt := 1120) hx hb dL_law_421 (by decide) ?_
        exact K _ _ _ _ _ _ ls F.2.2 hP hS (by omega) (by omega) (lv_sub hl [2, 3, 4, 5, 6] rfl)
      · exact absurd ((lg_cmp_eq _ _).mpr ((uo_vindex c_8).trans (congrArg Int32.toInt64 (F.2.1 c_8)))) c_10
  · exact absurd F.1 c_7
theorem uo_vtriangles {σ : Nat → Nat → Int32} {τ : Nat → Nat → Int64} {a0 a1 : Int32} (h : t_vtriangles σ a0 a1 = 0) : u_vtriangles σ τ a0 a1 34 (0 : Int32).toNatClampNeg = (f_vtriangles σ a0 a1).toInt64 := by
  unfold u_vtriangles
  rw [if_pos h, wl2_row]
  exact pk_uLs
set_option maxHeartbeats 800000 in
set_option maxRecDepth 100000 in
theorem lc_triangles {p : Program} {l : Launch} {e : Env} {s : State} {m : MethodId} {below : List Frame} {meth : Method} {c : Code} {b L : Nat} {xs : Nat → Int32} {D : va_G} {cs : Nat → ClassId} {ad : Nat → Nat} {Q : State → Prop} (C0 : lC p l s m meth c b L xs D cs ad) (Rel : (Nat → Nat → Int32) → Prop) (hF : ∀ σ (a0 a1 : Int32), Rel σ → s_rtriangles (s_vtriangles σ a0 a1) a0 a1 35 0 = t_vtriangles σ a0 a1 ∧ (t_vtriangles σ a0 a1 = 0 → f_vtriangles σ a0 a1 = f_rtriangles (s_vtriangles σ a0 a1) a0 a1) ∧ Rel (s_rtriangles (s_vtriangles σ a0 a1) a0 a1))  {σ : Nat → Nat → Int32} {τ : Nat → Nat → Int64} {H : Heap} {locs : List Loc} {cells slots : Nat} {v : Int32} {ls : Array Slot} (hR : Rel σ) (hP : va_P D vwCl (gW cs ad σ τ) H) (hS : va_S (fun q => s.heap.size ≤ q) s.heap H locs) (hc9 : cells + 10 ≤ 601024) (hs9 : slots + 100 ≤ 7293034) (hv : 0 ≤ v.toInt ∧ v.toInt + 7 ≤ (L : Int) ∧ L ≤ 3584) (hl : lv_has ls 8 [(0, .ref b), (1, .ref (ad 0)), (2, .ref (ad 35)), (3, .ref (ad 34)), (4, .int v)]) (K : ∀ (σ9 : Nat → Nat → Int32) (τ9 : Nat → Nat → Int64) (H9 : Heap) (locs9 : List Loc) (cells9 slots9 : Nat) (ls9 : Array Slot), Rel σ9 → va_P D vwCl (gW cs ad σ9 τ9) H9 → va_S (fun q => s.heap.size ≤ q) s.heap H9 locs9 → cells9 ≤ cells + 1 → slots9 ≤ slots + 6 → lv_has ls9 8 [(0, .ref b), (1, .ref (ad 0)), (2, .ref (ad 35)), (3, .ref (ad 34)), (4, .int v)] → W p l e room_1 s m #[Value.ref b] below meth c H9 locs9 cells9 slots9 Q (F0 m 1120 ls9 [])) : W p l e room_1 s m #[Value.ref b] below meth c H locs cells slots Q (F0 m 424 ls []) := by
  obtain ⟨hx, hb, hml, hown, ht, hXs, hbl, hL, hinj, hnew, hK, hX, hl9⟩ := C0
  have hbA : ¬ (fun q : Nat => s.heap.size ≤ q) b := Nat.not_le.mpr hbl
  refine lv_aload_n hx hb dL_law_424 rfl (lv_at hl 1 rfl) ?_
  refine lv_aload_n hx hb dL_law_425 rfl (lv_at hl 0 rfl) ?_
  refine lv_iload hx hb dL_law_426 (lv_at hl 4 rfl) ?_
  refine lv_iconst (v := 1) hx hb dL_law_428 (by decide) ?_
  refine lv_iadd hx hb dL_law_429 ?_
  have hi_1 : vp_in (v + 1) L := (by have l1 : (1 : Int32).toInt = 1 := (by decide); have b0 := hv; rw [vp_in_iff]; (try simp only [Int32.toInt_add, Int32.toInt_sub, Int32.toInt_mul, Int.bmod_def, l1]); omega)
  refine va_sld hx hb hXs hbl hbA hS hi_1 dL_law_430 ?_
  refine lv_aload_n hx hb dL_law_431 rfl (lv_at hl 0 rfl) ?_
  refine lv_iload hx hb dL_law_432 (lv_at hl 4 rfl) ?_
  refine lv_iconst (v := 2) hx hb dL_law_434 (by decide) ?_
  refine lv_iadd hx hb dL_law_435 ?_
  have hi_2 : vp_in (v + 2) L := (by have l2 : (2 : Int32).toInt = 2 := (by decide); have b0 := hv; rw [vp_in_iff]; (try simp only [Int32.toInt_add, Int32.toInt_sub, Int32.toInt_mul, Int.bmod_def, l2]); omega)
  refine va_sld hx hb hXs hbl hbA hS hi_2 dL_law_436 ?_
  refine lv_aload_n hx hb dL_law_437 rfl (lv_at hl 3 rfl) ?_
  have F := hF σ (xs ((v + 1).toNatClampNeg)) (xs ((v + 2).toNatClampNeg)) hR
  refine g_runR (v := .int (t_vtriangles σ (xs ((v + 1).toNatClampNeg)) (xs ((v + 2).toNatClampNeg)))) (vx_runSW (As := [.ref (ad 0), .int (xs ((v + 1).toNatClampNeg)), .int (xs ((v + 2).toNatClampNeg)), .ref (ad 34)]) (rest := []) ⟨hx, hb, hml, hown, ht⟩ (c_hvtriangles l hl9 hinj σ τ _ (xs ((v + 1).toNatClampNeg)) (xs ((v + 2).toNatClampNeg)) ) (qSW 4 ht tw_345 tw_346 tw_0 tk_L_triangles rfl rfl (by decide +kernel) ⟨(Nat.le_of_ble_eq_true rfl), (Nat.le_of_ble_eq_true rfl)⟩) (g_psL hK hP hX hS hnew) rfl rfl hl.1 rfl (lv_room (Nat.le_of_ble_eq_true rfl)) dL_law_438 ⟨by show _ ≤ 601024; omega, by show _ ≤ 7293034; omega⟩) hS (fun q _ h => gA_new hnew hS.1 q h) (fun q h => gA_new hnew hS.1 q h) (fun H locs hP hz hS => ?_)
  refine lv_istore (lv' := [(5, .int (t_vtriangles σ (xs ((v + 1).toNatClampNeg)) (xs ((v + 2).toNatClampNeg)))), (0, .ref b), (1, .ref (ad 0)), (2, .ref (ad 35)), (3, .ref (ad 34)), (4, .int v)]) hx hb dL_law_441 hl (by decide) rfl (fun ls hl => ?_)
  refine lv_aload_n hx hb dL_law_443 rfl (lv_at hl 3 rfl) ?_
  refine lv_aload_n hx hb dL_law_444 rfl (lv_at hl 1 rfl) ?_
  refine lv_iload hx hb dL_law_445 (lv_at hl 5 rfl) ?_
  refine lv_iconst (v := 1) hx hb dL_law_447 (by decide) ?_
  refine lv_iadd hx hb dL_law_448 ?_
  have hi_3 : vp_in (v + 1) L := (by have l1 : (1 : Int32).toInt = 1 := (by decide); have b0 := hv; rw [vp_in_iff]; (try simp only [Int32.toInt_add, Int32.toInt_sub, Int32.toInt_mul, Int.bmod_def, l1]); omega)
  refine va_sld hx hb hXs hbl hbA hS hi_3 dL_law_449 ?_
  refine lv_aload_n hx hb dL_law_450 rfl (lv_at hl 1 rfl) ?_
  refine lv_iload hx hb dL_law_451 (lv_at hl 5 rfl) ?_
  refine lv_iconst (v := 2) hx hb dL_law_453 (by decide) ?_
  refine lv_iadd hx hb dL_law_454 ?_
  have hi_4 : vp_in (v + 2) L := (by have l2 : (2 : Int32).toInt = 2 := (by decide); have b0 := hv; rw [vp_in_iff]; (try simp only [Int32.toInt_add, Int32.toInt_sub, Int32.toInt_mul, Int.bmod_def, l2]); omega)
  refine va_sld hx hb hXs hbl hbA hS hi_4 dL_law_455 ?_
  refine g_runR (v := .int (f_rtriangles (s_vtriangles σ (xs ((v + 1).toNatClampNeg)) (xs ((v + 2).toNatClampNeg)))  (xs ((v + 1).toNatClampNeg)) (xs ((v + 2).toNatClampNeg)))) (va_runV (C := RR) (As := [.int (xs ((v + 1).toNatClampNeg)), .int (xs ((v + 2).toNatClampNeg))]) (rest := []) ⟨hx, hb, hml, hown, ht⟩ (c_rtriangles l hinj (s_vtriangles σ (xs ((v + 1).toNatClampNeg)) (xs ((v + 2).toNatClampNeg))) (u_vtriangles σ τ (xs ((v + 1).toNatClampNeg)) (xs ((v + 2).toNatClampNeg))) _  (xs ((v + 1).toNatClampNeg)) (xs ((v + 2).toNatClampNeg)) ) (qV 2 ht tw_534 tw_535 tw_536 tw_6 tk_R_triangles rfl rfl (by decide +kernel) ⟨(Nat.le_of_ble_eq_true rfl), (Nat.le_of_ble_eq_true rfl)⟩) (g_pv (ci := 5) hK hP (by decide) rfl kR rfl) rfl rfl hl.1 rfl (lv_room (Nat.le_of_ble_eq_true rfl)) dL_law_456 ⟨by show _ ≤ 601024; omega, by show _ ≤ 7293034; omega⟩) hS (fun q _ h => gA_new hnew hS.1 q h) (fun q h => gA_new hnew hS.1 q h) (fun H locs hP hz hS => ?_)
  refine lv_istore (lv' := [(6, .int (f_rtriangles (s_vtriangles σ (xs ((v + 1).toNatClampNeg)) (xs ((v + 2).toNatClampNeg)))  (xs ((v + 1).toNatClampNeg)) (xs ((v + 2).toNatClampNeg)))), (5, .int (t_vtriangles σ (xs ((v + 1).toNatClampNeg)) (xs ((v + 2).toNatClampNeg)))), (0, .ref b), (1, .ref (ad 0)), (2, .ref (ad 35)), (3, .ref (ad 34)), (4, .int v)]) hx hb dL_law_459 hl (by decide) rfl (fun ls hl => ?_)
  refine lv_aload_n hx hb dL_law_461 rfl (lv_at hl 4 rfl) ?_
  refine g_pure (v := .int (f_thrown (s_rtriangles (s_vtriangles σ (xs ((v + 1).toNatClampNeg)) (xs ((v + 2).toNatClampNeg)))  (xs ((v + 1).toNatClampNeg)) (xs ((v + 2).toNatClampNeg)))  )) (va_runV (C := RR) (As := []) (rest := []) ⟨hx, hb, hml, hown, ht⟩ (c_thrown l hinj (s_rtriangles (s_vtriangles σ (xs ((v + 1).toNatClampNeg)) (xs ((v + 2).toNatClampNeg)))  (xs ((v + 1).toNatClampNeg)) (xs ((v + 2).toNatClampNeg))) (u_vtriangles σ τ (xs ((v + 1).toNatClampNeg)) (xs ((v + 2).toNatClampNeg))) _   ) (qV 0 ht tw_492 tw_493 tw_494 tw_6 tk_R_thrown rfl rfl (by decide +kernel) ⟨(Nat.le_of_ble_eq_true rfl), (Nat.le_of_ble_eq_true rfl)⟩) (g_pv (ci := 5) hK hP (by decide) rfl kR rfl) rfl rfl hl.1 rfl (lv_room (Nat.le_of_ble_eq_true rfl)) dL_law_462 ⟨by show _ ≤ 601024; omega, by show _ ≤ 7293034; omega⟩) ?_
  refine lv_iload hx hb dL_law_465 (lv_at hl 1 rfl) ?_
  refine lv_icmp_eq (tgt := 472) hx hb dL_law_467 (by decide) (fun c_5 => ?_) (fun c_5 => ?_)
  · refine lv_iload hx hb dL_law_472 (lv_at hl 1 rfl) ?_
    refine lv_if_ne (tgt := 489) hx hb dL_law_474 (by decide) (fun c_6 => ?_) (fun c_6 => ?_)
    · refine lv_goto (tgt := 1120) hx hb dL_law_489 (by decide) ?_
      exact K _ _ _ _ _ _ ls F.2.2 hP hS (by omega) (by omega) (lv_sub hl [2, 3, 4, 5, 6] rfl)
    · refine lv_aload_n hx hb dL_law_477 rfl (lv_at hl 5 rfl) ?_
      refine lv_iconst (v := 0) hx hb dL_law_478 (by decide) ?_
      have hi_7 : vp_in (0 : Int32) 1 := (by unfold vp_in; decide)
      refine g_lald hx hb hK hP 34 3 (by decide) (fun r t => kL) rfl hi_7 dL_law_479 ?_
      refine lv_iload hx hb dL_law_480 (lv_at hl 0 rfl) ?_
      refine lv_i2l hx hb dL_law_482 rfl ?_
      refine W.lcmp hx hb dL_law_483 ?_
      refine lv_if_eq (tgt := 489) hx hb dL_law_484 (by decide) (fun c_8 => ?_) (fun c_8 => ?_)
      · refine lv_goto (tgt := 1120) hx hb dL_law_489 (by decide) ?_
        exact K _ _ _ _ _ _ ls F.2.2 hP hS (by omega) (by omega) (lv_sub hl [2, 3, 4, 5, 6] rfl)
      · exact absurd ((lg_cmp_eq _ _).mpr ((uo_vtriangles c_6).trans (congrArg Int32.toInt64 (F.2.1 c_6)))) c_8
  · exact absurd F.1 c_5
theorem uo_vcorner {σ : Nat → Nat → Int32} {τ : Nat → Nat → Int64} {a0 a1 a2 : Int32} (h : t_vcorner σ a0 a1 a2 = 0) : u_vcorner σ τ a0 a1 a2 34 (0 : Int32).toNatClampNeg = (f_vcorner σ a0 a1 a2).toInt64 := by
  unfold u_vcorner
  rw [if_pos h, wl2_row]
  exact pk_uLs
set_option maxHeartbeats 800000 in
set_option maxRecDepth 100000 in
theorem lc_corner {p : Program} {l : Launch} {e : Env} {s : State} {m : MethodId} {below : List Frame} {meth : Method} {c : Code} {b L : Nat} {xs : Nat → Int32} {D : va_G} {cs : Nat → ClassId} {ad : Nat → Nat} {Q : State → Prop} (C0 : lC p l s m meth c b L xs D cs ad) (Rel : (Nat → Nat → Int32) → Prop) (hF : ∀ σ (a0 a1 a2 : Int32), Rel σ → s_rcorner (s_vcorner σ a0 a1 a2) a0 a1 a2 35 0 = t_vcorner σ a0 a1 a2 ∧ (t_vcorner σ a0 a1 a2 = 0 → f_vcorner σ a0 a1 a2 = f_rcorner (s_vcorner σ a0 a1 a2) a0 a1 a2) ∧ Rel (s_rcorner (s_vcorner σ a0 a1 a2) a0 a1 a2))  {σ : Nat → Nat → Int32} {τ : Nat → Nat → Int64} {H : Heap} {locs : List Loc} {cells slots : Nat} {v : Int32} {ls : Array Slot} (hR : Rel σ) (hP : va_P D vwCl (gW cs ad σ τ) H) (hS : va_S (fun q => s.heap.size ≤ q) s.heap H locs) (hc9 : cells + 10 ≤ 601024) (hs9 : slots + 100 ≤ 7293034) (hv : 0 ≤ v.toInt ∧ v.toInt + 7 ≤ (L : Int) ∧ L ≤ 3584) (hl : lv_has ls 8 [(0, .ref b), (1, .ref (ad 0)), (2, .ref (ad 35)), (3, .ref (ad 34)), (4, .int v)]) (K : ∀ (σ9 : Nat → Nat → Int32) (τ9 : Nat → Nat → Int64) (H9 : Heap) (locs9 : List Loc) (cells9 slots9 : Nat) (ls9 : Array Slot), Rel σ9 → va_P D vwCl (gW cs ad σ9 τ9) H9 → va_S (fun q => s.heap.size ≤ q) s.heap H9 locs9 → cells9 ≤ cells + 1 → slots9 ≤ slots + 6 → lv_has ls9 8 [(0, .ref b), (1, .ref (ad 0)), (2, .ref (ad 35)), (3, .ref (ad 34)), (4, .int v)] → W p l e room_1 s m #[Value.ref b] below meth c H9 locs9 cells9 slots9 Q (F0 m 1120 ls9 [])) : W p l e room_1 s m #[Value.ref b] below meth c H locs cells slots Q (F0 m 492 ls []) := by
  obtain ⟨hx, hb, hml, hown, ht, hXs, hbl, hL, hinj, hnew, hK, hX, hl9⟩ := C0
  have hbA : ¬ (fun q : Nat => s.heap.size ≤ q) b := Nat.not_le.mpr hbl
  refine lv_aload_n hx hb dL_law_492 rfl (lv_at hl 1 rfl) ?_
  refine lv_aload_n hx hb dL_law_493 rfl (lv_at hl 0 rfl) ?_
  refine lv_iload hx hb dL_law_494 (lv_at hl 4 rfl) ?_
  refine lv_iconst (v := 1) hx hb dL_law_496 (by decide) ?_
  refine lv_iadd hx hb dL_law_497 ?_
  have hi_1 : vp_in (v + 1) L := (by have l1 : (1 : Int32).toInt = 1 := (by decide); have b0 := hv; rw [vp_in_iff]; (try simp only [Int32.toInt_add, Int32.toInt_sub, Int32.toInt_mul, Int.bmod_def, l1]); omega)
  refine va_sld hx hb hXs hbl hbA hS hi_1 dL_law_498 ?_
  refine lv_aload_n hx hb dL_law_499 rfl (lv_at hl 0 rfl) ?_
  refine lv_iload hx hb dL_law_500 (lv_at hl 4 rfl) ?_
  refine lv_iconst (v := 2) hx hb dL_law_502 (by decide) ?_
  refine lv_iadd hx hb dL_law_503 ?_
  have hi_2 : vp_in (v + 2) L := (by have l2 : (2 : Int32).toInt = 2 := (by decide); have b0 := hv; rw [vp_in_iff]; (try simp only [Int32.toInt_add, Int32.toInt_sub, Int32.toInt_mul, Int.bmod_def, l2]); omega)
  refine va_sld hx hb hXs hbl hbA hS hi_2 dL_law_504 ?_
  refine lv_aload_n hx hb dL_law_505 rfl (lv_at hl 0 rfl) ?_
  refine lv_iload hx hb dL_law_506 (lv_at hl 4 rfl) ?_
  refine lv_iconst (v := 3) hx hb dL_law_508 (by decide) ?_
  refine lv_iadd hx hb dL_law_509 ?_
  have hi_3 : vp_in (v + 3) L := (by have l3 : (3 : Int32).toInt = 3 := (by decide); have b0 := hv; rw [vp_in_iff]; (try simp only [Int32.toInt_add, Int32.toInt_sub, Int32.toInt_mul, Int.bmod_def, l3]); omega)
  refine va_sld hx hb hXs hbl hbA hS hi_3 dL_law_510 ?_
  refine lv_aload_n hx hb dL_law_511 rfl (lv_at hl 3 rfl) ?_
  have F := hF σ (xs ((v + 1).toNatClampNeg)) (xs ((v + 2).toNatClampNeg)) (xs ((v + 3).toNatClampNeg)) hR
  refine g_runR (v := .int (t_vcorner σ (xs ((v + 1).toNatClampNeg)) (xs ((v + 2).toNatClampNeg)) (xs ((v + 3).toNatClampNeg)))) (vx_runSW (As := [.ref (ad 0), .int (xs ((v + 1).toNatClampNeg)), .int (xs ((v + 2).toNatClampNeg)), .int (xs ((v + 3).toNatClampNeg)), .ref (ad 34)]) (rest := []) ⟨hx, hb, hml, hown, ht⟩ (c_hvcorner l hl9 hinj σ τ _ (xs ((v + 1).toNatClampNeg)) (xs ((v + 2).toNatClampNeg)) (xs ((v + 3).toNatClampNeg)) ) (qSW 5 ht tw_353 tw_354 tw_0 tk_L_corner rfl rfl (by decide +kernel) ⟨(Nat.le_of_ble_eq_true rfl), (Nat.le_of_ble_eq_true rfl)⟩) (g_psL hK hP hX hS hnew) rfl rfl hl.1 rfl (lv_room (Nat.le_of_ble_eq_true rfl)) dL_law_512 ⟨by show _ ≤ 601024; omega, by show _ ≤ 7293034; omega⟩) hS (fun q _ h => gA_new hnew hS.1 q h) (fun q h => gA_new hnew hS.1 q h) (fun H locs hP hz hS => ?_)
  refine lv_istore (lv' := [(5, .int (t_vcorner σ (xs ((v + 1).toNatClampNeg)) (xs ((v + 2).toNatClampNeg)) (xs ((v + 3).toNatClampNeg)))), (0, .ref b), (1, .ref (ad 0)), (2, .ref (ad 35)), (3, .ref (ad 34)), (4, .int v)]) hx hb dL_law_515 hl (by decide) rfl (fun ls hl => ?_)
  refine lv_aload_n hx hb dL_law_517 rfl (lv_at hl 3 rfl) ?_
  refine lv_aload_n hx hb dL_law_518 rfl (lv_at hl 1 rfl) ?_
  refine lv_iload hx hb dL_law_519 (lv_at hl 5 rfl) ?_
  refine lv_iconst (v := 1) hx hb dL_law_521 (by decide) ?_
  refine lv_iadd hx hb dL_law_522 ?_
  have hi_4 : vp_in (v + 1) L := (by have l1 : (1 : Int32).toInt = 1 := (by decide); have b0 := hv; rw [vp_in_iff]; (try simp only [Int32.toInt_add, Int32.toInt_sub, Int32.toInt_mul, Int.bmod_def, l1]); omega)
  refine va_sld hx hb hXs hbl hbA hS hi_4 dL_law_523 ?_
  refine lv_aload_n hx hb dL_law_524 rfl (lv_at hl 1 rfl) ?_
  refine lv_iload hx hb dL_law_525 (lv_at hl 5 rfl) ?_
  refine lv_iconst (v := 2) hx hb dL_law_527 (by decide) ?_
  refine lv_iadd hx hb dL_law_528 ?_
  have hi_5 : vp_in (v + 2) L := (by have l2 : (2 : Int32).toInt = 2 := (by decide); have b0 := hv; rw [vp_in_iff]; (try simp only [Int32.toInt_add, Int32.toInt_sub, Int32.toInt_mul, Int.bmod_def, l2]); omega)
  refine va_sld hx hb hXs hbl hbA hS hi_5 dL_law_529 ?_
  refine lv_aload_n hx hb dL_law_530 rfl (lv_at hl 1 rfl) ?_
  refine lv_iload hx hb dL_law_531 (lv_at hl 5 rfl) ?_
  refine lv_iconst (v := 3) hx hb dL_law_533 (by decide) ?_
  refine lv_iadd hx hb dL_law_534 ?_
  have hi_6 : vp_in (v + 3) L := (by have l3 : (3 : Int32).toInt = 3 := (by decide); have b0 := hv; rw [vp_in_iff]; (try simp only [Int32.toInt_add, Int32.toInt_sub, Int32.toInt_mul, Int.bmod_def, l3]); omega)
  refine va_sld hx hb hXs hbl hbA hS hi_6 dL_law_535 ?_
  refine g_runR (v := .int (f_rcorner (s_vcorner σ (xs ((v + 1).toNatClampNeg)) (xs ((v + 2).toNatClampNeg)) (xs ((v + 3).toNatClampNeg)))  (xs ((v + 1).toNatClampNeg)) (xs ((v + 2).toNatClampNeg)) (xs ((v + 3).toNatClampNeg)))) (va_runV (C := RR) (As := [.int (xs ((v + 1).toNatClampNeg)), .int (xs ((v + 2).toNatClampNeg)), .int (xs ((v + 3).toNatClampNeg))]) (rest := []) ⟨hx, hb, hml, hown, ht⟩ (c_rcorner l hinj (s_vcorner σ (xs ((v + 1).toNatClampNeg)) (xs ((v + 2).toNatClampNeg)) (xs ((v + 3).toNatClampNeg))) (u_vcorner σ τ (xs ((v + 1).toNatClampNeg)) (xs ((v + 2).toNatClampNeg)) (xs ((v + 3).toNatClampNeg))) _  (xs ((v + 1).toNatClampNeg)) (xs ((v + 2).toNatClampNeg)) (xs ((v + 3).toNatClampNeg)) ) (qV 3 ht tw_538 tw_539 tw_540 tw_6 tk_R_corner rfl rfl (by decide +kernel) ⟨(Nat.le_of_ble_eq_true rfl), (Nat.le_of_ble_eq_true rfl)⟩) (g_pv (ci := 5) hK hP (by decide) rfl kR rfl) rfl rfl hl.1 rfl (lv_room (Nat.le_of_ble_eq_true rfl)) dL_law_536 ⟨by show _ ≤ 601024; omega, by show _ ≤ 7293034; omega⟩) hS (fun q _ h => gA_new hnew hS.1 q h) (fun q h => gA_new hnew hS.1 q h) (fun H locs hP hz hS => ?_)
  refine lv_istore (lv' := [(6, .int (f_rcorner (s_vcorner σ (xs ((v + 1).toNatClampNeg)) (xs ((v + 2).toNatClampNeg)) (xs ((v + 3).toNatClampNeg)))  (xs ((v + 1).toNatClampNeg)) (xs ((v + 2).toNatClampNeg)) (xs ((v + 3).toNatClampNeg)))), (5, .int (t_vcorner σ (xs ((v + 1).toNatClampNeg)) (xs ((v + 2).toNatClampNeg)) (xs ((v + 3).toNatClampNeg)))), (0, .ref b), (1, .ref (ad 0)), (2, .ref (ad 35)), (3, .ref (ad 34)), (4, .int v)]) hx hb dL_law_539 hl (by decide) rfl (fun ls hl => ?_)
  refine lv_aload_n hx hb dL_law_541 rfl (lv_at hl 4 rfl) ?_
  refine g_pure (v := .int (f_thrown (s_rcorner (s_vcorner σ (xs ((v + 1).toNatClampNeg)) (xs ((v + 2).toNatClampNeg)) (xs ((v + 3).toNatClampNeg)))  (xs ((v + 1).toNatClampNeg)) (xs ((v + 2).toNatClampNeg)) (xs ((v + 3).toNatClampNeg)))  )) (va_runV (C := RR) (As := []) (rest := []) ⟨hx, hb, hml, hown, ht⟩ (c_thrown l hinj (s_rcorner (s_vcorner σ (xs ((v + 1).toNatClampNeg)) (xs ((v + 2).toNatClampNeg)) (xs ((v + 3).toNatClampNeg)))  (xs ((v + 1).toNatClampNeg)) (xs ((v + 2).toNatClampNeg)) (xs ((v + 3).toNatClampNeg))) (u_vcorner σ τ (xs ((v + 1).toNatClampNeg)) (xs ((v + 2).toNatClampNeg)) (xs ((v + 3).toNatClampNeg))) _   ) (qV 0 ht tw_492 tw_493 tw_494 tw_6 tk_R_thrown rfl rfl (by decide +kernel) ⟨(Nat.le_of_ble_eq_true rfl), (Nat.le_of_ble_eq_true rfl)⟩) (g_pv (ci := 5) hK hP (by decide) rfl kR rfl) rfl rfl hl.1 rfl (lv_room (Nat.le_of_ble_eq_true rfl)) dL_law_542 ⟨by show _ ≤ 601024; omega, by show _ ≤ 7293034; omega⟩) ?_
  refine lv_iload hx hb dL_law_545 (lv_at hl 1 rfl) ?_
  refine lv_icmp_eq (tgt := 552) hx hb dL_law_547 (by decide) (fun c_7 => ?_) (fun c_7 => ?_)
  · refine lv_iload hx hb dL_law_552 (lv_at hl 1 rfl) ?_
    refine lv_if_ne (tgt := 569) hx hb dL_law_554 (by decide) (fun c_8 => ?_) (fun c_8 => ?_)
    · refine lv_goto (tgt := 1120) hx hb dL_law_569 (by decide) ?_
      exact K _ _ _ _ _ _ ls F.2.2 hP hS (by omega) (by omega) (lv_sub hl [2, 3, 4, 5, 6] rfl)
    · refine lv_aload_n hx hb dL_law_557 rfl (lv_at hl 5 rfl) ?_
      refine lv_iconst (v := 0) hx hb dL_law_558 (by decide) ?_
      have hi_9 : vp_in (0 : Int32) 1 := (by unfold vp_in; decide)
      refine g_lald hx hb hK hP 34 3 (by decide) (fun r t => kL) rfl hi_9 dL_law_559 ?_
      refine lv_iload hx hb dL_law_560 (lv_at hl 0 rfl) ?_
      refine lv_i2l hx hb dL_law_562 rfl ?_
      refine W.lcmp hx hb dL_law_563 ?_
      refine lv_if_eq (tgt := 569) hx hb dL_law_564 (by decide) (fun c_10 => ?_) (fun c_10 => ?_)
      · refine lv_goto (tgt := 1120) hx hb dL_law_569 (by decide) ?_
        exact K _ _ _ _ _ _ ls F.2.2 hP hS (by omega) (by omega) (lv_sub hl [2, 3, 4, 5, 6] rfl)
      · exact absurd ((lg_cmp_eq _ _).mpr ((uo_vcorner c_8).trans (congrArg Int32.toInt64 (F.2.1 c_8)))) c_10
  · exact absurd F.1 c_7
set_option maxHeartbeats 800000 in
set_option maxRecDepth 100000 in
theorem lc_place {p : Program} {l : Launch} {e : Env} {s : State} {m : MethodId} {below : List Frame} {meth : Method} {c : Code} {b L : Nat} {xs : Nat → Int32} {D : va_G} {cs : Nat → ClassId} {ad : Nat → Nat} {Q : State → Prop} (C0 : lC p l s m meth c b L xs D cs ad) (Rel : (Nat → Nat → Int32) → Prop) (hF : ∀ σ (a0 a1 a2 a3 a4 : Int32), Rel σ → s_rplace (s_vplace σ a0 a1 a2 a3 a4) a0 a1 a2 a3 a4 35 0 = t_vplace σ a0 a1 a2 a3 a4 ∧ Rel (s_rplace (s_vplace σ a0 a1 a2 a3 a4) a0 a1 a2 a3 a4))  {σ : Nat → Nat → Int32} {τ : Nat → Nat → Int64} {H : Heap} {locs : List Loc} {cells slots : Nat} {v : Int32} {ls : Array Slot} (hR : Rel σ) (hP : va_P D vwCl (gW cs ad σ τ) H) (hS : va_S (fun q => s.heap.size ≤ q) s.heap H locs) (hc9 : cells + 10 ≤ 601024) (hs9 : slots + 100 ≤ 7293034) (hv : 0 ≤ v.toInt ∧ v.toInt + 7 ≤ (L : Int) ∧ L ≤ 3584) (hl : lv_has ls 8 [(0, .ref b), (1, .ref (ad 0)), (2, .ref (ad 35)), (3, .ref (ad 34)), (4, .int v)]) (K : ∀ (σ9 : Nat → Nat → Int32) (τ9 : Nat → Nat → Int64) (H9 : Heap) (locs9 : List Loc) (cells9 slots9 : Nat) (ls9 : Array Slot), Rel σ9 → va_P D vwCl (gW cs ad σ9 τ9) H9 → va_S (fun q => s.heap.size ≤ q) s.heap H9 locs9 → cells9 ≤ cells + 1 → slots9 ≤ slots + 6 → lv_has ls9 8 [(0, .ref b), (1, .ref (ad 0)), (2, .ref (ad 35)), (3, .ref (ad 34)), (4, .int v)] → W p l e room_1 s m #[Value.ref b] below meth c H9 locs9 cells9 slots9 Q (F0 m 1120 ls9 [])) : W p l e room_1 s m #[Value.ref b] below meth c H locs cells slots Q (F0 m 572 ls []) := by
  obtain ⟨hx, hb, hml, hown, ht, hXs, hbl, hL, hinj, hnew, hK, hX, hl9⟩ := C0
  have hbA : ¬ (fun q : Nat => s.heap.size ≤ q) b := Nat.not_le.mpr hbl
  refine lv_aload_n hx hb dL_law_572 rfl (lv_at hl 1 rfl) ?_
  refine lv_aload_n hx hb dL_law_573 rfl (lv_at hl 0 rfl) ?_
  refine lv_iload hx hb dL_law_574 (lv_at hl 4 rfl) ?_
  refine lv_iconst (v := 1) hx hb dL_law_576 (by decide) ?_
  refine lv_iadd hx hb dL_law_577 ?_
  have hi_1 : vp_in (v + 1) L := (by have l1 : (1 : Int32).toInt = 1 := (by decide); have b0 := hv; rw [vp_in_iff]; (try simp only [Int32.toInt_add, Int32.toInt_sub, Int32.toInt_mul, Int.bmod_def, l1]); omega)
  refine va_sld hx hb hXs hbl hbA hS hi_1 dL_law_578 ?_
  refine lv_aload_n hx hb dL_law_579 rfl (lv_at hl 0 rfl) ?_
  refine lv_iload hx hb dL_law_580 (lv_at hl 4 rfl) ?_
  refine lv_iconst (v := 2) hx hb dL_law_582 (by decide) ?_
  refine lv_iadd hx hb dL_law_583 ?_
  have hi_2 : vp_in (v + 2) L := (by have l2 : (2 : Int32).toInt = 2 := (by decide); have b0 := hv; rw [vp_in_iff]; (try simp only [Int32.toInt_add, Int32.toInt_sub, Int32.toInt_mul, Int.bmod_def, l2]); omega)
  refine va_sld hx hb hXs hbl hbA hS hi_2 dL_law_584 ?_
  refine lv_aload_n hx hb dL_law_585 rfl (lv_at hl 0 rfl) ?_
  refine lv_iload hx hb dL_law_586 (lv_at hl 4 rfl) ?_
  refine lv_iconst (v := 3) hx hb dL_law_588 (by decide) ?_
  refine lv_iadd hx hb dL_law_589 ?_
  have hi_3 : vp_in (v + 3) L := (by have l3 : (3 : Int32).toInt = 3 := (by decide); have b0 := hv; rw [vp_in_iff]; (try simp only [Int32.toInt_add, Int32.toInt_sub, Int32.toInt_mul, Int.bmod_def, l3]); omega)
  refine va_sld hx hb hXs hbl hbA hS hi_3 dL_law_590 ?_
  refine lv_aload_n hx hb dL_law_591 rfl (lv_at hl 0 rfl) ?_
  refine lv_iload hx hb dL_law_592 (lv_at hl 4 rfl) ?_
  refine lv_iconst (v := 4) hx hb dL_law_594 (by decide) ?_
  refine lv_iadd hx hb dL_law_595 ?_
  have hi_4 : vp_in (v + 4) L := (by have l4 : (4 : Int32).toInt = 4 := (by decide); have b0 := hv; rw [vp_in_iff]; (try simp only [Int32.toInt_add, Int32.toInt_sub, Int32.toInt_mul, Int.bmod_def, l4]); omega)
  refine va_sld hx hb hXs hbl hbA hS hi_4 dL_law_596 ?_
  refine lv_aload_n hx hb dL_law_597 rfl (lv_at hl 0 rfl) ?_
  refine lv_iload hx hb dL_law_598 (lv_at hl 4 rfl) ?_
  refine lv_iconst (v := 5) hx hb dL_law_600 (by decide) ?_
  refine lv_iadd hx hb dL_law_601 ?_
  have hi_5 : vp_in (v + 5) L := (by have l5 : (5 : Int32).toInt = 5 := (by decide); have b0 := hv; rw [vp_in_iff]; (try simp only [Int32.toInt_add, Int32.toInt_sub, Int32.toInt_mul, Int.bmod_def, l5]); omega)
  refine va_sld hx hb hXs hbl hbA hS hi_5 dL_law_602 ?_
  have F := hF σ (xs ((v + 1).toNatClampNeg)) (xs ((v + 2).toNatClampNeg)) (xs ((v + 3).toNatClampNeg)) (xs ((v + 4).toNatClampNeg)) (xs ((v + 5).toNatClampNeg)) hR
  refine g_runR (v := .int (t_vplace σ (xs ((v + 1).toNatClampNeg)) (xs ((v + 2).toNatClampNeg)) (xs ((v + 3).toNatClampNeg)) (xs ((v + 4).toNatClampNeg)) (xs ((v + 5).toNatClampNeg)))) (vx_runSW (As := [.ref (ad 0), .int (xs ((v + 1).toNatClampNeg)), .int (xs ((v + 2).toNatClampNeg)), .int (xs ((v + 3).toNatClampNeg)), .int (xs ((v + 4).toNatClampNeg)), .int (xs ((v + 5).toNatClampNeg))]) (rest := []) ⟨hx, hb, hml, hown, ht⟩ (c_hvplace l hl9 hinj σ τ _ (xs ((v + 1).toNatClampNeg)) (xs ((v + 2).toNatClampNeg)) (xs ((v + 3).toNatClampNeg)) (xs ((v + 4).toNatClampNeg)) (xs ((v + 5).toNatClampNeg)) ) (qSW 6 ht tw_368 tw_369 tw_0 tk_L_place rfl rfl (by decide +kernel) ⟨(Nat.le_of_ble_eq_true rfl), (Nat.le_of_ble_eq_true rfl)⟩) (g_psL hK hP hX hS hnew) rfl rfl hl.1 rfl (lv_room (Nat.le_of_ble_eq_true rfl)) dL_law_603 ⟨by show _ ≤ 601024; omega, by show _ ≤ 7293034; omega⟩) hS (fun q _ h => gA_new hnew hS.1 q h) (fun q h => gA_new hnew hS.1 q h) (fun H locs hP hz hS => ?_)
  refine lv_istore (lv' := [(5, .int (t_vplace σ (xs ((v + 1).toNatClampNeg)) (xs ((v + 2).toNatClampNeg)) (xs ((v + 3).toNatClampNeg)) (xs ((v + 4).toNatClampNeg)) (xs ((v + 5).toNatClampNeg)))), (0, .ref b), (1, .ref (ad 0)), (2, .ref (ad 35)), (3, .ref (ad 34)), (4, .int v)]) hx hb dL_law_606 hl (by decide) rfl (fun ls hl => ?_)
  refine lv_aload_n hx hb dL_law_608 rfl (lv_at hl 3 rfl) ?_
  refine lv_aload_n hx hb dL_law_609 rfl (lv_at hl 1 rfl) ?_
  refine lv_iload hx hb dL_law_610 (lv_at hl 5 rfl) ?_
  refine lv_iconst (v := 1) hx hb dL_law_612 (by decide) ?_
  refine lv_iadd hx hb dL_law_613 ?_
  have hi_6 : vp_in (v + 1) L := (by have l1 : (1 : Int32).toInt = 1 := (by decide); have b0 := hv; rw [vp_in_iff]; (try simp only [Int32.toInt_add, Int32.toInt_sub, Int32.toInt_mul, Int.bmod_def, l1]); omega)
  refine va_sld hx hb hXs hbl hbA hS hi_6 dL_law_614 ?_
  refine lv_aload_n hx hb dL_law_615 rfl (lv_at hl 1 rfl) ?_
  refine lv_iload hx hb dL_law_616 (lv_at hl 5 rfl) ?_
  refine lv_iconst (v := 2) hx hb dL_law_618 (by decide) ?_
  refine lv_iadd hx hb dL_law_619 ?_
  have hi_7 : vp_in (v + 2) L := (by have l2 : (2 : Int32).toInt = 2 := (by decide); have b0 := hv; rw [vp_in_iff]; (try simp only [Int32.toInt_add, Int32.toInt_sub, Int32.toInt_mul, Int.bmod_def, l2]); omega)
  refine va_sld hx hb hXs hbl hbA hS hi_7 dL_law_620 ?_
  refine lv_aload_n hx hb dL_law_621 rfl (lv_at hl 1 rfl) ?_
  refine lv_iload hx hb dL_law_622 (lv_at hl 5 rfl) ?_
  refine lv_iconst (v := 3) hx hb dL_law_624 (by decide) ?_
  refine lv_iadd hx hb dL_law_625 ?_
  have hi_8 : vp_in (v + 3) L := (by have l3 : (3 : Int32).toInt = 3 := (by decide); have b0 := hv; rw [vp_in_iff]; (try simp only [Int32.toInt_add, Int32.toInt_sub, Int32.toInt_mul, Int.bmod_def, l3]); omega)
  refine va_sld hx hb hXs hbl hbA hS hi_8 dL_law_626 ?_
  refine lv_aload_n hx hb dL_law_627 rfl (lv_at hl 1 rfl) ?_
  refine lv_iload hx hb dL_law_628 (lv_at hl 5 rfl) ?_
  refine lv_iconst (v := 4) hx hb dL_law_630 (by decide) ?_
  refine lv_iadd hx hb dL_law_631 ?_
  have hi_9 : vp_in (v + 4) L := (by have l4 : (4 : Int32).toInt = 4 := (by decide); have b0 := hv; rw [vp_in_iff]; (try simp only [Int32.toInt_add, Int32.toInt_sub, Int32.toInt_mul, Int.bmod_def, l4]); omega)
  refine va_sld hx hb hXs hbl hbA hS hi_9 dL_law_632 ?_
  refine lv_aload_n hx hb dL_law_633 rfl (lv_at hl 1 rfl) ?_
  refine lv_iload hx hb dL_law_634 (lv_at hl 5 rfl) ?_
  refine lv_iconst (v := 5) hx hb dL_law_636 (by decide) ?_
  refine lv_iadd hx hb dL_law_637 ?_
  have hi_10 : vp_in (v + 5) L := (by have l5 : (5 : Int32).toInt = 5 := (by decide); have b0 := hv; rw [vp_in_iff]; (try simp only [Int32.toInt_add, Int32.toInt_sub, Int32.toInt_mul, Int.bmod_def, l5]); omega)
  refine va_sld hx hb hXs hbl hbA hS hi_10 dL_law_638 ?_
  refine g_runV (va_runV (C := RR) (As := [.int (xs ((v + 1).toNatClampNeg)), .int (xs ((v + 2).toNatClampNeg)), .int (xs ((v + 3).toNatClampNeg)), .int (xs ((v + 4).toNatClampNeg)), .int (xs ((v + 5).toNatClampNeg))]) (rest := []) ⟨hx, hb, hml, hown, ht⟩ (c_rplace l hinj (s_vplace σ (xs ((v + 1).toNatClampNeg)) (xs ((v + 2).toNatClampNeg)) (xs ((v + 3).toNatClampNeg)) (xs ((v + 4).toNatClampNeg)) (xs ((v + 5).toNatClampNeg))) τ _  (xs ((v + 1).toNatClampNeg)) (xs ((v + 2).toNatClampNeg)) (xs ((v + 3).toNatClampNeg)) (xs ((v + 4).toNatClampNeg)) (xs ((v + 5).toNatClampNeg)) ) (qV 5 ht tw_543 tw_544 tw_545 tw_6 tk_R_place rfl rfl (by decide +kernel) ⟨(Nat.le_of_ble_eq_true rfl), (Nat.le_of_ble_eq_true rfl)⟩) (g_pv (ci := 5) hK hP (by decide) rfl kR rfl) rfl rfl hl.1 rfl (lv_room (Nat.le_of_ble_eq_true rfl)) dL_law_639 ⟨by show _ ≤ 601024; omega, by show _ ≤ 7293034; omega⟩) hS (fun q _ h => gA_new hnew hS.1 q h) (fun q h => gA_new hnew hS.1 q h) (fun H locs hP hz hS => ?_)
  refine lv_aload_n hx hb dL_law_642 rfl (lv_at hl 3 rfl) ?_
  refine g_pure (v := .int (f_thrown (s_rplace (s_vplace σ (xs ((v + 1).toNatClampNeg)) (xs ((v + 2).toNatClampNeg)) (xs ((v + 3).toNatClampNeg)) (xs ((v + 4).toNatClampNeg)) (xs ((v + 5).toNatClampNeg)))  (xs ((v + 1).toNatClampNeg)) (xs ((v + 2).toNatClampNeg)) (xs ((v + 3).toNatClampNeg)) (xs ((v + 4).toNatClampNeg)) (xs ((v + 5).toNatClampNeg)))  )) (va_runV (C := RR) (As := []) (rest := []) ⟨hx, hb, hml, hown, ht⟩ (c_thrown l hinj (s_rplace (s_vplace σ (xs ((v + 1).toNatClampNeg)) (xs ((v + 2).toNatClampNeg)) (xs ((v + 3).toNatClampNeg)) (xs ((v + 4).toNatClampNeg)) (xs ((v + 5).toNatClampNeg)))  (xs ((v + 1).toNatClampNeg)) (xs ((v + 2).toNatClampNeg)) (xs ((v + 3).toNatClampNeg)) (xs ((v + 4).toNatClampNeg)) (xs ((v + 5).toNatClampNeg))) τ _   ) (qV 0 ht tw_492 tw_493 tw_494 tw_6 tk_R_thrown rfl rfl (by decide +kernel) ⟨(Nat.le_of_ble_eq_true rfl), (Nat.le_of_ble_eq_true rfl)⟩) (g_pv (ci := 5) hK hP (by decide) rfl kR rfl) rfl rfl hl.1 rfl (lv_room (Nat.le_of_ble_eq_true rfl)) dL_law_643 ⟨by show _ ≤ 601024; omega, by show _ ≤ 7293034; omega⟩) ?_
  refine lv_iload hx hb dL_law_646 (lv_at hl 0 rfl) ?_
  refine lv_icmp_eq (tgt := 653) hx hb dL_law_648 (by decide) (fun c_11 => ?_) (fun c_11 => ?_)
  · refine lv_goto (tgt := 1120) hx hb dL_law_653 (by decide) ?_
    exact K _ _ _ _ _ _ ls F.2 hP hS (by omega) (by omega) (lv_sub hl [1, 2, 3, 4, 5] rfl)
  · exact absurd F.1 c_11
set_option maxHeartbeats 800000 in
set_option maxRecDepth 100000 in
theorem lc_vary {p : Program} {l : Launch} {e : Env} {s : State} {m : MethodId} {below : List Frame} {meth : Method} {c : Code} {b L : Nat} {xs : Nat → Int32} {D : va_G} {cs : Nat → ClassId} {ad : Nat → Nat} {Q : State → Prop} (C0 : lC p l s m meth c b L xs D cs ad) (Rel : (Nat → Nat → Int32) → Prop) (hF : ∀ σ (a0 a1 a2 a3 a4 a5 : Int32), Rel σ → s_rvary (s_vvary σ a0 a1 a2 a3 a4 a5) a0 a1 a2 a3 a4 a5 35 0 = t_vvary σ a0 a1 a2 a3 a4 a5 ∧ Rel (s_rvary (s_vvary σ a0 a1 a2 a3 a4 a5) a0 a1 a2 a3 a4 a5))  {σ : Nat → Nat → Int32} {τ : Nat → Nat → Int64} {H : Heap} {locs : List Loc} {cells slots : Nat} {v : Int32} {ls : Array Slot} (hR : Rel σ) (hP : va_P D vwCl (gW cs ad σ τ) H) (hS : va_S (fun q => s.heap.size ≤ q) s.heap H locs) (hc9 : cells + 10 ≤ 601024) (hs9 : slots + 100 ≤ 7293034) (hv : 0 ≤ v.toInt ∧ v.toInt + 7 ≤ (L : Int) ∧ L ≤ 3584) (hl : lv_has ls 8 [(0, .ref b), (1, .ref (ad 0)), (2, .ref (ad 35)), (3, .ref (ad 34)), (4, .int v)]) (K : ∀ (σ9 : Nat → Nat → Int32) (τ9 : Nat → Nat → Int64) (H9 : Heap) (locs9 : List Loc) (cells9 slots9 : Nat) (ls9 : Array Slot), Rel σ9 → va_P D vwCl (gW cs ad σ9 τ9) H9 → va_S (fun q => s.heap.size ≤ q) s.heap H9 locs9 → cells9 ≤ cells + 1 → slots9 ≤ slots + 6 → lv_has ls9 8 [(0, .ref b), (1, .ref (ad 0)), (2, .ref (ad 35)), (3, .ref (ad 34)), (4, .int v)] → W p l e room_1 s m #[Value.ref b] below meth c H9 locs9 cells9 slots9 Q (F0 m 1120 ls9 [])) : W p l e room_1 s m #[Value.ref b] below meth c H locs cells slots Q (F0 m 656 ls []) := by
  obtain ⟨hx, hb, hml, hown, ht, hXs, hbl, hL, hinj, hnew, hK, hX, hl9⟩ := C0
  have hbA : ¬ (fun q : Nat => s.heap.size ≤ q) b := Nat.not_le.mpr hbl
  refine lv_aload_n hx hb dL_law_656 rfl (lv_at hl 1 rfl) ?_
  refine lv_aload_n hx hb dL_law_657 rfl (lv_at hl 0 rfl) ?_
  refine lv_iload hx hb dL_law_658 (lv_at hl 4 rfl) ?_
  refine lv_iconst (v := 1) hx hb dL_law_660 (by decide) ?_
  refine lv_iadd hx hb dL_law_661 ?_
  have hi_1 : vp_in (v + 1) L := (by have l1 : (1 : Int32).toInt = 1 := (by decide); have b0 := hv; rw [vp_in_iff]; (try simp only [Int32.toInt_add, Int32.toInt_sub, Int32.toInt_mul, Int.bmod_def, l1]); omega)
  refine va_sld hx hb hXs hbl hbA hS hi_1 dL_law_662 ?_
  refine lv_aload_n hx hb dL_law_663 rfl (lv_at hl 0 rfl) ?_
  refine lv_iload hx hb dL_law_664 (lv_at hl 4 rfl) ?_
  refine lv_iconst (v := 2) hx hb dL_law_666 (by decide) ?_
  refine lv_iadd hx hb dL_law_667 ?_
  have hi_2 : vp_in (v + 2) L := (by have l2 : (2 : Int32).toInt = 2 := (by decide); have b0 := hv; rw [vp_in_iff]; (try simp only [Int32.toInt_add, Int32.toInt_sub, Int32.toInt_mul, Int.bmod_def, l2]); omega)
  refine va_sld hx hb hXs hbl hbA hS hi_2 dL_law_668 ?_
  refine lv_aload_n hx hb dL_law_669 rfl (lv_at hl 0 rfl) ?_
  refine lv_iload hx hb dL_law_670 (lv_at hl 4 rfl) ?_
  refine lv_iconst (v := 3) hx hb dL_law_672 (by decide) ?_
  refine lv_iadd hx hb dL_law_673 ?_
  have hi_3 : vp_in (v + 3) L := (by have l3 : (3 : Int32).toInt = 3 := (by decide); have b0 := hv; rw [vp_in_iff]; (try simp only [Int32.toInt_add, Int32.toInt_sub, Int32.toInt_mul, Int.bmod_def, l3]); omega)
  refine va_sld hx hb hXs hbl hbA hS hi_3 dL_law_674 ?_
  refine lv_aload_n hx hb dL_law_675 rfl (lv_at hl 0 rfl) ?_
  refine lv_iload hx hb dL_law_676 (lv_at hl 4 rfl) ?_
  refine lv_iconst (v := 4) hx hb dL_law_678 (by decide) ?_
  refine lv_iadd hx hb dL_law_679 ?_
  have hi_4 : vp_in (v + 4) L := (by have l4 : (4 : Int32).toInt = 4 := (by decide); have b0 := hv; rw [vp_in_iff]; (try simp only [Int32.toInt_add, Int32.toInt_sub, Int32.toInt_mul, Int.bmod_def, l4]); omega)
  refine va_sld hx hb hXs hbl hbA hS hi_4 dL_law_680 ?_
  refine lv_aload_n hx hb dL_law_681 rfl (lv_at hl 0 rfl) ?_
  refine lv_iload hx hb dL_law_682 (lv_at hl 4 rfl) ?_
  refine lv_iconst (v := 5) hx hb dL_law_684 (by decide) ?_
  refine lv_iadd hx hb dL_law_685 ?_
  have hi_5 : vp_in (v + 5) L := (by have l5 : (5 : Int32).toInt = 5 := (by decide); have b0 := hv; rw [vp_in_iff]; (try simp only [Int32.toInt_add, Int32.toInt_sub, Int32.toInt_mul, Int.bmod_def, l5]); omega)
  refine va_sld hx hb hXs hbl hbA hS hi_5 dL_law_686 ?_
  refine lv_aload_n hx hb dL_law_687 rfl (lv_at hl 0 rfl) ?_
  refine lv_iload hx hb dL_law_688 (lv_at hl 4 rfl) ?_
  refine lv_bipush (v := 6) hx hb dL_law_690 (by decide) ?_
  refine lv_iadd hx hb dL_law_692 ?_
  have hi_6 : vp_in (v + 6) L := (by have l6 : (6 : Int32).toInt = 6 := (by decide); have b0 := hv; rw [vp_in_iff]; (try simp only [Int32.toInt_add, Int32.toInt_sub, Int32.toInt_mul, Int.bmod_def, l6]); omega)
  refine va_sld hx hb hXs hbl hbA hS hi_6 dL_law_693 ?_
  have F := hF σ (xs ((v + 1).toNatClampNeg)) (xs ((v + 2).toNatClampNeg)) (xs ((v + 3).toNatClampNeg)) (xs ((v + 4).toNatClampNeg)) (xs ((v + 5).toNatClampNeg)) (xs ((v + 6).toNatClampNeg)) hR
  refine g_runR (v := .int (t_vvary σ (xs ((v + 1).toNatClampNeg)) (xs ((v + 2).toNatClampNeg)) (xs ((v + 3).toNatClampNeg)) (xs ((v + 4).toNatClampNeg)) (xs ((v + 5).toNatClampNeg)) (xs ((v + 6).toNatClampNeg)))) (vx_runSW (As := [.ref (ad 0), .int (xs ((v + 1).toNatClampNeg)), .int (xs ((v + 2).toNatClampNeg)), .int (xs ((v + 3).toNatClampNeg)), .int (xs ((v + 4).toNatClampNeg)), .int (xs ((v + 5).toNatClampNeg)), .int (xs ((v + 6).toNatClampNeg))]) (rest := []) ⟨hx, hb, hml, hown, ht⟩ (c_hvvary l hl9 hinj σ τ _ (xs ((v + 1).toNatClampNeg)) (xs ((v + 2).toNatClampNeg)) (xs ((v + 3).toNatClampNeg)) (xs ((v + 4).toNatClampNeg)) (xs ((v + 5).toNatClampNeg)) (xs ((v + 6).toNatClampNeg)) ) (qSW 7 ht tw_380 tw_381 tw_0 tk_L_vary rfl rfl (by decide +kernel) ⟨(Nat.le_of_ble_eq_true rfl), (Nat.le_of_ble_eq_true rfl)⟩) (g_psL hK hP hX hS hnew) rfl rfl hl.1 rfl (lv_room (Nat.le_of_ble_eq_true rfl)) dL_law_694 ⟨by show _ ≤ 601024; omega, by show _ ≤ 7293034; omega⟩) hS (fun q _ h => gA_new hnew hS.1 q h) (fun q h => gA_new hnew hS.1 q h) (fun H locs hP hz hS => ?_)
  refine lv_istore (lv' := [(5, .int (t_vvary σ (xs ((v + 1).toNatClampNeg)) (xs ((v + 2).toNatClampNeg)) (xs ((v + 3).toNatClampNeg)) (xs ((v + 4).toNatClampNeg)) (xs ((v + 5).toNatClampNeg)) (xs ((v + 6).toNatClampNeg)))), (0, .ref b), (1, .ref (ad 0)), (2, .ref (ad 35)), (3, .ref (ad 34)), (4, .int v)]) hx hb dL_law_697 hl (by decide) rfl (fun ls hl => ?_)
  refine lv_aload_n hx hb dL_law_699 rfl (lv_at hl 3 rfl) ?_
  refine lv_aload_n hx hb dL_law_700 rfl (lv_at hl 1 rfl) ?_
  refine lv_iload hx hb dL_law_701 (lv_at hl 5 rfl) ?_
  refine lv_iconst (v := 1) hx hb dL_law_703 (by decide) ?_
  refine lv_iadd hx hb dL_law_704 ?_
  have hi_7 : vp_in (v + 1) L := (by have l1 : (1 : Int32).toInt = 1 := (by decide); have b0 := hv; rw [vp_in_iff]; (try simp only [Int32.toInt_add, Int32.toInt_sub, Int32.toInt_mul, Int.bmod_def, l1]); omega)
  refine va_sld hx hb hXs hbl hbA hS hi_7 dL_law_705 ?_
  refine lv_aload_n hx hb dL_law_706 rfl (lv_at hl 1 rfl) ?_
  refine lv_iload hx hb dL_law_707 (lv_at hl 5 rfl) ?_
  refine lv_iconst (v := 2) hx hb dL_law_709 (by decide) ?_
  refine lv_iadd hx hb dL_law_710 ?_
  have hi_8 : vp_in (v + 2) L := (by have l2 : (2 : Int32).toInt = 2 := (by decide); have b0 := hv; rw [vp_in_iff]; (try simp only [Int32.toInt_add, Int32.toInt_sub, Int32.toInt_mul, Int.bmod_def, l2]); omega)
  refine va_sld hx hb hXs hbl hbA hS hi_8 dL_law_711 ?_
  refine lv_aload_n hx hb dL_law_712 rfl (lv_at hl 1 rfl) ?_
  refine lv_iload hx hb dL_law_713 (lv_at hl 5 rfl) ?_
  refine lv_iconst (v := 3) hx hb dL_law_715 (by decide) ?_
  refine lv_iadd hx hb dL_law_716 ?_
  have hi_9 : vp_in (v + 3) L := (by have l3 : (3 : Int32).toInt = 3 := (by decide); have b0 := hv; rw [vp_in_iff]; (try simp only [Int32.toInt_add, Int32.toInt_sub, Int32.toInt_mul, Int.bmod_def, l3]); omega)
  refine va_sld hx hb hXs hbl hbA hS hi_9 dL_law_717 ?_
  refine lv_aload_n hx hb dL_law_718 rfl (lv_at hl 1 rfl) ?_
  refine lv_iload hx hb dL_law_719 (lv_at hl 5 rfl) ?_
  refine lv_iconst (v := 4) hx hb dL_law_721 (by decide) ?_
  refine lv_iadd hx hb dL_law_722 ?_
  have hi_10 : vp_in (v + 4) L := (by have l4 : (4 : Int32).toInt = 4 := (by decide); have b0 := hv; rw [vp_in_iff]; (try simp only [Int32.toInt_add, Int32.toInt_sub, Int32.toInt_mul, Int.bmod_def, l4]); omega)
  refine va_sld hx hb hXs hbl hbA hS hi_10 dL_law_723 ?_
  refine lv_aload_n hx hb dL_law_724 rfl (lv_at hl 1 rfl) ?_
  refine lv_iload hx hb dL_law_725 (lv_at hl 5 rfl) ?_
  refine lv_iconst (v := 5) hx hb dL_law_727 (by decide) ?_
  refine lv_iadd hx hb dL_law_728 ?_
  have hi_11 : vp_in (v + 5) L := (by have l5 : (5 : Int32).toInt = 5 := (by decide); have b0 := hv; rw [vp_in_iff]; (try simp only [Int32.toInt_add, Int32.toInt_sub, Int32.toInt_mul, Int.bmod_def, l5]); omega)
  refine va_sld hx hb hXs hbl hbA hS hi_11 dL_law_729 ?_
  refine lv_aload_n hx hb dL_law_730 rfl (lv_at hl 1 rfl) ?_
  refine lv_iload hx hb dL_law_731 (lv_at hl 5 rfl) ?_
  refine lv_bipush (v := 6) hx hb dL_law_733 (by decide) ?_
  refine lv_iadd hx hb dL_law_735 ?_
  have hi_12 : vp_in (v + 6) L := (by have l6 : (6 : Int32).toInt = 6 := (by decide); have b0 := hv; rw [vp_in_iff]; (try simp only [Int32.toInt_add, Int32.toInt_sub, Int32.toInt_mul, Int.bmod_def, l6]); omega)
  refine va_sld hx hb hXs hbl hbA hS hi_12 dL_law_736 ?_
  refine g_runV (va_runV (C := RR) (As := [.int (xs ((v + 1).toNatClampNeg)), .int (xs ((v + 2).toNatClampNeg)), .int (xs ((v + 3).toNatClampNeg)), .int (xs ((v + 4).toNatClampNeg)), .int (xs ((v + 5).toNatClampNeg)), .int (xs ((v + 6).toNatClampNeg))]) (rest := []) ⟨hx, hb, hml, hown, ht⟩ (c_rvary l hinj (s_vvary σ (xs ((v + 1).toNatClampNeg)) (xs ((v + 2).toNatClampNeg)) (xs ((v + 3).toNatClampNeg)) (xs ((v + 4).toNatClampNeg)) (xs ((v + 5).toNatClampNeg)) (xs ((v + 6).toNatClampNeg))) τ _  (xs ((v + 1).toNatClampNeg)) (xs ((v + 2).toNatClampNeg)) (xs ((v + 3).toNatClampNeg)) (xs ((v + 4).toNatClampNeg)) (xs ((v + 5).toNatClampNeg)) (xs ((v + 6).toNatClampNeg)) ) (qV 6 ht tw_551 tw_552 tw_553 tw_6 tk_R_vary rfl rfl (by decide +kernel) ⟨(Nat.le_of_ble_eq_true rfl), (Nat.le_of_ble_eq_true rfl)⟩) (g_pv (ci := 5) hK hP (by decide) rfl kR rfl) rfl rfl hl.1 rfl (lv_room (Nat.le_of_ble_eq_true rfl)) dL_law_737 ⟨by show _ ≤ 601024; omega, by show _ ≤ 7293034; omega⟩) hS (fun q _ h => gA_new hnew hS.1 q h) (fun q h => gA_new hnew hS.1 q h) (fun H locs hP hz hS => ?_)
  refine lv_aload_n hx hb dL_law_740 rfl (lv_at hl 3 rfl) ?_
  refine g_pure (v := .int (f_thrown (s_rvary (s_vvary σ (xs ((v + 1).toNatClampNeg)) (xs ((v + 2).toNatClampNeg)) (xs ((v + 3).toNatClampNeg)) (xs ((v + 4).toNatClampNeg)) (xs ((v + 5).toNatClampNeg)) (xs ((v + 6).toNatClampNeg)))  (xs ((v + 1).toNatClampNeg)) (xs ((v + 2).toNatClampNeg)) (xs ((v + 3).toNatClampNeg)) (xs ((v + 4).toNatClampNeg)) (xs ((v + 5).toNatClampNeg)) (xs ((v + 6).toNatClampNeg)))  )) (va_runV (C := RR) (As := []) (rest := []) ⟨hx, hb, hml, hown, ht⟩ (c_thrown l hinj (s_rvary (s_vvary σ (xs ((v + 1).toNatClampNeg)) (xs ((v + 2).toNatClampNeg)) (xs ((v + 3).toNatClampNeg)) (xs ((v + 4).toNatClampNeg)) (xs ((v + 5).toNatClampNeg)) (xs ((v + 6).toNatClampNeg)))  (xs ((v + 1).toNatClampNeg)) (xs ((v + 2).toNatClampNeg)) (xs ((v + 3).toNatClampNeg)) (xs ((v + 4).toNatClampNeg)) (xs ((v + 5).toNatClampNeg)) (xs ((v + 6).toNatClampNeg))) τ _   ) (qV 0 ht tw_492 tw_493 tw_494 tw_6 tk_R_thrown rfl rfl (by decide +kernel) ⟨(Nat.le_of_ble_eq_true rfl), (Nat.le_of_ble_eq_true rfl)⟩) (g_pv (ci := 5) hK hP (by decide) rfl kR rfl) rfl rfl hl.1 rfl (lv_room (Nat.le_of_ble_eq_true rfl)) dL_law_741 ⟨by show _ ≤ 601024; omega, by show _ ≤ 7293034; omega⟩) ?_
  refine lv_iload hx hb dL_law_744 (lv_at hl 0 rfl) ?_
  refine lv_icmp_eq (tgt := 751) hx hb dL_law_746 (by decide) (fun c_13 => ?_) (fun c_13 => ?_)
  · refine lv_goto (tgt := 1120) hx hb dL_law_751 (by decide) ?_
    exact K _ _ _ _ _ _ ls F.2 hP hS (by omega) (by omega) (lv_sub hl [1, 2, 3, 4, 5] rfl)
  · exact absurd F.1 c_13
set_option maxHeartbeats 800000 in
set_option maxRecDepth 100000 in
theorem lc_view {p : Program} {l : Launch} {e : Env} {s : State} {m : MethodId} {below : List Frame} {meth : Method} {c : Code} {b L : Nat} {xs : Nat → Int32} {D : va_G} {cs : Nat → ClassId} {ad : Nat → Nat} {Q : State → Prop} (C0 : lC p l s m meth c b L xs D cs ad) (Rel : (Nat → Nat → Int32) → Prop) (hF : ∀ σ (a0 a1 a2 a3 a4 a5 : Int32), Rel σ → s_rview (s_vview σ a0 a1 a2 a3 a4 a5) a0 a1 a2 a3 a4 a5 35 0 = t_vview σ a0 a1 a2 a3 a4 a5 ∧ Rel (s_rview (s_vview σ a0 a1 a2 a3 a4 a5) a0 a1 a2 a3 a4 a5))  {σ : Nat → Nat → Int32} {τ : Nat → Nat → Int64} {H : Heap} {locs : List Loc} {cells slots : Nat} {v : Int32} {ls : Array Slot} (hR : Rel σ) (hP : va_P D vwCl (gW cs ad σ τ) H) (hS : va_S (fun q => s.heap.size ≤ q) s.heap H locs) (hc9 : cells + 10 ≤ 601024) (hs9 : slots + 100 ≤ 7293034) (hv : 0 ≤ v.toInt ∧ v.toInt + 7 ≤ (L : Int) ∧ L ≤ 3584) (hl : lv_has ls 8 [(0, .ref b), (1, .ref (ad 0)), (2, .ref (ad 35)), (3, .ref (ad 34)), (4, .int v)]) (K : ∀ (σ9 : Nat → Nat → Int32) (τ9 : Nat → Nat → Int64) (H9 : Heap) (locs9 : List Loc) (cells9 slots9 : Nat) (ls9 : Array Slot), Rel σ9 → va_P D vwCl (gW cs ad σ9 τ9) H9 → va_S (fun q => s.heap.size ≤ q) s.heap H9 locs9 → cells9 ≤ cells + 1 → slots9 ≤ slots + 6 → lv_has ls9 8 [(0, .ref b), (1, .ref (ad 0)), (2, .ref (ad 35)), (3, .ref (ad 34)), (4, .int v)] → W p l e room_1 s m #[Value.ref b] below meth c H9 locs9 cells9 slots9 Q (F0 m 1120 ls9 [])) : W p l e room_1 s m #[Value.ref b] below meth c H locs cells slots Q (F0 m 754 ls []) := by
  obtain ⟨hx, hb, hml, hown, ht, hXs, hbl, hL, hinj, hnew, hK, hX, hl9⟩ := C0
  have hbA : ¬ (fun q : Nat => s.heap.size ≤ q) b := Nat.not_le.mpr hbl
  refine lv_aload_n hx hb dL_law_754 rfl (lv_at hl 1 rfl) ?_
  refine lv_aload_n hx hb dL_law_755 rfl (lv_at hl 0 rfl) ?_
  refine lv_iload hx hb dL_law_756 (lv_at hl 4 rfl) ?_
  refine lv_iconst (v := 1) hx hb dL_law_758 (by decide) ?_
  refine lv_iadd hx hb dL_law_759 ?_
  have hi_1 : vp_in (v + 1) L := (by have l1 : (1 : Int32).toInt = 1 := (by decide); have b0 := hv; rw [vp_in_iff]; (try simp only [Int32.toInt_add, Int32.toInt_sub, Int32.toInt_mul, Int.bmod_def, l1]); omega)
  refine va_sld hx hb hXs hbl hbA hS hi_1 dL_law_760 ?_
  refine lv_aload_n hx hb dL_law_761 rfl (lv_at hl 0 rfl) ?_
  refine lv_iload hx hb dL_law_762 (lv_at hl 4 rfl) ?_
  refine lv_iconst (v := 2) hx hb dL_law_764 (by decide) ?_
  refine lv_iadd hx hb dL_law_765 ?_
  have hi_2 : vp_in (v + 2) L := (by have l2 : (2 : Int32).toInt = 2 := (by decide); have b0 := hv; rw [vp_in_iff]; (try simp only [Int32.toInt_add, Int32.toInt_sub, Int32.toInt_mul, Int.bmod_def, l2]); omega)
  refine va_sld hx hb hXs hbl hbA hS hi_2 dL_law_766 ?_
  refine lv_aload_n hx hb dL_law_767 rfl (lv_at hl 0 rfl) ?_
  refine lv_iload hx hb dL_law_768 (lv_at hl 4 rfl) ?_
  refine lv_iconst (v := 3) hx hb dL_law_770 (by decide) ?_
  refine lv_iadd hx hb dL_law_771 ?_
  have hi_3 : vp_in (v + 3) L := (by have l3 : (3 : Int32).toInt = 3 := (by decide); have b0 := hv; rw [vp_in_iff]; (try simp only [Int32.toInt_add, Int32.toInt_sub, Int32.toInt_mul, Int.bmod_def, l3]); omega)
  refine va_sld hx hb hXs hbl hbA hS hi_3 dL_law_772 ?_
  refine lv_aload_n hx hb dL_law_773 rfl (lv_at hl 0 rfl) ?_
  refine lv_iload hx hb dL_law_774 (lv_at hl 4 rfl) ?_
  refine lv_iconst (v := 4) hx hb dL_law_776 (by decide) ?_
  refine lv_iadd hx hb dL_law_777 ?_
  have hi_4 : vp_in (v + 4) L := (by have l4 : (4 : Int32).toInt = 4 := (by decide); have b0 := hv; rw [vp_in_iff]; (try simp only [Int32.toInt_add, Int32.toInt_sub, Int32.toInt_mul, Int.bmod_def, l4]); omega)
  refine va_sld hx hb hXs hbl hbA hS hi_4 dL_law_778 ?_
  refine lv_aload_n hx hb dL_law_779 rfl (lv_at hl 0 rfl) ?_
  refine lv_iload hx hb dL_law_780 (lv_at hl 4 rfl) ?_
  refine lv_iconst (v := 5) hx hb dL_law_782 (by decide) ?_
  refine lv_iadd hx hb dL_law_783 ?_
  have hi_5 : vp_in (v + 5) L := (by have l5 : (5 : Int32).toInt = 5 := (by decide); have b0 := hv; rw [vp_in_iff]; (try simp only [Int32.toInt_add, Int32.toInt_sub, Int32.toInt_mul, Int.bmod_def, l5]); omega)
  refine va_sld hx hb hXs hbl hbA hS hi_5 dL_law_784 ?_
  refine lv_aload_n hx hb dL_law_785 rfl (lv_at hl 0 rfl) ?_
  refine lv_iload hx hb dL_law_786 (lv_at hl 4 rfl) ?_
  refine lv_bipush (v := 6) hx hb dL_law_788 (by decide) ?_
  refine lv_iadd hx hb dL_law_790 ?_
  have hi_6 : vp_in (v + 6) L := (by have l6 : (6 : Int32).toInt = 6 := (by decide); have b0 := hv; rw [vp_in_iff]; (try simp only [Int32.toInt_add, Int32.toInt_sub, Int32.toInt_mul, Int.bmod_def, l6]); omega)
  refine va_sld hx hb hXs hbl hbA hS hi_6 dL_law_791 ?_
  have F := hF σ (xs ((v + 1).toNatClampNeg)) (xs ((v + 2).toNatClampNeg)) (xs ((v + 3).toNatClampNeg)) (xs ((v + 4).toNatClampNeg)) (xs ((v + 5).toNatClampNeg)) (xs ((v + 6).toNatClampNeg)) hR
  refine g_runR (v := .int (t_vview σ (xs ((v + 1).toNatClampNeg)) (xs ((v + 2).toNatClampNeg)) (xs ((v + 3).toNatClampNeg)) (xs ((v + 4).toNatClampNeg)) (xs ((v + 5).toNatClampNeg)) (xs ((v + 6).toNatClampNeg)))) (vx_runSW (As := [.ref (ad 0), .int (xs ((v + 1).toNatClampNeg)), .int (xs ((v + 2).toNatClampNeg)), .int (xs ((v + 3).toNatClampNeg)), .int (xs ((v + 4).toNatClampNeg)), .int (xs ((v + 5).toNatClampNeg)), .int (xs ((v + 6).toNatClampNeg))]) (rest := []) ⟨hx, hb, hml, hown, ht⟩ (c_hvview l hl9 hinj σ τ _ (xs ((v + 1).toNatClampNeg)) (xs ((v + 2).toNatClampNeg)) (xs ((v + 3).toNatClampNeg)) (xs ((v + 4).toNatClampNeg)) (xs ((v + 5).toNatClampNeg)) (xs ((v + 6).toNatClampNeg)) ) (qSW 7 ht tw_388 tw_389 tw_0 tk_L_view rfl rfl (by decide +kernel) ⟨(Nat.le_of_ble_eq_true rfl), (Nat.le_of_ble_eq_true rfl)⟩) (g_psL hK hP hX hS hnew) rfl rfl hl.1 rfl (lv_room (Nat.le_of_ble_eq_true rfl)) dL_law_792 ⟨by show _ ≤ 601024; omega, by show _ ≤ 7293034; omega⟩) hS (fun q _ h => gA_new hnew hS.1 q h) (fun q h => gA_new hnew hS.1 q h) (fun H locs hP hz hS => ?_)
  refine lv_istore (lv' := [(5, .int (t_vview σ (xs ((v + 1).toNatClampNeg)) (xs ((v + 2).toNatClampNeg)) (xs ((v + 3).toNatClampNeg)) (xs ((v + 4).toNatClampNeg)) (xs ((v + 5).toNatClampNeg)) (xs ((v + 6).toNatClampNeg)))), (0, .ref b), (1, .ref (ad 0)), (2, .ref (ad 35)), (3, .ref (ad 34)), (4, .int v)]) hx hb dL_law_795 hl (by decide) rfl (fun ls hl => ?_)
  refine lv_aload_n hx hb dL_law_797 rfl (lv_at hl 3 rfl) ?_
  refine lv_aload_n hx hb dL_law_798 rfl (lv_at hl 1 rfl) ?_
  refine lv_iload hx hb dL_law_799 (lv_at hl 5 rfl) ?_
  refine lv_iconst (v := 1) hx hb dL_law_801 (by decide) ?_
  refine lv_iadd hx hb dL_law_802 ?_
  have hi_7 : vp_in (v + 1) L := (by have l1 : (1 : Int32).toInt = 1 := (by decide); have b0 := hv; rw [vp_in_iff]; (try simp only [Int32.toInt_add, Int32.toInt_sub, Int32.toInt_mul, Int.bmod_def, l1]); omega)
  refine va_sld hx hb hXs hbl hbA hS hi_7 dL_law_803 ?_
  refine lv_aload_n hx hb dL_law_804 rfl (lv_at hl 1 rfl) ?_
  refine lv_iload hx hb dL_law_805 (lv_at hl 5 rfl) ?_
  refine lv_iconst (v := 2) hx hb dL_law_807 (by decide) ?_
  refine lv_iadd hx hb dL_law_808 ?_
  have hi_8 : vp_in (v + 2) L := (by have l2 : (2 : Int32).toInt = 2 := (by decide); have b0 := hv; rw [vp_in_iff]; (try simp only [Int32.toInt_add, Int32.toInt_sub, Int32.toInt_mul, Int.bmod_def, l2]); omega)
  refine va_sld hx hb hXs hbl hbA hS hi_8 dL_law_809 ?_
  refine lv_aload_n hx hb dL_law_810 rfl (lv_at hl 1 rfl) ?_
  refine lv_iload hx hb dL_law_811 (lv_at hl 5 rfl) ?_
  refine lv_iconst (v := 3) hx hb dL_law_813 (by decide) ?_
  refine lv_iadd hx hb dL_law_814 ?_
  have hi_9 : vp_in (v + 3) L := (by have l3 : (3 : Int32).toInt = 3 := (by decide); have b0 := hv; rw [vp_in_iff]; (try simp only [Int32.toInt_add, Int32.toInt_sub, Int32.toInt_mul, Int.bmod_def, l3]); omega)
  refine va_sld hx hb hXs hbl hbA hS hi_9 dL_law_815 ?_
  refine lv_aload_n hx hb dL_law_816 rfl (lv_at hl 1 rfl) ?_
  refine lv_iload hx hb dL_law_817 (lv_at hl 5 rfl) ?_
  refine lv_iconst (v := 4) hx hb dL_law_819 (by decide) ?_
  refine lv_iadd hx hb dL_law_820 ?_
  have hi_10 : vp_in (v + 4) L := (by have l4 : (4 : Int32).toInt = 4 := (by decide); have b0 := hv; rw [vp_in_iff]; (try simp only [Int32.toInt_add, Int32.toInt_sub, Int32.toInt_mul, Int.bmod_def, l4]); omega)
  refine va_sld hx hb hXs hbl hbA hS hi_10 dL_law_821 ?_
  refine lv_aload_n hx hb dL_law_822 rfl (lv_at hl 1 rfl) ?_
  refine lv_iload hx hb dL_law_823 (lv_at hl 5 rfl) ?_
  refine lv_iconst (v := 5) hx hb dL_law_825 (by decide) ?_
  refine lv_iadd hx hb dL_law_826 ?_
  have hi_11 : vp_in (v + 5) L := (by have l5 : (5 : Int32).toInt = 5 := (by decide); have b0 := hv; rw [vp_in_iff]; (try simp only [Int32.toInt_add, Int32.toInt_sub, Int32.toInt_mul, Int.bmod_def, l5]); omega)
  refine va_sld hx hb hXs hbl hbA hS hi_11 dL_law_827 ?_
  refine lv_aload_n hx hb dL_law_828 rfl (lv_at hl 1 rfl) ?_
  refine lv_iload hx hb dL_law_829 (lv_at hl 5 rfl) ?_
  refine lv_bipush (v := 6) hx hb dL_law_831 (by decide) ?_
  refine lv_iadd hx hb dL_law_833 ?_
  have hi_12 : vp_in (v + 6) L := (by have l6 : (6 : Int32).toInt = 6 := (by decide); have b0 := hv; rw [vp_in_iff]; (try simp only [Int32.toInt_add, Int32.toInt_sub, Int32.toInt_mul, Int.bmod_def, l6]); omega)
  refine va_sld hx hb hXs hbl hbA hS hi_12 dL_law_834 ?_
  refine g_runV (va_runV (C := RR) (As := [.int (xs ((v + 1).toNatClampNeg)), .int (xs ((v + 2).toNatClampNeg)), .int (xs ((v + 3).toNatClampNeg)), .int (xs ((v + 4).toNatClampNeg)), .int (xs ((v + 5).toNatClampNeg)), .int (xs ((v + 6).toNatClampNeg))]) (rest := []) ⟨hx, hb, hml, hown, ht⟩ (c_rview l hinj (s_vview σ (xs ((v + 1).toNatClampNeg)) (xs ((v + 2).toNatClampNeg)) (xs ((v + 3).toNatClampNeg)) (xs ((v + 4).toNatClampNeg)) (xs ((v + 5).toNatClampNeg)) (xs ((v + 6).toNatClampNeg))) τ _  (xs ((v + 1).toNatClampNeg)) (xs ((v + 2).toNatClampNeg)) (xs ((v + 3).toNatClampNeg)) (xs ((v + 4).toNatClampNeg)) (xs ((v + 5).toNatClampNeg)) (xs ((v + 6).toNatClampNeg)) ) (qV 6 ht tw_555 tw_556 tw_557 tw_6 tk_R_view rfl rfl (by decide +kernel) ⟨(Nat.le_of_ble_eq_true rfl), (Nat.le_of_ble_eq_true rfl)⟩) (g_pv (ci := 5) hK hP (by decide) rfl kR rfl) rfl rfl hl.1 rfl (lv_room (Nat.le_of_ble_eq_true rfl)) dL_law_835 ⟨by show _ ≤ 601024; omega, by show _ ≤ 7293034; omega⟩) hS (fun q _ h => gA_new hnew hS.1 q h) (fun q h => gA_new hnew hS.1 q h) (fun H locs hP hz hS => ?_)
  refine lv_aload_n hx hb dL_law_838 rfl (lv_at hl 3 rfl) ?_
  refine g_pure (v := .int (f_thrown (s_rview (s_vview σ (xs ((v + 1).toNatClampNeg)) (xs ((v + 2).toNatClampNeg)) (xs ((v + 3).toNatClampNeg)) (xs ((v + 4).toNatClampNeg)) (xs ((v + 5).toNatClampNeg)) (xs ((v + 6).toNatClampNeg)))  (xs ((v + 1).toNatClampNeg)) (xs ((v + 2).toNatClampNeg)) (xs ((v + 3).toNatClampNeg)) (xs ((v + 4).toNatClampNeg)) (xs ((v + 5).toNatClampNeg)) (xs ((v + 6).toNatClampNeg)))  )) (va_runV (C := RR) (As := []) (rest := []) ⟨hx, hb, hml, hown, ht⟩ (c_thrown l hinj (s_rview (s_vview σ (xs ((v + 1).toNatClampNeg)) (xs ((v + 2).toNatClampNeg)) (xs ((v + 3).toNatClampNeg)) (xs ((v + 4).toNatClampNeg)) (xs ((v + 5).toNatClampNeg)) (xs ((v + 6).toNatClampNeg)))  (xs ((v + 1).toNatClampNeg)) (xs ((v + 2).toNatClampNeg)) (xs ((v + 3).toNatClampNeg)) (xs ((v + 4).toNatClampNeg)) (xs ((v + 5).toNatClampNeg)) (xs ((v + 6).toNatClampNeg))) τ _   ) (qV 0 ht tw_492 tw_493 tw_494 tw_6 tk_R_thrown rfl rfl (by decide +kernel) ⟨(Nat.le_of_ble_eq_true rfl), (Nat.le_of_ble_eq_true rfl)⟩) (g_pv (ci := 5) hK hP (by decide) rfl kR rfl) rfl rfl hl.1 rfl (lv_room (Nat.le_of_ble_eq_true rfl)) dL_law_839 ⟨by show _ ≤ 601024; omega, by show _ ≤ 7293034; omega⟩) ?_
  refine lv_iload hx hb dL_law_842 (lv_at hl 0 rfl) ?_
  refine lv_icmp_eq (tgt := 849) hx hb dL_law_844 (by decide) (fun c_13 => ?_) (fun c_13 => ?_)
  · refine lv_goto (tgt := 1120) hx hb dL_law_849 (by decide) ?_
    exact K _ _ _ _ _ _ ls F.2 hP hS (by omega) (by omega) (lv_sub hl [1, 2, 3, 4, 5] rfl)
  · exact absurd F.1 c_13
set_option maxHeartbeats 800000 in
set_option maxRecDepth 100000 in
theorem lc_faces {p : Program} {l : Launch} {e : Env} {s : State} {m : MethodId} {below : List Frame} {meth : Method} {c : Code} {b L : Nat} {xs : Nat → Int32} {D : va_G} {cs : Nat → ClassId} {ad : Nat → Nat} {Q : State → Prop} (C0 : lC p l s m meth c b L xs D cs ad) (Rel : (Nat → Nat → Int32) → Prop) (hF : ∀ σ (a0 a1 : Int32), (a1 = 0 ∨ a1 = 1) → Rel σ → s_rfaces (s_vfaces σ a0 a1) a0 a1 35 0 = t_vfaces σ a0 a1 ∧ Rel (s_rfaces (s_vfaces σ a0 a1) a0 a1))  {σ : Nat → Nat → Int32} {τ : Nat → Nat → Int64} {H : Heap} {locs : List Loc} {cells slots : Nat} {v : Int32} {ls : Array Slot} (hR : Rel σ) (hP : va_P D vwCl (gW cs ad σ τ) H) (hS : va_S (fun q => s.heap.size ≤ q) s.heap H locs) (hc9 : cells + 10 ≤ 601024) (hs9 : slots + 100 ≤ 7293034) (hv : 0 ≤ v.toInt ∧ v.toInt + 7 ≤ (L : Int) ∧ L ≤ 3584) (hl : lv_has ls 8 [(0, .ref b), (1, .ref (ad 0)), (2, .ref (ad 35)), (3, .ref (ad 34)), (4, .int v)]) (K : ∀ (σ9 : Nat → Nat → Int32) (τ9 : Nat → Nat → Int64) (H9 : Heap) (locs9 : List Loc) (cells9 slots9 : Nat) (ls9 : Array Slot), Rel σ9 → va_P D vwCl (gW cs ad σ9 τ9) H9 → va_S (fun q => s.heap.size ≤ q) s.heap H9 locs9 → cells9 ≤ cells + 1 → slots9 ≤ slots + 6 → lv_has ls9 8 [(0, .ref b), (1, .ref (ad 0)), (2, .ref (ad 35)), (3, .ref (ad 34)), (4, .int v)] → W p l e room_1 s m #[Value.ref b] below meth c H9 locs9 cells9 slots9 Q (F0 m 1120 ls9 [])) : W p l e room_1 s m #[Value.ref b] below meth c H locs cells slots Q (F0 m 852 ls []) := by
  obtain ⟨hx, hb, hml, hown, ht, hXs, hbl, hL, hinj, hnew, hK, hX, hl9⟩ := C0
  have hbA : ¬ (fun q : Nat => s.heap.size ≤ q) b := Nat.not_le.mpr hbl
  refine lv_aload_n hx hb dL_law_852 rfl (lv_at hl 1 rfl) ?_
  refine lv_aload_n hx hb dL_law_853 rfl (lv_at hl 0 rfl) ?_
  refine lv_iload hx hb dL_law_854 (lv_at hl 4 rfl) ?_
  refine lv_iconst (v := 1) hx hb dL_law_856 (by decide) ?_
  refine lv_iadd hx hb dL_law_857 ?_
  have hi_1 : vp_in (v + 1) L := (by have l1 : (1 : Int32).toInt = 1 := (by decide); have b0 := hv; rw [vp_in_iff]; (try simp only [Int32.toInt_add, Int32.toInt_sub, Int32.toInt_mul, Int.bmod_def, l1]); omega)
  refine va_sld hx hb hXs hbl hbA hS hi_1 dL_law_858 ?_
  refine lv_aload_n hx hb dL_law_859 rfl (lv_at hl 0 rfl) ?_
  refine lv_iload hx hb dL_law_860 (lv_at hl 4 rfl) ?_
  refine lv_iconst (v := 2) hx hb dL_law_862 (by decide) ?_
  refine lv_iadd hx hb dL_law_863 ?_
  have hi_2 : vp_in (v + 2) L := (by have l2 : (2 : Int32).toInt = 2 := (by decide); have b0 := hv; rw [vp_in_iff]; (try simp only [Int32.toInt_add, Int32.toInt_sub, Int32.toInt_mul, Int.bmod_def, l2]); omega)
  refine va_sld hx hb hXs hbl hbA hS hi_2 dL_law_864 ?_
  refine lv_if_eq (tgt := 872) hx hb dL_law_865 (by decide) (fun c_3 => ?_) (fun c_3 => ?_)
  · refine lv_iconst (v := 0) hx hb dL_law_872 (by decide) ?_
    have F := hF σ (xs ((v + 1).toNatClampNeg)) (0 : Int32) (by decide) hR
    refine g_runR (v := .int (t_vfaces σ (xs ((v + 1).toNatClampNeg)) (0 : Int32))) (vx_runSW (As := [.ref (ad 0), .int (xs ((v + 1).toNatClampNeg)), .int 0]) (rest := []) ⟨hx, hb, hml, hown, ht⟩ (c_hvfaces l hl9 hinj σ τ _ (xs ((v + 1).toNatClampNeg)) (0 : Int32) (by decide)) (qSW 3 ht tw_406 tw_407 tw_0 tk_L_faces rfl rfl (by decide +kernel) ⟨(Nat.le_of_ble_eq_true rfl), (Nat.le_of_ble_eq_true rfl)⟩) (g_psL hK hP hX hS hnew) rfl rfl hl.1 rfl (lv_room (Nat.le_of_ble_eq_true rfl)) dL_law_873 ⟨by show _ ≤ 601024; omega, by show _ ≤ 7293034; omega⟩) hS (fun q _ h => gA_new hnew hS.1 q h) (fun q h => gA_new hnew hS.1 q h) (fun H locs hP hz hS => ?_)
    refine lv_istore (lv' := [(5, .int (t_vfaces σ (xs ((v + 1).toNatClampNeg)) (0 : Int32))), (0, .ref b), (1, .ref (ad 0)), (2, .ref (ad 35)), (3, .ref (ad 34)), (4, .int v)]) hx hb dL_law_876 hl (by decide) rfl (fun ls hl => ?_)
    refine lv_aload_n hx hb dL_law_878 rfl (lv_at hl 3 rfl) ?_
    refine lv_aload_n hx hb dL_law_879 rfl (lv_at hl 1 rfl) ?_
    refine lv_iload hx hb dL_law_880 (lv_at hl 5 rfl) ?_
    refine lv_iconst (v := 1) hx hb dL_law_882 (by decide) ?_
    refine lv_iadd hx hb dL_law_883 ?_
    have hi_4 : vp_in (v + 1) L := (by have l1 : (1 : Int32).toInt = 1 := (by decide); have b0 := hv; rw [vp_in_iff]; (try simp only [Int32.toInt_add, Int32.toInt_sub, Int32.toInt_mul, Int.bmod_def, l1]); omega)
    refine va_sld hx hb hXs hbl hbA hS hi_4 dL_law_884 ?_
    refine lv_aload_n hx hb dL_law_885 rfl (lv_at hl 1 rfl) ?_
    refine lv_iload hx hb dL_law_886 (lv_at hl 5 rfl) ?_
    refine lv_iconst (v := 2) hx hb dL_law_888 (by decide) ?_
    refine lv_iadd hx hb dL_law_889 ?_
    have hi_5 : vp_in (v + 2) L := (by have l2 : (2 : Int32).toInt = 2 := (by decide); have b0 := hv; rw [vp_in_iff]; (try simp only [Int32.toInt_add, Int32.toInt_sub, Int32.toInt_mul, Int.bmod_def, l2]); omega)
    refine va_sld hx hb hXs hbl hbA hS hi_5 dL_law_890 ?_
    refine lv_if_eq (tgt := 898) hx hb dL_law_891 (by decide) (fun c_6 => ?_) (fun c_6 => ?_)
    · refine lv_iconst (v := 0) hx hb dL_law_898 (by decide) ?_
      refine g_runV (va_runV (C := RR) (As := [.int (xs ((v + 1).toNatClampNeg)), .int 0]) (rest := []) ⟨hx, hb, hml, hown, ht⟩ (c_rfaces l hinj (s_vfaces σ (xs ((v + 1).toNatClampNeg)) (0 : Int32)) τ _  (xs ((v + 1).toNatClampNeg)) (0 : Int32) (by decide)) (qV 2 ht tw_559 tw_560 tw_561 tw_6 tk_R_faces rfl rfl (by decide +kernel) ⟨(Nat.le_of_ble_eq_true rfl), (Nat.le_of_ble_eq_true rfl)⟩) (g_pv (ci := 5) hK hP (by decide) rfl kR rfl) rfl rfl hl.1 rfl (lv_room (Nat.le_of_ble_eq_true rfl)) dL_law_899 ⟨by show _ ≤ 601024; omega, by show _ ≤ 7293034; omega⟩) hS (fun q _ h => gA_new hnew hS.1 q h) (fun q h => gA_new hnew hS.1 q h) (fun H locs hP hz hS => ?_)
      refine lv_aload_n hx hb dL_law_902 rfl (lv_at hl 3 rfl) ?_
      refine g_pure (v := .int (f_thrown (s_rfaces (s_vfaces σ (xs ((v + 1).toNatClampNeg)) (0 : Int32))  (xs ((v + 1).toNatClampNeg)) (0 : Int32))  )) (va_runV (C := RR) (As := []) (rest := []) ⟨hx, hb, hml, hown, ht⟩ (c_thrown l hinj (s_rfaces (s_vfaces σ (xs ((v + 1).toNatClampNeg)) (0 : Int32))  (xs ((v + 1).toNatClampNeg)) (0 : Int32)) τ _   ) (qV 0 ht tw_492 tw_493 tw_494 tw_6 tk_R_thrown rfl rfl (by decide +kernel) ⟨(Nat.le_of_ble_eq_true rfl), (Nat.le_of_ble_eq_true rfl)⟩) (g_pv (ci := 5) hK hP (by decide) rfl kR rfl) rfl rfl hl.1 rfl (lv_room (Nat.le_of_ble_eq_true rfl)) dL_law_903 ⟨by show _ ≤ 601024; omega, by show _ ≤ 7293034; omega⟩) ?_
      refine lv_iload hx hb dL_law_906 (lv_at hl 0 rfl) ?_
      refine lv_icmp_eq (tgt := 913) hx hb dL_law_908 (by decide) (fun c_7 => ?_) (fun c_7 => ?_)
      · refine lv_goto (tgt := 1120) hx hb dL_law_913 (by decide) ?_
        exact K _ _ _ _ _ _ ls F.2 hP hS (by omega) (by omega) (lv_sub hl [1, 2, 3, 4, 5] rfl)
      · exact absurd F.1 c_7
    · exact absurd c_3 c_6
  · refine lv_iconst (v := 1) hx hb dL_law_868 (by decide) ?_
    refine lv_goto (tgt := 873) hx hb dL_law_869 (by decide) ?_
    have F := hF σ (xs ((v + 1).toNatClampNeg)) (1 : Int32) (by decide) hR
    refine g_runR (v := .int (t_vfaces σ (xs ((v + 1).toNatClampNeg)) (1 : Int32))) (vx_runSW (As := [.ref (ad 0), .int (xs ((v + 1).toNatClampNeg)), .int 1]) (rest := []) ⟨hx, hb, hml, hown, ht⟩ (c_hvfaces l hl9 hinj σ τ _ (xs ((v + 1).toNatClampNeg)) (1 : Int32) (by decide)) (qSW 3 ht tw_406 tw_407 tw_0 tk_L_faces rfl rfl (by decide +kernel) ⟨(Nat.le_of_ble_eq_true rfl), (Nat.le_of_ble_eq_true rfl)⟩) (g_psL hK hP hX hS hnew) rfl rfl hl.1 rfl (lv_room (Nat.le_of_ble_eq_true rfl)) dL_law_873 ⟨by show _ ≤ 601024; omega, by show _ ≤ 7293034; omega⟩) hS (fun q _ h => gA_new hnew hS.1 q h) (fun q h => gA_new hnew hS.1 q h) (fun H locs hP hz hS => ?_)
    refine lv_istore (lv' := [(5, .int (t_vfaces σ (xs ((v + 1).toNatClampNeg)) (1 : Int32))), (0, .ref b), (1, .ref (ad 0)), (2, .ref (ad 35)), (3, .ref (ad 34)), (4, .int v)]) hx hb dL_law_876 hl (by decide) rfl (fun ls hl => ?_)
    refine lv_aload_n hx hb dL_law_878 rfl (lv_at hl 3 rfl) ?_
    refine lv_aload_n hx hb dL_law_879 rfl (lv_at hl 1 rfl) ?_
    refine lv_iload hx hb dL_law_880 (lv_at hl 5 rfl) ?_
    refine lv_iconst (v := 1) hx hb dL_law_882 (by decide) ?_
    refine lv_iadd hx hb dL_law_883 ?_
    have hi_8 : vp_in (v + 1) L := (by have l1 : (1 : Int32).toInt = 1 := (by decide); have b0 := hv; rw [vp_in_iff]; (try simp only [Int32.toInt_add, Int32.toInt_sub, Int32.toInt_mul, Int.bmod_def, l1]); omega)
    refine va_sld hx hb hXs hbl hbA hS hi_8 dL_law_884 ?_
    refine lv_aload_n hx hb dL_law_885 rfl (lv_at hl 1 rfl) ?_
    refine lv_iload hx hb dL_law_886 (lv_at hl 5 rfl) ?_
    refine lv_iconst (v := 2) hx hb dL_law_888 (by decide) ?_
    refine lv_iadd hx hb dL_law_889 ?_
    have hi_9 : vp_in (v + 2) L := (by have l2 : (2 : Int32).toInt = 2 := (by decide); have b0 := hv; rw [vp_in_iff]; (try simp only [Int32.toInt_add, Int32.toInt_sub, Int32.toInt_mul, Int.bmod_def, l2]); omega)
    refine va_sld hx hb hXs hbl hbA hS hi_9 dL_law_890 ?_
    refine lv_if_eq (tgt := 898) hx hb dL_law_891 (by decide) (fun c_10 => ?_) (fun c_10 => ?_)
    · exact absurd c_10 c_3
    · refine lv_iconst (v := 1) hx hb dL_law_894 (by decide) ?_
      refine lv_goto (tgt := 899) hx hb dL_law_895 (by decide) ?_
      refine g_runV (va_runV (C := RR) (As := [.int (xs ((v + 1).toNatClampNeg)), .int 1]) (rest := []) ⟨hx, hb, hml, hown, ht⟩ (c_rfaces l hinj (s_vfaces σ (xs ((v + 1).toNatClampNeg)) (1 : Int32)) τ _  (xs ((v + 1).toNatClampNeg)) (1 : Int32) (by decide)) (qV 2 ht tw_559 tw_560 tw_561 tw_6 tk_R_faces rfl rfl (by decide +kernel) ⟨(Nat.le_of_ble_eq_true rfl), (Nat.le_of_ble_eq_true rfl)⟩) (g_pv (ci := 5) hK hP (by decide) rfl kR rfl) rfl rfl hl.1 rfl (lv_room (Nat.le_of_ble_eq_true rfl)) dL_law_899 ⟨by show _ ≤ 601024; omega, by show _ ≤ 7293034; omega⟩) hS (fun q _ h => gA_new hnew hS.1 q h) (fun q h => gA_new hnew hS.1 q h) (fun H locs hP hz hS => ?_)
      refine lv_aload_n hx hb dL_law_902 rfl (lv_at hl 3 rfl) ?_
      refine g_pure (v := .int (f_thrown (s_rfaces (s_vfaces σ (xs ((v + 1).toNatClampNeg)) (1 : Int32))  (xs ((v + 1).toNatClampNeg)) (1 : Int32))  )) (va_runV (C := RR) (As := []) (rest := []) ⟨hx, hb, hml, hown, ht⟩ (c_thrown l hinj (s_rfaces (s_vfaces σ (xs ((v + 1).toNatClampNeg)) (1 : Int32))  (xs ((v + 1).toNatClampNeg)) (1 : Int32)) τ _   ) (qV 0 ht tw_492 tw_493 tw_494 tw_6 tk_R_thrown rfl rfl (by decide +kernel) ⟨(Nat.le_of_ble_eq_true rfl), (Nat.le_of_ble_eq_true rfl)⟩) (g_pv (ci := 5) hK hP (by decide) rfl kR rfl) rfl rfl hl.1 rfl (lv_room (Nat.le_of_ble_eq_true rfl)) dL_law_903 ⟨by show _ ≤ 601024; omega, by show _ ≤ 7293034; omega⟩) ?_
      refine lv_iload hx hb dL_law_906 (lv_at hl 0 rfl) ?_
      refine lv_icmp_eq (tgt := 913) hx hb dL_law_908 (by decide) (fun c_11 => ?_) (fun c_11 => ?_)
      · refine lv_goto (tgt := 1120) hx hb dL_law_913 (by decide) ?_
        exact K _ _ _ _ _ _ ls F.2 hP hS (by omega) (by omega) (lv_sub hl [1, 2, 3, 4, 5] rfl)
      · exact absurd F.1 c_11
set_option maxHeartbeats 800000 in
set_option maxRecDepth 100000 in
theorem lc_make {p : Program} {l : Launch} {e : Env} {s : State} {m : MethodId} {below : List Frame} {meth : Method} {c : Code} {b L : Nat} {xs : Nat → Int32} {D : va_G} {cs : Nat → ClassId} {ad : Nat → Nat} {Q : State → Prop} (C0 : lC p l s m meth c b L xs D cs ad) (Rel : (Nat → Nat → Int32) → Prop) (hF : ∀ σ, Rel σ → f_make σ = f_rmake (s_make σ) ∧ Rel (s_rmake (s_make σ))) (h12 : ∀ {σ}, Rel σ → rng (σ 12 1)) (hmk : ∀ {σ}, Rel σ → rmk_ok (s_make σ)) {σ : Nat → Nat → Int32} {τ : Nat → Nat → Int64} {H : Heap} {locs : List Loc} {cells slots : Nat} {v : Int32} {ls : Array Slot} (hR : Rel σ) (hP : va_P D vwCl (gW cs ad σ τ) H) (hS : va_S (fun q => s.heap.size ≤ q) s.heap H locs) (hc9 : cells + 10 ≤ 601024) (hs9 : slots + 100 ≤ 7293034) (hv : 0 ≤ v.toInt ∧ v.toInt + 7 ≤ (L : Int) ∧ L ≤ 3584) (hl : lv_has ls 8 [(0, .ref b), (1, .ref (ad 0)), (2, .ref (ad 35)), (3, .ref (ad 34)), (4, .int v)]) (K : ∀ (σ9 : Nat → Nat → Int32) (τ9 : Nat → Nat → Int64) (H9 : Heap) (locs9 : List Loc) (cells9 slots9 : Nat) (ls9 : Array Slot), Rel σ9 → va_P D vwCl (gW cs ad σ9 τ9) H9 → va_S (fun q => s.heap.size ≤ q) s.heap H9 locs9 → cells9 ≤ cells + 1 → slots9 ≤ slots + 6 → lv_has ls9 8 [(0, .ref b), (1, .ref (ad 0)), (2, .ref (ad 35)), (3, .ref (ad 34)), (4, .int v)] → W p l e room_1 s m #[Value.ref b] below meth c H9 locs9 cells9 slots9 Q (F0 m 1120 ls9 [])) : W p l e room_1 s m #[Value.ref b] below meth c H locs cells slots Q (F0 m 916 ls []) := by
  obtain ⟨hx, hb, hml, hown, ht, hXs, hbl, hL, hinj, hnew, hK, hX, hl9⟩ := C0
  have hbA : ¬ (fun q : Nat => s.heap.size ≤ q) b := Nat.not_le.mpr hbl
  have F := hF σ hR
  refine lv_aload_n hx hb dL_law_916 rfl (lv_at hl 1 rfl) ?_
  refine g_runR (v := .int (f_make σ  )) (va_runV (C := RV) (As := []) (rest := []) ⟨hx, hb, hml, hown, ht⟩ (c_make l hinj σ τ _   (h12 hR)) (qV 0 ht tw_121 tw_122 tw_123 tw_1 tk_V_make rfl rfl (by decide +kernel) ⟨(Nat.le_of_ble_eq_true rfl), (Nat.le_of_ble_eq_true rfl)⟩) (g_pv (ci := 0) hK hP (by decide) rfl kV rfl) rfl rfl hl.1 rfl (lv_room (Nat.le_of_ble_eq_true rfl)) dL_law_917 ⟨by show _ ≤ 601024; omega, by show _ ≤ 7293034; omega⟩) hS (fun q _ h => gA_new hnew hS.1 q h) (fun q h => gA_new hnew hS.1 q h) (fun H locs hP hz hS => ?_)
  refine lv_aload_n hx hb dL_law_920 rfl (lv_at hl 2 rfl) ?_
  refine g_runR (v := .int (f_rmake (s_make σ  )  )) (va_runV (C := RR) (As := []) (rest := [.int (f_make σ  )]) ⟨hx, hb, hml, hown, ht⟩ (c_rmake l hinj (s_make σ  ) τ _   (hmk hR).1 (hmk hR).2.1 (hmk hR).2.2) (qV 0 ht tw_563 tw_564 tw_565 tw_6 tk_R_make rfl rfl (by decide +kernel) ⟨(Nat.le_of_ble_eq_true rfl), (Nat.le_of_ble_eq_true rfl)⟩) (g_pv (ci := 5) hK hP (by decide) rfl kR rfl) rfl rfl hl.1 rfl (lv_room (Nat.le_of_ble_eq_true rfl)) dL_law_921 ⟨by show _ ≤ 601024; omega, by show _ ≤ 7293034; omega⟩) hS (fun q _ h => gA_new hnew hS.1 q h) (fun q h => gA_new hnew hS.1 q h) (fun H locs hP hz hS => ?_)
  refine lv_icmp_eq (tgt := 1120) hx hb dL_law_924 (by decide) (fun c_1 => ?_) (fun c_1 => ?_)
  · exact K _ _ _ _ _ _ ls F.2 hP hS (by omega) (by omega) (lv_sub hl [0, 1, 2, 3, 4] rfl)
  · exact absurd F.1 c_1
theorem uo_vside {σ : Nat → Nat → Int32} {τ : Nat → Nat → Int64} {a0 : Int32} (h : t_vside σ a0 = 0) : u_vside σ τ a0 34 (0 : Int32).toNatClampNeg = (f_vside σ a0).toInt64 := by
  unfold u_vside
  rw [if_pos h, wl2_row]
  exact pk_uLs
set_option maxHeartbeats 800000 in
set_option maxRecDepth 100000 in
theorem lc_side {p : Program} {l : Launch} {e : Env} {s : State} {m : MethodId} {below : List Frame} {meth : Method} {c : Code} {b L : Nat} {xs : Nat → Int32} {D : va_G} {cs : Nat → ClassId} {ad : Nat → Nat} {Q : State → Prop} (C0 : lC p l s m meth c b L xs D cs ad) (Rel : (Nat → Nat → Int32) → Prop) (hF : ∀ σ (a0 : Int32), Rel σ → s_rside (s_vside σ a0) a0 35 0 = t_vside σ a0 ∧ (t_vside σ a0 = 0 → f_vside σ a0 = f_rside (s_vside σ a0) a0) ∧ Rel (s_rside (s_vside σ a0) a0)) (h26 : ∀ {σ}, Rel σ → rng (σ 26 1)) (h35 : ∀ {σ} {a0 : Int32}, Rel σ → 0 ≤ ((s_vside σ a0) 35 11).toInt ∧ ((s_vside σ a0) 35 11).toInt ≤ 3) {σ : Nat → Nat → Int32} {τ : Nat → Nat → Int64} {H : Heap} {locs : List Loc} {cells slots : Nat} {v : Int32} {ls : Array Slot} (hR : Rel σ) (hP : va_P D vwCl (gW cs ad σ τ) H) (hS : va_S (fun q => s.heap.size ≤ q) s.heap H locs) (hc9 : cells + 10 ≤ 601024) (hs9 : slots + 100 ≤ 7293034) (hv : 0 ≤ v.toInt ∧ v.toInt + 7 ≤ (L : Int) ∧ L ≤ 3584) (hl : lv_has ls 8 [(0, .ref b), (1, .ref (ad 0)), (2, .ref (ad 35)), (3, .ref (ad 34)), (4, .int v)]) (K : ∀ (σ9 : Nat → Nat → Int32) (τ9 : Nat → Nat → Int64) (H9 : Heap) (locs9 : List Loc) (cells9 slots9 : Nat) (ls9 : Array Slot), Rel σ9 → va_P D vwCl (gW cs ad σ9 τ9) H9 → va_S (fun q => s.heap.size ≤ q) s.heap H9 locs9 → cells9 ≤ cells + 1 → slots9 ≤ slots + 6 → lv_has ls9 8 [(0, .ref b), (1, .ref (ad 0)), (2, .ref (ad 35)), (3, .ref (ad 34)), (4, .int v)] → W p l e room_1 s m #[Value.ref b] below meth c H9 locs9 cells9 slots9 Q (F0 m 1120 ls9 [])) : W p l e room_1 s m #[Value.ref b] below meth c H locs cells slots Q (F0 m 929 ls []) := by
  obtain ⟨hx, hb, hml, hown, ht, hXs, hbl, hL, hinj, hnew, hK, hX, hl9⟩ := C0
  have hbA : ¬ (fun q : Nat => s.heap.size ≤ q) b := Nat.not_le.mpr hbl
  refine lv_aload_n hx hb dL_law_929 rfl (lv_at hl 1 rfl) ?_
  refine lv_aload_n hx hb dL_law_930 rfl (lv_at hl 0 rfl) ?_
  refine lv_iload hx hb dL_law_931 (lv_at hl 4 rfl) ?_
  refine lv_iconst (v := 1) hx hb dL_law_933 (by decide) ?_
  refine lv_iadd hx hb dL_law_934 ?_
  have hi_1 : vp_in (v + 1) L := (by have l1 : (1 : Int32).toInt = 1 := (by decide); have b0 := hv; rw [vp_in_iff]; (try simp only [Int32.toInt_add, Int32.toInt_sub, Int32.toInt_mul, Int.bmod_def, l1]); omega)
  refine va_sld hx hb hXs hbl hbA hS hi_1 dL_law_935 ?_
  refine lv_aload_n hx hb dL_law_936 rfl (lv_at hl 3 rfl) ?_
  have F := hF σ (xs ((v + 1).toNatClampNeg)) hR
  refine g_runR (v := .int (t_vside σ (xs ((v + 1).toNatClampNeg)))) (vx_runSW (As := [.ref (ad 0), .int (xs ((v + 1).toNatClampNeg)), .ref (ad 34)]) (rest := []) ⟨hx, hb, hml, hown, ht⟩ (c_hvside l hl9 hinj σ τ _ (xs ((v + 1).toNatClampNeg)) (h26 hR)) (qSW 3 ht tw_414 tw_415 tw_0 tk_L_side rfl rfl (by decide +kernel) ⟨(Nat.le_of_ble_eq_true rfl), (Nat.le_of_ble_eq_true rfl)⟩) (g_psL hK hP hX hS hnew) rfl rfl hl.1 rfl (lv_room (Nat.le_of_ble_eq_true rfl)) dL_law_937 ⟨by show _ ≤ 601024; omega, by show _ ≤ 7293034; omega⟩) hS (fun q _ h => gA_new hnew hS.1 q h) (fun q h => gA_new hnew hS.1 q h) (fun H locs hP hz hS => ?_)
  refine lv_istore (lv' := [(5, .int (t_vside σ (xs ((v + 1).toNatClampNeg)))), (0, .ref b), (1, .ref (ad 0)), (2, .ref (ad 35)), (3, .ref (ad 34)), (4, .int v)]) hx hb dL_law_940 hl (by decide) rfl (fun ls hl => ?_)
  refine lv_aload_n hx hb dL_law_942 rfl (lv_at hl 3 rfl) ?_
  refine lv_aload_n hx hb dL_law_943 rfl (lv_at hl 1 rfl) ?_
  refine lv_iload hx hb dL_law_944 (lv_at hl 5 rfl) ?_
  refine lv_iconst (v := 1) hx hb dL_law_946 (by decide) ?_
  refine lv_iadd hx hb dL_law_947 ?_
  have hi_2 : vp_in (v + 1) L := (by have l1 : (1 : Int32).toInt = 1 := (by decide); have b0 := hv; rw [vp_in_iff]; (try simp only [Int32.toInt_add, Int32.toInt_sub, Int32.toInt_mul, Int.bmod_def, l1]); omega)
  refine va_sld hx hb hXs hbl hbA hS hi_2 dL_law_948 ?_
  refine g_runR (v := .int (f_rside (s_vside σ (xs ((v + 1).toNatClampNeg)))  (xs ((v + 1).toNatClampNeg)))) (va_runV (C := RR) (As := [.int (xs ((v + 1).toNatClampNeg))]) (rest := []) ⟨hx, hb, hml, hown, ht⟩ (c_rside l hinj (s_vside σ (xs ((v + 1).toNatClampNeg))) (u_vside σ τ (xs ((v + 1).toNatClampNeg))) _  (xs ((v + 1).toNatClampNeg)) (h35 hR)) (qV 1 ht tw_597 tw_598 tw_599 tw_6 tk_R_side rfl rfl (by decide +kernel) ⟨(Nat.le_of_ble_eq_true rfl), (Nat.le_of_ble_eq_true rfl)⟩) (g_pv (ci := 5) hK hP (by decide) rfl kR rfl) rfl rfl hl.1 rfl (lv_room (Nat.le_of_ble_eq_true rfl)) dL_law_949 ⟨by show _ ≤ 601024; omega, by show _ ≤ 7293034; omega⟩) hS (fun q _ h => gA_new hnew hS.1 q h) (fun q h => gA_new hnew hS.1 q h) (fun H locs hP hz hS => ?_)
  refine lv_istore (lv' := [(6, .int (f_rside (s_vside σ (xs ((v + 1).toNatClampNeg)))  (xs ((v + 1).toNatClampNeg)))), (5, .int (t_vside σ (xs ((v + 1).toNatClampNeg)))), (0, .ref b), (1, .ref (ad 0)), (2, .ref (ad 35)), (3, .ref (ad 34)), (4, .int v)]) hx hb dL_law_952 hl (by decide) rfl (fun ls hl => ?_)
  refine lv_aload_n hx hb dL_law_954 rfl (lv_at hl 4 rfl) ?_
  refine g_pure (v := .int (f_thrown (s_rside (s_vside σ (xs ((v + 1).toNatClampNeg)))  (xs ((v + 1).toNatClampNeg)))  )) (va_runV (C := RR) (As := []) (rest := []) ⟨hx, hb, hml, hown, ht⟩ (c_thrown l hinj (s_rside (s_vside σ (xs ((v + 1).toNatClampNeg)))  (xs ((v + 1).toNatClampNeg))) (u_vside σ τ (xs ((v + 1).toNatClampNeg))) _   ) (qV 0 ht tw_492 tw_493 tw_494 tw_6 tk_R_thrown rfl rfl (by decide +kernel) ⟨(Nat.le_of_ble_eq_true rfl), (Nat.le_of_ble_eq_true rfl)⟩) (g_pv (ci := 5) hK hP (by decide) rfl kR rfl) rfl rfl hl.1 rfl (lv_room (Nat.le_of_ble_eq_true rfl)) dL_law_955 ⟨by show _ ≤ 601024; omega, by show _ ≤ 7293034; omega⟩) ?_
  refine lv_iload hx hb dL_law_958 (lv_at hl 1 rfl) ?_
  refine lv_icmp_eq (tgt := 965) hx hb dL_law_960 (by decide) (fun c_3 => ?_) (fun c_3 => ?_)
  · refine lv_iload hx hb dL_law_965 (lv_at hl 1 rfl) ?_
    refine lv_if_ne (tgt := 982) hx hb dL_law_967 (by decide) (fun c_4 => ?_) (fun c_4 => ?_)
    · refine lv_goto (tgt := 1120) hx hb dL_law_982 (by decide) ?_
      exact K _ _ _ _ _ _ ls F.2.2 hP hS (by omega) (by omega) (lv_sub hl [2, 3, 4, 5, 6] rfl)
    · refine lv_aload_n hx hb dL_law_970 rfl (lv_at hl 5 rfl) ?_
      refine lv_iconst (v := 0) hx hb dL_law_971 (by decide) ?_
      have hi_5 : vp_in (0 : Int32) 1 := (by unfold vp_in; decide)
      refine g_lald hx hb hK hP 34 3 (by decide) (fun r t => kL) rfl hi_5 dL_law_972 ?_
      refine lv_iload hx hb dL_law_973 (lv_at hl 0 rfl) ?_
      refine lv_i2l hx hb dL_law_975 rfl ?_
      refine W.lcmp hx hb dL_law_976 ?_
      refine lv_if_eq (tgt := 982) hx hb dL_law_977 (by decide) (fun c_6 => ?_) (fun c_6 => ?_)
      · refine lv_goto (tgt := 1120) hx hb dL_law_982 (by decide) ?_
        exact K _ _ _ _ _ _ ls F.2.2 hP hS (by omega) (by omega) (lv_sub hl [2, 3, 4, 5, 6] rfl)
      · exact absurd ((lg_cmp_eq _ _).mpr ((uo_vside c_4).trans (congrArg Int32.toInt64 (F.2.1 c_4)))) c_6
  · exact absurd F.1 c_3
theorem uo_vgot {σ : Nat → Nat → Int32} {τ : Nat → Nat → Int64} {a0 a1 a2 : Int32} (h : t_vgot σ a0 a1 a2 = 0) : u_vgot σ τ a0 a1 a2 34 (0 : Int32).toNatClampNeg = (f_vgot σ a0 a1 a2).toInt64 := by
  unfold u_vgot
  rw [if_pos h, wl2_row]
  exact pk_uLs
set_option maxHeartbeats 800000 in
set_option maxRecDepth 100000 in
theorem lc_got {p : Program} {l : Launch} {e : Env} {s : State} {m : MethodId} {below : List Frame} {meth : Method} {c : Code} {b L : Nat} {xs : Nat → Int32} {D : va_G} {cs : Nat → ClassId} {ad : Nat → Nat} {Q : State → Prop} (C0 : lC p l s m meth c b L xs D cs ad) (Rel : (Nat → Nat → Int32) → Prop) (hF : ∀ σ (a0 a1 a2 : Int32), Rel σ → s_rgot (s_vgot σ a0 a1 a2) a0 a1 a2 35 0 = t_vgot σ a0 a1 a2 ∧ (t_vgot σ a0 a1 a2 = 0 → f_vgot σ a0 a1 a2 = f_rgot (s_vgot σ a0 a1 a2) a0 a1 a2) ∧ Rel (s_rgot (s_vgot σ a0 a1 a2) a0 a1 a2)) (h26 : ∀ {σ}, Rel σ → rng (σ 26 1)) (h35 : ∀ {σ} {a0 a1 a2 : Int32}, Rel σ → 0 ≤ ((s_vgot σ a0 a1 a2) 35 11).toInt ∧ ((s_vgot σ a0 a1 a2) 35 11).toInt ≤ 3) {σ : Nat → Nat → Int32} {τ : Nat → Nat → Int64} {H : Heap} {locs : List Loc} {cells slots : Nat} {v : Int32} {ls : Array Slot} (hR : Rel σ) (hP : va_P D vwCl (gW cs ad σ τ) H) (hS : va_S (fun q => s.heap.size ≤ q) s.heap H locs) (hc9 : cells + 10 ≤ 601024) (hs9 : slots + 100 ≤ 7293034) (hv : 0 ≤ v.toInt ∧ v.toInt + 7 ≤ (L : Int) ∧ L ≤ 3584) (hl : lv_has ls 8 [(0, .ref b), (1, .ref (ad 0)), (2, .ref (ad 35)), (3, .ref (ad 34)), (4, .int v)]) (K : ∀ (σ9 : Nat → Nat → Int32) (τ9 : Nat → Nat → Int64) (H9 : Heap) (locs9 : List Loc) (cells9 slots9 : Nat) (ls9 : Array Slot), Rel σ9 → va_P D vwCl (gW cs ad σ9 τ9) H9 → va_S (fun q => s.heap.size ≤ q) s.heap H9 locs9 → cells9 ≤ cells + 1 → slots9 ≤ slots + 6 → lv_has ls9 8 [(0, .ref b), (1, .ref (ad 0)), (2, .ref (ad 35)), (3, .ref (ad 34)), (4, .int v)] → W p l e room_1 s m #[Value.ref b] below meth c H9 locs9 cells9 slots9 Q (F0 m 1120 ls9 [])) : W p l e room_1 s m #[Value.ref b] below meth c H locs cells slots Q (F0 m 985 ls []) := by
  obtain ⟨hx, hb, hml, hown, ht, hXs, hbl, hL, hinj, hnew, hK, hX, hl9⟩ := C0
  have hbA : ¬ (fun q : Nat => s.heap.size ≤ q) b := Nat.not_le.mpr hbl
  refine lv_aload_n hx hb dL_law_985 rfl (lv_at hl 1 rfl) ?_
  refine lv_aload_n hx hb dL_law_986 rfl (lv_at hl 0 rfl) ?_
  refine lv_iload hx hb dL_law_987 (lv_at hl 4 rfl) ?_
  refine lv_iconst (v := 1) hx hb dL_law_989 (by decide) ?_
  refine lv_iadd hx hb dL_law_990 ?_
  have hi_1 : vp_in (v + 1) L := (by have l1 : (1 : Int32).toInt = 1 := (by decide); have b0 := hv; rw [vp_in_iff]; (try simp only [Int32.toInt_add, Int32.toInt_sub, Int32.toInt_mul, Int.bmod_def, l1]); omega)
  refine va_sld hx hb hXs hbl hbA hS hi_1 dL_law_991 ?_
  refine lv_aload_n hx hb dL_law_992 rfl (lv_at hl 0 rfl) ?_
  refine lv_iload hx hb dL_law_993 (lv_at hl 4 rfl) ?_
  refine lv_iconst (v := 2) hx hb dL_law_995 (by decide) ?_
  refine lv_iadd hx hb dL_law_996 ?_
  have hi_2 : vp_in (v + 2) L := (by have l2 : (2 : Int32).toInt = 2 := (by decide); have b0 := hv; rw [vp_in_iff]; (try simp only [Int32.toInt_add, Int32.toInt_sub, Int32.toInt_mul, Int.bmod_def, l2]); omega)
  refine va_sld hx hb hXs hbl hbA hS hi_2 dL_law_997 ?_
  refine lv_aload_n hx hb dL_law_998 rfl (lv_at hl 0 rfl) ?_
  refine lv_iload hx hb dL_law_999 (lv_at hl 4 rfl) ?_
  refine lv_iconst (v := 3) hx hb dL_law_1001 (by decide) ?_
  refine lv_iadd hx hb dL_law_1002 ?_
  have hi_3 : vp_in (v + 3) L := (by have l3 : (3 : Int32).toInt = 3 := (by decide); have b0 := hv; rw [vp_in_iff]; (try simp only [Int32.toInt_add, Int32.toInt_sub, Int32.toInt_mul, Int.bmod_def, l3]); omega)
  refine va_sld hx hb hXs hbl hbA hS hi_3 dL_law_1003 ?_
  refine lv_aload_n hx hb dL_law_1004 rfl (lv_at hl 3 rfl) ?_
  have F := hF σ (xs ((v + 1).toNatClampNeg)) (xs ((v + 2).toNatClampNeg)) (xs ((v + 3).toNatClampNeg)) hR
  refine g_runR (v := .int (t_vgot σ (xs ((v + 1).toNatClampNeg)) (xs ((v + 2).toNatClampNeg)) (xs ((v + 3).toNatClampNeg)))) (vx_runSW (As := [.ref (ad 0), .int (xs ((v + 1).toNatClampNeg)), .int (xs ((v + 2).toNatClampNeg)), .int (xs ((v + 3).toNatClampNeg)), .ref (ad 34)]) (rest := []) ⟨hx, hb, hml, hown, ht⟩ (c_hvgot l hl9 hinj σ τ _ (xs ((v + 1).toNatClampNeg)) (xs ((v + 2).toNatClampNeg)) (xs ((v + 3).toNatClampNeg)) (h26 hR)) (qSW 5 ht tw_430 tw_431 tw_0 tk_L_got rfl rfl (by decide +kernel) ⟨(Nat.le_of_ble_eq_true rfl), (Nat.le_of_ble_eq_true rfl)⟩) (g_psL hK hP hX hS hnew) rfl rfl hl.1 rfl (lv_room (Nat.le_of_ble_eq_true rfl)) dL_law_1005 ⟨by show _ ≤ 601024; omega, by show _ ≤ 7293034; omega⟩) hS (fun q _ h => gA_new hnew hS.1 q h) (fun q h => gA_new hnew hS.1 q h) (fun H locs hP hz hS => ?_)
  refine lv_istore (lv' := [(5, .int (t_vgot σ (xs ((v + 1).toNatClampNeg)) (xs ((v + 2).toNatClampNeg)) (xs ((v + 3).toNatClampNeg)))), (0, .ref b), (1, .ref (ad 0)), (2, .ref (ad 35)), (3, .ref (ad 34)), (4, .int v)]) hx hb dL_law_1008 hl (by decide) rfl (fun ls hl => ?_)
  refine lv_aload_n hx hb dL_law_1010 rfl (lv_at hl 3 rfl) ?_
  refine lv_aload_n hx hb dL_law_1011 rfl (lv_at hl 1 rfl) ?_
  refine lv_iload hx hb dL_law_1012 (lv_at hl 5 rfl) ?_
  refine lv_iconst (v := 1) hx hb dL_law_1014 (by decide) ?_
  refine lv_iadd hx hb dL_law_1015 ?_
  have hi_4 : vp_in (v + 1) L := (by have l1 : (1 : Int32).toInt = 1 := (by decide); have b0 := hv; rw [vp_in_iff]; (try simp only [Int32.toInt_add, Int32.toInt_sub, Int32.toInt_mul, Int.bmod_def, l1]); omega)
  refine va_sld hx hb hXs hbl hbA hS hi_4 dL_law_1016 ?_
  refine lv_aload_n hx hb dL_law_1017 rfl (lv_at hl 1 rfl) ?_
  refine lv_iload hx hb dL_law_1018 (lv_at hl 5 rfl) ?_
  refine lv_iconst (v := 2) hx hb dL_law_1020 (by decide) ?_
  refine lv_iadd hx hb dL_law_1021 ?_
  have hi_5 : vp_in (v + 2) L := (by have l2 : (2 : Int32).toInt = 2 := (by decide); have b0 := hv; rw [vp_in_iff]; (try simp only [Int32.toInt_add, Int32.toInt_sub, Int32.toInt_mul, Int.bmod_def, l2]); omega)
  refine va_sld hx hb hXs hbl hbA hS hi_5 dL_law_1022 ?_
  refine lv_aload_n hx hb dL_law_1023 rfl (lv_at hl 1 rfl) ?_
  refine lv_iload hx hb dL_law_1024 (lv_at hl 5 rfl) ?_
  refine lv_iconst (v := 3) hx hb dL_law_1026 (by decide) ?_
  refine lv_iadd hx hb dL_law_1027 ?_
  have hi_6 : vp_in (v + 3) L := (by have l3 : (3 : Int32).toInt = 3 := (by decide); have b0 := hv; rw [vp_in_iff]; (try simp only [Int32.toInt_add, Int32.toInt_sub, Int32.toInt_mul, Int.bmod_def, l3]); omega)
  refine va_sld hx hb hXs hbl hbA hS hi_6 dL_law_1028 ?_
  refine g_runR (v := .int (f_rgot (s_vgot σ (xs ((v + 1).toNatClampNeg)) (xs ((v + 2).toNatClampNeg)) (xs ((v + 3).toNatClampNeg)))  (xs ((v + 1).toNatClampNeg)) (xs ((v + 2).toNatClampNeg)) (xs ((v + 3).toNatClampNeg)))) (va_runV (C := RR) (As := [.int (xs ((v + 1).toNatClampNeg)), .int (xs ((v + 2).toNatClampNeg)), .int (xs ((v + 3).toNatClampNeg))]) (rest := []) ⟨hx, hb, hml, hown, ht⟩ (c_rgot l hinj (s_vgot σ (xs ((v + 1).toNatClampNeg)) (xs ((v + 2).toNatClampNeg)) (xs ((v + 3).toNatClampNeg))) (u_vgot σ τ (xs ((v + 1).toNatClampNeg)) (xs ((v + 2).toNatClampNeg)) (xs ((v + 3).toNatClampNeg))) _  (xs ((v + 1).toNatClampNeg)) (xs ((v + 2).toNatClampNeg)) (xs ((v + 3).toNatClampNeg)) (h35 hR)) (qV 3 ht tw_608 tw_609 tw_610 tw_6 tk_R_got rfl rfl (by decide +kernel) ⟨(Nat.le_of_ble_eq_true rfl), (Nat.le_of_ble_eq_true rfl)⟩) (g_pv (ci := 5) hK hP (by decide) rfl kR rfl) rfl rfl hl.1 rfl (lv_room (Nat.le_of_ble_eq_true rfl)) dL_law_1029 ⟨by show _ ≤ 601024; omega, by show _ ≤ 7293034; omega⟩) hS (fun q _ h => gA_new hnew hS.1 q h) (fun q h => gA_new hnew hS.1 q h) (fun H locs hP hz hS => ?_)
  refine lv_istore (lv' := [(6, .int (f_rgot (s_vgot σ (xs ((v + 1).toNatClampNeg)) (xs ((v + 2).toNatClampNeg)) (xs ((v + 3).toNatClampNeg)))  (xs ((v + 1).toNatClampNeg)) (xs ((v + 2).toNatClampNeg)) (xs ((v + 3).toNatClampNeg)))), (5, .int (t_vgot σ (xs ((v + 1).toNatClampNeg)) (xs ((v + 2).toNatClampNeg)) (xs ((v + 3).toNatClampNeg)))), (0, .ref b), (1, .ref (ad 0)), (2, .ref (ad 35)), (3, .ref (ad 34)), (4, .int v)]) hx hb dL_law_1032 hl (by decide) rfl (fun ls hl => ?_)
  refine lv_aload_n hx hb dL_law_1034 rfl (lv_at hl 4 rfl) ?_
  refine g_pure (v := .int (f_thrown (s_rgot (s_vgot σ (xs ((v + 1).toNatClampNeg)) (xs ((v + 2).toNatClampNeg)) (xs ((v + 3).toNatClampNeg)))  (xs ((v + 1).toNatClampNeg)) (xs ((v + 2).toNatClampNeg)) (xs ((v + 3).toNatClampNeg)))  )) (va_runV (C := RR) (As := []) (rest := []) ⟨hx, hb, hml, hown, ht⟩ (c_thrown l hinj (s_rgot (s_vgot σ (xs ((v + 1).toNatClampNeg)) (xs ((v + 2).toNatClampNeg)) (xs ((v + 3).toNatClampNeg)))  (xs ((v + 1).toNatClampNeg)) (xs ((v + 2).toNatClampNeg)) (xs ((v + 3).toNatClampNeg))) (u_vgot σ τ (xs ((v + 1).toNatClampNeg)) (xs ((v + 2).toNatClampNeg)) (xs ((v + 3).toNatClampNeg))) _   ) (qV 0 ht tw_492 tw_493 tw_494 tw_6 tk_R_thrown rfl rfl (by decide +kernel) ⟨(Nat.le_of_ble_eq_true rfl), (Nat.le_of_ble_eq_true rfl)⟩) (g_pv (ci := 5) hK hP (by decide) rfl kR rfl) rfl rfl hl.1 rfl (lv_room (Nat.le_of_ble_eq_true rfl)) dL_law_1035 ⟨by show _ ≤ 601024; omega, by show _ ≤ 7293034; omega⟩) ?_
  refine lv_iload hx hb dL_law_1038 (lv_at hl 1 rfl) ?_
  refine lv_icmp_eq (tgt := 1045) hx hb dL_law_1040 (by decide) (fun c_7 => ?_) (fun c_7 => ?_)
  · refine lv_iload hx hb dL_law_1045 (lv_at hl 1 rfl) ?_
    refine lv_if_ne (tgt := 1062) hx hb dL_law_1047 (by decide) (fun c_8 => ?_) (fun c_8 => ?_)
    · refine lv_goto (tgt := 1120) hx hb dL_law_1062 (by decide) ?_
      exact K _ _ _ _ _ _ ls F.2.2 hP hS (by omega) (by omega) (lv_sub hl [2, 3, 4, 5, 6] rfl)
    · refine lv_aload_n hx hb dL_law_1050 rfl (lv_at hl 5 rfl) ?_
      refine lv_iconst (v := 0) hx hb dL_law_1051 (by decide) ?_
      have hi_9 : vp_in (0 : Int32) 1 := (by unfold vp_in; decide)
      refine g_lald hx hb hK hP 34 3 (by decide) (fun r t => kL) rfl hi_9 dL_law_1052 ?_
      refine lv_iload hx hb dL_law_1053 (lv_at hl 0 rfl) ?_
      refine lv_i2l hx hb dL_law_1055 rfl ?_
      refine W.lcmp hx hb dL_law_1056 ?_
      refine lv_if_eq (tgt := 1062) hx hb dL_law_1057 (by decide) (fun c_10 => ?_) (fun c_10 => ?_)
      · refine lv_goto (tgt := 1120) hx hb dL_law_1062 (by decide) ?_
        exact K _ _ _ _ _ _ ls F.2.2 hP hS (by omega) (by omega) (lv_sub hl [2, 3, 4, 5, 6] rfl)
      · exact absurd ((lg_cmp_eq _ _).mpr ((uo_vgot c_8).trans (congrArg Int32.toInt64 (F.2.1 c_8)))) c_10
  · exact absurd F.1 c_7
theorem uo_varea {σ : Nat → Nat → Int32} {τ : Nat → Nat → Int64} {a0 : Int32} (h : t_varea σ a0 = 0) : u_varea σ τ a0 34 (0 : Int32).toNatClampNeg = (f_varea σ a0) := by
  unfold u_varea
  rw [if_pos h, wl2_row]
  exact pk_uLs
set_option maxHeartbeats 800000 in
set_option maxRecDepth 100000 in
theorem lc_area {p : Program} {l : Launch} {e : Env} {s : State} {m : MethodId} {below : List Frame} {meth : Method} {c : Code} {b L : Nat} {xs : Nat → Int32} {D : va_G} {cs : Nat → ClassId} {ad : Nat → Nat} {Q : State → Prop} (C0 : lC p l s m meth c b L xs D cs ad) (Rel : (Nat → Nat → Int32) → Prop) (hF : ∀ σ (a0 : Int32), Rel σ → s_rarea (s_varea σ a0) a0 35 0 = t_varea σ a0 ∧ (t_varea σ a0 = 0 → f_varea σ a0 = f_rarea (s_varea σ a0) a0) ∧ Rel (s_rarea (s_varea σ a0) a0)) (h26 : ∀ {σ}, Rel σ → rng (σ 26 1)) (h35 : ∀ {σ} {a0 : Int32}, Rel σ → 0 ≤ ((s_varea σ a0) 35 11).toInt ∧ ((s_varea σ a0) 35 11).toInt ≤ 3) {σ : Nat → Nat → Int32} {τ : Nat → Nat → Int64} {H : Heap} {locs : List Loc} {cells slots : Nat} {v : Int32} {ls : Array Slot} (hR : Rel σ) (hP : va_P D vwCl (gW cs ad σ τ) H) (hS : va_S (fun q => s.heap.size ≤ q) s.heap H locs) (hc9 : cells + 10 ≤ 601024) (hs9 : slots + 100 ≤ 7293034) (hv : 0 ≤ v.toInt ∧ v.toInt + 7 ≤ (L : Int) ∧ L ≤ 3584) (hl : lv_has ls 8 [(0, .ref b), (1, .ref (ad 0)), (2, .ref (ad 35)), (3, .ref (ad 34)), (4, .int v)]) (K : ∀ (σ9 : Nat → Nat → Int32) (τ9 : Nat → Nat → Int64) (H9 : Heap) (locs9 : List Loc) (cells9 slots9 : Nat) (ls9 : Array Slot), Rel σ9 → va_P D vwCl (gW cs ad σ9 τ9) H9 → va_S (fun q => s.heap.size ≤ q) s.heap H9 locs9 → cells9 ≤ cells + 1 → slots9 ≤ slots + 6 → lv_has ls9 8 [(0, .ref b), (1, .ref (ad 0)), (2, .ref (ad 35)), (3, .ref (ad 34)), (4, .int v)] → W p l e room_1 s m #[Value.ref b] below meth c H9 locs9 cells9 slots9 Q (F0 m 1120 ls9 [])) : W p l e room_1 s m #[Value.ref b] below meth c H locs cells slots Q (F0 m 1065 ls []) := by
  obtain ⟨hx, hb, hml, hown, ht, hXs, hbl, hL, hinj, hnew, hK, hX, hl9⟩ := C0
  have hbA : ¬ (fun q : Nat => s.heap.size ≤ q) b := Nat.not_le.mpr hbl
  refine lv_aload_n hx hb dL_law_1065 rfl (lv_at hl 1 rfl) ?_
  refine lv_aload_n hx hb dL_law_1066 rfl (lv_at hl 0 rfl) ?_
  refine lv_iload hx hb dL_law_1067 (lv_at hl 4 rfl) ?_
  refine lv_iconst (v := 1) hx hb dL_law_1069 (by decide) ?_
  refine lv_iadd hx hb dL_law_1070 ?_
  have hi_1 : vp_in (v + 1) L := (by have l1 : (1 : Int32).toInt = 1 := (by decide); have b0 := hv; rw [vp_in_iff]; (try simp only [Int32.toInt_add, Int32.toInt_sub, Int32.toInt_mul, Int.bmod_def, l1]); omega)
  refine va_sld hx hb hXs hbl hbA hS hi_1 dL_law_1071 ?_
  refine lv_aload_n hx hb dL_law_1072 rfl (lv_at hl 3 rfl) ?_
  have F := hF σ (xs ((v + 1).toNatClampNeg)) hR
  refine g_runR (v := .int (t_varea σ (xs ((v + 1).toNatClampNeg)))) (vx_runSW (As := [.ref (ad 0), .int (xs ((v + 1).toNatClampNeg)), .ref (ad 34)]) (rest := []) ⟨hx, hb, hml, hown, ht⟩ (c_hvarea l hl9 hinj σ τ _ (xs ((v + 1).toNatClampNeg)) (h26 hR)) (qSW 3 ht tw_438 tw_439 tw_0 tk_L_area rfl rfl (by decide +kernel) ⟨(Nat.le_of_ble_eq_true rfl), (Nat.le_of_ble_eq_true rfl)⟩) (g_psL hK hP hX hS hnew) rfl rfl hl.1 rfl (lv_room (Nat.le_of_ble_eq_true rfl)) dL_law_1073 ⟨by show _ ≤ 601024; omega, by show _ ≤ 7293034; omega⟩) hS (fun q _ h => gA_new hnew hS.1 q h) (fun q h => gA_new hnew hS.1 q h) (fun H locs hP hz hS => ?_)
  refine lv_istore (lv' := [(5, .int (t_varea σ (xs ((v + 1).toNatClampNeg)))), (0, .ref b), (1, .ref (ad 0)), (2, .ref (ad 35)), (3, .ref (ad 34)), (4, .int v)]) hx hb dL_law_1076 hl (by decide) rfl (fun ls hl => ?_)
  refine lv_aload_n hx hb dL_law_1078 rfl (lv_at hl 3 rfl) ?_
  refine lv_aload_n hx hb dL_law_1079 rfl (lv_at hl 1 rfl) ?_
  refine lv_iload hx hb dL_law_1080 (lv_at hl 5 rfl) ?_
  refine lv_iconst (v := 1) hx hb dL_law_1082 (by decide) ?_
  refine lv_iadd hx hb dL_law_1083 ?_
  have hi_2 : vp_in (v + 1) L := (by have l1 : (1 : Int32).toInt = 1 := (by decide); have b0 := hv; rw [vp_in_iff]; (try simp only [Int32.toInt_add, Int32.toInt_sub, Int32.toInt_mul, Int.bmod_def, l1]); omega)
  refine va_sld hx hb hXs hbl hbA hS hi_2 dL_law_1084 ?_
  refine g_runR (v := .long (f_rarea (s_varea σ (xs ((v + 1).toNatClampNeg)))  (xs ((v + 1).toNatClampNeg)))) (va_runV (C := RR) (As := [.int (xs ((v + 1).toNatClampNeg))]) (rest := []) ⟨hx, hb, hml, hown, ht⟩ (c_rarea l hinj (s_varea σ (xs ((v + 1).toNatClampNeg))) (u_varea σ τ (xs ((v + 1).toNatClampNeg))) _  (xs ((v + 1).toNatClampNeg)) (h35 hR)) (qV 1 ht tw_612 tw_613 tw_614 tw_6 tk_R_area rfl rfl (by decide +kernel) ⟨(Nat.le_of_ble_eq_true rfl), (Nat.le_of_ble_eq_true rfl)⟩) (g_pv (ci := 5) hK hP (by decide) rfl kR rfl) rfl rfl hl.1 rfl (lv_room (Nat.le_of_ble_eq_true rfl)) dL_law_1085 ⟨by show _ ≤ 601024; omega, by show _ ≤ 7293034; omega⟩) hS (fun q _ h => gA_new hnew hS.1 q h) (fun q h => gA_new hnew hS.1 q h) (fun H locs hP hz hS => ?_)
  refine lv_lstore (lv' := [(6, .long (f_rarea (s_varea σ (xs ((v + 1).toNatClampNeg)))  (xs ((v + 1).toNatClampNeg)))), (5, .int (t_varea σ (xs ((v + 1).toNatClampNeg)))), (0, .ref b), (1, .ref (ad 0)), (2, .ref (ad 35)), (3, .ref (ad 34)), (4, .int v)]) hx hb dL_law_1088 hl (by decide) rfl (fun ls hl => ?_)
  refine lv_aload_n hx hb dL_law_1090 rfl (lv_at hl 4 rfl) ?_
  refine g_pure (v := .int (f_thrown (s_rarea (s_varea σ (xs ((v + 1).toNatClampNeg)))  (xs ((v + 1).toNatClampNeg)))  )) (va_runV (C := RR) (As := []) (rest := []) ⟨hx, hb, hml, hown, ht⟩ (c_thrown l hinj (s_rarea (s_varea σ (xs ((v + 1).toNatClampNeg)))  (xs ((v + 1).toNatClampNeg))) (u_varea σ τ (xs ((v + 1).toNatClampNeg))) _   ) (qV 0 ht tw_492 tw_493 tw_494 tw_6 tk_R_thrown rfl rfl (by decide +kernel) ⟨(Nat.le_of_ble_eq_true rfl), (Nat.le_of_ble_eq_true rfl)⟩) (g_pv (ci := 5) hK hP (by decide) rfl kR rfl) rfl rfl hl.1 rfl (lv_room (Nat.le_of_ble_eq_true rfl)) dL_law_1091 ⟨by show _ ≤ 601024; omega, by show _ ≤ 7293034; omega⟩) ?_
  refine lv_iload hx hb dL_law_1094 (lv_at hl 1 rfl) ?_
  refine lv_icmp_eq (tgt := 1101) hx hb dL_law_1096 (by decide) (fun c_3 => ?_) (fun c_3 => ?_)
  · refine lv_iload hx hb dL_law_1101 (lv_at hl 1 rfl) ?_
    refine lv_if_ne (tgt := 1117) hx hb dL_law_1103 (by decide) (fun c_4 => ?_) (fun c_4 => ?_)
    · refine lv_goto (tgt := 1120) hx hb dL_law_1117 (by decide) ?_
      exact K _ _ _ _ _ _ ls F.2.2 hP hS (by omega) (by omega) (lv_sub hl [2, 3, 4, 5, 6] rfl)
    · refine lv_aload_n hx hb dL_law_1106 rfl (lv_at hl 5 rfl) ?_
      refine lv_iconst (v := 0) hx hb dL_law_1107 (by decide) ?_
      have hi_5 : vp_in (0 : Int32) 1 := (by unfold vp_in; decide)
      refine g_lald hx hb hK hP 34 3 (by decide) (fun r t => kL) rfl hi_5 dL_law_1108 ?_
      refine lv_lload hx hb dL_law_1109 (lv_at hl 0 rfl) ?_
      refine W.lcmp hx hb dL_law_1111 ?_
      refine lv_if_eq (tgt := 1117) hx hb dL_law_1112 (by decide) (fun c_6 => ?_) (fun c_6 => ?_)
      · refine lv_goto (tgt := 1120) hx hb dL_law_1117 (by decide) ?_
        exact K _ _ _ _ _ _ ls F.2.2 hP hS (by omega) (by omega) (lv_sub hl [2, 3, 4, 5, 6] rfl)
      · exact absurd ((lg_cmp_eq _ _).mpr ((uo_varea c_4).trans (F.2.1 c_4))) c_6
  · exact absurd F.1 c_3
