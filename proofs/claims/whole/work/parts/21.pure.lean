def f_share (x : Int64) (y : Int64) : Int64 :=
  (f_floorDiv (65536 * x) (if (x - y) < (1 : Int64) then (1 : Int64) else (x - y)))
set_option maxHeartbeats 4000000 in
set_option maxRecDepth 100000 in
theorem c_share (l : Launch) (x : Int64) (y : Int64) : Met l yP_share (wsB kP_share) ({ frames := 1, cells := 0, slots := 0, locals := 25 } : Room) (va_Pc [.long x, .long y] (fun _ => True)) (gR (some (.long (f_share x y)))) 0 0 (fun _ => False) := by
  refine Met.ofW (cc := cP_share) (maxL := 4) (ret := (some .long)) (by decide) rfl ?_
  intro p e s m args below meth c s₁ B hml hv
  obtain ⟨rfl, -⟩ := hv
  have hx := B.exec
  have hb := B.bytes
  have hr := B.returns
  have hts := atoms_spec (ws := wsB kP_share) B.pre
  have ht := hbig hts
  have hown : s.vm.findClass RP = some m.cls := findClass_of_methodNamed B.named
  have hlocks := B.notSynchronized
  have hl := lv_entry ([.long x, .long y]) (n := 4) (Nat.le_of_ble_eq_true rfl)
  rw [lg_entry_eq]
  generalize (lg_sl ([.long x, .long y]) ++ List.replicate (4 - (lg_sl ([.long x, .long y])).length) Slot.unset).toArray = ls at hl ⊢
  have hl : lv_has ls 4 [(0, .long x), (2, .long y)] := hl
  refine lv_ldc2 (v := 65536) hx hb hown (ht _ tw_147) dP_share_0 ?_
  refine lv_lload_n hx hb dP_share_3 rfl (lv_at hl 0 rfl) ?_
  refine lv_lmul hx hb dP_share_4 ?_
  refine lv_lconst (v := 1) hx hb dP_share_5 (by decide) ?_
  refine lv_lload_n hx hb dP_share_6 rfl (lv_at hl 0 rfl) ?_
  refine lv_lload_n hx hb dP_share_7 rfl (lv_at hl 1 rfl) ?_
  refine lv_lsub hx hb dP_share_8 ?_
  refine va_mmax_long hx hb (hml.trans hl.1.symm) hown (ht _ tw_148) (ht _ tw_149) (ht _ tw_13) (ht _ tk_J_max) (Nat.le_of_ble_eq_true rfl) (Nat.le_of_ble_eq_true rfl) (Nat.zero_le _) (Nat.zero_le _) dP_share_9 ?_
  refine g_pure (v := .long (f_floorDiv (65536 * x) (if (x - y) < (1 : Int64) then (1 : Int64) else (x - y)))) (va_runS (As := [.long (65536 * x), .long (if (x - y) < (1 : Int64) then (1 : Int64) else (x - y))]) (rest := []) ⟨hx, hb, hml, hown, hts⟩ (c_floorDiv l (65536 * x) (if (x - y) < (1 : Int64) then (1 : Int64) else (x - y)) (mx1_ne _)) (qS 2 ht tw_151 tw_152 tw_13 tk_J_floorDiv rfl rfl (by decide +kernel) ⟨(Nat.le_of_ble_eq_true rfl), (Nat.le_of_ble_eq_true rfl)⟩) g_pt rfl rfl hl.1 rfl (lv_room (Nat.le_of_ble_eq_true rfl)) dP_share_12 ⟨Nat.zero_le _, Nat.zero_le _⟩) ?_
  have ev : f_share x y = (f_floorDiv (65536 * x) (if (x - y) < (1 : Int64) then (1 : Int64) else (x - y))) := by unfold f_share; rfl
  exact W.lret (v := (f_floorDiv (65536 * x) (if (x - y) < (1 : Int64) then (1 : Int64) else (x - y)))) hx hb hr (fun t ht hW => ⟨by rw [ev], ht⟩) (fun q hq => by cases hq) dP_share_15
def f_towards (x : Int32) (y : Int64) : Int64 :=
  ((f_floorDiv ((x.toInt64) * 65536) y) + 65536)
set_option maxHeartbeats 4000000 in
set_option maxRecDepth 100000 in
theorem c_towards (l : Launch) (x : Int32) (y : Int64) (hy : ¬ y = 0) : Met l yS_towards (wsB kS_towards) ({ frames := 1, cells := 0, slots := 0, locals := 25 } : Room) (va_Pc [.int x, .long y] (fun _ => True)) (gR (some (.long (f_towards x y)))) 0 0 (fun _ => False) := by
  refine Met.ofW (cc := cS_towards) (maxL := 3) (ret := (some .long)) (by decide) rfl ?_
  intro p e s m args below meth c s₁ B hml hv
  obtain ⟨rfl, -⟩ := hv
  have hx := B.exec
  have hb := B.bytes
  have hr := B.returns
  have hts := atoms_spec (ws := wsB kS_towards) B.pre
  have ht := hbig hts
  have hown : s.vm.findClass RS = some m.cls := findClass_of_methodNamed B.named
  have hlocks := B.notSynchronized
  have hl := lv_entry ([.int x, .long y]) (n := 3) (Nat.le_of_ble_eq_true rfl)
  rw [lg_entry_eq]
  generalize (lg_sl ([.int x, .long y]) ++ List.replicate (3 - (lg_sl ([.int x, .long y])).length) Slot.unset).toArray = ls at hl ⊢
  have hl : lv_has ls 3 [(0, .int x), (1, .long y)] := hl
  refine lv_iload_n hx hb dS_towards_0 rfl (lv_at hl 0 rfl) ?_
  refine lv_i2l hx hb dS_towards_1 rfl ?_
  refine lv_ldc2 (v := 65536) hx hb hown (ht _ tw_168) dS_towards_2 ?_
  refine lv_lmul hx hb dS_towards_5 ?_
  refine lv_lload_n hx hb dS_towards_6 rfl (lv_at hl 1 rfl) ?_
  refine g_pure (v := .long (f_floorDiv ((x.toInt64) * 65536) y)) (va_runS (As := [.long ((x.toInt64) * 65536), .long y]) (rest := []) ⟨hx, hb, hml, hown, hts⟩ (c_floorDiv l ((x.toInt64) * 65536) y hy) (qS 2 ht tw_169 tw_152 tw_13 tk_J_floorDiv rfl rfl (by decide +kernel) ⟨(Nat.le_of_ble_eq_true rfl), (Nat.le_of_ble_eq_true rfl)⟩) g_pt rfl rfl hl.1 rfl (lv_room (Nat.le_of_ble_eq_true rfl)) dS_towards_7 ⟨Nat.zero_le _, Nat.zero_le _⟩) ?_
  refine lv_ldc2 (v := 65536) hx hb hown (ht _ tw_168) dS_towards_10 ?_
  refine lv_ladd hx hb dS_towards_13 ?_
  have ev : f_towards x y = ((f_floorDiv ((x.toInt64) * 65536) y) + 65536) := by unfold f_towards; rfl
  exact W.lret (v := ((f_floorDiv ((x.toInt64) * 65536) y) + 65536)) hx hb hr (fun t ht hW => ⟨by rw [ev], ht⟩) (fun q hq => by cases hq) dS_towards_14
def f_sixteenths (x : Int64) (y : Int32) (z : Int32) : Int64 :=
  (if (if ((16 * (y.toInt64)) + (f_floorDiv (x * (z.toInt64)) (8192 : Int64))) < (16383 : Int64) then ((16 * (y.toInt64)) + (f_floorDiv (x * (z.toInt64)) (8192 : Int64))) else (16383 : Int64)) < ((-16384) : Int64) then ((-16384) : Int64) else (if ((16 * (y.toInt64)) + (f_floorDiv (x * (z.toInt64)) (8192 : Int64))) < (16383 : Int64) then ((16 * (y.toInt64)) + (f_floorDiv (x * (z.toInt64)) (8192 : Int64))) else (16383 : Int64)))
set_option maxHeartbeats 4000000 in
set_option maxRecDepth 100000 in
theorem c_sixteenths (l : Launch) (x : Int64) (y : Int32) (z : Int32) : Met l yS_sixteenths (wsB kS_sixteenths) ({ frames := 1, cells := 0, slots := 0, locals := 25 } : Room) (va_Pc [.long x, .int y, .int z] (fun _ => True)) (gR (some (.long (f_sixteenths x y z)))) 0 0 (fun _ => False) := by
  refine Met.ofW (cc := cS_sixteenths) (maxL := 6) (ret := (some .long)) (by decide) rfl ?_
  intro p e s m args below meth c s₁ B hml hv
  obtain ⟨rfl, -⟩ := hv
  have hx := B.exec
  have hb := B.bytes
  have hr := B.returns
  have hts := atoms_spec (ws := wsB kS_sixteenths) B.pre
  have ht := hbig hts
  have hown : s.vm.findClass RS = some m.cls := findClass_of_methodNamed B.named
  have hlocks := B.notSynchronized
  have hl := lv_entry ([.long x, .int y, .int z]) (n := 6) (Nat.le_of_ble_eq_true rfl)
  rw [lg_entry_eq]
  generalize (lg_sl ([.long x, .int y, .int z]) ++ List.replicate (6 - (lg_sl ([.long x, .int y, .int z])).length) Slot.unset).toArray = ls at hl ⊢
  have hl : lv_has ls 6 [(0, .long x), (2, .int y), (3, .int z)] := hl
  refine lv_ldc2 (v := 16) hx hb hown (ht _ tw_173) dS_sixteenths_0 ?_
  refine lv_iload_n hx hb dS_sixteenths_3 rfl (lv_at hl 1 rfl) ?_
  refine lv_i2l hx hb dS_sixteenths_4 rfl ?_
  refine lv_lmul hx hb dS_sixteenths_5 ?_
  refine lv_lload_n hx hb dS_sixteenths_6 rfl (lv_at hl 0 rfl) ?_
  refine lv_iload_n hx hb dS_sixteenths_7 rfl (lv_at hl 2 rfl) ?_
  refine lv_i2l hx hb dS_sixteenths_8 rfl ?_
  refine lv_lmul hx hb dS_sixteenths_9 ?_
  refine lv_ldc2 (v := 8192) hx hb hown (ht _ tw_174) dS_sixteenths_10 ?_
  refine g_pure (v := .long (f_floorDiv (x * (z.toInt64)) (8192 : Int64))) (va_runS (As := [.long (x * (z.toInt64)), .long 8192]) (rest := [.long (16 * (y.toInt64))]) ⟨hx, hb, hml, hown, hts⟩ (c_floorDiv l (x * (z.toInt64)) (8192 : Int64) (by decide)) (qS 2 ht tw_169 tw_152 tw_13 tk_J_floorDiv rfl rfl (by decide +kernel) ⟨(Nat.le_of_ble_eq_true rfl), (Nat.le_of_ble_eq_true rfl)⟩) g_pt rfl rfl hl.1 rfl (lv_room (Nat.le_of_ble_eq_true rfl)) dS_sixteenths_13 ⟨Nat.zero_le _, Nat.zero_le _⟩) ?_
  refine lv_ladd hx hb dS_sixteenths_16 ?_
  refine lv_lstore (lv' := [(4, .long ((16 * (y.toInt64)) + (f_floorDiv (x * (z.toInt64)) (8192 : Int64)))), (0, .long x), (2, .int y), (3, .int z)]) hx hb dS_sixteenths_17 hl (by decide) rfl (fun ls hl => ?_)
  refine lv_ldc2 (v := (-16384)) hx hb hown (ht _ tw_175) dS_sixteenths_19 ?_
  refine lv_ldc2 (v := 16383) hx hb hown (ht _ tw_176) dS_sixteenths_22 ?_
  refine lv_lload hx hb dS_sixteenths_25 (lv_at hl 0 rfl) ?_
  refine va_mmin_long hx hb (hml.trans hl.1.symm) hown (ht _ tw_177) (ht _ tw_178) (ht _ tw_13) (ht _ tk_J_min) (Nat.le_of_ble_eq_true rfl) (Nat.le_of_ble_eq_true rfl) (Nat.zero_le _) (Nat.zero_le _) dS_sixteenths_27 ?_
  refine va_mmax_long hx hb (hml.trans hl.1.symm) hown (ht _ tw_180) (ht _ tw_149) (ht _ tw_13) (ht _ tk_J_max) (Nat.le_of_ble_eq_true rfl) (Nat.le_of_ble_eq_true rfl) (Nat.zero_le _) (Nat.zero_le _) dS_sixteenths_30 ?_
  have ev : f_sixteenths x y z = (if (if ((16 * (y.toInt64)) + (f_floorDiv (x * (z.toInt64)) (8192 : Int64))) < (16383 : Int64) then ((16 * (y.toInt64)) + (f_floorDiv (x * (z.toInt64)) (8192 : Int64))) else (16383 : Int64)) < ((-16384) : Int64) then ((-16384) : Int64) else (if ((16 * (y.toInt64)) + (f_floorDiv (x * (z.toInt64)) (8192 : Int64))) < (16383 : Int64) then ((16 * (y.toInt64)) + (f_floorDiv (x * (z.toInt64)) (8192 : Int64))) else (16383 : Int64))) := by unfold f_sixteenths; rfl
  exact W.lret (v := (if (if ((16 * (y.toInt64)) + (f_floorDiv (x * (z.toInt64)) (8192 : Int64))) < (16383 : Int64) then ((16 * (y.toInt64)) + (f_floorDiv (x * (z.toInt64)) (8192 : Int64))) else (16383 : Int64)) < ((-16384) : Int64) then ((-16384) : Int64) else (if ((16 * (y.toInt64)) + (f_floorDiv (x * (z.toInt64)) (8192 : Int64))) < (16383 : Int64) then ((16 * (y.toInt64)) + (f_floorDiv (x * (z.toInt64)) (8192 : Int64))) else (16383 : Int64)))) hx hb hr (fun t ht hW => ⟨by rw [ev], ht⟩) (fun q hq => by cases hq) dS_sixteenths_33
def f_rlay (x : Int32) (y : Int32) (z : Int32) (u : Int32) : Int32 :=
  if 0 ≤ (lg_cmp ((16 * (z.toInt64)) + (f_down (((f_down ((x.toInt64) * 65536) (y.toInt64)) + 65536) * (u.toInt64)) (8192 : Int64))) (-16384)) then
    if (lg_cmp ((16 * (z.toInt64)) + (f_down (((f_down ((x.toInt64) * 65536) (y.toInt64)) + 65536) * (u.toInt64)) (8192 : Int64))) 16383) ≤ 0 then
      (((16 * (z.toInt64)) + (f_down (((f_down ((x.toInt64) * 65536) (y.toInt64)) + 65536) * (u.toInt64)) (8192 : Int64))).toInt32)
    else
      ((16383 : Int64).toInt32)
  else
    (((-16384) : Int64).toInt32)
set_option maxHeartbeats 4000000 in
set_option maxRecDepth 100000 in
theorem c_rlay (l : Launch) (x : Int32) (y : Int32) (z : Int32) (u : Int32) (hy : ¬ y.toInt64 = 0) : Met l yR_lay (wsB kR_lay) ({ frames := 1, cells := 0, slots := 0, locals := 25 } : Room) (va_Pc [.int x, .int y, .int z, .int u] (fun _ => True)) (gR (some (.int (f_rlay x y z u)))) 0 0 (fun _ => False) := by
  refine Met.ofW (cc := cR_lay) (maxL := 8) (ret := (some .int)) (by decide) rfl ?_
  intro p e s m args below meth c s₁ B hml hv
  obtain ⟨rfl, -⟩ := hv
  have hx := B.exec
  have hb := B.bytes
  have hr := B.returns
  have hts := atoms_spec (ws := wsB kR_lay) B.pre
  have ht := hbig hts
  have hown : s.vm.findClass RR = some m.cls := findClass_of_methodNamed B.named
  have hlocks := B.notSynchronized
  have hl := lv_entry ([.int x, .int y, .int z, .int u]) (n := 8) (Nat.le_of_ble_eq_true rfl)
  rw [lg_entry_eq]
  generalize (lg_sl ([.int x, .int y, .int z, .int u]) ++ List.replicate (8 - (lg_sl ([.int x, .int y, .int z, .int u])).length) Slot.unset).toArray = ls at hl ⊢
  have hl : lv_has ls 8 [(0, .int x), (1, .int y), (2, .int z), (3, .int u)] := hl
  refine lv_iload_n hx hb dR_lay_0 rfl (lv_at hl 0 rfl) ?_
  refine lv_i2l hx hb dR_lay_1 rfl ?_
  refine lv_ldc2 (v := 65536) hx hb hown (ht _ tw_580) dR_lay_2 ?_
  refine lv_lmul hx hb dR_lay_5 ?_
  refine lv_iload_n hx hb dR_lay_6 rfl (lv_at hl 1 rfl) ?_
  refine lv_i2l hx hb dR_lay_7 rfl ?_
  refine g_pure (v := .long (f_down ((x.toInt64) * 65536) (y.toInt64))) (va_runS (As := [.long ((x.toInt64) * 65536), .long (y.toInt64)]) (rest := []) ⟨hx, hb, hml, hown, hts⟩ (c_down l ((x.toInt64) * 65536) (y.toInt64) hy) (qS 2 ht tw_581 tw_582 tw_6 tk_R_down rfl rfl (by decide +kernel) ⟨(Nat.le_of_ble_eq_true rfl), (Nat.le_of_ble_eq_true rfl)⟩) g_pt rfl rfl hl.1 rfl (lv_room (Nat.le_of_ble_eq_true rfl)) dR_lay_8 ⟨Nat.zero_le _, Nat.zero_le _⟩) ?_
  refine lv_ldc2 (v := 65536) hx hb hown (ht _ tw_580) dR_lay_11 ?_
  refine lv_ladd hx hb dR_lay_14 ?_
  refine lv_lstore (lv' := [(4, .long ((f_down ((x.toInt64) * 65536) (y.toInt64)) + 65536)), (0, .int x), (1, .int y), (2, .int z), (3, .int u)]) hx hb dR_lay_15 hl (by decide) rfl (fun ls hl => ?_)
  refine lv_ldc2 (v := 16) hx hb hown (ht _ tw_587) dR_lay_17 ?_
  refine lv_iload_n hx hb dR_lay_20 rfl (lv_at hl 3 rfl) ?_
  refine lv_i2l hx hb dR_lay_21 rfl ?_
  refine lv_lmul hx hb dR_lay_22 ?_
  refine lv_lload hx hb dR_lay_23 (lv_at hl 0 rfl) ?_
  refine lv_iload_n hx hb dR_lay_25 rfl (lv_at hl 4 rfl) ?_
  refine lv_i2l hx hb dR_lay_26 rfl ?_
  refine lv_lmul hx hb dR_lay_27 ?_
  refine lv_ldc2 (v := 8192) hx hb hown (ht _ tw_588) dR_lay_28 ?_
  refine g_pure (v := .long (f_down (((f_down ((x.toInt64) * 65536) (y.toInt64)) + 65536) * (u.toInt64)) (8192 : Int64))) (va_runS (As := [.long (((f_down ((x.toInt64) * 65536) (y.toInt64)) + 65536) * (u.toInt64)), .long 8192]) (rest := [.long (16 * (z.toInt64))]) ⟨hx, hb, hml, hown, hts⟩ (c_down l (((f_down ((x.toInt64) * 65536) (y.toInt64)) + 65536) * (u.toInt64)) (8192 : Int64) (by decide)) (qS 2 ht tw_581 tw_582 tw_6 tk_R_down rfl rfl (by decide +kernel) ⟨(Nat.le_of_ble_eq_true rfl), (Nat.le_of_ble_eq_true rfl)⟩) g_pt rfl rfl hl.1 rfl (lv_room (Nat.le_of_ble_eq_true rfl)) dR_lay_31 ⟨Nat.zero_le _, Nat.zero_le _⟩) ?_
  refine lv_ladd hx hb dR_lay_34 ?_
  refine lv_lstore (lv' := [(6, .long ((16 * (z.toInt64)) + (f_down (((f_down ((x.toInt64) * 65536) (y.toInt64)) + 65536) * (u.toInt64)) (8192 : Int64)))), (4, .long ((f_down ((x.toInt64) * 65536) (y.toInt64)) + 65536)), (0, .int x), (1, .int y), (2, .int z), (3, .int u)]) hx hb dR_lay_35 hl (by decide) rfl (fun ls hl => ?_)
  refine lv_lload hx hb dR_lay_37 (lv_at hl 0 rfl) ?_
  refine lv_ldc2 (v := (-16384)) hx hb hown (ht _ tw_589) dR_lay_39 ?_
  refine W.lcmp hx hb dR_lay_42 ?_
  refine lv_if_ge (tgt := 52) hx hb dR_lay_43 (by decide) (fun c_1 => ?_) (fun c_1 => ?_)
  · refine lv_lload hx hb dR_lay_52 (lv_at hl 0 rfl) ?_
    refine lv_ldc2 (v := 16383) hx hb hown (ht _ tw_590) dR_lay_54 ?_
    refine W.lcmp hx hb dR_lay_57 ?_
    refine lv_if_le (tgt := 67) hx hb dR_lay_58 (by decide) (fun c_2 => ?_) (fun c_2 => ?_)
    · refine lv_lload hx hb dR_lay_67 (lv_at hl 0 rfl) ?_
      refine lv_l2i hx hb dR_lay_69 rfl ?_
      have ev : f_rlay x y z u = (((16 * (z.toInt64)) + (f_down (((f_down ((x.toInt64) * 65536) (y.toInt64)) + 65536) * (u.toInt64)) (8192 : Int64))).toInt32) := by unfold f_rlay; rw [if_pos c_1, if_pos c_2]
      exact W.iret (v := (((16 * (z.toInt64)) + (f_down (((f_down ((x.toInt64) * 65536) (y.toInt64)) + 65536) * (u.toInt64)) (8192 : Int64))).toInt32)) hx hb hr (fun t ht hW => ⟨by rw [ev], ht⟩) (fun q hq => by cases hq) dR_lay_70
    · refine lv_ldc2 (v := 16383) hx hb hown (ht _ tw_590) dR_lay_61 ?_
      refine lv_goto (tgt := 69) hx hb dR_lay_64 (by decide) ?_
      refine lv_l2i hx hb dR_lay_69 rfl ?_
      have ev : f_rlay x y z u = ((16383 : Int64).toInt32) := by unfold f_rlay; rw [if_pos c_1, if_neg c_2]
      exact W.iret (v := ((16383 : Int64).toInt32)) hx hb hr (fun t ht hW => ⟨by rw [ev], ht⟩) (fun q hq => by cases hq) dR_lay_70
  · refine lv_ldc2 (v := (-16384)) hx hb hown (ht _ tw_589) dR_lay_46 ?_
    refine lv_goto (tgt := 69) hx hb dR_lay_49 (by decide) ?_
    refine lv_l2i hx hb dR_lay_69 rfl ?_
    have ev : f_rlay x y z u = (((-16384) : Int64).toInt32) := by unfold f_rlay; rw [if_neg c_1]
    exact W.iret (v := (((-16384) : Int64).toInt32)) hx hb hr (fun t ht hW => ⟨by rw [ev], ht⟩) (fun q hq => by cases hq) dR_lay_70
def f_depthOf (x : Int32) (y : Int32) (z : Int32) (u : Int32) : Int32 :=
  if 0 ≤ (lg_cmp (((z.toInt64) + ((f_down ((f_down ((x.toInt64) * 65536) (y.toInt64)) + 65536) (131072 : Int64)) * ((u - z).toInt64))) + (f_down ((((f_down ((x.toInt64) * 65536) (y.toInt64)) + 65536) - ((f_down ((f_down ((x.toInt64) * 65536) (y.toInt64)) + 65536) (131072 : Int64)) * 131072)) * ((u - z).toInt64)) (131072 : Int64))) 0) then
    if (lg_cmp (((z.toInt64) + ((f_down ((f_down ((x.toInt64) * 65536) (y.toInt64)) + 65536) (131072 : Int64)) * ((u - z).toInt64))) + (f_down ((((f_down ((x.toInt64) * 65536) (y.toInt64)) + 65536) - ((f_down ((f_down ((x.toInt64) * 65536) (y.toInt64)) + 65536) (131072 : Int64)) * 131072)) * ((u - z).toInt64)) (131072 : Int64))) 16777215) ≤ 0 then
      ((((z.toInt64) + ((f_down ((f_down ((x.toInt64) * 65536) (y.toInt64)) + 65536) (131072 : Int64)) * ((u - z).toInt64))) + (f_down ((((f_down ((x.toInt64) * 65536) (y.toInt64)) + 65536) - ((f_down ((f_down ((x.toInt64) * 65536) (y.toInt64)) + 65536) (131072 : Int64)) * 131072)) * ((u - z).toInt64)) (131072 : Int64))).toInt32)
    else
      ((16777215 : Int64).toInt32)
  else
    ((0 : Int64).toInt32)
set_option maxHeartbeats 4000000 in
set_option maxRecDepth 100000 in
theorem c_depthOf (l : Launch) (x : Int32) (y : Int32) (z : Int32) (u : Int32) (hy : ¬ y.toInt64 = 0) : Met l yR_depthOf (wsB kR_depthOf) ({ frames := 1, cells := 0, slots := 0, locals := 25 } : Room) (va_Pc [.int x, .int y, .int z, .int u] (fun _ => True)) (gR (some (.int (f_depthOf x y z u)))) 0 0 (fun _ => False) := by
  refine Met.ofW (cc := cR_depthOf) (maxL := 12) (ret := (some .int)) (by decide) rfl ?_
  intro p e s m args below meth c s₁ B hml hv
  obtain ⟨rfl, -⟩ := hv
  have hx := B.exec
  have hb := B.bytes
  have hr := B.returns
  have hts := atoms_spec (ws := wsB kR_depthOf) B.pre
  have ht := hbig hts
  have hown : s.vm.findClass RR = some m.cls := findClass_of_methodNamed B.named
  have hlocks := B.notSynchronized
  have hl := lv_entry ([.int x, .int y, .int z, .int u]) (n := 12) (Nat.le_of_ble_eq_true rfl)
  rw [lg_entry_eq]
  generalize (lg_sl ([.int x, .int y, .int z, .int u]) ++ List.replicate (12 - (lg_sl ([.int x, .int y, .int z, .int u])).length) Slot.unset).toArray = ls at hl ⊢
  have hl : lv_has ls 12 [(0, .int x), (1, .int y), (2, .int z), (3, .int u)] := hl
  refine lv_iload_n hx hb dR_depthOf_0 rfl (lv_at hl 0 rfl) ?_
  refine lv_i2l hx hb dR_depthOf_1 rfl ?_
  refine lv_ldc2 (v := 65536) hx hb hown (ht _ tw_580) dR_depthOf_2 ?_
  refine lv_lmul hx hb dR_depthOf_5 ?_
  refine lv_iload_n hx hb dR_depthOf_6 rfl (lv_at hl 1 rfl) ?_
  refine lv_i2l hx hb dR_depthOf_7 rfl ?_
  refine g_pure (v := .long (f_down ((x.toInt64) * 65536) (y.toInt64))) (va_runS (As := [.long ((x.toInt64) * 65536), .long (y.toInt64)]) (rest := []) ⟨hx, hb, hml, hown, hts⟩ (c_down l ((x.toInt64) * 65536) (y.toInt64) hy) (qS 2 ht tw_581 tw_582 tw_6 tk_R_down rfl rfl (by decide +kernel) ⟨(Nat.le_of_ble_eq_true rfl), (Nat.le_of_ble_eq_true rfl)⟩) g_pt rfl rfl hl.1 rfl (lv_room (Nat.le_of_ble_eq_true rfl)) dR_depthOf_8 ⟨Nat.zero_le _, Nat.zero_le _⟩) ?_
  refine lv_ldc2 (v := 65536) hx hb hown (ht _ tw_580) dR_depthOf_11 ?_
  refine lv_ladd hx hb dR_depthOf_14 ?_
  refine lv_lstore (lv' := [(4, .long ((f_down ((x.toInt64) * 65536) (y.toInt64)) + 65536)), (0, .int x), (1, .int y), (2, .int z), (3, .int u)]) hx hb dR_depthOf_15 hl (by decide) rfl (fun ls hl => ?_)
  refine lv_lload hx hb dR_depthOf_17 (lv_at hl 0 rfl) ?_
  refine lv_ldc2 (v := 131072) hx hb hown (ht _ tw_594) dR_depthOf_19 ?_
  refine g_pure (v := .long (f_down ((f_down ((x.toInt64) * 65536) (y.toInt64)) + 65536) (131072 : Int64))) (va_runS (As := [.long ((f_down ((x.toInt64) * 65536) (y.toInt64)) + 65536), .long 131072]) (rest := []) ⟨hx, hb, hml, hown, hts⟩ (c_down l ((f_down ((x.toInt64) * 65536) (y.toInt64)) + 65536) (131072 : Int64) (by decide)) (qS 2 ht tw_581 tw_582 tw_6 tk_R_down rfl rfl (by decide +kernel) ⟨(Nat.le_of_ble_eq_true rfl), (Nat.le_of_ble_eq_true rfl)⟩) g_pt rfl rfl hl.1 rfl (lv_room (Nat.le_of_ble_eq_true rfl)) dR_depthOf_22 ⟨Nat.zero_le _, Nat.zero_le _⟩) ?_
  refine lv_lstore (lv' := [(6, .long (f_down ((f_down ((x.toInt64) * 65536) (y.toInt64)) + 65536) (131072 : Int64))), (4, .long ((f_down ((x.toInt64) * 65536) (y.toInt64)) + 65536)), (0, .int x), (1, .int y), (2, .int z), (3, .int u)]) hx hb dR_depthOf_25 hl (by decide) rfl (fun ls hl => ?_)
  refine lv_lload hx hb dR_depthOf_27 (lv_at hl 1 rfl) ?_
  refine lv_lload hx hb dR_depthOf_29 (lv_at hl 0 rfl) ?_
  refine lv_ldc2 (v := 131072) hx hb hown (ht _ tw_594) dR_depthOf_31 ?_
  refine lv_lmul hx hb dR_depthOf_34 ?_
  refine lv_lsub hx hb dR_depthOf_35 ?_
  refine lv_lstore (lv' := [(8, .long (((f_down ((x.toInt64) * 65536) (y.toInt64)) + 65536) - ((f_down ((f_down ((x.toInt64) * 65536) (y.toInt64)) + 65536) (131072 : Int64)) * 131072))), (6, .long (f_down ((f_down ((x.toInt64) * 65536) (y.toInt64)) + 65536) (131072 : Int64))), (4, .long ((f_down ((x.toInt64) * 65536) (y.toInt64)) + 65536)), (0, .int x), (1, .int y), (2, .int z), (3, .int u)]) hx hb dR_depthOf_36 hl (by decide) rfl (fun ls hl => ?_)
  refine lv_iload_n hx hb dR_depthOf_38 rfl (lv_at hl 5 rfl) ?_
  refine lv_i2l hx hb dR_depthOf_39 rfl ?_
  refine lv_lload hx hb dR_depthOf_40 (lv_at hl 1 rfl) ?_
  refine lv_iload_n hx hb dR_depthOf_42 rfl (lv_at hl 6 rfl) ?_
  refine lv_iload_n hx hb dR_depthOf_43 rfl (lv_at hl 5 rfl) ?_
  refine lv_isub hx hb dR_depthOf_44 ?_
  refine lv_i2l hx hb dR_depthOf_45 rfl ?_
  refine lv_lmul hx hb dR_depthOf_46 ?_
  refine lv_ladd hx hb dR_depthOf_47 ?_
  refine lv_lload hx hb dR_depthOf_48 (lv_at hl 0 rfl) ?_
  refine lv_iload_n hx hb dR_depthOf_50 rfl (lv_at hl 6 rfl) ?_
  refine lv_iload_n hx hb dR_depthOf_51 rfl (lv_at hl 5 rfl) ?_
  refine lv_isub hx hb dR_depthOf_52 ?_
  refine lv_i2l hx hb dR_depthOf_53 rfl ?_
  refine lv_lmul hx hb dR_depthOf_54 ?_
  refine lv_ldc2 (v := 131072) hx hb hown (ht _ tw_594) dR_depthOf_55 ?_
  refine g_pure (v := .long (f_down ((((f_down ((x.toInt64) * 65536) (y.toInt64)) + 65536) - ((f_down ((f_down ((x.toInt64) * 65536) (y.toInt64)) + 65536) (131072 : Int64)) * 131072)) * ((u - z).toInt64)) (131072 : Int64))) (va_runS (As := [.long ((((f_down ((x.toInt64) * 65536) (y.toInt64)) + 65536) - ((f_down ((f_down ((x.toInt64) * 65536) (y.toInt64)) + 65536) (131072 : Int64)) * 131072)) * ((u - z).toInt64)), .long 131072]) (rest := [.long ((z.toInt64) + ((f_down ((f_down ((x.toInt64) * 65536) (y.toInt64)) + 65536) (131072 : Int64)) * ((u - z).toInt64)))]) ⟨hx, hb, hml, hown, hts⟩ (c_down l ((((f_down ((x.toInt64) * 65536) (y.toInt64)) + 65536) - ((f_down ((f_down ((x.toInt64) * 65536) (y.toInt64)) + 65536) (131072 : Int64)) * 131072)) * ((u - z).toInt64)) (131072 : Int64) (by decide)) (qS 2 ht tw_581 tw_582 tw_6 tk_R_down rfl rfl (by decide +kernel) ⟨(Nat.le_of_ble_eq_true rfl), (Nat.le_of_ble_eq_true rfl)⟩) g_pt rfl rfl hl.1 rfl (lv_room (Nat.le_of_ble_eq_true rfl)) dR_depthOf_58 ⟨Nat.zero_le _, Nat.zero_le _⟩) ?_
  refine lv_ladd hx hb dR_depthOf_61 ?_
  refine lv_lstore (lv' := [(10, .long (((z.toInt64) + ((f_down ((f_down ((x.toInt64) * 65536) (y.toInt64)) + 65536) (131072 : Int64)) * ((u - z).toInt64))) + (f_down ((((f_down ((x.toInt64) * 65536) (y.toInt64)) + 65536) - ((f_down ((f_down ((x.toInt64) * 65536) (y.toInt64)) + 65536) (131072 : Int64)) * 131072)) * ((u - z).toInt64)) (131072 : Int64)))), (8, .long (((f_down ((x.toInt64) * 65536) (y.toInt64)) + 65536) - ((f_down ((f_down ((x.toInt64) * 65536) (y.toInt64)) + 65536) (131072 : Int64)) * 131072))), (6, .long (f_down ((f_down ((x.toInt64) * 65536) (y.toInt64)) + 65536) (131072 : Int64))), (4, .long ((f_down ((x.toInt64) * 65536) (y.toInt64)) + 65536)), (0, .int x), (1, .int y), (2, .int z), (3, .int u)]) hx hb dR_depthOf_62 hl (by decide) rfl (fun ls hl => ?_)
  refine lv_lload hx hb dR_depthOf_64 (lv_at hl 0 rfl) ?_
  refine lv_lconst (v := 0) hx hb dR_depthOf_66 (by decide) ?_
  refine W.lcmp hx hb dR_depthOf_67 ?_
  refine lv_if_ge (tgt := 75) hx hb dR_depthOf_68 (by decide) (fun c_1 => ?_) (fun c_1 => ?_)
  · refine lv_lload hx hb dR_depthOf_75 (lv_at hl 0 rfl) ?_
    refine lv_ldc2 (v := 16777215) hx hb hown (ht _ tw_595) dR_depthOf_77 ?_
    refine W.lcmp hx hb dR_depthOf_80 ?_
    refine lv_if_le (tgt := 90) hx hb dR_depthOf_81 (by decide) (fun c_2 => ?_) (fun c_2 => ?_)
    · refine lv_lload hx hb dR_depthOf_90 (lv_at hl 0 rfl) ?_
      refine lv_l2i hx hb dR_depthOf_92 rfl ?_
      have ev : f_depthOf x y z u = ((((z.toInt64) + ((f_down ((f_down ((x.toInt64) * 65536) (y.toInt64)) + 65536) (131072 : Int64)) * ((u - z).toInt64))) + (f_down ((((f_down ((x.toInt64) * 65536) (y.toInt64)) + 65536) - ((f_down ((f_down ((x.toInt64) * 65536) (y.toInt64)) + 65536) (131072 : Int64)) * 131072)) * ((u - z).toInt64)) (131072 : Int64))).toInt32) := by unfold f_depthOf; rw [if_pos c_1, if_pos c_2]
      exact W.iret (v := ((((z.toInt64) + ((f_down ((f_down ((x.toInt64) * 65536) (y.toInt64)) + 65536) (131072 : Int64)) * ((u - z).toInt64))) + (f_down ((((f_down ((x.toInt64) * 65536) (y.toInt64)) + 65536) - ((f_down ((f_down ((x.toInt64) * 65536) (y.toInt64)) + 65536) (131072 : Int64)) * 131072)) * ((u - z).toInt64)) (131072 : Int64))).toInt32)) hx hb hr (fun t ht hW => ⟨by rw [ev], ht⟩) (fun q hq => by cases hq) dR_depthOf_93
    · refine lv_ldc2 (v := 16777215) hx hb hown (ht _ tw_595) dR_depthOf_84 ?_
      refine lv_goto (tgt := 92) hx hb dR_depthOf_87 (by decide) ?_
      refine lv_l2i hx hb dR_depthOf_92 rfl ?_
      have ev : f_depthOf x y z u = ((16777215 : Int64).toInt32) := by unfold f_depthOf; rw [if_pos c_1, if_neg c_2]
      exact W.iret (v := ((16777215 : Int64).toInt32)) hx hb hr (fun t ht hW => ⟨by rw [ev], ht⟩) (fun q hq => by cases hq) dR_depthOf_93
  · refine lv_lconst (v := 0) hx hb dR_depthOf_71 (by decide) ?_
    refine lv_goto (tgt := 92) hx hb dR_depthOf_72 (by decide) ?_
    refine lv_l2i hx hb dR_depthOf_92 rfl ?_
    have ev : f_depthOf x y z u = ((0 : Int64).toInt32) := by unfold f_depthOf; rw [if_neg c_1]
    exact W.iret (v := ((0 : Int64).toInt32)) hx hb hr (fun t ht hW => ⟨by rw [ev], ht⟩) (fun q hq => by cases hq) dR_depthOf_93
