def f_isBelow (x : Int32) (y : Int32) : Int32 :=
  if x < 0 then
    0
  else
    if y ≤ x then
      0
    else
      1
set_option maxHeartbeats 800000 in
set_option maxRecDepth 100000 in
theorem c_isBelow (l : Launch) (x : Int32) (y : Int32) : Met l yV_isBelow (wsB kV_isBelow) ({ frames := 0, cells := 0, slots := 0, locals := 0 } : Room) (va_Pc [.int x, .int y] (fun _ => True)) (gR (some (.int (f_isBelow x y)))) 0 0 (fun _ => False) := by
  refine Met.ofW (cc := cV_isBelow) (maxL := 2) (ret := (some .boolean)) (by decide) rfl ?_
  intro p e s m args below meth c s₁ B hml hv
  obtain ⟨rfl, -⟩ := hv
  have hx := B.exec
  have hb := B.bytes
  have hr := B.returns
  have hts := atoms_spec (ws := wsB kV_isBelow) B.pre
  have ht := hbig hts
  have hown : s.vm.findClass RV = some m.cls := findClass_of_methodNamed B.named
  have hlocks := B.notSynchronized
  have hl := lv_entry ([.int x, .int y]) (n := 2) (Nat.le_of_ble_eq_true rfl)
  rw [lg_entry_eq]
  generalize (lg_sl ([.int x, .int y]) ++ List.replicate (2 - (lg_sl ([.int x, .int y])).length) Slot.unset).toArray = ls at hl ⊢
  have hl : lv_has ls 2 [(0, .int x), (1, .int y)] := hl
  refine lv_iload_n hx hb dV_isBelow_0 rfl (lv_at hl 0 rfl) ?_
  refine lv_if_lt (tgt := 13) hx hb dV_isBelow_1 (by decide) (fun c_1 => ?_) (fun c_1 => ?_)
  · refine lv_iconst (v := 0) hx hb dV_isBelow_13 (by decide) ?_
    have ev : f_isBelow x y = 0 := by unfold f_isBelow; rw [if_pos c_1]
    exact W.zret (v := 0) (ty := .boolean) hx hb hr rfl (fun t ht hW => ⟨by rw [ev], ht⟩) (fun q hq => by cases hq) dV_isBelow_14
  · refine lv_iload_n hx hb dV_isBelow_4 rfl (lv_at hl 0 rfl) ?_
    refine lv_iload_n hx hb dV_isBelow_5 rfl (lv_at hl 1 rfl) ?_
    refine lv_icmp_ge (tgt := 13) hx hb dV_isBelow_6 (by decide) (fun c_2 => ?_) (fun c_2 => ?_)
    · refine lv_iconst (v := 0) hx hb dV_isBelow_13 (by decide) ?_
      have ev : f_isBelow x y = 0 := by unfold f_isBelow; rw [if_neg c_1, if_pos c_2]
      exact W.zret (v := 0) (ty := .boolean) hx hb hr rfl (fun t ht hW => ⟨by rw [ev], ht⟩) (fun q hq => by cases hq) dV_isBelow_14
    · refine lv_iconst (v := 1) hx hb dV_isBelow_9 (by decide) ?_
      refine lv_goto (tgt := 14) hx hb dV_isBelow_10 (by decide) ?_
      have ev : f_isBelow x y = 1 := by unfold f_isBelow; rw [if_neg c_1, if_neg c_2]
      exact W.zret (v := 1) (ty := .boolean) hx hb hr rfl (fun t ht hW => ⟨by rw [ev], ht⟩) (fun q hq => by cases hq) dV_isBelow_14
def f_isWithin (x : Int32) (y : Int32) (z : Int32) : Int32 :=
  if x < y then
    0
  else
    if z < x then
      0
    else
      1
set_option maxHeartbeats 800000 in
set_option maxRecDepth 100000 in
theorem c_isWithin (l : Launch) (x : Int32) (y : Int32) (z : Int32) : Met l yV_isWithin (wsB kV_isWithin) ({ frames := 0, cells := 0, slots := 0, locals := 0 } : Room) (va_Pc [.int x, .int y, .int z] (fun _ => True)) (gR (some (.int (f_isWithin x y z)))) 0 0 (fun _ => False) := by
  refine Met.ofW (cc := cV_isWithin) (maxL := 3) (ret := (some .boolean)) (by decide) rfl ?_
  intro p e s m args below meth c s₁ B hml hv
  obtain ⟨rfl, -⟩ := hv
  have hx := B.exec
  have hb := B.bytes
  have hr := B.returns
  have hts := atoms_spec (ws := wsB kV_isWithin) B.pre
  have ht := hbig hts
  have hown : s.vm.findClass RV = some m.cls := findClass_of_methodNamed B.named
  have hlocks := B.notSynchronized
  have hl := lv_entry ([.int x, .int y, .int z]) (n := 3) (Nat.le_of_ble_eq_true rfl)
  rw [lg_entry_eq]
  generalize (lg_sl ([.int x, .int y, .int z]) ++ List.replicate (3 - (lg_sl ([.int x, .int y, .int z])).length) Slot.unset).toArray = ls at hl ⊢
  have hl : lv_has ls 3 [(0, .int x), (1, .int y), (2, .int z)] := hl
  refine lv_iload_n hx hb dV_isWithin_0 rfl (lv_at hl 0 rfl) ?_
  refine lv_iload_n hx hb dV_isWithin_1 rfl (lv_at hl 1 rfl) ?_
  refine lv_icmp_lt (tgt := 14) hx hb dV_isWithin_2 (by decide) (fun c_1 => ?_) (fun c_1 => ?_)
  · refine lv_iconst (v := 0) hx hb dV_isWithin_14 (by decide) ?_
    have ev : f_isWithin x y z = 0 := by unfold f_isWithin; rw [if_pos c_1]
    exact W.zret (v := 0) (ty := .boolean) hx hb hr rfl (fun t ht hW => ⟨by rw [ev], ht⟩) (fun q hq => by cases hq) dV_isWithin_15
  · refine lv_iload_n hx hb dV_isWithin_5 rfl (lv_at hl 0 rfl) ?_
    refine lv_iload_n hx hb dV_isWithin_6 rfl (lv_at hl 2 rfl) ?_
    refine lv_icmp_gt (tgt := 14) hx hb dV_isWithin_7 (by decide) (fun c_2 => ?_) (fun c_2 => ?_)
    · refine lv_iconst (v := 0) hx hb dV_isWithin_14 (by decide) ?_
      have ev : f_isWithin x y z = 0 := by unfold f_isWithin; rw [if_neg c_1, if_pos c_2]
      exact W.zret (v := 0) (ty := .boolean) hx hb hr rfl (fun t ht hW => ⟨by rw [ev], ht⟩) (fun q hq => by cases hq) dV_isWithin_15
    · refine lv_iconst (v := 1) hx hb dV_isWithin_10 (by decide) ?_
      refine lv_goto (tgt := 15) hx hb dV_isWithin_11 (by decide) ?_
      have ev : f_isWithin x y z = 1 := by unfold f_isWithin; rw [if_neg c_1, if_neg c_2]
      exact W.zret (v := 1) (ty := .boolean) hx hb hr rfl (fun t ht hW => ⟨by rw [ev], ht⟩) (fun q hq => by cases hq) dV_isWithin_15
def f_fanOf (x : Int32) : Int32 :=
  if (3 : Int32) ≤ x then
    (x - 2)
  else
    0
set_option maxHeartbeats 800000 in
set_option maxRecDepth 100000 in
theorem c_fanOf (l : Launch) (x : Int32) : Met l yV_fanOf (wsB kV_fanOf) ({ frames := 0, cells := 0, slots := 0, locals := 0 } : Room) (va_Pc [.int x] (fun _ => True)) (gR (some (.int (f_fanOf x)))) 0 0 (fun _ => False) := by
  refine Met.ofW (cc := cV_fanOf) (maxL := 1) (ret := (some .int)) (by decide) rfl ?_
  intro p e s m args below meth c s₁ B hml hv
  obtain ⟨rfl, -⟩ := hv
  have hx := B.exec
  have hb := B.bytes
  have hr := B.returns
  have hts := atoms_spec (ws := wsB kV_fanOf) B.pre
  have ht := hbig hts
  have hown : s.vm.findClass RV = some m.cls := findClass_of_methodNamed B.named
  have hlocks := B.notSynchronized
  have hl := lv_entry ([.int x]) (n := 1) (Nat.le_of_ble_eq_true rfl)
  rw [lg_entry_eq]
  generalize (lg_sl ([.int x]) ++ List.replicate (1 - (lg_sl ([.int x])).length) Slot.unset).toArray = ls at hl ⊢
  have hl : lv_has ls 1 [(0, .int x)] := hl
  refine lv_iload_n hx hb dV_fanOf_0 rfl (lv_at hl 0 rfl) ?_
  refine lv_iconst (v := 3) hx hb dV_fanOf_1 (by decide) ?_
  refine lv_icmp_ge (tgt := 9) hx hb dV_fanOf_2 (by decide) (fun c_1 => ?_) (fun c_1 => ?_)
  · refine lv_iload_n hx hb dV_fanOf_9 rfl (lv_at hl 0 rfl) ?_
    refine lv_iconst (v := 2) hx hb dV_fanOf_10 (by decide) ?_
    refine lv_isub hx hb dV_fanOf_11 ?_
    have ev : f_fanOf x = (x - 2) := by unfold f_fanOf; rw [if_pos c_1]
    exact W.iret (v := (x - 2)) hx hb hr (fun t ht hW => ⟨by rw [ev], ht⟩) (fun q hq => by cases hq) dV_fanOf_12
  · refine lv_iconst (v := 0) hx hb dV_fanOf_5 (by decide) ?_
    refine lv_goto (tgt := 12) hx hb dV_fanOf_6 (by decide) ?_
    have ev : f_fanOf x = 0 := by unfold f_fanOf; rw [if_neg c_1]
    exact W.iret (v := 0) hx hb hr (fun t ht hW => ⟨by rw [ev], ht⟩) (fun q hq => by cases hq) dV_fanOf_12
def f_fanCorner (x : Int32) (y : Int32) : Int32 :=
  if y = 0 then
    0
  else
    (x + y)
set_option maxHeartbeats 800000 in
set_option maxRecDepth 100000 in
theorem c_fanCorner (l : Launch) (x : Int32) (y : Int32) : Met l yV_fanCorner (wsB kV_fanCorner) ({ frames := 0, cells := 0, slots := 0, locals := 0 } : Room) (va_Pc [.int x, .int y] (fun _ => True)) (gR (some (.int (f_fanCorner x y)))) 0 0 (fun _ => False) := by
  refine Met.ofW (cc := cV_fanCorner) (maxL := 2) (ret := (some .int)) (by decide) rfl ?_
  intro p e s m args below meth c s₁ B hml hv
  obtain ⟨rfl, -⟩ := hv
  have hx := B.exec
  have hb := B.bytes
  have hr := B.returns
  have hts := atoms_spec (ws := wsB kV_fanCorner) B.pre
  have ht := hbig hts
  have hown : s.vm.findClass RV = some m.cls := findClass_of_methodNamed B.named
  have hlocks := B.notSynchronized
  have hl := lv_entry ([.int x, .int y]) (n := 2) (Nat.le_of_ble_eq_true rfl)
  rw [lg_entry_eq]
  generalize (lg_sl ([.int x, .int y]) ++ List.replicate (2 - (lg_sl ([.int x, .int y])).length) Slot.unset).toArray = ls at hl ⊢
  have hl : lv_has ls 2 [(0, .int x), (1, .int y)] := hl
  refine lv_iload_n hx hb dV_fanCorner_0 rfl (lv_at hl 1 rfl) ?_
  refine lv_if_ne (tgt := 8) hx hb dV_fanCorner_1 (by decide) (fun c_1 => ?_) (fun c_1 => ?_)
  · refine lv_iload_n hx hb dV_fanCorner_8 rfl (lv_at hl 0 rfl) ?_
    refine lv_iload_n hx hb dV_fanCorner_9 rfl (lv_at hl 1 rfl) ?_
    refine lv_iadd hx hb dV_fanCorner_10 ?_
    have ev : f_fanCorner x y = (x + y) := by unfold f_fanCorner; rw [if_neg c_1]
    exact W.iret (v := (x + y)) hx hb hr (fun t ht hW => ⟨by rw [ev], ht⟩) (fun q hq => by cases hq) dV_fanCorner_11
  · refine lv_iconst (v := 0) hx hb dV_fanCorner_4 (by decide) ?_
    refine lv_goto (tgt := 11) hx hb dV_fanCorner_5 (by decide) ?_
    have ev : f_fanCorner x y = 0 := by unfold f_fanCorner; rw [if_pos c_1]
    exact W.iret (v := 0) hx hb hr (fun t ht hW => ⟨by rw [ev], ht⟩) (fun q hq => by cases hq) dV_fanCorner_11
def f_stripCorner (x : Int32) (y : Int32) : Int32 :=
  if (x - x / 2 * 2) = 1 then
    if (2 : Int32) ≤ y then
      (x + y)
    else
      ((x + 1) - y)
  else
    (x + y)
set_option maxHeartbeats 800000 in
set_option maxRecDepth 100000 in
theorem c_stripCorner (l : Launch) (x : Int32) (y : Int32) : Met l yV_stripCorner (wsB kV_stripCorner) ({ frames := 0, cells := 0, slots := 0, locals := 0 } : Room) (va_Pc [.int x, .int y] (fun _ => True)) (gR (some (.int (f_stripCorner x y)))) 0 0 (fun _ => False) := by
  refine Met.ofW (cc := cV_stripCorner) (maxL := 3) (ret := (some .int)) (by decide) rfl ?_
  intro p e s m args below meth c s₁ B hml hv
  obtain ⟨rfl, -⟩ := hv
  have hx := B.exec
  have hb := B.bytes
  have hr := B.returns
  have hts := atoms_spec (ws := wsB kV_stripCorner) B.pre
  have ht := hbig hts
  have hown : s.vm.findClass RV = some m.cls := findClass_of_methodNamed B.named
  have hlocks := B.notSynchronized
  have hl := lv_entry ([.int x, .int y]) (n := 3) (Nat.le_of_ble_eq_true rfl)
  rw [lg_entry_eq]
  generalize (lg_sl ([.int x, .int y]) ++ List.replicate (3 - (lg_sl ([.int x, .int y])).length) Slot.unset).toArray = ls at hl ⊢
  have hl : lv_has ls 3 [(0, .int x), (1, .int y)] := hl
  refine lv_iload_n hx hb dV_stripCorner_0 rfl (lv_at hl 0 rfl) ?_
  refine lv_iconst (v := 2) hx hb dV_stripCorner_1 (by decide) ?_
  refine lv_irem hx hb dV_stripCorner_2 (by decide) ?_
  refine lv_iconst (v := 1) hx hb dV_stripCorner_3 (by decide) ?_
  refine lv_icmp_ne (tgt := 16) hx hb dV_stripCorner_4 (by decide) (fun c_1 => ?_) (fun c_1 => ?_)
  · refine lv_iconst (v := 0) hx hb dV_stripCorner_16 (by decide) ?_
    refine lv_istore_n (lv' := [(2, .int 0), (0, .int x), (1, .int y)]) hx hb dV_stripCorner_17 rfl hl (by decide) rfl (fun ls hl => ?_)
    refine lv_iload_n hx hb dV_stripCorner_18 rfl (lv_at hl 0 rfl) ?_
    refine lv_if_eq (tgt := 30) hx hb dV_stripCorner_19 (by decide) (fun c_2 => ?_) (fun c_2 => ?_)
    · refine lv_iload_n hx hb dV_stripCorner_30 rfl (lv_at hl 1 rfl) ?_
      refine lv_iload_n hx hb dV_stripCorner_31 rfl (lv_at hl 2 rfl) ?_
      refine lv_iadd hx hb dV_stripCorner_32 ?_
      have ev : f_stripCorner x y = (x + y) := by unfold f_stripCorner; rw [if_neg c_1]
      exact W.iret (v := (x + y)) hx hb hr (fun t ht hW => ⟨by rw [ev], ht⟩) (fun q hq => by cases hq) dV_stripCorner_33
    · exact absurd (by decide) c_2
  · refine lv_iload_n hx hb dV_stripCorner_7 rfl (lv_at hl 1 rfl) ?_
    refine lv_iconst (v := 2) hx hb dV_stripCorner_8 (by decide) ?_
    refine lv_icmp_ge (tgt := 16) hx hb dV_stripCorner_9 (by decide) (fun c_3 => ?_) (fun c_3 => ?_)
    · refine lv_iconst (v := 0) hx hb dV_stripCorner_16 (by decide) ?_
      refine lv_istore_n (lv' := [(2, .int 0), (0, .int x), (1, .int y)]) hx hb dV_stripCorner_17 rfl hl (by decide) rfl (fun ls hl => ?_)
      refine lv_iload_n hx hb dV_stripCorner_18 rfl (lv_at hl 0 rfl) ?_
      refine lv_if_eq (tgt := 30) hx hb dV_stripCorner_19 (by decide) (fun c_4 => ?_) (fun c_4 => ?_)
      · refine lv_iload_n hx hb dV_stripCorner_30 rfl (lv_at hl 1 rfl) ?_
        refine lv_iload_n hx hb dV_stripCorner_31 rfl (lv_at hl 2 rfl) ?_
        refine lv_iadd hx hb dV_stripCorner_32 ?_
        have ev : f_stripCorner x y = (x + y) := by unfold f_stripCorner; rw [if_pos c_1, if_pos c_3]
        exact W.iret (v := (x + y)) hx hb hr (fun t ht hW => ⟨by rw [ev], ht⟩) (fun q hq => by cases hq) dV_stripCorner_33
      · exact absurd (by decide) c_4
    · refine lv_iconst (v := 1) hx hb dV_stripCorner_12 (by decide) ?_
      refine lv_goto (tgt := 17) hx hb dV_stripCorner_13 (by decide) ?_
      refine lv_istore_n (lv' := [(2, .int 1), (0, .int x), (1, .int y)]) hx hb dV_stripCorner_17 rfl hl (by decide) rfl (fun ls hl => ?_)
      refine lv_iload_n hx hb dV_stripCorner_18 rfl (lv_at hl 0 rfl) ?_
      refine lv_if_eq (tgt := 30) hx hb dV_stripCorner_19 (by decide) (fun c_5 => ?_) (fun c_5 => ?_)
      · exact absurd c_5 (by decide)
      · refine lv_iload_n hx hb dV_stripCorner_22 rfl (lv_at hl 1 rfl) ?_
        refine lv_iconst (v := 1) hx hb dV_stripCorner_23 (by decide) ?_
        refine lv_iadd hx hb dV_stripCorner_24 ?_
        refine lv_iload_n hx hb dV_stripCorner_25 rfl (lv_at hl 2 rfl) ?_
        refine lv_isub hx hb dV_stripCorner_26 ?_
        refine lv_goto (tgt := 33) hx hb dV_stripCorner_27 (by decide) ?_
        have ev : f_stripCorner x y = ((x + 1) - y) := by unfold f_stripCorner; rw [if_pos c_1, if_neg c_3]
        exact W.iret (v := ((x + 1) - y)) hx hb hr (fun t ht hW => ⟨by rw [ev], ht⟩) (fun q hq => by cases hq) dV_stripCorner_33
def f_floorDiv (x : Int64) (y : Int64) : Int64 :=
  if 0 ≤ (lg_cmp (x ^^^ y) 0) then
    (x / y)
  else
    if (lg_cmp ((x / y) * y) x) = 0 then
      (x / y)
    else
      ((x / y) - 1)
set_option maxHeartbeats 800000 in
set_option maxRecDepth 100000 in
theorem c_floorDiv (l : Launch) (x : Int64) (y : Int64) (hy : ¬ y = 0) : Met l yJ_floorDiv (wsB kJ_floorDiv) ({ frames := 0, cells := 0, slots := 0, locals := 0 } : Room) (va_Pc [.long x, .long y] (fun _ => True)) (gR (some (.long (f_floorDiv x y)))) 0 0 (fun _ => False) := by
  refine va_MetF (cc := cJ_floorDiv) (maxL := 6) (ret := (some .long)) (by decide +kernel) rfl ?_
  intro p e s m args below meth c s₁ B hml hv
  obtain ⟨rfl, -⟩ := hv
  have hx := B.exec
  have hb := B.bytes
  have hr := B.returns
  have hts := atoms_spec (ws := wsB kJ_floorDiv) B.pre
  have ht := hbig hts
  have hown : s.vm.findClass RJ = some m.cls := findClass_of_methodNamed B.named
  have hlocks := B.notSynchronized
  have hl := lv_entry ([.long x, .long y]) (n := 6) (Nat.le_of_ble_eq_true rfl)
  rw [lg_entry_eq]
  generalize (lg_sl ([.long x, .long y]) ++ List.replicate (6 - (lg_sl ([.long x, .long y])).length) Slot.unset).toArray = ls at hl ⊢
  have hl : lv_has ls 6 [(0, .long x), (2, .long y)] := hl
  refine lv_lload_n hx hb dJ_floorDiv_0 rfl (lv_at hl 0 rfl) ?_
  refine lv_lload_n hx hb dJ_floorDiv_1 rfl (lv_at hl 1 rfl) ?_
  refine lv_ldiv hx hb dJ_floorDiv_2 hy ?_
  refine lv_lstore (lv' := [(4, .long (x / y)), (0, .long x), (2, .long y)]) hx hb dJ_floorDiv_3 hl (by decide) rfl (fun ls hl => ?_)
  refine lv_lload_n hx hb dJ_floorDiv_5 rfl (lv_at hl 1 rfl) ?_
  refine lv_lload_n hx hb dJ_floorDiv_6 rfl (lv_at hl 2 rfl) ?_
  refine lv_lxor hx hb dJ_floorDiv_7 ?_
  refine lv_lconst (v := 0) hx hb dJ_floorDiv_8 (by decide) ?_
  refine W.lcmp hx hb dJ_floorDiv_9 ?_
  refine lv_if_ge (tgt := 27) hx hb dJ_floorDiv_10 (by decide) (fun c_1 => ?_) (fun c_1 => ?_)
  · refine lv_lload hx hb dJ_floorDiv_27 (lv_at hl 0 rfl) ?_
    have ev : f_floorDiv x y = (x / y) := by unfold f_floorDiv; rw [if_pos c_1]
    exact W.lret (v := (x / y)) hx hb hr (fun t ht hW => ⟨by rw [ev], ht⟩) (fun q hq => by cases hq) dJ_floorDiv_29
  · refine lv_lload hx hb dJ_floorDiv_13 (lv_at hl 0 rfl) ?_
    refine lv_lload_n hx hb dJ_floorDiv_15 rfl (lv_at hl 2 rfl) ?_
    refine lv_lmul hx hb dJ_floorDiv_16 ?_
    refine lv_lload_n hx hb dJ_floorDiv_17 rfl (lv_at hl 1 rfl) ?_
    refine W.lcmp hx hb dJ_floorDiv_18 ?_
    refine lv_if_eq (tgt := 27) hx hb dJ_floorDiv_19 (by decide) (fun c_2 => ?_) (fun c_2 => ?_)
    · refine lv_lload hx hb dJ_floorDiv_27 (lv_at hl 0 rfl) ?_
      have ev : f_floorDiv x y = (x / y) := by unfold f_floorDiv; rw [if_neg c_1, if_pos c_2]
      exact W.lret (v := (x / y)) hx hb hr (fun t ht hW => ⟨by rw [ev], ht⟩) (fun q hq => by cases hq) dJ_floorDiv_29
    · refine lv_lload hx hb dJ_floorDiv_22 (lv_at hl 0 rfl) ?_
      refine lv_lconst (v := 1) hx hb dJ_floorDiv_24 (by decide) ?_
      refine lv_lsub hx hb dJ_floorDiv_25 ?_
      have ev : f_floorDiv x y = ((x / y) - 1) := by unfold f_floorDiv; rw [if_neg c_1, if_neg c_2]
      exact W.lret (v := ((x / y) - 1)) hx hb hr (fun t ht hW => ⟨by rw [ev], ht⟩) (fun q hq => by cases hq) dJ_floorDiv_26
def f_floorMod (x : Int64) (y : Int64) : Int64 :=
  if 0 ≤ (lg_cmp (x ^^^ y) 0) then
    (x - x / y * y)
  else
    if (lg_cmp (x - x / y * y) 0) = 0 then
      (x - x / y * y)
    else
      ((x - x / y * y) + y)
set_option maxHeartbeats 800000 in
set_option maxRecDepth 100000 in
theorem c_floorMod (l : Launch) (x : Int64) (y : Int64) (hy : ¬ y = 0) : Met l yJ_floorMod (wsB kJ_floorMod) ({ frames := 0, cells := 0, slots := 0, locals := 0 } : Room) (va_Pc [.long x, .long y] (fun _ => True)) (gR (some (.long (f_floorMod x y)))) 0 0 (fun _ => False) := by
  refine va_MetF (cc := cJ_floorMod) (maxL := 6) (ret := (some .long)) (by decide +kernel) rfl ?_
  intro p e s m args below meth c s₁ B hml hv
  obtain ⟨rfl, -⟩ := hv
  have hx := B.exec
  have hb := B.bytes
  have hr := B.returns
  have hts := atoms_spec (ws := wsB kJ_floorMod) B.pre
  have ht := hbig hts
  have hown : s.vm.findClass RJ = some m.cls := findClass_of_methodNamed B.named
  have hlocks := B.notSynchronized
  have hl := lv_entry ([.long x, .long y]) (n := 6) (Nat.le_of_ble_eq_true rfl)
  rw [lg_entry_eq]
  generalize (lg_sl ([.long x, .long y]) ++ List.replicate (6 - (lg_sl ([.long x, .long y])).length) Slot.unset).toArray = ls at hl ⊢
  have hl : lv_has ls 6 [(0, .long x), (2, .long y)] := hl
  refine lv_lload_n hx hb dJ_floorMod_0 rfl (lv_at hl 0 rfl) ?_
  refine lv_lload_n hx hb dJ_floorMod_1 rfl (lv_at hl 1 rfl) ?_
  refine lv_lrem hx hb dJ_floorMod_2 hy ?_
  refine lv_lstore (lv' := [(4, .long (x - x / y * y)), (0, .long x), (2, .long y)]) hx hb dJ_floorMod_3 hl (by decide) rfl (fun ls hl => ?_)
  refine lv_lload_n hx hb dJ_floorMod_5 rfl (lv_at hl 1 rfl) ?_
  refine lv_lload_n hx hb dJ_floorMod_6 rfl (lv_at hl 2 rfl) ?_
  refine lv_lxor hx hb dJ_floorMod_7 ?_
  refine lv_lconst (v := 0) hx hb dJ_floorMod_8 (by decide) ?_
  refine W.lcmp hx hb dJ_floorMod_9 ?_
  refine lv_if_ge (tgt := 25) hx hb dJ_floorMod_10 (by decide) (fun c_1 => ?_) (fun c_1 => ?_)
  · refine lv_lload hx hb dJ_floorMod_25 (lv_at hl 0 rfl) ?_
    have ev : f_floorMod x y = (x - x / y * y) := by unfold f_floorMod; rw [if_pos c_1]
    exact W.lret (v := (x - x / y * y)) hx hb hr (fun t ht hW => ⟨by rw [ev], ht⟩) (fun q hq => by cases hq) dJ_floorMod_27
  · refine lv_lload hx hb dJ_floorMod_13 (lv_at hl 0 rfl) ?_
    refine lv_lconst (v := 0) hx hb dJ_floorMod_15 (by decide) ?_
    refine W.lcmp hx hb dJ_floorMod_16 ?_
    refine lv_if_eq (tgt := 25) hx hb dJ_floorMod_17 (by decide) (fun c_2 => ?_) (fun c_2 => ?_)
    · refine lv_lload hx hb dJ_floorMod_25 (lv_at hl 0 rfl) ?_
      have ev : f_floorMod x y = (x - x / y * y) := by unfold f_floorMod; rw [if_neg c_1, if_pos c_2]
      exact W.lret (v := (x - x / y * y)) hx hb hr (fun t ht hW => ⟨by rw [ev], ht⟩) (fun q hq => by cases hq) dJ_floorMod_27
    · refine lv_lload hx hb dJ_floorMod_20 (lv_at hl 0 rfl) ?_
      refine lv_lload_n hx hb dJ_floorMod_22 rfl (lv_at hl 2 rfl) ?_
      refine lv_ladd hx hb dJ_floorMod_23 ?_
      have ev : f_floorMod x y = ((x - x / y * y) + y) := by unfold f_floorMod; rw [if_neg c_1, if_neg c_2]
      exact W.lret (v := ((x - x / y * y) + y)) hx hb hr (fun t ht hW => ⟨by rw [ev], ht⟩) (fun q hq => by cases hq) dJ_floorMod_24
def f_in_ (x : Int32) (y : Int32) (z : Int32) : Int32 :=
  if x < y then
    0
  else
    if z < x then
      0
    else
      1
set_option maxHeartbeats 800000 in
set_option maxRecDepth 100000 in
theorem c_in_ (l : Launch) (x : Int32) (y : Int32) (z : Int32) : Met l yR_in_ (wsB kR_in_) ({ frames := 0, cells := 0, slots := 0, locals := 0 } : Room) (va_Pc [.int x, .int y, .int z] (fun _ => True)) (gR (some (.int (f_in_ x y z)))) 0 0 (fun _ => False) := by
  refine Met.ofW (cc := cR_in_) (maxL := 3) (ret := (some .boolean)) (by decide) rfl ?_
  intro p e s m args below meth c s₁ B hml hv
  obtain ⟨rfl, -⟩ := hv
  have hx := B.exec
  have hb := B.bytes
  have hr := B.returns
  have hts := atoms_spec (ws := wsB kR_in_) B.pre
  have ht := hbig hts
  have hown : s.vm.findClass RR = some m.cls := findClass_of_methodNamed B.named
  have hlocks := B.notSynchronized
  have hl := lv_entry ([.int x, .int y, .int z]) (n := 3) (Nat.le_of_ble_eq_true rfl)
  rw [lg_entry_eq]
  generalize (lg_sl ([.int x, .int y, .int z]) ++ List.replicate (3 - (lg_sl ([.int x, .int y, .int z])).length) Slot.unset).toArray = ls at hl ⊢
  have hl : lv_has ls 3 [(0, .int x), (1, .int y), (2, .int z)] := hl
  refine lv_iload_n hx hb dR_in__0 rfl (lv_at hl 0 rfl) ?_
  refine lv_iload_n hx hb dR_in__1 rfl (lv_at hl 1 rfl) ?_
  refine lv_icmp_lt (tgt := 14) hx hb dR_in__2 (by decide) (fun c_1 => ?_) (fun c_1 => ?_)
  · refine lv_iconst (v := 0) hx hb dR_in__14 (by decide) ?_
    have ev : f_in_ x y z = 0 := by unfold f_in_; rw [if_pos c_1]
    exact W.zret (v := 0) (ty := .boolean) hx hb hr rfl (fun t ht hW => ⟨by rw [ev], ht⟩) (fun q hq => by cases hq) dR_in__15
  · refine lv_iload_n hx hb dR_in__5 rfl (lv_at hl 0 rfl) ?_
    refine lv_iload_n hx hb dR_in__6 rfl (lv_at hl 2 rfl) ?_
    refine lv_icmp_gt (tgt := 14) hx hb dR_in__7 (by decide) (fun c_2 => ?_) (fun c_2 => ?_)
    · refine lv_iconst (v := 0) hx hb dR_in__14 (by decide) ?_
      have ev : f_in_ x y z = 0 := by unfold f_in_; rw [if_neg c_1, if_pos c_2]
      exact W.zret (v := 0) (ty := .boolean) hx hb hr rfl (fun t ht hW => ⟨by rw [ev], ht⟩) (fun q hq => by cases hq) dR_in__15
    · refine lv_iconst (v := 1) hx hb dR_in__10 (by decide) ?_
      refine lv_goto (tgt := 15) hx hb dR_in__11 (by decide) ?_
      have ev : f_in_ x y z = 1 := by unfold f_in_; rw [if_neg c_1, if_neg c_2]
      exact W.zret (v := 1) (ty := .boolean) hx hb hr rfl (fun t ht hW => ⟨by rw [ev], ht⟩) (fun q hq => by cases hq) dR_in__15
def f_down (x : Int64) (y : Int64) : Int64 :=
  if (lg_cmp ((x / y) * y) x) ≤ 0 then
    (x / y)
  else
    ((x / y) - 1)
set_option maxHeartbeats 800000 in
set_option maxRecDepth 100000 in
theorem c_down (l : Launch) (x : Int64) (y : Int64) (hy : ¬ y = 0) : Met l yR_down (wsB kR_down) ({ frames := 0, cells := 0, slots := 0, locals := 0 } : Room) (va_Pc [.long x, .long y] (fun _ => True)) (gR (some (.long (f_down x y)))) 0 0 (fun _ => False) := by
  refine Met.ofW (cc := cR_down) (maxL := 6) (ret := (some .long)) (by decide) rfl ?_
  intro p e s m args below meth c s₁ B hml hv
  obtain ⟨rfl, -⟩ := hv
  have hx := B.exec
  have hb := B.bytes
  have hr := B.returns
  have hts := atoms_spec (ws := wsB kR_down) B.pre
  have ht := hbig hts
  have hown : s.vm.findClass RR = some m.cls := findClass_of_methodNamed B.named
  have hlocks := B.notSynchronized
  have hl := lv_entry ([.long x, .long y]) (n := 6) (Nat.le_of_ble_eq_true rfl)
  rw [lg_entry_eq]
  generalize (lg_sl ([.long x, .long y]) ++ List.replicate (6 - (lg_sl ([.long x, .long y])).length) Slot.unset).toArray = ls at hl ⊢
  have hl : lv_has ls 6 [(0, .long x), (2, .long y)] := hl
  refine lv_lload_n hx hb dR_down_0 rfl (lv_at hl 0 rfl) ?_
  refine lv_lload_n hx hb dR_down_1 rfl (lv_at hl 1 rfl) ?_
  refine lv_ldiv hx hb dR_down_2 hy ?_
  refine lv_lstore (lv' := [(4, .long (x / y)), (0, .long x), (2, .long y)]) hx hb dR_down_3 hl (by decide) rfl (fun ls hl => ?_)
  refine lv_lload hx hb dR_down_5 (lv_at hl 0 rfl) ?_
  refine lv_lload_n hx hb dR_down_7 rfl (lv_at hl 2 rfl) ?_
  refine lv_lmul hx hb dR_down_8 ?_
  refine lv_lload_n hx hb dR_down_9 rfl (lv_at hl 1 rfl) ?_
  refine W.lcmp hx hb dR_down_10 ?_
  refine lv_if_le (tgt := 21) hx hb dR_down_11 (by decide) (fun c_1 => ?_) (fun c_1 => ?_)
  · refine lv_lload hx hb dR_down_21 (lv_at hl 0 rfl) ?_
    have ev : f_down x y = (x / y) := by unfold f_down; rw [if_pos c_1]
    exact W.lret (v := (x / y)) hx hb hr (fun t ht hW => ⟨by rw [ev], ht⟩) (fun q hq => by cases hq) dR_down_23
  · refine lv_lload hx hb dR_down_14 (lv_at hl 0 rfl) ?_
    refine lv_lconst (v := 1) hx hb dR_down_16 (by decide) ?_
    refine lv_lsub hx hb dR_down_17 ?_
    refine lv_goto (tgt := 23) hx hb dR_down_18 (by decide) ?_
    have ev : f_down x y = ((x / y) - 1) := by unfold f_down; rw [if_neg c_1]
    exact W.lret (v := ((x / y) - 1)) hx hb hr (fun t ht hW => ⟨by rw [ev], ht⟩) (fun q hq => by cases hq) dR_down_23
def f_cornerOf (x : Int32) (y : Int32) : Int32 :=
  if y = 0 then
    0
  else
    (x + y)
set_option maxHeartbeats 800000 in
set_option maxRecDepth 100000 in
theorem c_cornerOf (l : Launch) (x : Int32) (y : Int32) : Met l yR_cornerOf (wsB kR_cornerOf) ({ frames := 0, cells := 0, slots := 0, locals := 0 } : Room) (va_Pc [.int x, .int y] (fun _ => True)) (gR (some (.int (f_cornerOf x y)))) 0 0 (fun _ => False) := by
  refine Met.ofW (cc := cR_cornerOf) (maxL := 2) (ret := (some .int)) (by decide) rfl ?_
  intro p e s m args below meth c s₁ B hml hv
  obtain ⟨rfl, -⟩ := hv
  have hx := B.exec
  have hb := B.bytes
  have hr := B.returns
  have hts := atoms_spec (ws := wsB kR_cornerOf) B.pre
  have ht := hbig hts
  have hown : s.vm.findClass RR = some m.cls := findClass_of_methodNamed B.named
  have hlocks := B.notSynchronized
  have hl := lv_entry ([.int x, .int y]) (n := 2) (Nat.le_of_ble_eq_true rfl)
  rw [lg_entry_eq]
  generalize (lg_sl ([.int x, .int y]) ++ List.replicate (2 - (lg_sl ([.int x, .int y])).length) Slot.unset).toArray = ls at hl ⊢
  have hl : lv_has ls 2 [(0, .int x), (1, .int y)] := hl
  refine lv_iload_n hx hb dR_cornerOf_0 rfl (lv_at hl 1 rfl) ?_
  refine lv_if_ne (tgt := 8) hx hb dR_cornerOf_1 (by decide) (fun c_1 => ?_) (fun c_1 => ?_)
  · refine lv_iload_n hx hb dR_cornerOf_8 rfl (lv_at hl 0 rfl) ?_
    refine lv_iload_n hx hb dR_cornerOf_9 rfl (lv_at hl 1 rfl) ?_
    refine lv_iadd hx hb dR_cornerOf_10 ?_
    have ev : f_cornerOf x y = (x + y) := by unfold f_cornerOf; rw [if_neg c_1]
    exact W.iret (v := (x + y)) hx hb hr (fun t ht hW => ⟨by rw [ev], ht⟩) (fun q hq => by cases hq) dR_cornerOf_11
  · refine lv_iconst (v := 0) hx hb dR_cornerOf_4 (by decide) ?_
    refine lv_goto (tgt := 11) hx hb dR_cornerOf_5 (by decide) ?_
    have ev : f_cornerOf x y = 0 := by unfold f_cornerOf; rw [if_pos c_1]
    exact W.iret (v := 0) hx hb hr (fun t ht hW => ⟨by rw [ev], ht⟩) (fun q hq => by cases hq) dR_cornerOf_11
