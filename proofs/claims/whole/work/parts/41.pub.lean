def t_vword (σ : Nat → Nat → Int32) (a0 : Int32) (a1 : Int32) : Int32 :=
  if (f_isBelow a0 (4096 : Int32)) = 0 then
    1
  else
    0
def f_vword (σ : Nat → Nat → Int32) (a0 : Int32) (a1 : Int32) : Int32 :=
  if (f_isBelow a0 (4096 : Int32)) = 0 then
    0
  else
    (f_swap σ  a0 a1)
def s_vword (σ : Nat → Nat → Int32) (a0 : Int32) (a1 : Int32) : Nat → Nat → Int32 :=
  if (f_isBelow a0 (4096 : Int32)) = 0 then
    σ
  else
    (s_swap σ  a0 a1)
set_option maxHeartbeats 800000 in
set_option maxRecDepth 100000 in
theorem c_vword (l : Launch) (hl9 : l.stackTraces = false) {D : va_G} {cs : Nat → ClassId} {ad : Nat → Nat} (hinj : gI ad) (σ : Nat → Nat → Int32) (τ : Nat → Nat → Int64) (sz : Nat) (a0 : Int32) (a1 : Int32) : vx_Met l yV_word (wsB kV_word) ({ frames := 6, cells := 1, slots := 6, locals := 90 } : Room) (va_Pc [.ref (ad 0), .int a0, .int a1] (gPX D cs ad σ τ sz)) (xQ (t_vword σ a0 a1) (some (.int (f_vword σ a0 a1))) (gB D cs ad (s_vword σ a0 a1) τ) (gA NC ad sz)) (xX (t_vword σ a0 a1) (fun _ => xI)) 1 6 (gA NC ad sz) := by
  refine vx_ofW (cc := cV_word) (maxL := 3) (ret := (some .int)) (by decide) rfl ?_
  intro p e s m args below meth c s₁ B hml hEx hv
  obtain ⟨rfl, ⟨hsz, hP, hK⟩, hX⟩ := hv
  have hx := B.exec
  have hb := B.bytes
  have hr := B.returns
  have hts := atoms_spec (ws := wsB kV_word) B.pre
  have ht := hbig hts
  have hown : s.vm.findClass RV = some m.cls := findClass_of_methodNamed B.named
  have hlocks := B.notSynchronized
  subst hsz
  have hD : ∀ σ τ, va_D (gA NC ad s.heap.size) (gW cs ad σ τ) := fun _ _ => gw_D hinj (fun i h => gA_ad h)
  have hS : va_S (gA NC ad s.heap.size) s.heap s.heap [] := va_S.rf
  have hS0 : ∀ q : Nat, q < s.heap.size → s.heap[q]? = s.heap[q]? := fun _ _ => rfl
  have hl := lv_entry ([.ref (ad 0), .int a0, .int a1]) (n := 3) (Nat.le_of_ble_eq_true rfl)
  rw [lg_entry_eq]
  generalize (lg_sl ([.ref (ad 0), .int a0, .int a1]) ++ List.replicate (3 - (lg_sl ([.ref (ad 0), .int a0, .int a1])).length) Slot.unset).toArray = ls at hl ⊢
  have hl : lv_has ls 3 [(0, .ref (ad 0)), (1, .int a0), (2, .int a1)] := hl
  refine lv_iload_n hx hb dV_word_0 rfl (lv_at hl 1 rfl) ?_
  refine lv_sipush (v := 4096) hx hb dV_word_1 (by decide) ?_
  refine g_pure (v := .int (f_isBelow a0 (4096 : Int32))) (va_runS (As := [.int a0, .int 4096]) (rest := []) ⟨hx, hb, hml, hown, hts⟩ (c_isBelow l a0 (4096 : Int32)) (qS 2 ht tw_202 tw_203 tw_1 tk_V_isBelow rfl rfl (by decide +kernel) ⟨(Nat.le_of_ble_eq_true rfl), (Nat.le_of_ble_eq_true rfl)⟩) g_pt rfl rfl hl.1 rfl (lv_room (Nat.le_of_ble_eq_true rfl)) dV_word_4 ⟨Nat.zero_le _, Nat.zero_le _⟩) ?_
  refine lv_if_ne (tgt := 20) hx hb dV_word_7 (by decide) (fun c_1 => ?_) (fun c_1 => ?_)
  · refine lv_aload_n hx hb dV_word_20 rfl (lv_at hl 0 rfl) ?_
    refine g_get (ci := 0) (C := RV) (T := TV) (M := 8) (v := .ref (ad 1)) hx hb ht inV hown hK hP 0 (by decide) kV rfl 0 (by decide) (ht _ tw_96) (fun _ h9 => h9) rfl dV_word_21 ?_
    refine lv_iload_n hx hb dV_word_24 rfl (lv_at hl 1 rfl) ?_
    refine lv_iload_n hx hb dV_word_25 rfl (lv_at hl 2 rfl) ?_
    refine g_runR (v := .int (f_swap σ  a0 a1)) (va_runV (C := RM) (As := [.int a0, .int a1]) (rest := []) ⟨hx, hb, hml, hown, hts⟩ (c_swap l hinj σ τ _  a0 a1 ) (qV 2 ht tw_272 tw_273 tw_274 tw_2 tk_M_swap rfl rfl (by decide +kernel) ⟨(Nat.le_of_ble_eq_true rfl), (Nat.le_of_ble_eq_true rfl)⟩) (g_pv (ci := 1) hK hP (by decide) rfl kM rfl) rfl rfl hl.1 rfl (lv_room (Nat.le_of_ble_eq_true rfl)) dV_word_26 ⟨Nat.zero_le _, Nat.zero_le _⟩) hS (fun q _ h => gA_mono hS.1 q h) (fun q h => gA_mono hS.1 q h) (fun H locs hP hz hS => ?_)
    have et : t_vword σ a0 a1 = 0 := by unfold t_vword; rw [if_neg c_1]
    have ev : f_vword σ a0 a1 = (f_swap σ  a0 a1) := by unfold f_vword; rw [if_neg c_1]
    have es : s_vword σ a0 a1 = (s_swap σ  a0 a1) := by unfold s_vword; rw [if_neg c_1]
    refine vx_ret ?_
    refine W.widen (k := 1) (n := 6) (Nat.le_of_ble_eq_true rfl) (Nat.le_of_ble_eq_true rfl) ?_
    exact W.iret (v := (f_swap σ  a0 a1)) hx hb hr (fun t ht9 hW => ⟨et, by rw [ev], by show va_P D vwCl (gW cs ad (s_vword σ a0 a1) τ) t.heap; rw [ht9, es]; exact hP, hS.F ht9⟩) hS.2.2 dV_word_29
  · have et : t_vword σ a0 a1 = 1 := by unfold t_vword; rw [if_pos c_1]
    obtain ⟨sa, hstr⟩ := hX.1 (53, "no such word") (by decide +kernel)
    exact vx_throwS (own := RV) (cls := xI) (names := xN) hx hb hl9 hown (by decide +kernel) (by decide +kernel) (ht _ tw_205) (ht _ tw_10) hstr (fun w hw => ht w (xat_I w hw)) xgo_I hX.2.1 hX.2.2.1 hS (hl.1.trans hml.symm) dV_word_10 dV_word_13 dV_word_14 dV_word_16 dV_word_19 (fun x hx9 => (hEx x hx9).elim) (Nat.le_of_ble_eq_true rfl) (Nat.le_of_ble_eq_true rfl) (Nat.le_of_ble_eq_true rfl) (Nat.le_of_ble_eq_true rfl) hlocks (fun t ha hsz hk => ⟨by rw [et]; decide, by rw [et], Nat.le_trans hS.1 hsz, fun q hq => (hk q (Nat.lt_of_lt_of_le hq hS.1)).trans (hS0 q hq)⟩) hS.2.2 (Nat.le_of_ble_eq_true rfl) (Nat.le_of_ble_eq_true rfl)
def t_vtriangles (σ : Nat → Nat → Int32) (a0 : Int32) (a1 : Int32) : Int32 :=
  if (f_isBelow a0 (3 : Int32)) = 0 then
    1
  else
    if 0 ≤ a1 then
      if a0 = 0 then
        0
      else
        0
    else
      1
def f_vtriangles (σ : Nat → Nat → Int32) (a0 : Int32) (a1 : Int32) : Int32 :=
  if (f_isBelow a0 (3 : Int32)) = 0 then
    0
  else
    if 0 ≤ a1 then
      if a0 = 0 then
        (a1 / 3)
      else
        (f_fanOf a1)
    else
      0
def s_vtriangles (σ : Nat → Nat → Int32) (a0 : Int32) (a1 : Int32) : Nat → Nat → Int32 :=
  if (f_isBelow a0 (3 : Int32)) = 0 then
    σ
  else
    if 0 ≤ a1 then
      if a0 = 0 then
        σ
      else
        σ
    else
      σ
set_option maxHeartbeats 800000 in
set_option maxRecDepth 100000 in
theorem c_vtriangles (l : Launch) (hl9 : l.stackTraces = false) {D : va_G} {cs : Nat → ClassId} {ad : Nat → Nat} (hinj : gI ad) (σ : Nat → Nat → Int32) (τ : Nat → Nat → Int64) (sz : Nat) (a0 : Int32) (a1 : Int32) : vx_Met l yV_triangles (wsB kV_triangles) ({ frames := 6, cells := 1, slots := 6, locals := 90 } : Room) (va_Pc [.ref (ad 0), .int a0, .int a1] (gPX D cs ad σ τ sz)) (xQ (t_vtriangles σ a0 a1) (some (.int (f_vtriangles σ a0 a1))) (gB D cs ad (s_vtriangles σ a0 a1) τ) (gA NC ad sz)) (xX (t_vtriangles σ a0 a1) (fun _ => xA)) 1 6 (gA NC ad sz) := by
  refine vx_ofW (cc := cV_triangles) (maxL := 3) (ret := (some .int)) (by decide) rfl ?_
  intro p e s m args below meth c s₁ B hml hEx hv
  obtain ⟨rfl, ⟨hsz, hP, hK⟩, hX⟩ := hv
  have hx := B.exec
  have hb := B.bytes
  have hr := B.returns
  have hts := atoms_spec (ws := wsB kV_triangles) B.pre
  have ht := hbig hts
  have hown : s.vm.findClass RV = some m.cls := findClass_of_methodNamed B.named
  have hlocks := B.notSynchronized
  subst hsz
  have hD : ∀ σ τ, va_D (gA NC ad s.heap.size) (gW cs ad σ τ) := fun _ _ => gw_D hinj (fun i h => gA_ad h)
  have hS : va_S (gA NC ad s.heap.size) s.heap s.heap [] := va_S.rf
  have hS0 : ∀ q : Nat, q < s.heap.size → s.heap[q]? = s.heap[q]? := fun _ _ => rfl
  have hl := lv_entry ([.ref (ad 0), .int a0, .int a1]) (n := 3) (Nat.le_of_ble_eq_true rfl)
  rw [lg_entry_eq]
  generalize (lg_sl ([.ref (ad 0), .int a0, .int a1]) ++ List.replicate (3 - (lg_sl ([.ref (ad 0), .int a0, .int a1])).length) Slot.unset).toArray = ls at hl ⊢
  have hl : lv_has ls 3 [(0, .ref (ad 0)), (1, .int a0), (2, .int a1)] := hl
  refine lv_iload_n hx hb dV_triangles_0 rfl (lv_at hl 1 rfl) ?_
  refine lv_iconst (v := 3) hx hb dV_triangles_1 (by decide) ?_
  refine g_pure (v := .int (f_isBelow a0 (3 : Int32))) (va_runS (As := [.int a0, .int 3]) (rest := []) ⟨hx, hb, hml, hown, hts⟩ (c_isBelow l a0 (3 : Int32)) (qS 2 ht tw_202 tw_203 tw_1 tk_V_isBelow rfl rfl (by decide +kernel) ⟨(Nat.le_of_ble_eq_true rfl), (Nat.le_of_ble_eq_true rfl)⟩) g_pt rfl rfl hl.1 rfl (lv_room (Nat.le_of_ble_eq_true rfl)) dV_triangles_2 ⟨Nat.zero_le _, Nat.zero_le _⟩) ?_
  refine lv_if_eq (tgt := 12) hx hb dV_triangles_5 (by decide) (fun c_1 => ?_) (fun c_1 => ?_)
  · have et : t_vtriangles σ a0 a1 = 1 := by unfold t_vtriangles; rw [if_pos c_1]
    obtain ⟨sa, hstr⟩ := hX.1 (92, "no such mode, or below 0") (by decide +kernel)
    exact vx_throwS (own := RV) (cls := xA) (names := xN) hx hb hl9 hown (by decide +kernel) (by decide +kernel) (ht _ tw_290) (ht _ tw_11) hstr (fun w hw => ht w (xat_A w hw)) xgo_A hX.2.1 hX.2.2.1 hS (hl.1.trans hml.symm) dV_triangles_12 dV_triangles_15 dV_triangles_16 dV_triangles_18 dV_triangles_21 (fun x hx9 => (hEx x hx9).elim) (Nat.le_of_ble_eq_true rfl) (Nat.le_of_ble_eq_true rfl) (Nat.le_of_ble_eq_true rfl) (Nat.le_of_ble_eq_true rfl) hlocks (fun t ha hsz hk => ⟨by rw [et]; decide, by rw [et], Nat.le_trans hS.1 hsz, fun q hq => (hk q (Nat.lt_of_lt_of_le hq hS.1)).trans (hS0 q hq)⟩) hS.2.2 (Nat.le_of_ble_eq_true rfl) (Nat.le_of_ble_eq_true rfl)
  · refine lv_iload_n hx hb dV_triangles_8 rfl (lv_at hl 2 rfl) ?_
    refine lv_if_ge (tgt := 22) hx hb dV_triangles_9 (by decide) (fun c_2 => ?_) (fun c_2 => ?_)
    · refine lv_iload_n hx hb dV_triangles_22 rfl (lv_at hl 1 rfl) ?_
      refine lv_if_ne (tgt := 32) hx hb dV_triangles_23 (by decide) (fun c_3 => ?_) (fun c_3 => ?_)
      · refine lv_iload_n hx hb dV_triangles_32 rfl (lv_at hl 2 rfl) ?_
        refine g_pure (v := .int (f_fanOf a1)) (va_runS (As := [.int a1]) (rest := []) ⟨hx, hb, hml, hown, hts⟩ (c_fanOf l a1) (qS 1 ht tw_191 tw_192 tw_1 tk_V_fanOf rfl rfl (by decide +kernel) ⟨(Nat.le_of_ble_eq_true rfl), (Nat.le_of_ble_eq_true rfl)⟩) g_pt rfl rfl hl.1 rfl (lv_room (Nat.le_of_ble_eq_true rfl)) dV_triangles_33 ⟨Nat.zero_le _, Nat.zero_le _⟩) ?_
        have et : t_vtriangles σ a0 a1 = 0 := by unfold t_vtriangles; rw [if_neg c_1, if_pos c_2, if_neg c_3]
        have ev : f_vtriangles σ a0 a1 = (f_fanOf a1) := by unfold f_vtriangles; rw [if_neg c_1, if_pos c_2, if_neg c_3]
        have es : s_vtriangles σ a0 a1 = σ := by unfold s_vtriangles; rw [if_neg c_1, if_pos c_2, if_neg c_3]
        refine vx_ret ?_
        refine W.widen (k := 1) (n := 6) (Nat.le_of_ble_eq_true rfl) (Nat.le_of_ble_eq_true rfl) ?_
        exact W.iret (v := (f_fanOf a1)) hx hb hr (fun t ht9 hW => ⟨et, by rw [ev], by show va_P D vwCl (gW cs ad (s_vtriangles σ a0 a1) τ) t.heap; rw [ht9, es]; exact hP, hS.F ht9⟩) hS.2.2 dV_triangles_36
      · refine lv_iload_n hx hb dV_triangles_26 rfl (lv_at hl 2 rfl) ?_
        refine lv_iconst (v := 3) hx hb dV_triangles_27 (by decide) ?_
        refine lv_idiv hx hb dV_triangles_28 (by decide) ?_
        refine lv_goto (tgt := 36) hx hb dV_triangles_29 (by decide) ?_
        have et : t_vtriangles σ a0 a1 = 0 := by unfold t_vtriangles; rw [if_neg c_1, if_pos c_2, if_pos c_3]
        have ev : f_vtriangles σ a0 a1 = (a1 / 3) := by unfold f_vtriangles; rw [if_neg c_1, if_pos c_2, if_pos c_3]
        have es : s_vtriangles σ a0 a1 = σ := by unfold s_vtriangles; rw [if_neg c_1, if_pos c_2, if_pos c_3]
        refine vx_ret ?_
        refine W.widen (k := 1) (n := 6) (Nat.le_of_ble_eq_true rfl) (Nat.le_of_ble_eq_true rfl) ?_
        exact W.iret (v := (a1 / 3)) hx hb hr (fun t ht9 hW => ⟨et, by rw [ev], by show va_P D vwCl (gW cs ad (s_vtriangles σ a0 a1) τ) t.heap; rw [ht9, es]; exact hP, hS.F ht9⟩) hS.2.2 dV_triangles_36
    · have et : t_vtriangles σ a0 a1 = 1 := by unfold t_vtriangles; rw [if_neg c_1, if_neg c_2]
      obtain ⟨sa, hstr⟩ := hX.1 (92, "no such mode, or below 0") (by decide +kernel)
      exact vx_throwS (own := RV) (cls := xA) (names := xN) hx hb hl9 hown (by decide +kernel) (by decide +kernel) (ht _ tw_290) (ht _ tw_11) hstr (fun w hw => ht w (xat_A w hw)) xgo_A hX.2.1 hX.2.2.1 hS (hl.1.trans hml.symm) dV_triangles_12 dV_triangles_15 dV_triangles_16 dV_triangles_18 dV_triangles_21 (fun x hx9 => (hEx x hx9).elim) (Nat.le_of_ble_eq_true rfl) (Nat.le_of_ble_eq_true rfl) (Nat.le_of_ble_eq_true rfl) (Nat.le_of_ble_eq_true rfl) hlocks (fun t ha hsz hk => ⟨by rw [et]; decide, by rw [et], Nat.le_trans hS.1 hsz, fun q hq => (hk q (Nat.lt_of_lt_of_le hq hS.1)).trans (hS0 q hq)⟩) hS.2.2 (Nat.le_of_ble_eq_true rfl) (Nat.le_of_ble_eq_true rfl)
def t_vcorner (σ : Nat → Nat → Int32) (a0 : Int32) (a1 : Int32) (a2 : Int32) : Int32 :=
  if (f_isBelow a0 (3 : Int32)) = 0 then
    1
  else
    if (f_isBelow a1 (100000001 : Int32)) = 0 then
      1
    else
      if (f_isBelow a2 (3 : Int32)) = 0 then
        1
      else
        if a0 = 0 then
          0
        else
          if a0 = 1 then
            0
          else
            0
def f_vcorner (σ : Nat → Nat → Int32) (a0 : Int32) (a1 : Int32) (a2 : Int32) : Int32 :=
  if (f_isBelow a0 (3 : Int32)) = 0 then
    0
  else
    if (f_isBelow a1 (100000001 : Int32)) = 0 then
      0
    else
      if (f_isBelow a2 (3 : Int32)) = 0 then
        0
      else
        if a0 = 0 then
          ((3 * a1) + a2)
        else
          if a0 = 1 then
            (f_stripCorner a1 a2)
          else
            (f_fanCorner a1 a2)
def s_vcorner (σ : Nat → Nat → Int32) (a0 : Int32) (a1 : Int32) (a2 : Int32) : Nat → Nat → Int32 :=
  if (f_isBelow a0 (3 : Int32)) = 0 then
    σ
  else
    if (f_isBelow a1 (100000001 : Int32)) = 0 then
      σ
    else
      if (f_isBelow a2 (3 : Int32)) = 0 then
        σ
      else
        if a0 = 0 then
          σ
        else
          if a0 = 1 then
            σ
          else
            σ
set_option maxHeartbeats 800000 in
set_option maxRecDepth 100000 in
theorem c_vcorner (l : Launch) (hl9 : l.stackTraces = false) {D : va_G} {cs : Nat → ClassId} {ad : Nat → Nat} (hinj : gI ad) (σ : Nat → Nat → Int32) (τ : Nat → Nat → Int64) (sz : Nat) (a0 : Int32) (a1 : Int32) (a2 : Int32) : vx_Met l yV_corner (wsB kV_corner) ({ frames := 6, cells := 1, slots := 6, locals := 90 } : Room) (va_Pc [.ref (ad 0), .int a0, .int a1, .int a2] (gPX D cs ad σ τ sz)) (xQ (t_vcorner σ a0 a1 a2) (some (.int (f_vcorner σ a0 a1 a2))) (gB D cs ad (s_vcorner σ a0 a1 a2) τ) (gA NC ad sz)) (xX (t_vcorner σ a0 a1 a2) (fun _ => xA)) 1 6 (gA NC ad sz) := by
  refine vx_ofW (cc := cV_corner) (maxL := 4) (ret := (some .int)) (by decide) rfl ?_
  intro p e s m args below meth c s₁ B hml hEx hv
  obtain ⟨rfl, ⟨hsz, hP, hK⟩, hX⟩ := hv
  have hx := B.exec
  have hb := B.bytes
  have hr := B.returns
  have hts := atoms_spec (ws := wsB kV_corner) B.pre
  have ht := hbig hts
  have hown : s.vm.findClass RV = some m.cls := findClass_of_methodNamed B.named
  have hlocks := B.notSynchronized
  subst hsz
  have hD : ∀ σ τ, va_D (gA NC ad s.heap.size) (gW cs ad σ τ) := fun _ _ => gw_D hinj (fun i h => gA_ad h)
  have hS : va_S (gA NC ad s.heap.size) s.heap s.heap [] := va_S.rf
  have hS0 : ∀ q : Nat, q < s.heap.size → s.heap[q]? = s.heap[q]? := fun _ _ => rfl
  have hl := lv_entry ([.ref (ad 0), .int a0, .int a1, .int a2]) (n := 4) (Nat.le_of_ble_eq_true rfl)
  rw [lg_entry_eq]
  generalize (lg_sl ([.ref (ad 0), .int a0, .int a1, .int a2]) ++ List.replicate (4 - (lg_sl ([.ref (ad 0), .int a0, .int a1, .int a2])).length) Slot.unset).toArray = ls at hl ⊢
  have hl : lv_has ls 4 [(0, .ref (ad 0)), (1, .int a0), (2, .int a1), (3, .int a2)] := hl
  refine lv_iload_n hx hb dV_corner_0 rfl (lv_at hl 1 rfl) ?_
  refine lv_iconst (v := 3) hx hb dV_corner_1 (by decide) ?_
  refine g_pure (v := .int (f_isBelow a0 (3 : Int32))) (va_runS (As := [.int a0, .int 3]) (rest := []) ⟨hx, hb, hml, hown, hts⟩ (c_isBelow l a0 (3 : Int32)) (qS 2 ht tw_202 tw_203 tw_1 tk_V_isBelow rfl rfl (by decide +kernel) ⟨(Nat.le_of_ble_eq_true rfl), (Nat.le_of_ble_eq_true rfl)⟩) g_pt rfl rfl hl.1 rfl (lv_room (Nat.le_of_ble_eq_true rfl)) dV_corner_2 ⟨Nat.zero_le _, Nat.zero_le _⟩) ?_
  refine lv_if_eq (tgt := 25) hx hb dV_corner_5 (by decide) (fun c_1 => ?_) (fun c_1 => ?_)
  · have et : t_vcorner σ a0 a1 a2 = 1 := by unfold t_vcorner; rw [if_pos c_1]
    obtain ⟨sa, hstr⟩ := hX.1 (99, "no such mode, triangle or corner") (by decide +kernel)
    exact vx_throwS (own := RV) (cls := xA) (names := xN) hx hb hl9 hown (by decide +kernel) (by decide +kernel) (ht _ tw_290) (ht _ tw_11) hstr (fun w hw => ht w (xat_A w hw)) xgo_A hX.2.1 hX.2.2.1 hS (hl.1.trans hml.symm) dV_corner_25 dV_corner_28 dV_corner_29 dV_corner_31 dV_corner_34 (fun x hx9 => (hEx x hx9).elim) (Nat.le_of_ble_eq_true rfl) (Nat.le_of_ble_eq_true rfl) (Nat.le_of_ble_eq_true rfl) (Nat.le_of_ble_eq_true rfl) hlocks (fun t ha hsz hk => ⟨by rw [et]; decide, by rw [et], Nat.le_trans hS.1 hsz, fun q hq => (hk q (Nat.lt_of_lt_of_le hq hS.1)).trans (hS0 q hq)⟩) hS.2.2 (Nat.le_of_ble_eq_true rfl) (Nat.le_of_ble_eq_true rfl)
  · refine lv_iload_n hx hb dV_corner_8 rfl (lv_at hl 2 rfl) ?_
    refine lv_ldc (v := 100000001) hx hb hown (ht _ tw_360) dV_corner_9 ?_
    refine g_pure (v := .int (f_isBelow a1 (100000001 : Int32))) (va_runS (As := [.int a1, .int 100000001]) (rest := []) ⟨hx, hb, hml, hown, hts⟩ (c_isBelow l a1 (100000001 : Int32)) (qS 2 ht tw_202 tw_203 tw_1 tk_V_isBelow rfl rfl (by decide +kernel) ⟨(Nat.le_of_ble_eq_true rfl), (Nat.le_of_ble_eq_true rfl)⟩) g_pt rfl rfl hl.1 rfl (lv_room (Nat.le_of_ble_eq_true rfl)) dV_corner_11 ⟨Nat.zero_le _, Nat.zero_le _⟩) ?_
    refine lv_if_eq (tgt := 25) hx hb dV_corner_14 (by decide) (fun c_2 => ?_) (fun c_2 => ?_)
    · have et : t_vcorner σ a0 a1 a2 = 1 := by unfold t_vcorner; rw [if_neg c_1, if_pos c_2]
      obtain ⟨sa, hstr⟩ := hX.1 (99, "no such mode, triangle or corner") (by decide +kernel)
      exact vx_throwS (own := RV) (cls := xA) (names := xN) hx hb hl9 hown (by decide +kernel) (by decide +kernel) (ht _ tw_290) (ht _ tw_11) hstr (fun w hw => ht w (xat_A w hw)) xgo_A hX.2.1 hX.2.2.1 hS (hl.1.trans hml.symm) dV_corner_25 dV_corner_28 dV_corner_29 dV_corner_31 dV_corner_34 (fun x hx9 => (hEx x hx9).elim) (Nat.le_of_ble_eq_true rfl) (Nat.le_of_ble_eq_true rfl) (Nat.le_of_ble_eq_true rfl) (Nat.le_of_ble_eq_true rfl) hlocks (fun t ha hsz hk => ⟨by rw [et]; decide, by rw [et], Nat.le_trans hS.1 hsz, fun q hq => (hk q (Nat.lt_of_lt_of_le hq hS.1)).trans (hS0 q hq)⟩) hS.2.2 (Nat.le_of_ble_eq_true rfl) (Nat.le_of_ble_eq_true rfl)
    · refine lv_iload_n hx hb dV_corner_17 rfl (lv_at hl 3 rfl) ?_
      refine lv_iconst (v := 3) hx hb dV_corner_18 (by decide) ?_
      refine g_pure (v := .int (f_isBelow a2 (3 : Int32))) (va_runS (As := [.int a2, .int 3]) (rest := []) ⟨hx, hb, hml, hown, hts⟩ (c_isBelow l a2 (3 : Int32)) (qS 2 ht tw_202 tw_203 tw_1 tk_V_isBelow rfl rfl (by decide +kernel) ⟨(Nat.le_of_ble_eq_true rfl), (Nat.le_of_ble_eq_true rfl)⟩) g_pt rfl rfl hl.1 rfl (lv_room (Nat.le_of_ble_eq_true rfl)) dV_corner_19 ⟨Nat.zero_le _, Nat.zero_le _⟩) ?_
      refine lv_if_ne (tgt := 35) hx hb dV_corner_22 (by decide) (fun c_3 => ?_) (fun c_3 => ?_)
      · refine lv_iload_n hx hb dV_corner_35 rfl (lv_at hl 1 rfl) ?_
        refine lv_if_ne (tgt := 45) hx hb dV_corner_36 (by decide) (fun c_4 => ?_) (fun c_4 => ?_)
        · refine lv_iload_n hx hb dV_corner_45 rfl (lv_at hl 1 rfl) ?_
          refine lv_iconst (v := 1) hx hb dV_corner_46 (by decide) ?_
          refine lv_icmp_ne (tgt := 56) hx hb dV_corner_47 (by decide) (fun c_5 => ?_) (fun c_5 => ?_)
          · refine lv_iload_n hx hb dV_corner_56 rfl (lv_at hl 2 rfl) ?_
            refine lv_iload_n hx hb dV_corner_57 rfl (lv_at hl 3 rfl) ?_
            refine g_pure (v := .int (f_fanCorner a1 a2)) (va_runS (As := [.int a1, .int a2]) (rest := []) ⟨hx, hb, hml, hown, hts⟩ (c_fanCorner l a1 a2) (qS 2 ht tw_365 tw_366 tw_1 tk_V_fanCorner rfl rfl (by decide +kernel) ⟨(Nat.le_of_ble_eq_true rfl), (Nat.le_of_ble_eq_true rfl)⟩) g_pt rfl rfl hl.1 rfl (lv_room (Nat.le_of_ble_eq_true rfl)) dV_corner_58 ⟨Nat.zero_le _, Nat.zero_le _⟩) ?_
            have et : t_vcorner σ a0 a1 a2 = 0 := by unfold t_vcorner; rw [if_neg c_1, if_neg c_2, if_neg c_3, if_neg c_4, if_neg c_5]
            have ev : f_vcorner σ a0 a1 a2 = (f_fanCorner a1 a2) := by unfold f_vcorner; rw [if_neg c_1, if_neg c_2, if_neg c_3, if_neg c_4, if_neg c_5]
            have es : s_vcorner σ a0 a1 a2 = σ := by unfold s_vcorner; rw [if_neg c_1, if_neg c_2, if_neg c_3, if_neg c_4, if_neg c_5]
            refine vx_ret ?_
            refine W.widen (k := 1) (n := 6) (Nat.le_of_ble_eq_true rfl) (Nat.le_of_ble_eq_true rfl) ?_
            exact W.iret (v := (f_fanCorner a1 a2)) hx hb hr (fun t ht9 hW => ⟨et, by rw [ev], by show va_P D vwCl (gW cs ad (s_vcorner σ a0 a1 a2) τ) t.heap; rw [ht9, es]; exact hP, hS.F ht9⟩) hS.2.2 dV_corner_61
          · refine lv_iload_n hx hb dV_corner_50 rfl (lv_at hl 2 rfl) ?_
            refine lv_iload_n hx hb dV_corner_51 rfl (lv_at hl 3 rfl) ?_
            refine g_pure (v := .int (f_stripCorner a1 a2)) (va_runS (As := [.int a1, .int a2]) (rest := []) ⟨hx, hb, hml, hown, hts⟩ (c_stripCorner l a1 a2) (qS 2 ht tw_362 tw_363 tw_1 tk_V_stripCorner rfl rfl (by decide +kernel) ⟨(Nat.le_of_ble_eq_true rfl), (Nat.le_of_ble_eq_true rfl)⟩) g_pt rfl rfl hl.1 rfl (lv_room (Nat.le_of_ble_eq_true rfl)) dV_corner_52 ⟨Nat.zero_le _, Nat.zero_le _⟩) ?_
            have et : t_vcorner σ a0 a1 a2 = 0 := by unfold t_vcorner; rw [if_neg c_1, if_neg c_2, if_neg c_3, if_neg c_4, if_pos c_5]
            have ev : f_vcorner σ a0 a1 a2 = (f_stripCorner a1 a2) := by unfold f_vcorner; rw [if_neg c_1, if_neg c_2, if_neg c_3, if_neg c_4, if_pos c_5]
            have es : s_vcorner σ a0 a1 a2 = σ := by unfold s_vcorner; rw [if_neg c_1, if_neg c_2, if_neg c_3, if_neg c_4, if_pos c_5]
            refine vx_ret ?_
            refine W.widen (k := 1) (n := 6) (Nat.le_of_ble_eq_true rfl) (Nat.le_of_ble_eq_true rfl) ?_
            exact W.iret (v := (f_stripCorner a1 a2)) hx hb hr (fun t ht9 hW => ⟨et, by rw [ev], by show va_P D vwCl (gW cs ad (s_vcorner σ a0 a1 a2) τ) t.heap; rw [ht9, es]; exact hP, hS.F ht9⟩) hS.2.2 dV_corner_55
        · refine lv_iconst (v := 3) hx hb dV_corner_39 (by decide) ?_
          refine lv_iload_n hx hb dV_corner_40 rfl (lv_at hl 2 rfl) ?_
          refine lv_imul hx hb dV_corner_41 ?_
          refine lv_iload_n hx hb dV_corner_42 rfl (lv_at hl 3 rfl) ?_
          refine lv_iadd hx hb dV_corner_43 ?_
          have et : t_vcorner σ a0 a1 a2 = 0 := by unfold t_vcorner; rw [if_neg c_1, if_neg c_2, if_neg c_3, if_pos c_4]
          have ev : f_vcorner σ a0 a1 a2 = ((3 * a1) + a2) := by unfold f_vcorner; rw [if_neg c_1, if_neg c_2, if_neg c_3, if_pos c_4]
          have es : s_vcorner σ a0 a1 a2 = σ := by unfold s_vcorner; rw [if_neg c_1, if_neg c_2, if_neg c_3, if_pos c_4]
          refine vx_ret ?_
          refine W.widen (k := 1) (n := 6) (Nat.le_of_ble_eq_true rfl) (Nat.le_of_ble_eq_true rfl) ?_
          exact W.iret (v := ((3 * a1) + a2)) hx hb hr (fun t ht9 hW => ⟨et, by rw [ev], by show va_P D vwCl (gW cs ad (s_vcorner σ a0 a1 a2) τ) t.heap; rw [ht9, es]; exact hP, hS.F ht9⟩) hS.2.2 dV_corner_44
      · have et : t_vcorner σ a0 a1 a2 = 1 := by unfold t_vcorner; rw [if_neg c_1, if_neg c_2, if_pos c_3]
        obtain ⟨sa, hstr⟩ := hX.1 (99, "no such mode, triangle or corner") (by decide +kernel)
        exact vx_throwS (own := RV) (cls := xA) (names := xN) hx hb hl9 hown (by decide +kernel) (by decide +kernel) (ht _ tw_290) (ht _ tw_11) hstr (fun w hw => ht w (xat_A w hw)) xgo_A hX.2.1 hX.2.2.1 hS (hl.1.trans hml.symm) dV_corner_25 dV_corner_28 dV_corner_29 dV_corner_31 dV_corner_34 (fun x hx9 => (hEx x hx9).elim) (Nat.le_of_ble_eq_true rfl) (Nat.le_of_ble_eq_true rfl) (Nat.le_of_ble_eq_true rfl) (Nat.le_of_ble_eq_true rfl) hlocks (fun t ha hsz hk => ⟨by rw [et]; decide, by rw [et], Nat.le_trans hS.1 hsz, fun q hq => (hk q (Nat.lt_of_lt_of_le hq hS.1)).trans (hS0 q hq)⟩) hS.2.2 (Nat.le_of_ble_eq_true rfl) (Nat.le_of_ble_eq_true rfl)
def t_vattr (σ : Nat → Nat → Int32) (a0 : Int32) (a1 : Int32) (a2 : Int32) (a3 : Int32) (a4 : Int32) : Int32 :=
  if (f_isBelow a0 (8 : Int32)) = 0 then
    1
  else
    if a1 < 0 then
      1
    else
      if 0 ≤ a2 then
        if (f_isBelow a3 (5 : Int32)) = 0 then
          1
        else
          if (f_isBelow a4 (4 : Int32)) = 0 then
            1
          else
            0
      else
        1
def s_vattr (σ : Nat → Nat → Int32) (a0 : Int32) (a1 : Int32) (a2 : Int32) (a3 : Int32) (a4 : Int32) : Nat → Nat → Int32 :=
  if (f_isBelow a0 (8 : Int32)) = 0 then
    σ
  else
    if a1 < 0 then
      σ
    else
      if 0 ≤ a2 then
        if (f_isBelow a3 (5 : Int32)) = 0 then
          σ
        else
          if (f_isBelow a4 (4 : Int32)) = 0 then
            σ
          else
            (s_become σ a0.toNatClampNeg a1 a2 a3 a4)
      else
        σ
set_option maxHeartbeats 800000 in
set_option maxRecDepth 100000 in
theorem c_vattr (l : Launch) (hl9 : l.stackTraces = false) {D : va_G} {cs : Nat → ClassId} {ad : Nat → Nat} (hinj : gI ad) (σ : Nat → Nat → Int32) (τ : Nat → Nat → Int64) (sz : Nat) (a0 : Int32) (a1 : Int32) (a2 : Int32) (a3 : Int32) (a4 : Int32) : vx_Met l yV_attribute (wsB kV_attribute) ({ frames := 6, cells := 1, slots := 6, locals := 90 } : Room) (va_Pc [.ref (ad 0), .int a0, .int a1, .int a2, .int a3, .int a4] (gPX D cs ad σ τ sz)) (xQ (t_vattr σ a0 a1 a2 a3 a4) none (gB D cs ad (s_vattr σ a0 a1 a2 a3 a4) τ) (gA NC ad sz)) (xX (t_vattr σ a0 a1 a2 a3 a4) (fun _ => xA)) 1 6 (gA NC ad sz) := by
  refine vx_ofW (cc := cV_attribute) (maxL := 6) (ret := none) (by decide) rfl ?_
  intro p e s m args below meth c s₁ B hml hEx hv
  obtain ⟨rfl, ⟨hsz, hP, hK⟩, hX⟩ := hv
  have hx := B.exec
  have hb := B.bytes
  have hr := B.returns
  have hts := atoms_spec (ws := wsB kV_attribute) B.pre
  have ht := hbig hts
  have hown : s.vm.findClass RV = some m.cls := findClass_of_methodNamed B.named
  have hlocks := B.notSynchronized
  subst hsz
  have hD : ∀ σ τ, va_D (gA NC ad s.heap.size) (gW cs ad σ τ) := fun _ _ => gw_D hinj (fun i h => gA_ad h)
  have hS : va_S (gA NC ad s.heap.size) s.heap s.heap [] := va_S.rf
  have hS0 : ∀ q : Nat, q < s.heap.size → s.heap[q]? = s.heap[q]? := fun _ _ => rfl
  have hl := lv_entry ([.ref (ad 0), .int a0, .int a1, .int a2, .int a3, .int a4]) (n := 6) (Nat.le_of_ble_eq_true rfl)
  rw [lg_entry_eq]
  generalize (lg_sl ([.ref (ad 0), .int a0, .int a1, .int a2, .int a3, .int a4]) ++ List.replicate (6 - (lg_sl ([.ref (ad 0), .int a0, .int a1, .int a2, .int a3, .int a4])).length) Slot.unset).toArray = ls at hl ⊢
  have hl : lv_has ls 6 [(0, .ref (ad 0)), (1, .int a0), (2, .int a1), (3, .int a2), (4, .int a3), (5, .int a4)] := hl
  refine lv_iload_n hx hb dV_attribute_0 rfl (lv_at hl 1 rfl) ?_
  refine lv_bipush (v := 8) hx hb dV_attribute_1 (by decide) ?_
  refine g_pure (v := .int (f_isBelow a0 (8 : Int32))) (va_runS (As := [.int a0, .int 8]) (rest := []) ⟨hx, hb, hml, hown, hts⟩ (c_isBelow l a0 (8 : Int32)) (qS 2 ht tw_202 tw_203 tw_1 tk_V_isBelow rfl rfl (by decide +kernel) ⟨(Nat.le_of_ble_eq_true rfl), (Nat.le_of_ble_eq_true rfl)⟩) g_pt rfl rfl hl.1 rfl (lv_room (Nat.le_of_ble_eq_true rfl)) dV_attribute_3 ⟨Nat.zero_le _, Nat.zero_le _⟩) ?_
  refine lv_if_eq (tgt := 17) hx hb dV_attribute_6 (by decide) (fun c_1 => ?_) (fun c_1 => ?_)
  · have et : t_vattr σ a0 a1 a2 a3 a4 = 1 := by unfold t_vattr; rw [if_pos c_1]
    obtain ⟨sa, hstr⟩ := hX.1 (64, "no such attribute, or below 0") (by decide +kernel)
    exact vx_throwS (own := RV) (cls := xA) (names := xN) hx hb hl9 hown (by decide +kernel) (by decide +kernel) (ht _ tw_290) (ht _ tw_11) hstr (fun w hw => ht w (xat_A w hw)) xgo_A hX.2.1 hX.2.2.1 hS (hl.1.trans hml.symm) dV_attribute_17 dV_attribute_20 dV_attribute_21 dV_attribute_23 dV_attribute_26 (fun x hx9 => (hEx x hx9).elim) (Nat.le_of_ble_eq_true rfl) (Nat.le_of_ble_eq_true rfl) (Nat.le_of_ble_eq_true rfl) (Nat.le_of_ble_eq_true rfl) hlocks (fun t ha hsz hk => ⟨by rw [et]; decide, by rw [et], Nat.le_trans hS.1 hsz, fun q hq => (hk q (Nat.lt_of_lt_of_le hq hS.1)).trans (hS0 q hq)⟩) hS.2.2 (Nat.le_of_ble_eq_true rfl) (Nat.le_of_ble_eq_true rfl)
  · refine lv_iload_n hx hb dV_attribute_9 rfl (lv_at hl 2 rfl) ?_
    refine lv_if_lt (tgt := 17) hx hb dV_attribute_10 (by decide) (fun c_2 => ?_) (fun c_2 => ?_)
    · have et : t_vattr σ a0 a1 a2 a3 a4 = 1 := by unfold t_vattr; rw [if_neg c_1, if_pos c_2]
      obtain ⟨sa, hstr⟩ := hX.1 (64, "no such attribute, or below 0") (by decide +kernel)
      exact vx_throwS (own := RV) (cls := xA) (names := xN) hx hb hl9 hown (by decide +kernel) (by decide +kernel) (ht _ tw_290) (ht _ tw_11) hstr (fun w hw => ht w (xat_A w hw)) xgo_A hX.2.1 hX.2.2.1 hS (hl.1.trans hml.symm) dV_attribute_17 dV_attribute_20 dV_attribute_21 dV_attribute_23 dV_attribute_26 (fun x hx9 => (hEx x hx9).elim) (Nat.le_of_ble_eq_true rfl) (Nat.le_of_ble_eq_true rfl) (Nat.le_of_ble_eq_true rfl) (Nat.le_of_ble_eq_true rfl) hlocks (fun t ha hsz hk => ⟨by rw [et]; decide, by rw [et], Nat.le_trans hS.1 hsz, fun q hq => (hk q (Nat.lt_of_lt_of_le hq hS.1)).trans (hS0 q hq)⟩) hS.2.2 (Nat.le_of_ble_eq_true rfl) (Nat.le_of_ble_eq_true rfl)
    · refine lv_iload_n hx hb dV_attribute_13 rfl (lv_at hl 3 rfl) ?_
      refine lv_if_ge (tgt := 27) hx hb dV_attribute_14 (by decide) (fun c_3 => ?_) (fun c_3 => ?_)
      · refine lv_iload hx hb dV_attribute_27 (lv_at hl 4 rfl) ?_
        refine lv_iconst (v := 5) hx hb dV_attribute_29 (by decide) ?_
        refine g_pure (v := .int (f_isBelow a3 (5 : Int32))) (va_runS (As := [.int a3, .int 5]) (rest := []) ⟨hx, hb, hml, hown, hts⟩ (c_isBelow l a3 (5 : Int32)) (qS 2 ht tw_202 tw_203 tw_1 tk_V_isBelow rfl rfl (by decide +kernel) ⟨(Nat.le_of_ble_eq_true rfl), (Nat.le_of_ble_eq_true rfl)⟩) g_pt rfl rfl hl.1 rfl (lv_room (Nat.le_of_ble_eq_true rfl)) dV_attribute_30 ⟨Nat.zero_le _, Nat.zero_le _⟩) ?_
        refine lv_if_eq (tgt := 45) hx hb dV_attribute_33 (by decide) (fun c_4 => ?_) (fun c_4 => ?_)
        · have et : t_vattr σ a0 a1 a2 a3 a4 = 1 := by unfold t_vattr; rw [if_neg c_1, if_neg c_2, if_pos c_3, if_pos c_4]
          obtain ⟨sa, hstr⟩ := hX.1 (67, "no such parts or type") (by decide +kernel)
          exact vx_throwS (own := RV) (cls := xA) (names := xN) hx hb hl9 hown (by decide +kernel) (by decide +kernel) (ht _ tw_290) (ht _ tw_11) hstr (fun w hw => ht w (xat_A w hw)) xgo_A hX.2.1 hX.2.2.1 hS (hl.1.trans hml.symm) dV_attribute_45 dV_attribute_48 dV_attribute_49 dV_attribute_51 dV_attribute_54 (fun x hx9 => (hEx x hx9).elim) (Nat.le_of_ble_eq_true rfl) (Nat.le_of_ble_eq_true rfl) (Nat.le_of_ble_eq_true rfl) (Nat.le_of_ble_eq_true rfl) hlocks (fun t ha hsz hk => ⟨by rw [et]; decide, by rw [et], Nat.le_trans hS.1 hsz, fun q hq => (hk q (Nat.lt_of_lt_of_le hq hS.1)).trans (hS0 q hq)⟩) hS.2.2 (Nat.le_of_ble_eq_true rfl) (Nat.le_of_ble_eq_true rfl)
        · refine lv_iload hx hb dV_attribute_36 (lv_at hl 5 rfl) ?_
          refine lv_iconst (v := 4) hx hb dV_attribute_38 (by decide) ?_
          refine g_pure (v := .int (f_isBelow a4 (4 : Int32))) (va_runS (As := [.int a4, .int 4]) (rest := []) ⟨hx, hb, hml, hown, hts⟩ (c_isBelow l a4 (4 : Int32)) (qS 2 ht tw_202 tw_203 tw_1 tk_V_isBelow rfl rfl (by decide +kernel) ⟨(Nat.le_of_ble_eq_true rfl), (Nat.le_of_ble_eq_true rfl)⟩) g_pt rfl rfl hl.1 rfl (lv_room (Nat.le_of_ble_eq_true rfl)) dV_attribute_39 ⟨Nat.zero_le _, Nat.zero_le _⟩) ?_
          refine lv_if_ne (tgt := 55) hx hb dV_attribute_42 (by decide) (fun c_5 => ?_) (fun c_5 => ?_)
          · refine lv_aload_n hx hb dV_attribute_55 rfl (lv_at hl 0 rfl) ?_
            refine g_get (ci := 0) (C := RV) (T := TV) (M := 8) (v := .ref (ad 3)) hx hb ht inV hown hK hP 0 (by decide) kV rfl 1 (by decide) (ht _ tw_97) (fun _ h9 => h9) rfl dV_attribute_56 ?_
            refine lv_iload_n hx hb dV_attribute_59 rfl (lv_at hl 1 rfl) ?_
            have hi_6 : vp_in a0 8 := (by have l0 : (0 : Int32).toInt = 0 := (by decide); have l4 : (4 : Int32).toInt = 4 := (by decide); have l5 : (5 : Int32).toInt = 5 := (by decide); have l8 : (8 : Int32).toInt = 8 := (by decide); have b0 := below_b c_1; have b1 := x_lt0.mp c_2; have b2 := Int32.le_iff_toInt_le.mp c_3; have b3 := below_b c_4; have b4 := below_b c_5; rw [vp_in_iff]; (try simp only [Int32.toInt_add, Int32.toInt_sub, Int32.toInt_mul, Int.bmod_def, l0, l4, l5, l8]); omega)
            refine g_aald hx hb hK hP 3 2 (by decide) kAs rfl rfl hi_6 (rfs_at (vp_lt hi_6)) dV_attribute_60 ?_
            refine lv_iload_n hx hb dV_attribute_61 rfl (lv_at hl 2 rfl) ?_
            refine lv_iload_n hx hb dV_attribute_62 rfl (lv_at hl 3 rfl) ?_
            refine lv_iload hx hb dV_attribute_63 (lv_at hl 4 rfl) ?_
            refine lv_iload hx hb dV_attribute_65 (lv_at hl 5 rfl) ?_
            refine g_runV (va_runV (C := RA) (As := [.int a1, .int a2, .int a3, .int a4]) (rest := []) ⟨hx, hb, hml, hown, hts⟩ (c_become l hinj σ τ _ a0.toNatClampNeg a1 a2 a3 a4 (vp_lt hi_6)) (qV 4 ht tw_307 tw_308 tw_309 tw_3 tk_A_become rfl rfl (by decide +kernel) ⟨(Nat.le_of_ble_eq_true rfl), (Nat.le_of_ble_eq_true rfl)⟩) (g_pv (ci := 2) hK hP (lt4 (vp_lt hi_6)) rfl (kA (vp_lt hi_6)) rfl) rfl rfl hl.1 rfl (lv_room (Nat.le_of_ble_eq_true rfl)) dV_attribute_67 ⟨Nat.zero_le _, Nat.zero_le _⟩) hS (fun q _ h => gA_mono hS.1 q h) (fun q h => gA_mono hS.1 q h) (fun H locs hP hz hS => ?_)
            have et : t_vattr σ a0 a1 a2 a3 a4 = 0 := by unfold t_vattr; rw [if_neg c_1, if_neg c_2, if_pos c_3, if_neg c_4, if_neg c_5]
            have es : s_vattr σ a0 a1 a2 a3 a4 = (s_become σ a0.toNatClampNeg a1 a2 a3 a4) := by unfold s_vattr; rw [if_neg c_1, if_neg c_2, if_pos c_3, if_neg c_4, if_neg c_5]
            refine vx_ret ?_
            refine W.widen (k := 1) (n := 6) (Nat.le_of_ble_eq_true rfl) (Nat.le_of_ble_eq_true rfl) ?_
            exact W.vret hx hb hr (fun t ht9 hW => ⟨et, rfl, by show va_P D vwCl (gW cs ad (s_vattr σ a0 a1 a2 a3 a4) τ) t.heap; rw [ht9, es]; exact hP, hS.F ht9⟩) hS.2.2 dV_attribute_70
          · have et : t_vattr σ a0 a1 a2 a3 a4 = 1 := by unfold t_vattr; rw [if_neg c_1, if_neg c_2, if_pos c_3, if_neg c_4, if_pos c_5]
            obtain ⟨sa, hstr⟩ := hX.1 (67, "no such parts or type") (by decide +kernel)
            exact vx_throwS (own := RV) (cls := xA) (names := xN) hx hb hl9 hown (by decide +kernel) (by decide +kernel) (ht _ tw_290) (ht _ tw_11) hstr (fun w hw => ht w (xat_A w hw)) xgo_A hX.2.1 hX.2.2.1 hS (hl.1.trans hml.symm) dV_attribute_45 dV_attribute_48 dV_attribute_49 dV_attribute_51 dV_attribute_54 (fun x hx9 => (hEx x hx9).elim) (Nat.le_of_ble_eq_true rfl) (Nat.le_of_ble_eq_true rfl) (Nat.le_of_ble_eq_true rfl) (Nat.le_of_ble_eq_true rfl) hlocks (fun t ha hsz hk => ⟨by rw [et]; decide, by rw [et], Nat.le_trans hS.1 hsz, fun q hq => (hk q (Nat.lt_of_lt_of_le hq hS.1)).trans (hS0 q hq)⟩) hS.2.2 (Nat.le_of_ble_eq_true rfl) (Nat.le_of_ble_eq_true rfl)
      · have et : t_vattr σ a0 a1 a2 a3 a4 = 1 := by unfold t_vattr; rw [if_neg c_1, if_neg c_2, if_neg c_3]
        obtain ⟨sa, hstr⟩ := hX.1 (64, "no such attribute, or below 0") (by decide +kernel)
        exact vx_throwS (own := RV) (cls := xA) (names := xN) hx hb hl9 hown (by decide +kernel) (by decide +kernel) (ht _ tw_290) (ht _ tw_11) hstr (fun w hw => ht w (xat_A w hw)) xgo_A hX.2.1 hX.2.2.1 hS (hl.1.trans hml.symm) dV_attribute_17 dV_attribute_20 dV_attribute_21 dV_attribute_23 dV_attribute_26 (fun x hx9 => (hEx x hx9).elim) (Nat.le_of_ble_eq_true rfl) (Nat.le_of_ble_eq_true rfl) (Nat.le_of_ble_eq_true rfl) (Nat.le_of_ble_eq_true rfl) hlocks (fun t ha hsz hk => ⟨by rw [et]; decide, by rw [et], Nat.le_trans hS.1 hsz, fun q hq => (hk q (Nat.lt_of_lt_of_le hq hS.1)).trans (hS0 q hq)⟩) hS.2.2 (Nat.le_of_ble_eq_true rfl) (Nat.le_of_ble_eq_true rfl)
def t_vfetch (σ : Nat → Nat → Int32) (a0 : Int32) (a1 : Int32) (a2 : Int32) : Int32 :=
  if (f_isBelow a0 (8 : Int32)) = 0 then
    1
  else
    if (f_isBelow a2 (4 : Int32)) = 0 then
      1
    else
      if 0 ≤ a1 then
        0
      else
        1
def f_vfetch (σ : Nat → Nat → Int32) (a0 : Int32) (a1 : Int32) (a2 : Int32) : Int32 :=
  if (f_isBelow a0 (8 : Int32)) = 0 then
    0
  else
    if (f_isBelow a2 (4 : Int32)) = 0 then
      0
    else
      if 0 ≤ a1 then
        (f_read σ a0.toNatClampNeg a1 a2)
      else
        0
def s_vfetch (σ : Nat → Nat → Int32) (a0 : Int32) (a1 : Int32) (a2 : Int32) : Nat → Nat → Int32 :=
  if (f_isBelow a0 (8 : Int32)) = 0 then
    σ
  else
    if (f_isBelow a2 (4 : Int32)) = 0 then
      σ
    else
      if 0 ≤ a1 then
        σ
      else
        σ
set_option maxHeartbeats 800000 in
set_option maxRecDepth 100000 in
theorem c_vfetch (l : Launch) (hl9 : l.stackTraces = false) {D : va_G} {cs : Nat → ClassId} {ad : Nat → Nat} (hinj : gI ad) (σ : Nat → Nat → Int32) (τ : Nat → Nat → Int64) (sz : Nat) (a0 : Int32) (a1 : Int32) (a2 : Int32) : vx_Met l yV_fetch (wsB kV_fetch) ({ frames := 6, cells := 1, slots := 6, locals := 90 } : Room) (va_Pc [.ref (ad 0), .int a0, .int a1, .int a2] (gPX D cs ad σ τ sz)) (xQ (t_vfetch σ a0 a1 a2) (some (.int (f_vfetch σ a0 a1 a2))) (gB D cs ad (s_vfetch σ a0 a1 a2) τ) (gA NC ad sz)) (xX (t_vfetch σ a0 a1 a2) (fun _ => xA)) 1 6 (gA NC ad sz) := by
  refine vx_ofW (cc := cV_fetch) (maxL := 4) (ret := (some .int)) (by decide) rfl ?_
  intro p e s m args below meth c s₁ B hml hEx hv
  obtain ⟨rfl, ⟨hsz, hP, hK⟩, hX⟩ := hv
  have hx := B.exec
  have hb := B.bytes
  have hr := B.returns
  have hts := atoms_spec (ws := wsB kV_fetch) B.pre
  have ht := hbig hts
  have hown : s.vm.findClass RV = some m.cls := findClass_of_methodNamed B.named
  have hlocks := B.notSynchronized
  subst hsz
  have hD : ∀ σ τ, va_D (gA NC ad s.heap.size) (gW cs ad σ τ) := fun _ _ => gw_D hinj (fun i h => gA_ad h)
  have hS : va_S (gA NC ad s.heap.size) s.heap s.heap [] := va_S.rf
  have hS0 : ∀ q : Nat, q < s.heap.size → s.heap[q]? = s.heap[q]? := fun _ _ => rfl
  have hl := lv_entry ([.ref (ad 0), .int a0, .int a1, .int a2]) (n := 4) (Nat.le_of_ble_eq_true rfl)
  rw [lg_entry_eq]
  generalize (lg_sl ([.ref (ad 0), .int a0, .int a1, .int a2]) ++ List.replicate (4 - (lg_sl ([.ref (ad 0), .int a0, .int a1, .int a2])).length) Slot.unset).toArray = ls at hl ⊢
  have hl : lv_has ls 4 [(0, .ref (ad 0)), (1, .int a0), (2, .int a1), (3, .int a2)] := hl
  refine lv_iload_n hx hb dV_fetch_0 rfl (lv_at hl 1 rfl) ?_
  refine lv_bipush (v := 8) hx hb dV_fetch_1 (by decide) ?_
  refine g_pure (v := .int (f_isBelow a0 (8 : Int32))) (va_runS (As := [.int a0, .int 8]) (rest := []) ⟨hx, hb, hml, hown, hts⟩ (c_isBelow l a0 (8 : Int32)) (qS 2 ht tw_202 tw_203 tw_1 tk_V_isBelow rfl rfl (by decide +kernel) ⟨(Nat.le_of_ble_eq_true rfl), (Nat.le_of_ble_eq_true rfl)⟩) g_pt rfl rfl hl.1 rfl (lv_room (Nat.le_of_ble_eq_true rfl)) dV_fetch_3 ⟨Nat.zero_le _, Nat.zero_le _⟩) ?_
  refine lv_if_eq (tgt := 21) hx hb dV_fetch_6 (by decide) (fun c_1 => ?_) (fun c_1 => ?_)
  · have et : t_vfetch σ a0 a1 a2 = 1 := by unfold t_vfetch; rw [if_pos c_1]
    obtain ⟨sa, hstr⟩ := hX.1 (73, "no such attribute, part or vertex") (by decide +kernel)
    exact vx_throwS (own := RV) (cls := xA) (names := xN) hx hb hl9 hown (by decide +kernel) (by decide +kernel) (ht _ tw_290) (ht _ tw_11) hstr (fun w hw => ht w (xat_A w hw)) xgo_A hX.2.1 hX.2.2.1 hS (hl.1.trans hml.symm) dV_fetch_21 dV_fetch_24 dV_fetch_25 dV_fetch_27 dV_fetch_30 (fun x hx9 => (hEx x hx9).elim) (Nat.le_of_ble_eq_true rfl) (Nat.le_of_ble_eq_true rfl) (Nat.le_of_ble_eq_true rfl) (Nat.le_of_ble_eq_true rfl) hlocks (fun t ha hsz hk => ⟨by rw [et]; decide, by rw [et], Nat.le_trans hS.1 hsz, fun q hq => (hk q (Nat.lt_of_lt_of_le hq hS.1)).trans (hS0 q hq)⟩) hS.2.2 (Nat.le_of_ble_eq_true rfl) (Nat.le_of_ble_eq_true rfl)
  · refine lv_iload_n hx hb dV_fetch_9 rfl (lv_at hl 3 rfl) ?_
    refine lv_iconst (v := 4) hx hb dV_fetch_10 (by decide) ?_
    refine g_pure (v := .int (f_isBelow a2 (4 : Int32))) (va_runS (As := [.int a2, .int 4]) (rest := []) ⟨hx, hb, hml, hown, hts⟩ (c_isBelow l a2 (4 : Int32)) (qS 2 ht tw_202 tw_203 tw_1 tk_V_isBelow rfl rfl (by decide +kernel) ⟨(Nat.le_of_ble_eq_true rfl), (Nat.le_of_ble_eq_true rfl)⟩) g_pt rfl rfl hl.1 rfl (lv_room (Nat.le_of_ble_eq_true rfl)) dV_fetch_11 ⟨Nat.zero_le _, Nat.zero_le _⟩) ?_
    refine lv_if_eq (tgt := 21) hx hb dV_fetch_14 (by decide) (fun c_2 => ?_) (fun c_2 => ?_)
    · have et : t_vfetch σ a0 a1 a2 = 1 := by unfold t_vfetch; rw [if_neg c_1, if_pos c_2]
      obtain ⟨sa, hstr⟩ := hX.1 (73, "no such attribute, part or vertex") (by decide +kernel)
      exact vx_throwS (own := RV) (cls := xA) (names := xN) hx hb hl9 hown (by decide +kernel) (by decide +kernel) (ht _ tw_290) (ht _ tw_11) hstr (fun w hw => ht w (xat_A w hw)) xgo_A hX.2.1 hX.2.2.1 hS (hl.1.trans hml.symm) dV_fetch_21 dV_fetch_24 dV_fetch_25 dV_fetch_27 dV_fetch_30 (fun x hx9 => (hEx x hx9).elim) (Nat.le_of_ble_eq_true rfl) (Nat.le_of_ble_eq_true rfl) (Nat.le_of_ble_eq_true rfl) (Nat.le_of_ble_eq_true rfl) hlocks (fun t ha hsz hk => ⟨by rw [et]; decide, by rw [et], Nat.le_trans hS.1 hsz, fun q hq => (hk q (Nat.lt_of_lt_of_le hq hS.1)).trans (hS0 q hq)⟩) hS.2.2 (Nat.le_of_ble_eq_true rfl) (Nat.le_of_ble_eq_true rfl)
    · refine lv_iload_n hx hb dV_fetch_17 rfl (lv_at hl 2 rfl) ?_
      refine lv_if_ge (tgt := 31) hx hb dV_fetch_18 (by decide) (fun c_3 => ?_) (fun c_3 => ?_)
      · refine lv_aload_n hx hb dV_fetch_31 rfl (lv_at hl 0 rfl) ?_
        refine g_get (ci := 0) (C := RV) (T := TV) (M := 8) (v := .ref (ad 3)) hx hb ht inV hown hK hP 0 (by decide) kV rfl 1 (by decide) (ht _ tw_97) (fun _ h9 => h9) rfl dV_fetch_32 ?_
        refine lv_iload_n hx hb dV_fetch_35 rfl (lv_at hl 1 rfl) ?_
        have hi_4 : vp_in a0 8 := (by have l0 : (0 : Int32).toInt = 0 := (by decide); have l4 : (4 : Int32).toInt = 4 := (by decide); have l8 : (8 : Int32).toInt = 8 := (by decide); have b0 := below_b c_1; have b1 := below_b c_2; have b2 := Int32.le_iff_toInt_le.mp c_3; rw [vp_in_iff]; (try simp only [Int32.toInt_add, Int32.toInt_sub, Int32.toInt_mul, Int.bmod_def, l0, l4, l8]); omega)
        refine g_aald hx hb hK hP 3 2 (by decide) kAs rfl rfl hi_4 (rfs_at (vp_lt hi_4)) dV_fetch_36 ?_
        refine lv_aload_n hx hb dV_fetch_37 rfl (lv_at hl 0 rfl) ?_
        refine g_get (ci := 0) (C := RV) (T := TV) (M := 8) (v := .ref (ad 1)) hx hb ht inV hown hK hP 0 (by decide) kV rfl 0 (by decide) (ht _ tw_96) (fun _ h9 => h9) rfl dV_fetch_38 ?_
        refine lv_iload_n hx hb dV_fetch_41 rfl (lv_at hl 2 rfl) ?_
        refine lv_iload_n hx hb dV_fetch_42 rfl (lv_at hl 3 rfl) ?_
        refine g_pure (v := .int (f_read σ a0.toNatClampNeg a1 a2)) (va_runV (C := RA) (As := [.ref (ad 1), .int a1, .int a2]) (rest := []) ⟨hx, hb, hml, hown, hts⟩ (c_read l hinj σ τ _ a0.toNatClampNeg a1 a2 (vp_lt hi_4)) (qV 3 ht tw_319 tw_320 tw_321 tw_3 tk_A_read rfl rfl (by decide +kernel) ⟨(Nat.le_of_ble_eq_true rfl), (Nat.le_of_ble_eq_true rfl)⟩) (g_pv (ci := 2) hK hP (lt4 (vp_lt hi_4)) rfl (kA (vp_lt hi_4)) rfl) rfl rfl hl.1 rfl (lv_room (Nat.le_of_ble_eq_true rfl)) dV_fetch_43 ⟨Nat.zero_le _, Nat.zero_le _⟩) ?_
        have et : t_vfetch σ a0 a1 a2 = 0 := by unfold t_vfetch; rw [if_neg c_1, if_neg c_2, if_pos c_3]
        have ev : f_vfetch σ a0 a1 a2 = (f_read σ a0.toNatClampNeg a1 a2) := by unfold f_vfetch; rw [if_neg c_1, if_neg c_2, if_pos c_3]
        have es : s_vfetch σ a0 a1 a2 = σ := by unfold s_vfetch; rw [if_neg c_1, if_neg c_2, if_pos c_3]
        refine vx_ret ?_
        refine W.widen (k := 1) (n := 6) (Nat.le_of_ble_eq_true rfl) (Nat.le_of_ble_eq_true rfl) ?_
        exact W.iret (v := (f_read σ a0.toNatClampNeg a1 a2)) hx hb hr (fun t ht9 hW => ⟨et, by rw [ev], by show va_P D vwCl (gW cs ad (s_vfetch σ a0 a1 a2) τ) t.heap; rw [ht9, es]; exact hP, hS.F ht9⟩) hS.2.2 dV_fetch_46
      · have et : t_vfetch σ a0 a1 a2 = 1 := by unfold t_vfetch; rw [if_neg c_1, if_neg c_2, if_neg c_3]
        obtain ⟨sa, hstr⟩ := hX.1 (73, "no such attribute, part or vertex") (by decide +kernel)
        exact vx_throwS (own := RV) (cls := xA) (names := xN) hx hb hl9 hown (by decide +kernel) (by decide +kernel) (ht _ tw_290) (ht _ tw_11) hstr (fun w hw => ht w (xat_A w hw)) xgo_A hX.2.1 hX.2.2.1 hS (hl.1.trans hml.symm) dV_fetch_21 dV_fetch_24 dV_fetch_25 dV_fetch_27 dV_fetch_30 (fun x hx9 => (hEx x hx9).elim) (Nat.le_of_ble_eq_true rfl) (Nat.le_of_ble_eq_true rfl) (Nat.le_of_ble_eq_true rfl) (Nat.le_of_ble_eq_true rfl) hlocks (fun t ha hsz hk => ⟨by rw [et]; decide, by rw [et], Nat.le_trans hS.1 hsz, fun q hq => (hk q (Nat.lt_of_lt_of_le hq hS.1)).trans (hS0 q hq)⟩) hS.2.2 (Nat.le_of_ble_eq_true rfl) (Nat.le_of_ble_eq_true rfl)
def t_vindex (σ : Nat → Nat → Int32) (a0 : Int32) (a1 : Int32) (a2 : Int32) : Int32 :=
  if (f_isBelow a0 (3 : Int32)) = 0 then
    1
  else
    if a1 < 0 then
      1
    else
      if 0 ≤ a2 then
        if a0 = 0 then
          0
        else
          if a0 = 1 then
            0
          else
            0
      else
        1
def f_vindex (σ : Nat → Nat → Int32) (a0 : Int32) (a1 : Int32) (a2 : Int32) : Int32 :=
  if (f_isBelow a0 (3 : Int32)) = 0 then
    0
  else
    if a1 < 0 then
      0
    else
      if 0 ≤ a2 then
        if a0 = 0 then
          (f_at σ  ((a1.toInt64) + (a2.toInt64)))
        else
          if a0 = 1 then
            (f_half σ  (a1.toInt64) a2)
          else
            (f_octet σ  ((a1.toInt64) + ((a2 / 4).toInt64)) (a2 - a2 / 4 * 4))
      else
        0
def s_vindex (σ : Nat → Nat → Int32) (a0 : Int32) (a1 : Int32) (a2 : Int32) : Nat → Nat → Int32 :=
  if (f_isBelow a0 (3 : Int32)) = 0 then
    σ
  else
    if a1 < 0 then
      σ
    else
      if 0 ≤ a2 then
        if a0 = 0 then
          σ
        else
          if a0 = 1 then
            σ
          else
            σ
      else
        σ
set_option maxHeartbeats 800000 in
set_option maxRecDepth 100000 in
theorem c_vindex (l : Launch) (hl9 : l.stackTraces = false) {D : va_G} {cs : Nat → ClassId} {ad : Nat → Nat} (hinj : gI ad) (σ : Nat → Nat → Int32) (τ : Nat → Nat → Int64) (sz : Nat) (a0 : Int32) (a1 : Int32) (a2 : Int32) : vx_Met l yV_index (wsB kV_index) ({ frames := 6, cells := 1, slots := 6, locals := 90 } : Room) (va_Pc [.ref (ad 0), .int a0, .int a1, .int a2] (gPX D cs ad σ τ sz)) (xQ (t_vindex σ a0 a1 a2) (some (.int (f_vindex σ a0 a1 a2))) (gB D cs ad (s_vindex σ a0 a1 a2) τ) (gA NC ad sz)) (xX (t_vindex σ a0 a1 a2) (fun _ => xA)) 1 6 (gA NC ad sz) := by
  refine vx_ofW (cc := cV_index) (maxL := 4) (ret := (some .int)) (by decide) rfl ?_
  intro p e s m args below meth c s₁ B hml hEx hv
  obtain ⟨rfl, ⟨hsz, hP, hK⟩, hX⟩ := hv
  have hx := B.exec
  have hb := B.bytes
  have hr := B.returns
  have hts := atoms_spec (ws := wsB kV_index) B.pre
  have ht := hbig hts
  have hown : s.vm.findClass RV = some m.cls := findClass_of_methodNamed B.named
  have hlocks := B.notSynchronized
  subst hsz
  have hD : ∀ σ τ, va_D (gA NC ad s.heap.size) (gW cs ad σ τ) := fun _ _ => gw_D hinj (fun i h => gA_ad h)
  have hS : va_S (gA NC ad s.heap.size) s.heap s.heap [] := va_S.rf
  have hS0 : ∀ q : Nat, q < s.heap.size → s.heap[q]? = s.heap[q]? := fun _ _ => rfl
  have hl := lv_entry ([.ref (ad 0), .int a0, .int a1, .int a2]) (n := 4) (Nat.le_of_ble_eq_true rfl)
  rw [lg_entry_eq]
  generalize (lg_sl ([.ref (ad 0), .int a0, .int a1, .int a2]) ++ List.replicate (4 - (lg_sl ([.ref (ad 0), .int a0, .int a1, .int a2])).length) Slot.unset).toArray = ls at hl ⊢
  have hl : lv_has ls 4 [(0, .ref (ad 0)), (1, .int a0), (2, .int a1), (3, .int a2)] := hl
  refine lv_iload_n hx hb dV_index_0 rfl (lv_at hl 1 rfl) ?_
  refine lv_iconst (v := 3) hx hb dV_index_1 (by decide) ?_
  refine g_pure (v := .int (f_isBelow a0 (3 : Int32))) (va_runS (As := [.int a0, .int 3]) (rest := []) ⟨hx, hb, hml, hown, hts⟩ (c_isBelow l a0 (3 : Int32)) (qS 2 ht tw_202 tw_203 tw_1 tk_V_isBelow rfl rfl (by decide +kernel) ⟨(Nat.le_of_ble_eq_true rfl), (Nat.le_of_ble_eq_true rfl)⟩) g_pt rfl rfl hl.1 rfl (lv_room (Nat.le_of_ble_eq_true rfl)) dV_index_2 ⟨Nat.zero_le _, Nat.zero_le _⟩) ?_
  refine lv_if_eq (tgt := 16) hx hb dV_index_5 (by decide) (fun c_1 => ?_) (fun c_1 => ?_)
  · have et : t_vindex σ a0 a1 a2 = 1 := by unfold t_vindex; rw [if_pos c_1]
    obtain ⟨sa, hstr⟩ := hX.1 (79, "no such type, or below 0") (by decide +kernel)
    exact vx_throwS (own := RV) (cls := xA) (names := xN) hx hb hl9 hown (by decide +kernel) (by decide +kernel) (ht _ tw_290) (ht _ tw_11) hstr (fun w hw => ht w (xat_A w hw)) xgo_A hX.2.1 hX.2.2.1 hS (hl.1.trans hml.symm) dV_index_16 dV_index_19 dV_index_20 dV_index_22 dV_index_25 (fun x hx9 => (hEx x hx9).elim) (Nat.le_of_ble_eq_true rfl) (Nat.le_of_ble_eq_true rfl) (Nat.le_of_ble_eq_true rfl) (Nat.le_of_ble_eq_true rfl) hlocks (fun t ha hsz hk => ⟨by rw [et]; decide, by rw [et], Nat.le_trans hS.1 hsz, fun q hq => (hk q (Nat.lt_of_lt_of_le hq hS.1)).trans (hS0 q hq)⟩) hS.2.2 (Nat.le_of_ble_eq_true rfl) (Nat.le_of_ble_eq_true rfl)
  · refine lv_iload_n hx hb dV_index_8 rfl (lv_at hl 2 rfl) ?_
    refine lv_if_lt (tgt := 16) hx hb dV_index_9 (by decide) (fun c_2 => ?_) (fun c_2 => ?_)
    · have et : t_vindex σ a0 a1 a2 = 1 := by unfold t_vindex; rw [if_neg c_1, if_pos c_2]
      obtain ⟨sa, hstr⟩ := hX.1 (79, "no such type, or below 0") (by decide +kernel)
      exact vx_throwS (own := RV) (cls := xA) (names := xN) hx hb hl9 hown (by decide +kernel) (by decide +kernel) (ht _ tw_290) (ht _ tw_11) hstr (fun w hw => ht w (xat_A w hw)) xgo_A hX.2.1 hX.2.2.1 hS (hl.1.trans hml.symm) dV_index_16 dV_index_19 dV_index_20 dV_index_22 dV_index_25 (fun x hx9 => (hEx x hx9).elim) (Nat.le_of_ble_eq_true rfl) (Nat.le_of_ble_eq_true rfl) (Nat.le_of_ble_eq_true rfl) (Nat.le_of_ble_eq_true rfl) hlocks (fun t ha hsz hk => ⟨by rw [et]; decide, by rw [et], Nat.le_trans hS.1 hsz, fun q hq => (hk q (Nat.lt_of_lt_of_le hq hS.1)).trans (hS0 q hq)⟩) hS.2.2 (Nat.le_of_ble_eq_true rfl) (Nat.le_of_ble_eq_true rfl)
    · refine lv_iload_n hx hb dV_index_12 rfl (lv_at hl 3 rfl) ?_
      refine lv_if_ge (tgt := 26) hx hb dV_index_13 (by decide) (fun c_3 => ?_) (fun c_3 => ?_)
      · refine lv_iload_n hx hb dV_index_26 rfl (lv_at hl 1 rfl) ?_
        refine lv_if_ne (tgt := 43) hx hb dV_index_27 (by decide) (fun c_4 => ?_) (fun c_4 => ?_)
        · refine lv_iload_n hx hb dV_index_43 rfl (lv_at hl 1 rfl) ?_
          refine lv_iconst (v := 1) hx hb dV_index_44 (by decide) ?_
          refine lv_icmp_ne (tgt := 59) hx hb dV_index_45 (by decide) (fun c_5 => ?_) (fun c_5 => ?_)
          · refine lv_aload_n hx hb dV_index_59 rfl (lv_at hl 0 rfl) ?_
            refine g_get (ci := 0) (C := RV) (T := TV) (M := 8) (v := .ref (ad 1)) hx hb ht inV hown hK hP 0 (by decide) kV rfl 0 (by decide) (ht _ tw_96) (fun _ h9 => h9) rfl dV_index_60 ?_
            refine lv_iload_n hx hb dV_index_63 rfl (lv_at hl 2 rfl) ?_
            refine lv_i2l hx hb dV_index_64 rfl ?_
            refine lv_iload_n hx hb dV_index_65 rfl (lv_at hl 3 rfl) ?_
            refine lv_iconst (v := 4) hx hb dV_index_66 (by decide) ?_
            refine lv_idiv hx hb dV_index_67 (by decide) ?_
            refine lv_i2l hx hb dV_index_68 rfl ?_
            refine lv_ladd hx hb dV_index_69 ?_
            refine lv_iload_n hx hb dV_index_70 rfl (lv_at hl 3 rfl) ?_
            refine lv_iconst (v := 4) hx hb dV_index_71 (by decide) ?_
            refine lv_irem hx hb dV_index_72 (by decide) ?_
            refine g_pure (v := .int (f_octet σ  ((a1.toInt64) + ((a2 / 4).toInt64)) (a2 - a2 / 4 * 4))) (va_runV (C := RM) (As := [.long ((a1.toInt64) + ((a2 / 4).toInt64)), .int (a2 - a2 / 4 * 4)]) (rest := []) ⟨hx, hb, hml, hown, hts⟩ (c_octet l hinj σ τ _  ((a1.toInt64) + ((a2 / 4).toInt64)) (a2 - a2 / 4 * 4) ) (qV 2 ht tw_344 tw_326 tw_327 tw_2 tk_M_octet rfl rfl (by decide +kernel) ⟨(Nat.le_of_ble_eq_true rfl), (Nat.le_of_ble_eq_true rfl)⟩) (g_pv (ci := 1) hK hP (by decide) rfl kM rfl) rfl rfl hl.1 rfl (lv_room (Nat.le_of_ble_eq_true rfl)) dV_index_73 ⟨Nat.zero_le _, Nat.zero_le _⟩) ?_
            have et : t_vindex σ a0 a1 a2 = 0 := by unfold t_vindex; rw [if_neg c_1, if_neg c_2, if_pos c_3, if_neg c_4, if_neg c_5]
            have ev : f_vindex σ a0 a1 a2 = (f_octet σ  ((a1.toInt64) + ((a2 / 4).toInt64)) (a2 - a2 / 4 * 4)) := by unfold f_vindex; rw [if_neg c_1, if_neg c_2, if_pos c_3, if_neg c_4, if_neg c_5]
            have es : s_vindex σ a0 a1 a2 = σ := by unfold s_vindex; rw [if_neg c_1, if_neg c_2, if_pos c_3, if_neg c_4, if_neg c_5]
            refine vx_ret ?_
            refine W.widen (k := 1) (n := 6) (Nat.le_of_ble_eq_true rfl) (Nat.le_of_ble_eq_true rfl) ?_
            exact W.iret (v := (f_octet σ  ((a1.toInt64) + ((a2 / 4).toInt64)) (a2 - a2 / 4 * 4))) hx hb hr (fun t ht9 hW => ⟨et, by rw [ev], by show va_P D vwCl (gW cs ad (s_vindex σ a0 a1 a2) τ) t.heap; rw [ht9, es]; exact hP, hS.F ht9⟩) hS.2.2 dV_index_76
          · refine lv_aload_n hx hb dV_index_48 rfl (lv_at hl 0 rfl) ?_
            refine g_get (ci := 0) (C := RV) (T := TV) (M := 8) (v := .ref (ad 1)) hx hb ht inV hown hK hP 0 (by decide) kV rfl 0 (by decide) (ht _ tw_96) (fun _ h9 => h9) rfl dV_index_49 ?_
            refine lv_iload_n hx hb dV_index_52 rfl (lv_at hl 2 rfl) ?_
            refine lv_i2l hx hb dV_index_53 rfl ?_
            refine lv_iload_n hx hb dV_index_54 rfl (lv_at hl 3 rfl) ?_
            refine g_pure (v := .int (f_half σ  (a1.toInt64) a2)) (va_runV (C := RM) (As := [.long (a1.toInt64), .int a2]) (rest := []) ⟨hx, hb, hml, hown, hts⟩ (c_half l hinj σ τ _  (a1.toInt64) a2 ) (qV 2 ht tw_343 tw_330 tw_331 tw_2 tk_M_half rfl rfl (by decide +kernel) ⟨(Nat.le_of_ble_eq_true rfl), (Nat.le_of_ble_eq_true rfl)⟩) (g_pv (ci := 1) hK hP (by decide) rfl kM rfl) rfl rfl hl.1 rfl (lv_room (Nat.le_of_ble_eq_true rfl)) dV_index_55 ⟨Nat.zero_le _, Nat.zero_le _⟩) ?_
            have et : t_vindex σ a0 a1 a2 = 0 := by unfold t_vindex; rw [if_neg c_1, if_neg c_2, if_pos c_3, if_neg c_4, if_pos c_5]
            have ev : f_vindex σ a0 a1 a2 = (f_half σ  (a1.toInt64) a2) := by unfold f_vindex; rw [if_neg c_1, if_neg c_2, if_pos c_3, if_neg c_4, if_pos c_5]
            have es : s_vindex σ a0 a1 a2 = σ := by unfold s_vindex; rw [if_neg c_1, if_neg c_2, if_pos c_3, if_neg c_4, if_pos c_5]
            refine vx_ret ?_
            refine W.widen (k := 1) (n := 6) (Nat.le_of_ble_eq_true rfl) (Nat.le_of_ble_eq_true rfl) ?_
            exact W.iret (v := (f_half σ  (a1.toInt64) a2)) hx hb hr (fun t ht9 hW => ⟨et, by rw [ev], by show va_P D vwCl (gW cs ad (s_vindex σ a0 a1 a2) τ) t.heap; rw [ht9, es]; exact hP, hS.F ht9⟩) hS.2.2 dV_index_58
        · refine lv_aload_n hx hb dV_index_30 rfl (lv_at hl 0 rfl) ?_
          refine g_get (ci := 0) (C := RV) (T := TV) (M := 8) (v := .ref (ad 1)) hx hb ht inV hown hK hP 0 (by decide) kV rfl 0 (by decide) (ht _ tw_96) (fun _ h9 => h9) rfl dV_index_31 ?_
          refine lv_iload_n hx hb dV_index_34 rfl (lv_at hl 2 rfl) ?_
          refine lv_i2l hx hb dV_index_35 rfl ?_
          refine lv_iload_n hx hb dV_index_36 rfl (lv_at hl 3 rfl) ?_
          refine lv_i2l hx hb dV_index_37 rfl ?_
          refine lv_ladd hx hb dV_index_38 ?_
          refine g_pure (v := .int (f_at σ  ((a1.toInt64) + (a2.toInt64)))) (va_runV (C := RM) (As := [.long ((a1.toInt64) + (a2.toInt64))]) (rest := []) ⟨hx, hb, hml, hown, hts⟩ (c_at l hinj σ τ _  ((a1.toInt64) + (a2.toInt64)) ) (qV 1 ht tw_342 tw_277 tw_278 tw_2 tk_M_at rfl rfl (by decide +kernel) ⟨(Nat.le_of_ble_eq_true rfl), (Nat.le_of_ble_eq_true rfl)⟩) (g_pv (ci := 1) hK hP (by decide) rfl kM rfl) rfl rfl hl.1 rfl (lv_room (Nat.le_of_ble_eq_true rfl)) dV_index_39 ⟨Nat.zero_le _, Nat.zero_le _⟩) ?_
          have et : t_vindex σ a0 a1 a2 = 0 := by unfold t_vindex; rw [if_neg c_1, if_neg c_2, if_pos c_3, if_pos c_4]
          have ev : f_vindex σ a0 a1 a2 = (f_at σ  ((a1.toInt64) + (a2.toInt64))) := by unfold f_vindex; rw [if_neg c_1, if_neg c_2, if_pos c_3, if_pos c_4]
          have es : s_vindex σ a0 a1 a2 = σ := by unfold s_vindex; rw [if_neg c_1, if_neg c_2, if_pos c_3, if_pos c_4]
          refine vx_ret ?_
          refine W.widen (k := 1) (n := 6) (Nat.le_of_ble_eq_true rfl) (Nat.le_of_ble_eq_true rfl) ?_
          exact W.iret (v := (f_at σ  ((a1.toInt64) + (a2.toInt64)))) hx hb hr (fun t ht9 hW => ⟨et, by rw [ev], by show va_P D vwCl (gW cs ad (s_vindex σ a0 a1 a2) τ) t.heap; rw [ht9, es]; exact hP, hS.F ht9⟩) hS.2.2 dV_index_42
      · have et : t_vindex σ a0 a1 a2 = 1 := by unfold t_vindex; rw [if_neg c_1, if_neg c_2, if_neg c_3]
        obtain ⟨sa, hstr⟩ := hX.1 (79, "no such type, or below 0") (by decide +kernel)
        exact vx_throwS (own := RV) (cls := xA) (names := xN) hx hb hl9 hown (by decide +kernel) (by decide +kernel) (ht _ tw_290) (ht _ tw_11) hstr (fun w hw => ht w (xat_A w hw)) xgo_A hX.2.1 hX.2.2.1 hS (hl.1.trans hml.symm) dV_index_16 dV_index_19 dV_index_20 dV_index_22 dV_index_25 (fun x hx9 => (hEx x hx9).elim) (Nat.le_of_ble_eq_true rfl) (Nat.le_of_ble_eq_true rfl) (Nat.le_of_ble_eq_true rfl) (Nat.le_of_ble_eq_true rfl) hlocks (fun t ha hsz hk => ⟨by rw [et]; decide, by rw [et], Nat.le_trans hS.1 hsz, fun q hq => (hk q (Nat.lt_of_lt_of_le hq hS.1)).trans (hS0 q hq)⟩) hS.2.2 (Nat.le_of_ble_eq_true rfl) (Nat.le_of_ble_eq_true rfl)
