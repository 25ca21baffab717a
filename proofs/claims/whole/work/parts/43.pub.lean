def t_vplace (σ : Nat → Nat → Int32) (a0 : Int32) (a1 : Int32) (a2 : Int32) (a3 : Int32) (a4 : Int32) : Int32 :=
  if (f_isBelow a0 (3 : Int32)) = 0 then
    1
  else
    0
def s_vplace (σ : Nat → Nat → Int32) (a0 : Int32) (a1 : Int32) (a2 : Int32) (a3 : Int32) (a4 : Int32) : Nat → Nat → Int32 :=
  if (f_isBelow a0 (3 : Int32)) = 0 then
    σ
  else
    (s_putVector σ  a0 (0 : Int32) a1 a2 a3 a4)
set_option maxHeartbeats 800000 in
set_option maxRecDepth 100000 in
theorem c_vplace (l : Launch) (hl9 : l.stackTraces = false) {D : va_G} {cs : Nat → ClassId} {ad : Nat → Nat} (hinj : gI ad) (σ : Nat → Nat → Int32) (τ : Nat → Nat → Int64) (sz : Nat) (a0 : Int32) (a1 : Int32) (a2 : Int32) (a3 : Int32) (a4 : Int32) : vx_Met l yV_place (wsB kV_place) ({ frames := 6, cells := 1, slots := 6, locals := 90 } : Room) (va_Pc [.ref (ad 0), .int a0, .int a1, .int a2, .int a3, .int a4] (gPX D cs ad σ τ sz)) (xQ (t_vplace σ a0 a1 a2 a3 a4) none (gB D cs ad (s_vplace σ a0 a1 a2 a3 a4) τ) (gA NC ad sz)) (xX (t_vplace σ a0 a1 a2 a3 a4) (fun _ => xA)) 1 6 (gA NC ad sz) := by
  refine vx_ofW (cc := cV_place) (maxL := 6) (ret := none) (by decide) rfl ?_
  intro p e s m args below meth c s₁ B hml hEx hv
  obtain ⟨rfl, ⟨hsz, hP, hK⟩, hX⟩ := hv
  have hx := B.exec
  have hb := B.bytes
  have hr := B.returns
  have hts := atoms_spec (ws := wsB kV_place) B.pre
  have ht := hbig hts
  have hown : s.vm.findClass RV = some m.cls := findClass_of_methodNamed B.named
  have hlocks := B.notSynchronized
  subst hsz
  have hD : ∀ σ τ, va_D (gA NC ad s.heap.size) (gW cs ad σ τ) := fun _ _ => gw_D hinj (fun i h => gA_ad h)
  have hS : va_S (gA NC ad s.heap.size) s.heap s.heap [] := va_S.rf
  have hS0 : ∀ q : Nat, q < s.heap.size → s.heap[q]? = s.heap[q]? := fun _ _ => rfl
  have hl := lv_entry ([.ref (ad 0), .int a0, .int a1, .int a2, .int a3, .int a4]) (n := 6) (Nat.le_of_ble_eq_true rfl)
  rw [lg_entry_eq]
  generalize (lg_sl ([.ref (ad 0), .int a0, .int a1, .int a2, .int a3, .int a4]) ++ List.replicate (6 - (lg_sl ([.ref (ad 0), .int a0, .int a1, .int a2, .int a3, .int a4])).length) Slot.unset).toArray = ls at hl ⊢
  have hl : lv_has ls 6 [(0, .ref (ad 0)), (1, .int a0), (2, .int a1), (3, .int a2), (4, .int a3), (5, .int a4)] := hl
  refine lv_iload_n hx hb dV_place_0 rfl (lv_at hl 1 rfl) ?_
  refine lv_iconst (v := 3) hx hb dV_place_1 (by decide) ?_
  refine g_pure (v := .int (f_isBelow a0 (3 : Int32))) (va_runS (As := [.int a0, .int 3]) (rest := []) ⟨hx, hb, hml, hown, hts⟩ (c_isBelow l a0 (3 : Int32)) (qS 2 ht tw_202 tw_203 tw_1 tk_V_isBelow rfl rfl (by decide +kernel) ⟨(Nat.le_of_ble_eq_true rfl), (Nat.le_of_ble_eq_true rfl)⟩) g_pt rfl rfl hl.1 rfl (lv_room (Nat.le_of_ble_eq_true rfl)) dV_place_2 ⟨Nat.zero_le _, Nat.zero_le _⟩) ?_
  refine lv_if_ne (tgt := 18) hx hb dV_place_5 (by decide) (fun c_1 => ?_) (fun c_1 => ?_)
  · refine lv_aload_n hx hb dV_place_18 rfl (lv_at hl 0 rfl) ?_
    refine lv_iload_n hx hb dV_place_19 rfl (lv_at hl 1 rfl) ?_
    refine lv_iconst (v := 0) hx hb dV_place_20 (by decide) ?_
    refine lv_iload_n hx hb dV_place_21 rfl (lv_at hl 2 rfl) ?_
    refine lv_iload_n hx hb dV_place_22 rfl (lv_at hl 3 rfl) ?_
    refine lv_iload hx hb dV_place_23 (lv_at hl 4 rfl) ?_
    refine lv_iload hx hb dV_place_25 (lv_at hl 5 rfl) ?_
    refine g_runV (va_runV (C := RV) (As := [.int a0, .int 0, .int a1, .int a2, .int a3, .int a4]) (rest := []) ⟨hx, hb, hml, hown, hts⟩ (c_putVector l hinj σ τ _  a0 (0 : Int32) a1 a2 a3 a4 (bel3 c_1) (by decide)) (qV 6 ht tw_376 tw_378 ts_V_putVector tw_1 tk_V_putVector rfl rfl (by decide +kernel) ⟨(Nat.le_of_ble_eq_true rfl), (Nat.le_of_ble_eq_true rfl)⟩) (g_pv (ci := 0) hK hP (by decide) rfl kV rfl) rfl rfl hl.1 rfl (lv_room (Nat.le_of_ble_eq_true rfl)) dV_place_27 ⟨Nat.zero_le _, Nat.zero_le _⟩) hS (fun q _ h => gA_mono hS.1 q h) (fun q h => gA_mono hS.1 q h) (fun H locs hP hz hS => ?_)
    have et : t_vplace σ a0 a1 a2 a3 a4 = 0 := by unfold t_vplace; rw [if_neg c_1]
    have es : s_vplace σ a0 a1 a2 a3 a4 = (s_putVector σ  a0 (0 : Int32) a1 a2 a3 a4) := by unfold s_vplace; rw [if_neg c_1]
    refine vx_ret ?_
    refine W.widen (k := 1) (n := 6) (Nat.le_of_ble_eq_true rfl) (Nat.le_of_ble_eq_true rfl) ?_
    exact W.vret hx hb hr (fun t ht9 hW => ⟨et, rfl, by show va_P D vwCl (gW cs ad (s_vplace σ a0 a1 a2 a3 a4) τ) t.heap; rw [ht9, es]; exact hP, hS.F ht9⟩) hS.2.2 dV_place_30
  · have et : t_vplace σ a0 a1 a2 a3 a4 = 1 := by unfold t_vplace; rw [if_pos c_1]
    obtain ⟨sa, hstr⟩ := hX.1 (107, "no such corner") (by decide +kernel)
    exact vx_throwS (own := RV) (cls := xA) (names := xN) hx hb hl9 hown (by decide +kernel) (by decide +kernel) (ht _ tw_290) (ht _ tw_11) hstr (fun w hw => ht w (xat_A w hw)) xgo_A hX.2.1 hX.2.2.1 hS (hl.1.trans hml.symm) dV_place_8 dV_place_11 dV_place_12 dV_place_14 dV_place_17 (fun x hx9 => (hEx x hx9).elim) (Nat.le_of_ble_eq_true rfl) (Nat.le_of_ble_eq_true rfl) (Nat.le_of_ble_eq_true rfl) (Nat.le_of_ble_eq_true rfl) hlocks (fun t ha hsz hk => ⟨by rw [et]; decide, by rw [et], Nat.le_trans hS.1 hsz, fun q hq => (hk q (Nat.lt_of_lt_of_le hq hS.1)).trans (hS0 q hq)⟩) hS.2.2 (Nat.le_of_ble_eq_true rfl) (Nat.le_of_ble_eq_true rfl)
def t_vvary (σ : Nat → Nat → Int32) (a0 : Int32) (a1 : Int32) (a2 : Int32) (a3 : Int32) (a4 : Int32) (a5 : Int32) : Int32 :=
  if (f_isBelow a0 (3 : Int32)) = 0 then
    1
  else
    if (f_isBelow a1 (7 : Int32)) = 0 then
      1
    else
      0
def s_vvary (σ : Nat → Nat → Int32) (a0 : Int32) (a1 : Int32) (a2 : Int32) (a3 : Int32) (a4 : Int32) (a5 : Int32) : Nat → Nat → Int32 :=
  if (f_isBelow a0 (3 : Int32)) = 0 then
    σ
  else
    if (f_isBelow a1 (7 : Int32)) = 0 then
      σ
    else
      (s_putVector σ  a0 (4 + (4 * a1)) a2 a3 a4 a5)
set_option maxHeartbeats 800000 in
set_option maxRecDepth 100000 in
theorem c_vvary (l : Launch) (hl9 : l.stackTraces = false) {D : va_G} {cs : Nat → ClassId} {ad : Nat → Nat} (hinj : gI ad) (σ : Nat → Nat → Int32) (τ : Nat → Nat → Int64) (sz : Nat) (a0 : Int32) (a1 : Int32) (a2 : Int32) (a3 : Int32) (a4 : Int32) (a5 : Int32) : vx_Met l yV_vary (wsB kV_vary) ({ frames := 6, cells := 1, slots := 6, locals := 90 } : Room) (va_Pc [.ref (ad 0), .int a0, .int a1, .int a2, .int a3, .int a4, .int a5] (gPX D cs ad σ τ sz)) (xQ (t_vvary σ a0 a1 a2 a3 a4 a5) none (gB D cs ad (s_vvary σ a0 a1 a2 a3 a4 a5) τ) (gA NC ad sz)) (xX (t_vvary σ a0 a1 a2 a3 a4 a5) (fun _ => xA)) 1 6 (gA NC ad sz) := by
  refine vx_ofW (cc := cV_vary) (maxL := 7) (ret := none) (by decide) rfl ?_
  intro p e s m args below meth c s₁ B hml hEx hv
  obtain ⟨rfl, ⟨hsz, hP, hK⟩, hX⟩ := hv
  have hx := B.exec
  have hb := B.bytes
  have hr := B.returns
  have hts := atoms_spec (ws := wsB kV_vary) B.pre
  have ht := hbig hts
  have hown : s.vm.findClass RV = some m.cls := findClass_of_methodNamed B.named
  have hlocks := B.notSynchronized
  subst hsz
  have hD : ∀ σ τ, va_D (gA NC ad s.heap.size) (gW cs ad σ τ) := fun _ _ => gw_D hinj (fun i h => gA_ad h)
  have hS : va_S (gA NC ad s.heap.size) s.heap s.heap [] := va_S.rf
  have hS0 : ∀ q : Nat, q < s.heap.size → s.heap[q]? = s.heap[q]? := fun _ _ => rfl
  have hl := lv_entry ([.ref (ad 0), .int a0, .int a1, .int a2, .int a3, .int a4, .int a5]) (n := 7) (Nat.le_of_ble_eq_true rfl)
  rw [lg_entry_eq]
  generalize (lg_sl ([.ref (ad 0), .int a0, .int a1, .int a2, .int a3, .int a4, .int a5]) ++ List.replicate (7 - (lg_sl ([.ref (ad 0), .int a0, .int a1, .int a2, .int a3, .int a4, .int a5])).length) Slot.unset).toArray = ls at hl ⊢
  have hl : lv_has ls 7 [(0, .ref (ad 0)), (1, .int a0), (2, .int a1), (3, .int a2), (4, .int a3), (5, .int a4), (6, .int a5)] := hl
  refine lv_iload_n hx hb dV_vary_0 rfl (lv_at hl 1 rfl) ?_
  refine lv_iconst (v := 3) hx hb dV_vary_1 (by decide) ?_
  refine g_pure (v := .int (f_isBelow a0 (3 : Int32))) (va_runS (As := [.int a0, .int 3]) (rest := []) ⟨hx, hb, hml, hown, hts⟩ (c_isBelow l a0 (3 : Int32)) (qS 2 ht tw_202 tw_203 tw_1 tk_V_isBelow rfl rfl (by decide +kernel) ⟨(Nat.le_of_ble_eq_true rfl), (Nat.le_of_ble_eq_true rfl)⟩) g_pt rfl rfl hl.1 rfl (lv_room (Nat.le_of_ble_eq_true rfl)) dV_vary_2 ⟨Nat.zero_le _, Nat.zero_le _⟩) ?_
  refine lv_if_eq (tgt := 17) hx hb dV_vary_5 (by decide) (fun c_1 => ?_) (fun c_1 => ?_)
  · have et : t_vvary σ a0 a1 a2 a3 a4 a5 = 1 := by unfold t_vvary; rw [if_pos c_1]
    obtain ⟨sa, hstr⟩ := hX.1 (113, "no such corner or varying") (by decide +kernel)
    exact vx_throwS (own := RV) (cls := xA) (names := xN) hx hb hl9 hown (by decide +kernel) (by decide +kernel) (ht _ tw_290) (ht _ tw_11) hstr (fun w hw => ht w (xat_A w hw)) xgo_A hX.2.1 hX.2.2.1 hS (hl.1.trans hml.symm) dV_vary_17 dV_vary_20 dV_vary_21 dV_vary_23 dV_vary_26 (fun x hx9 => (hEx x hx9).elim) (Nat.le_of_ble_eq_true rfl) (Nat.le_of_ble_eq_true rfl) (Nat.le_of_ble_eq_true rfl) (Nat.le_of_ble_eq_true rfl) hlocks (fun t ha hsz hk => ⟨by rw [et]; decide, by rw [et], Nat.le_trans hS.1 hsz, fun q hq => (hk q (Nat.lt_of_lt_of_le hq hS.1)).trans (hS0 q hq)⟩) hS.2.2 (Nat.le_of_ble_eq_true rfl) (Nat.le_of_ble_eq_true rfl)
  · refine lv_iload_n hx hb dV_vary_8 rfl (lv_at hl 2 rfl) ?_
    refine lv_bipush (v := 7) hx hb dV_vary_9 (by decide) ?_
    refine g_pure (v := .int (f_isBelow a1 (7 : Int32))) (va_runS (As := [.int a1, .int 7]) (rest := []) ⟨hx, hb, hml, hown, hts⟩ (c_isBelow l a1 (7 : Int32)) (qS 2 ht tw_202 tw_203 tw_1 tk_V_isBelow rfl rfl (by decide +kernel) ⟨(Nat.le_of_ble_eq_true rfl), (Nat.le_of_ble_eq_true rfl)⟩) g_pt rfl rfl hl.1 rfl (lv_room (Nat.le_of_ble_eq_true rfl)) dV_vary_11 ⟨Nat.zero_le _, Nat.zero_le _⟩) ?_
    refine lv_if_ne (tgt := 27) hx hb dV_vary_14 (by decide) (fun c_2 => ?_) (fun c_2 => ?_)
    · refine lv_aload_n hx hb dV_vary_27 rfl (lv_at hl 0 rfl) ?_
      refine lv_iload_n hx hb dV_vary_28 rfl (lv_at hl 1 rfl) ?_
      refine lv_iconst (v := 4) hx hb dV_vary_29 (by decide) ?_
      refine lv_iconst (v := 4) hx hb dV_vary_30 (by decide) ?_
      refine lv_iload_n hx hb dV_vary_31 rfl (lv_at hl 2 rfl) ?_
      refine lv_imul hx hb dV_vary_32 ?_
      refine lv_iadd hx hb dV_vary_33 ?_
      refine lv_iload_n hx hb dV_vary_34 rfl (lv_at hl 3 rfl) ?_
      refine lv_iload hx hb dV_vary_35 (lv_at hl 4 rfl) ?_
      refine lv_iload hx hb dV_vary_37 (lv_at hl 5 rfl) ?_
      refine lv_iload hx hb dV_vary_39 (lv_at hl 6 rfl) ?_
      refine g_runV (va_runV (C := RV) (As := [.int a0, .int (4 + (4 * a1)), .int a2, .int a3, .int a4, .int a5]) (rest := []) ⟨hx, hb, hml, hown, hts⟩ (c_putVector l hinj σ τ _  a0 (4 + (4 * a1)) a2 a3 a4 a5 (bel3 c_1) (vq7 c_2)) (qV 6 ht tw_376 tw_378 ts_V_putVector tw_1 tk_V_putVector rfl rfl (by decide +kernel) ⟨(Nat.le_of_ble_eq_true rfl), (Nat.le_of_ble_eq_true rfl)⟩) (g_pv (ci := 0) hK hP (by decide) rfl kV rfl) rfl rfl hl.1 rfl (lv_room (Nat.le_of_ble_eq_true rfl)) dV_vary_41 ⟨Nat.zero_le _, Nat.zero_le _⟩) hS (fun q _ h => gA_mono hS.1 q h) (fun q h => gA_mono hS.1 q h) (fun H locs hP hz hS => ?_)
      have et : t_vvary σ a0 a1 a2 a3 a4 a5 = 0 := by unfold t_vvary; rw [if_neg c_1, if_neg c_2]
      have es : s_vvary σ a0 a1 a2 a3 a4 a5 = (s_putVector σ  a0 (4 + (4 * a1)) a2 a3 a4 a5) := by unfold s_vvary; rw [if_neg c_1, if_neg c_2]
      refine vx_ret ?_
      refine W.widen (k := 1) (n := 6) (Nat.le_of_ble_eq_true rfl) (Nat.le_of_ble_eq_true rfl) ?_
      exact W.vret hx hb hr (fun t ht9 hW => ⟨et, rfl, by show va_P D vwCl (gW cs ad (s_vvary σ a0 a1 a2 a3 a4 a5) τ) t.heap; rw [ht9, es]; exact hP, hS.F ht9⟩) hS.2.2 dV_vary_44
    · have et : t_vvary σ a0 a1 a2 a3 a4 a5 = 1 := by unfold t_vvary; rw [if_neg c_1, if_pos c_2]
      obtain ⟨sa, hstr⟩ := hX.1 (113, "no such corner or varying") (by decide +kernel)
      exact vx_throwS (own := RV) (cls := xA) (names := xN) hx hb hl9 hown (by decide +kernel) (by decide +kernel) (ht _ tw_290) (ht _ tw_11) hstr (fun w hw => ht w (xat_A w hw)) xgo_A hX.2.1 hX.2.2.1 hS (hl.1.trans hml.symm) dV_vary_17 dV_vary_20 dV_vary_21 dV_vary_23 dV_vary_26 (fun x hx9 => (hEx x hx9).elim) (Nat.le_of_ble_eq_true rfl) (Nat.le_of_ble_eq_true rfl) (Nat.le_of_ble_eq_true rfl) (Nat.le_of_ble_eq_true rfl) hlocks (fun t ha hsz hk => ⟨by rw [et]; decide, by rw [et], Nat.le_trans hS.1 hsz, fun q hq => (hk q (Nat.lt_of_lt_of_le hq hS.1)).trans (hS0 q hq)⟩) hS.2.2 (Nat.le_of_ble_eq_true rfl) (Nat.le_of_ble_eq_true rfl)
def t_vview (σ : Nat → Nat → Int32) (a0 : Int32) (a1 : Int32) (a2 : Int32) (a3 : Int32) (a4 : Int32) (a5 : Int32) : Int32 :=
  if (f_isWithin a0 ((-1023) : Int32) (1023 : Int32)) = 0 then
    1
  else
    if (f_isWithin a1 ((-1023) : Int32) (1023 : Int32)) = 0 then
      1
    else
      if (f_isWithin a2 (1 : Int32) (1024 : Int32)) = 0 then
        1
      else
        if (f_isWithin a3 (1 : Int32) (1024 : Int32)) = 0 then
          1
        else
          if (f_isWithin a4 (0 : Int32) (16777215 : Int32)) = 0 then
            1
          else
            if (f_isWithin a5 (0 : Int32) (16777215 : Int32)) = 0 then
              1
            else
              0
def s_vview (σ : Nat → Nat → Int32) (a0 : Int32) (a1 : Int32) (a2 : Int32) (a3 : Int32) (a4 : Int32) (a5 : Int32) : Nat → Nat → Int32 :=
  if (f_isWithin a0 ((-1023) : Int32) (1023 : Int32)) = 0 then
    σ
  else
    if (f_isWithin a1 ((-1023) : Int32) (1023 : Int32)) = 0 then
      σ
    else
      if (f_isWithin a2 (1 : Int32) (1024 : Int32)) = 0 then
        σ
      else
        if (f_isWithin a3 (1 : Int32) (1024 : Int32)) = 0 then
          σ
        else
          if (f_isWithin a4 (0 : Int32) (16777215 : Int32)) = 0 then
            σ
          else
            if (f_isWithin a5 (0 : Int32) (16777215 : Int32)) = 0 then
              σ
            else
              (w2 (s_sbecome σ  a0 a1 a2 a3 a4 a5) 26 1 (0 : Int32))
set_option maxHeartbeats 800000 in
set_option maxRecDepth 100000 in
theorem c_vview (l : Launch) (hl9 : l.stackTraces = false) {D : va_G} {cs : Nat → ClassId} {ad : Nat → Nat} (hinj : gI ad) (σ : Nat → Nat → Int32) (τ : Nat → Nat → Int64) (sz : Nat) (a0 : Int32) (a1 : Int32) (a2 : Int32) (a3 : Int32) (a4 : Int32) (a5 : Int32) : vx_Met l yV_view (wsB kV_view) ({ frames := 6, cells := 1, slots := 6, locals := 90 } : Room) (va_Pc [.ref (ad 0), .int a0, .int a1, .int a2, .int a3, .int a4, .int a5] (gPX D cs ad σ τ sz)) (xQ (t_vview σ a0 a1 a2 a3 a4 a5) none (gB D cs ad (s_vview σ a0 a1 a2 a3 a4 a5) τ) (gA NC ad sz)) (xX (t_vview σ a0 a1 a2 a3 a4 a5) (fun _ => xA)) 1 6 (gA NC ad sz) := by
  refine vx_ofW (cc := cV_view) (maxL := 7) (ret := none) (by decide) rfl ?_
  intro p e s m args below meth c s₁ B hml hEx hv
  obtain ⟨rfl, ⟨hsz, hP, hK⟩, hX⟩ := hv
  have hx := B.exec
  have hb := B.bytes
  have hr := B.returns
  have hts := atoms_spec (ws := wsB kV_view) B.pre
  have ht := hbig hts
  have hown : s.vm.findClass RV = some m.cls := findClass_of_methodNamed B.named
  have hlocks := B.notSynchronized
  subst hsz
  have hD : ∀ σ τ, va_D (gA NC ad s.heap.size) (gW cs ad σ τ) := fun _ _ => gw_D hinj (fun i h => gA_ad h)
  have hS : va_S (gA NC ad s.heap.size) s.heap s.heap [] := va_S.rf
  have hS0 : ∀ q : Nat, q < s.heap.size → s.heap[q]? = s.heap[q]? := fun _ _ => rfl
  have hl := lv_entry ([.ref (ad 0), .int a0, .int a1, .int a2, .int a3, .int a4, .int a5]) (n := 7) (Nat.le_of_ble_eq_true rfl)
  rw [lg_entry_eq]
  generalize (lg_sl ([.ref (ad 0), .int a0, .int a1, .int a2, .int a3, .int a4, .int a5]) ++ List.replicate (7 - (lg_sl ([.ref (ad 0), .int a0, .int a1, .int a2, .int a3, .int a4, .int a5])).length) Slot.unset).toArray = ls at hl ⊢
  have hl : lv_has ls 7 [(0, .ref (ad 0)), (1, .int a0), (2, .int a1), (3, .int a2), (4, .int a3), (5, .int a4), (6, .int a5)] := hl
  refine lv_iload_n hx hb dV_view_0 rfl (lv_at hl 1 rfl) ?_
  refine lv_sipush (v := (-1023)) hx hb dV_view_1 (by decide) ?_
  refine lv_sipush (v := 1023) hx hb dV_view_4 (by decide) ?_
  refine g_pure (v := .int (f_isWithin a0 ((-1023) : Int32) (1023 : Int32))) (va_runS (As := [.int a0, .int (-1023), .int 1023]) (rest := []) ⟨hx, hb, hml, hown, hts⟩ (c_isWithin l a0 ((-1023) : Int32) (1023 : Int32)) (qS 3 ht tw_395 tw_396 tw_1 tk_V_isWithin rfl rfl (by decide +kernel) ⟨(Nat.le_of_ble_eq_true rfl), (Nat.le_of_ble_eq_true rfl)⟩) g_pt rfl rfl hl.1 rfl (lv_room (Nat.le_of_ble_eq_true rfl)) dV_view_7 ⟨Nat.zero_le _, Nat.zero_le _⟩) ?_
  refine lv_if_eq (tgt := 26) hx hb dV_view_10 (by decide) (fun c_1 => ?_) (fun c_1 => ?_)
  · have et : t_vview σ a0 a1 a2 a3 a4 a5 = 1 := by unfold t_vview; rw [if_pos c_1]
    obtain ⟨sa, hstr⟩ := hX.1 (119, "too far off") (by decide +kernel)
    exact vx_throwS (own := RV) (cls := xA) (names := xN) hx hb hl9 hown (by decide +kernel) (by decide +kernel) (ht _ tw_290) (ht _ tw_11) hstr (fun w hw => ht w (xat_A w hw)) xgo_A hX.2.1 hX.2.2.1 hS (hl.1.trans hml.symm) dV_view_26 dV_view_29 dV_view_30 dV_view_32 dV_view_35 (fun x hx9 => (hEx x hx9).elim) (Nat.le_of_ble_eq_true rfl) (Nat.le_of_ble_eq_true rfl) (Nat.le_of_ble_eq_true rfl) (Nat.le_of_ble_eq_true rfl) hlocks (fun t ha hsz hk => ⟨by rw [et]; decide, by rw [et], Nat.le_trans hS.1 hsz, fun q hq => (hk q (Nat.lt_of_lt_of_le hq hS.1)).trans (hS0 q hq)⟩) hS.2.2 (Nat.le_of_ble_eq_true rfl) (Nat.le_of_ble_eq_true rfl)
  · refine lv_iload_n hx hb dV_view_13 rfl (lv_at hl 2 rfl) ?_
    refine lv_sipush (v := (-1023)) hx hb dV_view_14 (by decide) ?_
    refine lv_sipush (v := 1023) hx hb dV_view_17 (by decide) ?_
    refine g_pure (v := .int (f_isWithin a1 ((-1023) : Int32) (1023 : Int32))) (va_runS (As := [.int a1, .int (-1023), .int 1023]) (rest := []) ⟨hx, hb, hml, hown, hts⟩ (c_isWithin l a1 ((-1023) : Int32) (1023 : Int32)) (qS 3 ht tw_395 tw_396 tw_1 tk_V_isWithin rfl rfl (by decide +kernel) ⟨(Nat.le_of_ble_eq_true rfl), (Nat.le_of_ble_eq_true rfl)⟩) g_pt rfl rfl hl.1 rfl (lv_room (Nat.le_of_ble_eq_true rfl)) dV_view_20 ⟨Nat.zero_le _, Nat.zero_le _⟩) ?_
    refine lv_if_ne (tgt := 36) hx hb dV_view_23 (by decide) (fun c_2 => ?_) (fun c_2 => ?_)
    · refine lv_iload_n hx hb dV_view_36 rfl (lv_at hl 3 rfl) ?_
      refine lv_iconst (v := 1) hx hb dV_view_37 (by decide) ?_
      refine lv_sipush (v := 1024) hx hb dV_view_38 (by decide) ?_
      refine g_pure (v := .int (f_isWithin a2 (1 : Int32) (1024 : Int32))) (va_runS (As := [.int a2, .int 1, .int 1024]) (rest := []) ⟨hx, hb, hml, hown, hts⟩ (c_isWithin l a2 (1 : Int32) (1024 : Int32)) (qS 3 ht tw_395 tw_396 tw_1 tk_V_isWithin rfl rfl (by decide +kernel) ⟨(Nat.le_of_ble_eq_true rfl), (Nat.le_of_ble_eq_true rfl)⟩) g_pt rfl rfl hl.1 rfl (lv_room (Nat.le_of_ble_eq_true rfl)) dV_view_41 ⟨Nat.zero_le _, Nat.zero_le _⟩) ?_
      refine lv_if_eq (tgt := 59) hx hb dV_view_44 (by decide) (fun c_3 => ?_) (fun c_3 => ?_)
      · have et : t_vview σ a0 a1 a2 a3 a4 a5 = 1 := by unfold t_vview; rw [if_neg c_1, if_neg c_2, if_pos c_3]
        obtain ⟨sa, hstr⟩ := hX.1 (121, "no such size") (by decide +kernel)
        exact vx_throwS (own := RV) (cls := xA) (names := xN) hx hb hl9 hown (by decide +kernel) (by decide +kernel) (ht _ tw_290) (ht _ tw_11) hstr (fun w hw => ht w (xat_A w hw)) xgo_A hX.2.1 hX.2.2.1 hS (hl.1.trans hml.symm) dV_view_59 dV_view_62 dV_view_63 dV_view_65 dV_view_68 (fun x hx9 => (hEx x hx9).elim) (Nat.le_of_ble_eq_true rfl) (Nat.le_of_ble_eq_true rfl) (Nat.le_of_ble_eq_true rfl) (Nat.le_of_ble_eq_true rfl) hlocks (fun t ha hsz hk => ⟨by rw [et]; decide, by rw [et], Nat.le_trans hS.1 hsz, fun q hq => (hk q (Nat.lt_of_lt_of_le hq hS.1)).trans (hS0 q hq)⟩) hS.2.2 (Nat.le_of_ble_eq_true rfl) (Nat.le_of_ble_eq_true rfl)
      · refine lv_iload hx hb dV_view_47 (lv_at hl 4 rfl) ?_
        refine lv_iconst (v := 1) hx hb dV_view_49 (by decide) ?_
        refine lv_sipush (v := 1024) hx hb dV_view_50 (by decide) ?_
        refine g_pure (v := .int (f_isWithin a3 (1 : Int32) (1024 : Int32))) (va_runS (As := [.int a3, .int 1, .int 1024]) (rest := []) ⟨hx, hb, hml, hown, hts⟩ (c_isWithin l a3 (1 : Int32) (1024 : Int32)) (qS 3 ht tw_395 tw_396 tw_1 tk_V_isWithin rfl rfl (by decide +kernel) ⟨(Nat.le_of_ble_eq_true rfl), (Nat.le_of_ble_eq_true rfl)⟩) g_pt rfl rfl hl.1 rfl (lv_room (Nat.le_of_ble_eq_true rfl)) dV_view_53 ⟨Nat.zero_le _, Nat.zero_le _⟩) ?_
        refine lv_if_ne (tgt := 69) hx hb dV_view_56 (by decide) (fun c_4 => ?_) (fun c_4 => ?_)
        · refine lv_iload hx hb dV_view_69 (lv_at hl 5 rfl) ?_
          refine lv_iconst (v := 0) hx hb dV_view_71 (by decide) ?_
          refine lv_ldc (v := 16777215) hx hb hown (ht _ tw_400) dV_view_72 ?_
          refine g_pure (v := .int (f_isWithin a4 (0 : Int32) (16777215 : Int32))) (va_runS (As := [.int a4, .int 0, .int 16777215]) (rest := []) ⟨hx, hb, hml, hown, hts⟩ (c_isWithin l a4 (0 : Int32) (16777215 : Int32)) (qS 3 ht tw_395 tw_396 tw_1 tk_V_isWithin rfl rfl (by decide +kernel) ⟨(Nat.le_of_ble_eq_true rfl), (Nat.le_of_ble_eq_true rfl)⟩) g_pt rfl rfl hl.1 rfl (lv_room (Nat.le_of_ble_eq_true rfl)) dV_view_74 ⟨Nat.zero_le _, Nat.zero_le _⟩) ?_
          refine lv_if_eq (tgt := 91) hx hb dV_view_77 (by decide) (fun c_5 => ?_) (fun c_5 => ?_)
          · have et : t_vview σ a0 a1 a2 a3 a4 a5 = 1 := by unfold t_vview; rw [if_neg c_1, if_neg c_2, if_neg c_3, if_neg c_4, if_pos c_5]
            obtain ⟨sa, hstr⟩ := hX.1 (124, "no such depth") (by decide +kernel)
            exact vx_throwS (own := RV) (cls := xA) (names := xN) hx hb hl9 hown (by decide +kernel) (by decide +kernel) (ht _ tw_290) (ht _ tw_11) hstr (fun w hw => ht w (xat_A w hw)) xgo_A hX.2.1 hX.2.2.1 hS (hl.1.trans hml.symm) dV_view_91 dV_view_94 dV_view_95 dV_view_97 dV_view_100 (fun x hx9 => (hEx x hx9).elim) (Nat.le_of_ble_eq_true rfl) (Nat.le_of_ble_eq_true rfl) (Nat.le_of_ble_eq_true rfl) (Nat.le_of_ble_eq_true rfl) hlocks (fun t ha hsz hk => ⟨by rw [et]; decide, by rw [et], Nat.le_trans hS.1 hsz, fun q hq => (hk q (Nat.lt_of_lt_of_le hq hS.1)).trans (hS0 q hq)⟩) hS.2.2 (Nat.le_of_ble_eq_true rfl) (Nat.le_of_ble_eq_true rfl)
          · refine lv_iload hx hb dV_view_80 (lv_at hl 6 rfl) ?_
            refine lv_iconst (v := 0) hx hb dV_view_82 (by decide) ?_
            refine lv_ldc (v := 16777215) hx hb hown (ht _ tw_400) dV_view_83 ?_
            refine g_pure (v := .int (f_isWithin a5 (0 : Int32) (16777215 : Int32))) (va_runS (As := [.int a5, .int 0, .int 16777215]) (rest := []) ⟨hx, hb, hml, hown, hts⟩ (c_isWithin l a5 (0 : Int32) (16777215 : Int32)) (qS 3 ht tw_395 tw_396 tw_1 tk_V_isWithin rfl rfl (by decide +kernel) ⟨(Nat.le_of_ble_eq_true rfl), (Nat.le_of_ble_eq_true rfl)⟩) g_pt rfl rfl hl.1 rfl (lv_room (Nat.le_of_ble_eq_true rfl)) dV_view_85 ⟨Nat.zero_le _, Nat.zero_le _⟩) ?_
            refine lv_if_ne (tgt := 101) hx hb dV_view_88 (by decide) (fun c_6 => ?_) (fun c_6 => ?_)
            · refine lv_aload_n hx hb dV_view_101 rfl (lv_at hl 0 rfl) ?_
              refine g_get (ci := 0) (C := RV) (T := TV) (M := 8) (v := .ref (ad 33)) hx hb ht inV hown hK hP 0 (by decide) kV rfl 5 (by decide) (ht _ tw_101) (fun _ h9 => h9) rfl dV_view_102 ?_
              refine lv_iload_n hx hb dV_view_105 rfl (lv_at hl 1 rfl) ?_
              refine lv_iload_n hx hb dV_view_106 rfl (lv_at hl 2 rfl) ?_
              refine lv_iload_n hx hb dV_view_107 rfl (lv_at hl 3 rfl) ?_
              refine lv_iload hx hb dV_view_108 (lv_at hl 4 rfl) ?_
              refine lv_iload hx hb dV_view_110 (lv_at hl 5 rfl) ?_
              refine lv_iload hx hb dV_view_112 (lv_at hl 6 rfl) ?_
              refine g_runV (va_runV (C := RS) (As := [.int a0, .int a1, .int a2, .int a3, .int a4, .int a5]) (rest := []) ⟨hx, hb, hml, hown, hts⟩ (c_sbecome l hinj σ τ _  a0 a1 a2 a3 a4 a5 ) (qV 6 ht tw_402 tw_403 tw_404 tw_5 tk_S_become rfl rfl (by decide +kernel) ⟨(Nat.le_of_ble_eq_true rfl), (Nat.le_of_ble_eq_true rfl)⟩) (g_pv (ci := 4) hK hP (by decide) rfl kS rfl) rfl rfl hl.1 rfl (lv_room (Nat.le_of_ble_eq_true rfl)) dV_view_114 ⟨Nat.zero_le _, Nat.zero_le _⟩) hS (fun q _ h => gA_mono hS.1 q h) (fun q h => gA_mono hS.1 q h) (fun H locs hP hz hS => ?_)
              refine lv_aload_n hx hb dV_view_117 rfl (lv_at hl 0 rfl) ?_
              refine g_get (ci := 0) (C := RV) (T := TV) (M := 8) (v := .ref (ad 26)) hx hb ht inV hown hK hP 0 (by decide) kV rfl 4 (by decide) (ht _ tw_100) (fun _ h9 => h9) rfl dV_view_118 ?_
              refine lv_iconst (v := 0) hx hb dV_view_121 (by decide) ?_
              refine g_put (ci := 3) (C := RP) (T := TP) (M := 2) (ty := .int) (x := 0) hx hb ht inP tyP tyP_ok nmP hown hK hP hD hS 26 (isP_lt0 (Or.inr (Or.inr rfl))) (fP ad 26) (fun r t => (kP (Or.inr (Or.inr rfl)))) rfl 1 (by decide) (ht _ tw_63) (fun _ h9 => h9) rfl (by decide +kernel) rfl rfl (Nat.le_of_ble_eq_true rfl) rfl dV_view_122 (fun H locs hP hS => ?_)
              have et : t_vview σ a0 a1 a2 a3 a4 a5 = 0 := by unfold t_vview; rw [if_neg c_1, if_neg c_2, if_neg c_3, if_neg c_4, if_neg c_5, if_neg c_6]
              have es : s_vview σ a0 a1 a2 a3 a4 a5 = (w2 (s_sbecome σ  a0 a1 a2 a3 a4 a5) 26 1 (0 : Int32)) := by unfold s_vview; rw [if_neg c_1, if_neg c_2, if_neg c_3, if_neg c_4, if_neg c_5, if_neg c_6]
              refine vx_ret ?_
              refine W.widen (k := 1) (n := 6) (Nat.le_of_ble_eq_true rfl) (Nat.le_of_ble_eq_true rfl) ?_
              exact W.vret hx hb hr (fun t ht9 hW => ⟨et, rfl, by show va_P D vwCl (gW cs ad (s_vview σ a0 a1 a2 a3 a4 a5) τ) t.heap; rw [ht9, es]; exact hP, hS.F ht9⟩) hS.2.2 dV_view_125
            · have et : t_vview σ a0 a1 a2 a3 a4 a5 = 1 := by unfold t_vview; rw [if_neg c_1, if_neg c_2, if_neg c_3, if_neg c_4, if_neg c_5, if_pos c_6]
              obtain ⟨sa, hstr⟩ := hX.1 (124, "no such depth") (by decide +kernel)
              exact vx_throwS (own := RV) (cls := xA) (names := xN) hx hb hl9 hown (by decide +kernel) (by decide +kernel) (ht _ tw_290) (ht _ tw_11) hstr (fun w hw => ht w (xat_A w hw)) xgo_A hX.2.1 hX.2.2.1 hS (hl.1.trans hml.symm) dV_view_91 dV_view_94 dV_view_95 dV_view_97 dV_view_100 (fun x hx9 => (hEx x hx9).elim) (Nat.le_of_ble_eq_true rfl) (Nat.le_of_ble_eq_true rfl) (Nat.le_of_ble_eq_true rfl) (Nat.le_of_ble_eq_true rfl) hlocks (fun t ha hsz hk => ⟨by rw [et]; decide, by rw [et], Nat.le_trans hS.1 hsz, fun q hq => (hk q (Nat.lt_of_lt_of_le hq hS.1)).trans (hS0 q hq)⟩) hS.2.2 (Nat.le_of_ble_eq_true rfl) (Nat.le_of_ble_eq_true rfl)
        · have et : t_vview σ a0 a1 a2 a3 a4 a5 = 1 := by unfold t_vview; rw [if_neg c_1, if_neg c_2, if_neg c_3, if_pos c_4]
          obtain ⟨sa, hstr⟩ := hX.1 (121, "no such size") (by decide +kernel)
          exact vx_throwS (own := RV) (cls := xA) (names := xN) hx hb hl9 hown (by decide +kernel) (by decide +kernel) (ht _ tw_290) (ht _ tw_11) hstr (fun w hw => ht w (xat_A w hw)) xgo_A hX.2.1 hX.2.2.1 hS (hl.1.trans hml.symm) dV_view_59 dV_view_62 dV_view_63 dV_view_65 dV_view_68 (fun x hx9 => (hEx x hx9).elim) (Nat.le_of_ble_eq_true rfl) (Nat.le_of_ble_eq_true rfl) (Nat.le_of_ble_eq_true rfl) (Nat.le_of_ble_eq_true rfl) hlocks (fun t ha hsz hk => ⟨by rw [et]; decide, by rw [et], Nat.le_trans hS.1 hsz, fun q hq => (hk q (Nat.lt_of_lt_of_le hq hS.1)).trans (hS0 q hq)⟩) hS.2.2 (Nat.le_of_ble_eq_true rfl) (Nat.le_of_ble_eq_true rfl)
    · have et : t_vview σ a0 a1 a2 a3 a4 a5 = 1 := by unfold t_vview; rw [if_neg c_1, if_pos c_2]
      obtain ⟨sa, hstr⟩ := hX.1 (119, "too far off") (by decide +kernel)
      exact vx_throwS (own := RV) (cls := xA) (names := xN) hx hb hl9 hown (by decide +kernel) (by decide +kernel) (ht _ tw_290) (ht _ tw_11) hstr (fun w hw => ht w (xat_A w hw)) xgo_A hX.2.1 hX.2.2.1 hS (hl.1.trans hml.symm) dV_view_26 dV_view_29 dV_view_30 dV_view_32 dV_view_35 (fun x hx9 => (hEx x hx9).elim) (Nat.le_of_ble_eq_true rfl) (Nat.le_of_ble_eq_true rfl) (Nat.le_of_ble_eq_true rfl) (Nat.le_of_ble_eq_true rfl) hlocks (fun t ha hsz hk => ⟨by rw [et]; decide, by rw [et], Nat.le_trans hS.1 hsz, fun q hq => (hk q (Nat.lt_of_lt_of_le hq hS.1)).trans (hS0 q hq)⟩) hS.2.2 (Nat.le_of_ble_eq_true rfl) (Nat.le_of_ble_eq_true rfl)
def t_vfaces (σ : Nat → Nat → Int32) (a0 : Int32) (a1 : Int32) : Int32 :=
  if (f_isWithin a0 (0 : Int32) (3 : Int32)) = 0 then
    1
  else
    0
def s_vfaces (σ : Nat → Nat → Int32) (a0 : Int32) (a1 : Int32) : Nat → Nat → Int32 :=
  if (f_isWithin a0 (0 : Int32) (3 : Int32)) = 0 then
    σ
  else
    (w2 (w2 (w2 σ 0 6 a0) 0 7 a1) 26 1 (0 : Int32))
set_option maxHeartbeats 800000 in
set_option maxRecDepth 100000 in
theorem c_vfaces (l : Launch) (hl9 : l.stackTraces = false) {D : va_G} {cs : Nat → ClassId} {ad : Nat → Nat} (hinj : gI ad) (σ : Nat → Nat → Int32) (τ : Nat → Nat → Int64) (sz : Nat) (a0 : Int32) (a1 : Int32) (hb1 : a1 = 0 ∨ a1 = 1) : vx_Met l yV_faces (wsB kV_faces) ({ frames := 6, cells := 1, slots := 6, locals := 90 } : Room) (va_Pc [.ref (ad 0), .int a0, .int a1] (gPX D cs ad σ τ sz)) (xQ (t_vfaces σ a0 a1) none (gB D cs ad (s_vfaces σ a0 a1) τ) (gA NC ad sz)) (xX (t_vfaces σ a0 a1) (fun _ => xA)) 1 6 (gA NC ad sz) := by
  refine vx_ofW (cc := cV_faces) (maxL := 3) (ret := none) (by decide) rfl ?_
  intro p e s m args below meth c s₁ B hml hEx hv
  obtain ⟨rfl, ⟨hsz, hP, hK⟩, hX⟩ := hv
  have hx := B.exec
  have hb := B.bytes
  have hr := B.returns
  have hts := atoms_spec (ws := wsB kV_faces) B.pre
  have ht := hbig hts
  have hown : s.vm.findClass RV = some m.cls := findClass_of_methodNamed B.named
  have hlocks := B.notSynchronized
  subst hsz
  have hD : ∀ σ τ, va_D (gA NC ad s.heap.size) (gW cs ad σ τ) := fun _ _ => gw_D hinj (fun i h => gA_ad h)
  have hS : va_S (gA NC ad s.heap.size) s.heap s.heap [] := va_S.rf
  have hS0 : ∀ q : Nat, q < s.heap.size → s.heap[q]? = s.heap[q]? := fun _ _ => rfl
  have hl := lv_entry ([.ref (ad 0), .int a0, .int a1]) (n := 3) (Nat.le_of_ble_eq_true rfl)
  rw [lg_entry_eq]
  generalize (lg_sl ([.ref (ad 0), .int a0, .int a1]) ++ List.replicate (3 - (lg_sl ([.ref (ad 0), .int a0, .int a1])).length) Slot.unset).toArray = ls at hl ⊢
  have hl : lv_has ls 3 [(0, .ref (ad 0)), (1, .int a0), (2, .int a1)] := hl
  refine lv_iload_n hx hb dV_faces_0 rfl (lv_at hl 1 rfl) ?_
  refine lv_iconst (v := 0) hx hb dV_faces_1 (by decide) ?_
  refine lv_iconst (v := 3) hx hb dV_faces_2 (by decide) ?_
  refine g_pure (v := .int (f_isWithin a0 (0 : Int32) (3 : Int32))) (va_runS (As := [.int a0, .int 0, .int 3]) (rest := []) ⟨hx, hb, hml, hown, hts⟩ (c_isWithin l a0 (0 : Int32) (3 : Int32)) (qS 3 ht tw_395 tw_396 tw_1 tk_V_isWithin rfl rfl (by decide +kernel) ⟨(Nat.le_of_ble_eq_true rfl), (Nat.le_of_ble_eq_true rfl)⟩) g_pt rfl rfl hl.1 rfl (lv_room (Nat.le_of_ble_eq_true rfl)) dV_faces_3 ⟨Nat.zero_le _, Nat.zero_le _⟩) ?_
  refine lv_if_ne (tgt := 19) hx hb dV_faces_6 (by decide) (fun c_1 => ?_) (fun c_1 => ?_)
  · refine lv_aload_n hx hb dV_faces_19 rfl (lv_at hl 0 rfl) ?_
    refine lv_iload_n hx hb dV_faces_20 rfl (lv_at hl 1 rfl) ?_
    refine g_put (ci := 0) (C := RV) (T := TV) (M := 8) (ty := .int) (x := a0) hx hb ht inV tyV tyV_ok nmV hown hK hP hD hS 0 (by decide) (fV ad) (fun r t => kV) rfl 6 (by decide) (ht _ tw_102) (fun _ h9 => h9) rfl (by decide +kernel) rfl rfl (Nat.le_of_ble_eq_true rfl) rfl dV_faces_21 (fun H locs hP hS => ?_)
    refine lv_aload_n hx hb dV_faces_24 rfl (lv_at hl 0 rfl) ?_
    refine lv_iload_n hx hb dV_faces_25 rfl (lv_at hl 2 rfl) ?_
    refine g_put (ci := 0) (C := RV) (T := TV) (M := 8) (ty := .boolean) (x := a1) hx hb ht inV tyV tyV_ok nmV hown hK hP hD hS 0 (by decide) (fV ad) (fun r t => kV) rfl 7 (by decide) (ht _ tw_103) (fun _ h9 => h9) rfl (by decide +kernel) (nar01 hb1) (fit01 hb1) (Nat.le_of_ble_eq_true rfl) rfl dV_faces_26 (fun H locs hP hS => ?_)
    refine lv_aload_n hx hb dV_faces_29 rfl (lv_at hl 0 rfl) ?_
    refine g_get (ci := 0) (C := RV) (T := TV) (M := 8) (v := .ref (ad 26)) hx hb ht inV hown hK hP 0 (by decide) kV rfl 4 (by decide) (ht _ tw_100) (fun _ h9 => h9) rfl dV_faces_30 ?_
    refine lv_iconst (v := 0) hx hb dV_faces_33 (by decide) ?_
    refine g_put (ci := 3) (C := RP) (T := TP) (M := 2) (ty := .int) (x := 0) hx hb ht inP tyP tyP_ok nmP hown hK hP hD hS 26 (isP_lt0 (Or.inr (Or.inr rfl))) (fP ad 26) (fun r t => (kP (Or.inr (Or.inr rfl)))) rfl 1 (by decide) (ht _ tw_63) (fun _ h9 => h9) rfl (by decide +kernel) rfl rfl (Nat.le_of_ble_eq_true rfl) rfl dV_faces_34 (fun H locs hP hS => ?_)
    have et : t_vfaces σ a0 a1 = 0 := by unfold t_vfaces; rw [if_neg c_1]
    have es : s_vfaces σ a0 a1 = (w2 (w2 (w2 σ 0 6 a0) 0 7 a1) 26 1 (0 : Int32)) := by unfold s_vfaces; rw [if_neg c_1]
    refine vx_ret ?_
    refine W.widen (k := 1) (n := 6) (Nat.le_of_ble_eq_true rfl) (Nat.le_of_ble_eq_true rfl) ?_
    exact W.vret hx hb hr (fun t ht9 hW => ⟨et, rfl, by show va_P D vwCl (gW cs ad (s_vfaces σ a0 a1) τ) t.heap; rw [ht9, es]; exact hP, hS.F ht9⟩) hS.2.2 dV_faces_37
  · have et : t_vfaces σ a0 a1 = 1 := by unfold t_vfaces; rw [if_pos c_1]
    obtain ⟨sa, hstr⟩ := hX.1 (128, "no such sides") (by decide +kernel)
    exact vx_throwS (own := RV) (cls := xA) (names := xN) hx hb hl9 hown (by decide +kernel) (by decide +kernel) (ht _ tw_290) (ht _ tw_11) hstr (fun w hw => ht w (xat_A w hw)) xgo_A hX.2.1 hX.2.2.1 hS (hl.1.trans hml.symm) dV_faces_9 dV_faces_12 dV_faces_13 dV_faces_15 dV_faces_18 (fun x hx9 => (hEx x hx9).elim) (Nat.le_of_ble_eq_true rfl) (Nat.le_of_ble_eq_true rfl) (Nat.le_of_ble_eq_true rfl) (Nat.le_of_ble_eq_true rfl) hlocks (fun t ha hsz hk => ⟨by rw [et]; decide, by rw [et], Nat.le_trans hS.1 hsz, fun q hq => (hk q (Nat.lt_of_lt_of_le hq hS.1)).trans (hS0 q hq)⟩) hS.2.2 (Nat.le_of_ble_eq_true rfl) (Nat.le_of_ble_eq_true rfl)
def t_vside (σ : Nat → Nat → Int32) (a0 : Int32) : Int32 :=
  if (f_isBelow a0 (f_fanOf (σ 26 1))) = 0 then
    1
  else
    if (lg_cmp (f_sizeOf σ 26 a0) 0) = 0 then
      0
    else
      if (lg_cmp (f_sizeOf σ 26 a0) 0) ≤ 0 then
        if (0 : Int32) = (σ 0 7) then
          if (f_isOut σ  (1 : Int32)) = 0 then
            0
          else
            0
        else
          if (f_isOut σ  (0 : Int32)) = 0 then
            0
          else
            0
      else
        if (1 : Int32) = (σ 0 7) then
          if (f_isOut σ  (1 : Int32)) = 0 then
            0
          else
            0
        else
          if (f_isOut σ  (0 : Int32)) = 0 then
            0
          else
            0
def f_vside (σ : Nat → Nat → Int32) (a0 : Int32) : Int32 :=
  if (f_isBelow a0 (f_fanOf (σ 26 1))) = 0 then
    0
  else
    if (lg_cmp (f_sizeOf σ 26 a0) 0) = 0 then
      (-1)
    else
      if (lg_cmp (f_sizeOf σ 26 a0) 0) ≤ 0 then
        if (0 : Int32) = (σ 0 7) then
          if (f_isOut σ  (1 : Int32)) = 0 then
            1
          else
            (-1)
        else
          if (f_isOut σ  (0 : Int32)) = 0 then
            0
          else
            (-1)
      else
        if (1 : Int32) = (σ 0 7) then
          if (f_isOut σ  (1 : Int32)) = 0 then
            1
          else
            (-1)
        else
          if (f_isOut σ  (0 : Int32)) = 0 then
            0
          else
            (-1)
def s_vside (σ : Nat → Nat → Int32) (a0 : Int32) : Nat → Nat → Int32 :=
  if (f_isBelow a0 (f_fanOf (σ 26 1))) = 0 then
    σ
  else
    if (lg_cmp (f_sizeOf σ 26 a0) 0) = 0 then
      σ
    else
      if (lg_cmp (f_sizeOf σ 26 a0) 0) ≤ 0 then
        if (0 : Int32) = (σ 0 7) then
          if (f_isOut σ  (1 : Int32)) = 0 then
            σ
          else
            σ
        else
          if (f_isOut σ  (0 : Int32)) = 0 then
            σ
          else
            σ
      else
        if (1 : Int32) = (σ 0 7) then
          if (f_isOut σ  (1 : Int32)) = 0 then
            σ
          else
            σ
        else
          if (f_isOut σ  (0 : Int32)) = 0 then
            σ
          else
            σ
set_option maxHeartbeats 800000 in
set_option maxRecDepth 100000 in
theorem c_vside (l : Launch) (hl9 : l.stackTraces = false) {D : va_G} {cs : Nat → ClassId} {ad : Nat → Nat} (hinj : gI ad) (σ : Nat → Nat → Int32) (τ : Nat → Nat → Int64) (sz : Nat) (a0 : Int32) (hmd : rng (σ 26 1)) : vx_Met l yV_side (wsB kV_side) ({ frames := 6, cells := 1, slots := 6, locals := 90 } : Room) (va_Pc [.ref (ad 0), .int a0] (gPX D cs ad σ τ sz)) (xQ (t_vside σ a0) (some (.int (f_vside σ a0))) (gB D cs ad (s_vside σ a0) τ) (gA NC ad sz)) (xX (t_vside σ a0) (fun _ => xI)) 1 6 (gA NC ad sz) := by
  refine vx_ofW (cc := cV_side) (maxL := 5) (ret := (some .int)) (by decide) rfl ?_
  intro p e s m args below meth c s₁ B hml hEx hv
  obtain ⟨rfl, ⟨hsz, hP, hK⟩, hX⟩ := hv
  have hx := B.exec
  have hb := B.bytes
  have hr := B.returns
  have hts := atoms_spec (ws := wsB kV_side) B.pre
  have ht := hbig hts
  have hown : s.vm.findClass RV = some m.cls := findClass_of_methodNamed B.named
  have hlocks := B.notSynchronized
  subst hsz
  have hD : ∀ σ τ, va_D (gA NC ad s.heap.size) (gW cs ad σ τ) := fun _ _ => gw_D hinj (fun i h => gA_ad h)
  have hS : va_S (gA NC ad s.heap.size) s.heap s.heap [] := va_S.rf
  have hS0 : ∀ q : Nat, q < s.heap.size → s.heap[q]? = s.heap[q]? := fun _ _ => rfl
  have hl := lv_entry ([.ref (ad 0), .int a0]) (n := 5) (Nat.le_of_ble_eq_true rfl)
  rw [lg_entry_eq]
  generalize (lg_sl ([.ref (ad 0), .int a0]) ++ List.replicate (5 - (lg_sl ([.ref (ad 0), .int a0])).length) Slot.unset).toArray = ls at hl ⊢
  have hl : lv_has ls 5 [(0, .ref (ad 0)), (1, .int a0)] := hl
  refine lv_iload_n hx hb dV_side_0 rfl (lv_at hl 1 rfl) ?_
  refine lv_aload_n hx hb dV_side_1 rfl (lv_at hl 0 rfl) ?_
  refine g_get (ci := 0) (C := RV) (T := TV) (M := 8) (v := .ref (ad 26)) hx hb ht inV hown hK hP 0 (by decide) kV rfl 4 (by decide) (ht _ tw_100) (fun _ h9 => h9) rfl dV_side_2 ?_
  refine g_get (ci := 3) (C := RP) (T := TP) (M := 2) (v := .int (σ 26 1)) hx hb ht inP hown hK hP 26 (isP_lt0 (Or.inr (Or.inr rfl))) (kP (Or.inr (Or.inr rfl))) rfl 1 (by decide) (ht _ tw_63) (fun _ h9 => h9) rfl dV_side_5 ?_
  refine g_pure (v := .int (f_fanOf (σ 26 1))) (va_runS (As := [.int (σ 26 1)]) (rest := [.int a0]) ⟨hx, hb, hml, hown, hts⟩ (c_fanOf l (σ 26 1)) (qS 1 ht tw_191 tw_192 tw_1 tk_V_fanOf rfl rfl (by decide +kernel) ⟨(Nat.le_of_ble_eq_true rfl), (Nat.le_of_ble_eq_true rfl)⟩) g_pt rfl rfl hl.1 rfl (lv_room (Nat.le_of_ble_eq_true rfl)) dV_side_8 ⟨Nat.zero_le _, Nat.zero_le _⟩) ?_
  refine g_pure (v := .int (f_isBelow a0 (f_fanOf (σ 26 1)))) (va_runS (As := [.int a0, .int (f_fanOf (σ 26 1))]) (rest := []) ⟨hx, hb, hml, hown, hts⟩ (c_isBelow l a0 (f_fanOf (σ 26 1))) (qS 2 ht tw_202 tw_203 tw_1 tk_V_isBelow rfl rfl (by decide +kernel) ⟨(Nat.le_of_ble_eq_true rfl), (Nat.le_of_ble_eq_true rfl)⟩) g_pt rfl rfl hl.1 rfl (lv_room (Nat.le_of_ble_eq_true rfl)) dV_side_11 ⟨Nat.zero_le _, Nat.zero_le _⟩) ?_
  refine lv_if_ne (tgt := 27) hx hb dV_side_14 (by decide) (fun c_1 => ?_) (fun c_1 => ?_)
  · refine lv_aload_n hx hb dV_side_27 rfl (lv_at hl 0 rfl) ?_
    refine g_get (ci := 0) (C := RV) (T := TV) (M := 8) (v := .ref (ad 26)) hx hb ht inV hown hK hP 0 (by decide) kV rfl 4 (by decide) (ht _ tw_100) (fun _ h9 => h9) rfl dV_side_28 ?_
    refine lv_iload_n hx hb dV_side_31 rfl (lv_at hl 1 rfl) ?_
    refine g_pure (v := .long (f_sizeOf σ 26 a0)) (va_runV (C := RP) (As := [.int a0]) (rest := []) ⟨hx, hb, hml, hown, hts⟩ (c_sizeOf l hinj σ τ _ 26 a0 (Or.inr (Or.inr rfl)) (fan_b c_1 hmd)) (qV 1 ht tw_422 tw_423 tw_424 tw_4 tk_P_sizeOf rfl rfl (by decide +kernel) ⟨(Nat.le_of_ble_eq_true rfl), (Nat.le_of_ble_eq_true rfl)⟩) (g_pv (ci := 3) hK hP (isP_lt0 (Or.inr (Or.inr rfl))) rfl (kP (Or.inr (Or.inr rfl))) rfl) rfl rfl hl.1 rfl (lv_room (Nat.le_of_ble_eq_true rfl)) dV_side_32 ⟨Nat.zero_le _, Nat.zero_le _⟩) ?_
    refine lv_lstore_n (lv' := [(2, .long (f_sizeOf σ 26 a0)), (0, .ref (ad 0)), (1, .int a0)]) hx hb dV_side_35 rfl hl (by decide) rfl (fun ls hl => ?_)
    refine lv_lload_n hx hb dV_side_36 rfl (lv_at hl 0 rfl) ?_
    refine lv_lconst (v := 0) hx hb dV_side_37 (by decide) ?_
    refine W.lcmp hx hb dV_side_38 ?_
    refine lv_if_ne (tgt := 44) hx hb dV_side_39 (by decide) (fun c_2 => ?_) (fun c_2 => ?_)
    · refine lv_lload_n hx hb dV_side_44 rfl (lv_at hl 0 rfl) ?_
      refine lv_lconst (v := 0) hx hb dV_side_45 (by decide) ?_
      refine W.lcmp hx hb dV_side_46 ?_
      refine lv_if_le (tgt := 54) hx hb dV_side_47 (by decide) (fun c_3 => ?_) (fun c_3 => ?_)
      · refine lv_iconst (v := 0) hx hb dV_side_54 (by decide) ?_
        refine lv_aload_n hx hb dV_side_55 rfl (lv_at hl 1 rfl) ?_
        refine g_get (ci := 0) (C := RV) (T := TV) (M := 8) (v := .int (σ 0 7)) hx hb ht inV hown hK hP 0 (by decide) kV rfl 7 (by decide) (ht _ tw_103) (fun _ h9 => h9) rfl dV_side_56 ?_
        refine lv_icmp_eq (tgt := 66) hx hb dV_side_59 (by decide) (fun c_4 => ?_) (fun c_4 => ?_)
        · refine lv_iconst (v := 1) hx hb dV_side_66 (by decide) ?_
          refine lv_istore (lv' := [(4, .int 1), (2, .long (f_sizeOf σ 26 a0)), (0, .ref (ad 0)), (1, .int a0)]) hx hb dV_side_67 hl (by decide) rfl (fun ls hl => ?_)
          refine lv_aload_n hx hb dV_side_69 rfl (lv_at hl 2 rfl) ?_
          refine lv_iload hx hb dV_side_70 (lv_at hl 0 rfl) ?_
          refine g_pure (v := .int (f_isOut σ  (1 : Int32))) (va_runV (C := RV) (As := [.int 1]) (rest := []) ⟨hx, hb, hml, hown, hts⟩ (c_isOut l hinj σ τ _  (1 : Int32) ) (qV 1 ht tw_426 tw_428 ts_V_isOut tw_1 tk_V_isOut rfl rfl (by decide +kernel) ⟨(Nat.le_of_ble_eq_true rfl), (Nat.le_of_ble_eq_true rfl)⟩) (g_pv (ci := 0) hK hP (by decide) rfl kV rfl) rfl rfl hl.1 rfl (lv_room (Nat.le_of_ble_eq_true rfl)) dV_side_72 ⟨Nat.zero_le _, Nat.zero_le _⟩) ?_
          refine lv_if_eq (tgt := 82) hx hb dV_side_75 (by decide) (fun c_5 => ?_) (fun c_5 => ?_)
          · refine lv_iload hx hb dV_side_82 (lv_at hl 0 rfl) ?_
            have et : t_vside σ a0 = 0 := by unfold t_vside; rw [if_neg c_1, if_neg c_2, if_pos c_3, if_pos c_4, if_pos c_5]
            have ev : f_vside σ a0 = 1 := by unfold f_vside; rw [if_neg c_1, if_neg c_2, if_pos c_3, if_pos c_4, if_pos c_5]
            have es : s_vside σ a0 = σ := by unfold s_vside; rw [if_neg c_1, if_neg c_2, if_pos c_3, if_pos c_4, if_pos c_5]
            refine vx_ret ?_
            refine W.widen (k := 1) (n := 6) (Nat.le_of_ble_eq_true rfl) (Nat.le_of_ble_eq_true rfl) ?_
            exact W.iret (v := 1) hx hb hr (fun t ht9 hW => ⟨et, by rw [ev], by show va_P D vwCl (gW cs ad (s_vside σ a0) τ) t.heap; rw [ht9, es]; exact hP, hS.F ht9⟩) hS.2.2 dV_side_84
          · refine lv_iconst (v := (-1)) hx hb dV_side_78 (by decide) ?_
            refine lv_goto (tgt := 84) hx hb dV_side_79 (by decide) ?_
            have et : t_vside σ a0 = 0 := by unfold t_vside; rw [if_neg c_1, if_neg c_2, if_pos c_3, if_pos c_4, if_neg c_5]
            have ev : f_vside σ a0 = (-1) := by unfold f_vside; rw [if_neg c_1, if_neg c_2, if_pos c_3, if_pos c_4, if_neg c_5]
            have es : s_vside σ a0 = σ := by unfold s_vside; rw [if_neg c_1, if_neg c_2, if_pos c_3, if_pos c_4, if_neg c_5]
            refine vx_ret ?_
            refine W.widen (k := 1) (n := 6) (Nat.le_of_ble_eq_true rfl) (Nat.le_of_ble_eq_true rfl) ?_
            exact W.iret (v := (-1)) hx hb hr (fun t ht9 hW => ⟨et, by rw [ev], by show va_P D vwCl (gW cs ad (s_vside σ a0) τ) t.heap; rw [ht9, es]; exact hP, hS.F ht9⟩) hS.2.2 dV_side_84
        · refine lv_iconst (v := 0) hx hb dV_side_62 (by decide) ?_
          refine lv_goto (tgt := 67) hx hb dV_side_63 (by decide) ?_
          refine lv_istore (lv' := [(4, .int 0), (2, .long (f_sizeOf σ 26 a0)), (0, .ref (ad 0)), (1, .int a0)]) hx hb dV_side_67 hl (by decide) rfl (fun ls hl => ?_)
          refine lv_aload_n hx hb dV_side_69 rfl (lv_at hl 2 rfl) ?_
          refine lv_iload hx hb dV_side_70 (lv_at hl 0 rfl) ?_
          refine g_pure (v := .int (f_isOut σ  (0 : Int32))) (va_runV (C := RV) (As := [.int 0]) (rest := []) ⟨hx, hb, hml, hown, hts⟩ (c_isOut l hinj σ τ _  (0 : Int32) ) (qV 1 ht tw_426 tw_428 ts_V_isOut tw_1 tk_V_isOut rfl rfl (by decide +kernel) ⟨(Nat.le_of_ble_eq_true rfl), (Nat.le_of_ble_eq_true rfl)⟩) (g_pv (ci := 0) hK hP (by decide) rfl kV rfl) rfl rfl hl.1 rfl (lv_room (Nat.le_of_ble_eq_true rfl)) dV_side_72 ⟨Nat.zero_le _, Nat.zero_le _⟩) ?_
          refine lv_if_eq (tgt := 82) hx hb dV_side_75 (by decide) (fun c_6 => ?_) (fun c_6 => ?_)
          · refine lv_iload hx hb dV_side_82 (lv_at hl 0 rfl) ?_
            have et : t_vside σ a0 = 0 := by unfold t_vside; rw [if_neg c_1, if_neg c_2, if_pos c_3, if_neg c_4, if_pos c_6]
            have ev : f_vside σ a0 = 0 := by unfold f_vside; rw [if_neg c_1, if_neg c_2, if_pos c_3, if_neg c_4, if_pos c_6]
            have es : s_vside σ a0 = σ := by unfold s_vside; rw [if_neg c_1, if_neg c_2, if_pos c_3, if_neg c_4, if_pos c_6]
            refine vx_ret ?_
            refine W.widen (k := 1) (n := 6) (Nat.le_of_ble_eq_true rfl) (Nat.le_of_ble_eq_true rfl) ?_
            exact W.iret (v := 0) hx hb hr (fun t ht9 hW => ⟨et, by rw [ev], by show va_P D vwCl (gW cs ad (s_vside σ a0) τ) t.heap; rw [ht9, es]; exact hP, hS.F ht9⟩) hS.2.2 dV_side_84
          · refine lv_iconst (v := (-1)) hx hb dV_side_78 (by decide) ?_
            refine lv_goto (tgt := 84) hx hb dV_side_79 (by decide) ?_
            have et : t_vside σ a0 = 0 := by unfold t_vside; rw [if_neg c_1, if_neg c_2, if_pos c_3, if_neg c_4, if_neg c_6]
            have ev : f_vside σ a0 = (-1) := by unfold f_vside; rw [if_neg c_1, if_neg c_2, if_pos c_3, if_neg c_4, if_neg c_6]
            have es : s_vside σ a0 = σ := by unfold s_vside; rw [if_neg c_1, if_neg c_2, if_pos c_3, if_neg c_4, if_neg c_6]
            refine vx_ret ?_
            refine W.widen (k := 1) (n := 6) (Nat.le_of_ble_eq_true rfl) (Nat.le_of_ble_eq_true rfl) ?_
            exact W.iret (v := (-1)) hx hb hr (fun t ht9 hW => ⟨et, by rw [ev], by show va_P D vwCl (gW cs ad (s_vside σ a0) τ) t.heap; rw [ht9, es]; exact hP, hS.F ht9⟩) hS.2.2 dV_side_84
      · refine lv_iconst (v := 1) hx hb dV_side_50 (by decide) ?_
        refine lv_goto (tgt := 55) hx hb dV_side_51 (by decide) ?_
        refine lv_aload_n hx hb dV_side_55 rfl (lv_at hl 1 rfl) ?_
        refine g_get (ci := 0) (C := RV) (T := TV) (M := 8) (v := .int (σ 0 7)) hx hb ht inV hown hK hP 0 (by decide) kV rfl 7 (by decide) (ht _ tw_103) (fun _ h9 => h9) rfl dV_side_56 ?_
        refine lv_icmp_eq (tgt := 66) hx hb dV_side_59 (by decide) (fun c_7 => ?_) (fun c_7 => ?_)
        · refine lv_iconst (v := 1) hx hb dV_side_66 (by decide) ?_
          refine lv_istore (lv' := [(4, .int 1), (2, .long (f_sizeOf σ 26 a0)), (0, .ref (ad 0)), (1, .int a0)]) hx hb dV_side_67 hl (by decide) rfl (fun ls hl => ?_)
          refine lv_aload_n hx hb dV_side_69 rfl (lv_at hl 2 rfl) ?_
          refine lv_iload hx hb dV_side_70 (lv_at hl 0 rfl) ?_
          refine g_pure (v := .int (f_isOut σ  (1 : Int32))) (va_runV (C := RV) (As := [.int 1]) (rest := []) ⟨hx, hb, hml, hown, hts⟩ (c_isOut l hinj σ τ _  (1 : Int32) ) (qV 1 ht tw_426 tw_428 ts_V_isOut tw_1 tk_V_isOut rfl rfl (by decide +kernel) ⟨(Nat.le_of_ble_eq_true rfl), (Nat.le_of_ble_eq_true rfl)⟩) (g_pv (ci := 0) hK hP (by decide) rfl kV rfl) rfl rfl hl.1 rfl (lv_room (Nat.le_of_ble_eq_true rfl)) dV_side_72 ⟨Nat.zero_le _, Nat.zero_le _⟩) ?_
          refine lv_if_eq (tgt := 82) hx hb dV_side_75 (by decide) (fun c_8 => ?_) (fun c_8 => ?_)
          · refine lv_iload hx hb dV_side_82 (lv_at hl 0 rfl) ?_
            have et : t_vside σ a0 = 0 := by unfold t_vside; rw [if_neg c_1, if_neg c_2, if_neg c_3, if_pos c_7, if_pos c_8]
            have ev : f_vside σ a0 = 1 := by unfold f_vside; rw [if_neg c_1, if_neg c_2, if_neg c_3, if_pos c_7, if_pos c_8]
            have es : s_vside σ a0 = σ := by unfold s_vside; rw [if_neg c_1, if_neg c_2, if_neg c_3, if_pos c_7, if_pos c_8]
            refine vx_ret ?_
            refine W.widen (k := 1) (n := 6) (Nat.le_of_ble_eq_true rfl) (Nat.le_of_ble_eq_true rfl) ?_
            exact W.iret (v := 1) hx hb hr (fun t ht9 hW => ⟨et, by rw [ev], by show va_P D vwCl (gW cs ad (s_vside σ a0) τ) t.heap; rw [ht9, es]; exact hP, hS.F ht9⟩) hS.2.2 dV_side_84
          · refine lv_iconst (v := (-1)) hx hb dV_side_78 (by decide) ?_
            refine lv_goto (tgt := 84) hx hb dV_side_79 (by decide) ?_
            have et : t_vside σ a0 = 0 := by unfold t_vside; rw [if_neg c_1, if_neg c_2, if_neg c_3, if_pos c_7, if_neg c_8]
            have ev : f_vside σ a0 = (-1) := by unfold f_vside; rw [if_neg c_1, if_neg c_2, if_neg c_3, if_pos c_7, if_neg c_8]
            have es : s_vside σ a0 = σ := by unfold s_vside; rw [if_neg c_1, if_neg c_2, if_neg c_3, if_pos c_7, if_neg c_8]
            refine vx_ret ?_
            refine W.widen (k := 1) (n := 6) (Nat.le_of_ble_eq_true rfl) (Nat.le_of_ble_eq_true rfl) ?_
            exact W.iret (v := (-1)) hx hb hr (fun t ht9 hW => ⟨et, by rw [ev], by show va_P D vwCl (gW cs ad (s_vside σ a0) τ) t.heap; rw [ht9, es]; exact hP, hS.F ht9⟩) hS.2.2 dV_side_84
        · refine lv_iconst (v := 0) hx hb dV_side_62 (by decide) ?_
          refine lv_goto (tgt := 67) hx hb dV_side_63 (by decide) ?_
          refine lv_istore (lv' := [(4, .int 0), (2, .long (f_sizeOf σ 26 a0)), (0, .ref (ad 0)), (1, .int a0)]) hx hb dV_side_67 hl (by decide) rfl (fun ls hl => ?_)
          refine lv_aload_n hx hb dV_side_69 rfl (lv_at hl 2 rfl) ?_
          refine lv_iload hx hb dV_side_70 (lv_at hl 0 rfl) ?_
          refine g_pure (v := .int (f_isOut σ  (0 : Int32))) (va_runV (C := RV) (As := [.int 0]) (rest := []) ⟨hx, hb, hml, hown, hts⟩ (c_isOut l hinj σ τ _  (0 : Int32) ) (qV 1 ht tw_426 tw_428 ts_V_isOut tw_1 tk_V_isOut rfl rfl (by decide +kernel) ⟨(Nat.le_of_ble_eq_true rfl), (Nat.le_of_ble_eq_true rfl)⟩) (g_pv (ci := 0) hK hP (by decide) rfl kV rfl) rfl rfl hl.1 rfl (lv_room (Nat.le_of_ble_eq_true rfl)) dV_side_72 ⟨Nat.zero_le _, Nat.zero_le _⟩) ?_
          refine lv_if_eq (tgt := 82) hx hb dV_side_75 (by decide) (fun c_9 => ?_) (fun c_9 => ?_)
          · refine lv_iload hx hb dV_side_82 (lv_at hl 0 rfl) ?_
            have et : t_vside σ a0 = 0 := by unfold t_vside; rw [if_neg c_1, if_neg c_2, if_neg c_3, if_neg c_7, if_pos c_9]
            have ev : f_vside σ a0 = 0 := by unfold f_vside; rw [if_neg c_1, if_neg c_2, if_neg c_3, if_neg c_7, if_pos c_9]
            have es : s_vside σ a0 = σ := by unfold s_vside; rw [if_neg c_1, if_neg c_2, if_neg c_3, if_neg c_7, if_pos c_9]
            refine vx_ret ?_
            refine W.widen (k := 1) (n := 6) (Nat.le_of_ble_eq_true rfl) (Nat.le_of_ble_eq_true rfl) ?_
            exact W.iret (v := 0) hx hb hr (fun t ht9 hW => ⟨et, by rw [ev], by show va_P D vwCl (gW cs ad (s_vside σ a0) τ) t.heap; rw [ht9, es]; exact hP, hS.F ht9⟩) hS.2.2 dV_side_84
          · refine lv_iconst (v := (-1)) hx hb dV_side_78 (by decide) ?_
            refine lv_goto (tgt := 84) hx hb dV_side_79 (by decide) ?_
            have et : t_vside σ a0 = 0 := by unfold t_vside; rw [if_neg c_1, if_neg c_2, if_neg c_3, if_neg c_7, if_neg c_9]
            have ev : f_vside σ a0 = (-1) := by unfold f_vside; rw [if_neg c_1, if_neg c_2, if_neg c_3, if_neg c_7, if_neg c_9]
            have es : s_vside σ a0 = σ := by unfold s_vside; rw [if_neg c_1, if_neg c_2, if_neg c_3, if_neg c_7, if_neg c_9]
            refine vx_ret ?_
            refine W.widen (k := 1) (n := 6) (Nat.le_of_ble_eq_true rfl) (Nat.le_of_ble_eq_true rfl) ?_
            exact W.iret (v := (-1)) hx hb hr (fun t ht9 hW => ⟨et, by rw [ev], by show va_P D vwCl (gW cs ad (s_vside σ a0) τ) t.heap; rw [ht9, es]; exact hP, hS.F ht9⟩) hS.2.2 dV_side_84
    · refine lv_iconst (v := (-1)) hx hb dV_side_42 (by decide) ?_
      have et : t_vside σ a0 = 0 := by unfold t_vside; rw [if_neg c_1, if_pos c_2]
      have ev : f_vside σ a0 = (-1) := by unfold f_vside; rw [if_neg c_1, if_pos c_2]
      have es : s_vside σ a0 = σ := by unfold s_vside; rw [if_neg c_1, if_pos c_2]
      refine vx_ret ?_
      refine W.widen (k := 1) (n := 6) (Nat.le_of_ble_eq_true rfl) (Nat.le_of_ble_eq_true rfl) ?_
      exact W.iret (v := (-1)) hx hb hr (fun t ht9 hW => ⟨et, by rw [ev], by show va_P D vwCl (gW cs ad (s_vside σ a0) τ) t.heap; rw [ht9, es]; exact hP, hS.F ht9⟩) hS.2.2 dV_side_43
  · have et : t_vside σ a0 = 1 := by unfold t_vside; rw [if_pos c_1]
    obtain ⟨sa, hstr⟩ := hX.1 (149, "no such triangle") (by decide +kernel)
    exact vx_throwS (own := RV) (cls := xI) (names := xN) hx hb hl9 hown (by decide +kernel) (by decide +kernel) (ht _ tw_205) (ht _ tw_10) hstr (fun w hw => ht w (xat_I w hw)) xgo_I hX.2.1 hX.2.2.1 hS (hl.1.trans hml.symm) dV_side_17 dV_side_20 dV_side_21 dV_side_23 dV_side_26 (fun x hx9 => (hEx x hx9).elim) (Nat.le_of_ble_eq_true rfl) (Nat.le_of_ble_eq_true rfl) (Nat.le_of_ble_eq_true rfl) (Nat.le_of_ble_eq_true rfl) hlocks (fun t ha hsz hk => ⟨by rw [et]; decide, by rw [et], Nat.le_trans hS.1 hsz, fun q hq => (hk q (Nat.lt_of_lt_of_le hq hS.1)).trans (hS0 q hq)⟩) hS.2.2 (Nat.le_of_ble_eq_true rfl) (Nat.le_of_ble_eq_true rfl)
def t_vgot (σ : Nat → Nat → Int32) (a0 : Int32) (a1 : Int32) (a2 : Int32) : Int32 :=
  if (f_isBelow a0 (f_fanOf (σ 26 1))) = 0 then
    1
  else
    if (f_isBelow a1 (3 : Int32)) = 0 then
      2
    else
      if (f_isBelow a2 (32 : Int32)) = 0 then
        2
      else
        0
def f_vgot (σ : Nat → Nat → Int32) (a0 : Int32) (a1 : Int32) (a2 : Int32) : Int32 :=
  if (f_isBelow a0 (f_fanOf (σ 26 1))) = 0 then
    0
  else
    if (f_isBelow a1 (3 : Int32)) = 0 then
      0
    else
      if (f_isBelow a2 (32 : Int32)) = 0 then
        0
      else
        (σ (26 + 2 + (f_fanCorner a0 a1).toNatClampNeg) a2.toNatClampNeg)
def s_vgot (σ : Nat → Nat → Int32) (a0 : Int32) (a1 : Int32) (a2 : Int32) : Nat → Nat → Int32 :=
  if (f_isBelow a0 (f_fanOf (σ 26 1))) = 0 then
    σ
  else
    if (f_isBelow a1 (3 : Int32)) = 0 then
      σ
    else
      if (f_isBelow a2 (32 : Int32)) = 0 then
        σ
      else
        σ
set_option maxHeartbeats 800000 in
set_option maxRecDepth 100000 in
theorem c_vgot (l : Launch) (hl9 : l.stackTraces = false) {D : va_G} {cs : Nat → ClassId} {ad : Nat → Nat} (hinj : gI ad) (σ : Nat → Nat → Int32) (τ : Nat → Nat → Int64) (sz : Nat) (a0 : Int32) (a1 : Int32) (a2 : Int32) (hmd : rng (σ 26 1)) : vx_Met l yV_got (wsB kV_got) ({ frames := 6, cells := 1, slots := 6, locals := 90 } : Room) (va_Pc [.ref (ad 0), .int a0, .int a1, .int a2] (gPX D cs ad σ τ sz)) (xQ (t_vgot σ a0 a1 a2) (some (.int (f_vgot σ a0 a1 a2))) (gB D cs ad (s_vgot σ a0 a1 a2) τ) (gA NC ad sz)) (xX (t_vgot σ a0 a1 a2) (fun z => if z = 1 then xI else xA)) 1 6 (gA NC ad sz) := by
  refine vx_ofW (cc := cV_got) (maxL := 4) (ret := (some .int)) (by decide) rfl ?_
  intro p e s m args below meth c s₁ B hml hEx hv
  obtain ⟨rfl, ⟨hsz, hP, hK⟩, hX⟩ := hv
  have hx := B.exec
  have hb := B.bytes
  have hr := B.returns
  have hts := atoms_spec (ws := wsB kV_got) B.pre
  have ht := hbig hts
  have hown : s.vm.findClass RV = some m.cls := findClass_of_methodNamed B.named
  have hlocks := B.notSynchronized
  subst hsz
  have hD : ∀ σ τ, va_D (gA NC ad s.heap.size) (gW cs ad σ τ) := fun _ _ => gw_D hinj (fun i h => gA_ad h)
  have hS : va_S (gA NC ad s.heap.size) s.heap s.heap [] := va_S.rf
  have hS0 : ∀ q : Nat, q < s.heap.size → s.heap[q]? = s.heap[q]? := fun _ _ => rfl
  have hl := lv_entry ([.ref (ad 0), .int a0, .int a1, .int a2]) (n := 4) (Nat.le_of_ble_eq_true rfl)
  rw [lg_entry_eq]
  generalize (lg_sl ([.ref (ad 0), .int a0, .int a1, .int a2]) ++ List.replicate (4 - (lg_sl ([.ref (ad 0), .int a0, .int a1, .int a2])).length) Slot.unset).toArray = ls at hl ⊢
  have hl : lv_has ls 4 [(0, .ref (ad 0)), (1, .int a0), (2, .int a1), (3, .int a2)] := hl
  refine lv_iload_n hx hb dV_got_0 rfl (lv_at hl 1 rfl) ?_
  refine lv_aload_n hx hb dV_got_1 rfl (lv_at hl 0 rfl) ?_
  refine g_get (ci := 0) (C := RV) (T := TV) (M := 8) (v := .ref (ad 26)) hx hb ht inV hown hK hP 0 (by decide) kV rfl 4 (by decide) (ht _ tw_100) (fun _ h9 => h9) rfl dV_got_2 ?_
  refine g_get (ci := 3) (C := RP) (T := TP) (M := 2) (v := .int (σ 26 1)) hx hb ht inP hown hK hP 26 (isP_lt0 (Or.inr (Or.inr rfl))) (kP (Or.inr (Or.inr rfl))) rfl 1 (by decide) (ht _ tw_63) (fun _ h9 => h9) rfl dV_got_5 ?_
  refine g_pure (v := .int (f_fanOf (σ 26 1))) (va_runS (As := [.int (σ 26 1)]) (rest := [.int a0]) ⟨hx, hb, hml, hown, hts⟩ (c_fanOf l (σ 26 1)) (qS 1 ht tw_191 tw_192 tw_1 tk_V_fanOf rfl rfl (by decide +kernel) ⟨(Nat.le_of_ble_eq_true rfl), (Nat.le_of_ble_eq_true rfl)⟩) g_pt rfl rfl hl.1 rfl (lv_room (Nat.le_of_ble_eq_true rfl)) dV_got_8 ⟨Nat.zero_le _, Nat.zero_le _⟩) ?_
  refine g_pure (v := .int (f_isBelow a0 (f_fanOf (σ 26 1)))) (va_runS (As := [.int a0, .int (f_fanOf (σ 26 1))]) (rest := []) ⟨hx, hb, hml, hown, hts⟩ (c_isBelow l a0 (f_fanOf (σ 26 1))) (qS 2 ht tw_202 tw_203 tw_1 tk_V_isBelow rfl rfl (by decide +kernel) ⟨(Nat.le_of_ble_eq_true rfl), (Nat.le_of_ble_eq_true rfl)⟩) g_pt rfl rfl hl.1 rfl (lv_room (Nat.le_of_ble_eq_true rfl)) dV_got_11 ⟨Nat.zero_le _, Nat.zero_le _⟩) ?_
  refine lv_if_ne (tgt := 27) hx hb dV_got_14 (by decide) (fun c_1 => ?_) (fun c_1 => ?_)
  · refine lv_iload_n hx hb dV_got_27 rfl (lv_at hl 2 rfl) ?_
    refine lv_iconst (v := 3) hx hb dV_got_28 (by decide) ?_
    refine g_pure (v := .int (f_isBelow a1 (3 : Int32))) (va_runS (As := [.int a1, .int 3]) (rest := []) ⟨hx, hb, hml, hown, hts⟩ (c_isBelow l a1 (3 : Int32)) (qS 2 ht tw_202 tw_203 tw_1 tk_V_isBelow rfl rfl (by decide +kernel) ⟨(Nat.le_of_ble_eq_true rfl), (Nat.le_of_ble_eq_true rfl)⟩) g_pt rfl rfl hl.1 rfl (lv_room (Nat.le_of_ble_eq_true rfl)) dV_got_29 ⟨Nat.zero_le _, Nat.zero_le _⟩) ?_
    refine lv_if_eq (tgt := 44) hx hb dV_got_32 (by decide) (fun c_2 => ?_) (fun c_2 => ?_)
    · have et : t_vgot σ a0 a1 a2 = 2 := by unfold t_vgot; rw [if_neg c_1, if_pos c_2]
      obtain ⟨sa, hstr⟩ := hX.1 (159, "no such corner or number") (by decide +kernel)
      exact vx_throwS (own := RV) (cls := xA) (names := xN) hx hb hl9 hown (by decide +kernel) (by decide +kernel) (ht _ tw_290) (ht _ tw_11) hstr (fun w hw => ht w (xat_A w hw)) xgo_A hX.2.1 hX.2.2.1 hS (hl.1.trans hml.symm) dV_got_44 dV_got_47 dV_got_48 dV_got_50 dV_got_53 (fun x hx9 => (hEx x hx9).elim) (Nat.le_of_ble_eq_true rfl) (Nat.le_of_ble_eq_true rfl) (Nat.le_of_ble_eq_true rfl) (Nat.le_of_ble_eq_true rfl) hlocks (fun t ha hsz hk => ⟨by rw [et]; decide, by rw [et]; rfl, Nat.le_trans hS.1 hsz, fun q hq => (hk q (Nat.lt_of_lt_of_le hq hS.1)).trans (hS0 q hq)⟩) hS.2.2 (Nat.le_of_ble_eq_true rfl) (Nat.le_of_ble_eq_true rfl)
    · refine lv_iload_n hx hb dV_got_35 rfl (lv_at hl 3 rfl) ?_
      refine lv_bipush (v := 32) hx hb dV_got_36 (by decide) ?_
      refine g_pure (v := .int (f_isBelow a2 (32 : Int32))) (va_runS (As := [.int a2, .int 32]) (rest := []) ⟨hx, hb, hml, hown, hts⟩ (c_isBelow l a2 (32 : Int32)) (qS 2 ht tw_202 tw_203 tw_1 tk_V_isBelow rfl rfl (by decide +kernel) ⟨(Nat.le_of_ble_eq_true rfl), (Nat.le_of_ble_eq_true rfl)⟩) g_pt rfl rfl hl.1 rfl (lv_room (Nat.le_of_ble_eq_true rfl)) dV_got_38 ⟨Nat.zero_le _, Nat.zero_le _⟩) ?_
      refine lv_if_ne (tgt := 54) hx hb dV_got_41 (by decide) (fun c_3 => ?_) (fun c_3 => ?_)
      · refine lv_aload_n hx hb dV_got_54 rfl (lv_at hl 0 rfl) ?_
        refine g_get (ci := 0) (C := RV) (T := TV) (M := 8) (v := .ref (ad 26)) hx hb ht inV hown hK hP 0 (by decide) kV rfl 4 (by decide) (ht _ tw_100) (fun _ h9 => h9) rfl dV_got_55 ?_
        refine g_get (ci := 3) (C := RP) (T := TP) (M := 2) (v := .ref (ad (26 + 1))) hx hb ht inP hown hK hP 26 (isP_lt0 (Or.inr (Or.inr rfl))) (kP (Or.inr (Or.inr rfl))) rfl 0 (by decide) (ht _ tw_62) (fun _ h9 => h9) rfl dV_got_58 ?_
        refine lv_iload_n hx hb dV_got_61 rfl (lv_at hl 1 rfl) ?_
        refine lv_iload_n hx hb dV_got_62 rfl (lv_at hl 2 rfl) ?_
        refine g_pure (v := .int (f_fanCorner a0 a1)) (va_runS (As := [.int a0, .int a1]) (rest := [.ref (ad (26 + 1))]) ⟨hx, hb, hml, hown, hts⟩ (c_fanCorner l a0 a1) (qS 2 ht tw_365 tw_366 tw_1 tk_V_fanCorner rfl rfl (by decide +kernel) ⟨(Nat.le_of_ble_eq_true rfl), (Nat.le_of_ble_eq_true rfl)⟩) g_pt rfl rfl hl.1 rfl (lv_room (Nat.le_of_ble_eq_true rfl)) dV_got_63 ⟨Nat.zero_le _, Nat.zero_le _⟩) ?_
        have hi_4 : vp_in (f_fanCorner a0 a1) 5 := (fcor_in (fan_b c_1 hmd) (bel3 c_2))
        refine g_aald hx hb hK hP (26 + 1) 1 (isP_lt1 (Or.inr (Or.inr rfl))) (kO (Or.inr (Or.inr rfl))) rfl rfl hi_4 (rfs_at (vp_lt hi_4)) dV_got_66 ?_
        refine lv_iload_n hx hb dV_got_67 rfl (lv_at hl 3 rfl) ?_
        have hi_5 : vp_in a2 32 := (below_in rfl c_3)
        refine g_iald hx hb hK hP (26 + 2 + (f_fanCorner a0 a1).toNatClampNeg) 0 (isP_lt (Or.inr (Or.inr rfl)) (vp_lt hi_4)) (fun r t => kW (Or.inr (Or.inr rfl)) (vp_lt hi_4)) rfl hi_5 dV_got_68 ?_
        have et : t_vgot σ a0 a1 a2 = 0 := by unfold t_vgot; rw [if_neg c_1, if_neg c_2, if_neg c_3]
        have ev : f_vgot σ a0 a1 a2 = (σ (26 + 2 + (f_fanCorner a0 a1).toNatClampNeg) a2.toNatClampNeg) := by unfold f_vgot; rw [if_neg c_1, if_neg c_2, if_neg c_3]
        have es : s_vgot σ a0 a1 a2 = σ := by unfold s_vgot; rw [if_neg c_1, if_neg c_2, if_neg c_3]
        refine vx_ret ?_
        refine W.widen (k := 1) (n := 6) (Nat.le_of_ble_eq_true rfl) (Nat.le_of_ble_eq_true rfl) ?_
        exact W.iret (v := (σ (26 + 2 + (f_fanCorner a0 a1).toNatClampNeg) a2.toNatClampNeg)) hx hb hr (fun t ht9 hW => ⟨et, by rw [ev], by show va_P D vwCl (gW cs ad (s_vgot σ a0 a1 a2) τ) t.heap; rw [ht9, es]; exact hP, hS.F ht9⟩) hS.2.2 dV_got_69
      · have et : t_vgot σ a0 a1 a2 = 2 := by unfold t_vgot; rw [if_neg c_1, if_neg c_2, if_pos c_3]
        obtain ⟨sa, hstr⟩ := hX.1 (159, "no such corner or number") (by decide +kernel)
        exact vx_throwS (own := RV) (cls := xA) (names := xN) hx hb hl9 hown (by decide +kernel) (by decide +kernel) (ht _ tw_290) (ht _ tw_11) hstr (fun w hw => ht w (xat_A w hw)) xgo_A hX.2.1 hX.2.2.1 hS (hl.1.trans hml.symm) dV_got_44 dV_got_47 dV_got_48 dV_got_50 dV_got_53 (fun x hx9 => (hEx x hx9).elim) (Nat.le_of_ble_eq_true rfl) (Nat.le_of_ble_eq_true rfl) (Nat.le_of_ble_eq_true rfl) (Nat.le_of_ble_eq_true rfl) hlocks (fun t ha hsz hk => ⟨by rw [et]; decide, by rw [et]; rfl, Nat.le_trans hS.1 hsz, fun q hq => (hk q (Nat.lt_of_lt_of_le hq hS.1)).trans (hS0 q hq)⟩) hS.2.2 (Nat.le_of_ble_eq_true rfl) (Nat.le_of_ble_eq_true rfl)
  · have et : t_vgot σ a0 a1 a2 = 1 := by unfold t_vgot; rw [if_pos c_1]
    obtain ⟨sa, hstr⟩ := hX.1 (149, "no such triangle") (by decide +kernel)
    exact vx_throwS (own := RV) (cls := xI) (names := xN) hx hb hl9 hown (by decide +kernel) (by decide +kernel) (ht _ tw_205) (ht _ tw_10) hstr (fun w hw => ht w (xat_I w hw)) xgo_I hX.2.1 hX.2.2.1 hS (hl.1.trans hml.symm) dV_got_17 dV_got_20 dV_got_21 dV_got_23 dV_got_26 (fun x hx9 => (hEx x hx9).elim) (Nat.le_of_ble_eq_true rfl) (Nat.le_of_ble_eq_true rfl) (Nat.le_of_ble_eq_true rfl) (Nat.le_of_ble_eq_true rfl) hlocks (fun t ha hsz hk => ⟨by rw [et]; decide, by rw [et]; rfl, Nat.le_trans hS.1 hsz, fun q hq => (hk q (Nat.lt_of_lt_of_le hq hS.1)).trans (hS0 q hq)⟩) hS.2.2 (Nat.le_of_ble_eq_true rfl) (Nat.le_of_ble_eq_true rfl)
def t_varea (σ : Nat → Nat → Int32) (a0 : Int32) : Int32 :=
  if (f_isBelow a0 (f_fanOf (σ 26 1))) = 0 then
    1
  else
    0
def f_varea (σ : Nat → Nat → Int32) (a0 : Int32) : Int64 :=
  if (f_isBelow a0 (f_fanOf (σ 26 1))) = 0 then
    0
  else
    (f_sizeOf σ 26 a0)
def s_varea (σ : Nat → Nat → Int32) (a0 : Int32) : Nat → Nat → Int32 :=
  if (f_isBelow a0 (f_fanOf (σ 26 1))) = 0 then
    σ
  else
    σ
set_option maxHeartbeats 800000 in
set_option maxRecDepth 100000 in
theorem c_varea (l : Launch) (hl9 : l.stackTraces = false) {D : va_G} {cs : Nat → ClassId} {ad : Nat → Nat} (hinj : gI ad) (σ : Nat → Nat → Int32) (τ : Nat → Nat → Int64) (sz : Nat) (a0 : Int32) (hmd : rng (σ 26 1)) : vx_Met l yV_area (wsB kV_area) ({ frames := 6, cells := 1, slots := 6, locals := 90 } : Room) (va_Pc [.ref (ad 0), .int a0] (gPX D cs ad σ τ sz)) (xQ (t_varea σ a0) (some (.long (f_varea σ a0))) (gB D cs ad (s_varea σ a0) τ) (gA NC ad sz)) (xX (t_varea σ a0) (fun _ => xI)) 1 6 (gA NC ad sz) := by
  refine vx_ofW (cc := cV_area) (maxL := 2) (ret := (some .long)) (by decide) rfl ?_
  intro p e s m args below meth c s₁ B hml hEx hv
  obtain ⟨rfl, ⟨hsz, hP, hK⟩, hX⟩ := hv
  have hx := B.exec
  have hb := B.bytes
  have hr := B.returns
  have hts := atoms_spec (ws := wsB kV_area) B.pre
  have ht := hbig hts
  have hown : s.vm.findClass RV = some m.cls := findClass_of_methodNamed B.named
  have hlocks := B.notSynchronized
  subst hsz
  have hD : ∀ σ τ, va_D (gA NC ad s.heap.size) (gW cs ad σ τ) := fun _ _ => gw_D hinj (fun i h => gA_ad h)
  have hS : va_S (gA NC ad s.heap.size) s.heap s.heap [] := va_S.rf
  have hS0 : ∀ q : Nat, q < s.heap.size → s.heap[q]? = s.heap[q]? := fun _ _ => rfl
  have hl := lv_entry ([.ref (ad 0), .int a0]) (n := 2) (Nat.le_of_ble_eq_true rfl)
  rw [lg_entry_eq]
  generalize (lg_sl ([.ref (ad 0), .int a0]) ++ List.replicate (2 - (lg_sl ([.ref (ad 0), .int a0])).length) Slot.unset).toArray = ls at hl ⊢
  have hl : lv_has ls 2 [(0, .ref (ad 0)), (1, .int a0)] := hl
  refine lv_iload_n hx hb dV_area_0 rfl (lv_at hl 1 rfl) ?_
  refine lv_aload_n hx hb dV_area_1 rfl (lv_at hl 0 rfl) ?_
  refine g_get (ci := 0) (C := RV) (T := TV) (M := 8) (v := .ref (ad 26)) hx hb ht inV hown hK hP 0 (by decide) kV rfl 4 (by decide) (ht _ tw_100) (fun _ h9 => h9) rfl dV_area_2 ?_
  refine g_get (ci := 3) (C := RP) (T := TP) (M := 2) (v := .int (σ 26 1)) hx hb ht inP hown hK hP 26 (isP_lt0 (Or.inr (Or.inr rfl))) (kP (Or.inr (Or.inr rfl))) rfl 1 (by decide) (ht _ tw_63) (fun _ h9 => h9) rfl dV_area_5 ?_
  refine g_pure (v := .int (f_fanOf (σ 26 1))) (va_runS (As := [.int (σ 26 1)]) (rest := [.int a0]) ⟨hx, hb, hml, hown, hts⟩ (c_fanOf l (σ 26 1)) (qS 1 ht tw_191 tw_192 tw_1 tk_V_fanOf rfl rfl (by decide +kernel) ⟨(Nat.le_of_ble_eq_true rfl), (Nat.le_of_ble_eq_true rfl)⟩) g_pt rfl rfl hl.1 rfl (lv_room (Nat.le_of_ble_eq_true rfl)) dV_area_8 ⟨Nat.zero_le _, Nat.zero_le _⟩) ?_
  refine g_pure (v := .int (f_isBelow a0 (f_fanOf (σ 26 1)))) (va_runS (As := [.int a0, .int (f_fanOf (σ 26 1))]) (rest := []) ⟨hx, hb, hml, hown, hts⟩ (c_isBelow l a0 (f_fanOf (σ 26 1))) (qS 2 ht tw_202 tw_203 tw_1 tk_V_isBelow rfl rfl (by decide +kernel) ⟨(Nat.le_of_ble_eq_true rfl), (Nat.le_of_ble_eq_true rfl)⟩) g_pt rfl rfl hl.1 rfl (lv_room (Nat.le_of_ble_eq_true rfl)) dV_area_11 ⟨Nat.zero_le _, Nat.zero_le _⟩) ?_
  refine lv_if_ne (tgt := 27) hx hb dV_area_14 (by decide) (fun c_1 => ?_) (fun c_1 => ?_)
  · refine lv_aload_n hx hb dV_area_27 rfl (lv_at hl 0 rfl) ?_
    refine g_get (ci := 0) (C := RV) (T := TV) (M := 8) (v := .ref (ad 26)) hx hb ht inV hown hK hP 0 (by decide) kV rfl 4 (by decide) (ht _ tw_100) (fun _ h9 => h9) rfl dV_area_28 ?_
    refine lv_iload_n hx hb dV_area_31 rfl (lv_at hl 1 rfl) ?_
    refine g_pure (v := .long (f_sizeOf σ 26 a0)) (va_runV (C := RP) (As := [.int a0]) (rest := []) ⟨hx, hb, hml, hown, hts⟩ (c_sizeOf l hinj σ τ _ 26 a0 (Or.inr (Or.inr rfl)) (fan_b c_1 hmd)) (qV 1 ht tw_422 tw_423 tw_424 tw_4 tk_P_sizeOf rfl rfl (by decide +kernel) ⟨(Nat.le_of_ble_eq_true rfl), (Nat.le_of_ble_eq_true rfl)⟩) (g_pv (ci := 3) hK hP (isP_lt0 (Or.inr (Or.inr rfl))) rfl (kP (Or.inr (Or.inr rfl))) rfl) rfl rfl hl.1 rfl (lv_room (Nat.le_of_ble_eq_true rfl)) dV_area_32 ⟨Nat.zero_le _, Nat.zero_le _⟩) ?_
    have et : t_varea σ a0 = 0 := by unfold t_varea; rw [if_neg c_1]
    have ev : f_varea σ a0 = (f_sizeOf σ 26 a0) := by unfold f_varea; rw [if_neg c_1]
    have es : s_varea σ a0 = σ := by unfold s_varea; rw [if_neg c_1]
    refine vx_ret ?_
    refine W.widen (k := 1) (n := 6) (Nat.le_of_ble_eq_true rfl) (Nat.le_of_ble_eq_true rfl) ?_
    exact W.lret (v := (f_sizeOf σ 26 a0)) hx hb hr (fun t ht9 hW => ⟨et, by rw [ev], by show va_P D vwCl (gW cs ad (s_varea σ a0) τ) t.heap; rw [ht9, es]; exact hP, hS.F ht9⟩) hS.2.2 dV_area_35
  · have et : t_varea σ a0 = 1 := by unfold t_varea; rw [if_pos c_1]
    obtain ⟨sa, hstr⟩ := hX.1 (149, "no such triangle") (by decide +kernel)
    exact vx_throwS (own := RV) (cls := xI) (names := xN) hx hb hl9 hown (by decide +kernel) (by decide +kernel) (ht _ tw_205) (ht _ tw_10) hstr (fun w hw => ht w (xat_I w hw)) xgo_I hX.2.1 hX.2.2.1 hS (hl.1.trans hml.symm) dV_area_17 dV_area_20 dV_area_21 dV_area_23 dV_area_26 (fun x hx9 => (hEx x hx9).elim) (Nat.le_of_ble_eq_true rfl) (Nat.le_of_ble_eq_true rfl) (Nat.le_of_ble_eq_true rfl) (Nat.le_of_ble_eq_true rfl) hlocks (fun t ha hsz hk => ⟨by rw [et]; decide, by rw [et], Nat.le_trans hS.1 hsz, fun q hq => (hk q (Nat.lt_of_lt_of_le hq hS.1)).trans (hS0 q hq)⟩) hS.2.2 (Nat.le_of_ble_eq_true rfl) (Nat.le_of_ble_eq_true rfl)
