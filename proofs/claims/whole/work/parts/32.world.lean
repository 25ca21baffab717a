def s_takeEdge (σ : Nat → Nat → Int32) (b : Nat) (i1 : Nat) (i2 : Nat) (x : Int32) : Nat → Nat → Int32 :=
  if (lg_cmp (f_distance σ i1 x) 0) < 0 then
    if (lg_cmp (f_distance σ i1 x) 0) < 0 then
      if 0 ≤ (lg_cmp (f_distance σ i1 x) 0) then
        σ
      else
        if (lg_cmp (f_distance σ i2 x) 0) < 0 then
          σ
        else
          (s_takeBetween σ b i2 i1 (f_share (f_distance σ i2 x) (f_distance σ i1 x)))
    else
      if 0 ≤ (lg_cmp (f_distance σ i2 x) 0) then
        if 0 ≤ (lg_cmp (f_distance σ i1 x) 0) then
          σ
        else
          if (lg_cmp (f_distance σ i2 x) 0) < 0 then
            σ
          else
            (s_takeBetween σ b i2 i1 (f_share (f_distance σ i2 x) (f_distance σ i1 x)))
      else
        if 0 ≤ (lg_cmp (f_distance σ i1 x) 0) then
          (s_takeBetween σ b i1 i2 (f_share (f_distance σ i1 x) (f_distance σ i2 x)))
        else
          if (lg_cmp (f_distance σ i2 x) 0) < 0 then
            (s_takeBetween σ b i1 i2 (f_share (f_distance σ i1 x) (f_distance σ i2 x)))
          else
            (s_takeBetween (s_takeBetween σ b i1 i2 (f_share (f_distance σ i1 x) (f_distance σ i2 x))) b i2 i1 (f_share (f_distance σ i2 x) (f_distance σ i1 x)))
  else
    if (lg_cmp (f_distance σ i1 x) 0) < 0 then
      if 0 ≤ (lg_cmp (f_distance σ i1 x) 0) then
        (s_take σ b i1 )
      else
        if (lg_cmp (f_distance σ i2 x) 0) < 0 then
          (s_take σ b i1 )
        else
          (s_takeBetween (s_take σ b i1 ) b i2 i1 (f_share (f_distance σ i2 x) (f_distance σ i1 x)))
    else
      if 0 ≤ (lg_cmp (f_distance σ i2 x) 0) then
        if 0 ≤ (lg_cmp (f_distance σ i1 x) 0) then
          (s_take σ b i1 )
        else
          if (lg_cmp (f_distance σ i2 x) 0) < 0 then
            (s_take σ b i1 )
          else
            (s_takeBetween (s_take σ b i1 ) b i2 i1 (f_share (f_distance σ i2 x) (f_distance σ i1 x)))
      else
        if 0 ≤ (lg_cmp (f_distance σ i1 x) 0) then
          (s_takeBetween (s_take σ b i1 ) b i1 i2 (f_share (f_distance σ i1 x) (f_distance σ i2 x)))
        else
          if (lg_cmp (f_distance σ i2 x) 0) < 0 then
            (s_takeBetween (s_take σ b i1 ) b i1 i2 (f_share (f_distance σ i1 x) (f_distance σ i2 x)))
          else
            (s_takeBetween (s_takeBetween (s_take σ b i1 ) b i1 i2 (f_share (f_distance σ i1 x) (f_distance σ i2 x))) b i2 i1 (f_share (f_distance σ i2 x) (f_distance σ i1 x)))
set_option maxHeartbeats 4000000 in
set_option maxRecDepth 100000 in
theorem c_takeEdge (l : Launch) {D : va_G} {cs : Nat → ClassId} {ad : Nat → Nat} (hinj : gI ad) (σ : Nat → Nat → Int32) (τ : Nat → Nat → Int64) (sz : Nat) (b : Nat) (i1 : Nat) (i2 : Nat) (x : Int32) (hb0 : isP b) (h1 : i1 < NC) (k1 : ∀ r t, ceW cs ad i1 r t = .inl (cs 0, 32, .inl r)) (h2 : i2 < NC) (k2 : ∀ r t, ceW cs ad i2 r t = .inl (cs 0, 32, .inl r)) (hm : ¬ σ b 1 < 0) : Met l yP_takeEdge (wsB kP_takeEdge) ({ frames := 2, cells := 0, slots := 0, locals := 85 } : Room) (va_Pc [.ref (ad b), .ref (ad i1), .ref (ad i2), .int x] (gP D cs ad σ τ sz)) (gQ none (gB D cs ad (s_takeEdge σ b i1 i2 x) τ) (gA NC ad sz)) 0 0 (gA NC ad sz) := by
  refine Met.ofW (cc := cP_takeEdge) (maxL := 8) (ret := none) (by decide) rfl ?_
  intro p e s m args below meth c s₁ B hml hv
  obtain ⟨rfl, hsz, hP, hK⟩ := hv
  have hx := B.exec
  have hb := B.bytes
  have hr := B.returns
  have hts := atoms_spec (ws := wsB kP_takeEdge) B.pre
  have ht := hbig hts
  have hown : s.vm.findClass RP = some m.cls := findClass_of_methodNamed B.named
  have hlocks := B.notSynchronized
  subst hsz
  have hD : ∀ σ τ, va_D (gA NC ad s.heap.size) (gW cs ad σ τ) := fun _ _ => gw_D hinj (fun i h => gA_ad h)
  have hS : va_S (gA NC ad s.heap.size) s.heap s.heap [] := va_S.rf
  have hl := lv_entry ([.ref (ad b), .ref (ad i1), .ref (ad i2), .int x]) (n := 8) (Nat.le_of_ble_eq_true rfl)
  rw [lg_entry_eq]
  generalize (lg_sl ([.ref (ad b), .ref (ad i1), .ref (ad i2), .int x]) ++ List.replicate (8 - (lg_sl ([.ref (ad b), .ref (ad i1), .ref (ad i2), .int x])).length) Slot.unset).toArray = ls at hl ⊢
  have hl : lv_has ls 8 [(0, .ref (ad b)), (1, .ref (ad i1)), (2, .ref (ad i2)), (3, .int x)] := hl
  refine lv_aload_n hx hb dP_takeEdge_0 rfl (lv_at hl 1 rfl) ?_
  refine lv_iload_n hx hb dP_takeEdge_1 rfl (lv_at hl 3 rfl) ?_
  refine g_pure (v := .long (f_distance σ i1 x)) (va_runS (As := [.ref (ad i1), .int x]) (rest := []) ⟨hx, hb, hml, hown, hts⟩ (c_distance l hinj σ τ _ i1 x h1 k1) (qS 2 ht tw_133 tw_134 tw_4 tk_P_distance rfl rfl (by decide +kernel) ⟨(Nat.le_of_ble_eq_true rfl), (Nat.le_of_ble_eq_true rfl)⟩) (g_ps hK hP) rfl rfl hl.1 rfl (lv_room (Nat.le_of_ble_eq_true rfl)) dP_takeEdge_2 ⟨Nat.zero_le _, Nat.zero_le _⟩) ?_
  refine lv_lstore (lv' := [(4, .long (f_distance σ i1 x)), (0, .ref (ad b)), (1, .ref (ad i1)), (2, .ref (ad i2)), (3, .int x)]) hx hb dP_takeEdge_5 hl (by decide) rfl (fun ls hl => ?_)
  refine lv_aload_n hx hb dP_takeEdge_7 rfl (lv_at hl 3 rfl) ?_
  refine lv_iload_n hx hb dP_takeEdge_8 rfl (lv_at hl 4 rfl) ?_
  refine g_pure (v := .long (f_distance σ i2 x)) (va_runS (As := [.ref (ad i2), .int x]) (rest := []) ⟨hx, hb, hml, hown, hts⟩ (c_distance l hinj σ τ _ i2 x h2 k2) (qS 2 ht tw_133 tw_134 tw_4 tk_P_distance rfl rfl (by decide +kernel) ⟨(Nat.le_of_ble_eq_true rfl), (Nat.le_of_ble_eq_true rfl)⟩) (g_ps hK hP) rfl rfl hl.1 rfl (lv_room (Nat.le_of_ble_eq_true rfl)) dP_takeEdge_9 ⟨Nat.zero_le _, Nat.zero_le _⟩) ?_
  refine lv_lstore (lv' := [(6, .long (f_distance σ i2 x)), (4, .long (f_distance σ i1 x)), (0, .ref (ad b)), (1, .ref (ad i1)), (2, .ref (ad i2)), (3, .int x)]) hx hb dP_takeEdge_12 hl (by decide) rfl (fun ls hl => ?_)
  refine lv_lload hx hb dP_takeEdge_14 (lv_at hl 1 rfl) ?_
  refine lv_lconst (v := 0) hx hb dP_takeEdge_16 (by decide) ?_
  refine W.lcmp hx hb dP_takeEdge_17 ?_
  refine lv_if_lt (tgt := 26) hx hb dP_takeEdge_18 (by decide) (fun c_1 => ?_) (fun c_1 => ?_)
  · refine lv_lload hx hb dP_takeEdge_26 (lv_at hl 1 rfl) ?_
    refine lv_lconst (v := 0) hx hb dP_takeEdge_28 (by decide) ?_
    refine W.lcmp hx hb dP_takeEdge_29 ?_
    refine lv_if_lt (tgt := 53) hx hb dP_takeEdge_30 (by decide) (fun c_2 => ?_) (fun c_2 => ?_)
    · refine lv_lload hx hb dP_takeEdge_53 (lv_at hl 1 rfl) ?_
      refine lv_lconst (v := 0) hx hb dP_takeEdge_55 (by decide) ?_
      refine W.lcmp hx hb dP_takeEdge_56 ?_
      refine lv_if_ge (tgt := 80) hx hb dP_takeEdge_57 (by decide) (fun c_3 => ?_) (fun c_3 => ?_)
      · have es : s_takeEdge σ b i1 i2 x = σ := by unfold s_takeEdge; rw [if_pos c_1, if_pos c_2, if_pos c_3]
        exact W.vret hx hb hr (fun t ht9 hW => ⟨rfl, by show va_P D vwCl (gW cs ad (s_takeEdge σ b i1 i2 x) τ) t.heap; rw [ht9, es]; exact hP, hS.F ht9⟩) hS.2.2 dP_takeEdge_80
      · refine lv_lload hx hb dP_takeEdge_60 (lv_at hl 0 rfl) ?_
        refine lv_lconst (v := 0) hx hb dP_takeEdge_62 (by decide) ?_
        refine W.lcmp hx hb dP_takeEdge_63 ?_
        refine lv_if_lt (tgt := 80) hx hb dP_takeEdge_64 (by decide) (fun c_4 => ?_) (fun c_4 => ?_)
        · have es : s_takeEdge σ b i1 i2 x = σ := by unfold s_takeEdge; rw [if_pos c_1, if_pos c_2, if_neg c_3, if_pos c_4]
          exact W.vret hx hb hr (fun t ht9 hW => ⟨rfl, by show va_P D vwCl (gW cs ad (s_takeEdge σ b i1 i2 x) τ) t.heap; rw [ht9, es]; exact hP, hS.F ht9⟩) hS.2.2 dP_takeEdge_80
        · refine lv_aload_n hx hb dP_takeEdge_67 rfl (lv_at hl 2 rfl) ?_
          refine lv_aload_n hx hb dP_takeEdge_68 rfl (lv_at hl 4 rfl) ?_
          refine lv_aload_n hx hb dP_takeEdge_69 rfl (lv_at hl 3 rfl) ?_
          refine lv_lload hx hb dP_takeEdge_70 (lv_at hl 0 rfl) ?_
          refine lv_lload hx hb dP_takeEdge_72 (lv_at hl 1 rfl) ?_
          refine g_pure (v := .long (f_share (f_distance σ i2 x) (f_distance σ i1 x))) (va_runS (As := [.long (f_distance σ i2 x), .long (f_distance σ i1 x)]) (rest := [.ref (ad i1), .ref (ad i2), .ref (ad b)]) ⟨hx, hb, hml, hown, hts⟩ (c_share l (f_distance σ i2 x) (f_distance σ i1 x)) (qS 2 ht tw_144 tw_145 tw_4 tk_P_share rfl rfl (by decide +kernel) ⟨(Nat.le_of_ble_eq_true rfl), (Nat.le_of_ble_eq_true rfl)⟩) g_pt rfl rfl hl.1 rfl (lv_room (Nat.le_of_ble_eq_true rfl)) dP_takeEdge_74 ⟨Nat.zero_le _, Nat.zero_le _⟩) ?_
          refine g_runV (va_runV (C := RP) (As := [.ref (ad i2), .ref (ad i1), .long (f_share (f_distance σ i2 x) (f_distance σ i1 x))]) (rest := []) ⟨hx, hb, hml, hown, hts⟩ (c_takeBetween l hinj σ τ _ b i2 i1 (f_share (f_distance σ i2 x) (f_distance σ i1 x)) hb0 h2 k2 h1 k1 hm) (qV 3 ht tw_154 tw_156 ts_P_takeBetween tw_4 tk_P_takeBetween rfl rfl (by decide +kernel) ⟨(Nat.le_of_ble_eq_true rfl), (Nat.le_of_ble_eq_true rfl)⟩) (g_pv (ci := 3) hK hP (isP_lt0 hb0) rfl (kP hb0) rfl) rfl rfl hl.1 rfl (lv_room (Nat.le_of_ble_eq_true rfl)) dP_takeEdge_77 ⟨Nat.zero_le _, Nat.zero_le _⟩) hS (fun q _ h => gA_mono hS.1 q h) (fun q h => gA_mono hS.1 q h) (fun H locs hP hz hS => ?_)
          have es : s_takeEdge σ b i1 i2 x = (s_takeBetween σ b i2 i1 (f_share (f_distance σ i2 x) (f_distance σ i1 x))) := by unfold s_takeEdge; rw [if_pos c_1, if_pos c_2, if_neg c_3, if_neg c_4]
          exact W.vret hx hb hr (fun t ht9 hW => ⟨rfl, by show va_P D vwCl (gW cs ad (s_takeEdge σ b i1 i2 x) τ) t.heap; rw [ht9, es]; exact hP, hS.F ht9⟩) hS.2.2 dP_takeEdge_80
    · refine lv_lload hx hb dP_takeEdge_33 (lv_at hl 0 rfl) ?_
      refine lv_lconst (v := 0) hx hb dP_takeEdge_35 (by decide) ?_
      refine W.lcmp hx hb dP_takeEdge_36 ?_
      refine lv_if_ge (tgt := 53) hx hb dP_takeEdge_37 (by decide) (fun c_5 => ?_) (fun c_5 => ?_)
      · refine lv_lload hx hb dP_takeEdge_53 (lv_at hl 1 rfl) ?_
        refine lv_lconst (v := 0) hx hb dP_takeEdge_55 (by decide) ?_
        refine W.lcmp hx hb dP_takeEdge_56 ?_
        refine lv_if_ge (tgt := 80) hx hb dP_takeEdge_57 (by decide) (fun c_6 => ?_) (fun c_6 => ?_)
        · have es : s_takeEdge σ b i1 i2 x = σ := by unfold s_takeEdge; rw [if_pos c_1, if_neg c_2, if_pos c_5, if_pos c_6]
          exact W.vret hx hb hr (fun t ht9 hW => ⟨rfl, by show va_P D vwCl (gW cs ad (s_takeEdge σ b i1 i2 x) τ) t.heap; rw [ht9, es]; exact hP, hS.F ht9⟩) hS.2.2 dP_takeEdge_80
        · refine lv_lload hx hb dP_takeEdge_60 (lv_at hl 0 rfl) ?_
          refine lv_lconst (v := 0) hx hb dP_takeEdge_62 (by decide) ?_
          refine W.lcmp hx hb dP_takeEdge_63 ?_
          refine lv_if_lt (tgt := 80) hx hb dP_takeEdge_64 (by decide) (fun c_7 => ?_) (fun c_7 => ?_)
          · have es : s_takeEdge σ b i1 i2 x = σ := by unfold s_takeEdge; rw [if_pos c_1, if_neg c_2, if_pos c_5, if_neg c_6, if_pos c_7]
            exact W.vret hx hb hr (fun t ht9 hW => ⟨rfl, by show va_P D vwCl (gW cs ad (s_takeEdge σ b i1 i2 x) τ) t.heap; rw [ht9, es]; exact hP, hS.F ht9⟩) hS.2.2 dP_takeEdge_80
          · refine lv_aload_n hx hb dP_takeEdge_67 rfl (lv_at hl 2 rfl) ?_
            refine lv_aload_n hx hb dP_takeEdge_68 rfl (lv_at hl 4 rfl) ?_
            refine lv_aload_n hx hb dP_takeEdge_69 rfl (lv_at hl 3 rfl) ?_
            refine lv_lload hx hb dP_takeEdge_70 (lv_at hl 0 rfl) ?_
            refine lv_lload hx hb dP_takeEdge_72 (lv_at hl 1 rfl) ?_
            refine g_pure (v := .long (f_share (f_distance σ i2 x) (f_distance σ i1 x))) (va_runS (As := [.long (f_distance σ i2 x), .long (f_distance σ i1 x)]) (rest := [.ref (ad i1), .ref (ad i2), .ref (ad b)]) ⟨hx, hb, hml, hown, hts⟩ (c_share l (f_distance σ i2 x) (f_distance σ i1 x)) (qS 2 ht tw_144 tw_145 tw_4 tk_P_share rfl rfl (by decide +kernel) ⟨(Nat.le_of_ble_eq_true rfl), (Nat.le_of_ble_eq_true rfl)⟩) g_pt rfl rfl hl.1 rfl (lv_room (Nat.le_of_ble_eq_true rfl)) dP_takeEdge_74 ⟨Nat.zero_le _, Nat.zero_le _⟩) ?_
            refine g_runV (va_runV (C := RP) (As := [.ref (ad i2), .ref (ad i1), .long (f_share (f_distance σ i2 x) (f_distance σ i1 x))]) (rest := []) ⟨hx, hb, hml, hown, hts⟩ (c_takeBetween l hinj σ τ _ b i2 i1 (f_share (f_distance σ i2 x) (f_distance σ i1 x)) hb0 h2 k2 h1 k1 hm) (qV 3 ht tw_154 tw_156 ts_P_takeBetween tw_4 tk_P_takeBetween rfl rfl (by decide +kernel) ⟨(Nat.le_of_ble_eq_true rfl), (Nat.le_of_ble_eq_true rfl)⟩) (g_pv (ci := 3) hK hP (isP_lt0 hb0) rfl (kP hb0) rfl) rfl rfl hl.1 rfl (lv_room (Nat.le_of_ble_eq_true rfl)) dP_takeEdge_77 ⟨Nat.zero_le _, Nat.zero_le _⟩) hS (fun q _ h => gA_mono hS.1 q h) (fun q h => gA_mono hS.1 q h) (fun H locs hP hz hS => ?_)
            have es : s_takeEdge σ b i1 i2 x = (s_takeBetween σ b i2 i1 (f_share (f_distance σ i2 x) (f_distance σ i1 x))) := by unfold s_takeEdge; rw [if_pos c_1, if_neg c_2, if_pos c_5, if_neg c_6, if_neg c_7]
            exact W.vret hx hb hr (fun t ht9 hW => ⟨rfl, by show va_P D vwCl (gW cs ad (s_takeEdge σ b i1 i2 x) τ) t.heap; rw [ht9, es]; exact hP, hS.F ht9⟩) hS.2.2 dP_takeEdge_80
      · refine lv_aload_n hx hb dP_takeEdge_40 rfl (lv_at hl 2 rfl) ?_
        refine lv_aload_n hx hb dP_takeEdge_41 rfl (lv_at hl 3 rfl) ?_
        refine lv_aload_n hx hb dP_takeEdge_42 rfl (lv_at hl 4 rfl) ?_
        refine lv_lload hx hb dP_takeEdge_43 (lv_at hl 1 rfl) ?_
        refine lv_lload hx hb dP_takeEdge_45 (lv_at hl 0 rfl) ?_
        refine g_pure (v := .long (f_share (f_distance σ i1 x) (f_distance σ i2 x))) (va_runS (As := [.long (f_distance σ i1 x), .long (f_distance σ i2 x)]) (rest := [.ref (ad i2), .ref (ad i1), .ref (ad b)]) ⟨hx, hb, hml, hown, hts⟩ (c_share l (f_distance σ i1 x) (f_distance σ i2 x)) (qS 2 ht tw_144 tw_145 tw_4 tk_P_share rfl rfl (by decide +kernel) ⟨(Nat.le_of_ble_eq_true rfl), (Nat.le_of_ble_eq_true rfl)⟩) g_pt rfl rfl hl.1 rfl (lv_room (Nat.le_of_ble_eq_true rfl)) dP_takeEdge_47 ⟨Nat.zero_le _, Nat.zero_le _⟩) ?_
        refine g_runV (va_runV (C := RP) (As := [.ref (ad i1), .ref (ad i2), .long (f_share (f_distance σ i1 x) (f_distance σ i2 x))]) (rest := []) ⟨hx, hb, hml, hown, hts⟩ (c_takeBetween l hinj σ τ _ b i1 i2 (f_share (f_distance σ i1 x) (f_distance σ i2 x)) hb0 h1 k1 h2 k2 hm) (qV 3 ht tw_154 tw_156 ts_P_takeBetween tw_4 tk_P_takeBetween rfl rfl (by decide +kernel) ⟨(Nat.le_of_ble_eq_true rfl), (Nat.le_of_ble_eq_true rfl)⟩) (g_pv (ci := 3) hK hP (isP_lt0 hb0) rfl (kP hb0) rfl) rfl rfl hl.1 rfl (lv_room (Nat.le_of_ble_eq_true rfl)) dP_takeEdge_50 ⟨Nat.zero_le _, Nat.zero_le _⟩) hS (fun q _ h => gA_mono hS.1 q h) (fun q h => gA_mono hS.1 q h) (fun H locs hP hz hS => ?_)
        refine lv_lload hx hb dP_takeEdge_53 (lv_at hl 1 rfl) ?_
        refine lv_lconst (v := 0) hx hb dP_takeEdge_55 (by decide) ?_
        refine W.lcmp hx hb dP_takeEdge_56 ?_
        refine lv_if_ge (tgt := 80) hx hb dP_takeEdge_57 (by decide) (fun c_8 => ?_) (fun c_8 => ?_)
        · have es : s_takeEdge σ b i1 i2 x = (s_takeBetween σ b i1 i2 (f_share (f_distance σ i1 x) (f_distance σ i2 x))) := by unfold s_takeEdge; rw [if_pos c_1, if_neg c_2, if_neg c_5, if_pos c_8]
          exact W.vret hx hb hr (fun t ht9 hW => ⟨rfl, by show va_P D vwCl (gW cs ad (s_takeEdge σ b i1 i2 x) τ) t.heap; rw [ht9, es]; exact hP, hS.F ht9⟩) hS.2.2 dP_takeEdge_80
        · refine lv_lload hx hb dP_takeEdge_60 (lv_at hl 0 rfl) ?_
          refine lv_lconst (v := 0) hx hb dP_takeEdge_62 (by decide) ?_
          refine W.lcmp hx hb dP_takeEdge_63 ?_
          refine lv_if_lt (tgt := 80) hx hb dP_takeEdge_64 (by decide) (fun c_9 => ?_) (fun c_9 => ?_)
          · have es : s_takeEdge σ b i1 i2 x = (s_takeBetween σ b i1 i2 (f_share (f_distance σ i1 x) (f_distance σ i2 x))) := by unfold s_takeEdge; rw [if_pos c_1, if_neg c_2, if_neg c_5, if_neg c_8, if_pos c_9]
            exact W.vret hx hb hr (fun t ht9 hW => ⟨rfl, by show va_P D vwCl (gW cs ad (s_takeEdge σ b i1 i2 x) τ) t.heap; rw [ht9, es]; exact hP, hS.F ht9⟩) hS.2.2 dP_takeEdge_80
          · refine lv_aload_n hx hb dP_takeEdge_67 rfl (lv_at hl 2 rfl) ?_
            refine lv_aload_n hx hb dP_takeEdge_68 rfl (lv_at hl 4 rfl) ?_
            refine lv_aload_n hx hb dP_takeEdge_69 rfl (lv_at hl 3 rfl) ?_
            refine lv_lload hx hb dP_takeEdge_70 (lv_at hl 0 rfl) ?_
            refine lv_lload hx hb dP_takeEdge_72 (lv_at hl 1 rfl) ?_
            refine g_pure (v := .long (f_share (f_distance σ i2 x) (f_distance σ i1 x))) (va_runS (As := [.long (f_distance σ i2 x), .long (f_distance σ i1 x)]) (rest := [.ref (ad i1), .ref (ad i2), .ref (ad b)]) ⟨hx, hb, hml, hown, hts⟩ (c_share l (f_distance σ i2 x) (f_distance σ i1 x)) (qS 2 ht tw_144 tw_145 tw_4 tk_P_share rfl rfl (by decide +kernel) ⟨(Nat.le_of_ble_eq_true rfl), (Nat.le_of_ble_eq_true rfl)⟩) g_pt rfl rfl hl.1 rfl (lv_room (Nat.le_of_ble_eq_true rfl)) dP_takeEdge_74 ⟨Nat.zero_le _, Nat.zero_le _⟩) ?_
            refine g_runV (va_runV (C := RP) (As := [.ref (ad i2), .ref (ad i1), .long (f_share (f_distance σ i2 x) (f_distance σ i1 x))]) (rest := []) ⟨hx, hb, hml, hown, hts⟩ (c_takeBetween l hinj (s_takeBetween σ b i1 i2 (f_share (f_distance σ i1 x) (f_distance σ i2 x))) τ _ b i2 i1 (f_share (f_distance σ i2 x) (f_distance σ i1 x)) hb0 h2 k2 h1 k1 (tb_nn hm)) (qV 3 ht tw_154 tw_156 ts_P_takeBetween tw_4 tk_P_takeBetween rfl rfl (by decide +kernel) ⟨(Nat.le_of_ble_eq_true rfl), (Nat.le_of_ble_eq_true rfl)⟩) (g_pv (ci := 3) hK hP (isP_lt0 hb0) rfl (kP hb0) rfl) rfl rfl hl.1 rfl (lv_room (Nat.le_of_ble_eq_true rfl)) dP_takeEdge_77 ⟨Nat.zero_le _, Nat.zero_le _⟩) hS (fun q _ h => gA_mono hS.1 q h) (fun q h => gA_mono hS.1 q h) (fun H locs hP hz hS => ?_)
            have es : s_takeEdge σ b i1 i2 x = (s_takeBetween (s_takeBetween σ b i1 i2 (f_share (f_distance σ i1 x) (f_distance σ i2 x))) b i2 i1 (f_share (f_distance σ i2 x) (f_distance σ i1 x))) := by unfold s_takeEdge; rw [if_pos c_1, if_neg c_2, if_neg c_5, if_neg c_8, if_neg c_9]
            exact W.vret hx hb hr (fun t ht9 hW => ⟨rfl, by show va_P D vwCl (gW cs ad (s_takeEdge σ b i1 i2 x) τ) t.heap; rw [ht9, es]; exact hP, hS.F ht9⟩) hS.2.2 dP_takeEdge_80
  · refine lv_aload_n hx hb dP_takeEdge_21 rfl (lv_at hl 2 rfl) ?_
    refine lv_aload_n hx hb dP_takeEdge_22 rfl (lv_at hl 3 rfl) ?_
    refine g_runV (va_runV (C := RP) (As := [.ref (ad i1)]) (rest := []) ⟨hx, hb, hml, hown, hts⟩ (c_take l hinj σ τ _ b i1  hb0 h1 k1 hm) (qV 1 ht tw_137 tw_139 ts_P_take tw_4 tk_P_take rfl rfl (by decide +kernel) ⟨(Nat.le_of_ble_eq_true rfl), (Nat.le_of_ble_eq_true rfl)⟩) (g_pv (ci := 3) hK hP (isP_lt0 hb0) rfl (kP hb0) rfl) rfl rfl hl.1 rfl (lv_room (Nat.le_of_ble_eq_true rfl)) dP_takeEdge_23 ⟨Nat.zero_le _, Nat.zero_le _⟩) hS (fun q _ h => gA_mono hS.1 q h) (fun q h => gA_mono hS.1 q h) (fun H locs hP hz hS => ?_)
    refine lv_lload hx hb dP_takeEdge_26 (lv_at hl 1 rfl) ?_
    refine lv_lconst (v := 0) hx hb dP_takeEdge_28 (by decide) ?_
    refine W.lcmp hx hb dP_takeEdge_29 ?_
    refine lv_if_lt (tgt := 53) hx hb dP_takeEdge_30 (by decide) (fun c_10 => ?_) (fun c_10 => ?_)
    · refine lv_lload hx hb dP_takeEdge_53 (lv_at hl 1 rfl) ?_
      refine lv_lconst (v := 0) hx hb dP_takeEdge_55 (by decide) ?_
      refine W.lcmp hx hb dP_takeEdge_56 ?_
      refine lv_if_ge (tgt := 80) hx hb dP_takeEdge_57 (by decide) (fun c_11 => ?_) (fun c_11 => ?_)
      · have es : s_takeEdge σ b i1 i2 x = (s_take σ b i1 ) := by unfold s_takeEdge; rw [if_neg c_1, if_pos c_10, if_pos c_11]
        exact W.vret hx hb hr (fun t ht9 hW => ⟨rfl, by show va_P D vwCl (gW cs ad (s_takeEdge σ b i1 i2 x) τ) t.heap; rw [ht9, es]; exact hP, hS.F ht9⟩) hS.2.2 dP_takeEdge_80
      · refine lv_lload hx hb dP_takeEdge_60 (lv_at hl 0 rfl) ?_
        refine lv_lconst (v := 0) hx hb dP_takeEdge_62 (by decide) ?_
        refine W.lcmp hx hb dP_takeEdge_63 ?_
        refine lv_if_lt (tgt := 80) hx hb dP_takeEdge_64 (by decide) (fun c_12 => ?_) (fun c_12 => ?_)
        · have es : s_takeEdge σ b i1 i2 x = (s_take σ b i1 ) := by unfold s_takeEdge; rw [if_neg c_1, if_pos c_10, if_neg c_11, if_pos c_12]
          exact W.vret hx hb hr (fun t ht9 hW => ⟨rfl, by show va_P D vwCl (gW cs ad (s_takeEdge σ b i1 i2 x) τ) t.heap; rw [ht9, es]; exact hP, hS.F ht9⟩) hS.2.2 dP_takeEdge_80
        · refine lv_aload_n hx hb dP_takeEdge_67 rfl (lv_at hl 2 rfl) ?_
          refine lv_aload_n hx hb dP_takeEdge_68 rfl (lv_at hl 4 rfl) ?_
          refine lv_aload_n hx hb dP_takeEdge_69 rfl (lv_at hl 3 rfl) ?_
          refine lv_lload hx hb dP_takeEdge_70 (lv_at hl 0 rfl) ?_
          refine lv_lload hx hb dP_takeEdge_72 (lv_at hl 1 rfl) ?_
          refine g_pure (v := .long (f_share (f_distance σ i2 x) (f_distance σ i1 x))) (va_runS (As := [.long (f_distance σ i2 x), .long (f_distance σ i1 x)]) (rest := [.ref (ad i1), .ref (ad i2), .ref (ad b)]) ⟨hx, hb, hml, hown, hts⟩ (c_share l (f_distance σ i2 x) (f_distance σ i1 x)) (qS 2 ht tw_144 tw_145 tw_4 tk_P_share rfl rfl (by decide +kernel) ⟨(Nat.le_of_ble_eq_true rfl), (Nat.le_of_ble_eq_true rfl)⟩) g_pt rfl rfl hl.1 rfl (lv_room (Nat.le_of_ble_eq_true rfl)) dP_takeEdge_74 ⟨Nat.zero_le _, Nat.zero_le _⟩) ?_
          refine g_runV (va_runV (C := RP) (As := [.ref (ad i2), .ref (ad i1), .long (f_share (f_distance σ i2 x) (f_distance σ i1 x))]) (rest := []) ⟨hx, hb, hml, hown, hts⟩ (c_takeBetween l hinj (s_take σ b i1 ) τ _ b i2 i1 (f_share (f_distance σ i2 x) (f_distance σ i1 x)) hb0 h2 k2 h1 k1 (take_nn hm)) (qV 3 ht tw_154 tw_156 ts_P_takeBetween tw_4 tk_P_takeBetween rfl rfl (by decide +kernel) ⟨(Nat.le_of_ble_eq_true rfl), (Nat.le_of_ble_eq_true rfl)⟩) (g_pv (ci := 3) hK hP (isP_lt0 hb0) rfl (kP hb0) rfl) rfl rfl hl.1 rfl (lv_room (Nat.le_of_ble_eq_true rfl)) dP_takeEdge_77 ⟨Nat.zero_le _, Nat.zero_le _⟩) hS (fun q _ h => gA_mono hS.1 q h) (fun q h => gA_mono hS.1 q h) (fun H locs hP hz hS => ?_)
          have es : s_takeEdge σ b i1 i2 x = (s_takeBetween (s_take σ b i1 ) b i2 i1 (f_share (f_distance σ i2 x) (f_distance σ i1 x))) := by unfold s_takeEdge; rw [if_neg c_1, if_pos c_10, if_neg c_11, if_neg c_12]
          exact W.vret hx hb hr (fun t ht9 hW => ⟨rfl, by show va_P D vwCl (gW cs ad (s_takeEdge σ b i1 i2 x) τ) t.heap; rw [ht9, es]; exact hP, hS.F ht9⟩) hS.2.2 dP_takeEdge_80
    · refine lv_lload hx hb dP_takeEdge_33 (lv_at hl 0 rfl) ?_
      refine lv_lconst (v := 0) hx hb dP_takeEdge_35 (by decide) ?_
      refine W.lcmp hx hb dP_takeEdge_36 ?_
      refine lv_if_ge (tgt := 53) hx hb dP_takeEdge_37 (by decide) (fun c_13 => ?_) (fun c_13 => ?_)
      · refine lv_lload hx hb dP_takeEdge_53 (lv_at hl 1 rfl) ?_
        refine lv_lconst (v := 0) hx hb dP_takeEdge_55 (by decide) ?_
        refine W.lcmp hx hb dP_takeEdge_56 ?_
        refine lv_if_ge (tgt := 80) hx hb dP_takeEdge_57 (by decide) (fun c_14 => ?_) (fun c_14 => ?_)
        · have es : s_takeEdge σ b i1 i2 x = (s_take σ b i1 ) := by unfold s_takeEdge; rw [if_neg c_1, if_neg c_10, if_pos c_13, if_pos c_14]
          exact W.vret hx hb hr (fun t ht9 hW => ⟨rfl, by show va_P D vwCl (gW cs ad (s_takeEdge σ b i1 i2 x) τ) t.heap; rw [ht9, es]; exact hP, hS.F ht9⟩) hS.2.2 dP_takeEdge_80
        · refine lv_lload hx hb dP_takeEdge_60 (lv_at hl 0 rfl) ?_
          refine lv_lconst (v := 0) hx hb dP_takeEdge_62 (by decide) ?_
          refine W.lcmp hx hb dP_takeEdge_63 ?_
          refine lv_if_lt (tgt := 80) hx hb dP_takeEdge_64 (by decide) (fun c_15 => ?_) (fun c_15 => ?_)
          · have es : s_takeEdge σ b i1 i2 x = (s_take σ b i1 ) := by unfold s_takeEdge; rw [if_neg c_1, if_neg c_10, if_pos c_13, if_neg c_14, if_pos c_15]
            exact W.vret hx hb hr (fun t ht9 hW => ⟨rfl, by show va_P D vwCl (gW cs ad (s_takeEdge σ b i1 i2 x) τ) t.heap; rw [ht9, es]; exact hP, hS.F ht9⟩) hS.2.2 dP_takeEdge_80
          · refine lv_aload_n hx hb dP_takeEdge_67 rfl (lv_at hl 2 rfl) ?_
            refine lv_aload_n hx hb dP_takeEdge_68 rfl (lv_at hl 4 rfl) ?_
            refine lv_aload_n hx hb dP_takeEdge_69 rfl (lv_at hl 3 rfl) ?_
            refine lv_lload hx hb dP_takeEdge_70 (lv_at hl 0 rfl) ?_
            refine lv_lload hx hb dP_takeEdge_72 (lv_at hl 1 rfl) ?_
            refine g_pure (v := .long (f_share (f_distance σ i2 x) (f_distance σ i1 x))) (va_runS (As := [.long (f_distance σ i2 x), .long (f_distance σ i1 x)]) (rest := [.ref (ad i1), .ref (ad i2), .ref (ad b)]) ⟨hx, hb, hml, hown, hts⟩ (c_share l (f_distance σ i2 x) (f_distance σ i1 x)) (qS 2 ht tw_144 tw_145 tw_4 tk_P_share rfl rfl (by decide +kernel) ⟨(Nat.le_of_ble_eq_true rfl), (Nat.le_of_ble_eq_true rfl)⟩) g_pt rfl rfl hl.1 rfl (lv_room (Nat.le_of_ble_eq_true rfl)) dP_takeEdge_74 ⟨Nat.zero_le _, Nat.zero_le _⟩) ?_
            refine g_runV (va_runV (C := RP) (As := [.ref (ad i2), .ref (ad i1), .long (f_share (f_distance σ i2 x) (f_distance σ i1 x))]) (rest := []) ⟨hx, hb, hml, hown, hts⟩ (c_takeBetween l hinj (s_take σ b i1 ) τ _ b i2 i1 (f_share (f_distance σ i2 x) (f_distance σ i1 x)) hb0 h2 k2 h1 k1 (take_nn hm)) (qV 3 ht tw_154 tw_156 ts_P_takeBetween tw_4 tk_P_takeBetween rfl rfl (by decide +kernel) ⟨(Nat.le_of_ble_eq_true rfl), (Nat.le_of_ble_eq_true rfl)⟩) (g_pv (ci := 3) hK hP (isP_lt0 hb0) rfl (kP hb0) rfl) rfl rfl hl.1 rfl (lv_room (Nat.le_of_ble_eq_true rfl)) dP_takeEdge_77 ⟨Nat.zero_le _, Nat.zero_le _⟩) hS (fun q _ h => gA_mono hS.1 q h) (fun q h => gA_mono hS.1 q h) (fun H locs hP hz hS => ?_)
            have es : s_takeEdge σ b i1 i2 x = (s_takeBetween (s_take σ b i1 ) b i2 i1 (f_share (f_distance σ i2 x) (f_distance σ i1 x))) := by unfold s_takeEdge; rw [if_neg c_1, if_neg c_10, if_pos c_13, if_neg c_14, if_neg c_15]
            exact W.vret hx hb hr (fun t ht9 hW => ⟨rfl, by show va_P D vwCl (gW cs ad (s_takeEdge σ b i1 i2 x) τ) t.heap; rw [ht9, es]; exact hP, hS.F ht9⟩) hS.2.2 dP_takeEdge_80
      · refine lv_aload_n hx hb dP_takeEdge_40 rfl (lv_at hl 2 rfl) ?_
        refine lv_aload_n hx hb dP_takeEdge_41 rfl (lv_at hl 3 rfl) ?_
        refine lv_aload_n hx hb dP_takeEdge_42 rfl (lv_at hl 4 rfl) ?_
        refine lv_lload hx hb dP_takeEdge_43 (lv_at hl 1 rfl) ?_
        refine lv_lload hx hb dP_takeEdge_45 (lv_at hl 0 rfl) ?_
        refine g_pure (v := .long (f_share (f_distance σ i1 x) (f_distance σ i2 x))) (va_runS (As := [.long (f_distance σ i1 x), .long (f_distance σ i2 x)]) (rest := [.ref (ad i2), .ref (ad i1), .ref (ad b)]) ⟨hx, hb, hml, hown, hts⟩ (c_share l (f_distance σ i1 x) (f_distance σ i2 x)) (qS 2 ht tw_144 tw_145 tw_4 tk_P_share rfl rfl (by decide +kernel) ⟨(Nat.le_of_ble_eq_true rfl), (Nat.le_of_ble_eq_true rfl)⟩) g_pt rfl rfl hl.1 rfl (lv_room (Nat.le_of_ble_eq_true rfl)) dP_takeEdge_47 ⟨Nat.zero_le _, Nat.zero_le _⟩) ?_
        refine g_runV (va_runV (C := RP) (As := [.ref (ad i1), .ref (ad i2), .long (f_share (f_distance σ i1 x) (f_distance σ i2 x))]) (rest := []) ⟨hx, hb, hml, hown, hts⟩ (c_takeBetween l hinj (s_take σ b i1 ) τ _ b i1 i2 (f_share (f_distance σ i1 x) (f_distance σ i2 x)) hb0 h1 k1 h2 k2 (take_nn hm)) (qV 3 ht tw_154 tw_156 ts_P_takeBetween tw_4 tk_P_takeBetween rfl rfl (by decide +kernel) ⟨(Nat.le_of_ble_eq_true rfl), (Nat.le_of_ble_eq_true rfl)⟩) (g_pv (ci := 3) hK hP (isP_lt0 hb0) rfl (kP hb0) rfl) rfl rfl hl.1 rfl (lv_room (Nat.le_of_ble_eq_true rfl)) dP_takeEdge_50 ⟨Nat.zero_le _, Nat.zero_le _⟩) hS (fun q _ h => gA_mono hS.1 q h) (fun q h => gA_mono hS.1 q h) (fun H locs hP hz hS => ?_)
        refine lv_lload hx hb dP_takeEdge_53 (lv_at hl 1 rfl) ?_
        refine lv_lconst (v := 0) hx hb dP_takeEdge_55 (by decide) ?_
        refine W.lcmp hx hb dP_takeEdge_56 ?_
        refine lv_if_ge (tgt := 80) hx hb dP_takeEdge_57 (by decide) (fun c_16 => ?_) (fun c_16 => ?_)
        · have es : s_takeEdge σ b i1 i2 x = (s_takeBetween (s_take σ b i1 ) b i1 i2 (f_share (f_distance σ i1 x) (f_distance σ i2 x))) := by unfold s_takeEdge; rw [if_neg c_1, if_neg c_10, if_neg c_13, if_pos c_16]
          exact W.vret hx hb hr (fun t ht9 hW => ⟨rfl, by show va_P D vwCl (gW cs ad (s_takeEdge σ b i1 i2 x) τ) t.heap; rw [ht9, es]; exact hP, hS.F ht9⟩) hS.2.2 dP_takeEdge_80
        · refine lv_lload hx hb dP_takeEdge_60 (lv_at hl 0 rfl) ?_
          refine lv_lconst (v := 0) hx hb dP_takeEdge_62 (by decide) ?_
          refine W.lcmp hx hb dP_takeEdge_63 ?_
          refine lv_if_lt (tgt := 80) hx hb dP_takeEdge_64 (by decide) (fun c_17 => ?_) (fun c_17 => ?_)
          · have es : s_takeEdge σ b i1 i2 x = (s_takeBetween (s_take σ b i1 ) b i1 i2 (f_share (f_distance σ i1 x) (f_distance σ i2 x))) := by unfold s_takeEdge; rw [if_neg c_1, if_neg c_10, if_neg c_13, if_neg c_16, if_pos c_17]
            exact W.vret hx hb hr (fun t ht9 hW => ⟨rfl, by show va_P D vwCl (gW cs ad (s_takeEdge σ b i1 i2 x) τ) t.heap; rw [ht9, es]; exact hP, hS.F ht9⟩) hS.2.2 dP_takeEdge_80
          · refine lv_aload_n hx hb dP_takeEdge_67 rfl (lv_at hl 2 rfl) ?_
            refine lv_aload_n hx hb dP_takeEdge_68 rfl (lv_at hl 4 rfl) ?_
            refine lv_aload_n hx hb dP_takeEdge_69 rfl (lv_at hl 3 rfl) ?_
            refine lv_lload hx hb dP_takeEdge_70 (lv_at hl 0 rfl) ?_
            refine lv_lload hx hb dP_takeEdge_72 (lv_at hl 1 rfl) ?_
            refine g_pure (v := .long (f_share (f_distance σ i2 x) (f_distance σ i1 x))) (va_runS (As := [.long (f_distance σ i2 x), .long (f_distance σ i1 x)]) (rest := [.ref (ad i1), .ref (ad i2), .ref (ad b)]) ⟨hx, hb, hml, hown, hts⟩ (c_share l (f_distance σ i2 x) (f_distance σ i1 x)) (qS 2 ht tw_144 tw_145 tw_4 tk_P_share rfl rfl (by decide +kernel) ⟨(Nat.le_of_ble_eq_true rfl), (Nat.le_of_ble_eq_true rfl)⟩) g_pt rfl rfl hl.1 rfl (lv_room (Nat.le_of_ble_eq_true rfl)) dP_takeEdge_74 ⟨Nat.zero_le _, Nat.zero_le _⟩) ?_
            refine g_runV (va_runV (C := RP) (As := [.ref (ad i2), .ref (ad i1), .long (f_share (f_distance σ i2 x) (f_distance σ i1 x))]) (rest := []) ⟨hx, hb, hml, hown, hts⟩ (c_takeBetween l hinj (s_takeBetween (s_take σ b i1 ) b i1 i2 (f_share (f_distance σ i1 x) (f_distance σ i2 x))) τ _ b i2 i1 (f_share (f_distance σ i2 x) (f_distance σ i1 x)) hb0 h2 k2 h1 k1 (tb_nn (take_nn hm))) (qV 3 ht tw_154 tw_156 ts_P_takeBetween tw_4 tk_P_takeBetween rfl rfl (by decide +kernel) ⟨(Nat.le_of_ble_eq_true rfl), (Nat.le_of_ble_eq_true rfl)⟩) (g_pv (ci := 3) hK hP (isP_lt0 hb0) rfl (kP hb0) rfl) rfl rfl hl.1 rfl (lv_room (Nat.le_of_ble_eq_true rfl)) dP_takeEdge_77 ⟨Nat.zero_le _, Nat.zero_le _⟩) hS (fun q _ h => gA_mono hS.1 q h) (fun q h => gA_mono hS.1 q h) (fun H locs hP hz hS => ?_)
            have es : s_takeEdge σ b i1 i2 x = (s_takeBetween (s_takeBetween (s_take σ b i1 ) b i1 i2 (f_share (f_distance σ i1 x) (f_distance σ i2 x))) b i2 i1 (f_share (f_distance σ i2 x) (f_distance σ i1 x))) := by unfold s_takeEdge; rw [if_neg c_1, if_neg c_10, if_neg c_13, if_neg c_16, if_neg c_17]
            exact W.vret hx hb hr (fun t ht9 hW => ⟨rfl, by show va_P D vwCl (gW cs ad (s_takeEdge σ b i1 i2 x) τ) t.heap; rw [ht9, es]; exact hP, hS.F ht9⟩) hS.2.2 dP_takeEdge_80
