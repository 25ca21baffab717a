def f_rside (σ : Nat → Nat → Int32)  (a0 : Int32) : Int32 :=
  if (f_in_ a0 (0 : Int32) ((σ 35 11) - 1)) = 0 then
    0
  else
    if (lg_cmp (f_rareaOf (w2 σ 35 0 (0 : Int32))  a0) 0) ≤ 0 then
      if (0 : Int32) = ((w2 σ 35 0 (0 : Int32)) 35 6) then
        if (lg_cmp (f_rareaOf (w2 σ 35 0 (0 : Int32))  a0) 0) = 0 then
          (-1)
        else
          if ((((w2 σ 35 0 (0 : Int32)) 35 5) >>> ((1 : Int32) &&& 31)) &&& 1) = 1 then
            (-1)
          else
            1
      else
        if (lg_cmp (f_rareaOf (w2 σ 35 0 (0 : Int32))  a0) 0) = 0 then
          (-1)
        else
          if ((((w2 σ 35 0 (0 : Int32)) 35 5) >>> ((0 : Int32) &&& 31)) &&& 1) = 1 then
            (-1)
          else
            0
    else
      if (1 : Int32) = ((w2 σ 35 0 (0 : Int32)) 35 6) then
        if (lg_cmp (f_rareaOf (w2 σ 35 0 (0 : Int32))  a0) 0) = 0 then
          (-1)
        else
          if ((((w2 σ 35 0 (0 : Int32)) 35 5) >>> ((1 : Int32) &&& 31)) &&& 1) = 1 then
            (-1)
          else
            1
      else
        if (lg_cmp (f_rareaOf (w2 σ 35 0 (0 : Int32))  a0) 0) = 0 then
          (-1)
        else
          if ((((w2 σ 35 0 (0 : Int32)) 35 5) >>> ((0 : Int32) &&& 31)) &&& 1) = 1 then
            (-1)
          else
            0
def s_rside (σ : Nat → Nat → Int32)  (a0 : Int32) : Nat → Nat → Int32 :=
  if (f_in_ a0 (0 : Int32) ((σ 35 11) - 1)) = 0 then
    (w2 σ 35 0 (1 : Int32))
  else
    if (lg_cmp (f_rareaOf (w2 σ 35 0 (0 : Int32))  a0) 0) ≤ 0 then
      if (0 : Int32) = ((w2 σ 35 0 (0 : Int32)) 35 6) then
        if (lg_cmp (f_rareaOf (w2 σ 35 0 (0 : Int32))  a0) 0) = 0 then
          (w2 σ 35 0 (0 : Int32))
        else
          if ((((w2 σ 35 0 (0 : Int32)) 35 5) >>> ((1 : Int32) &&& 31)) &&& 1) = 1 then
            (w2 σ 35 0 (0 : Int32))
          else
            (w2 σ 35 0 (0 : Int32))
      else
        if (lg_cmp (f_rareaOf (w2 σ 35 0 (0 : Int32))  a0) 0) = 0 then
          (w2 σ 35 0 (0 : Int32))
        else
          if ((((w2 σ 35 0 (0 : Int32)) 35 5) >>> ((0 : Int32) &&& 31)) &&& 1) = 1 then
            (w2 σ 35 0 (0 : Int32))
          else
            (w2 σ 35 0 (0 : Int32))
    else
      if (1 : Int32) = ((w2 σ 35 0 (0 : Int32)) 35 6) then
        if (lg_cmp (f_rareaOf (w2 σ 35 0 (0 : Int32))  a0) 0) = 0 then
          (w2 σ 35 0 (0 : Int32))
        else
          if ((((w2 σ 35 0 (0 : Int32)) 35 5) >>> ((1 : Int32) &&& 31)) &&& 1) = 1 then
            (w2 σ 35 0 (0 : Int32))
          else
            (w2 σ 35 0 (0 : Int32))
      else
        if (lg_cmp (f_rareaOf (w2 σ 35 0 (0 : Int32))  a0) 0) = 0 then
          (w2 σ 35 0 (0 : Int32))
        else
          if ((((w2 σ 35 0 (0 : Int32)) 35 5) >>> ((0 : Int32) &&& 31)) &&& 1) = 1 then
            (w2 σ 35 0 (0 : Int32))
          else
            (w2 σ 35 0 (0 : Int32))
set_option maxHeartbeats 800000 in
set_option maxRecDepth 100000 in
theorem c_rside (l : Launch) {D : va_G} {cs : Nat → ClassId} {ad : Nat → Nat} (hinj : gI ad) (σ : Nat → Nat → Int32) (τ : Nat → Nat → Int64) (sz : Nat)  (a0 : Int32) (hmd : 0 ≤ (σ 35 11).toInt ∧ (σ 35 11).toInt ≤ 3) : Met l yR_side (wsB kR_side) ({ frames := 2, cells := 0, slots := 0, locals := 48 } : Room) (va_Pc [.ref (ad 35), .int a0] (gP D cs ad σ τ sz)) (gQ (some (.int (f_rside σ a0))) (gB D cs ad (s_rside σ a0) τ) (gA NC ad sz)) 0 0 (gA NC ad sz) := by
  refine Met.ofW (cc := cR_side) (maxL := 6) (ret := (some .int)) (by decide) rfl ?_
  intro p e s m args below meth c s₁ B hml hv
  obtain ⟨rfl, hsz, hP, hK⟩ := hv
  have hx := B.exec
  have hb := B.bytes
  have hr := B.returns
  have hts := atoms_spec (ws := wsB kR_side) B.pre
  have ht := hbig hts
  have hown : s.vm.findClass RR = some m.cls := findClass_of_methodNamed B.named
  have hlocks := B.notSynchronized
  subst hsz
  have hD : ∀ σ τ, va_D (gA NC ad s.heap.size) (gW cs ad σ τ) := fun _ _ => gw_D hinj (fun i h => gA_ad h)
  have hS : va_S (gA NC ad s.heap.size) s.heap s.heap [] := va_S.rf
  have hl := lv_entry ([.ref (ad 35), .int a0]) (n := 6) (Nat.le_of_ble_eq_true rfl)
  rw [lg_entry_eq]
  generalize (lg_sl ([.ref (ad 35), .int a0]) ++ List.replicate (6 - (lg_sl ([.ref (ad 35), .int a0])).length) Slot.unset).toArray = ls at hl ⊢
  have hl : lv_has ls 6 [(0, .ref (ad 35)), (1, .int a0)] := hl
  refine lv_aload_n hx hb dR_side_0 rfl (lv_at hl 0 rfl) ?_
  refine lv_iload_n hx hb dR_side_1 rfl (lv_at hl 1 rfl) ?_
  refine lv_iconst (v := 0) hx hb dR_side_2 (by decide) ?_
  refine lv_aload_n hx hb dR_side_3 rfl (lv_at hl 0 rfl) ?_
  refine g_get (ci := 5) (C := RR) (T := TR) (M := 13) (v := .int (σ 35 11)) hx hb ht inR hown hK hP 35 (by decide) kR rfl 11 (by decide) (ht _ tw_463) (fun _ h9 => h9) rfl dR_side_4 ?_
  refine lv_iconst (v := 1) hx hb dR_side_7 (by decide) ?_
  refine lv_isub hx hb dR_side_8 ?_
  refine g_pure (v := .int (f_in_ a0 (0 : Int32) ((σ 35 11) - 1))) (va_runS (As := [.int a0, .int 0, .int ((σ 35 11) - 1)]) (rest := [.ref (ad 35)]) ⟨hx, hb, hml, hown, hts⟩ (c_in_ l a0 (0 : Int32) ((σ 35 11) - 1)) (qS 3 ht tw_500 tw_501 tw_6 tk_R_in_ rfl rfl (by decide +kernel) ⟨(Nat.le_of_ble_eq_true rfl), (Nat.le_of_ble_eq_true rfl)⟩) g_pt rfl rfl hl.1 rfl (lv_room (Nat.le_of_ble_eq_true rfl)) dR_side_9 ⟨Nat.zero_le _, Nat.zero_le _⟩) ?_
  refine lv_if_ne (tgt := 19) hx hb dR_side_12 (by decide) (fun c_1 => ?_) (fun c_1 => ?_)
  · refine lv_iconst (v := 0) hx hb dR_side_19 (by decide) ?_
    refine lv_iconst (v := 0) hx hb dR_side_20 (by decide) ?_
    refine g_runR (v := .int (f_refuse σ  (0 : Int32) (0 : Int32))) (va_runV (C := RR) (As := [.int 0, .int 0]) (rest := []) ⟨hx, hb, hml, hown, hts⟩ (c_refuse l hinj σ τ _  (0 : Int32) (0 : Int32) ) (qV 2 ht tw_503 tw_505 ts_R_refuse tw_6 tk_R_refuse rfl rfl (by decide +kernel) ⟨(Nat.le_of_ble_eq_true rfl), (Nat.le_of_ble_eq_true rfl)⟩) (g_pv (ci := 5) hK hP (by decide) rfl kR rfl) rfl rfl hl.1 rfl (lv_room (Nat.le_of_ble_eq_true rfl)) dR_side_21 ⟨Nat.zero_le _, Nat.zero_le _⟩) hS (fun q _ h => gA_mono hS.1 q h) (fun q h => gA_mono hS.1 q h) (fun H locs hP hz hS => ?_)
    have hP : va_P D vwCl (gW cs ad (w2 σ 35 0 0) τ) H := by have h9 : va_P D vwCl (gW cs ad (s_refuse σ  (0 : Int32) (0 : Int32)) τ) H := hP; rw [srefuse_00] at h9; exact h9
    refine lv_topi (fun z_2 ez_2 => ?_)
    have ez_2 : z_2 = 0 := ez_2.trans frefuse_00
    subst ez_2
    refine lv_if_eq (tgt := 29) hx hb dR_side_24 (by decide) (fun c_3 => ?_) (fun c_3 => ?_)
    · refine lv_aload_n hx hb dR_side_29 rfl (lv_at hl 0 rfl) ?_
      refine lv_iload_n hx hb dR_side_30 rfl (lv_at hl 1 rfl) ?_
      refine g_pure (v := .long (f_rareaOf (w2 σ 35 0 (0 : Int32))  a0)) (va_runV (C := RR) (As := [.int a0]) (rest := []) ⟨hx, hb, hml, hown, hts⟩ (c_rareaOf l hinj (w2 σ 35 0 (0 : Int32)) τ _  a0 (made_b c_1 hmd)) (qV 1 ht tw_601 tw_603 ts_R_areaOf tw_6 tk_R_areaOf rfl rfl (by decide +kernel) ⟨(Nat.le_of_ble_eq_true rfl), (Nat.le_of_ble_eq_true rfl)⟩) (g_pv (ci := 5) hK hP (by decide) rfl kR rfl) rfl rfl hl.1 rfl (lv_room (Nat.le_of_ble_eq_true rfl)) dR_side_31 ⟨Nat.zero_le _, Nat.zero_le _⟩) ?_
      refine lv_lstore_n (lv' := [(2, .long (f_rareaOf (w2 σ 35 0 (0 : Int32))  a0)), (0, .ref (ad 35)), (1, .int a0)]) hx hb dR_side_34 rfl hl (by decide) rfl (fun ls hl => ?_)
      refine lv_lload_n hx hb dR_side_35 rfl (lv_at hl 0 rfl) ?_
      refine lv_lconst (v := 0) hx hb dR_side_36 (by decide) ?_
      refine W.lcmp hx hb dR_side_37 ?_
      refine lv_if_le (tgt := 45) hx hb dR_side_38 (by decide) (fun c_4 => ?_) (fun c_4 => ?_)
      · refine lv_iconst (v := 0) hx hb dR_side_45 (by decide) ?_
        refine lv_aload_n hx hb dR_side_46 rfl (lv_at hl 1 rfl) ?_
        refine g_get (ci := 5) (C := RR) (T := TR) (M := 13) (v := .int ((w2 σ 35 0 (0 : Int32)) 35 6)) hx hb ht inR hown hK hP 35 (by decide) kR rfl 6 (by decide) (ht _ tw_458) (fun _ h9 => h9) rfl dR_side_47 ?_
        refine lv_icmp_eq (tgt := 57) hx hb dR_side_50 (by decide) (fun c_5 => ?_) (fun c_5 => ?_)
        · refine lv_iconst (v := 1) hx hb dR_side_57 (by decide) ?_
          refine lv_istore (lv' := [(4, .int 1), (2, .long (f_rareaOf (w2 σ 35 0 (0 : Int32))  a0)), (0, .ref (ad 35)), (1, .int a0)]) hx hb dR_side_58 hl (by decide) rfl (fun ls hl => ?_)
          refine lv_lload_n hx hb dR_side_60 rfl (lv_at hl 1 rfl) ?_
          refine lv_lconst (v := 0) hx hb dR_side_61 (by decide) ?_
          refine W.lcmp hx hb dR_side_62 ?_
          refine lv_if_eq (tgt := 79) hx hb dR_side_63 (by decide) (fun c_6 => ?_) (fun c_6 => ?_)
          · refine lv_iconst (v := 1) hx hb dR_side_79 (by decide) ?_
            refine lv_goto (tgt := 84) hx hb dR_side_80 (by decide) ?_
            refine lv_istore (lv' := [(5, .int 1), (4, .int 1), (2, .long (f_rareaOf (w2 σ 35 0 (0 : Int32))  a0)), (0, .ref (ad 35)), (1, .int a0)]) hx hb dR_side_84 hl (by decide) rfl (fun ls hl => ?_)
            refine lv_iload hx hb dR_side_86 (lv_at hl 0 rfl) ?_
            refine lv_if_eq (tgt := 95) hx hb dR_side_88 (by decide) (fun c_7 => ?_) (fun c_7 => ?_)
            · exact absurd c_7 (by decide)
            · refine lv_iconst (v := (-1)) hx hb dR_side_91 (by decide) ?_
              refine lv_goto (tgt := 97) hx hb dR_side_92 (by decide) ?_
              have ev : f_rside σ a0 = (-1) := by unfold f_rside; rw [if_neg c_1, if_pos c_4, if_pos c_5, if_pos c_6]
              have es : s_rside σ a0 = (w2 σ 35 0 (0 : Int32)) := by unfold s_rside; rw [if_neg c_1, if_pos c_4, if_pos c_5, if_pos c_6]
              exact W.iret (v := (-1)) hx hb hr (fun t ht9 hW => ⟨by rw [ev], by show va_P D vwCl (gW cs ad (s_rside σ a0) τ) t.heap; rw [ht9, es]; exact hP, hS.F ht9⟩) hS.2.2 dR_side_97
          · refine lv_aload_n hx hb dR_side_66 rfl (lv_at hl 2 rfl) ?_
            refine g_get (ci := 5) (C := RR) (T := TR) (M := 13) (v := .int ((w2 σ 35 0 (0 : Int32)) 35 5)) hx hb ht inR hown hK hP 35 (by decide) kR rfl 5 (by decide) (ht _ tw_457) (fun _ h9 => h9) rfl dR_side_67 ?_
            refine lv_iload hx hb dR_side_70 (lv_at hl 0 rfl) ?_
            refine lv_ishr hx hb dR_side_72 ?_
            refine lv_iconst (v := 1) hx hb dR_side_73 (by decide) ?_
            refine lv_iand hx hb dR_side_74 ?_
            refine lv_iconst (v := 1) hx hb dR_side_75 (by decide) ?_
            refine lv_icmp_ne (tgt := 83) hx hb dR_side_76 (by decide) (fun c_8 => ?_) (fun c_8 => ?_)
            · refine lv_iconst (v := 0) hx hb dR_side_83 (by decide) ?_
              refine lv_istore (lv' := [(5, .int 0), (4, .int 1), (2, .long (f_rareaOf (w2 σ 35 0 (0 : Int32))  a0)), (0, .ref (ad 35)), (1, .int a0)]) hx hb dR_side_84 hl (by decide) rfl (fun ls hl => ?_)
              refine lv_iload hx hb dR_side_86 (lv_at hl 0 rfl) ?_
              refine lv_if_eq (tgt := 95) hx hb dR_side_88 (by decide) (fun c_9 => ?_) (fun c_9 => ?_)
              · refine lv_iload hx hb dR_side_95 (lv_at hl 1 rfl) ?_
                have ev : f_rside σ a0 = 1 := by unfold f_rside; rw [if_neg c_1, if_pos c_4, if_pos c_5, if_neg c_6, if_neg c_8]
                have es : s_rside σ a0 = (w2 σ 35 0 (0 : Int32)) := by unfold s_rside; rw [if_neg c_1, if_pos c_4, if_pos c_5, if_neg c_6, if_neg c_8]
                exact W.iret (v := 1) hx hb hr (fun t ht9 hW => ⟨by rw [ev], by show va_P D vwCl (gW cs ad (s_rside σ a0) τ) t.heap; rw [ht9, es]; exact hP, hS.F ht9⟩) hS.2.2 dR_side_97
              · exact absurd (by decide) c_9
            · refine lv_iconst (v := 1) hx hb dR_side_79 (by decide) ?_
              refine lv_goto (tgt := 84) hx hb dR_side_80 (by decide) ?_
              refine lv_istore (lv' := [(5, .int 1), (4, .int 1), (2, .long (f_rareaOf (w2 σ 35 0 (0 : Int32))  a0)), (0, .ref (ad 35)), (1, .int a0)]) hx hb dR_side_84 hl (by decide) rfl (fun ls hl => ?_)
              refine lv_iload hx hb dR_side_86 (lv_at hl 0 rfl) ?_
              refine lv_if_eq (tgt := 95) hx hb dR_side_88 (by decide) (fun c_10 => ?_) (fun c_10 => ?_)
              · exact absurd c_10 (by decide)
              · refine lv_iconst (v := (-1)) hx hb dR_side_91 (by decide) ?_
                refine lv_goto (tgt := 97) hx hb dR_side_92 (by decide) ?_
                have ev : f_rside σ a0 = (-1) := by unfold f_rside; rw [if_neg c_1, if_pos c_4, if_pos c_5, if_neg c_6, if_pos c_8]
                have es : s_rside σ a0 = (w2 σ 35 0 (0 : Int32)) := by unfold s_rside; rw [if_neg c_1, if_pos c_4, if_pos c_5, if_neg c_6, if_pos c_8]
                exact W.iret (v := (-1)) hx hb hr (fun t ht9 hW => ⟨by rw [ev], by show va_P D vwCl (gW cs ad (s_rside σ a0) τ) t.heap; rw [ht9, es]; exact hP, hS.F ht9⟩) hS.2.2 dR_side_97
        · refine lv_iconst (v := 0) hx hb dR_side_53 (by decide) ?_
          refine lv_goto (tgt := 58) hx hb dR_side_54 (by decide) ?_
          refine lv_istore (lv' := [(4, .int 0), (2, .long (f_rareaOf (w2 σ 35 0 (0 : Int32))  a0)), (0, .ref (ad 35)), (1, .int a0)]) hx hb dR_side_58 hl (by decide) rfl (fun ls hl => ?_)
          refine lv_lload_n hx hb dR_side_60 rfl (lv_at hl 1 rfl) ?_
          refine lv_lconst (v := 0) hx hb dR_side_61 (by decide) ?_
          refine W.lcmp hx hb dR_side_62 ?_
          refine lv_if_eq (tgt := 79) hx hb dR_side_63 (by decide) (fun c_11 => ?_) (fun c_11 => ?_)
          · refine lv_iconst (v := 1) hx hb dR_side_79 (by decide) ?_
            refine lv_goto (tgt := 84) hx hb dR_side_80 (by decide) ?_
            refine lv_istore (lv' := [(5, .int 1), (4, .int 0), (2, .long (f_rareaOf (w2 σ 35 0 (0 : Int32))  a0)), (0, .ref (ad 35)), (1, .int a0)]) hx hb dR_side_84 hl (by decide) rfl (fun ls hl => ?_)
            refine lv_iload hx hb dR_side_86 (lv_at hl 0 rfl) ?_
            refine lv_if_eq (tgt := 95) hx hb dR_side_88 (by decide) (fun c_12 => ?_) (fun c_12 => ?_)
            · exact absurd c_12 (by decide)
            · refine lv_iconst (v := (-1)) hx hb dR_side_91 (by decide) ?_
              refine lv_goto (tgt := 97) hx hb dR_side_92 (by decide) ?_
              have ev : f_rside σ a0 = (-1) := by unfold f_rside; rw [if_neg c_1, if_pos c_4, if_neg c_5, if_pos c_11]
              have es : s_rside σ a0 = (w2 σ 35 0 (0 : Int32)) := by unfold s_rside; rw [if_neg c_1, if_pos c_4, if_neg c_5, if_pos c_11]
              exact W.iret (v := (-1)) hx hb hr (fun t ht9 hW => ⟨by rw [ev], by show va_P D vwCl (gW cs ad (s_rside σ a0) τ) t.heap; rw [ht9, es]; exact hP, hS.F ht9⟩) hS.2.2 dR_side_97
          · refine lv_aload_n hx hb dR_side_66 rfl (lv_at hl 2 rfl) ?_
            refine g_get (ci := 5) (C := RR) (T := TR) (M := 13) (v := .int ((w2 σ 35 0 (0 : Int32)) 35 5)) hx hb ht inR hown hK hP 35 (by decide) kR rfl 5 (by decide) (ht _ tw_457) (fun _ h9 => h9) rfl dR_side_67 ?_
            refine lv_iload hx hb dR_side_70 (lv_at hl 0 rfl) ?_
            refine lv_ishr hx hb dR_side_72 ?_
            refine lv_iconst (v := 1) hx hb dR_side_73 (by decide) ?_
            refine lv_iand hx hb dR_side_74 ?_
            refine lv_iconst (v := 1) hx hb dR_side_75 (by decide) ?_
            refine lv_icmp_ne (tgt := 83) hx hb dR_side_76 (by decide) (fun c_13 => ?_) (fun c_13 => ?_)
            · refine lv_iconst (v := 0) hx hb dR_side_83 (by decide) ?_
              refine lv_istore (lv' := [(5, .int 0), (4, .int 0), (2, .long (f_rareaOf (w2 σ 35 0 (0 : Int32))  a0)), (0, .ref (ad 35)), (1, .int a0)]) hx hb dR_side_84 hl (by decide) rfl (fun ls hl => ?_)
              refine lv_iload hx hb dR_side_86 (lv_at hl 0 rfl) ?_
              refine lv_if_eq (tgt := 95) hx hb dR_side_88 (by decide) (fun c_14 => ?_) (fun c_14 => ?_)
              · refine lv_iload hx hb dR_side_95 (lv_at hl 1 rfl) ?_
                have ev : f_rside σ a0 = 0 := by unfold f_rside; rw [if_neg c_1, if_pos c_4, if_neg c_5, if_neg c_11, if_neg c_13]
                have es : s_rside σ a0 = (w2 σ 35 0 (0 : Int32)) := by unfold s_rside; rw [if_neg c_1, if_pos c_4, if_neg c_5, if_neg c_11, if_neg c_13]
                exact W.iret (v := 0) hx hb hr (fun t ht9 hW => ⟨by rw [ev], by show va_P D vwCl (gW cs ad (s_rside σ a0) τ) t.heap; rw [ht9, es]; exact hP, hS.F ht9⟩) hS.2.2 dR_side_97
              · exact absurd (by decide) c_14
            · refine lv_iconst (v := 1) hx hb dR_side_79 (by decide) ?_
              refine lv_goto (tgt := 84) hx hb dR_side_80 (by decide) ?_
              refine lv_istore (lv' := [(5, .int 1), (4, .int 0), (2, .long (f_rareaOf (w2 σ 35 0 (0 : Int32))  a0)), (0, .ref (ad 35)), (1, .int a0)]) hx hb dR_side_84 hl (by decide) rfl (fun ls hl => ?_)
              refine lv_iload hx hb dR_side_86 (lv_at hl 0 rfl) ?_
              refine lv_if_eq (tgt := 95) hx hb dR_side_88 (by decide) (fun c_15 => ?_) (fun c_15 => ?_)
              · exact absurd c_15 (by decide)
              · refine lv_iconst (v := (-1)) hx hb dR_side_91 (by decide) ?_
                refine lv_goto (tgt := 97) hx hb dR_side_92 (by decide) ?_
                have ev : f_rside σ a0 = (-1) := by unfold f_rside; rw [if_neg c_1, if_pos c_4, if_neg c_5, if_neg c_11, if_pos c_13]
                have es : s_rside σ a0 = (w2 σ 35 0 (0 : Int32)) := by unfold s_rside; rw [if_neg c_1, if_pos c_4, if_neg c_5, if_neg c_11, if_pos c_13]
                exact W.iret (v := (-1)) hx hb hr (fun t ht9 hW => ⟨by rw [ev], by show va_P D vwCl (gW cs ad (s_rside σ a0) τ) t.heap; rw [ht9, es]; exact hP, hS.F ht9⟩) hS.2.2 dR_side_97
      · refine lv_iconst (v := 1) hx hb dR_side_41 (by decide) ?_
        refine lv_goto (tgt := 46) hx hb dR_side_42 (by decide) ?_
        refine lv_aload_n hx hb dR_side_46 rfl (lv_at hl 1 rfl) ?_
        refine g_get (ci := 5) (C := RR) (T := TR) (M := 13) (v := .int ((w2 σ 35 0 (0 : Int32)) 35 6)) hx hb ht inR hown hK hP 35 (by decide) kR rfl 6 (by decide) (ht _ tw_458) (fun _ h9 => h9) rfl dR_side_47 ?_
        refine lv_icmp_eq (tgt := 57) hx hb dR_side_50 (by decide) (fun c_16 => ?_) (fun c_16 => ?_)
        · refine lv_iconst (v := 1) hx hb dR_side_57 (by decide) ?_
          refine lv_istore (lv' := [(4, .int 1), (2, .long (f_rareaOf (w2 σ 35 0 (0 : Int32))  a0)), (0, .ref (ad 35)), (1, .int a0)]) hx hb dR_side_58 hl (by decide) rfl (fun ls hl => ?_)
          refine lv_lload_n hx hb dR_side_60 rfl (lv_at hl 1 rfl) ?_
          refine lv_lconst (v := 0) hx hb dR_side_61 (by decide) ?_
          refine W.lcmp hx hb dR_side_62 ?_
          refine lv_if_eq (tgt := 79) hx hb dR_side_63 (by decide) (fun c_17 => ?_) (fun c_17 => ?_)
          · refine lv_iconst (v := 1) hx hb dR_side_79 (by decide) ?_
            refine lv_goto (tgt := 84) hx hb dR_side_80 (by decide) ?_
            refine lv_istore (lv' := [(5, .int 1), (4, .int 1), (2, .long (f_rareaOf (w2 σ 35 0 (0 : Int32))  a0)), (0, .ref (ad 35)), (1, .int a0)]) hx hb dR_side_84 hl (by decide) rfl (fun ls hl => ?_)
            refine lv_iload hx hb dR_side_86 (lv_at hl 0 rfl) ?_
            refine lv_if_eq (tgt := 95) hx hb dR_side_88 (by decide) (fun c_18 => ?_) (fun c_18 => ?_)
            · exact absurd c_18 (by decide)
            · refine lv_iconst (v := (-1)) hx hb dR_side_91 (by decide) ?_
              refine lv_goto (tgt := 97) hx hb dR_side_92 (by decide) ?_
              have ev : f_rside σ a0 = (-1) := by unfold f_rside; rw [if_neg c_1, if_neg c_4, if_pos c_16, if_pos c_17]
              have es : s_rside σ a0 = (w2 σ 35 0 (0 : Int32)) := by unfold s_rside; rw [if_neg c_1, if_neg c_4, if_pos c_16, if_pos c_17]
              exact W.iret (v := (-1)) hx hb hr (fun t ht9 hW => ⟨by rw [ev], by show va_P D vwCl (gW cs ad (s_rside σ a0) τ) t.heap; rw [ht9, es]; exact hP, hS.F ht9⟩) hS.2.2 dR_side_97
          · refine lv_aload_n hx hb dR_side_66 rfl (lv_at hl 2 rfl) ?_
            refine g_get (ci := 5) (C := RR) (T := TR) (M := 13) (v := .int ((w2 σ 35 0 (0 : Int32)) 35 5)) hx hb ht inR hown hK hP 35 (by decide) kR rfl 5 (by decide) (ht _ tw_457) (fun _ h9 => h9) rfl dR_side_67 ?_
            refine lv_iload hx hb dR_side_70 (lv_at hl 0 rfl) ?_
            refine lv_ishr hx hb dR_side_72 ?_
            refine lv_iconst (v := 1) hx hb dR_side_73 (by decide) ?_
            refine lv_iand hx hb dR_side_74 ?_
            refine lv_iconst (v := 1) hx hb dR_side_75 (by decide) ?_
            refine lv_icmp_ne (tgt := 83) hx hb dR_side_76 (by decide) (fun c_19 => ?_) (fun c_19 => ?_)
            · refine lv_iconst (v := 0) hx hb dR_side_83 (by decide) ?_
              refine lv_istore (lv' := [(5, .int 0), (4, .int 1), (2, .long (f_rareaOf (w2 σ 35 0 (0 : Int32))  a0)), (0, .ref (ad 35)), (1, .int a0)]) hx hb dR_side_84 hl (by decide) rfl (fun ls hl => ?_)
              refine lv_iload hx hb dR_side_86 (lv_at hl 0 rfl) ?_
              refine lv_if_eq (tgt := 95) hx hb dR_side_88 (by decide) (fun c_20 => ?_) (fun c_20 => ?_)
              · refine lv_iload hx hb dR_side_95 (lv_at hl 1 rfl) ?_
                have ev : f_rside σ a0 = 1 := by unfold f_rside; rw [if_neg c_1, if_neg c_4, if_pos c_16, if_neg c_17, if_neg c_19]
                have es : s_rside σ a0 = (w2 σ 35 0 (0 : Int32)) := by unfold s_rside; rw [if_neg c_1, if_neg c_4, if_pos c_16, if_neg c_17, if_neg c_19]
                exact W.iret (v := 1) hx hb hr (fun t ht9 hW => ⟨by rw [ev], by show va_P D vwCl (gW cs ad (s_rside σ a0) τ) t.heap; rw [ht9, es]; exact hP, hS.F ht9⟩) hS.2.2 dR_side_97
              · exact absurd (by decide) c_20
            · refine lv_iconst (v := 1) hx hb dR_side_79 (by decide) ?_
              refine lv_goto (tgt := 84) hx hb dR_side_80 (by decide) ?_
              refine lv_istore (lv' := [(5, .int 1), (4, .int 1), (2, .long (f_rareaOf (w2 σ 35 0 (0 : Int32))  a0)), (0, .ref (ad 35)), (1, .int a0)]) hx hb dR_side_84 hl (by decide) rfl (fun ls hl => ?_)
              refine lv_iload hx hb dR_side_86 (lv_at hl 0 rfl) ?_
              refine lv_if_eq (tgt := 95) hx hb dR_side_88 (by decide) (fun c_21 => ?_) (fun c_21 => ?_)
              · exact absurd c_21 (by decide)
              · refine lv_iconst (v := (-1)) hx hb dR_side_91 (by decide) ?_
                refine lv_goto (tgt := 97) hx hb dR_side_92 (by decide) ?_
                have ev : f_rside σ a0 = (-1) := by unfold f_rside; rw [if_neg c_1, if_neg c_4, if_pos c_16, if_neg c_17, if_pos c_19]
                have es : s_rside σ a0 = (w2 σ 35 0 (0 : Int32)) := by unfold s_rside; rw [if_neg c_1, if_neg c_4, if_pos c_16, if_neg c_17, if_pos c_19]
                exact W.iret (v := (-1)) hx hb hr (fun t ht9 hW => ⟨by rw [ev], by show va_P D vwCl (gW cs ad (s_rside σ a0) τ) t.heap; rw [ht9, es]; exact hP, hS.F ht9⟩) hS.2.2 dR_side_97
        · refine lv_iconst (v := 0) hx hb dR_side_53 (by decide) ?_
          refine lv_goto (tgt := 58) hx hb dR_side_54 (by decide) ?_
          refine lv_istore (lv' := [(4, .int 0), (2, .long (f_rareaOf (w2 σ 35 0 (0 : Int32))  a0)), (0, .ref (ad 35)), (1, .int a0)]) hx hb dR_side_58 hl (by decide) rfl (fun ls hl => ?_)
          refine lv_lload_n hx hb dR_side_60 rfl (lv_at hl 1 rfl) ?_
          refine lv_lconst (v := 0) hx hb dR_side_61 (by decide) ?_
          refine W.lcmp hx hb dR_side_62 ?_
          refine lv_if_eq (tgt := 79) hx hb dR_side_63 (by decide) (fun c_22 => ?_) (fun c_22 => ?_)
          · refine lv_iconst (v := 1) hx hb dR_side_79 (by decide) ?_
            refine lv_goto (tgt := 84) hx hb dR_side_80 (by decide) ?_
            refine lv_istore (lv' := [(5, .int 1), (4, .int 0), (2, .long (f_rareaOf (w2 σ 35 0 (0 : Int32))  a0)), (0, .ref (ad 35)), (1, .int a0)]) hx hb dR_side_84 hl (by decide) rfl (fun ls hl => ?_)
            refine lv_iload hx hb dR_side_86 (lv_at hl 0 rfl) ?_
            refine lv_if_eq (tgt := 95) hx hb dR_side_88 (by decide) (fun c_23 => ?_) (fun c_23 => ?_)
            · exact absurd c_23 (by decide)
            · refine lv_iconst (v := (-1)) hx hb dR_side_91 (by decide) ?_
              refine lv_goto (tgt := 97) hx hb dR_side_92 (by decide) ?_
              have ev : f_rside σ a0 = (-1) := by unfold f_rside; rw [if_neg c_1, if_neg c_4, if_neg c_16, if_pos c_22]
              have es : s_rside σ a0 = (w2 σ 35 0 (0 : Int32)) := by unfold s_rside; rw [if_neg c_1, if_neg c_4, if_neg c_16, if_pos c_22]
              exact W.iret (v := (-1)) hx hb hr (fun t ht9 hW => ⟨by rw [ev], by show va_P D vwCl (gW cs ad (s_rside σ a0) τ) t.heap; rw [ht9, es]; exact hP, hS.F ht9⟩) hS.2.2 dR_side_97
          · refine lv_aload_n hx hb dR_side_66 rfl (lv_at hl 2 rfl) ?_
            refine g_get (ci := 5) (C := RR) (T := TR) (M := 13) (v := .int ((w2 σ 35 0 (0 : Int32)) 35 5)) hx hb ht inR hown hK hP 35 (by decide) kR rfl 5 (by decide) (ht _ tw_457) (fun _ h9 => h9) rfl dR_side_67 ?_
            refine lv_iload hx hb dR_side_70 (lv_at hl 0 rfl) ?_
            refine lv_ishr hx hb dR_side_72 ?_
            refine lv_iconst (v := 1) hx hb dR_side_73 (by decide) ?_
            refine lv_iand hx hb dR_side_74 ?_
            refine lv_iconst (v := 1) hx hb dR_side_75 (by decide) ?_
            refine lv_icmp_ne (tgt := 83) hx hb dR_side_76 (by decide) (fun c_24 => ?_) (fun c_24 => ?_)
            · refine lv_iconst (v := 0) hx hb dR_side_83 (by decide) ?_
              refine lv_istore (lv' := [(5, .int 0), (4, .int 0), (2, .long (f_rareaOf (w2 σ 35 0 (0 : Int32))  a0)), (0, .ref (ad 35)), (1, .int a0)]) hx hb dR_side_84 hl (by decide) rfl (fun ls hl => ?_)
              refine lv_iload hx hb dR_side_86 (lv_at hl 0 rfl) ?_
              refine lv_if_eq (tgt := 95) hx hb dR_side_88 (by decide) (fun c_25 => ?_) (fun c_25 => ?_)
              · refine lv_iload hx hb dR_side_95 (lv_at hl 1 rfl) ?_
                have ev : f_rside σ a0 = 0 := by unfold f_rside; rw [if_neg c_1, if_neg c_4, if_neg c_16, if_neg c_22, if_neg c_24]
                have es : s_rside σ a0 = (w2 σ 35 0 (0 : Int32)) := by unfold s_rside; rw [if_neg c_1, if_neg c_4, if_neg c_16, if_neg c_22, if_neg c_24]
                exact W.iret (v := 0) hx hb hr (fun t ht9 hW => ⟨by rw [ev], by show va_P D vwCl (gW cs ad (s_rside σ a0) τ) t.heap; rw [ht9, es]; exact hP, hS.F ht9⟩) hS.2.2 dR_side_97
              · exact absurd (by decide) c_25
            · refine lv_iconst (v := 1) hx hb dR_side_79 (by decide) ?_
              refine lv_goto (tgt := 84) hx hb dR_side_80 (by decide) ?_
              refine lv_istore (lv' := [(5, .int 1), (4, .int 0), (2, .long (f_rareaOf (w2 σ 35 0 (0 : Int32))  a0)), (0, .ref (ad 35)), (1, .int a0)]) hx hb dR_side_84 hl (by decide) rfl (fun ls hl => ?_)
              refine lv_iload hx hb dR_side_86 (lv_at hl 0 rfl) ?_
              refine lv_if_eq (tgt := 95) hx hb dR_side_88 (by decide) (fun c_26 => ?_) (fun c_26 => ?_)
              · exact absurd c_26 (by decide)
              · refine lv_iconst (v := (-1)) hx hb dR_side_91 (by decide) ?_
                refine lv_goto (tgt := 97) hx hb dR_side_92 (by decide) ?_
                have ev : f_rside σ a0 = (-1) := by unfold f_rside; rw [if_neg c_1, if_neg c_4, if_neg c_16, if_neg c_22, if_pos c_24]
                have es : s_rside σ a0 = (w2 σ 35 0 (0 : Int32)) := by unfold s_rside; rw [if_neg c_1, if_neg c_4, if_neg c_16, if_neg c_22, if_pos c_24]
                exact W.iret (v := (-1)) hx hb hr (fun t ht9 hW => ⟨by rw [ev], by show va_P D vwCl (gW cs ad (s_rside σ a0) τ) t.heap; rw [ht9, es]; exact hP, hS.F ht9⟩) hS.2.2 dR_side_97
    · exact absurd (by decide) c_3
  · refine lv_iconst (v := 1) hx hb dR_side_15 (by decide) ?_
    refine lv_goto (tgt := 20) hx hb dR_side_16 (by decide) ?_
    refine lv_iconst (v := 0) hx hb dR_side_20 (by decide) ?_
    refine g_runR (v := .int (f_refuse σ  (1 : Int32) (0 : Int32))) (va_runV (C := RR) (As := [.int 1, .int 0]) (rest := []) ⟨hx, hb, hml, hown, hts⟩ (c_refuse l hinj σ τ _  (1 : Int32) (0 : Int32) ) (qV 2 ht tw_503 tw_505 ts_R_refuse tw_6 tk_R_refuse rfl rfl (by decide +kernel) ⟨(Nat.le_of_ble_eq_true rfl), (Nat.le_of_ble_eq_true rfl)⟩) (g_pv (ci := 5) hK hP (by decide) rfl kR rfl) rfl rfl hl.1 rfl (lv_room (Nat.le_of_ble_eq_true rfl)) dR_side_21 ⟨Nat.zero_le _, Nat.zero_le _⟩) hS (fun q _ h => gA_mono hS.1 q h) (fun q h => gA_mono hS.1 q h) (fun H locs hP hz hS => ?_)
    have hP : va_P D vwCl (gW cs ad (w2 σ 35 0 1) τ) H := by have h9 : va_P D vwCl (gW cs ad (s_refuse σ  (1 : Int32) (0 : Int32)) τ) H := hP; rw [srefuse_1] at h9; exact h9
    refine lv_topi (fun z_27 ez_27 => ?_)
    have ez_27 : z_27 = 1 := ez_27.trans frefuse_1
    subst ez_27
    refine lv_if_eq (tgt := 29) hx hb dR_side_24 (by decide) (fun c_28 => ?_) (fun c_28 => ?_)
    · exact absurd c_28 (by decide)
    · refine lv_iconst (v := 0) hx hb dR_side_27 (by decide) ?_
      have ev : f_rside σ a0 = 0 := by unfold f_rside; rw [if_pos c_1]
      have es : s_rside σ a0 = (w2 σ 35 0 (1 : Int32)) := by unfold s_rside; rw [if_pos c_1]
      exact W.iret (v := 0) hx hb hr (fun t ht9 hW => ⟨by rw [ev], by show va_P D vwCl (gW cs ad (s_rside σ a0) τ) t.heap; rw [ht9, es]; exact hP, hS.F ht9⟩) hS.2.2 dR_side_28
def f_rgot (σ : Nat → Nat → Int32)  (a0 : Int32) (a1 : Int32) (a2 : Int32) : Int32 :=
  if (f_in_ a0 (0 : Int32) ((σ 35 11) - 1)) = 0 then
    if (f_in_ a1 (0 : Int32) (2 : Int32)) = 0 then
      0
    else
      if (f_in_ a2 (0 : Int32) (31 : Int32)) = 0 then
        0
      else
        0
  else
    if (f_in_ a1 (0 : Int32) (2 : Int32)) = 0 then
      0
    else
      if (f_in_ a2 (0 : Int32) (31 : Int32)) = 0 then
        0
      else
        if (4 : Int32) ≤ a2 then
          ((w2 σ 35 0 (0 : Int32)) 40 (((32 * (f_cornerOf a0 a1)) + a2).toNatClampNeg))
        else
          ((w2 σ 35 0 (0 : Int32)) 42 (((4 * (f_cornerOf a0 a1)) + a2).toNatClampNeg))
def s_rgot (σ : Nat → Nat → Int32)  (a0 : Int32) (a1 : Int32) (a2 : Int32) : Nat → Nat → Int32 :=
  if (f_in_ a0 (0 : Int32) ((σ 35 11) - 1)) = 0 then
    if (f_in_ a1 (0 : Int32) (2 : Int32)) = 0 then
      (w2 σ 35 0 (1 : Int32))
    else
      if (f_in_ a2 (0 : Int32) (31 : Int32)) = 0 then
        (w2 σ 35 0 (1 : Int32))
      else
        (w2 σ 35 0 (1 : Int32))
  else
    if (f_in_ a1 (0 : Int32) (2 : Int32)) = 0 then
      (w2 σ 35 0 (2 : Int32))
    else
      if (f_in_ a2 (0 : Int32) (31 : Int32)) = 0 then
        (w2 σ 35 0 (2 : Int32))
      else
        if (4 : Int32) ≤ a2 then
          (w2 σ 35 0 (0 : Int32))
        else
          (w2 σ 35 0 (0 : Int32))
set_option maxHeartbeats 800000 in
set_option maxRecDepth 100000 in
theorem c_rgot (l : Launch) {D : va_G} {cs : Nat → ClassId} {ad : Nat → Nat} (hinj : gI ad) (σ : Nat → Nat → Int32) (τ : Nat → Nat → Int64) (sz : Nat)  (a0 : Int32) (a1 : Int32) (a2 : Int32) (hmd : 0 ≤ (σ 35 11).toInt ∧ (σ 35 11).toInt ≤ 3) : Met l yR_got (wsB kR_got) ({ frames := 1, cells := 0, slots := 0, locals := 22 } : Room) (va_Pc [.ref (ad 35), .int a0, .int a1, .int a2] (gP D cs ad σ τ sz)) (gQ (some (.int (f_rgot σ a0 a1 a2))) (gB D cs ad (s_rgot σ a0 a1 a2) τ) (gA NC ad sz)) 0 0 (gA NC ad sz) := by
  refine Met.ofW (cc := cR_got) (maxL := 5) (ret := (some .int)) (by decide) rfl ?_
  intro p e s m args below meth c s₁ B hml hv
  obtain ⟨rfl, hsz, hP, hK⟩ := hv
  have hx := B.exec
  have hb := B.bytes
  have hr := B.returns
  have hts := atoms_spec (ws := wsB kR_got) B.pre
  have ht := hbig hts
  have hown : s.vm.findClass RR = some m.cls := findClass_of_methodNamed B.named
  have hlocks := B.notSynchronized
  subst hsz
  have hD : ∀ σ τ, va_D (gA NC ad s.heap.size) (gW cs ad σ τ) := fun _ _ => gw_D hinj (fun i h => gA_ad h)
  have hS : va_S (gA NC ad s.heap.size) s.heap s.heap [] := va_S.rf
  have hl := lv_entry ([.ref (ad 35), .int a0, .int a1, .int a2]) (n := 5) (Nat.le_of_ble_eq_true rfl)
  rw [lg_entry_eq]
  generalize (lg_sl ([.ref (ad 35), .int a0, .int a1, .int a2]) ++ List.replicate (5 - (lg_sl ([.ref (ad 35), .int a0, .int a1, .int a2])).length) Slot.unset).toArray = ls at hl ⊢
  have hl : lv_has ls 5 [(0, .ref (ad 35)), (1, .int a0), (2, .int a1), (3, .int a2)] := hl
  refine lv_aload_n hx hb dR_got_0 rfl (lv_at hl 0 rfl) ?_
  refine lv_iload_n hx hb dR_got_1 rfl (lv_at hl 1 rfl) ?_
  refine lv_iconst (v := 0) hx hb dR_got_2 (by decide) ?_
  refine lv_aload_n hx hb dR_got_3 rfl (lv_at hl 0 rfl) ?_
  refine g_get (ci := 5) (C := RR) (T := TR) (M := 13) (v := .int (σ 35 11)) hx hb ht inR hown hK hP 35 (by decide) kR rfl 11 (by decide) (ht _ tw_463) (fun _ h9 => h9) rfl dR_got_4 ?_
  refine lv_iconst (v := 1) hx hb dR_got_7 (by decide) ?_
  refine lv_isub hx hb dR_got_8 ?_
  refine g_pure (v := .int (f_in_ a0 (0 : Int32) ((σ 35 11) - 1))) (va_runS (As := [.int a0, .int 0, .int ((σ 35 11) - 1)]) (rest := [.ref (ad 35)]) ⟨hx, hb, hml, hown, hts⟩ (c_in_ l a0 (0 : Int32) ((σ 35 11) - 1)) (qS 3 ht tw_500 tw_501 tw_6 tk_R_in_ rfl rfl (by decide +kernel) ⟨(Nat.le_of_ble_eq_true rfl), (Nat.le_of_ble_eq_true rfl)⟩) g_pt rfl rfl hl.1 rfl (lv_room (Nat.le_of_ble_eq_true rfl)) dR_got_9 ⟨Nat.zero_le _, Nat.zero_le _⟩) ?_
  refine lv_if_ne (tgt := 19) hx hb dR_got_12 (by decide) (fun c_1 => ?_) (fun c_1 => ?_)
  · refine lv_iconst (v := 0) hx hb dR_got_19 (by decide) ?_
    refine lv_iload_n hx hb dR_got_20 rfl (lv_at hl 2 rfl) ?_
    refine lv_iconst (v := 0) hx hb dR_got_21 (by decide) ?_
    refine lv_iconst (v := 2) hx hb dR_got_22 (by decide) ?_
    refine g_pure (v := .int (f_in_ a1 (0 : Int32) (2 : Int32))) (va_runS (As := [.int a1, .int 0, .int 2]) (rest := [.int 0, .ref (ad 35)]) ⟨hx, hb, hml, hown, hts⟩ (c_in_ l a1 (0 : Int32) (2 : Int32)) (qS 3 ht tw_500 tw_501 tw_6 tk_R_in_ rfl rfl (by decide +kernel) ⟨(Nat.le_of_ble_eq_true rfl), (Nat.le_of_ble_eq_true rfl)⟩) g_pt rfl rfl hl.1 rfl (lv_room (Nat.le_of_ble_eq_true rfl)) dR_got_23 ⟨Nat.zero_le _, Nat.zero_le _⟩) ?_
    refine lv_if_eq (tgt := 39) hx hb dR_got_26 (by decide) (fun c_2 => ?_) (fun c_2 => ?_)
    · refine lv_iconst (v := 1) hx hb dR_got_39 (by decide) ?_
      refine lv_goto (tgt := 44) hx hb dR_got_40 (by decide) ?_
      refine g_runR (v := .int (f_refuse σ  (0 : Int32) (1 : Int32))) (va_runV (C := RR) (As := [.int 0, .int 1]) (rest := []) ⟨hx, hb, hml, hown, hts⟩ (c_refuse l hinj σ τ _  (0 : Int32) (1 : Int32) ) (qV 2 ht tw_503 tw_505 ts_R_refuse tw_6 tk_R_refuse rfl rfl (by decide +kernel) ⟨(Nat.le_of_ble_eq_true rfl), (Nat.le_of_ble_eq_true rfl)⟩) (g_pv (ci := 5) hK hP (by decide) rfl kR rfl) rfl rfl hl.1 rfl (lv_room (Nat.le_of_ble_eq_true rfl)) dR_got_44 ⟨Nat.zero_le _, Nat.zero_le _⟩) hS (fun q _ h => gA_mono hS.1 q h) (fun q h => gA_mono hS.1 q h) (fun H locs hP hz hS => ?_)
      have hP : va_P D vwCl (gW cs ad (w2 σ 35 0 2) τ) H := by have h9 : va_P D vwCl (gW cs ad (s_refuse σ  (0 : Int32) (1 : Int32)) τ) H := hP; rw [srefuse_01] at h9; exact h9
      refine lv_topi (fun z_3 ez_3 => ?_)
      have ez_3 : z_3 = 1 := ez_3.trans frefuse_01
      subst ez_3
      refine lv_if_eq (tgt := 52) hx hb dR_got_47 (by decide) (fun c_4 => ?_) (fun c_4 => ?_)
      · exact absurd c_4 (by decide)
      · refine lv_iconst (v := 0) hx hb dR_got_50 (by decide) ?_
        have ev : f_rgot σ a0 a1 a2 = 0 := by unfold f_rgot; rw [if_neg c_1, if_pos c_2]
        have es : s_rgot σ a0 a1 a2 = (w2 σ 35 0 (2 : Int32)) := by unfold s_rgot; rw [if_neg c_1, if_pos c_2]
        exact W.iret (v := 0) hx hb hr (fun t ht9 hW => ⟨by rw [ev], by show va_P D vwCl (gW cs ad (s_rgot σ a0 a1 a2) τ) t.heap; rw [ht9, es]; exact hP, hS.F ht9⟩) hS.2.2 dR_got_51
    · refine lv_iload_n hx hb dR_got_29 rfl (lv_at hl 3 rfl) ?_
      refine lv_iconst (v := 0) hx hb dR_got_30 (by decide) ?_
      refine lv_bipush (v := 31) hx hb dR_got_31 (by decide) ?_
      refine g_pure (v := .int (f_in_ a2 (0 : Int32) (31 : Int32))) (va_runS (As := [.int a2, .int 0, .int 31]) (rest := [.int 0, .ref (ad 35)]) ⟨hx, hb, hml, hown, hts⟩ (c_in_ l a2 (0 : Int32) (31 : Int32)) (qS 3 ht tw_500 tw_501 tw_6 tk_R_in_ rfl rfl (by decide +kernel) ⟨(Nat.le_of_ble_eq_true rfl), (Nat.le_of_ble_eq_true rfl)⟩) g_pt rfl rfl hl.1 rfl (lv_room (Nat.le_of_ble_eq_true rfl)) dR_got_33 ⟨Nat.zero_le _, Nat.zero_le _⟩) ?_
      refine lv_if_ne (tgt := 43) hx hb dR_got_36 (by decide) (fun c_5 => ?_) (fun c_5 => ?_)
      · refine lv_iconst (v := 0) hx hb dR_got_43 (by decide) ?_
        refine g_runR (v := .int (f_refuse σ  (0 : Int32) (0 : Int32))) (va_runV (C := RR) (As := [.int 0, .int 0]) (rest := []) ⟨hx, hb, hml, hown, hts⟩ (c_refuse l hinj σ τ _  (0 : Int32) (0 : Int32) ) (qV 2 ht tw_503 tw_505 ts_R_refuse tw_6 tk_R_refuse rfl rfl (by decide +kernel) ⟨(Nat.le_of_ble_eq_true rfl), (Nat.le_of_ble_eq_true rfl)⟩) (g_pv (ci := 5) hK hP (by decide) rfl kR rfl) rfl rfl hl.1 rfl (lv_room (Nat.le_of_ble_eq_true rfl)) dR_got_44 ⟨Nat.zero_le _, Nat.zero_le _⟩) hS (fun q _ h => gA_mono hS.1 q h) (fun q h => gA_mono hS.1 q h) (fun H locs hP hz hS => ?_)
        have hP : va_P D vwCl (gW cs ad (w2 σ 35 0 0) τ) H := by have h9 : va_P D vwCl (gW cs ad (s_refuse σ  (0 : Int32) (0 : Int32)) τ) H := hP; rw [srefuse_00] at h9; exact h9
        refine lv_topi (fun z_6 ez_6 => ?_)
        have ez_6 : z_6 = 0 := ez_6.trans frefuse_00
        subst ez_6
        refine lv_if_eq (tgt := 52) hx hb dR_got_47 (by decide) (fun c_7 => ?_) (fun c_7 => ?_)
        · refine lv_iload_n hx hb dR_got_52 rfl (lv_at hl 1 rfl) ?_
          refine lv_iload_n hx hb dR_got_53 rfl (lv_at hl 2 rfl) ?_
          refine g_pure (v := .int (f_cornerOf a0 a1)) (va_runS (As := [.int a0, .int a1]) (rest := []) ⟨hx, hb, hml, hown, hts⟩ (c_cornerOf l a0 a1) (qS 2 ht tw_605 tw_606 tw_6 tk_R_cornerOf rfl rfl (by decide +kernel) ⟨(Nat.le_of_ble_eq_true rfl), (Nat.le_of_ble_eq_true rfl)⟩) g_pt rfl rfl hl.1 rfl (lv_room (Nat.le_of_ble_eq_true rfl)) dR_got_54 ⟨Nat.zero_le _, Nat.zero_le _⟩) ?_
          refine lv_istore (lv' := [(4, .int (f_cornerOf a0 a1)), (0, .ref (ad 35)), (1, .int a0), (2, .int a1), (3, .int a2)]) hx hb dR_got_57 hl (by decide) rfl (fun ls hl => ?_)
          refine lv_iload_n hx hb dR_got_59 rfl (lv_at hl 4 rfl) ?_
          refine lv_iconst (v := 4) hx hb dR_got_60 (by decide) ?_
          refine lv_icmp_ge (tgt := 78) hx hb dR_got_61 (by decide) (fun c_8 => ?_) (fun c_8 => ?_)
          · refine lv_aload_n hx hb dR_got_78 rfl (lv_at hl 1 rfl) ?_
            refine g_get (ci := 5) (C := RR) (T := TR) (M := 13) (v := .ref (ad 40)) hx hb ht inR hown hK hP 35 (by decide) kR rfl 8 (by decide) (ht _ tw_460) (fun _ h9 => h9) rfl dR_got_79 ?_
            refine lv_bipush (v := 32) hx hb dR_got_82 (by decide) ?_
            refine lv_iload hx hb dR_got_84 (lv_at hl 0 rfl) ?_
            refine lv_imul hx hb dR_got_86 ?_
            refine lv_iload_n hx hb dR_got_87 rfl (lv_at hl 4 rfl) ?_
            refine lv_iadd hx hb dR_got_88 ?_
            have hi_9 : vp_in ((32 * (f_cornerOf a0 a1)) + a2) 256 := (by have l0 : (0 : Int32).toInt = 0 := (by decide); have l1 : (1 : Int32).toInt = 1 := (by decide); have l2 : (2 : Int32).toInt = 2 := (by decide); have l4 : (4 : Int32).toInt = 4 := (by decide); have l11 : (11 : Int32).toInt = 11 := (by decide); have l31 : (31 : Int32).toInt = 31 := (by decide); have l32 : (32 : Int32).toInt = 32 := (by decide); have l35 : (35 : Int32).toInt = 35 := (by decide); have b0 := corner_b a0 a1 (made_b c_1 hmd) (in_02 c_2); have b1 := in_b c_1; have b2 := in_b c_2; have b3 := in_b c_5; have b4 := Int32.le_iff_toInt_le.mp c_8; rw [vp_in_iff]; (try simp only [Int32.toInt_add, Int32.toInt_sub, Int32.toInt_mul, Int.bmod_def, l0, l1, l2, l4, l11, l31, l32, l35]); omega)
            refine g_iald hx hb hK hP 40 0 (by decide) (fun r t => kR40) rfl hi_9 dR_got_89 ?_
            have ev : f_rgot σ a0 a1 a2 = ((w2 σ 35 0 (0 : Int32)) 40 (((32 * (f_cornerOf a0 a1)) + a2).toNatClampNeg)) := by unfold f_rgot; rw [if_neg c_1, if_neg c_2, if_neg c_5, if_pos c_8]
            have es : s_rgot σ a0 a1 a2 = (w2 σ 35 0 (0 : Int32)) := by unfold s_rgot; rw [if_neg c_1, if_neg c_2, if_neg c_5, if_pos c_8]
            exact W.iret (v := ((w2 σ 35 0 (0 : Int32)) 40 (((32 * (f_cornerOf a0 a1)) + a2).toNatClampNeg))) hx hb hr (fun t ht9 hW => ⟨by rw [ev], by show va_P D vwCl (gW cs ad (s_rgot σ a0 a1 a2) τ) t.heap; rw [ht9, es]; exact hP, hS.F ht9⟩) hS.2.2 dR_got_90
          · refine lv_aload_n hx hb dR_got_64 rfl (lv_at hl 1 rfl) ?_
            refine g_get (ci := 5) (C := RR) (T := TR) (M := 13) (v := .ref (ad 42)) hx hb ht inR hown hK hP 35 (by decide) kR rfl 12 (by decide) (ht _ tw_464) (fun _ h9 => h9) rfl dR_got_65 ?_
            refine lv_iconst (v := 4) hx hb dR_got_68 (by decide) ?_
            refine lv_iload hx hb dR_got_69 (lv_at hl 0 rfl) ?_
            refine lv_imul hx hb dR_got_71 ?_
            refine lv_iload_n hx hb dR_got_72 rfl (lv_at hl 4 rfl) ?_
            refine lv_iadd hx hb dR_got_73 ?_
            have hi_10 : vp_in ((4 * (f_cornerOf a0 a1)) + a2) 32 := (by have l0 : (0 : Int32).toInt = 0 := (by decide); have l1 : (1 : Int32).toInt = 1 := (by decide); have l2 : (2 : Int32).toInt = 2 := (by decide); have l4 : (4 : Int32).toInt = 4 := (by decide); have l11 : (11 : Int32).toInt = 11 := (by decide); have l31 : (31 : Int32).toInt = 31 := (by decide); have l35 : (35 : Int32).toInt = 35 := (by decide); have b0 := corner_b a0 a1 (made_b c_1 hmd) (in_02 c_2); have b1 := in_b c_1; have b2 := in_b c_2; have b3 := in_b c_5; have b4 := (not_congr Int32.le_iff_toInt_le).mp c_8; rw [vp_in_iff]; (try simp only [Int32.toInt_add, Int32.toInt_sub, Int32.toInt_mul, Int.bmod_def, l0, l1, l2, l4, l11, l31, l35]); omega)
            refine g_iald hx hb hK hP 42 0 (by decide) (fun r t => kR42) rfl hi_10 dR_got_74 ?_
            refine lv_goto (tgt := 90) hx hb dR_got_75 (by decide) ?_
            have ev : f_rgot σ a0 a1 a2 = ((w2 σ 35 0 (0 : Int32)) 42 (((4 * (f_cornerOf a0 a1)) + a2).toNatClampNeg)) := by unfold f_rgot; rw [if_neg c_1, if_neg c_2, if_neg c_5, if_neg c_8]
            have es : s_rgot σ a0 a1 a2 = (w2 σ 35 0 (0 : Int32)) := by unfold s_rgot; rw [if_neg c_1, if_neg c_2, if_neg c_5, if_neg c_8]
            exact W.iret (v := ((w2 σ 35 0 (0 : Int32)) 42 (((4 * (f_cornerOf a0 a1)) + a2).toNatClampNeg))) hx hb hr (fun t ht9 hW => ⟨by rw [ev], by show va_P D vwCl (gW cs ad (s_rgot σ a0 a1 a2) τ) t.heap; rw [ht9, es]; exact hP, hS.F ht9⟩) hS.2.2 dR_got_90
        · exact absurd (by decide) c_7
      · refine lv_iconst (v := 1) hx hb dR_got_39 (by decide) ?_
        refine lv_goto (tgt := 44) hx hb dR_got_40 (by decide) ?_
        refine g_runR (v := .int (f_refuse σ  (0 : Int32) (1 : Int32))) (va_runV (C := RR) (As := [.int 0, .int 1]) (rest := []) ⟨hx, hb, hml, hown, hts⟩ (c_refuse l hinj σ τ _  (0 : Int32) (1 : Int32) ) (qV 2 ht tw_503 tw_505 ts_R_refuse tw_6 tk_R_refuse rfl rfl (by decide +kernel) ⟨(Nat.le_of_ble_eq_true rfl), (Nat.le_of_ble_eq_true rfl)⟩) (g_pv (ci := 5) hK hP (by decide) rfl kR rfl) rfl rfl hl.1 rfl (lv_room (Nat.le_of_ble_eq_true rfl)) dR_got_44 ⟨Nat.zero_le _, Nat.zero_le _⟩) hS (fun q _ h => gA_mono hS.1 q h) (fun q h => gA_mono hS.1 q h) (fun H locs hP hz hS => ?_)
        have hP : va_P D vwCl (gW cs ad (w2 σ 35 0 2) τ) H := by have h9 : va_P D vwCl (gW cs ad (s_refuse σ  (0 : Int32) (1 : Int32)) τ) H := hP; rw [srefuse_01] at h9; exact h9
        refine lv_topi (fun z_11 ez_11 => ?_)
        have ez_11 : z_11 = 1 := ez_11.trans frefuse_01
        subst ez_11
        refine lv_if_eq (tgt := 52) hx hb dR_got_47 (by decide) (fun c_12 => ?_) (fun c_12 => ?_)
        · exact absurd c_12 (by decide)
        · refine lv_iconst (v := 0) hx hb dR_got_50 (by decide) ?_
          have ev : f_rgot σ a0 a1 a2 = 0 := by unfold f_rgot; rw [if_neg c_1, if_neg c_2, if_pos c_5]
          have es : s_rgot σ a0 a1 a2 = (w2 σ 35 0 (2 : Int32)) := by unfold s_rgot; rw [if_neg c_1, if_neg c_2, if_pos c_5]
          exact W.iret (v := 0) hx hb hr (fun t ht9 hW => ⟨by rw [ev], by show va_P D vwCl (gW cs ad (s_rgot σ a0 a1 a2) τ) t.heap; rw [ht9, es]; exact hP, hS.F ht9⟩) hS.2.2 dR_got_51
  · refine lv_iconst (v := 1) hx hb dR_got_15 (by decide) ?_
    refine lv_goto (tgt := 20) hx hb dR_got_16 (by decide) ?_
    refine lv_iload_n hx hb dR_got_20 rfl (lv_at hl 2 rfl) ?_
    refine lv_iconst (v := 0) hx hb dR_got_21 (by decide) ?_
    refine lv_iconst (v := 2) hx hb dR_got_22 (by decide) ?_
    refine g_pure (v := .int (f_in_ a1 (0 : Int32) (2 : Int32))) (va_runS (As := [.int a1, .int 0, .int 2]) (rest := [.int 1, .ref (ad 35)]) ⟨hx, hb, hml, hown, hts⟩ (c_in_ l a1 (0 : Int32) (2 : Int32)) (qS 3 ht tw_500 tw_501 tw_6 tk_R_in_ rfl rfl (by decide +kernel) ⟨(Nat.le_of_ble_eq_true rfl), (Nat.le_of_ble_eq_true rfl)⟩) g_pt rfl rfl hl.1 rfl (lv_room (Nat.le_of_ble_eq_true rfl)) dR_got_23 ⟨Nat.zero_le _, Nat.zero_le _⟩) ?_
    refine lv_if_eq (tgt := 39) hx hb dR_got_26 (by decide) (fun c_13 => ?_) (fun c_13 => ?_)
    · refine lv_iconst (v := 1) hx hb dR_got_39 (by decide) ?_
      refine lv_goto (tgt := 44) hx hb dR_got_40 (by decide) ?_
      refine g_runR (v := .int (f_refuse σ  (1 : Int32) (1 : Int32))) (va_runV (C := RR) (As := [.int 1, .int 1]) (rest := []) ⟨hx, hb, hml, hown, hts⟩ (c_refuse l hinj σ τ _  (1 : Int32) (1 : Int32) ) (qV 2 ht tw_503 tw_505 ts_R_refuse tw_6 tk_R_refuse rfl rfl (by decide +kernel) ⟨(Nat.le_of_ble_eq_true rfl), (Nat.le_of_ble_eq_true rfl)⟩) (g_pv (ci := 5) hK hP (by decide) rfl kR rfl) rfl rfl hl.1 rfl (lv_room (Nat.le_of_ble_eq_true rfl)) dR_got_44 ⟨Nat.zero_le _, Nat.zero_le _⟩) hS (fun q _ h => gA_mono hS.1 q h) (fun q h => gA_mono hS.1 q h) (fun H locs hP hz hS => ?_)
      have hP : va_P D vwCl (gW cs ad (w2 σ 35 0 1) τ) H := by have h9 : va_P D vwCl (gW cs ad (s_refuse σ  (1 : Int32) (1 : Int32)) τ) H := hP; rw [srefuse_1] at h9; exact h9
      refine lv_topi (fun z_14 ez_14 => ?_)
      have ez_14 : z_14 = 1 := ez_14.trans frefuse_1
      subst ez_14
      refine lv_if_eq (tgt := 52) hx hb dR_got_47 (by decide) (fun c_15 => ?_) (fun c_15 => ?_)
      · exact absurd c_15 (by decide)
      · refine lv_iconst (v := 0) hx hb dR_got_50 (by decide) ?_
        have ev : f_rgot σ a0 a1 a2 = 0 := by unfold f_rgot; rw [if_pos c_1, if_pos c_13]
        have es : s_rgot σ a0 a1 a2 = (w2 σ 35 0 (1 : Int32)) := by unfold s_rgot; rw [if_pos c_1, if_pos c_13]
        exact W.iret (v := 0) hx hb hr (fun t ht9 hW => ⟨by rw [ev], by show va_P D vwCl (gW cs ad (s_rgot σ a0 a1 a2) τ) t.heap; rw [ht9, es]; exact hP, hS.F ht9⟩) hS.2.2 dR_got_51
    · refine lv_iload_n hx hb dR_got_29 rfl (lv_at hl 3 rfl) ?_
      refine lv_iconst (v := 0) hx hb dR_got_30 (by decide) ?_
      refine lv_bipush (v := 31) hx hb dR_got_31 (by decide) ?_
      refine g_pure (v := .int (f_in_ a2 (0 : Int32) (31 : Int32))) (va_runS (As := [.int a2, .int 0, .int 31]) (rest := [.int 1, .ref (ad 35)]) ⟨hx, hb, hml, hown, hts⟩ (c_in_ l a2 (0 : Int32) (31 : Int32)) (qS 3 ht tw_500 tw_501 tw_6 tk_R_in_ rfl rfl (by decide +kernel) ⟨(Nat.le_of_ble_eq_true rfl), (Nat.le_of_ble_eq_true rfl)⟩) g_pt rfl rfl hl.1 rfl (lv_room (Nat.le_of_ble_eq_true rfl)) dR_got_33 ⟨Nat.zero_le _, Nat.zero_le _⟩) ?_
      refine lv_if_ne (tgt := 43) hx hb dR_got_36 (by decide) (fun c_16 => ?_) (fun c_16 => ?_)
      · refine lv_iconst (v := 0) hx hb dR_got_43 (by decide) ?_
        refine g_runR (v := .int (f_refuse σ  (1 : Int32) (0 : Int32))) (va_runV (C := RR) (As := [.int 1, .int 0]) (rest := []) ⟨hx, hb, hml, hown, hts⟩ (c_refuse l hinj σ τ _  (1 : Int32) (0 : Int32) ) (qV 2 ht tw_503 tw_505 ts_R_refuse tw_6 tk_R_refuse rfl rfl (by decide +kernel) ⟨(Nat.le_of_ble_eq_true rfl), (Nat.le_of_ble_eq_true rfl)⟩) (g_pv (ci := 5) hK hP (by decide) rfl kR rfl) rfl rfl hl.1 rfl (lv_room (Nat.le_of_ble_eq_true rfl)) dR_got_44 ⟨Nat.zero_le _, Nat.zero_le _⟩) hS (fun q _ h => gA_mono hS.1 q h) (fun q h => gA_mono hS.1 q h) (fun H locs hP hz hS => ?_)
        have hP : va_P D vwCl (gW cs ad (w2 σ 35 0 1) τ) H := by have h9 : va_P D vwCl (gW cs ad (s_refuse σ  (1 : Int32) (0 : Int32)) τ) H := hP; rw [srefuse_1] at h9; exact h9
        refine lv_topi (fun z_17 ez_17 => ?_)
        have ez_17 : z_17 = 1 := ez_17.trans frefuse_1
        subst ez_17
        refine lv_if_eq (tgt := 52) hx hb dR_got_47 (by decide) (fun c_18 => ?_) (fun c_18 => ?_)
        · exact absurd c_18 (by decide)
        · refine lv_iconst (v := 0) hx hb dR_got_50 (by decide) ?_
          have ev : f_rgot σ a0 a1 a2 = 0 := by unfold f_rgot; rw [if_pos c_1, if_neg c_13, if_neg c_16]
          have es : s_rgot σ a0 a1 a2 = (w2 σ 35 0 (1 : Int32)) := by unfold s_rgot; rw [if_pos c_1, if_neg c_13, if_neg c_16]
          exact W.iret (v := 0) hx hb hr (fun t ht9 hW => ⟨by rw [ev], by show va_P D vwCl (gW cs ad (s_rgot σ a0 a1 a2) τ) t.heap; rw [ht9, es]; exact hP, hS.F ht9⟩) hS.2.2 dR_got_51
      · refine lv_iconst (v := 1) hx hb dR_got_39 (by decide) ?_
        refine lv_goto (tgt := 44) hx hb dR_got_40 (by decide) ?_
        refine g_runR (v := .int (f_refuse σ  (1 : Int32) (1 : Int32))) (va_runV (C := RR) (As := [.int 1, .int 1]) (rest := []) ⟨hx, hb, hml, hown, hts⟩ (c_refuse l hinj σ τ _  (1 : Int32) (1 : Int32) ) (qV 2 ht tw_503 tw_505 ts_R_refuse tw_6 tk_R_refuse rfl rfl (by decide +kernel) ⟨(Nat.le_of_ble_eq_true rfl), (Nat.le_of_ble_eq_true rfl)⟩) (g_pv (ci := 5) hK hP (by decide) rfl kR rfl) rfl rfl hl.1 rfl (lv_room (Nat.le_of_ble_eq_true rfl)) dR_got_44 ⟨Nat.zero_le _, Nat.zero_le _⟩) hS (fun q _ h => gA_mono hS.1 q h) (fun q h => gA_mono hS.1 q h) (fun H locs hP hz hS => ?_)
        have hP : va_P D vwCl (gW cs ad (w2 σ 35 0 1) τ) H := by have h9 : va_P D vwCl (gW cs ad (s_refuse σ  (1 : Int32) (1 : Int32)) τ) H := hP; rw [srefuse_1] at h9; exact h9
        refine lv_topi (fun z_19 ez_19 => ?_)
        have ez_19 : z_19 = 1 := ez_19.trans frefuse_1
        subst ez_19
        refine lv_if_eq (tgt := 52) hx hb dR_got_47 (by decide) (fun c_20 => ?_) (fun c_20 => ?_)
        · exact absurd c_20 (by decide)
        · refine lv_iconst (v := 0) hx hb dR_got_50 (by decide) ?_
          have ev : f_rgot σ a0 a1 a2 = 0 := by unfold f_rgot; rw [if_pos c_1, if_neg c_13, if_pos c_16]
          have es : s_rgot σ a0 a1 a2 = (w2 σ 35 0 (1 : Int32)) := by unfold s_rgot; rw [if_pos c_1, if_neg c_13, if_pos c_16]
          exact W.iret (v := 0) hx hb hr (fun t ht9 hW => ⟨by rw [ev], by show va_P D vwCl (gW cs ad (s_rgot σ a0 a1 a2) τ) t.heap; rw [ht9, es]; exact hP, hS.F ht9⟩) hS.2.2 dR_got_51
def f_rarea (σ : Nat → Nat → Int32)  (a0 : Int32) : Int64 :=
  if (f_in_ a0 (0 : Int32) ((σ 35 11) - 1)) = 0 then
    0
  else
    (f_rareaOf (w2 σ 35 0 (0 : Int32))  a0)
def s_rarea (σ : Nat → Nat → Int32)  (a0 : Int32) : Nat → Nat → Int32 :=
  if (f_in_ a0 (0 : Int32) ((σ 35 11) - 1)) = 0 then
    (w2 σ 35 0 (1 : Int32))
  else
    (w2 σ 35 0 (0 : Int32))
set_option maxHeartbeats 800000 in
set_option maxRecDepth 100000 in
theorem c_rarea (l : Launch) {D : va_G} {cs : Nat → ClassId} {ad : Nat → Nat} (hinj : gI ad) (σ : Nat → Nat → Int32) (τ : Nat → Nat → Int64) (sz : Nat)  (a0 : Int32) (hmd : 0 ≤ (σ 35 11).toInt ∧ (σ 35 11).toInt ≤ 3) : Met l yR_area (wsB kR_area) ({ frames := 2, cells := 0, slots := 0, locals := 48 } : Room) (va_Pc [.ref (ad 35), .int a0] (gP D cs ad σ τ sz)) (gQ (some (.long (f_rarea σ a0))) (gB D cs ad (s_rarea σ a0) τ) (gA NC ad sz)) 0 0 (gA NC ad sz) := by
  refine Met.ofW (cc := cR_area) (maxL := 2) (ret := (some .long)) (by decide) rfl ?_
  intro p e s m args below meth c s₁ B hml hv
  obtain ⟨rfl, hsz, hP, hK⟩ := hv
  have hx := B.exec
  have hb := B.bytes
  have hr := B.returns
  have hts := atoms_spec (ws := wsB kR_area) B.pre
  have ht := hbig hts
  have hown : s.vm.findClass RR = some m.cls := findClass_of_methodNamed B.named
  have hlocks := B.notSynchronized
  subst hsz
  have hD : ∀ σ τ, va_D (gA NC ad s.heap.size) (gW cs ad σ τ) := fun _ _ => gw_D hinj (fun i h => gA_ad h)
  have hS : va_S (gA NC ad s.heap.size) s.heap s.heap [] := va_S.rf
  have hl := lv_entry ([.ref (ad 35), .int a0]) (n := 2) (Nat.le_of_ble_eq_true rfl)
  rw [lg_entry_eq]
  generalize (lg_sl ([.ref (ad 35), .int a0]) ++ List.replicate (2 - (lg_sl ([.ref (ad 35), .int a0])).length) Slot.unset).toArray = ls at hl ⊢
  have hl : lv_has ls 2 [(0, .ref (ad 35)), (1, .int a0)] := hl
  refine lv_aload_n hx hb dR_area_0 rfl (lv_at hl 0 rfl) ?_
  refine lv_iload_n hx hb dR_area_1 rfl (lv_at hl 1 rfl) ?_
  refine lv_iconst (v := 0) hx hb dR_area_2 (by decide) ?_
  refine lv_aload_n hx hb dR_area_3 rfl (lv_at hl 0 rfl) ?_
  refine g_get (ci := 5) (C := RR) (T := TR) (M := 13) (v := .int (σ 35 11)) hx hb ht inR hown hK hP 35 (by decide) kR rfl 11 (by decide) (ht _ tw_463) (fun _ h9 => h9) rfl dR_area_4 ?_
  refine lv_iconst (v := 1) hx hb dR_area_7 (by decide) ?_
  refine lv_isub hx hb dR_area_8 ?_
  refine g_pure (v := .int (f_in_ a0 (0 : Int32) ((σ 35 11) - 1))) (va_runS (As := [.int a0, .int 0, .int ((σ 35 11) - 1)]) (rest := [.ref (ad 35)]) ⟨hx, hb, hml, hown, hts⟩ (c_in_ l a0 (0 : Int32) ((σ 35 11) - 1)) (qS 3 ht tw_500 tw_501 tw_6 tk_R_in_ rfl rfl (by decide +kernel) ⟨(Nat.le_of_ble_eq_true rfl), (Nat.le_of_ble_eq_true rfl)⟩) g_pt rfl rfl hl.1 rfl (lv_room (Nat.le_of_ble_eq_true rfl)) dR_area_9 ⟨Nat.zero_le _, Nat.zero_le _⟩) ?_
  refine lv_if_ne (tgt := 19) hx hb dR_area_12 (by decide) (fun c_1 => ?_) (fun c_1 => ?_)
  · refine lv_iconst (v := 0) hx hb dR_area_19 (by decide) ?_
    refine lv_iconst (v := 0) hx hb dR_area_20 (by decide) ?_
    refine g_runR (v := .int (f_refuse σ  (0 : Int32) (0 : Int32))) (va_runV (C := RR) (As := [.int 0, .int 0]) (rest := []) ⟨hx, hb, hml, hown, hts⟩ (c_refuse l hinj σ τ _  (0 : Int32) (0 : Int32) ) (qV 2 ht tw_503 tw_505 ts_R_refuse tw_6 tk_R_refuse rfl rfl (by decide +kernel) ⟨(Nat.le_of_ble_eq_true rfl), (Nat.le_of_ble_eq_true rfl)⟩) (g_pv (ci := 5) hK hP (by decide) rfl kR rfl) rfl rfl hl.1 rfl (lv_room (Nat.le_of_ble_eq_true rfl)) dR_area_21 ⟨Nat.zero_le _, Nat.zero_le _⟩) hS (fun q _ h => gA_mono hS.1 q h) (fun q h => gA_mono hS.1 q h) (fun H locs hP hz hS => ?_)
    have hP : va_P D vwCl (gW cs ad (w2 σ 35 0 0) τ) H := by have h9 : va_P D vwCl (gW cs ad (s_refuse σ  (0 : Int32) (0 : Int32)) τ) H := hP; rw [srefuse_00] at h9; exact h9
    refine lv_topi (fun z_2 ez_2 => ?_)
    have ez_2 : z_2 = 0 := ez_2.trans frefuse_00
    subst ez_2
    refine lv_if_eq (tgt := 29) hx hb dR_area_24 (by decide) (fun c_3 => ?_) (fun c_3 => ?_)
    · refine lv_aload_n hx hb dR_area_29 rfl (lv_at hl 0 rfl) ?_
      refine lv_iload_n hx hb dR_area_30 rfl (lv_at hl 1 rfl) ?_
      refine g_pure (v := .long (f_rareaOf (w2 σ 35 0 (0 : Int32))  a0)) (va_runV (C := RR) (As := [.int a0]) (rest := []) ⟨hx, hb, hml, hown, hts⟩ (c_rareaOf l hinj (w2 σ 35 0 (0 : Int32)) τ _  a0 (made_b c_1 hmd)) (qV 1 ht tw_601 tw_603 ts_R_areaOf tw_6 tk_R_areaOf rfl rfl (by decide +kernel) ⟨(Nat.le_of_ble_eq_true rfl), (Nat.le_of_ble_eq_true rfl)⟩) (g_pv (ci := 5) hK hP (by decide) rfl kR rfl) rfl rfl hl.1 rfl (lv_room (Nat.le_of_ble_eq_true rfl)) dR_area_31 ⟨Nat.zero_le _, Nat.zero_le _⟩) ?_
      have ev : f_rarea σ a0 = (f_rareaOf (w2 σ 35 0 (0 : Int32))  a0) := by unfold f_rarea; rw [if_neg c_1]
      have es : s_rarea σ a0 = (w2 σ 35 0 (0 : Int32)) := by unfold s_rarea; rw [if_neg c_1]
      exact W.lret (v := (f_rareaOf (w2 σ 35 0 (0 : Int32))  a0)) hx hb hr (fun t ht9 hW => ⟨by rw [ev], by show va_P D vwCl (gW cs ad (s_rarea σ a0) τ) t.heap; rw [ht9, es]; exact hP, hS.F ht9⟩) hS.2.2 dR_area_34
    · exact absurd (by decide) c_3
  · refine lv_iconst (v := 1) hx hb dR_area_15 (by decide) ?_
    refine lv_goto (tgt := 20) hx hb dR_area_16 (by decide) ?_
    refine lv_iconst (v := 0) hx hb dR_area_20 (by decide) ?_
    refine g_runR (v := .int (f_refuse σ  (1 : Int32) (0 : Int32))) (va_runV (C := RR) (As := [.int 1, .int 0]) (rest := []) ⟨hx, hb, hml, hown, hts⟩ (c_refuse l hinj σ τ _  (1 : Int32) (0 : Int32) ) (qV 2 ht tw_503 tw_505 ts_R_refuse tw_6 tk_R_refuse rfl rfl (by decide +kernel) ⟨(Nat.le_of_ble_eq_true rfl), (Nat.le_of_ble_eq_true rfl)⟩) (g_pv (ci := 5) hK hP (by decide) rfl kR rfl) rfl rfl hl.1 rfl (lv_room (Nat.le_of_ble_eq_true rfl)) dR_area_21 ⟨Nat.zero_le _, Nat.zero_le _⟩) hS (fun q _ h => gA_mono hS.1 q h) (fun q h => gA_mono hS.1 q h) (fun H locs hP hz hS => ?_)
    have hP : va_P D vwCl (gW cs ad (w2 σ 35 0 1) τ) H := by have h9 : va_P D vwCl (gW cs ad (s_refuse σ  (1 : Int32) (0 : Int32)) τ) H := hP; rw [srefuse_1] at h9; exact h9
    refine lv_topi (fun z_4 ez_4 => ?_)
    have ez_4 : z_4 = 1 := ez_4.trans frefuse_1
    subst ez_4
    refine lv_if_eq (tgt := 29) hx hb dR_area_24 (by decide) (fun c_5 => ?_) (fun c_5 => ?_)
    · exact absurd c_5 (by decide)
    · refine lv_lconst (v := 0) hx hb dR_area_27 (by decide) ?_
      have ev : f_rarea σ a0 = 0 := by unfold f_rarea; rw [if_pos c_1]
      have es : s_rarea σ a0 = (w2 σ 35 0 (1 : Int32)) := by unfold s_rarea; rw [if_pos c_1]
      exact W.lret (v := 0) hx hb hr (fun t ht9 hW => ⟨by rw [ev], by show va_P D vwCl (gW cs ad (s_rarea σ a0) τ) t.heap; rw [ht9, es]; exact hP, hS.F ht9⟩) hS.2.2 dR_area_28
def B_tb (σ : Nat → Nat → Int32) (b : Nat) (i1 : Nat) (i2 : Nat) (f : Int64) (σ_tb : Nat → Nat → Int32) (v_tb : Int32) : Nat → Nat → Int32 :=
  (w2 σ_tb (b + 2 + (σ b 1).toNatClampNeg) v_tb.toNatClampNeg ((((σ_tb i1 v_tb.toNatClampNeg).toInt64) + (f_floorDiv ((((σ_tb i2 v_tb.toNatClampNeg).toInt64) - ((σ_tb i1 v_tb.toNatClampNeg).toInt64)) * f) (65536 : Int64))).toInt32))
def L_tb (σ : Nat → Nat → Int32) (b : Nat) (i1 : Nat) (i2 : Nat) (f : Int64) : Nat → Nat → Nat → Int32
  | 0 => σ
  | k + 1 => B_tb σ b i1 i2 f (L_tb σ b i1 i2 f k) (nI k)
def s_takeBetween (σ : Nat → Nat → Int32) (b : Nat) (i1 : Nat) (i2 : Nat) (f : Int64) : Nat → Nat → Int32 :=
  if (σ b 1) < 5 then
    (w2 (L_tb σ b i1 i2 f 32) b 1 (((L_tb σ b i1 i2 f 32) b 1) + 1))
  else
    σ
set_option maxHeartbeats 800000 in
set_option maxRecDepth 100000 in
theorem c_takeBetween (l : Launch) {D : va_G} {cs : Nat → ClassId} {ad : Nat → Nat} (hinj : gI ad) (σ : Nat → Nat → Int32) (τ : Nat → Nat → Int64) (sz : Nat) (b : Nat) (i1 : Nat) (i2 : Nat) (f : Int64) (hb0 : isP b) (h1 : i1 < NC) (k1 : ∀ r t, ceW cs ad i1 r t = .inl (cs 0, 32, .inl r)) (h2 : i2 < NC) (k2 : ∀ r t, ceW cs ad i2 r t = .inl (cs 0, 32, .inl r)) (hm : ¬ σ b 1 < 0) : Met l yP_takeBetween (wsB kP_takeBetween) ({ frames := 1, cells := 0, slots := 0, locals := 25 } : Room) (va_Pc [.ref (ad b), .ref (ad i1), .ref (ad i2), .long f] (gP D cs ad σ τ sz)) (gQ none (gB D cs ad (s_takeBetween σ b i1 i2 f) τ) (gA NC ad sz)) 0 0 (gA NC ad sz) := by
  refine Met.ofW (cc := cP_takeBetween) (maxL := 9) (ret := none) (by decide) rfl ?_
  intro p e s m args below meth c s₁ B hml hv
  obtain ⟨rfl, hsz, hP, hK⟩ := hv
  have hx := B.exec
  have hb := B.bytes
  have hr := B.returns
  have hts := atoms_spec (ws := wsB kP_takeBetween) B.pre
  have ht := hbig hts
  have hown : s.vm.findClass RP = some m.cls := findClass_of_methodNamed B.named
  have hlocks := B.notSynchronized
  subst hsz
  have hD : ∀ σ τ, va_D (gA NC ad s.heap.size) (gW cs ad σ τ) := fun _ _ => gw_D hinj (fun i h => gA_ad h)
  have hS : va_S (gA NC ad s.heap.size) s.heap s.heap [] := va_S.rf
  have hl := lv_entry ([.ref (ad b), .ref (ad i1), .ref (ad i2), .long f]) (n := 9) (Nat.le_of_ble_eq_true rfl)
  rw [lg_entry_eq]
  generalize (lg_sl ([.ref (ad b), .ref (ad i1), .ref (ad i2), .long f]) ++ List.replicate (9 - (lg_sl ([.ref (ad b), .ref (ad i1), .ref (ad i2), .long f])).length) Slot.unset).toArray = ls at hl ⊢
  have hl : lv_has ls 9 [(0, .ref (ad b)), (1, .ref (ad i1)), (2, .ref (ad i2)), (3, .long f)] := hl
  refine lv_aload_n hx hb dP_takeBetween_0 rfl (lv_at hl 0 rfl) ?_
  refine g_get (ci := 3) (C := RP) (T := TP) (M := 2) (v := .int (σ b 1)) hx hb ht inP hown hK hP b (isP_lt0 hb0) (kP hb0) rfl 1 (by decide) (ht _ tw_64) (fun _ h9 => h9) rfl dP_takeBetween_1 ?_
  refine lv_iconst (v := 5) hx hb dP_takeBetween_4 (by decide) ?_
  refine lv_icmp_lt (tgt := 9) hx hb dP_takeBetween_5 (by decide) (fun c_1 => ?_) (fun c_1 => ?_)
  · refine lv_aload_n hx hb dP_takeBetween_9 rfl (lv_at hl 0 rfl) ?_
    refine g_get (ci := 3) (C := RP) (T := TP) (M := 2) (v := .ref (ad (b + 1))) hx hb ht inP hown hK hP b (isP_lt0 hb0) (kP hb0) rfl 0 (by decide) (ht _ tw_61) (fun _ h9 => h9) rfl dP_takeBetween_10 ?_
    refine lv_aload_n hx hb dP_takeBetween_13 rfl (lv_at hl 0 rfl) ?_
    refine g_get (ci := 3) (C := RP) (T := TP) (M := 2) (v := .int (σ b 1)) hx hb ht inP hown hK hP b (isP_lt0 hb0) (kP hb0) rfl 1 (by decide) (ht _ tw_64) (fun _ h9 => h9) rfl dP_takeBetween_14 ?_
    have hi_2 : vp_in (σ b 1) 5 := (in_of rfl hm c_1)
    refine g_aald hx hb hK hP (b + 1) 1 (isP_lt1 hb0) (kO hb0) rfl rfl hi_2 (rfs_at (vp_lt hi_2)) dP_takeBetween_17 ?_
    refine lv_astore (lv' := [(5, .ref (ad (b + 2 + (σ b 1).toNatClampNeg))), (0, .ref (ad b)), (1, .ref (ad i1)), (2, .ref (ad i2)), (3, .long f)]) hx hb dP_takeBetween_18 hl (by decide) rfl (fun ls hl => ?_)
    refine lv_iconst (v := 0) hx hb dP_takeBetween_20 (by decide) ?_
    refine lv_istore (lv' := [(6, .int 0), (5, .ref (ad (b + 2 + (σ b 1).toNatClampNeg))), (0, .ref (ad b)), (1, .ref (ad i1)), (2, .ref (ad i2)), (3, .long f)]) hx hb dP_takeBetween_21 hl (by decide) rfl (fun ls hl => ?_)
    have lp_tb : ∀ (n k_tb : Nat) (v_tb : Int32) (σ_tb : Nat → Nat → Int32), k_tb ≤ 32 → 32 + 1 ≤ k_tb + n → v_tb = nI k_tb → σ_tb = L_tb σ b i1 i2 f k_tb → True → ∀ (H : Heap) (locs : List Loc), va_P D vwCl (gW cs ad σ_tb τ) H → va_S (gA NC ad s.heap.size) s.heap H locs → ∀ ls : Array Slot, lv_has ls 9 [(6, .int v_tb), (5, .ref (ad (b + 2 + (σ b 1).toNatClampNeg))), (0, .ref (ad b)), (1, .ref (ad i1)), (2, .ref (ad i2)), (3, .long f)] → W p l e (headSpec (wsB kP_takeBetween) ({ frames := 1, cells := 0, slots := 0, locals := 25 } : Room)).room s m ([.ref (ad b), .ref (ad i1), .ref (ad i2), .long f] : List Value).toArray below meth c H locs 0 0 (MQ below (gQ none (gB D cs ad (s_takeBetween σ b i1 i2 f) τ) (gA NC ad s.heap.size)) ([.ref (ad b), .ref (ad i1), .ref (ad i2), .long f] : List Value).toArray s 0 0 (gA NC ad s.heap.size)) (F0 m 23 ls []) := by
      intro n
      induction n with
      | zero => intro k_tb v_tb σ_tb h1 h2; exact absurd h2 (by omega)
      | succ n ih_tb =>
        intro k_tb v_tb σ_tb hk_tb hn_tb ek_tb es_tb hI_tb H locs hP hS ls hl
        refine lv_iload hx hb dP_takeBetween_23 (lv_at hl 0 rfl) ?_
        refine lv_bipush (v := 32) hx hb dP_takeBetween_25 (by decide) ?_
        refine lv_icmp_ge (tgt := 71) hx hb dP_takeBetween_27 (by decide) (fun c_3 => ?_) (fun c_3 => ?_)
        · have hk9 := lp_end (N := 32) (by decide) (by decide) hk_tb ek_tb c_3
          subst hk9
          refine lv_aload_n hx hb dP_takeBetween_71 rfl (lv_at hl 2 rfl) ?_
          refine lv_dup hx hb dP_takeBetween_72 rfl ?_
          refine g_get (ci := 3) (C := RP) (T := TP) (M := 2) (v := .int (σ_tb b 1)) hx hb ht inP hown hK hP b (isP_lt0 hb0) (kP hb0) rfl 1 (by decide) (ht _ tw_64) (fun _ h9 => h9) rfl dP_takeBetween_73 ?_
          refine lv_iconst (v := 1) hx hb dP_takeBetween_76 (by decide) ?_
          refine lv_iadd hx hb dP_takeBetween_77 ?_
          refine g_put (ci := 3) (C := RP) (T := TP) (M := 2) (ty := .int) (x := ((σ_tb b 1) + 1)) hx hb ht inP tyP tyP_ok nmP hown hK hP hD hS b (isP_lt0 hb0) (fP ad b) (fun r t => (kP hb0)) rfl 1 (by decide) (ht _ tw_64) (fun _ h9 => h9) rfl (by decide +kernel) rfl rfl (Nat.le_of_ble_eq_true rfl) rfl dP_takeBetween_78 (fun H locs hP hS => ?_)
          have es : s_takeBetween σ b i1 i2 f = (w2 σ_tb b 1 ((σ_tb b 1) + 1)) := by unfold s_takeBetween; (try rw [← es_tb]); (try rw [if_pos c_1]); (try rfl)
          exact W.vret hx hb hr (fun t ht9 hW => ⟨rfl, by show va_P D vwCl (gW cs ad (s_takeBetween σ b i1 i2 f) τ) t.heap; rw [ht9, es]; exact hP, hS.F ht9⟩) hS.2.2 dP_takeBetween_81
        · have hb_tb := lp_body (N := 32) (by decide) (by decide) hk_tb ek_tb c_3
          refine lv_aload_n hx hb dP_takeBetween_30 rfl (lv_at hl 4 rfl) ?_
          refine lv_iload hx hb dP_takeBetween_31 (lv_at hl 0 rfl) ?_
          have hi_4 : vp_in v_tb 32 := (by skip; have b0 := hb_tb; rw [vp_in_iff]; (try simp only [Int32.toInt_add, Int32.toInt_sub, Int32.toInt_mul, Int.bmod_def]); omega)
          refine g_iald hx hb hK hP i2 0 h2 k2 rfl hi_4 dP_takeBetween_33 ?_
          refine lv_i2l hx hb dP_takeBetween_34 rfl ?_
          refine lv_aload_n hx hb dP_takeBetween_35 rfl (lv_at hl 3 rfl) ?_
          refine lv_iload hx hb dP_takeBetween_36 (lv_at hl 0 rfl) ?_
          have hi_5 : vp_in v_tb 32 := (by skip; have b0 := hb_tb; rw [vp_in_iff]; (try simp only [Int32.toInt_add, Int32.toInt_sub, Int32.toInt_mul, Int.bmod_def]); omega)
          refine g_iald hx hb hK hP i1 0 h1 k1 rfl hi_5 dP_takeBetween_38 ?_
          refine lv_i2l hx hb dP_takeBetween_39 rfl ?_
          refine lv_lsub hx hb dP_takeBetween_40 ?_
          refine lv_lstore (lv' := [(7, .long (((σ_tb i2 v_tb.toNatClampNeg).toInt64) - ((σ_tb i1 v_tb.toNatClampNeg).toInt64))), (6, .int v_tb), (5, .ref (ad (b + 2 + (σ b 1).toNatClampNeg))), (0, .ref (ad b)), (1, .ref (ad i1)), (2, .ref (ad i2)), (3, .long f)]) hx hb dP_takeBetween_41 hl (by decide) rfl (fun ls hl => ?_)
          refine lv_aload hx hb dP_takeBetween_43 (lv_at hl 2 rfl) ?_
          refine lv_iload hx hb dP_takeBetween_45 (lv_at hl 1 rfl) ?_
          refine lv_aload_n hx hb dP_takeBetween_47 rfl (lv_at hl 4 rfl) ?_
          refine lv_iload hx hb dP_takeBetween_48 (lv_at hl 1 rfl) ?_
          have hi_6 : vp_in v_tb 32 := (by skip; have b0 := hb_tb; rw [vp_in_iff]; (try simp only [Int32.toInt_add, Int32.toInt_sub, Int32.toInt_mul, Int.bmod_def]); omega)
          refine g_iald hx hb hK hP i1 0 h1 k1 rfl hi_6 dP_takeBetween_50 ?_
          refine lv_i2l hx hb dP_takeBetween_51 rfl ?_
          refine lv_lload hx hb dP_takeBetween_52 (lv_at hl 0 rfl) ?_
          refine lv_lload_n hx hb dP_takeBetween_54 rfl (lv_at hl 6 rfl) ?_
          refine lv_lmul hx hb dP_takeBetween_55 ?_
          refine lv_ldc2 (v := 65536) hx hb hown (ht _ tw_147) dP_takeBetween_56 ?_
          refine g_pure (v := .long (f_floorDiv ((((σ_tb i2 v_tb.toNatClampNeg).toInt64) - ((σ_tb i1 v_tb.toNatClampNeg).toInt64)) * f) (65536 : Int64))) (va_runS (As := [.long ((((σ_tb i2 v_tb.toNatClampNeg).toInt64) - ((σ_tb i1 v_tb.toNatClampNeg).toInt64)) * f), .long 65536]) (rest := [.long ((σ_tb i1 v_tb.toNatClampNeg).toInt64), .int v_tb, .ref (ad (b + 2 + (σ b 1).toNatClampNeg))]) ⟨hx, hb, hml, hown, hts⟩ (c_floorDiv l ((((σ_tb i2 v_tb.toNatClampNeg).toInt64) - ((σ_tb i1 v_tb.toNatClampNeg).toInt64)) * f) (65536 : Int64) (by decide)) (qS 2 ht tw_151 tw_152 tw_13 tk_J_floorDiv rfl rfl (by decide +kernel) ⟨(Nat.le_of_ble_eq_true rfl), (Nat.le_of_ble_eq_true rfl)⟩) g_pt rfl rfl hl.1 rfl (lv_room (Nat.le_of_ble_eq_true rfl)) dP_takeBetween_59 ⟨Nat.zero_le _, Nat.zero_le _⟩) ?_
          refine lv_ladd hx hb dP_takeBetween_62 ?_
          refine lv_l2i hx hb dP_takeBetween_63 rfl ?_
          have hi_7 : vp_in v_tb 32 := (by skip; have b0 := hb_tb; rw [vp_in_iff]; (try simp only [Int32.toInt_add, Int32.toInt_sub, Int32.toInt_mul, Int.bmod_def]); omega)
          refine g_iast hx hb hK hP hD hS (b + 2 + (σ b 1).toNatClampNeg) 0 (isP_lt hb0 (vp_lt hi_2)) (fun r t => kW hb0 (vp_lt hi_2)) rfl hi_7 dP_takeBetween_64 (fun H locs hP hS => ?_)
          refine lv_iinc (v := (v_tb + 1)) (lv' := [(6, .int (v_tb + 1)), (7, .long (((σ_tb i2 v_tb.toNatClampNeg).toInt64) - ((σ_tb i1 v_tb.toNatClampNeg).toInt64))), (5, .ref (ad (b + 2 + (σ b 1).toNatClampNeg))), (0, .ref (ad b)), (1, .ref (ad i1)), (2, .ref (ad i2)), (3, .long f)]) hx hb dP_takeBetween_65 hl (k := 1) rfl rfl (by decide) rfl (fun ls hl => ?_)
          refine lv_goto (tgt := 23) hx hb dP_takeBetween_68 (by decide) ?_
          have eb_8 : B_tb σ b i1 i2 f σ_tb v_tb = (w2 σ_tb (b + 2 + (σ b 1).toNatClampNeg) v_tb.toNatClampNeg ((((σ_tb i1 v_tb.toNatClampNeg).toInt64) + (f_floorDiv ((((σ_tb i2 v_tb.toNatClampNeg).toInt64) - ((σ_tb i1 v_tb.toNatClampNeg).toInt64)) * f) (65536 : Int64))).toInt32)) := by unfold B_tb; rfl
          exact ih_tb (k_tb + 1) _ _ hb_tb.1 (by omega) (by rw [ek_tb]; exact nI_1 k_tb) (eb_8.symm.trans (by rw [es_tb, ek_tb]; rfl)) trivial _ _ hP hS ls (lv_sub hl [0, 2, 3, 4, 5, 6] rfl)
    exact lp_tb (32 + 1) 0 0 _ (Nat.zero_le _) (by omega) rfl rfl trivial _ _ hP hS ls (lv_sub hl [0, 1, 2, 3, 4, 5] rfl)
  · have es : s_takeBetween σ b i1 i2 f = σ := by unfold s_takeBetween; rw [if_neg c_1]
    exact W.vret hx hb hr (fun t ht9 hW => ⟨rfl, by show va_P D vwCl (gW cs ad (s_takeBetween σ b i1 i2 f) τ) t.heap; rw [ht9, es]; exact hP, hS.F ht9⟩) hS.2.2 dP_takeBetween_8
