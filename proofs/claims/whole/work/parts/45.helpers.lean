theorem t01_vword (σ : Nat → Nat → Int32) (a0 : Int32) (a1 : Int32) : t_vword σ a0 a1 = 0 ∨ t_vword σ a0 a1 = 1 := by
  unfold t_vword
  repeat' split
  all_goals first | exact Or.inl rfl | exact Or.inr rfl
theorem sx_vword {σ : Nat → Nat → Int32} {a0 : Int32} {a1 : Int32} (h : ¬ t_vword σ a0 a1 = 0) : s_vword σ a0 a1 = σ := by
  unfold t_vword at h
  unfold s_vword
  by_cases h1 : (f_isBelow a0 (4096 : Int32)) = 0
  · rw [if_pos h1] at h ⊢
    (try rfl)
  · rw [if_neg h1] at h ⊢
    (try exact absurd rfl h)
def u_vword (σ : Nat → Nat → Int32) (τ : Nat → Nat → Int64) (a0 : Int32) (a1 : Int32) : Nat → Nat → Int64 := if t_vword σ a0 a1 = 0 then wl2 τ 34 (0 : Int32).toNatClampNeg (f_vword σ a0 a1).toInt64 else τ
set_option maxHeartbeats 800000 in
set_option maxRecDepth 100000 in
theorem c_hvword (l : Launch) (hl9 : l.stackTraces = false) {D : va_G} {cs : Nat → ClassId} {ad : Nat → Nat} (hinj : gI ad) (σ : Nat → Nat → Int32) (τ : Nat → Nat → Int64) (sz : Nat) (a0 : Int32) (a1 : Int32) : Met l yL_word (wsB kL_word) ({ frames := 7, cells := 1, slots := 6, locals := 112 } : Room) (va_Pc [.ref (ad 0), .int a0, .int a1, .ref (ad 34)] (gPX D cs ad σ τ sz)) (gQ (some (.int (t_vword σ a0 a1))) (gB D cs ad (s_vword σ a0 a1) (u_vword σ τ a0 a1)) (gA NC ad sz)) 1 6 (gA NC ad sz) := by
  refine va_MetW (cc := cL_word) (maxL := 5) (ret := (some .int)) (by decide) rfl ?_
  intro p e s m args below meth c s₁ B hml hv
  obtain ⟨rfl, ⟨hsz, hP, hK⟩, hX⟩ := hv
  have hx := B.exec
  have hb := B.bytes
  have hr := B.returns
  have hts := atoms_spec (ws := wsB kL_word) B.pre
  have ht := hbig hts
  have hown : s.vm.findClass RL = some m.cls := findClass_of_methodNamed B.named
  have hlocks := B.notSynchronized
  have hTab : c.exceptionTable.toList = tableOf [(0, 10, 13, 13)] := vx_table (x := yL_word) B (ht _ tk_L_word)
  subst hsz
  have hD : ∀ σ τ, va_D (gA NC ad s.heap.size) (gW cs ad σ τ) := fun _ _ => gw_D hinj (fun i h => gA_ad h)
  have hS : va_S (gA NC ad s.heap.size) s.heap s.heap [] := va_S.rf
  have hl := lv_entry ([.ref (ad 0), .int a0, .int a1, .ref (ad 34)]) (n := 5) (Nat.le_of_ble_eq_true rfl)
  rw [lg_entry_eq]
  generalize (lg_sl ([.ref (ad 0), .int a0, .int a1, .ref (ad 34)]) ++ List.replicate (5 - (lg_sl ([.ref (ad 0), .int a0, .int a1, .ref (ad 34)])).length) Slot.unset).toArray = ls at hl ⊢
  have hl : lv_has ls 5 [(0, .ref (ad 0)), (1, .int a0), (2, .int a1), (3, .ref (ad 34))] := hl
  refine lv_aload_n hx hb dL_word_0 rfl (lv_at hl 3 rfl) ?_
  refine lv_iconst (v := 0) hx hb dL_word_1 (by decide) ?_
  refine lv_aload_n hx hb dL_word_2 rfl (lv_at hl 0 rfl) ?_
  refine lv_iload_n hx hb dL_word_3 rfl (lv_at hl 1 rfl) ?_
  refine lv_iload_n hx hb dL_word_4 rfl (lv_at hl 2 rfl) ?_
  refine g_xrunR (v := .int (f_vword σ a0 a1)) (vx_runV (C := RV) (As := [.int a0, .int a1]) (rest := [.int 0, .ref (ad 34)]) ⟨hx, hb, hml, hown, hts⟩ (c_vword l hl9 hinj σ τ _ a0 a1 ) (qV 2 ht tw_198 tw_199 tw_200 tw_1 tk_V_word rfl rfl (by decide +kernel) ⟨(Nat.le_of_ble_eq_true rfl), (Nat.le_of_ble_eq_true rfl)⟩) (g_pvX (ci := 0) hK hP hX hS (by decide) rfl kV rfl) rfl rfl hl.1 rfl (lv_room (Nat.le_of_ble_eq_true rfl)) dL_word_5 ⟨(Nat.le_of_ble_eq_true rfl), (Nat.le_of_ble_eq_true rfl)⟩) hS (fun q _ h => gA_mono hS.1 q h) (fun q h => gA_mono hS.1 q h) (fun ce q9 H locs hT hz hk hS hce hcv hcl => ?_) (fun H locs hT hP hz hS => ?_)
  · have hP := gw_kept hP hk
    have h01 : t_vword σ a0 a1 = 1 := (t01_vword σ a0 a1).resolve_left hT
    refine vx_catch (own := RL) (name := xI) (E := xI) hown [] ⟨0, 10, 13, 13⟩ [] (by rw [hTab]; rfl) (fun z hz => nomatch hz) (by decide) (by decide) (ht _ tw_197) (ht _ tw_207) hce hcv hcl ?_
    refine lv_astore (lv' := [(4, .ref q9), (0, .ref (ad 0)), (1, .int a0), (2, .int a1), (3, .ref (ad 34))]) hx hb dL_word_13 hl (by decide) rfl (fun ls hl => ?_)
    refine lv_iconst (v := 1) hx hb dL_word_15 (by decide) ?_
    have eτ : (u_vword σ τ a0 a1) = τ := if_neg hT
    exact W.iret (v := 1) hx hb hr (fun t ht9 hW => ⟨by rw [h01], by show va_P D vwCl (gW cs ad (s_vword σ a0 a1) (u_vword σ τ a0 a1)) t.heap; rw [ht9, eτ, sx_vword hT]; exact hP, hS.F ht9⟩) hS.2.2 dL_word_16
  · refine lv_i2l hx hb dL_word_8 rfl ?_
    have hi_1 : vp_in (0 : Int32) 1 := (by unfold vp_in; decide)
    refine g_last hx hb hK hP hD hS 34 3 (by decide) (fun r t => kL) rfl hi_1 dL_word_9 (fun H locs hP hS => ?_)
    refine lv_goto (tgt := 17) hx hb dL_word_10 (by decide) ?_
    refine lv_iconst (v := 0) hx hb dL_word_17 (by decide) ?_
    have eτ : (u_vword σ τ a0 a1) = (wl2 τ 34 ((0 : Int32).toNatClampNeg) ((f_vword σ a0 a1).toInt64)) := if_pos hT
    exact W.iret (v := 0) hx hb hr (fun t ht9 hW => ⟨by rw [hT], by show va_P D vwCl (gW cs ad (s_vword σ a0 a1) (u_vword σ τ a0 a1)) t.heap; rw [ht9, eτ]; exact hP, hS.F ht9⟩) hS.2.2 dL_word_18
theorem t01_vattr (σ : Nat → Nat → Int32) (a0 : Int32) (a1 : Int32) (a2 : Int32) (a3 : Int32) (a4 : Int32) : t_vattr σ a0 a1 a2 a3 a4 = 0 ∨ t_vattr σ a0 a1 a2 a3 a4 = 1 := by
  unfold t_vattr
  repeat' split
  all_goals first | exact Or.inl rfl | exact Or.inr rfl
theorem sx_vattr {σ : Nat → Nat → Int32} {a0 : Int32} {a1 : Int32} {a2 : Int32} {a3 : Int32} {a4 : Int32} (h : ¬ t_vattr σ a0 a1 a2 a3 a4 = 0) : s_vattr σ a0 a1 a2 a3 a4 = σ := by
  unfold t_vattr at h
  unfold s_vattr
  by_cases h1 : (f_isBelow a0 (8 : Int32)) = 0
  · rw [if_pos h1] at h ⊢
    (try rfl)
  · rw [if_neg h1] at h ⊢
    by_cases h2 : a1 < 0
    · rw [if_pos h2] at h ⊢
      (try rfl)
    · rw [if_neg h2] at h ⊢
      by_cases h3 : 0 ≤ a2
      · rw [if_pos h3] at h ⊢
        by_cases h4 : (f_isBelow a3 (5 : Int32)) = 0
        · rw [if_pos h4] at h ⊢
          (try rfl)
        · rw [if_neg h4] at h ⊢
          by_cases h5 : (f_isBelow a4 (4 : Int32)) = 0
          · rw [if_pos h5] at h ⊢
            (try rfl)
          · rw [if_neg h5] at h ⊢
            (try exact absurd rfl h)
      · rw [if_neg h3] at h ⊢
        (try rfl)
set_option maxHeartbeats 800000 in
set_option maxRecDepth 100000 in
theorem c_hvattr (l : Launch) (hl9 : l.stackTraces = false) {D : va_G} {cs : Nat → ClassId} {ad : Nat → Nat} (hinj : gI ad) (σ : Nat → Nat → Int32) (τ : Nat → Nat → Int64) (sz : Nat) (a0 : Int32) (a1 : Int32) (a2 : Int32) (a3 : Int32) (a4 : Int32) : Met l yL_attribute (wsB kL_attribute) ({ frames := 7, cells := 1, slots := 6, locals := 115 } : Room) (va_Pc [.ref (ad 0), .int a0, .int a1, .int a2, .int a3, .int a4] (gPX D cs ad σ τ sz)) (gQ (some (.int (t_vattr σ a0 a1 a2 a3 a4))) (gB D cs ad (s_vattr σ a0 a1 a2 a3 a4) τ) (gA NC ad sz)) 1 6 (gA NC ad sz) := by
  refine va_MetW (cc := cL_attribute) (maxL := 7) (ret := (some .int)) (by decide) rfl ?_
  intro p e s m args below meth c s₁ B hml hv
  obtain ⟨rfl, ⟨hsz, hP, hK⟩, hX⟩ := hv
  have hx := B.exec
  have hb := B.bytes
  have hr := B.returns
  have hts := atoms_spec (ws := wsB kL_attribute) B.pre
  have ht := hbig hts
  have hown : s.vm.findClass RL = some m.cls := findClass_of_methodNamed B.named
  have hlocks := B.notSynchronized
  have hTab : c.exceptionTable.toList = tableOf [(0, 11, 14, 19)] := vx_table (x := yL_attribute) B (ht _ tk_L_attribute)
  subst hsz
  have hD : ∀ σ τ, va_D (gA NC ad s.heap.size) (gW cs ad σ τ) := fun _ _ => gw_D hinj (fun i h => gA_ad h)
  have hS : va_S (gA NC ad s.heap.size) s.heap s.heap [] := va_S.rf
  have hl := lv_entry ([.ref (ad 0), .int a0, .int a1, .int a2, .int a3, .int a4]) (n := 7) (Nat.le_of_ble_eq_true rfl)
  rw [lg_entry_eq]
  generalize (lg_sl ([.ref (ad 0), .int a0, .int a1, .int a2, .int a3, .int a4]) ++ List.replicate (7 - (lg_sl ([.ref (ad 0), .int a0, .int a1, .int a2, .int a3, .int a4])).length) Slot.unset).toArray = ls at hl ⊢
  have hl : lv_has ls 7 [(0, .ref (ad 0)), (1, .int a0), (2, .int a1), (3, .int a2), (4, .int a3), (5, .int a4)] := hl
  refine lv_aload_n hx hb dL_attribute_0 rfl (lv_at hl 0 rfl) ?_
  refine lv_iload_n hx hb dL_attribute_1 rfl (lv_at hl 1 rfl) ?_
  refine lv_iload_n hx hb dL_attribute_2 rfl (lv_at hl 2 rfl) ?_
  refine lv_iload_n hx hb dL_attribute_3 rfl (lv_at hl 3 rfl) ?_
  refine lv_iload hx hb dL_attribute_4 (lv_at hl 4 rfl) ?_
  refine lv_iload hx hb dL_attribute_6 (lv_at hl 5 rfl) ?_
  refine g_xrunV (vx_runV (C := RV) (As := [.int a0, .int a1, .int a2, .int a3, .int a4]) (rest := []) ⟨hx, hb, hml, hown, hts⟩ (c_vattr l hl9 hinj σ τ _ a0 a1 a2 a3 a4 ) (qV 5 ht tw_286 tw_287 tw_288 tw_1 tk_V_attribute rfl rfl (by decide +kernel) ⟨(Nat.le_of_ble_eq_true rfl), (Nat.le_of_ble_eq_true rfl)⟩) (g_pvX (ci := 0) hK hP hX hS (by decide) rfl kV rfl) rfl rfl hl.1 rfl (lv_room (Nat.le_of_ble_eq_true rfl)) dL_attribute_8 ⟨(Nat.le_of_ble_eq_true rfl), (Nat.le_of_ble_eq_true rfl)⟩) hS (fun q _ h => gA_mono hS.1 q h) (fun q h => gA_mono hS.1 q h) (fun ce q9 H locs hT hz hk hS hce hcv hcl => ?_) (fun H locs hT hP hz hS => ?_)
  · have hP := gw_kept hP hk
    have h01 : t_vattr σ a0 a1 a2 a3 a4 = 1 := (t01_vattr σ a0 a1 a2 a3 a4).resolve_left hT
    refine vx_catch (own := RL) (name := xA) (E := xA) hown [] ⟨0, 11, 14, 19⟩ [] (by rw [hTab]; rfl) (fun z hz => nomatch hz) (by decide) (by decide) (ht _ tw_285) (ht _ tw_292) hce hcv hcl ?_
    refine lv_astore (lv' := [(6, .ref q9), (0, .ref (ad 0)), (1, .int a0), (2, .int a1), (3, .int a2), (4, .int a3), (5, .int a4)]) hx hb dL_attribute_14 hl (by decide) rfl (fun ls hl => ?_)
    refine lv_iconst (v := 1) hx hb dL_attribute_16 (by decide) ?_
    have eτ : τ = τ := rfl
    exact W.iret (v := 1) hx hb hr (fun t ht9 hW => ⟨by rw [h01], by show va_P D vwCl (gW cs ad (s_vattr σ a0 a1 a2 a3 a4) τ) t.heap; rw [ht9, eτ, sx_vattr hT]; exact hP, hS.F ht9⟩) hS.2.2 dL_attribute_17
  · refine lv_goto (tgt := 18) hx hb dL_attribute_11 (by decide) ?_
    refine lv_iconst (v := 0) hx hb dL_attribute_18 (by decide) ?_
    have eτ : τ = τ := rfl
    exact W.iret (v := 0) hx hb hr (fun t ht9 hW => ⟨by rw [hT], by show va_P D vwCl (gW cs ad (s_vattr σ a0 a1 a2 a3 a4) τ) t.heap; rw [ht9, eτ]; exact hP, hS.F ht9⟩) hS.2.2 dL_attribute_19
theorem t01_vfetch (σ : Nat → Nat → Int32) (a0 : Int32) (a1 : Int32) (a2 : Int32) : t_vfetch σ a0 a1 a2 = 0 ∨ t_vfetch σ a0 a1 a2 = 1 := by
  unfold t_vfetch
  repeat' split
  all_goals first | exact Or.inl rfl | exact Or.inr rfl
theorem sx_vfetch {σ : Nat → Nat → Int32} {a0 : Int32} {a1 : Int32} {a2 : Int32} (h : ¬ t_vfetch σ a0 a1 a2 = 0) : s_vfetch σ a0 a1 a2 = σ := by
  unfold t_vfetch at h
  unfold s_vfetch
  by_cases h1 : (f_isBelow a0 (8 : Int32)) = 0
  · rw [if_pos h1] at h ⊢
    (try rfl)
  · rw [if_neg h1] at h ⊢
    by_cases h2 : (f_isBelow a2 (4 : Int32)) = 0
    · rw [if_pos h2] at h ⊢
      (try rfl)
    · rw [if_neg h2] at h ⊢
      by_cases h3 : 0 ≤ a1
      · rw [if_pos h3] at h ⊢
        (try exact absurd rfl h)
      · rw [if_neg h3] at h ⊢
        (try rfl)
def u_vfetch (σ : Nat → Nat → Int32) (τ : Nat → Nat → Int64) (a0 : Int32) (a1 : Int32) (a2 : Int32) : Nat → Nat → Int64 := if t_vfetch σ a0 a1 a2 = 0 then wl2 τ 34 (0 : Int32).toNatClampNeg (f_vfetch σ a0 a1 a2).toInt64 else τ
set_option maxHeartbeats 800000 in
set_option maxRecDepth 100000 in
theorem c_hvfetch (l : Launch) (hl9 : l.stackTraces = false) {D : va_G} {cs : Nat → ClassId} {ad : Nat → Nat} (hinj : gI ad) (σ : Nat → Nat → Int32) (τ : Nat → Nat → Int64) (sz : Nat) (a0 : Int32) (a1 : Int32) (a2 : Int32) : Met l yL_fetch (wsB kL_fetch) ({ frames := 7, cells := 1, slots := 6, locals := 113 } : Room) (va_Pc [.ref (ad 0), .int a0, .int a1, .int a2, .ref (ad 34)] (gPX D cs ad σ τ sz)) (gQ (some (.int (t_vfetch σ a0 a1 a2))) (gB D cs ad (s_vfetch σ a0 a1 a2) (u_vfetch σ τ a0 a1 a2)) (gA NC ad sz)) 1 6 (gA NC ad sz) := by
  refine va_MetW (cc := cL_fetch) (maxL := 6) (ret := (some .int)) (by decide) rfl ?_
  intro p e s m args below meth c s₁ B hml hv
  obtain ⟨rfl, ⟨hsz, hP, hK⟩, hX⟩ := hv
  have hx := B.exec
  have hb := B.bytes
  have hr := B.returns
  have hts := atoms_spec (ws := wsB kL_fetch) B.pre
  have ht := hbig hts
  have hown : s.vm.findClass RL = some m.cls := findClass_of_methodNamed B.named
  have hlocks := B.notSynchronized
  have hTab : c.exceptionTable.toList = tableOf [(0, 12, 15, 19)] := vx_table (x := yL_fetch) B (ht _ tk_L_fetch)
  subst hsz
  have hD : ∀ σ τ, va_D (gA NC ad s.heap.size) (gW cs ad σ τ) := fun _ _ => gw_D hinj (fun i h => gA_ad h)
  have hS : va_S (gA NC ad s.heap.size) s.heap s.heap [] := va_S.rf
  have hl := lv_entry ([.ref (ad 0), .int a0, .int a1, .int a2, .ref (ad 34)]) (n := 6) (Nat.le_of_ble_eq_true rfl)
  rw [lg_entry_eq]
  generalize (lg_sl ([.ref (ad 0), .int a0, .int a1, .int a2, .ref (ad 34)]) ++ List.replicate (6 - (lg_sl ([.ref (ad 0), .int a0, .int a1, .int a2, .ref (ad 34)])).length) Slot.unset).toArray = ls at hl ⊢
  have hl : lv_has ls 6 [(0, .ref (ad 0)), (1, .int a0), (2, .int a1), (3, .int a2), (4, .ref (ad 34))] := hl
  refine lv_aload hx hb dL_fetch_0 (lv_at hl 4 rfl) ?_
  refine lv_iconst (v := 0) hx hb dL_fetch_2 (by decide) ?_
  refine lv_aload_n hx hb dL_fetch_3 rfl (lv_at hl 0 rfl) ?_
  refine lv_iload_n hx hb dL_fetch_4 rfl (lv_at hl 1 rfl) ?_
  refine lv_iload_n hx hb dL_fetch_5 rfl (lv_at hl 2 rfl) ?_
  refine lv_iload_n hx hb dL_fetch_6 rfl (lv_at hl 3 rfl) ?_
  refine g_xrunR (v := .int (f_vfetch σ a0 a1 a2)) (vx_runV (C := RV) (As := [.int a0, .int a1, .int a2]) (rest := [.int 0, .ref (ad 34)]) ⟨hx, hb, hml, hown, hts⟩ (c_vfetch l hl9 hinj σ τ _ a0 a1 a2 ) (qV 3 ht tw_314 tw_315 tw_316 tw_1 tk_V_fetch rfl rfl (by decide +kernel) ⟨(Nat.le_of_ble_eq_true rfl), (Nat.le_of_ble_eq_true rfl)⟩) (g_pvX (ci := 0) hK hP hX hS (by decide) rfl kV rfl) rfl rfl hl.1 rfl (lv_room (Nat.le_of_ble_eq_true rfl)) dL_fetch_7 ⟨(Nat.le_of_ble_eq_true rfl), (Nat.le_of_ble_eq_true rfl)⟩) hS (fun q _ h => gA_mono hS.1 q h) (fun q h => gA_mono hS.1 q h) (fun ce q9 H locs hT hz hk hS hce hcv hcl => ?_) (fun H locs hT hP hz hS => ?_)
  · have hP := gw_kept hP hk
    have h01 : t_vfetch σ a0 a1 a2 = 1 := (t01_vfetch σ a0 a1 a2).resolve_left hT
    refine vx_catch (own := RL) (name := xA) (E := xA) hown [] ⟨0, 12, 15, 19⟩ [] (by rw [hTab]; rfl) (fun z hz => nomatch hz) (by decide) (by decide) (ht _ tw_285) (ht _ tw_292) hce hcv hcl ?_
    refine lv_astore (lv' := [(5, .ref q9), (0, .ref (ad 0)), (1, .int a0), (2, .int a1), (3, .int a2), (4, .ref (ad 34))]) hx hb dL_fetch_15 hl (by decide) rfl (fun ls hl => ?_)
    refine lv_iconst (v := 1) hx hb dL_fetch_17 (by decide) ?_
    have eτ : (u_vfetch σ τ a0 a1 a2) = τ := if_neg hT
    exact W.iret (v := 1) hx hb hr (fun t ht9 hW => ⟨by rw [h01], by show va_P D vwCl (gW cs ad (s_vfetch σ a0 a1 a2) (u_vfetch σ τ a0 a1 a2)) t.heap; rw [ht9, eτ, sx_vfetch hT]; exact hP, hS.F ht9⟩) hS.2.2 dL_fetch_18
  · refine lv_i2l hx hb dL_fetch_10 rfl ?_
    have hi_1 : vp_in (0 : Int32) 1 := (by unfold vp_in; decide)
    refine g_last hx hb hK hP hD hS 34 3 (by decide) (fun r t => kL) rfl hi_1 dL_fetch_11 (fun H locs hP hS => ?_)
    refine lv_goto (tgt := 19) hx hb dL_fetch_12 (by decide) ?_
    refine lv_iconst (v := 0) hx hb dL_fetch_19 (by decide) ?_
    have eτ : (u_vfetch σ τ a0 a1 a2) = (wl2 τ 34 ((0 : Int32).toNatClampNeg) ((f_vfetch σ a0 a1 a2).toInt64)) := if_pos hT
    exact W.iret (v := 0) hx hb hr (fun t ht9 hW => ⟨by rw [hT], by show va_P D vwCl (gW cs ad (s_vfetch σ a0 a1 a2) (u_vfetch σ τ a0 a1 a2)) t.heap; rw [ht9, eτ]; exact hP, hS.F ht9⟩) hS.2.2 dL_fetch_20
theorem t01_vindex (σ : Nat → Nat → Int32) (a0 : Int32) (a1 : Int32) (a2 : Int32) : t_vindex σ a0 a1 a2 = 0 ∨ t_vindex σ a0 a1 a2 = 1 := by
  unfold t_vindex
  repeat' split
  all_goals first | exact Or.inl rfl | exact Or.inr rfl
theorem sx_vindex {σ : Nat → Nat → Int32} {a0 : Int32} {a1 : Int32} {a2 : Int32} (h : ¬ t_vindex σ a0 a1 a2 = 0) : s_vindex σ a0 a1 a2 = σ := by
  unfold t_vindex at h
  unfold s_vindex
  by_cases h1 : (f_isBelow a0 (3 : Int32)) = 0
  · rw [if_pos h1] at h ⊢
    (try rfl)
  · rw [if_neg h1] at h ⊢
    by_cases h2 : a1 < 0
    · rw [if_pos h2] at h ⊢
      (try rfl)
    · rw [if_neg h2] at h ⊢
      by_cases h3 : 0 ≤ a2
      · rw [if_pos h3] at h ⊢
        by_cases h4 : a0 = 0
        · rw [if_pos h4] at h ⊢
          (try exact absurd rfl h)
        · rw [if_neg h4] at h ⊢
          by_cases h5 : a0 = 1
          · rw [if_pos h5] at h ⊢
            (try exact absurd rfl h)
          · rw [if_neg h5] at h ⊢
            (try exact absurd rfl h)
      · rw [if_neg h3] at h ⊢
        (try rfl)
def u_vindex (σ : Nat → Nat → Int32) (τ : Nat → Nat → Int64) (a0 : Int32) (a1 : Int32) (a2 : Int32) : Nat → Nat → Int64 := if t_vindex σ a0 a1 a2 = 0 then wl2 τ 34 (0 : Int32).toNatClampNeg (f_vindex σ a0 a1 a2).toInt64 else τ
set_option maxHeartbeats 800000 in
set_option maxRecDepth 100000 in
theorem c_hvindex (l : Launch) (hl9 : l.stackTraces = false) {D : va_G} {cs : Nat → ClassId} {ad : Nat → Nat} (hinj : gI ad) (σ : Nat → Nat → Int32) (τ : Nat → Nat → Int64) (sz : Nat) (a0 : Int32) (a1 : Int32) (a2 : Int32) : Met l yL_index (wsB kL_index) ({ frames := 7, cells := 1, slots := 6, locals := 113 } : Room) (va_Pc [.ref (ad 0), .int a0, .int a1, .int a2, .ref (ad 34)] (gPX D cs ad σ τ sz)) (gQ (some (.int (t_vindex σ a0 a1 a2))) (gB D cs ad (s_vindex σ a0 a1 a2) (u_vindex σ τ a0 a1 a2)) (gA NC ad sz)) 1 6 (gA NC ad sz) := by
  refine va_MetW (cc := cL_index) (maxL := 6) (ret := (some .int)) (by decide) rfl ?_
  intro p e s m args below meth c s₁ B hml hv
  obtain ⟨rfl, ⟨hsz, hP, hK⟩, hX⟩ := hv
  have hx := B.exec
  have hb := B.bytes
  have hr := B.returns
  have hts := atoms_spec (ws := wsB kL_index) B.pre
  have ht := hbig hts
  have hown : s.vm.findClass RL = some m.cls := findClass_of_methodNamed B.named
  have hlocks := B.notSynchronized
  have hTab : c.exceptionTable.toList = tableOf [(0, 12, 15, 19)] := vx_table (x := yL_index) B (ht _ tk_L_index)
  subst hsz
  have hD : ∀ σ τ, va_D (gA NC ad s.heap.size) (gW cs ad σ τ) := fun _ _ => gw_D hinj (fun i h => gA_ad h)
  have hS : va_S (gA NC ad s.heap.size) s.heap s.heap [] := va_S.rf
  have hl := lv_entry ([.ref (ad 0), .int a0, .int a1, .int a2, .ref (ad 34)]) (n := 6) (Nat.le_of_ble_eq_true rfl)
  rw [lg_entry_eq]
  generalize (lg_sl ([.ref (ad 0), .int a0, .int a1, .int a2, .ref (ad 34)]) ++ List.replicate (6 - (lg_sl ([.ref (ad 0), .int a0, .int a1, .int a2, .ref (ad 34)])).length) Slot.unset).toArray = ls at hl ⊢
  have hl : lv_has ls 6 [(0, .ref (ad 0)), (1, .int a0), (2, .int a1), (3, .int a2), (4, .ref (ad 34))] := hl
  refine lv_aload hx hb dL_index_0 (lv_at hl 4 rfl) ?_
  refine lv_iconst (v := 0) hx hb dL_index_2 (by decide) ?_
  refine lv_aload_n hx hb dL_index_3 rfl (lv_at hl 0 rfl) ?_
  refine lv_iload_n hx hb dL_index_4 rfl (lv_at hl 1 rfl) ?_
  refine lv_iload_n hx hb dL_index_5 rfl (lv_at hl 2 rfl) ?_
  refine lv_iload_n hx hb dL_index_6 rfl (lv_at hl 3 rfl) ?_
  refine g_xrunR (v := .int (f_vindex σ a0 a1 a2)) (vx_runV (C := RV) (As := [.int a0, .int a1, .int a2]) (rest := [.int 0, .ref (ad 34)]) ⟨hx, hb, hml, hown, hts⟩ (c_vindex l hl9 hinj σ τ _ a0 a1 a2 ) (qV 3 ht tw_337 tw_338 tw_339 tw_1 tk_V_index rfl rfl (by decide +kernel) ⟨(Nat.le_of_ble_eq_true rfl), (Nat.le_of_ble_eq_true rfl)⟩) (g_pvX (ci := 0) hK hP hX hS (by decide) rfl kV rfl) rfl rfl hl.1 rfl (lv_room (Nat.le_of_ble_eq_true rfl)) dL_index_7 ⟨(Nat.le_of_ble_eq_true rfl), (Nat.le_of_ble_eq_true rfl)⟩) hS (fun q _ h => gA_mono hS.1 q h) (fun q h => gA_mono hS.1 q h) (fun ce q9 H locs hT hz hk hS hce hcv hcl => ?_) (fun H locs hT hP hz hS => ?_)
  · have hP := gw_kept hP hk
    have h01 : t_vindex σ a0 a1 a2 = 1 := (t01_vindex σ a0 a1 a2).resolve_left hT
    refine vx_catch (own := RL) (name := xA) (E := xA) hown [] ⟨0, 12, 15, 19⟩ [] (by rw [hTab]; rfl) (fun z hz => nomatch hz) (by decide) (by decide) (ht _ tw_285) (ht _ tw_292) hce hcv hcl ?_
    refine lv_astore (lv' := [(5, .ref q9), (0, .ref (ad 0)), (1, .int a0), (2, .int a1), (3, .int a2), (4, .ref (ad 34))]) hx hb dL_index_15 hl (by decide) rfl (fun ls hl => ?_)
    refine lv_iconst (v := 1) hx hb dL_index_17 (by decide) ?_
    have eτ : (u_vindex σ τ a0 a1 a2) = τ := if_neg hT
    exact W.iret (v := 1) hx hb hr (fun t ht9 hW => ⟨by rw [h01], by show va_P D vwCl (gW cs ad (s_vindex σ a0 a1 a2) (u_vindex σ τ a0 a1 a2)) t.heap; rw [ht9, eτ, sx_vindex hT]; exact hP, hS.F ht9⟩) hS.2.2 dL_index_18
  · refine lv_i2l hx hb dL_index_10 rfl ?_
    have hi_1 : vp_in (0 : Int32) 1 := (by unfold vp_in; decide)
    refine g_last hx hb hK hP hD hS 34 3 (by decide) (fun r t => kL) rfl hi_1 dL_index_11 (fun H locs hP hS => ?_)
    refine lv_goto (tgt := 19) hx hb dL_index_12 (by decide) ?_
    refine lv_iconst (v := 0) hx hb dL_index_19 (by decide) ?_
    have eτ : (u_vindex σ τ a0 a1 a2) = (wl2 τ 34 ((0 : Int32).toNatClampNeg) ((f_vindex σ a0 a1 a2).toInt64)) := if_pos hT
    exact W.iret (v := 0) hx hb hr (fun t ht9 hW => ⟨by rw [hT], by show va_P D vwCl (gW cs ad (s_vindex σ a0 a1 a2) (u_vindex σ τ a0 a1 a2)) t.heap; rw [ht9, eτ]; exact hP, hS.F ht9⟩) hS.2.2 dL_index_20
theorem t01_vtriangles (σ : Nat → Nat → Int32) (a0 : Int32) (a1 : Int32) : t_vtriangles σ a0 a1 = 0 ∨ t_vtriangles σ a0 a1 = 1 := by
  unfold t_vtriangles
  repeat' split
  all_goals first | exact Or.inl rfl | exact Or.inr rfl
theorem sx_vtriangles {σ : Nat → Nat → Int32} {a0 : Int32} {a1 : Int32} (h : ¬ t_vtriangles σ a0 a1 = 0) : s_vtriangles σ a0 a1 = σ := by
  unfold t_vtriangles at h
  unfold s_vtriangles
  by_cases h1 : (f_isBelow a0 (3 : Int32)) = 0
  · rw [if_pos h1] at h ⊢
    (try rfl)
  · rw [if_neg h1] at h ⊢
    by_cases h2 : 0 ≤ a1
    · rw [if_pos h2] at h ⊢
      by_cases h3 : a0 = 0
      · rw [if_pos h3] at h ⊢
        (try exact absurd rfl h)
      · rw [if_neg h3] at h ⊢
        (try exact absurd rfl h)
    · rw [if_neg h2] at h ⊢
      (try rfl)
def u_vtriangles (σ : Nat → Nat → Int32) (τ : Nat → Nat → Int64) (a0 : Int32) (a1 : Int32) : Nat → Nat → Int64 := if t_vtriangles σ a0 a1 = 0 then wl2 τ 34 (0 : Int32).toNatClampNeg (f_vtriangles σ a0 a1).toInt64 else τ
set_option maxHeartbeats 800000 in
set_option maxRecDepth 100000 in
theorem c_hvtriangles (l : Launch) (hl9 : l.stackTraces = false) {D : va_G} {cs : Nat → ClassId} {ad : Nat → Nat} (hinj : gI ad) (σ : Nat → Nat → Int32) (τ : Nat → Nat → Int64) (sz : Nat) (a0 : Int32) (a1 : Int32) : Met l yL_triangles (wsB kL_triangles) ({ frames := 7, cells := 1, slots := 6, locals := 112 } : Room) (va_Pc [.ref (ad 0), .int a0, .int a1, .ref (ad 34)] (gPX D cs ad σ τ sz)) (gQ (some (.int (t_vtriangles σ a0 a1))) (gB D cs ad (s_vtriangles σ a0 a1) (u_vtriangles σ τ a0 a1)) (gA NC ad sz)) 1 6 (gA NC ad sz) := by
  refine va_MetW (cc := cL_triangles) (maxL := 5) (ret := (some .int)) (by decide) rfl ?_
  intro p e s m args below meth c s₁ B hml hv
  obtain ⟨rfl, ⟨hsz, hP, hK⟩, hX⟩ := hv
  have hx := B.exec
  have hb := B.bytes
  have hr := B.returns
  have hts := atoms_spec (ws := wsB kL_triangles) B.pre
  have ht := hbig hts
  have hown : s.vm.findClass RL = some m.cls := findClass_of_methodNamed B.named
  have hlocks := B.notSynchronized
  have hTab : c.exceptionTable.toList = tableOf [(0, 10, 13, 19)] := vx_table (x := yL_triangles) B (ht _ tk_L_triangles)
  subst hsz
  have hD : ∀ σ τ, va_D (gA NC ad s.heap.size) (gW cs ad σ τ) := fun _ _ => gw_D hinj (fun i h => gA_ad h)
  have hS : va_S (gA NC ad s.heap.size) s.heap s.heap [] := va_S.rf
  have hl := lv_entry ([.ref (ad 0), .int a0, .int a1, .ref (ad 34)]) (n := 5) (Nat.le_of_ble_eq_true rfl)
  rw [lg_entry_eq]
  generalize (lg_sl ([.ref (ad 0), .int a0, .int a1, .ref (ad 34)]) ++ List.replicate (5 - (lg_sl ([.ref (ad 0), .int a0, .int a1, .ref (ad 34)])).length) Slot.unset).toArray = ls at hl ⊢
  have hl : lv_has ls 5 [(0, .ref (ad 0)), (1, .int a0), (2, .int a1), (3, .ref (ad 34))] := hl
  refine lv_aload_n hx hb dL_triangles_0 rfl (lv_at hl 3 rfl) ?_
  refine lv_iconst (v := 0) hx hb dL_triangles_1 (by decide) ?_
  refine lv_aload_n hx hb dL_triangles_2 rfl (lv_at hl 0 rfl) ?_
  refine lv_iload_n hx hb dL_triangles_3 rfl (lv_at hl 1 rfl) ?_
  refine lv_iload_n hx hb dL_triangles_4 rfl (lv_at hl 2 rfl) ?_
  refine g_xrunR (v := .int (f_vtriangles σ a0 a1)) (vx_runV (C := RV) (As := [.int a0, .int a1]) (rest := [.int 0, .ref (ad 34)]) ⟨hx, hb, hml, hown, hts⟩ (c_vtriangles l hl9 hinj σ τ _ a0 a1 ) (qV 2 ht tw_348 tw_349 tw_350 tw_1 tk_V_triangles rfl rfl (by decide +kernel) ⟨(Nat.le_of_ble_eq_true rfl), (Nat.le_of_ble_eq_true rfl)⟩) (g_pvX (ci := 0) hK hP hX hS (by decide) rfl kV rfl) rfl rfl hl.1 rfl (lv_room (Nat.le_of_ble_eq_true rfl)) dL_triangles_5 ⟨(Nat.le_of_ble_eq_true rfl), (Nat.le_of_ble_eq_true rfl)⟩) hS (fun q _ h => gA_mono hS.1 q h) (fun q h => gA_mono hS.1 q h) (fun ce q9 H locs hT hz hk hS hce hcv hcl => ?_) (fun H locs hT hP hz hS => ?_)
  · have hP := gw_kept hP hk
    have h01 : t_vtriangles σ a0 a1 = 1 := (t01_vtriangles σ a0 a1).resolve_left hT
    refine vx_catch (own := RL) (name := xA) (E := xA) hown [] ⟨0, 10, 13, 19⟩ [] (by rw [hTab]; rfl) (fun z hz => nomatch hz) (by decide) (by decide) (ht _ tw_285) (ht _ tw_292) hce hcv hcl ?_
    refine lv_astore (lv' := [(4, .ref q9), (0, .ref (ad 0)), (1, .int a0), (2, .int a1), (3, .ref (ad 34))]) hx hb dL_triangles_13 hl (by decide) rfl (fun ls hl => ?_)
    refine lv_iconst (v := 1) hx hb dL_triangles_15 (by decide) ?_
    have eτ : (u_vtriangles σ τ a0 a1) = τ := if_neg hT
    exact W.iret (v := 1) hx hb hr (fun t ht9 hW => ⟨by rw [h01], by show va_P D vwCl (gW cs ad (s_vtriangles σ a0 a1) (u_vtriangles σ τ a0 a1)) t.heap; rw [ht9, eτ, sx_vtriangles hT]; exact hP, hS.F ht9⟩) hS.2.2 dL_triangles_16
  · refine lv_i2l hx hb dL_triangles_8 rfl ?_
    have hi_1 : vp_in (0 : Int32) 1 := (by unfold vp_in; decide)
    refine g_last hx hb hK hP hD hS 34 3 (by decide) (fun r t => kL) rfl hi_1 dL_triangles_9 (fun H locs hP hS => ?_)
    refine lv_goto (tgt := 17) hx hb dL_triangles_10 (by decide) ?_
    refine lv_iconst (v := 0) hx hb dL_triangles_17 (by decide) ?_
    have eτ : (u_vtriangles σ τ a0 a1) = (wl2 τ 34 ((0 : Int32).toNatClampNeg) ((f_vtriangles σ a0 a1).toInt64)) := if_pos hT
    exact W.iret (v := 0) hx hb hr (fun t ht9 hW => ⟨by rw [hT], by show va_P D vwCl (gW cs ad (s_vtriangles σ a0 a1) (u_vtriangles σ τ a0 a1)) t.heap; rw [ht9, eτ]; exact hP, hS.F ht9⟩) hS.2.2 dL_triangles_18
theorem t01_vcorner (σ : Nat → Nat → Int32) (a0 : Int32) (a1 : Int32) (a2 : Int32) : t_vcorner σ a0 a1 a2 = 0 ∨ t_vcorner σ a0 a1 a2 = 1 := by
  unfold t_vcorner
  repeat' split
  all_goals first | exact Or.inl rfl | exact Or.inr rfl
theorem sx_vcorner {σ : Nat → Nat → Int32} {a0 : Int32} {a1 : Int32} {a2 : Int32} (h : ¬ t_vcorner σ a0 a1 a2 = 0) : s_vcorner σ a0 a1 a2 = σ := by
  unfold t_vcorner at h
  unfold s_vcorner
  by_cases h1 : (f_isBelow a0 (3 : Int32)) = 0
  · rw [if_pos h1] at h ⊢
    (try rfl)
  · rw [if_neg h1] at h ⊢
    by_cases h2 : (f_isBelow a1 (100000001 : Int32)) = 0
    · rw [if_pos h2] at h ⊢
      (try rfl)
    · rw [if_neg h2] at h ⊢
      by_cases h3 : (f_isBelow a2 (3 : Int32)) = 0
      · rw [if_pos h3] at h ⊢
        (try rfl)
      · rw [if_neg h3] at h ⊢
        by_cases h4 : a0 = 0
        · rw [if_pos h4] at h ⊢
          (try exact absurd rfl h)
        · rw [if_neg h4] at h ⊢
          by_cases h5 : a0 = 1
          · rw [if_pos h5] at h ⊢
            (try exact absurd rfl h)
          · rw [if_neg h5] at h ⊢
            (try exact absurd rfl h)
def u_vcorner (σ : Nat → Nat → Int32) (τ : Nat → Nat → Int64) (a0 : Int32) (a1 : Int32) (a2 : Int32) : Nat → Nat → Int64 := if t_vcorner σ a0 a1 a2 = 0 then wl2 τ 34 (0 : Int32).toNatClampNeg (f_vcorner σ a0 a1 a2).toInt64 else τ
set_option maxHeartbeats 800000 in
set_option maxRecDepth 100000 in
theorem c_hvcorner (l : Launch) (hl9 : l.stackTraces = false) {D : va_G} {cs : Nat → ClassId} {ad : Nat → Nat} (hinj : gI ad) (σ : Nat → Nat → Int32) (τ : Nat → Nat → Int64) (sz : Nat) (a0 : Int32) (a1 : Int32) (a2 : Int32) : Met l yL_corner (wsB kL_corner) ({ frames := 7, cells := 1, slots := 6, locals := 113 } : Room) (va_Pc [.ref (ad 0), .int a0, .int a1, .int a2, .ref (ad 34)] (gPX D cs ad σ τ sz)) (gQ (some (.int (t_vcorner σ a0 a1 a2))) (gB D cs ad (s_vcorner σ a0 a1 a2) (u_vcorner σ τ a0 a1 a2)) (gA NC ad sz)) 1 6 (gA NC ad sz) := by
  refine va_MetW (cc := cL_corner) (maxL := 6) (ret := (some .int)) (by decide) rfl ?_
  intro p e s m args below meth c s₁ B hml hv
  obtain ⟨rfl, ⟨hsz, hP, hK⟩, hX⟩ := hv
  have hx := B.exec
  have hb := B.bytes
  have hr := B.returns
  have hts := atoms_spec (ws := wsB kL_corner) B.pre
  have ht := hbig hts
  have hown : s.vm.findClass RL = some m.cls := findClass_of_methodNamed B.named
  have hlocks := B.notSynchronized
  have hTab : c.exceptionTable.toList = tableOf [(0, 12, 15, 19)] := vx_table (x := yL_corner) B (ht _ tk_L_corner)
  subst hsz
  have hD : ∀ σ τ, va_D (gA NC ad s.heap.size) (gW cs ad σ τ) := fun _ _ => gw_D hinj (fun i h => gA_ad h)
  have hS : va_S (gA NC ad s.heap.size) s.heap s.heap [] := va_S.rf
  have hl := lv_entry ([.ref (ad 0), .int a0, .int a1, .int a2, .ref (ad 34)]) (n := 6) (Nat.le_of_ble_eq_true rfl)
  rw [lg_entry_eq]
  generalize (lg_sl ([.ref (ad 0), .int a0, .int a1, .int a2, .ref (ad 34)]) ++ List.replicate (6 - (lg_sl ([.ref (ad 0), .int a0, .int a1, .int a2, .ref (ad 34)])).length) Slot.unset).toArray = ls at hl ⊢
  have hl : lv_has ls 6 [(0, .ref (ad 0)), (1, .int a0), (2, .int a1), (3, .int a2), (4, .ref (ad 34))] := hl
  refine lv_aload hx hb dL_corner_0 (lv_at hl 4 rfl) ?_
  refine lv_iconst (v := 0) hx hb dL_corner_2 (by decide) ?_
  refine lv_aload_n hx hb dL_corner_3 rfl (lv_at hl 0 rfl) ?_
  refine lv_iload_n hx hb dL_corner_4 rfl (lv_at hl 1 rfl) ?_
  refine lv_iload_n hx hb dL_corner_5 rfl (lv_at hl 2 rfl) ?_
  refine lv_iload_n hx hb dL_corner_6 rfl (lv_at hl 3 rfl) ?_
  refine g_xrunR (v := .int (f_vcorner σ a0 a1 a2)) (vx_runV (C := RV) (As := [.int a0, .int a1, .int a2]) (rest := [.int 0, .ref (ad 34)]) ⟨hx, hb, hml, hown, hts⟩ (c_vcorner l hl9 hinj σ τ _ a0 a1 a2 ) (qV 3 ht tw_356 tw_357 tw_358 tw_1 tk_V_corner rfl rfl (by decide +kernel) ⟨(Nat.le_of_ble_eq_true rfl), (Nat.le_of_ble_eq_true rfl)⟩) (g_pvX (ci := 0) hK hP hX hS (by decide) rfl kV rfl) rfl rfl hl.1 rfl (lv_room (Nat.le_of_ble_eq_true rfl)) dL_corner_7 ⟨(Nat.le_of_ble_eq_true rfl), (Nat.le_of_ble_eq_true rfl)⟩) hS (fun q _ h => gA_mono hS.1 q h) (fun q h => gA_mono hS.1 q h) (fun ce q9 H locs hT hz hk hS hce hcv hcl => ?_) (fun H locs hT hP hz hS => ?_)
  · have hP := gw_kept hP hk
    have h01 : t_vcorner σ a0 a1 a2 = 1 := (t01_vcorner σ a0 a1 a2).resolve_left hT
    refine vx_catch (own := RL) (name := xA) (E := xA) hown [] ⟨0, 12, 15, 19⟩ [] (by rw [hTab]; rfl) (fun z hz => nomatch hz) (by decide) (by decide) (ht _ tw_285) (ht _ tw_292) hce hcv hcl ?_
    refine lv_astore (lv' := [(5, .ref q9), (0, .ref (ad 0)), (1, .int a0), (2, .int a1), (3, .int a2), (4, .ref (ad 34))]) hx hb dL_corner_15 hl (by decide) rfl (fun ls hl => ?_)
    refine lv_iconst (v := 1) hx hb dL_corner_17 (by decide) ?_
    have eτ : (u_vcorner σ τ a0 a1 a2) = τ := if_neg hT
    exact W.iret (v := 1) hx hb hr (fun t ht9 hW => ⟨by rw [h01], by show va_P D vwCl (gW cs ad (s_vcorner σ a0 a1 a2) (u_vcorner σ τ a0 a1 a2)) t.heap; rw [ht9, eτ, sx_vcorner hT]; exact hP, hS.F ht9⟩) hS.2.2 dL_corner_18
  · refine lv_i2l hx hb dL_corner_10 rfl ?_
    have hi_1 : vp_in (0 : Int32) 1 := (by unfold vp_in; decide)
    refine g_last hx hb hK hP hD hS 34 3 (by decide) (fun r t => kL) rfl hi_1 dL_corner_11 (fun H locs hP hS => ?_)
    refine lv_goto (tgt := 19) hx hb dL_corner_12 (by decide) ?_
    refine lv_iconst (v := 0) hx hb dL_corner_19 (by decide) ?_
    have eτ : (u_vcorner σ τ a0 a1 a2) = (wl2 τ 34 ((0 : Int32).toNatClampNeg) ((f_vcorner σ a0 a1 a2).toInt64)) := if_pos hT
    exact W.iret (v := 0) hx hb hr (fun t ht9 hW => ⟨by rw [hT], by show va_P D vwCl (gW cs ad (s_vcorner σ a0 a1 a2) (u_vcorner σ τ a0 a1 a2)) t.heap; rw [ht9, eτ]; exact hP, hS.F ht9⟩) hS.2.2 dL_corner_20
theorem t01_vplace (σ : Nat → Nat → Int32) (a0 : Int32) (a1 : Int32) (a2 : Int32) (a3 : Int32) (a4 : Int32) : t_vplace σ a0 a1 a2 a3 a4 = 0 ∨ t_vplace σ a0 a1 a2 a3 a4 = 1 := by
  unfold t_vplace
  repeat' split
  all_goals first | exact Or.inl rfl | exact Or.inr rfl
theorem sx_vplace {σ : Nat → Nat → Int32} {a0 : Int32} {a1 : Int32} {a2 : Int32} {a3 : Int32} {a4 : Int32} (h : ¬ t_vplace σ a0 a1 a2 a3 a4 = 0) : s_vplace σ a0 a1 a2 a3 a4 = σ := by
  unfold t_vplace at h
  unfold s_vplace
  by_cases h1 : (f_isBelow a0 (3 : Int32)) = 0
  · rw [if_pos h1] at h ⊢
    (try rfl)
  · rw [if_neg h1] at h ⊢
    (try exact absurd rfl h)
set_option maxHeartbeats 800000 in
set_option maxRecDepth 100000 in
theorem c_hvplace (l : Launch) (hl9 : l.stackTraces = false) {D : va_G} {cs : Nat → ClassId} {ad : Nat → Nat} (hinj : gI ad) (σ : Nat → Nat → Int32) (τ : Nat → Nat → Int64) (sz : Nat) (a0 : Int32) (a1 : Int32) (a2 : Int32) (a3 : Int32) (a4 : Int32) : Met l yL_place (wsB kL_place) ({ frames := 7, cells := 1, slots := 6, locals := 115 } : Room) (va_Pc [.ref (ad 0), .int a0, .int a1, .int a2, .int a3, .int a4] (gPX D cs ad σ τ sz)) (gQ (some (.int (t_vplace σ a0 a1 a2 a3 a4))) (gB D cs ad (s_vplace σ a0 a1 a2 a3 a4) τ) (gA NC ad sz)) 1 6 (gA NC ad sz) := by
  refine va_MetW (cc := cL_place) (maxL := 7) (ret := (some .int)) (by decide) rfl ?_
  intro p e s m args below meth c s₁ B hml hv
  obtain ⟨rfl, ⟨hsz, hP, hK⟩, hX⟩ := hv
  have hx := B.exec
  have hb := B.bytes
  have hr := B.returns
  have hts := atoms_spec (ws := wsB kL_place) B.pre
  have ht := hbig hts
  have hown : s.vm.findClass RL = some m.cls := findClass_of_methodNamed B.named
  have hlocks := B.notSynchronized
  have hTab : c.exceptionTable.toList = tableOf [(0, 11, 14, 19)] := vx_table (x := yL_place) B (ht _ tk_L_place)
  subst hsz
  have hD : ∀ σ τ, va_D (gA NC ad s.heap.size) (gW cs ad σ τ) := fun _ _ => gw_D hinj (fun i h => gA_ad h)
  have hS : va_S (gA NC ad s.heap.size) s.heap s.heap [] := va_S.rf
  have hl := lv_entry ([.ref (ad 0), .int a0, .int a1, .int a2, .int a3, .int a4]) (n := 7) (Nat.le_of_ble_eq_true rfl)
  rw [lg_entry_eq]
  generalize (lg_sl ([.ref (ad 0), .int a0, .int a1, .int a2, .int a3, .int a4]) ++ List.replicate (7 - (lg_sl ([.ref (ad 0), .int a0, .int a1, .int a2, .int a3, .int a4])).length) Slot.unset).toArray = ls at hl ⊢
  have hl : lv_has ls 7 [(0, .ref (ad 0)), (1, .int a0), (2, .int a1), (3, .int a2), (4, .int a3), (5, .int a4)] := hl
  refine lv_aload_n hx hb dL_place_0 rfl (lv_at hl 0 rfl) ?_
  refine lv_iload_n hx hb dL_place_1 rfl (lv_at hl 1 rfl) ?_
  refine lv_iload_n hx hb dL_place_2 rfl (lv_at hl 2 rfl) ?_
  refine lv_iload_n hx hb dL_place_3 rfl (lv_at hl 3 rfl) ?_
  refine lv_iload hx hb dL_place_4 (lv_at hl 4 rfl) ?_
  refine lv_iload hx hb dL_place_6 (lv_at hl 5 rfl) ?_
  refine g_xrunV (vx_runV (C := RV) (As := [.int a0, .int a1, .int a2, .int a3, .int a4]) (rest := []) ⟨hx, hb, hml, hown, hts⟩ (c_vplace l hl9 hinj σ τ _ a0 a1 a2 a3 a4 ) (qV 5 ht tw_371 tw_372 tw_373 tw_1 tk_V_place rfl rfl (by decide +kernel) ⟨(Nat.le_of_ble_eq_true rfl), (Nat.le_of_ble_eq_true rfl)⟩) (g_pvX (ci := 0) hK hP hX hS (by decide) rfl kV rfl) rfl rfl hl.1 rfl (lv_room (Nat.le_of_ble_eq_true rfl)) dL_place_8 ⟨(Nat.le_of_ble_eq_true rfl), (Nat.le_of_ble_eq_true rfl)⟩) hS (fun q _ h => gA_mono hS.1 q h) (fun q h => gA_mono hS.1 q h) (fun ce q9 H locs hT hz hk hS hce hcv hcl => ?_) (fun H locs hT hP hz hS => ?_)
  · have hP := gw_kept hP hk
    have h01 : t_vplace σ a0 a1 a2 a3 a4 = 1 := (t01_vplace σ a0 a1 a2 a3 a4).resolve_left hT
    refine vx_catch (own := RL) (name := xA) (E := xA) hown [] ⟨0, 11, 14, 19⟩ [] (by rw [hTab]; rfl) (fun z hz => nomatch hz) (by decide) (by decide) (ht _ tw_285) (ht _ tw_292) hce hcv hcl ?_
    refine lv_astore (lv' := [(6, .ref q9), (0, .ref (ad 0)), (1, .int a0), (2, .int a1), (3, .int a2), (4, .int a3), (5, .int a4)]) hx hb dL_place_14 hl (by decide) rfl (fun ls hl => ?_)
    refine lv_iconst (v := 1) hx hb dL_place_16 (by decide) ?_
    have eτ : τ = τ := rfl
    exact W.iret (v := 1) hx hb hr (fun t ht9 hW => ⟨by rw [h01], by show va_P D vwCl (gW cs ad (s_vplace σ a0 a1 a2 a3 a4) τ) t.heap; rw [ht9, eτ, sx_vplace hT]; exact hP, hS.F ht9⟩) hS.2.2 dL_place_17
  · refine lv_goto (tgt := 18) hx hb dL_place_11 (by decide) ?_
    refine lv_iconst (v := 0) hx hb dL_place_18 (by decide) ?_
    have eτ : τ = τ := rfl
    exact W.iret (v := 0) hx hb hr (fun t ht9 hW => ⟨by rw [hT], by show va_P D vwCl (gW cs ad (s_vplace σ a0 a1 a2 a3 a4) τ) t.heap; rw [ht9, eτ]; exact hP, hS.F ht9⟩) hS.2.2 dL_place_19
theorem t01_vvary (σ : Nat → Nat → Int32) (a0 : Int32) (a1 : Int32) (a2 : Int32) (a3 : Int32) (a4 : Int32) (a5 : Int32) : t_vvary σ a0 a1 a2 a3 a4 a5 = 0 ∨ t_vvary σ a0 a1 a2 a3 a4 a5 = 1 := by
  unfold t_vvary
  repeat' split
  all_goals first | exact Or.inl rfl | exact Or.inr rfl
theorem sx_vvary {σ : Nat → Nat → Int32} {a0 : Int32} {a1 : Int32} {a2 : Int32} {a3 : Int32} {a4 : Int32} {a5 : Int32} (h : ¬ t_vvary σ a0 a1 a2 a3 a4 a5 = 0) : s_vvary σ a0 a1 a2 a3 a4 a5 = σ := by
  unfold t_vvary at h
  unfold s_vvary
  by_cases h1 : (f_isBelow a0 (3 : Int32)) = 0
  · rw [if_pos h1] at h ⊢
    (try rfl)
  · rw [if_neg h1] at h ⊢
    by_cases h2 : (f_isBelow a1 (7 : Int32)) = 0
    · rw [if_pos h2] at h ⊢
      (try rfl)
    · rw [if_neg h2] at h ⊢
      (try exact absurd rfl h)
set_option maxHeartbeats 800000 in
set_option maxRecDepth 100000 in
theorem c_hvvary (l : Launch) (hl9 : l.stackTraces = false) {D : va_G} {cs : Nat → ClassId} {ad : Nat → Nat} (hinj : gI ad) (σ : Nat → Nat → Int32) (τ : Nat → Nat → Int64) (sz : Nat) (a0 : Int32) (a1 : Int32) (a2 : Int32) (a3 : Int32) (a4 : Int32) (a5 : Int32) : Met l yL_vary (wsB kL_vary) ({ frames := 7, cells := 1, slots := 6, locals := 116 } : Room) (va_Pc [.ref (ad 0), .int a0, .int a1, .int a2, .int a3, .int a4, .int a5] (gPX D cs ad σ τ sz)) (gQ (some (.int (t_vvary σ a0 a1 a2 a3 a4 a5))) (gB D cs ad (s_vvary σ a0 a1 a2 a3 a4 a5) τ) (gA NC ad sz)) 1 6 (gA NC ad sz) := by
  refine va_MetW (cc := cL_vary) (maxL := 8) (ret := (some .int)) (by decide) rfl ?_
  intro p e s m args below meth c s₁ B hml hv
  obtain ⟨rfl, ⟨hsz, hP, hK⟩, hX⟩ := hv
  have hx := B.exec
  have hb := B.bytes
  have hr := B.returns
  have hts := atoms_spec (ws := wsB kL_vary) B.pre
  have ht := hbig hts
  have hown : s.vm.findClass RL = some m.cls := findClass_of_methodNamed B.named
  have hlocks := B.notSynchronized
  have hTab : c.exceptionTable.toList = tableOf [(0, 13, 16, 19)] := vx_table (x := yL_vary) B (ht _ tk_L_vary)
  subst hsz
  have hD : ∀ σ τ, va_D (gA NC ad s.heap.size) (gW cs ad σ τ) := fun _ _ => gw_D hinj (fun i h => gA_ad h)
  have hS : va_S (gA NC ad s.heap.size) s.heap s.heap [] := va_S.rf
  have hl := lv_entry ([.ref (ad 0), .int a0, .int a1, .int a2, .int a3, .int a4, .int a5]) (n := 8) (Nat.le_of_ble_eq_true rfl)
  rw [lg_entry_eq]
  generalize (lg_sl ([.ref (ad 0), .int a0, .int a1, .int a2, .int a3, .int a4, .int a5]) ++ List.replicate (8 - (lg_sl ([.ref (ad 0), .int a0, .int a1, .int a2, .int a3, .int a4, .int a5])).length) Slot.unset).toArray = ls at hl ⊢
  have hl : lv_has ls 8 [(0, .ref (ad 0)), (1, .int a0), (2, .int a1), (3, .int a2), (4, .int a3), (5, .int a4), (6, .int a5)] := hl
  refine lv_aload_n hx hb dL_vary_0 rfl (lv_at hl 0 rfl) ?_
  refine lv_iload_n hx hb dL_vary_1 rfl (lv_at hl 1 rfl) ?_
  refine lv_iload_n hx hb dL_vary_2 rfl (lv_at hl 2 rfl) ?_
  refine lv_iload_n hx hb dL_vary_3 rfl (lv_at hl 3 rfl) ?_
  refine lv_iload hx hb dL_vary_4 (lv_at hl 4 rfl) ?_
  refine lv_iload hx hb dL_vary_6 (lv_at hl 5 rfl) ?_
  refine lv_iload hx hb dL_vary_8 (lv_at hl 6 rfl) ?_
  refine g_xrunV (vx_runV (C := RV) (As := [.int a0, .int a1, .int a2, .int a3, .int a4, .int a5]) (rest := []) ⟨hx, hb, hml, hown, hts⟩ (c_vvary l hl9 hinj σ τ _ a0 a1 a2 a3 a4 a5 ) (qV 6 ht tw_383 tw_384 tw_385 tw_1 tk_V_vary rfl rfl (by decide +kernel) ⟨(Nat.le_of_ble_eq_true rfl), (Nat.le_of_ble_eq_true rfl)⟩) (g_pvX (ci := 0) hK hP hX hS (by decide) rfl kV rfl) rfl rfl hl.1 rfl (lv_room (Nat.le_of_ble_eq_true rfl)) dL_vary_10 ⟨(Nat.le_of_ble_eq_true rfl), (Nat.le_of_ble_eq_true rfl)⟩) hS (fun q _ h => gA_mono hS.1 q h) (fun q h => gA_mono hS.1 q h) (fun ce q9 H locs hT hz hk hS hce hcv hcl => ?_) (fun H locs hT hP hz hS => ?_)
  · have hP := gw_kept hP hk
    have h01 : t_vvary σ a0 a1 a2 a3 a4 a5 = 1 := (t01_vvary σ a0 a1 a2 a3 a4 a5).resolve_left hT
    refine vx_catch (own := RL) (name := xA) (E := xA) hown [] ⟨0, 13, 16, 19⟩ [] (by rw [hTab]; rfl) (fun z hz => nomatch hz) (by decide) (by decide) (ht _ tw_285) (ht _ tw_292) hce hcv hcl ?_
    refine lv_astore (lv' := [(7, .ref q9), (0, .ref (ad 0)), (1, .int a0), (2, .int a1), (3, .int a2), (4, .int a3), (5, .int a4), (6, .int a5)]) hx hb dL_vary_16 hl (by decide) rfl (fun ls hl => ?_)
    refine lv_iconst (v := 1) hx hb dL_vary_18 (by decide) ?_
    have eτ : τ = τ := rfl
    exact W.iret (v := 1) hx hb hr (fun t ht9 hW => ⟨by rw [h01], by show va_P D vwCl (gW cs ad (s_vvary σ a0 a1 a2 a3 a4 a5) τ) t.heap; rw [ht9, eτ, sx_vvary hT]; exact hP, hS.F ht9⟩) hS.2.2 dL_vary_19
  · refine lv_goto (tgt := 20) hx hb dL_vary_13 (by decide) ?_
    refine lv_iconst (v := 0) hx hb dL_vary_20 (by decide) ?_
    have eτ : τ = τ := rfl
    exact W.iret (v := 0) hx hb hr (fun t ht9 hW => ⟨by rw [hT], by show va_P D vwCl (gW cs ad (s_vvary σ a0 a1 a2 a3 a4 a5) τ) t.heap; rw [ht9, eτ]; exact hP, hS.F ht9⟩) hS.2.2 dL_vary_21
theorem t01_vview (σ : Nat → Nat → Int32) (a0 : Int32) (a1 : Int32) (a2 : Int32) (a3 : Int32) (a4 : Int32) (a5 : Int32) : t_vview σ a0 a1 a2 a3 a4 a5 = 0 ∨ t_vview σ a0 a1 a2 a3 a4 a5 = 1 := by
  unfold t_vview
  repeat' split
  all_goals first | exact Or.inl rfl | exact Or.inr rfl
theorem sx_vview {σ : Nat → Nat → Int32} {a0 : Int32} {a1 : Int32} {a2 : Int32} {a3 : Int32} {a4 : Int32} {a5 : Int32} (h : ¬ t_vview σ a0 a1 a2 a3 a4 a5 = 0) : s_vview σ a0 a1 a2 a3 a4 a5 = σ := by
  unfold t_vview at h
  unfold s_vview
  by_cases h1 : (f_isWithin a0 ((-1023) : Int32) (1023 : Int32)) = 0
  · rw [if_pos h1] at h ⊢
    (try rfl)
  · rw [if_neg h1] at h ⊢
    by_cases h2 : (f_isWithin a1 ((-1023) : Int32) (1023 : Int32)) = 0
    · rw [if_pos h2] at h ⊢
      (try rfl)
    · rw [if_neg h2] at h ⊢
      by_cases h3 : (f_isWithin a2 (1 : Int32) (1024 : Int32)) = 0
      · rw [if_pos h3] at h ⊢
        (try rfl)
      · rw [if_neg h3] at h ⊢
        by_cases h4 : (f_isWithin a3 (1 : Int32) (1024 : Int32)) = 0
        · rw [if_pos h4] at h ⊢
          (try rfl)
        · rw [if_neg h4] at h ⊢
          by_cases h5 : (f_isWithin a4 (0 : Int32) (16777215 : Int32)) = 0
          · rw [if_pos h5] at h ⊢
            (try rfl)
          · rw [if_neg h5] at h ⊢
            by_cases h6 : (f_isWithin a5 (0 : Int32) (16777215 : Int32)) = 0
            · rw [if_pos h6] at h ⊢
              (try rfl)
            · rw [if_neg h6] at h ⊢
              (try exact absurd rfl h)
set_option maxHeartbeats 800000 in
set_option maxRecDepth 100000 in
theorem c_hvview (l : Launch) (hl9 : l.stackTraces = false) {D : va_G} {cs : Nat → ClassId} {ad : Nat → Nat} (hinj : gI ad) (σ : Nat → Nat → Int32) (τ : Nat → Nat → Int64) (sz : Nat) (a0 : Int32) (a1 : Int32) (a2 : Int32) (a3 : Int32) (a4 : Int32) (a5 : Int32) : Met l yL_view (wsB kL_view) ({ frames := 7, cells := 1, slots := 6, locals := 116 } : Room) (va_Pc [.ref (ad 0), .int a0, .int a1, .int a2, .int a3, .int a4, .int a5] (gPX D cs ad σ τ sz)) (gQ (some (.int (t_vview σ a0 a1 a2 a3 a4 a5))) (gB D cs ad (s_vview σ a0 a1 a2 a3 a4 a5) τ) (gA NC ad sz)) 1 6 (gA NC ad sz) := by
  refine va_MetW (cc := cL_view) (maxL := 8) (ret := (some .int)) (by decide) rfl ?_
  intro p e s m args below meth c s₁ B hml hv
  obtain ⟨rfl, ⟨hsz, hP, hK⟩, hX⟩ := hv
  have hx := B.exec
  have hb := B.bytes
  have hr := B.returns
  have hts := atoms_spec (ws := wsB kL_view) B.pre
  have ht := hbig hts
  have hown : s.vm.findClass RL = some m.cls := findClass_of_methodNamed B.named
  have hlocks := B.notSynchronized
  have hTab : c.exceptionTable.toList = tableOf [(0, 13, 16, 19)] := vx_table (x := yL_view) B (ht _ tk_L_view)
  subst hsz
  have hD : ∀ σ τ, va_D (gA NC ad s.heap.size) (gW cs ad σ τ) := fun _ _ => gw_D hinj (fun i h => gA_ad h)
  have hS : va_S (gA NC ad s.heap.size) s.heap s.heap [] := va_S.rf
  have hl := lv_entry ([.ref (ad 0), .int a0, .int a1, .int a2, .int a3, .int a4, .int a5]) (n := 8) (Nat.le_of_ble_eq_true rfl)
  rw [lg_entry_eq]
  generalize (lg_sl ([.ref (ad 0), .int a0, .int a1, .int a2, .int a3, .int a4, .int a5]) ++ List.replicate (8 - (lg_sl ([.ref (ad 0), .int a0, .int a1, .int a2, .int a3, .int a4, .int a5])).length) Slot.unset).toArray = ls at hl ⊢
  have hl : lv_has ls 8 [(0, .ref (ad 0)), (1, .int a0), (2, .int a1), (3, .int a2), (4, .int a3), (5, .int a4), (6, .int a5)] := hl
  refine lv_aload_n hx hb dL_view_0 rfl (lv_at hl 0 rfl) ?_
  refine lv_iload_n hx hb dL_view_1 rfl (lv_at hl 1 rfl) ?_
  refine lv_iload_n hx hb dL_view_2 rfl (lv_at hl 2 rfl) ?_
  refine lv_iload_n hx hb dL_view_3 rfl (lv_at hl 3 rfl) ?_
  refine lv_iload hx hb dL_view_4 (lv_at hl 4 rfl) ?_
  refine lv_iload hx hb dL_view_6 (lv_at hl 5 rfl) ?_
  refine lv_iload hx hb dL_view_8 (lv_at hl 6 rfl) ?_
  refine g_xrunV (vx_runV (C := RV) (As := [.int a0, .int a1, .int a2, .int a3, .int a4, .int a5]) (rest := []) ⟨hx, hb, hml, hown, hts⟩ (c_vview l hl9 hinj σ τ _ a0 a1 a2 a3 a4 a5 ) (qV 6 ht tw_391 tw_392 tw_393 tw_1 tk_V_view rfl rfl (by decide +kernel) ⟨(Nat.le_of_ble_eq_true rfl), (Nat.le_of_ble_eq_true rfl)⟩) (g_pvX (ci := 0) hK hP hX hS (by decide) rfl kV rfl) rfl rfl hl.1 rfl (lv_room (Nat.le_of_ble_eq_true rfl)) dL_view_10 ⟨(Nat.le_of_ble_eq_true rfl), (Nat.le_of_ble_eq_true rfl)⟩) hS (fun q _ h => gA_mono hS.1 q h) (fun q h => gA_mono hS.1 q h) (fun ce q9 H locs hT hz hk hS hce hcv hcl => ?_) (fun H locs hT hP hz hS => ?_)
  · have hP := gw_kept hP hk
    have h01 : t_vview σ a0 a1 a2 a3 a4 a5 = 1 := (t01_vview σ a0 a1 a2 a3 a4 a5).resolve_left hT
    refine vx_catch (own := RL) (name := xA) (E := xA) hown [] ⟨0, 13, 16, 19⟩ [] (by rw [hTab]; rfl) (fun z hz => nomatch hz) (by decide) (by decide) (ht _ tw_285) (ht _ tw_292) hce hcv hcl ?_
    refine lv_astore (lv' := [(7, .ref q9), (0, .ref (ad 0)), (1, .int a0), (2, .int a1), (3, .int a2), (4, .int a3), (5, .int a4), (6, .int a5)]) hx hb dL_view_16 hl (by decide) rfl (fun ls hl => ?_)
    refine lv_iconst (v := 1) hx hb dL_view_18 (by decide) ?_
    have eτ : τ = τ := rfl
    exact W.iret (v := 1) hx hb hr (fun t ht9 hW => ⟨by rw [h01], by show va_P D vwCl (gW cs ad (s_vview σ a0 a1 a2 a3 a4 a5) τ) t.heap; rw [ht9, eτ, sx_vview hT]; exact hP, hS.F ht9⟩) hS.2.2 dL_view_19
  · refine lv_goto (tgt := 20) hx hb dL_view_13 (by decide) ?_
    refine lv_iconst (v := 0) hx hb dL_view_20 (by decide) ?_
    have eτ : τ = τ := rfl
    exact W.iret (v := 0) hx hb hr (fun t ht9 hW => ⟨by rw [hT], by show va_P D vwCl (gW cs ad (s_vview σ a0 a1 a2 a3 a4 a5) τ) t.heap; rw [ht9, eτ]; exact hP, hS.F ht9⟩) hS.2.2 dL_view_21
theorem t01_vfaces (σ : Nat → Nat → Int32) (a0 : Int32) (a1 : Int32) : t_vfaces σ a0 a1 = 0 ∨ t_vfaces σ a0 a1 = 1 := by
  unfold t_vfaces
  repeat' split
  all_goals first | exact Or.inl rfl | exact Or.inr rfl
theorem sx_vfaces {σ : Nat → Nat → Int32} {a0 : Int32} {a1 : Int32} (h : ¬ t_vfaces σ a0 a1 = 0) : s_vfaces σ a0 a1 = σ := by
  unfold t_vfaces at h
  unfold s_vfaces
  by_cases h1 : (f_isWithin a0 (0 : Int32) (3 : Int32)) = 0
  · rw [if_pos h1] at h ⊢
    (try rfl)
  · rw [if_neg h1] at h ⊢
    (try exact absurd rfl h)
set_option maxHeartbeats 800000 in
set_option maxRecDepth 100000 in
theorem c_hvfaces (l : Launch) (hl9 : l.stackTraces = false) {D : va_G} {cs : Nat → ClassId} {ad : Nat → Nat} (hinj : gI ad) (σ : Nat → Nat → Int32) (τ : Nat → Nat → Int64) (sz : Nat) (a0 : Int32) (a1 : Int32) (hb1 : a1 = 0 ∨ a1 = 1) : Met l yL_faces (wsB kL_faces) ({ frames := 7, cells := 1, slots := 6, locals := 112 } : Room) (va_Pc [.ref (ad 0), .int a0, .int a1] (gPX D cs ad σ τ sz)) (gQ (some (.int (t_vfaces σ a0 a1))) (gB D cs ad (s_vfaces σ a0 a1) τ) (gA NC ad sz)) 1 6 (gA NC ad sz) := by
  refine va_MetW (cc := cL_faces) (maxL := 4) (ret := (some .int)) (by decide) rfl ?_
  intro p e s m args below meth c s₁ B hml hv
  obtain ⟨rfl, ⟨hsz, hP, hK⟩, hX⟩ := hv
  have hx := B.exec
  have hb := B.bytes
  have hr := B.returns
  have hts := atoms_spec (ws := wsB kL_faces) B.pre
  have ht := hbig hts
  have hown : s.vm.findClass RL = some m.cls := findClass_of_methodNamed B.named
  have hlocks := B.notSynchronized
  have hTab : c.exceptionTable.toList = tableOf [(0, 6, 9, 19)] := vx_table (x := yL_faces) B (ht _ tk_L_faces)
  subst hsz
  have hD : ∀ σ τ, va_D (gA NC ad s.heap.size) (gW cs ad σ τ) := fun _ _ => gw_D hinj (fun i h => gA_ad h)
  have hS : va_S (gA NC ad s.heap.size) s.heap s.heap [] := va_S.rf
  have hl := lv_entry ([.ref (ad 0), .int a0, .int a1]) (n := 4) (Nat.le_of_ble_eq_true rfl)
  rw [lg_entry_eq]
  generalize (lg_sl ([.ref (ad 0), .int a0, .int a1]) ++ List.replicate (4 - (lg_sl ([.ref (ad 0), .int a0, .int a1])).length) Slot.unset).toArray = ls at hl ⊢
  have hl : lv_has ls 4 [(0, .ref (ad 0)), (1, .int a0), (2, .int a1)] := hl
  refine lv_aload_n hx hb dL_faces_0 rfl (lv_at hl 0 rfl) ?_
  refine lv_iload_n hx hb dL_faces_1 rfl (lv_at hl 1 rfl) ?_
  refine lv_iload_n hx hb dL_faces_2 rfl (lv_at hl 2 rfl) ?_
  refine g_xrunV (vx_runV (C := RV) (As := [.int a0, .int a1]) (rest := []) ⟨hx, hb, hml, hown, hts⟩ (c_vfaces l hl9 hinj σ τ _ a0 a1 hb1) (qV 2 ht tw_409 tw_410 tw_411 tw_1 tk_V_faces rfl rfl (by decide +kernel) ⟨(Nat.le_of_ble_eq_true rfl), (Nat.le_of_ble_eq_true rfl)⟩) (g_pvX (ci := 0) hK hP hX hS (by decide) rfl kV rfl) rfl rfl hl.1 rfl (lv_room (Nat.le_of_ble_eq_true rfl)) dL_faces_3 ⟨(Nat.le_of_ble_eq_true rfl), (Nat.le_of_ble_eq_true rfl)⟩) hS (fun q _ h => gA_mono hS.1 q h) (fun q h => gA_mono hS.1 q h) (fun ce q9 H locs hT hz hk hS hce hcv hcl => ?_) (fun H locs hT hP hz hS => ?_)
  · have hP := gw_kept hP hk
    have h01 : t_vfaces σ a0 a1 = 1 := (t01_vfaces σ a0 a1).resolve_left hT
    refine vx_catch (own := RL) (name := xA) (E := xA) hown [] ⟨0, 6, 9, 19⟩ [] (by rw [hTab]; rfl) (fun z hz => nomatch hz) (by decide) (by decide) (ht _ tw_285) (ht _ tw_292) hce hcv hcl ?_
    refine lv_astore_n (lv' := [(3, .ref q9), (0, .ref (ad 0)), (1, .int a0), (2, .int a1)]) hx hb dL_faces_9 rfl hl (by decide) rfl (fun ls hl => ?_)
    refine lv_iconst (v := 1) hx hb dL_faces_10 (by decide) ?_
    have eτ : τ = τ := rfl
    exact W.iret (v := 1) hx hb hr (fun t ht9 hW => ⟨by rw [h01], by show va_P D vwCl (gW cs ad (s_vfaces σ a0 a1) τ) t.heap; rw [ht9, eτ, sx_vfaces hT]; exact hP, hS.F ht9⟩) hS.2.2 dL_faces_11
  · refine lv_goto (tgt := 12) hx hb dL_faces_6 (by decide) ?_
    refine lv_iconst (v := 0) hx hb dL_faces_12 (by decide) ?_
    have eτ : τ = τ := rfl
    exact W.iret (v := 0) hx hb hr (fun t ht9 hW => ⟨by rw [hT], by show va_P D vwCl (gW cs ad (s_vfaces σ a0 a1) τ) t.heap; rw [ht9, eτ]; exact hP, hS.F ht9⟩) hS.2.2 dL_faces_13
theorem t01_vside (σ : Nat → Nat → Int32) (a0 : Int32) : t_vside σ a0 = 0 ∨ t_vside σ a0 = 1 := by
  unfold t_vside
  repeat' split
  all_goals first | exact Or.inl rfl | exact Or.inr rfl
theorem sx_vside {σ : Nat → Nat → Int32} {a0 : Int32} (h : ¬ t_vside σ a0 = 0) : s_vside σ a0 = σ := by
  unfold t_vside at h
  unfold s_vside
  by_cases h1 : (f_isBelow a0 (f_fanOf (σ 26 1))) = 0
  · rw [if_pos h1] at h ⊢
    (try rfl)
  · rw [if_neg h1] at h ⊢
    by_cases h2 : (lg_cmp (f_sizeOf σ 26 a0) 0) = 0
    · rw [if_pos h2] at h ⊢
      (try exact absurd rfl h)
    · rw [if_neg h2] at h ⊢
      by_cases h3 : (lg_cmp (f_sizeOf σ 26 a0) 0) ≤ 0
      · rw [if_pos h3] at h ⊢
        by_cases h4 : (0 : Int32) = (σ 0 7)
        · rw [if_pos h4] at h ⊢
          by_cases h5 : (f_isOut σ  (1 : Int32)) = 0
          · rw [if_pos h5] at h ⊢
            (try exact absurd rfl h)
          · rw [if_neg h5] at h ⊢
            (try exact absurd rfl h)
        · rw [if_neg h4] at h ⊢
          by_cases h5 : (f_isOut σ  (0 : Int32)) = 0
          · rw [if_pos h5] at h ⊢
            (try exact absurd rfl h)
          · rw [if_neg h5] at h ⊢
            (try exact absurd rfl h)
      · rw [if_neg h3] at h ⊢
        by_cases h4 : (1 : Int32) = (σ 0 7)
        · rw [if_pos h4] at h ⊢
          by_cases h5 : (f_isOut σ  (1 : Int32)) = 0
          · rw [if_pos h5] at h ⊢
            (try exact absurd rfl h)
          · rw [if_neg h5] at h ⊢
            (try exact absurd rfl h)
        · rw [if_neg h4] at h ⊢
          by_cases h5 : (f_isOut σ  (0 : Int32)) = 0
          · rw [if_pos h5] at h ⊢
            (try exact absurd rfl h)
          · rw [if_neg h5] at h ⊢
            (try exact absurd rfl h)
def u_vside (σ : Nat → Nat → Int32) (τ : Nat → Nat → Int64) (a0 : Int32) : Nat → Nat → Int64 := if t_vside σ a0 = 0 then wl2 τ 34 (0 : Int32).toNatClampNeg (f_vside σ a0).toInt64 else τ
set_option maxHeartbeats 800000 in
set_option maxRecDepth 100000 in
theorem c_hvside (l : Launch) (hl9 : l.stackTraces = false) {D : va_G} {cs : Nat → ClassId} {ad : Nat → Nat} (hinj : gI ad) (σ : Nat → Nat → Int32) (τ : Nat → Nat → Int64) (sz : Nat) (a0 : Int32) (hmd : rng (σ 26 1)) : Met l yL_side (wsB kL_side) ({ frames := 7, cells := 1, slots := 6, locals := 114 } : Room) (va_Pc [.ref (ad 0), .int a0, .ref (ad 34)] (gPX D cs ad σ τ sz)) (gQ (some (.int (t_vside σ a0))) (gB D cs ad (s_vside σ a0) (u_vside σ τ a0)) (gA NC ad sz)) 1 6 (gA NC ad sz) := by
  refine va_MetW (cc := cL_side) (maxL := 4) (ret := (some .int)) (by decide) rfl ?_
  intro p e s m args below meth c s₁ B hml hv
  obtain ⟨rfl, ⟨hsz, hP, hK⟩, hX⟩ := hv
  have hx := B.exec
  have hb := B.bytes
  have hr := B.returns
  have hts := atoms_spec (ws := wsB kL_side) B.pre
  have ht := hbig hts
  have hown : s.vm.findClass RL = some m.cls := findClass_of_methodNamed B.named
  have hlocks := B.notSynchronized
  have hTab : c.exceptionTable.toList = tableOf [(0, 9, 12, 13)] := vx_table (x := yL_side) B (ht _ tk_L_side)
  subst hsz
  have hD : ∀ σ τ, va_D (gA NC ad s.heap.size) (gW cs ad σ τ) := fun _ _ => gw_D hinj (fun i h => gA_ad h)
  have hS : va_S (gA NC ad s.heap.size) s.heap s.heap [] := va_S.rf
  have hl := lv_entry ([.ref (ad 0), .int a0, .ref (ad 34)]) (n := 4) (Nat.le_of_ble_eq_true rfl)
  rw [lg_entry_eq]
  generalize (lg_sl ([.ref (ad 0), .int a0, .ref (ad 34)]) ++ List.replicate (4 - (lg_sl ([.ref (ad 0), .int a0, .ref (ad 34)])).length) Slot.unset).toArray = ls at hl ⊢
  have hl : lv_has ls 4 [(0, .ref (ad 0)), (1, .int a0), (2, .ref (ad 34))] := hl
  refine lv_aload_n hx hb dL_side_0 rfl (lv_at hl 2 rfl) ?_
  refine lv_iconst (v := 0) hx hb dL_side_1 (by decide) ?_
  refine lv_aload_n hx hb dL_side_2 rfl (lv_at hl 0 rfl) ?_
  refine lv_iload_n hx hb dL_side_3 rfl (lv_at hl 1 rfl) ?_
  refine g_xrunR (v := .int (f_vside σ a0)) (vx_runV (C := RV) (As := [.int a0]) (rest := [.int 0, .ref (ad 34)]) ⟨hx, hb, hml, hown, hts⟩ (c_vside l hl9 hinj σ τ _ a0 hmd) (qV 1 ht tw_417 tw_418 tw_419 tw_1 tk_V_side rfl rfl (by decide +kernel) ⟨(Nat.le_of_ble_eq_true rfl), (Nat.le_of_ble_eq_true rfl)⟩) (g_pvX (ci := 0) hK hP hX hS (by decide) rfl kV rfl) rfl rfl hl.1 rfl (lv_room (Nat.le_of_ble_eq_true rfl)) dL_side_4 ⟨(Nat.le_of_ble_eq_true rfl), (Nat.le_of_ble_eq_true rfl)⟩) hS (fun q _ h => gA_mono hS.1 q h) (fun q h => gA_mono hS.1 q h) (fun ce q9 H locs hT hz hk hS hce hcv hcl => ?_) (fun H locs hT hP hz hS => ?_)
  · have hP := gw_kept hP hk
    have h01 : t_vside σ a0 = 1 := (t01_vside σ a0).resolve_left hT
    refine vx_catch (own := RL) (name := xI) (E := xI) hown [] ⟨0, 9, 12, 13⟩ [] (by rw [hTab]; rfl) (fun z hz => nomatch hz) (by decide) (by decide) (ht _ tw_197) (ht _ tw_207) hce hcv hcl ?_
    refine lv_astore_n (lv' := [(3, .ref q9), (0, .ref (ad 0)), (1, .int a0), (2, .ref (ad 34))]) hx hb dL_side_12 rfl hl (by decide) rfl (fun ls hl => ?_)
    refine lv_iconst (v := 1) hx hb dL_side_13 (by decide) ?_
    have eτ : (u_vside σ τ a0) = τ := if_neg hT
    exact W.iret (v := 1) hx hb hr (fun t ht9 hW => ⟨by rw [h01], by show va_P D vwCl (gW cs ad (s_vside σ a0) (u_vside σ τ a0)) t.heap; rw [ht9, eτ, sx_vside hT]; exact hP, hS.F ht9⟩) hS.2.2 dL_side_14
  · refine lv_i2l hx hb dL_side_7 rfl ?_
    have hi_1 : vp_in (0 : Int32) 1 := (by unfold vp_in; decide)
    refine g_last hx hb hK hP hD hS 34 3 (by decide) (fun r t => kL) rfl hi_1 dL_side_8 (fun H locs hP hS => ?_)
    refine lv_goto (tgt := 15) hx hb dL_side_9 (by decide) ?_
    refine lv_iconst (v := 0) hx hb dL_side_15 (by decide) ?_
    have eτ : (u_vside σ τ a0) = (wl2 τ 34 ((0 : Int32).toNatClampNeg) ((f_vside σ a0).toInt64)) := if_pos hT
    exact W.iret (v := 0) hx hb hr (fun t ht9 hW => ⟨by rw [hT], by show va_P D vwCl (gW cs ad (s_vside σ a0) (u_vside σ τ a0)) t.heap; rw [ht9, eτ]; exact hP, hS.F ht9⟩) hS.2.2 dL_side_16
theorem t01_vgot (σ : Nat → Nat → Int32) (a0 : Int32) (a1 : Int32) (a2 : Int32) : t_vgot σ a0 a1 a2 = 0 ∨ t_vgot σ a0 a1 a2 = 1 ∨ t_vgot σ a0 a1 a2 = 2 := by
  unfold t_vgot
  repeat' split
  all_goals first | exact Or.inl rfl | exact Or.inr (Or.inl rfl) | exact Or.inr (Or.inr rfl)
theorem sx_vgot {σ : Nat → Nat → Int32} {a0 : Int32} {a1 : Int32} {a2 : Int32} (h : ¬ t_vgot σ a0 a1 a2 = 0) : s_vgot σ a0 a1 a2 = σ := by
  unfold t_vgot at h
  unfold s_vgot
  by_cases h1 : (f_isBelow a0 (f_fanOf (σ 26 1))) = 0
  · rw [if_pos h1] at h ⊢
    (try rfl)
  · rw [if_neg h1] at h ⊢
    by_cases h2 : (f_isBelow a1 (3 : Int32)) = 0
    · rw [if_pos h2] at h ⊢
      (try rfl)
    · rw [if_neg h2] at h ⊢
      by_cases h3 : (f_isBelow a2 (32 : Int32)) = 0
      · rw [if_pos h3] at h ⊢
        (try rfl)
      · rw [if_neg h3] at h ⊢
        (try exact absurd rfl h)
def u_vgot (σ : Nat → Nat → Int32) (τ : Nat → Nat → Int64) (a0 : Int32) (a1 : Int32) (a2 : Int32) : Nat → Nat → Int64 := if t_vgot σ a0 a1 a2 = 0 then wl2 τ 34 (0 : Int32).toNatClampNeg (f_vgot σ a0 a1 a2).toInt64 else τ
set_option maxHeartbeats 800000 in
set_option maxRecDepth 100000 in
theorem c_hvgot (l : Launch) (hl9 : l.stackTraces = false) {D : va_G} {cs : Nat → ClassId} {ad : Nat → Nat} (hinj : gI ad) (σ : Nat → Nat → Int32) (τ : Nat → Nat → Int64) (sz : Nat) (a0 : Int32) (a1 : Int32) (a2 : Int32) (hmd : rng (σ 26 1)) : Met l yL_got (wsB kL_got) ({ frames := 7, cells := 1, slots := 6, locals := 113 } : Room) (va_Pc [.ref (ad 0), .int a0, .int a1, .int a2, .ref (ad 34)] (gPX D cs ad σ τ sz)) (gQ (some (.int (t_vgot σ a0 a1 a2))) (gB D cs ad (s_vgot σ a0 a1 a2) (u_vgot σ τ a0 a1 a2)) (gA NC ad sz)) 1 6 (gA NC ad sz) := by
  refine va_MetW (cc := cL_got) (maxL := 6) (ret := (some .int)) (by decide) rfl ?_
  intro p e s m args below meth c s₁ B hml hv
  obtain ⟨rfl, ⟨hsz, hP, hK⟩, hX⟩ := hv
  have hx := B.exec
  have hb := B.bytes
  have hr := B.returns
  have hts := atoms_spec (ws := wsB kL_got) B.pre
  have ht := hbig hts
  have hown : s.vm.findClass RL = some m.cls := findClass_of_methodNamed B.named
  have hlocks := B.notSynchronized
  have hTab : c.exceptionTable.toList = tableOf [(0, 12, 15, 13), (0, 12, 19, 19)] := vx_table (x := yL_got) B (ht _ tk_L_got)
  subst hsz
  have hD : ∀ σ τ, va_D (gA NC ad s.heap.size) (gW cs ad σ τ) := fun _ _ => gw_D hinj (fun i h => gA_ad h)
  have hS : va_S (gA NC ad s.heap.size) s.heap s.heap [] := va_S.rf
  have hl := lv_entry ([.ref (ad 0), .int a0, .int a1, .int a2, .ref (ad 34)]) (n := 6) (Nat.le_of_ble_eq_true rfl)
  rw [lg_entry_eq]
  generalize (lg_sl ([.ref (ad 0), .int a0, .int a1, .int a2, .ref (ad 34)]) ++ List.replicate (6 - (lg_sl ([.ref (ad 0), .int a0, .int a1, .int a2, .ref (ad 34)])).length) Slot.unset).toArray = ls at hl ⊢
  have hl : lv_has ls 6 [(0, .ref (ad 0)), (1, .int a0), (2, .int a1), (3, .int a2), (4, .ref (ad 34))] := hl
  refine lv_aload hx hb dL_got_0 (lv_at hl 4 rfl) ?_
  refine lv_iconst (v := 0) hx hb dL_got_2 (by decide) ?_
  refine lv_aload_n hx hb dL_got_3 rfl (lv_at hl 0 rfl) ?_
  refine lv_iload_n hx hb dL_got_4 rfl (lv_at hl 1 rfl) ?_
  refine lv_iload_n hx hb dL_got_5 rfl (lv_at hl 2 rfl) ?_
  refine lv_iload_n hx hb dL_got_6 rfl (lv_at hl 3 rfl) ?_
  refine g_xrunR (v := .int (f_vgot σ a0 a1 a2)) (vx_runV (C := RV) (As := [.int a0, .int a1, .int a2]) (rest := [.int 0, .ref (ad 34)]) ⟨hx, hb, hml, hown, hts⟩ (c_vgot l hl9 hinj σ τ _ a0 a1 a2 hmd) (qV 3 ht tw_433 tw_434 tw_435 tw_1 tk_V_got rfl rfl (by decide +kernel) ⟨(Nat.le_of_ble_eq_true rfl), (Nat.le_of_ble_eq_true rfl)⟩) (g_pvX (ci := 0) hK hP hX hS (by decide) rfl kV rfl) rfl rfl hl.1 rfl (lv_room (Nat.le_of_ble_eq_true rfl)) dL_got_7 ⟨(Nat.le_of_ble_eq_true rfl), (Nat.le_of_ble_eq_true rfl)⟩) hS (fun q _ h => gA_mono hS.1 q h) (fun q h => gA_mono hS.1 q h) (fun ce q9 H locs hT hz hk hS hce hcv hcl => ?_) (fun H locs hT hP hz hS => ?_)
  · have hP := gw_kept hP hk
    rcases (t01_vgot σ a0 a1 a2).resolve_left hT with h01 | h01
    · have hcl : s.vm.findClass xI = some ce.cls := by rw [h01] at hcl; exact hcl
      refine vx_catch (own := RL) (name := xI) (E := xI) hown [] ⟨0, 12, 15, 13⟩ [⟨0, 12, 19, 19⟩] (by rw [hTab]; rfl) (fun z hz => nomatch hz) (by decide) (by decide) (ht _ tw_197) (ht _ tw_207) hce hcv hcl ?_
      refine lv_astore (lv' := [(5, .ref q9), (0, .ref (ad 0)), (1, .int a0), (2, .int a1), (3, .int a2), (4, .ref (ad 34))]) hx hb dL_got_15 hl (by decide) rfl (fun ls hl => ?_)
      refine lv_iconst (v := 1) hx hb dL_got_17 (by decide) ?_
      have eτ : (u_vgot σ τ a0 a1 a2) = τ := if_neg hT
      exact W.iret (v := 1) hx hb hr (fun t ht9 hW => ⟨by rw [h01], by show va_P D vwCl (gW cs ad (s_vgot σ a0 a1 a2) (u_vgot σ τ a0 a1 a2)) t.heap; rw [ht9, eτ, sx_vgot hT]; exact hP, hS.F ht9⟩) hS.2.2 dL_got_18
    · have hcl : s.vm.findClass xA = some ce.cls := by rw [h01] at hcl; exact hcl
      refine vx_catch (own := RL) (name := xA) (E := xA) hown [⟨0, 12, 15, 13⟩] ⟨0, 12, 19, 19⟩ [] (by rw [hTab]; rfl) (fun z hz => by rcases List.mem_cons.mp hz with rfl | hz; exact Or.inr ⟨by decide, xI, ht _ tw_197, hX.2.2.2⟩; cases hz) (by decide) (by decide) (ht _ tw_285) (ht _ tw_292) hce hcv hcl ?_
      refine lv_astore (lv' := [(5, .ref q9), (0, .ref (ad 0)), (1, .int a0), (2, .int a1), (3, .int a2), (4, .ref (ad 34))]) hx hb dL_got_19 hl (by decide) rfl (fun ls hl => ?_)
      refine lv_iconst (v := 2) hx hb dL_got_21 (by decide) ?_
      have eτ : (u_vgot σ τ a0 a1 a2) = τ := if_neg hT
      exact W.iret (v := 2) hx hb hr (fun t ht9 hW => ⟨by rw [h01], by show va_P D vwCl (gW cs ad (s_vgot σ a0 a1 a2) (u_vgot σ τ a0 a1 a2)) t.heap; rw [ht9, eτ, sx_vgot hT]; exact hP, hS.F ht9⟩) hS.2.2 dL_got_22
  · refine lv_i2l hx hb dL_got_10 rfl ?_
    have hi_1 : vp_in (0 : Int32) 1 := (by unfold vp_in; decide)
    refine g_last hx hb hK hP hD hS 34 3 (by decide) (fun r t => kL) rfl hi_1 dL_got_11 (fun H locs hP hS => ?_)
    refine lv_goto (tgt := 23) hx hb dL_got_12 (by decide) ?_
    refine lv_iconst (v := 0) hx hb dL_got_23 (by decide) ?_
    have eτ : (u_vgot σ τ a0 a1 a2) = (wl2 τ 34 ((0 : Int32).toNatClampNeg) ((f_vgot σ a0 a1 a2).toInt64)) := if_pos hT
    exact W.iret (v := 0) hx hb hr (fun t ht9 hW => ⟨by rw [hT], by show va_P D vwCl (gW cs ad (s_vgot σ a0 a1 a2) (u_vgot σ τ a0 a1 a2)) t.heap; rw [ht9, eτ]; exact hP, hS.F ht9⟩) hS.2.2 dL_got_24
theorem t01_varea (σ : Nat → Nat → Int32) (a0 : Int32) : t_varea σ a0 = 0 ∨ t_varea σ a0 = 1 := by
  unfold t_varea
  repeat' split
  all_goals first | exact Or.inl rfl | exact Or.inr rfl
theorem sx_varea {σ : Nat → Nat → Int32} {a0 : Int32} (h : ¬ t_varea σ a0 = 0) : s_varea σ a0 = σ := by
  unfold t_varea at h
  unfold s_varea
  by_cases h1 : (f_isBelow a0 (f_fanOf (σ 26 1))) = 0
  · rw [if_pos h1] at h ⊢
    (try rfl)
  · rw [if_neg h1] at h ⊢
    (try exact absurd rfl h)
def u_varea (σ : Nat → Nat → Int32) (τ : Nat → Nat → Int64) (a0 : Int32) : Nat → Nat → Int64 := if t_varea σ a0 = 0 then wl2 τ 34 (0 : Int32).toNatClampNeg (f_varea σ a0) else τ
set_option maxHeartbeats 800000 in
set_option maxRecDepth 100000 in
theorem c_hvarea (l : Launch) (hl9 : l.stackTraces = false) {D : va_G} {cs : Nat → ClassId} {ad : Nat → Nat} (hinj : gI ad) (σ : Nat → Nat → Int32) (τ : Nat → Nat → Int64) (sz : Nat) (a0 : Int32) (hmd : rng (σ 26 1)) : Met l yL_area (wsB kL_area) ({ frames := 7, cells := 1, slots := 6, locals := 111 } : Room) (va_Pc [.ref (ad 0), .int a0, .ref (ad 34)] (gPX D cs ad σ τ sz)) (gQ (some (.int (t_varea σ a0))) (gB D cs ad (s_varea σ a0) (u_varea σ τ a0)) (gA NC ad sz)) 1 6 (gA NC ad sz) := by
  refine va_MetW (cc := cL_area) (maxL := 4) (ret := (some .int)) (by decide) rfl ?_
  intro p e s m args below meth c s₁ B hml hv
  obtain ⟨rfl, ⟨hsz, hP, hK⟩, hX⟩ := hv
  have hx := B.exec
  have hb := B.bytes
  have hr := B.returns
  have hts := atoms_spec (ws := wsB kL_area) B.pre
  have ht := hbig hts
  have hown : s.vm.findClass RL = some m.cls := findClass_of_methodNamed B.named
  have hlocks := B.notSynchronized
  have hTab : c.exceptionTable.toList = tableOf [(0, 8, 11, 13)] := vx_table (x := yL_area) B (ht _ tk_L_area)
  subst hsz
  have hD : ∀ σ τ, va_D (gA NC ad s.heap.size) (gW cs ad σ τ) := fun _ _ => gw_D hinj (fun i h => gA_ad h)
  have hS : va_S (gA NC ad s.heap.size) s.heap s.heap [] := va_S.rf
  have hl := lv_entry ([.ref (ad 0), .int a0, .ref (ad 34)]) (n := 4) (Nat.le_of_ble_eq_true rfl)
  rw [lg_entry_eq]
  generalize (lg_sl ([.ref (ad 0), .int a0, .ref (ad 34)]) ++ List.replicate (4 - (lg_sl ([.ref (ad 0), .int a0, .ref (ad 34)])).length) Slot.unset).toArray = ls at hl ⊢
  have hl : lv_has ls 4 [(0, .ref (ad 0)), (1, .int a0), (2, .ref (ad 34))] := hl
  refine lv_aload_n hx hb dL_area_0 rfl (lv_at hl 2 rfl) ?_
  refine lv_iconst (v := 0) hx hb dL_area_1 (by decide) ?_
  refine lv_aload_n hx hb dL_area_2 rfl (lv_at hl 0 rfl) ?_
  refine lv_iload_n hx hb dL_area_3 rfl (lv_at hl 1 rfl) ?_
  refine g_xrunR (v := .long (f_varea σ a0)) (vx_runV (C := RV) (As := [.int a0]) (rest := [.int 0, .ref (ad 34)]) ⟨hx, hb, hml, hown, hts⟩ (c_varea l hl9 hinj σ τ _ a0 hmd) (qV 1 ht tw_441 tw_442 tw_443 tw_1 tk_V_area rfl rfl (by decide +kernel) ⟨(Nat.le_of_ble_eq_true rfl), (Nat.le_of_ble_eq_true rfl)⟩) (g_pvX (ci := 0) hK hP hX hS (by decide) rfl kV rfl) rfl rfl hl.1 rfl (lv_room (Nat.le_of_ble_eq_true rfl)) dL_area_4 ⟨(Nat.le_of_ble_eq_true rfl), (Nat.le_of_ble_eq_true rfl)⟩) hS (fun q _ h => gA_mono hS.1 q h) (fun q h => gA_mono hS.1 q h) (fun ce q9 H locs hT hz hk hS hce hcv hcl => ?_) (fun H locs hT hP hz hS => ?_)
  · have hP := gw_kept hP hk
    have h01 : t_varea σ a0 = 1 := (t01_varea σ a0).resolve_left hT
    refine vx_catch (own := RL) (name := xI) (E := xI) hown [] ⟨0, 8, 11, 13⟩ [] (by rw [hTab]; rfl) (fun z hz => nomatch hz) (by decide) (by decide) (ht _ tw_197) (ht _ tw_207) hce hcv hcl ?_
    refine lv_astore_n (lv' := [(3, .ref q9), (0, .ref (ad 0)), (1, .int a0), (2, .ref (ad 34))]) hx hb dL_area_11 rfl hl (by decide) rfl (fun ls hl => ?_)
    refine lv_iconst (v := 1) hx hb dL_area_12 (by decide) ?_
    have eτ : (u_varea σ τ a0) = τ := if_neg hT
    exact W.iret (v := 1) hx hb hr (fun t ht9 hW => ⟨by rw [h01], by show va_P D vwCl (gW cs ad (s_varea σ a0) (u_varea σ τ a0)) t.heap; rw [ht9, eτ, sx_varea hT]; exact hP, hS.F ht9⟩) hS.2.2 dL_area_13
  · have hi_1 : vp_in (0 : Int32) 1 := (by unfold vp_in; decide)
    refine g_last hx hb hK hP hD hS 34 3 (by decide) (fun r t => kL) rfl hi_1 dL_area_7 (fun H locs hP hS => ?_)
    refine lv_goto (tgt := 14) hx hb dL_area_8 (by decide) ?_
    refine lv_iconst (v := 0) hx hb dL_area_14 (by decide) ?_
    have eτ : (u_varea σ τ a0) = (wl2 τ 34 ((0 : Int32).toNatClampNeg) (f_varea σ a0)) := if_pos hT
    exact W.iret (v := 0) hx hb hr (fun t ht9 hW => ⟨by rw [hT], by show va_P D vwCl (gW cs ad (s_varea σ a0) (u_varea σ τ a0)) t.heap; rw [ht9, eτ]; exact hP, hS.F ht9⟩) hS.2.2 dL_area_15
