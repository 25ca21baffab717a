def f_rword (σ : Nat → Nat → Int32)  (x : Int32) (y : Int32) : Int32 :=
  if (f_in_ x (0 : Int32) (4095 : Int32)) = 0 then
    0
  else
    ((w2 σ 35 0 (0 : Int32)) 36 x.toNatClampNeg)
def s_rword (σ : Nat → Nat → Int32)  (x : Int32) (y : Int32) : Nat → Nat → Int32 :=
  if (f_in_ x (0 : Int32) (4095 : Int32)) = 0 then
    (w2 σ 35 0 (1 : Int32))
  else
    (w2 (w2 σ 35 0 (0 : Int32)) 36 x.toNatClampNeg y)
set_option maxHeartbeats 4000000 in
set_option maxRecDepth 100000 in
theorem c_rword (l : Launch) {D : va_G} {cs : Nat → ClassId} {ad : Nat → Nat} (hinj : gI ad) (σ : Nat → Nat → Int32) (τ : Nat → Nat → Int64) (sz : Nat)  (x : Int32) (y : Int32) : Met l yR_word (wsB kR_word) ({ frames := 1, cells := 0, slots := 0, locals := 22 } : Room) (va_Pc [.ref (ad 35), .int x, .int y] (gP D cs ad σ τ sz)) (gQ (some (.int (f_rword σ x y))) (gB D cs ad (s_rword σ x y) τ) (gA NC ad sz)) 0 0 (gA NC ad sz) := by
  refine Met.ofW (cc := cR_word) (maxL := 4) (ret := (some .int)) (by decide) rfl ?_
  intro p e s m args below meth c s₁ B hml hv
  obtain ⟨rfl, hsz, hP, hK⟩ := hv
  have hx := B.exec
  have hb := B.bytes
  have hr := B.returns
  have hts := atoms_spec (ws := wsB kR_word) B.pre
  have ht := hbig hts
  have hown : s.vm.findClass RR = some m.cls := findClass_of_methodNamed B.named
  have hlocks := B.notSynchronized
  subst hsz
  have hD : ∀ σ τ, va_D (gA NC ad s.heap.size) (gW cs ad σ τ) := fun _ _ => gw_D hinj (fun i h => gA_ad h)
  have hS : va_S (gA NC ad s.heap.size) s.heap s.heap [] := va_S.rf
  have hl := lv_entry ([.ref (ad 35), .int x, .int y]) (n := 4) (Nat.le_of_ble_eq_true rfl)
  rw [lg_entry_eq]
  generalize (lg_sl ([.ref (ad 35), .int x, .int y]) ++ List.replicate (4 - (lg_sl ([.ref (ad 35), .int x, .int y])).length) Slot.unset).toArray = ls at hl ⊢
  have hl : lv_has ls 4 [(0, .ref (ad 35)), (1, .int x), (2, .int y)] := hl
  refine lv_aload_n hx hb dR_word_0 rfl (lv_at hl 0 rfl) ?_
  refine lv_iload_n hx hb dR_word_1 rfl (lv_at hl 1 rfl) ?_
  refine lv_iconst (v := 0) hx hb dR_word_2 (by decide) ?_
  refine lv_sipush (v := 4095) hx hb dR_word_3 (by decide) ?_
  refine g_pure (v := .int (f_in_ x (0 : Int32) (4095 : Int32))) (va_runS (As := [.int x, .int 0, .int 4095]) (rest := [.ref (ad 35)]) ⟨hx, hb, hml, hown, hts⟩ (c_in_ l x (0 : Int32) (4095 : Int32)) (qS 3 ht tw_500 tw_501 tw_6 tk_R_in_ rfl rfl (by decide +kernel) ⟨(Nat.le_of_ble_eq_true rfl), (Nat.le_of_ble_eq_true rfl)⟩) g_pt rfl rfl hl.1 rfl (lv_room (Nat.le_of_ble_eq_true rfl)) dR_word_6 ⟨Nat.zero_le _, Nat.zero_le _⟩) ?_
  refine lv_if_ne (tgt := 16) hx hb dR_word_9 (by decide) (fun c_1 => ?_) (fun c_1 => ?_)
  · refine lv_iconst (v := 0) hx hb dR_word_16 (by decide) ?_
    refine lv_iconst (v := 0) hx hb dR_word_17 (by decide) ?_
    refine g_runR (v := .int (f_refuse σ  (0 : Int32) (0 : Int32))) (va_runV (C := RR) (As := [.int 0, .int 0]) (rest := []) ⟨hx, hb, hml, hown, hts⟩ (c_refuse l hinj σ τ _  (0 : Int32) (0 : Int32) ) (qV 2 ht tw_503 tw_505 ts_R_refuse tw_6 tk_R_refuse rfl rfl (by decide +kernel) ⟨(Nat.le_of_ble_eq_true rfl), (Nat.le_of_ble_eq_true rfl)⟩) (g_pv (ci := 5) hK hP (by decide) rfl kR rfl) rfl rfl hl.1 rfl (lv_room (Nat.le_of_ble_eq_true rfl)) dR_word_18 ⟨Nat.zero_le _, Nat.zero_le _⟩) hS (fun q _ h => gA_mono hS.1 q h) (fun q h => gA_mono hS.1 q h) (fun H locs hP hz hS => ?_)
    have hP : va_P D vwCl (gW cs ad (w2 σ 35 0 0) τ) H := by have h9 : va_P D vwCl (gW cs ad (s_refuse σ  (0 : Int32) (0 : Int32)) τ) H := hP; rw [srefuse_00] at h9; exact h9
    refine lv_topi (fun z_2 ez_2 => ?_)
    have ez_2 : z_2 = 0 := ez_2.trans frefuse_00
    subst ez_2
    refine lv_if_eq (tgt := 26) hx hb dR_word_21 (by decide) (fun c_3 => ?_) (fun c_3 => ?_)
    · refine lv_aload_n hx hb dR_word_26 rfl (lv_at hl 0 rfl) ?_
      refine g_get (ci := 5) (C := RR) (T := TR) (M := 13) (v := .ref (ad 36)) hx hb ht inR hown hK hP 35 (by decide) kR rfl 1 (by decide) (ht _ tw_453) (fun _ h9 => h9) rfl dR_word_27 ?_
      refine lv_iload_n hx hb dR_word_30 rfl (lv_at hl 1 rfl) ?_
      have hi_4 : vp_in x 4096 := (by have l0 : (0 : Int32).toInt = 0 := (by decide); have l4095 : (4095 : Int32).toInt = 4095 := (by decide); have b0 := in_b c_1; rw [vp_in_iff]; (try simp only [Int32.toInt_add, Int32.toInt_sub, Int32.toInt_mul, Int.bmod_def, l0, l4095]); omega)
      refine g_iald hx hb hK hP 36 0 (by decide) (fun r t => kR36) rfl hi_4 dR_word_31 ?_
      refine lv_istore_n (lv' := [(3, .int ((w2 σ 35 0 (0 : Int32)) 36 x.toNatClampNeg)), (0, .ref (ad 35)), (1, .int x), (2, .int y)]) hx hb dR_word_32 rfl hl (by decide) rfl (fun ls hl => ?_)
      refine lv_aload_n hx hb dR_word_33 rfl (lv_at hl 1 rfl) ?_
      refine g_get (ci := 5) (C := RR) (T := TR) (M := 13) (v := .ref (ad 36)) hx hb ht inR hown hK hP 35 (by decide) kR rfl 1 (by decide) (ht _ tw_453) (fun _ h9 => h9) rfl dR_word_34 ?_
      refine lv_iload_n hx hb dR_word_37 rfl (lv_at hl 2 rfl) ?_
      refine lv_iload_n hx hb dR_word_38 rfl (lv_at hl 3 rfl) ?_
      have hi_5 : vp_in x 4096 := (by have l0 : (0 : Int32).toInt = 0 := (by decide); have l4095 : (4095 : Int32).toInt = 4095 := (by decide); have b0 := in_b c_1; rw [vp_in_iff]; (try simp only [Int32.toInt_add, Int32.toInt_sub, Int32.toInt_mul, Int.bmod_def, l0, l4095]); omega)
      refine g_iast hx hb hK hP hD hS 36 0 (by decide) (fun r t => kR36) rfl hi_5 dR_word_39 (fun H locs hP hS => ?_)
      refine lv_iload_n hx hb dR_word_40 rfl (lv_at hl 0 rfl) ?_
      have ev : f_rword σ x y = ((w2 σ 35 0 (0 : Int32)) 36 x.toNatClampNeg) := by unfold f_rword; rw [if_neg c_1]
      have es : s_rword σ x y = (w2 (w2 σ 35 0 (0 : Int32)) 36 x.toNatClampNeg y) := by unfold s_rword; rw [if_neg c_1]
      exact W.iret (v := ((w2 σ 35 0 (0 : Int32)) 36 x.toNatClampNeg)) hx hb hr (fun t ht9 hW => ⟨by rw [ev], by show va_P D vwCl (gW cs ad (s_rword σ x y) τ) t.heap; rw [ht9, es]; exact hP, hS.F ht9⟩) hS.2.2 dR_word_41
    · exact absurd (by decide) c_3
  · refine lv_iconst (v := 1) hx hb dR_word_12 (by decide) ?_
    refine lv_goto (tgt := 17) hx hb dR_word_13 (by decide) ?_
    refine lv_iconst (v := 0) hx hb dR_word_17 (by decide) ?_
    refine g_runR (v := .int (f_refuse σ  (1 : Int32) (0 : Int32))) (va_runV (C := RR) (As := [.int 1, .int 0]) (rest := []) ⟨hx, hb, hml, hown, hts⟩ (c_refuse l hinj σ τ _  (1 : Int32) (0 : Int32) ) (qV 2 ht tw_503 tw_505 ts_R_refuse tw_6 tk_R_refuse rfl rfl (by decide +kernel) ⟨(Nat.le_of_ble_eq_true rfl), (Nat.le_of_ble_eq_true rfl)⟩) (g_pv (ci := 5) hK hP (by decide) rfl kR rfl) rfl rfl hl.1 rfl (lv_room (Nat.le_of_ble_eq_true rfl)) dR_word_18 ⟨Nat.zero_le _, Nat.zero_le _⟩) hS (fun q _ h => gA_mono hS.1 q h) (fun q h => gA_mono hS.1 q h) (fun H locs hP hz hS => ?_)
    have hP : va_P D vwCl (gW cs ad (w2 σ 35 0 1) τ) H := by have h9 : va_P D vwCl (gW cs ad (s_refuse σ  (1 : Int32) (0 : Int32)) τ) H := hP; rw [srefuse_1] at h9; exact h9
    refine lv_topi (fun z_6 ez_6 => ?_)
    have ez_6 : z_6 = 1 := ez_6.trans frefuse_1
    subst ez_6
    refine lv_if_eq (tgt := 26) hx hb dR_word_21 (by decide) (fun c_7 => ?_) (fun c_7 => ?_)
    · exact absurd c_7 (by decide)
    · refine lv_iconst (v := 0) hx hb dR_word_24 (by decide) ?_
      have ev : f_rword σ x y = 0 := by unfold f_rword; rw [if_pos c_1]
      have es : s_rword σ x y = (w2 σ 35 0 (1 : Int32)) := by unfold s_rword; rw [if_pos c_1]
      exact W.iret (v := 0) hx hb hr (fun t ht9 hW => ⟨by rw [ev], by show va_P D vwCl (gW cs ad (s_rword σ x y) τ) t.heap; rw [ht9, es]; exact hP, hS.F ht9⟩) hS.2.2 dR_word_25
def s_rattr (σ : Nat → Nat → Int32)  (a0 : Int32) (a1 : Int32) (a2 : Int32) (a3 : Int32) (a4 : Int32) : Nat → Nat → Int32 :=
  if (f_in_ a0 (0 : Int32) (7 : Int32)) = 0 then
    (w2 σ 35 0 (1 : Int32))
  else
    if a1 < 0 then
      (w2 σ 35 0 (1 : Int32))
    else
      if a2 < 0 then
        (w2 σ 35 0 (1 : Int32))
      else
        if (f_in_ a3 (0 : Int32) (4 : Int32)) = 0 then
          (w2 σ 35 0 (1 : Int32))
        else
          if (f_in_ a4 (0 : Int32) (3 : Int32)) = 0 then
            (w2 σ 35 0 (1 : Int32))
          else
            (w2 (w2 (w2 (w2 (w2 σ 35 0 (0 : Int32)) 37 ((4 * a0).toNatClampNeg) a1) 37 (((4 * a0) + 1).toNatClampNeg) a2) 37 (((4 * a0) + 2).toNatClampNeg) a3) 37 (((4 * a0) + 3).toNatClampNeg) a4)
set_option maxHeartbeats 4000000 in
set_option maxRecDepth 100000 in
theorem c_rattr (l : Launch) {D : va_G} {cs : Nat → ClassId} {ad : Nat → Nat} (hinj : gI ad) (σ : Nat → Nat → Int32) (τ : Nat → Nat → Int64) (sz : Nat)  (a0 : Int32) (a1 : Int32) (a2 : Int32) (a3 : Int32) (a4 : Int32) : Met l yR_attribute (wsB kR_attribute) ({ frames := 1, cells := 0, slots := 0, locals := 22 } : Room) (va_Pc [.ref (ad 35), .int a0, .int a1, .int a2, .int a3, .int a4] (gP D cs ad σ τ sz)) (gQ none (gB D cs ad (s_rattr σ a0 a1 a2 a3 a4) τ) (gA NC ad sz)) 0 0 (gA NC ad sz) := by
  refine Met.ofW (cc := cR_attribute) (maxL := 6) (ret := none) (by decide) rfl ?_
  intro p e s m args below meth c s₁ B hml hv
  obtain ⟨rfl, hsz, hP, hK⟩ := hv
  have hx := B.exec
  have hb := B.bytes
  have hr := B.returns
  have hts := atoms_spec (ws := wsB kR_attribute) B.pre
  have ht := hbig hts
  have hown : s.vm.findClass RR = some m.cls := findClass_of_methodNamed B.named
  have hlocks := B.notSynchronized
  subst hsz
  have hD : ∀ σ τ, va_D (gA NC ad s.heap.size) (gW cs ad σ τ) := fun _ _ => gw_D hinj (fun i h => gA_ad h)
  have hS : va_S (gA NC ad s.heap.size) s.heap s.heap [] := va_S.rf
  have hl := lv_entry ([.ref (ad 35), .int a0, .int a1, .int a2, .int a3, .int a4]) (n := 6) (Nat.le_of_ble_eq_true rfl)
  rw [lg_entry_eq]
  generalize (lg_sl ([.ref (ad 35), .int a0, .int a1, .int a2, .int a3, .int a4]) ++ List.replicate (6 - (lg_sl ([.ref (ad 35), .int a0, .int a1, .int a2, .int a3, .int a4])).length) Slot.unset).toArray = ls at hl ⊢
  have hl : lv_has ls 6 [(0, .ref (ad 35)), (1, .int a0), (2, .int a1), (3, .int a2), (4, .int a3), (5, .int a4)] := hl
  refine lv_aload_n hx hb dR_attribute_0 rfl (lv_at hl 0 rfl) ?_
  refine lv_iload_n hx hb dR_attribute_1 rfl (lv_at hl 1 rfl) ?_
  refine lv_iconst (v := 0) hx hb dR_attribute_2 (by decide) ?_
  refine lv_bipush (v := 7) hx hb dR_attribute_3 (by decide) ?_
  refine g_pure (v := .int (f_in_ a0 (0 : Int32) (7 : Int32))) (va_runS (As := [.int a0, .int 0, .int 7]) (rest := [.ref (ad 35)]) ⟨hx, hb, hml, hown, hts⟩ (c_in_ l a0 (0 : Int32) (7 : Int32)) (qS 3 ht tw_500 tw_501 tw_6 tk_R_in_ rfl rfl (by decide +kernel) ⟨(Nat.le_of_ble_eq_true rfl), (Nat.le_of_ble_eq_true rfl)⟩) g_pt rfl rfl hl.1 rfl (lv_room (Nat.le_of_ble_eq_true rfl)) dR_attribute_5 ⟨Nat.zero_le _, Nat.zero_le _⟩) ?_
  refine lv_if_eq (tgt := 39) hx hb dR_attribute_8 (by decide) (fun c_1 => ?_) (fun c_1 => ?_)
  · refine lv_iconst (v := 1) hx hb dR_attribute_39 (by decide) ?_
    refine lv_goto (tgt := 44) hx hb dR_attribute_40 (by decide) ?_
    refine lv_iconst (v := 0) hx hb dR_attribute_44 (by decide) ?_
    refine g_runR (v := .int (f_refuse σ  (1 : Int32) (0 : Int32))) (va_runV (C := RR) (As := [.int 1, .int 0]) (rest := []) ⟨hx, hb, hml, hown, hts⟩ (c_refuse l hinj σ τ _  (1 : Int32) (0 : Int32) ) (qV 2 ht tw_503 tw_505 ts_R_refuse tw_6 tk_R_refuse rfl rfl (by decide +kernel) ⟨(Nat.le_of_ble_eq_true rfl), (Nat.le_of_ble_eq_true rfl)⟩) (g_pv (ci := 5) hK hP (by decide) rfl kR rfl) rfl rfl hl.1 rfl (lv_room (Nat.le_of_ble_eq_true rfl)) dR_attribute_45 ⟨Nat.zero_le _, Nat.zero_le _⟩) hS (fun q _ h => gA_mono hS.1 q h) (fun q h => gA_mono hS.1 q h) (fun H locs hP hz hS => ?_)
    have hP : va_P D vwCl (gW cs ad (w2 σ 35 0 1) τ) H := by have h9 : va_P D vwCl (gW cs ad (s_refuse σ  (1 : Int32) (0 : Int32)) τ) H := hP; rw [srefuse_1] at h9; exact h9
    refine lv_topi (fun z_2 ez_2 => ?_)
    have ez_2 : z_2 = 1 := ez_2.trans frefuse_1
    subst ez_2
    refine lv_if_eq (tgt := 52) hx hb dR_attribute_48 (by decide) (fun c_3 => ?_) (fun c_3 => ?_)
    · exact absurd c_3 (by decide)
    · have es : s_rattr σ a0 a1 a2 a3 a4 = (w2 σ 35 0 (1 : Int32)) := by unfold s_rattr; rw [if_pos c_1]
      exact W.vret hx hb hr (fun t ht9 hW => ⟨rfl, by show va_P D vwCl (gW cs ad (s_rattr σ a0 a1 a2 a3 a4) τ) t.heap; rw [ht9, es]; exact hP, hS.F ht9⟩) hS.2.2 dR_attribute_51
  · refine lv_iload_n hx hb dR_attribute_11 rfl (lv_at hl 2 rfl) ?_
    refine lv_if_lt (tgt := 39) hx hb dR_attribute_12 (by decide) (fun c_4 => ?_) (fun c_4 => ?_)
    · refine lv_iconst (v := 1) hx hb dR_attribute_39 (by decide) ?_
      refine lv_goto (tgt := 44) hx hb dR_attribute_40 (by decide) ?_
      refine lv_iconst (v := 0) hx hb dR_attribute_44 (by decide) ?_
      refine g_runR (v := .int (f_refuse σ  (1 : Int32) (0 : Int32))) (va_runV (C := RR) (As := [.int 1, .int 0]) (rest := []) ⟨hx, hb, hml, hown, hts⟩ (c_refuse l hinj σ τ _  (1 : Int32) (0 : Int32) ) (qV 2 ht tw_503 tw_505 ts_R_refuse tw_6 tk_R_refuse rfl rfl (by decide +kernel) ⟨(Nat.le_of_ble_eq_true rfl), (Nat.le_of_ble_eq_true rfl)⟩) (g_pv (ci := 5) hK hP (by decide) rfl kR rfl) rfl rfl hl.1 rfl (lv_room (Nat.le_of_ble_eq_true rfl)) dR_attribute_45 ⟨Nat.zero_le _, Nat.zero_le _⟩) hS (fun q _ h => gA_mono hS.1 q h) (fun q h => gA_mono hS.1 q h) (fun H locs hP hz hS => ?_)
      have hP : va_P D vwCl (gW cs ad (w2 σ 35 0 1) τ) H := by have h9 : va_P D vwCl (gW cs ad (s_refuse σ  (1 : Int32) (0 : Int32)) τ) H := hP; rw [srefuse_1] at h9; exact h9
      refine lv_topi (fun z_5 ez_5 => ?_)
      have ez_5 : z_5 = 1 := ez_5.trans frefuse_1
      subst ez_5
      refine lv_if_eq (tgt := 52) hx hb dR_attribute_48 (by decide) (fun c_6 => ?_) (fun c_6 => ?_)
      · exact absurd c_6 (by decide)
      · have es : s_rattr σ a0 a1 a2 a3 a4 = (w2 σ 35 0 (1 : Int32)) := by unfold s_rattr; rw [if_neg c_1, if_pos c_4]
        exact W.vret hx hb hr (fun t ht9 hW => ⟨rfl, by show va_P D vwCl (gW cs ad (s_rattr σ a0 a1 a2 a3 a4) τ) t.heap; rw [ht9, es]; exact hP, hS.F ht9⟩) hS.2.2 dR_attribute_51
    · refine lv_iload_n hx hb dR_attribute_15 rfl (lv_at hl 3 rfl) ?_
      refine lv_if_lt (tgt := 39) hx hb dR_attribute_16 (by decide) (fun c_7 => ?_) (fun c_7 => ?_)
      · refine lv_iconst (v := 1) hx hb dR_attribute_39 (by decide) ?_
        refine lv_goto (tgt := 44) hx hb dR_attribute_40 (by decide) ?_
        refine lv_iconst (v := 0) hx hb dR_attribute_44 (by decide) ?_
        refine g_runR (v := .int (f_refuse σ  (1 : Int32) (0 : Int32))) (va_runV (C := RR) (As := [.int 1, .int 0]) (rest := []) ⟨hx, hb, hml, hown, hts⟩ (c_refuse l hinj σ τ _  (1 : Int32) (0 : Int32) ) (qV 2 ht tw_503 tw_505 ts_R_refuse tw_6 tk_R_refuse rfl rfl (by decide +kernel) ⟨(Nat.le_of_ble_eq_true rfl), (Nat.le_of_ble_eq_true rfl)⟩) (g_pv (ci := 5) hK hP (by decide) rfl kR rfl) rfl rfl hl.1 rfl (lv_room (Nat.le_of_ble_eq_true rfl)) dR_attribute_45 ⟨Nat.zero_le _, Nat.zero_le _⟩) hS (fun q _ h => gA_mono hS.1 q h) (fun q h => gA_mono hS.1 q h) (fun H locs hP hz hS => ?_)
        have hP : va_P D vwCl (gW cs ad (w2 σ 35 0 1) τ) H := by have h9 : va_P D vwCl (gW cs ad (s_refuse σ  (1 : Int32) (0 : Int32)) τ) H := hP; rw [srefuse_1] at h9; exact h9
        refine lv_topi (fun z_8 ez_8 => ?_)
        have ez_8 : z_8 = 1 := ez_8.trans frefuse_1
        subst ez_8
        refine lv_if_eq (tgt := 52) hx hb dR_attribute_48 (by decide) (fun c_9 => ?_) (fun c_9 => ?_)
        · exact absurd c_9 (by decide)
        · have es : s_rattr σ a0 a1 a2 a3 a4 = (w2 σ 35 0 (1 : Int32)) := by unfold s_rattr; rw [if_neg c_1, if_neg c_4, if_pos c_7]
          exact W.vret hx hb hr (fun t ht9 hW => ⟨rfl, by show va_P D vwCl (gW cs ad (s_rattr σ a0 a1 a2 a3 a4) τ) t.heap; rw [ht9, es]; exact hP, hS.F ht9⟩) hS.2.2 dR_attribute_51
      · refine lv_iload hx hb dR_attribute_19 (lv_at hl 4 rfl) ?_
        refine lv_iconst (v := 0) hx hb dR_attribute_21 (by decide) ?_
        refine lv_iconst (v := 4) hx hb dR_attribute_22 (by decide) ?_
        refine g_pure (v := .int (f_in_ a3 (0 : Int32) (4 : Int32))) (va_runS (As := [.int a3, .int 0, .int 4]) (rest := [.ref (ad 35)]) ⟨hx, hb, hml, hown, hts⟩ (c_in_ l a3 (0 : Int32) (4 : Int32)) (qS 3 ht tw_500 tw_501 tw_6 tk_R_in_ rfl rfl (by decide +kernel) ⟨(Nat.le_of_ble_eq_true rfl), (Nat.le_of_ble_eq_true rfl)⟩) g_pt rfl rfl hl.1 rfl (lv_room (Nat.le_of_ble_eq_true rfl)) dR_attribute_23 ⟨Nat.zero_le _, Nat.zero_le _⟩) ?_
        refine lv_if_eq (tgt := 39) hx hb dR_attribute_26 (by decide) (fun c_10 => ?_) (fun c_10 => ?_)
        · refine lv_iconst (v := 1) hx hb dR_attribute_39 (by decide) ?_
          refine lv_goto (tgt := 44) hx hb dR_attribute_40 (by decide) ?_
          refine lv_iconst (v := 0) hx hb dR_attribute_44 (by decide) ?_
          refine g_runR (v := .int (f_refuse σ  (1 : Int32) (0 : Int32))) (va_runV (C := RR) (As := [.int 1, .int 0]) (rest := []) ⟨hx, hb, hml, hown, hts⟩ (c_refuse l hinj σ τ _  (1 : Int32) (0 : Int32) ) (qV 2 ht tw_503 tw_505 ts_R_refuse tw_6 tk_R_refuse rfl rfl (by decide +kernel) ⟨(Nat.le_of_ble_eq_true rfl), (Nat.le_of_ble_eq_true rfl)⟩) (g_pv (ci := 5) hK hP (by decide) rfl kR rfl) rfl rfl hl.1 rfl (lv_room (Nat.le_of_ble_eq_true rfl)) dR_attribute_45 ⟨Nat.zero_le _, Nat.zero_le _⟩) hS (fun q _ h => gA_mono hS.1 q h) (fun q h => gA_mono hS.1 q h) (fun H locs hP hz hS => ?_)
          have hP : va_P D vwCl (gW cs ad (w2 σ 35 0 1) τ) H := by have h9 : va_P D vwCl (gW cs ad (s_refuse σ  (1 : Int32) (0 : Int32)) τ) H := hP; rw [srefuse_1] at h9; exact h9
          refine lv_topi (fun z_11 ez_11 => ?_)
          have ez_11 : z_11 = 1 := ez_11.trans frefuse_1
          subst ez_11
          refine lv_if_eq (tgt := 52) hx hb dR_attribute_48 (by decide) (fun c_12 => ?_) (fun c_12 => ?_)
          · exact absurd c_12 (by decide)
          · have es : s_rattr σ a0 a1 a2 a3 a4 = (w2 σ 35 0 (1 : Int32)) := by unfold s_rattr; rw [if_neg c_1, if_neg c_4, if_neg c_7, if_pos c_10]
            exact W.vret hx hb hr (fun t ht9 hW => ⟨rfl, by show va_P D vwCl (gW cs ad (s_rattr σ a0 a1 a2 a3 a4) τ) t.heap; rw [ht9, es]; exact hP, hS.F ht9⟩) hS.2.2 dR_attribute_51
        · refine lv_iload hx hb dR_attribute_29 (lv_at hl 5 rfl) ?_
          refine lv_iconst (v := 0) hx hb dR_attribute_31 (by decide) ?_
          refine lv_iconst (v := 3) hx hb dR_attribute_32 (by decide) ?_
          refine g_pure (v := .int (f_in_ a4 (0 : Int32) (3 : Int32))) (va_runS (As := [.int a4, .int 0, .int 3]) (rest := [.ref (ad 35)]) ⟨hx, hb, hml, hown, hts⟩ (c_in_ l a4 (0 : Int32) (3 : Int32)) (qS 3 ht tw_500 tw_501 tw_6 tk_R_in_ rfl rfl (by decide +kernel) ⟨(Nat.le_of_ble_eq_true rfl), (Nat.le_of_ble_eq_true rfl)⟩) g_pt rfl rfl hl.1 rfl (lv_room (Nat.le_of_ble_eq_true rfl)) dR_attribute_33 ⟨Nat.zero_le _, Nat.zero_le _⟩) ?_
          refine lv_if_ne (tgt := 43) hx hb dR_attribute_36 (by decide) (fun c_13 => ?_) (fun c_13 => ?_)
          · refine lv_iconst (v := 0) hx hb dR_attribute_43 (by decide) ?_
            refine lv_iconst (v := 0) hx hb dR_attribute_44 (by decide) ?_
            refine g_runR (v := .int (f_refuse σ  (0 : Int32) (0 : Int32))) (va_runV (C := RR) (As := [.int 0, .int 0]) (rest := []) ⟨hx, hb, hml, hown, hts⟩ (c_refuse l hinj σ τ _  (0 : Int32) (0 : Int32) ) (qV 2 ht tw_503 tw_505 ts_R_refuse tw_6 tk_R_refuse rfl rfl (by decide +kernel) ⟨(Nat.le_of_ble_eq_true rfl), (Nat.le_of_ble_eq_true rfl)⟩) (g_pv (ci := 5) hK hP (by decide) rfl kR rfl) rfl rfl hl.1 rfl (lv_room (Nat.le_of_ble_eq_true rfl)) dR_attribute_45 ⟨Nat.zero_le _, Nat.zero_le _⟩) hS (fun q _ h => gA_mono hS.1 q h) (fun q h => gA_mono hS.1 q h) (fun H locs hP hz hS => ?_)
            have hP : va_P D vwCl (gW cs ad (w2 σ 35 0 0) τ) H := by have h9 : va_P D vwCl (gW cs ad (s_refuse σ  (0 : Int32) (0 : Int32)) τ) H := hP; rw [srefuse_00] at h9; exact h9
            refine lv_topi (fun z_14 ez_14 => ?_)
            have ez_14 : z_14 = 0 := ez_14.trans frefuse_00
            subst ez_14
            refine lv_if_eq (tgt := 52) hx hb dR_attribute_48 (by decide) (fun c_15 => ?_) (fun c_15 => ?_)
            · refine lv_aload_n hx hb dR_attribute_52 rfl (lv_at hl 0 rfl) ?_
              refine g_get (ci := 5) (C := RR) (T := TR) (M := 13) (v := .ref (ad 37)) hx hb ht inR hown hK hP 35 (by decide) kR rfl 2 (by decide) (ht _ tw_454) (fun _ h9 => h9) rfl dR_attribute_53 ?_
              refine lv_iconst (v := 4) hx hb dR_attribute_56 (by decide) ?_
              refine lv_iload_n hx hb dR_attribute_57 rfl (lv_at hl 1 rfl) ?_
              refine lv_imul hx hb dR_attribute_58 ?_
              refine lv_iload_n hx hb dR_attribute_59 rfl (lv_at hl 2 rfl) ?_
              have hi_16 : vp_in (4 * a0) 32 := (by have l0 : (0 : Int32).toInt = 0 := (by decide); have l3 : (3 : Int32).toInt = 3 := (by decide); have l4 : (4 : Int32).toInt = 4 := (by decide); have l7 : (7 : Int32).toInt = 7 := (by decide); have b0 := in_b c_1; have b1 := x_lt0.mp c_4; have b2 := x_lt0.mp c_7; have b3 := in_b c_10; have b4 := in_b c_13; rw [vp_in_iff]; (try simp only [Int32.toInt_add, Int32.toInt_sub, Int32.toInt_mul, Int.bmod_def, l0, l3, l4, l7]); omega)
              refine g_iast hx hb hK hP hD hS 37 0 (by decide) (fun r t => kR37) rfl hi_16 dR_attribute_60 (fun H locs hP hS => ?_)
              refine lv_aload_n hx hb dR_attribute_61 rfl (lv_at hl 0 rfl) ?_
              refine g_get (ci := 5) (C := RR) (T := TR) (M := 13) (v := .ref (ad 37)) hx hb ht inR hown hK hP 35 (by decide) kR rfl 2 (by decide) (ht _ tw_454) (fun _ h9 => h9) rfl dR_attribute_62 ?_
              refine lv_iconst (v := 4) hx hb dR_attribute_65 (by decide) ?_
              refine lv_iload_n hx hb dR_attribute_66 rfl (lv_at hl 1 rfl) ?_
              refine lv_imul hx hb dR_attribute_67 ?_
              refine lv_iconst (v := 1) hx hb dR_attribute_68 (by decide) ?_
              refine lv_iadd hx hb dR_attribute_69 ?_
              refine lv_iload_n hx hb dR_attribute_70 rfl (lv_at hl 3 rfl) ?_
              have hi_17 : vp_in ((4 * a0) + 1) 32 := (by have l0 : (0 : Int32).toInt = 0 := (by decide); have l1 : (1 : Int32).toInt = 1 := (by decide); have l3 : (3 : Int32).toInt = 3 := (by decide); have l4 : (4 : Int32).toInt = 4 := (by decide); have l7 : (7 : Int32).toInt = 7 := (by decide); have b0 := in_b c_1; have b1 := x_lt0.mp c_4; have b2 := x_lt0.mp c_7; have b3 := in_b c_10; have b4 := in_b c_13; rw [vp_in_iff]; (try simp only [Int32.toInt_add, Int32.toInt_sub, Int32.toInt_mul, Int.bmod_def, l0, l1, l3, l4, l7]); omega)
              refine g_iast hx hb hK hP hD hS 37 0 (by decide) (fun r t => kR37) rfl hi_17 dR_attribute_71 (fun H locs hP hS => ?_)
              refine lv_aload_n hx hb dR_attribute_72 rfl (lv_at hl 0 rfl) ?_
              refine g_get (ci := 5) (C := RR) (T := TR) (M := 13) (v := .ref (ad 37)) hx hb ht inR hown hK hP 35 (by decide) kR rfl 2 (by decide) (ht _ tw_454) (fun _ h9 => h9) rfl dR_attribute_73 ?_
              refine lv_iconst (v := 4) hx hb dR_attribute_76 (by decide) ?_
              refine lv_iload_n hx hb dR_attribute_77 rfl (lv_at hl 1 rfl) ?_
              refine lv_imul hx hb dR_attribute_78 ?_
              refine lv_iconst (v := 2) hx hb dR_attribute_79 (by decide) ?_
              refine lv_iadd hx hb dR_attribute_80 ?_
              refine lv_iload hx hb dR_attribute_81 (lv_at hl 4 rfl) ?_
              have hi_18 : vp_in ((4 * a0) + 2) 32 := (by have l0 : (0 : Int32).toInt = 0 := (by decide); have l2 : (2 : Int32).toInt = 2 := (by decide); have l3 : (3 : Int32).toInt = 3 := (by decide); have l4 : (4 : Int32).toInt = 4 := (by decide); have l7 : (7 : Int32).toInt = 7 := (by decide); have b0 := in_b c_1; have b1 := x_lt0.mp c_4; have b2 := x_lt0.mp c_7; have b3 := in_b c_10; have b4 := in_b c_13; rw [vp_in_iff]; (try simp only [Int32.toInt_add, Int32.toInt_sub, Int32.toInt_mul, Int.bmod_def, l0, l2, l3, l4, l7]); omega)
              refine g_iast hx hb hK hP hD hS 37 0 (by decide) (fun r t => kR37) rfl hi_18 dR_attribute_83 (fun H locs hP hS => ?_)
              refine lv_aload_n hx hb dR_attribute_84 rfl (lv_at hl 0 rfl) ?_
              refine g_get (ci := 5) (C := RR) (T := TR) (M := 13) (v := .ref (ad 37)) hx hb ht inR hown hK hP 35 (by decide) kR rfl 2 (by decide) (ht _ tw_454) (fun _ h9 => h9) rfl dR_attribute_85 ?_
              refine lv_iconst (v := 4) hx hb dR_attribute_88 (by decide) ?_
              refine lv_iload_n hx hb dR_attribute_89 rfl (lv_at hl 1 rfl) ?_
              refine lv_imul hx hb dR_attribute_90 ?_
              refine lv_iconst (v := 3) hx hb dR_attribute_91 (by decide) ?_
              refine lv_iadd hx hb dR_attribute_92 ?_
              refine lv_iload hx hb dR_attribute_93 (lv_at hl 5 rfl) ?_
              have hi_19 : vp_in ((4 * a0) + 3) 32 := (by have l0 : (0 : Int32).toInt = 0 := (by decide); have l3 : (3 : Int32).toInt = 3 := (by decide); have l4 : (4 : Int32).toInt = 4 := (by decide); have l7 : (7 : Int32).toInt = 7 := (by decide); have b0 := in_b c_1; have b1 := x_lt0.mp c_4; have b2 := x_lt0.mp c_7; have b3 := in_b c_10; have b4 := in_b c_13; rw [vp_in_iff]; (try simp only [Int32.toInt_add, Int32.toInt_sub, Int32.toInt_mul, Int.bmod_def, l0, l3, l4, l7]); omega)
              refine g_iast hx hb hK hP hD hS 37 0 (by decide) (fun r t => kR37) rfl hi_19 dR_attribute_95 (fun H locs hP hS => ?_)
              have es : s_rattr σ a0 a1 a2 a3 a4 = (w2 (w2 (w2 (w2 (w2 σ 35 0 (0 : Int32)) 37 ((4 * a0).toNatClampNeg) a1) 37 (((4 * a0) + 1).toNatClampNeg) a2) 37 (((4 * a0) + 2).toNatClampNeg) a3) 37 (((4 * a0) + 3).toNatClampNeg) a4) := by unfold s_rattr; rw [if_neg c_1, if_neg c_4, if_neg c_7, if_neg c_10, if_neg c_13]
              exact W.vret hx hb hr (fun t ht9 hW => ⟨rfl, by show va_P D vwCl (gW cs ad (s_rattr σ a0 a1 a2 a3 a4) τ) t.heap; rw [ht9, es]; exact hP, hS.F ht9⟩) hS.2.2 dR_attribute_96
            · exact absurd (by decide) c_15
          · refine lv_iconst (v := 1) hx hb dR_attribute_39 (by decide) ?_
            refine lv_goto (tgt := 44) hx hb dR_attribute_40 (by decide) ?_
            refine lv_iconst (v := 0) hx hb dR_attribute_44 (by decide) ?_
            refine g_runR (v := .int (f_refuse σ  (1 : Int32) (0 : Int32))) (va_runV (C := RR) (As := [.int 1, .int 0]) (rest := []) ⟨hx, hb, hml, hown, hts⟩ (c_refuse l hinj σ τ _  (1 : Int32) (0 : Int32) ) (qV 2 ht tw_503 tw_505 ts_R_refuse tw_6 tk_R_refuse rfl rfl (by decide +kernel) ⟨(Nat.le_of_ble_eq_true rfl), (Nat.le_of_ble_eq_true rfl)⟩) (g_pv (ci := 5) hK hP (by decide) rfl kR rfl) rfl rfl hl.1 rfl (lv_room (Nat.le_of_ble_eq_true rfl)) dR_attribute_45 ⟨Nat.zero_le _, Nat.zero_le _⟩) hS (fun q _ h => gA_mono hS.1 q h) (fun q h => gA_mono hS.1 q h) (fun H locs hP hz hS => ?_)
            have hP : va_P D vwCl (gW cs ad (w2 σ 35 0 1) τ) H := by have h9 : va_P D vwCl (gW cs ad (s_refuse σ  (1 : Int32) (0 : Int32)) τ) H := hP; rw [srefuse_1] at h9; exact h9
            refine lv_topi (fun z_20 ez_20 => ?_)
            have ez_20 : z_20 = 1 := ez_20.trans frefuse_1
            subst ez_20
            refine lv_if_eq (tgt := 52) hx hb dR_attribute_48 (by decide) (fun c_21 => ?_) (fun c_21 => ?_)
            · exact absurd c_21 (by decide)
            · have es : s_rattr σ a0 a1 a2 a3 a4 = (w2 σ 35 0 (1 : Int32)) := by unfold s_rattr; rw [if_neg c_1, if_neg c_4, if_neg c_7, if_neg c_10, if_pos c_13]
              exact W.vret hx hb hr (fun t ht9 hW => ⟨rfl, by show va_P D vwCl (gW cs ad (s_rattr σ a0 a1 a2 a3 a4) τ) t.heap; rw [ht9, es]; exact hP, hS.F ht9⟩) hS.2.2 dR_attribute_51
def f_rfetch (σ : Nat → Nat → Int32)  (a0 : Int32) (a1 : Int32) (a2 : Int32) : Int32 :=
  if (f_in_ a0 (0 : Int32) (7 : Int32)) = 0 then
    0
  else
    if (f_in_ a2 (0 : Int32) (3 : Int32)) = 0 then
      0
    else
      if 0 ≤ a1 then
        if a2 < ((w2 σ 35 0 (0 : Int32)) 37 (((4 * a0) + 2).toNatClampNeg)) then
          if ((w2 σ 35 0 (0 : Int32)) 37 (((4 * a0) + 3).toNatClampNeg)) = 0 then
            (f_wordAt (w2 σ 35 0 (0 : Int32))  (((((w2 σ 35 0 (0 : Int32)) 37 ((4 * a0).toNatClampNeg)).toInt64) + ((a1.toInt64) * (((w2 σ 35 0 (0 : Int32)) 37 (((4 * a0) + 1).toNatClampNeg)).toInt64))) + (a2.toInt64)))
          else
            if ((w2 σ 35 0 (0 : Int32)) 37 (((4 * a0) + 3).toNatClampNeg)) = 1 then
              (((65536 * (f_byteAt (w2 σ 35 0 (0 : Int32))  ((((w2 σ 35 0 (0 : Int32)) 37 ((4 * a0).toNatClampNeg)).toInt64) + ((a1.toInt64) * (((w2 σ 35 0 (0 : Int32)) 37 (((4 * a0) + 1).toNatClampNeg)).toInt64))) a2)) + 127) / 255)
            else
              if ((w2 σ 35 0 (0 : Int32)) 37 (((4 * a0) + 3).toNatClampNeg)) = 2 then
                if (f_halfAt (w2 σ 35 0 (0 : Int32))  (((((w2 σ 35 0 (0 : Int32)) 37 ((4 * a0).toNatClampNeg)).toInt64) + ((a1.toInt64) * (((w2 σ 35 0 (0 : Int32)) 37 (((4 * a0) + 1).toNatClampNeg)).toInt64))) + ((a2 / 2).toInt64)) (a2 - a2 / 2 * 2)) ≤ 32767 then
                  (256 * (f_halfAt (w2 σ 35 0 (0 : Int32))  (((((w2 σ 35 0 (0 : Int32)) 37 ((4 * a0).toNatClampNeg)).toInt64) + ((a1.toInt64) * (((w2 σ 35 0 (0 : Int32)) 37 (((4 * a0) + 1).toNatClampNeg)).toInt64))) + ((a2 / 2).toInt64)) (a2 - a2 / 2 * 2)))
                else
                  (256 * ((f_halfAt (w2 σ 35 0 (0 : Int32))  (((((w2 σ 35 0 (0 : Int32)) 37 ((4 * a0).toNatClampNeg)).toInt64) + ((a1.toInt64) * (((w2 σ 35 0 (0 : Int32)) 37 (((4 * a0) + 1).toNatClampNeg)).toInt64))) + ((a2 / 2).toInt64)) (a2 - a2 / 2 * 2)) - 65536))
              else
                if (f_byteAt (w2 σ 35 0 (0 : Int32))  ((((w2 σ 35 0 (0 : Int32)) 37 ((4 * a0).toNatClampNeg)).toInt64) + ((a1.toInt64) * (((w2 σ 35 0 (0 : Int32)) 37 (((4 * a0) + 1).toNatClampNeg)).toInt64))) a2) ≤ 127 then
                  (65536 * (f_byteAt (w2 σ 35 0 (0 : Int32))  ((((w2 σ 35 0 (0 : Int32)) 37 ((4 * a0).toNatClampNeg)).toInt64) + ((a1.toInt64) * (((w2 σ 35 0 (0 : Int32)) 37 (((4 * a0) + 1).toNatClampNeg)).toInt64))) a2))
                else
                  (65536 * ((f_byteAt (w2 σ 35 0 (0 : Int32))  ((((w2 σ 35 0 (0 : Int32)) 37 ((4 * a0).toNatClampNeg)).toInt64) + ((a1.toInt64) * (((w2 σ 35 0 (0 : Int32)) 37 (((4 * a0) + 1).toNatClampNeg)).toInt64))) a2) - 256))
        else
          if a2 = 3 then
            65536
          else
            0
      else
        0
def s_rfetch (σ : Nat → Nat → Int32)  (a0 : Int32) (a1 : Int32) (a2 : Int32) : Nat → Nat → Int32 :=
  if (f_in_ a0 (0 : Int32) (7 : Int32)) = 0 then
    (w2 σ 35 0 (1 : Int32))
  else
    if (f_in_ a2 (0 : Int32) (3 : Int32)) = 0 then
      (w2 σ 35 0 (1 : Int32))
    else
      if 0 ≤ a1 then
        if a2 < ((w2 σ 35 0 (0 : Int32)) 37 (((4 * a0) + 2).toNatClampNeg)) then
          if ((w2 σ 35 0 (0 : Int32)) 37 (((4 * a0) + 3).toNatClampNeg)) = 0 then
            (w2 σ 35 0 (0 : Int32))
          else
            if ((w2 σ 35 0 (0 : Int32)) 37 (((4 * a0) + 3).toNatClampNeg)) = 1 then
              (w2 σ 35 0 (0 : Int32))
            else
              if ((w2 σ 35 0 (0 : Int32)) 37 (((4 * a0) + 3).toNatClampNeg)) = 2 then
                if (f_halfAt (w2 σ 35 0 (0 : Int32))  (((((w2 σ 35 0 (0 : Int32)) 37 ((4 * a0).toNatClampNeg)).toInt64) + ((a1.toInt64) * (((w2 σ 35 0 (0 : Int32)) 37 (((4 * a0) + 1).toNatClampNeg)).toInt64))) + ((a2 / 2).toInt64)) (a2 - a2 / 2 * 2)) ≤ 32767 then
                  (w2 σ 35 0 (0 : Int32))
                else
                  (w2 σ 35 0 (0 : Int32))
              else
                if (f_byteAt (w2 σ 35 0 (0 : Int32))  ((((w2 σ 35 0 (0 : Int32)) 37 ((4 * a0).toNatClampNeg)).toInt64) + ((a1.toInt64) * (((w2 σ 35 0 (0 : Int32)) 37 (((4 * a0) + 1).toNatClampNeg)).toInt64))) a2) ≤ 127 then
                  (w2 σ 35 0 (0 : Int32))
                else
                  (w2 σ 35 0 (0 : Int32))
        else
          if a2 = 3 then
            (w2 σ 35 0 (0 : Int32))
          else
            (w2 σ 35 0 (0 : Int32))
      else
        (w2 σ 35 0 (1 : Int32))
set_option maxHeartbeats 4000000 in
set_option maxRecDepth 100000 in
theorem c_rfetch (l : Launch) {D : va_G} {cs : Nat → ClassId} {ad : Nat → Nat} (hinj : gI ad) (σ : Nat → Nat → Int32) (τ : Nat → Nat → Int64) (sz : Nat)  (a0 : Int32) (a1 : Int32) (a2 : Int32) : Met l yR_fetch (wsB kR_fetch) ({ frames := 2, cells := 0, slots := 0, locals := 45 } : Room) (va_Pc [.ref (ad 35), .int a0, .int a1, .int a2] (gP D cs ad σ τ sz)) (gQ (some (.int (f_rfetch σ a0 a1 a2))) (gB D cs ad (s_rfetch σ a0 a1 a2) τ) (gA NC ad sz)) 0 0 (gA NC ad sz) := by
  refine Met.ofW (cc := cR_fetch) (maxL := 8) (ret := (some .int)) (by decide) rfl ?_
  intro p e s m args below meth c s₁ B hml hv
  obtain ⟨rfl, hsz, hP, hK⟩ := hv
  have hx := B.exec
  have hb := B.bytes
  have hr := B.returns
  have hts := atoms_spec (ws := wsB kR_fetch) B.pre
  have ht := hbig hts
  have hown : s.vm.findClass RR = some m.cls := findClass_of_methodNamed B.named
  have hlocks := B.notSynchronized
  subst hsz
  have hD : ∀ σ τ, va_D (gA NC ad s.heap.size) (gW cs ad σ τ) := fun _ _ => gw_D hinj (fun i h => gA_ad h)
  have hS : va_S (gA NC ad s.heap.size) s.heap s.heap [] := va_S.rf
  have hl := lv_entry ([.ref (ad 35), .int a0, .int a1, .int a2]) (n := 8) (Nat.le_of_ble_eq_true rfl)
  rw [lg_entry_eq]
  generalize (lg_sl ([.ref (ad 35), .int a0, .int a1, .int a2]) ++ List.replicate (8 - (lg_sl ([.ref (ad 35), .int a0, .int a1, .int a2])).length) Slot.unset).toArray = ls at hl ⊢
  have hl : lv_has ls 8 [(0, .ref (ad 35)), (1, .int a0), (2, .int a1), (3, .int a2)] := hl
  refine lv_aload_n hx hb dR_fetch_0 rfl (lv_at hl 0 rfl) ?_
  refine lv_iload_n hx hb dR_fetch_1 rfl (lv_at hl 1 rfl) ?_
  refine lv_iconst (v := 0) hx hb dR_fetch_2 (by decide) ?_
  refine lv_bipush (v := 7) hx hb dR_fetch_3 (by decide) ?_
  refine g_pure (v := .int (f_in_ a0 (0 : Int32) (7 : Int32))) (va_runS (As := [.int a0, .int 0, .int 7]) (rest := [.ref (ad 35)]) ⟨hx, hb, hml, hown, hts⟩ (c_in_ l a0 (0 : Int32) (7 : Int32)) (qS 3 ht tw_500 tw_501 tw_6 tk_R_in_ rfl rfl (by decide +kernel) ⟨(Nat.le_of_ble_eq_true rfl), (Nat.le_of_ble_eq_true rfl)⟩) g_pt rfl rfl hl.1 rfl (lv_room (Nat.le_of_ble_eq_true rfl)) dR_fetch_5 ⟨Nat.zero_le _, Nat.zero_le _⟩) ?_
  refine lv_if_eq (tgt := 24) hx hb dR_fetch_8 (by decide) (fun c_1 => ?_) (fun c_1 => ?_)
  · refine lv_iconst (v := 1) hx hb dR_fetch_24 (by decide) ?_
    refine lv_goto (tgt := 29) hx hb dR_fetch_25 (by decide) ?_
    refine lv_iconst (v := 0) hx hb dR_fetch_29 (by decide) ?_
    refine g_runR (v := .int (f_refuse σ  (1 : Int32) (0 : Int32))) (va_runV (C := RR) (As := [.int 1, .int 0]) (rest := []) ⟨hx, hb, hml, hown, hts⟩ (c_refuse l hinj σ τ _  (1 : Int32) (0 : Int32) ) (qV 2 ht tw_503 tw_505 ts_R_refuse tw_6 tk_R_refuse rfl rfl (by decide +kernel) ⟨(Nat.le_of_ble_eq_true rfl), (Nat.le_of_ble_eq_true rfl)⟩) (g_pv (ci := 5) hK hP (by decide) rfl kR rfl) rfl rfl hl.1 rfl (lv_room (Nat.le_of_ble_eq_true rfl)) dR_fetch_30 ⟨Nat.zero_le _, Nat.zero_le _⟩) hS (fun q _ h => gA_mono hS.1 q h) (fun q h => gA_mono hS.1 q h) (fun H locs hP hz hS => ?_)
    have hP : va_P D vwCl (gW cs ad (w2 σ 35 0 1) τ) H := by have h9 : va_P D vwCl (gW cs ad (s_refuse σ  (1 : Int32) (0 : Int32)) τ) H := hP; rw [srefuse_1] at h9; exact h9
    refine lv_topi (fun z_2 ez_2 => ?_)
    have ez_2 : z_2 = 1 := ez_2.trans frefuse_1
    subst ez_2
    refine lv_if_eq (tgt := 38) hx hb dR_fetch_33 (by decide) (fun c_3 => ?_) (fun c_3 => ?_)
    · exact absurd c_3 (by decide)
    · refine lv_iconst (v := 0) hx hb dR_fetch_36 (by decide) ?_
      have ev : f_rfetch σ a0 a1 a2 = 0 := by unfold f_rfetch; rw [if_pos c_1]
      have es : s_rfetch σ a0 a1 a2 = (w2 σ 35 0 (1 : Int32)) := by unfold s_rfetch; rw [if_pos c_1]
      exact W.iret (v := 0) hx hb hr (fun t ht9 hW => ⟨by rw [ev], by show va_P D vwCl (gW cs ad (s_rfetch σ a0 a1 a2) τ) t.heap; rw [ht9, es]; exact hP, hS.F ht9⟩) hS.2.2 dR_fetch_37
  · refine lv_iload_n hx hb dR_fetch_11 rfl (lv_at hl 3 rfl) ?_
    refine lv_iconst (v := 0) hx hb dR_fetch_12 (by decide) ?_
    refine lv_iconst (v := 3) hx hb dR_fetch_13 (by decide) ?_
    refine g_pure (v := .int (f_in_ a2 (0 : Int32) (3 : Int32))) (va_runS (As := [.int a2, .int 0, .int 3]) (rest := [.ref (ad 35)]) ⟨hx, hb, hml, hown, hts⟩ (c_in_ l a2 (0 : Int32) (3 : Int32)) (qS 3 ht tw_500 tw_501 tw_6 tk_R_in_ rfl rfl (by decide +kernel) ⟨(Nat.le_of_ble_eq_true rfl), (Nat.le_of_ble_eq_true rfl)⟩) g_pt rfl rfl hl.1 rfl (lv_room (Nat.le_of_ble_eq_true rfl)) dR_fetch_14 ⟨Nat.zero_le _, Nat.zero_le _⟩) ?_
    refine lv_if_eq (tgt := 24) hx hb dR_fetch_17 (by decide) (fun c_4 => ?_) (fun c_4 => ?_)
    · refine lv_iconst (v := 1) hx hb dR_fetch_24 (by decide) ?_
      refine lv_goto (tgt := 29) hx hb dR_fetch_25 (by decide) ?_
      refine lv_iconst (v := 0) hx hb dR_fetch_29 (by decide) ?_
      refine g_runR (v := .int (f_refuse σ  (1 : Int32) (0 : Int32))) (va_runV (C := RR) (As := [.int 1, .int 0]) (rest := []) ⟨hx, hb, hml, hown, hts⟩ (c_refuse l hinj σ τ _  (1 : Int32) (0 : Int32) ) (qV 2 ht tw_503 tw_505 ts_R_refuse tw_6 tk_R_refuse rfl rfl (by decide +kernel) ⟨(Nat.le_of_ble_eq_true rfl), (Nat.le_of_ble_eq_true rfl)⟩) (g_pv (ci := 5) hK hP (by decide) rfl kR rfl) rfl rfl hl.1 rfl (lv_room (Nat.le_of_ble_eq_true rfl)) dR_fetch_30 ⟨Nat.zero_le _, Nat.zero_le _⟩) hS (fun q _ h => gA_mono hS.1 q h) (fun q h => gA_mono hS.1 q h) (fun H locs hP hz hS => ?_)
      have hP : va_P D vwCl (gW cs ad (w2 σ 35 0 1) τ) H := by have h9 : va_P D vwCl (gW cs ad (s_refuse σ  (1 : Int32) (0 : Int32)) τ) H := hP; rw [srefuse_1] at h9; exact h9
      refine lv_topi (fun z_5 ez_5 => ?_)
      have ez_5 : z_5 = 1 := ez_5.trans frefuse_1
      subst ez_5
      refine lv_if_eq (tgt := 38) hx hb dR_fetch_33 (by decide) (fun c_6 => ?_) (fun c_6 => ?_)
      · exact absurd c_6 (by decide)
      · refine lv_iconst (v := 0) hx hb dR_fetch_36 (by decide) ?_
        have ev : f_rfetch σ a0 a1 a2 = 0 := by unfold f_rfetch; rw [if_neg c_1, if_pos c_4]
        have es : s_rfetch σ a0 a1 a2 = (w2 σ 35 0 (1 : Int32)) := by unfold s_rfetch; rw [if_neg c_1, if_pos c_4]
        exact W.iret (v := 0) hx hb hr (fun t ht9 hW => ⟨by rw [ev], by show va_P D vwCl (gW cs ad (s_rfetch σ a0 a1 a2) τ) t.heap; rw [ht9, es]; exact hP, hS.F ht9⟩) hS.2.2 dR_fetch_37
    · refine lv_iload_n hx hb dR_fetch_20 rfl (lv_at hl 2 rfl) ?_
      refine lv_if_ge (tgt := 28) hx hb dR_fetch_21 (by decide) (fun c_7 => ?_) (fun c_7 => ?_)
      · refine lv_iconst (v := 0) hx hb dR_fetch_28 (by decide) ?_
        refine lv_iconst (v := 0) hx hb dR_fetch_29 (by decide) ?_
        refine g_runR (v := .int (f_refuse σ  (0 : Int32) (0 : Int32))) (va_runV (C := RR) (As := [.int 0, .int 0]) (rest := []) ⟨hx, hb, hml, hown, hts⟩ (c_refuse l hinj σ τ _  (0 : Int32) (0 : Int32) ) (qV 2 ht tw_503 tw_505 ts_R_refuse tw_6 tk_R_refuse rfl rfl (by decide +kernel) ⟨(Nat.le_of_ble_eq_true rfl), (Nat.le_of_ble_eq_true rfl)⟩) (g_pv (ci := 5) hK hP (by decide) rfl kR rfl) rfl rfl hl.1 rfl (lv_room (Nat.le_of_ble_eq_true rfl)) dR_fetch_30 ⟨Nat.zero_le _, Nat.zero_le _⟩) hS (fun q _ h => gA_mono hS.1 q h) (fun q h => gA_mono hS.1 q h) (fun H locs hP hz hS => ?_)
        have hP : va_P D vwCl (gW cs ad (w2 σ 35 0 0) τ) H := by have h9 : va_P D vwCl (gW cs ad (s_refuse σ  (0 : Int32) (0 : Int32)) τ) H := hP; rw [srefuse_00] at h9; exact h9
        refine lv_topi (fun z_8 ez_8 => ?_)
        have ez_8 : z_8 = 0 := ez_8.trans frefuse_00
        subst ez_8
        refine lv_if_eq (tgt := 38) hx hb dR_fetch_33 (by decide) (fun c_9 => ?_) (fun c_9 => ?_)
        · refine lv_iload_n hx hb dR_fetch_38 rfl (lv_at hl 3 rfl) ?_
          refine lv_aload_n hx hb dR_fetch_39 rfl (lv_at hl 0 rfl) ?_
          refine g_get (ci := 5) (C := RR) (T := TR) (M := 13) (v := .ref (ad 37)) hx hb ht inR hown hK hP 35 (by decide) kR rfl 2 (by decide) (ht _ tw_454) (fun _ h9 => h9) rfl dR_fetch_40 ?_
          refine lv_iconst (v := 4) hx hb dR_fetch_43 (by decide) ?_
          refine lv_iload_n hx hb dR_fetch_44 rfl (lv_at hl 1 rfl) ?_
          refine lv_imul hx hb dR_fetch_45 ?_
          refine lv_iconst (v := 2) hx hb dR_fetch_46 (by decide) ?_
          refine lv_iadd hx hb dR_fetch_47 ?_
          have hi_10 : vp_in ((4 * a0) + 2) 32 := (by have l0 : (0 : Int32).toInt = 0 := (by decide); have l2 : (2 : Int32).toInt = 2 := (by decide); have l3 : (3 : Int32).toInt = 3 := (by decide); have l4 : (4 : Int32).toInt = 4 := (by decide); have l7 : (7 : Int32).toInt = 7 := (by decide); have b0 := in_b c_1; have b1 := in_b c_4; have b2 := Int32.le_iff_toInt_le.mp c_7; rw [vp_in_iff]; (try simp only [Int32.toInt_add, Int32.toInt_sub, Int32.toInt_mul, Int.bmod_def, l0, l2, l3, l4, l7]); omega)
          refine g_iald hx hb hK hP 37 0 (by decide) (fun r t => kR37) rfl hi_10 dR_fetch_48 ?_
          refine lv_icmp_lt (tgt := 64) hx hb dR_fetch_49 (by decide) (fun c_11 => ?_) (fun c_11 => ?_)
          · refine lv_aload_n hx hb dR_fetch_64 rfl (lv_at hl 0 rfl) ?_
            refine g_get (ci := 5) (C := RR) (T := TR) (M := 13) (v := .ref (ad 37)) hx hb ht inR hown hK hP 35 (by decide) kR rfl 2 (by decide) (ht _ tw_454) (fun _ h9 => h9) rfl dR_fetch_65 ?_
            refine lv_iconst (v := 4) hx hb dR_fetch_68 (by decide) ?_
            refine lv_iload_n hx hb dR_fetch_69 rfl (lv_at hl 1 rfl) ?_
            refine lv_imul hx hb dR_fetch_70 ?_
            have hi_12 : vp_in (4 * a0) 32 := (by have l0 : (0 : Int32).toInt = 0 := (by decide); have l3 : (3 : Int32).toInt = 3 := (by decide); have l4 : (4 : Int32).toInt = 4 := (by decide); have l7 : (7 : Int32).toInt = 7 := (by decide); have b0 := in_b c_1; have b1 := in_b c_4; have b2 := Int32.le_iff_toInt_le.mp c_7; rw [vp_in_iff]; (try simp only [Int32.toInt_add, Int32.toInt_sub, Int32.toInt_mul, Int.bmod_def, l0, l3, l4, l7]); omega)
            refine g_iald hx hb hK hP 37 0 (by decide) (fun r t => kR37) rfl hi_12 dR_fetch_71 ?_
            refine lv_i2l hx hb dR_fetch_72 rfl ?_
            refine lv_iload_n hx hb dR_fetch_73 rfl (lv_at hl 2 rfl) ?_
            refine lv_i2l hx hb dR_fetch_74 rfl ?_
            refine lv_aload_n hx hb dR_fetch_75 rfl (lv_at hl 0 rfl) ?_
            refine g_get (ci := 5) (C := RR) (T := TR) (M := 13) (v := .ref (ad 37)) hx hb ht inR hown hK hP 35 (by decide) kR rfl 2 (by decide) (ht _ tw_454) (fun _ h9 => h9) rfl dR_fetch_76 ?_
            refine lv_iconst (v := 4) hx hb dR_fetch_79 (by decide) ?_
            refine lv_iload_n hx hb dR_fetch_80 rfl (lv_at hl 1 rfl) ?_
            refine lv_imul hx hb dR_fetch_81 ?_
            refine lv_iconst (v := 1) hx hb dR_fetch_82 (by decide) ?_
            refine lv_iadd hx hb dR_fetch_83 ?_
            have hi_13 : vp_in ((4 * a0) + 1) 32 := (by have l0 : (0 : Int32).toInt = 0 := (by decide); have l1 : (1 : Int32).toInt = 1 := (by decide); have l3 : (3 : Int32).toInt = 3 := (by decide); have l4 : (4 : Int32).toInt = 4 := (by decide); have l7 : (7 : Int32).toInt = 7 := (by decide); have b0 := in_b c_1; have b1 := in_b c_4; have b2 := Int32.le_iff_toInt_le.mp c_7; rw [vp_in_iff]; (try simp only [Int32.toInt_add, Int32.toInt_sub, Int32.toInt_mul, Int.bmod_def, l0, l1, l3, l4, l7]); omega)
            refine g_iald hx hb hK hP 37 0 (by decide) (fun r t => kR37) rfl hi_13 dR_fetch_84 ?_
            refine lv_i2l hx hb dR_fetch_85 rfl ?_
            refine lv_lmul hx hb dR_fetch_86 ?_
            refine lv_ladd hx hb dR_fetch_87 ?_
            refine lv_lstore (lv' := [(4, .long ((((w2 σ 35 0 (0 : Int32)) 37 ((4 * a0).toNatClampNeg)).toInt64) + ((a1.toInt64) * (((w2 σ 35 0 (0 : Int32)) 37 (((4 * a0) + 1).toNatClampNeg)).toInt64)))), (0, .ref (ad 35)), (1, .int a0), (2, .int a1), (3, .int a2)]) hx hb dR_fetch_88 hl (by decide) rfl (fun ls hl => ?_)
            refine lv_aload_n hx hb dR_fetch_90 rfl (lv_at hl 1 rfl) ?_
            refine g_get (ci := 5) (C := RR) (T := TR) (M := 13) (v := .ref (ad 37)) hx hb ht inR hown hK hP 35 (by decide) kR rfl 2 (by decide) (ht _ tw_454) (fun _ h9 => h9) rfl dR_fetch_91 ?_
            refine lv_iconst (v := 4) hx hb dR_fetch_94 (by decide) ?_
            refine lv_iload_n hx hb dR_fetch_95 rfl (lv_at hl 2 rfl) ?_
            refine lv_imul hx hb dR_fetch_96 ?_
            refine lv_iconst (v := 3) hx hb dR_fetch_97 (by decide) ?_
            refine lv_iadd hx hb dR_fetch_98 ?_
            have hi_14 : vp_in ((4 * a0) + 3) 32 := (by have l0 : (0 : Int32).toInt = 0 := (by decide); have l3 : (3 : Int32).toInt = 3 := (by decide); have l4 : (4 : Int32).toInt = 4 := (by decide); have l7 : (7 : Int32).toInt = 7 := (by decide); have b0 := in_b c_1; have b1 := in_b c_4; have b2 := Int32.le_iff_toInt_le.mp c_7; rw [vp_in_iff]; (try simp only [Int32.toInt_add, Int32.toInt_sub, Int32.toInt_mul, Int.bmod_def, l0, l3, l4, l7]); omega)
            refine g_iald hx hb hK hP 37 0 (by decide) (fun r t => kR37) rfl hi_14 dR_fetch_99 ?_
            by_cases c_15 : ((w2 σ 35 0 (0 : Int32)) 37 (((4 * a0) + 3).toNatClampNeg)) = 0
            · refine lv_tableIn (off := 28) (tgt := 128) hx hb dR_fetch_100 (by rw [c_15]; decide) (by rw [c_15]; decide) (by rw [c_15]; rfl) (by decide) ?_
              refine lv_aload_n hx hb dR_fetch_128 rfl (lv_at hl 1 rfl) ?_
              refine lv_lload hx hb dR_fetch_129 (lv_at hl 0 rfl) ?_
              refine lv_iload_n hx hb dR_fetch_131 rfl (lv_at hl 4 rfl) ?_
              refine lv_i2l hx hb dR_fetch_132 rfl ?_
              refine lv_ladd hx hb dR_fetch_133 ?_
              refine g_pure (v := .int (f_wordAt (w2 σ 35 0 (0 : Int32))  (((((w2 σ 35 0 (0 : Int32)) 37 ((4 * a0).toNatClampNeg)).toInt64) + ((a1.toInt64) * (((w2 σ 35 0 (0 : Int32)) 37 (((4 * a0) + 1).toNatClampNeg)).toInt64))) + (a2.toInt64)))) (va_runV (C := RR) (As := [.long (((((w2 σ 35 0 (0 : Int32)) 37 ((4 * a0).toNatClampNeg)).toInt64) + ((a1.toInt64) * (((w2 σ 35 0 (0 : Int32)) 37 (((4 * a0) + 1).toNatClampNeg)).toInt64))) + (a2.toInt64))]) (rest := []) ⟨hx, hb, hml, hown, hts⟩ (c_wordAt l hinj (w2 σ 35 0 (0 : Int32)) τ _  (((((w2 σ 35 0 (0 : Int32)) 37 ((4 * a0).toNatClampNeg)).toInt64) + ((a1.toInt64) * (((w2 σ 35 0 (0 : Int32)) 37 (((4 * a0) + 1).toNatClampNeg)).toInt64))) + (a2.toInt64)) ) (qV 1 ht tw_516 tw_518 ts_R_wordAt tw_6 tk_R_wordAt rfl rfl (by decide +kernel) ⟨(Nat.le_of_ble_eq_true rfl), (Nat.le_of_ble_eq_true rfl)⟩) (g_pv (ci := 5) hK hP (by decide) rfl kR rfl) rfl rfl hl.1 rfl (lv_room (Nat.le_of_ble_eq_true rfl)) dR_fetch_134 ⟨Nat.zero_le _, Nat.zero_le _⟩) ?_
              have ev : f_rfetch σ a0 a1 a2 = (f_wordAt (w2 σ 35 0 (0 : Int32))  (((((w2 σ 35 0 (0 : Int32)) 37 ((4 * a0).toNatClampNeg)).toInt64) + ((a1.toInt64) * (((w2 σ 35 0 (0 : Int32)) 37 (((4 * a0) + 1).toNatClampNeg)).toInt64))) + (a2.toInt64))) := by unfold f_rfetch; rw [if_neg c_1, if_neg c_4, if_pos c_7, if_pos c_11, if_pos c_15]
              have es : s_rfetch σ a0 a1 a2 = (w2 σ 35 0 (0 : Int32)) := by unfold s_rfetch; rw [if_neg c_1, if_neg c_4, if_pos c_7, if_pos c_11, if_pos c_15]
              exact W.iret (v := (f_wordAt (w2 σ 35 0 (0 : Int32))  (((((w2 σ 35 0 (0 : Int32)) 37 ((4 * a0).toNatClampNeg)).toInt64) + ((a1.toInt64) * (((w2 σ 35 0 (0 : Int32)) 37 (((4 * a0) + 1).toNatClampNeg)).toInt64))) + (a2.toInt64)))) hx hb hr (fun t ht9 hW => ⟨by rw [ev], by show va_P D vwCl (gW cs ad (s_rfetch σ a0 a1 a2) τ) t.heap; rw [ht9, es]; exact hP, hS.F ht9⟩) hS.2.2 dR_fetch_137
            · by_cases c_16 : ((w2 σ 35 0 (0 : Int32)) 37 (((4 * a0) + 3).toNatClampNeg)) = 1
              · refine lv_tableIn (off := 38) (tgt := 138) hx hb dR_fetch_100 (by rw [c_16]; decide) (by rw [c_16]; decide) (by rw [c_16]; rfl) (by decide) ?_
                refine lv_ldc (v := 65536) hx hb hown (ht _ tw_515) dR_fetch_138 ?_
                refine lv_aload_n hx hb dR_fetch_140 rfl (lv_at hl 1 rfl) ?_
                refine lv_lload hx hb dR_fetch_141 (lv_at hl 0 rfl) ?_
                refine lv_iload_n hx hb dR_fetch_143 rfl (lv_at hl 4 rfl) ?_
                refine g_pure (v := .int (f_byteAt (w2 σ 35 0 (0 : Int32))  ((((w2 σ 35 0 (0 : Int32)) 37 ((4 * a0).toNatClampNeg)).toInt64) + ((a1.toInt64) * (((w2 σ 35 0 (0 : Int32)) 37 (((4 * a0) + 1).toNatClampNeg)).toInt64))) a2)) (va_runV (C := RR) (As := [.long ((((w2 σ 35 0 (0 : Int32)) 37 ((4 * a0).toNatClampNeg)).toInt64) + ((a1.toInt64) * (((w2 σ 35 0 (0 : Int32)) 37 (((4 * a0) + 1).toNatClampNeg)).toInt64))), .int a2]) (rest := [.int 65536]) ⟨hx, hb, hml, hown, hts⟩ (c_byteAt l hinj (w2 σ 35 0 (0 : Int32)) τ _  ((((w2 σ 35 0 (0 : Int32)) 37 ((4 * a0).toNatClampNeg)).toInt64) + ((a1.toInt64) * (((w2 σ 35 0 (0 : Int32)) 37 (((4 * a0) + 1).toNatClampNeg)).toInt64))) a2 ) (qV 2 ht tw_521 tw_523 ts_R_byteAt tw_6 tk_R_byteAt rfl rfl (by decide +kernel) ⟨(Nat.le_of_ble_eq_true rfl), (Nat.le_of_ble_eq_true rfl)⟩) (g_pv (ci := 5) hK hP (by decide) rfl kR rfl) rfl rfl hl.1 rfl (lv_room (Nat.le_of_ble_eq_true rfl)) dR_fetch_144 ⟨Nat.zero_le _, Nat.zero_le _⟩) ?_
                refine lv_imul hx hb dR_fetch_147 ?_
                refine lv_bipush (v := 127) hx hb dR_fetch_148 (by decide) ?_
                refine lv_iadd hx hb dR_fetch_150 ?_
                refine lv_sipush (v := 255) hx hb dR_fetch_151 (by decide) ?_
                refine lv_idiv hx hb dR_fetch_154 (by decide) ?_
                have ev : f_rfetch σ a0 a1 a2 = (((65536 * (f_byteAt (w2 σ 35 0 (0 : Int32))  ((((w2 σ 35 0 (0 : Int32)) 37 ((4 * a0).toNatClampNeg)).toInt64) + ((a1.toInt64) * (((w2 σ 35 0 (0 : Int32)) 37 (((4 * a0) + 1).toNatClampNeg)).toInt64))) a2)) + 127) / 255) := by unfold f_rfetch; rw [if_neg c_1, if_neg c_4, if_pos c_7, if_pos c_11, if_neg c_15, if_pos c_16]
                have es : s_rfetch σ a0 a1 a2 = (w2 σ 35 0 (0 : Int32)) := by unfold s_rfetch; rw [if_neg c_1, if_neg c_4, if_pos c_7, if_pos c_11, if_neg c_15, if_pos c_16]
                exact W.iret (v := (((65536 * (f_byteAt (w2 σ 35 0 (0 : Int32))  ((((w2 σ 35 0 (0 : Int32)) 37 ((4 * a0).toNatClampNeg)).toInt64) + ((a1.toInt64) * (((w2 σ 35 0 (0 : Int32)) 37 (((4 * a0) + 1).toNatClampNeg)).toInt64))) a2)) + 127) / 255)) hx hb hr (fun t ht9 hW => ⟨by rw [ev], by show va_P D vwCl (gW cs ad (s_rfetch σ a0 a1 a2) τ) t.heap; rw [ht9, es]; exact hP, hS.F ht9⟩) hS.2.2 dR_fetch_155
              · by_cases c_17 : ((w2 σ 35 0 (0 : Int32)) 37 (((4 * a0) + 3).toNatClampNeg)) = 2
                · refine lv_tableIn (off := 56) (tgt := 156) hx hb dR_fetch_100 (by rw [c_17]; decide) (by rw [c_17]; decide) (by rw [c_17]; rfl) (by decide) ?_
                  refine lv_aload_n hx hb dR_fetch_156 rfl (lv_at hl 1 rfl) ?_
                  refine lv_lload hx hb dR_fetch_157 (lv_at hl 0 rfl) ?_
                  refine lv_iload_n hx hb dR_fetch_159 rfl (lv_at hl 4 rfl) ?_
                  refine lv_iconst (v := 2) hx hb dR_fetch_160 (by decide) ?_
                  refine lv_idiv hx hb dR_fetch_161 (by decide) ?_
                  refine lv_i2l hx hb dR_fetch_162 rfl ?_
                  refine lv_ladd hx hb dR_fetch_163 ?_
                  refine lv_iload_n hx hb dR_fetch_164 rfl (lv_at hl 4 rfl) ?_
                  refine lv_iconst (v := 2) hx hb dR_fetch_165 (by decide) ?_
                  refine lv_irem hx hb dR_fetch_166 (by decide) ?_
                  refine g_pure (v := .int (f_halfAt (w2 σ 35 0 (0 : Int32))  (((((w2 σ 35 0 (0 : Int32)) 37 ((4 * a0).toNatClampNeg)).toInt64) + ((a1.toInt64) * (((w2 σ 35 0 (0 : Int32)) 37 (((4 * a0) + 1).toNatClampNeg)).toInt64))) + ((a2 / 2).toInt64)) (a2 - a2 / 2 * 2))) (va_runV (C := RR) (As := [.long (((((w2 σ 35 0 (0 : Int32)) 37 ((4 * a0).toNatClampNeg)).toInt64) + ((a1.toInt64) * (((w2 σ 35 0 (0 : Int32)) 37 (((4 * a0) + 1).toNatClampNeg)).toInt64))) + ((a2 / 2).toInt64)), .int (a2 - a2 / 2 * 2)]) (rest := []) ⟨hx, hb, hml, hown, hts⟩ (c_halfAt l hinj (w2 σ 35 0 (0 : Int32)) τ _  (((((w2 σ 35 0 (0 : Int32)) 37 ((4 * a0).toNatClampNeg)).toInt64) + ((a1.toInt64) * (((w2 σ 35 0 (0 : Int32)) 37 (((4 * a0) + 1).toNatClampNeg)).toInt64))) + ((a2 / 2).toInt64)) (a2 - a2 / 2 * 2) ) (qV 2 ht tw_525 tw_527 ts_R_halfAt tw_6 tk_R_halfAt rfl rfl (by decide +kernel) ⟨(Nat.le_of_ble_eq_true rfl), (Nat.le_of_ble_eq_true rfl)⟩) (g_pv (ci := 5) hK hP (by decide) rfl kR rfl) rfl rfl hl.1 rfl (lv_room (Nat.le_of_ble_eq_true rfl)) dR_fetch_167 ⟨Nat.zero_le _, Nat.zero_le _⟩) ?_
                  refine lv_istore (lv' := [(6, .int (f_halfAt (w2 σ 35 0 (0 : Int32))  (((((w2 σ 35 0 (0 : Int32)) 37 ((4 * a0).toNatClampNeg)).toInt64) + ((a1.toInt64) * (((w2 σ 35 0 (0 : Int32)) 37 (((4 * a0) + 1).toNatClampNeg)).toInt64))) + ((a2 / 2).toInt64)) (a2 - a2 / 2 * 2))), (4, .long ((((w2 σ 35 0 (0 : Int32)) 37 ((4 * a0).toNatClampNeg)).toInt64) + ((a1.toInt64) * (((w2 σ 35 0 (0 : Int32)) 37 (((4 * a0) + 1).toNatClampNeg)).toInt64)))), (0, .ref (ad 35)), (1, .int a0), (2, .int a1), (3, .int a2)]) hx hb dR_fetch_170 hl (by decide) rfl (fun ls hl => ?_)
                  refine lv_sipush (v := 256) hx hb dR_fetch_172 (by decide) ?_
                  refine lv_iload hx hb dR_fetch_175 (lv_at hl 0 rfl) ?_
                  refine lv_sipush (v := 32767) hx hb dR_fetch_177 (by decide) ?_
                  refine lv_icmp_le (tgt := 191) hx hb dR_fetch_180 (by decide) (fun c_18 => ?_) (fun c_18 => ?_)
                  · refine lv_iload hx hb dR_fetch_191 (lv_at hl 0 rfl) ?_
                    refine lv_imul hx hb dR_fetch_193 ?_
                    have ev : f_rfetch σ a0 a1 a2 = (256 * (f_halfAt (w2 σ 35 0 (0 : Int32))  (((((w2 σ 35 0 (0 : Int32)) 37 ((4 * a0).toNatClampNeg)).toInt64) + ((a1.toInt64) * (((w2 σ 35 0 (0 : Int32)) 37 (((4 * a0) + 1).toNatClampNeg)).toInt64))) + ((a2 / 2).toInt64)) (a2 - a2 / 2 * 2))) := by unfold f_rfetch; rw [if_neg c_1, if_neg c_4, if_pos c_7, if_pos c_11, if_neg c_15, if_neg c_16, if_pos c_17, if_pos c_18]
                    have es : s_rfetch σ a0 a1 a2 = (w2 σ 35 0 (0 : Int32)) := by unfold s_rfetch; rw [if_neg c_1, if_neg c_4, if_pos c_7, if_pos c_11, if_neg c_15, if_neg c_16, if_pos c_17, if_pos c_18]
                    exact W.iret (v := (256 * (f_halfAt (w2 σ 35 0 (0 : Int32))  (((((w2 σ 35 0 (0 : Int32)) 37 ((4 * a0).toNatClampNeg)).toInt64) + ((a1.toInt64) * (((w2 σ 35 0 (0 : Int32)) 37 (((4 * a0) + 1).toNatClampNeg)).toInt64))) + ((a2 / 2).toInt64)) (a2 - a2 / 2 * 2)))) hx hb hr (fun t ht9 hW => ⟨by rw [ev], by show va_P D vwCl (gW cs ad (s_rfetch σ a0 a1 a2) τ) t.heap; rw [ht9, es]; exact hP, hS.F ht9⟩) hS.2.2 dR_fetch_194
                  · refine lv_iload hx hb dR_fetch_183 (lv_at hl 0 rfl) ?_
                    refine lv_ldc (v := 65536) hx hb hown (ht _ tw_515) dR_fetch_185 ?_
                    refine lv_isub hx hb dR_fetch_187 ?_
                    refine lv_goto (tgt := 193) hx hb dR_fetch_188 (by decide) ?_
                    refine lv_imul hx hb dR_fetch_193 ?_
                    have ev : f_rfetch σ a0 a1 a2 = (256 * ((f_halfAt (w2 σ 35 0 (0 : Int32))  (((((w2 σ 35 0 (0 : Int32)) 37 ((4 * a0).toNatClampNeg)).toInt64) + ((a1.toInt64) * (((w2 σ 35 0 (0 : Int32)) 37 (((4 * a0) + 1).toNatClampNeg)).toInt64))) + ((a2 / 2).toInt64)) (a2 - a2 / 2 * 2)) - 65536)) := by unfold f_rfetch; rw [if_neg c_1, if_neg c_4, if_pos c_7, if_pos c_11, if_neg c_15, if_neg c_16, if_pos c_17, if_neg c_18]
                    have es : s_rfetch σ a0 a1 a2 = (w2 σ 35 0 (0 : Int32)) := by unfold s_rfetch; rw [if_neg c_1, if_neg c_4, if_pos c_7, if_pos c_11, if_neg c_15, if_neg c_16, if_pos c_17, if_neg c_18]
                    exact W.iret (v := (256 * ((f_halfAt (w2 σ 35 0 (0 : Int32))  (((((w2 σ 35 0 (0 : Int32)) 37 ((4 * a0).toNatClampNeg)).toInt64) + ((a1.toInt64) * (((w2 σ 35 0 (0 : Int32)) 37 (((4 * a0) + 1).toNatClampNeg)).toInt64))) + ((a2 / 2).toInt64)) (a2 - a2 / 2 * 2)) - 65536))) hx hb hr (fun t ht9 hW => ⟨by rw [ev], by show va_P D vwCl (gW cs ad (s_rfetch σ a0 a1 a2) τ) t.heap; rw [ht9, es]; exact hP, hS.F ht9⟩) hS.2.2 dR_fetch_194
                · refine lv_tableOut (tgt := 195) hx hb dR_fetch_100 (sw_out3 c_15 c_16 c_17) (by decide) ?_
                  refine lv_aload_n hx hb dR_fetch_195 rfl (lv_at hl 1 rfl) ?_
                  refine lv_lload hx hb dR_fetch_196 (lv_at hl 0 rfl) ?_
                  refine lv_iload_n hx hb dR_fetch_198 rfl (lv_at hl 4 rfl) ?_
                  refine g_pure (v := .int (f_byteAt (w2 σ 35 0 (0 : Int32))  ((((w2 σ 35 0 (0 : Int32)) 37 ((4 * a0).toNatClampNeg)).toInt64) + ((a1.toInt64) * (((w2 σ 35 0 (0 : Int32)) 37 (((4 * a0) + 1).toNatClampNeg)).toInt64))) a2)) (va_runV (C := RR) (As := [.long ((((w2 σ 35 0 (0 : Int32)) 37 ((4 * a0).toNatClampNeg)).toInt64) + ((a1.toInt64) * (((w2 σ 35 0 (0 : Int32)) 37 (((4 * a0) + 1).toNatClampNeg)).toInt64))), .int a2]) (rest := []) ⟨hx, hb, hml, hown, hts⟩ (c_byteAt l hinj (w2 σ 35 0 (0 : Int32)) τ _  ((((w2 σ 35 0 (0 : Int32)) 37 ((4 * a0).toNatClampNeg)).toInt64) + ((a1.toInt64) * (((w2 σ 35 0 (0 : Int32)) 37 (((4 * a0) + 1).toNatClampNeg)).toInt64))) a2 ) (qV 2 ht tw_521 tw_523 ts_R_byteAt tw_6 tk_R_byteAt rfl rfl (by decide +kernel) ⟨(Nat.le_of_ble_eq_true rfl), (Nat.le_of_ble_eq_true rfl)⟩) (g_pv (ci := 5) hK hP (by decide) rfl kR rfl) rfl rfl hl.1 rfl (lv_room (Nat.le_of_ble_eq_true rfl)) dR_fetch_199 ⟨Nat.zero_le _, Nat.zero_le _⟩) ?_
                  refine lv_istore (lv' := [(7, .int (f_byteAt (w2 σ 35 0 (0 : Int32))  ((((w2 σ 35 0 (0 : Int32)) 37 ((4 * a0).toNatClampNeg)).toInt64) + ((a1.toInt64) * (((w2 σ 35 0 (0 : Int32)) 37 (((4 * a0) + 1).toNatClampNeg)).toInt64))) a2)), (4, .long ((((w2 σ 35 0 (0 : Int32)) 37 ((4 * a0).toNatClampNeg)).toInt64) + ((a1.toInt64) * (((w2 σ 35 0 (0 : Int32)) 37 (((4 * a0) + 1).toNatClampNeg)).toInt64)))), (0, .ref (ad 35)), (1, .int a0), (2, .int a1), (3, .int a2)]) hx hb dR_fetch_202 hl (by decide) rfl (fun ls hl => ?_)
                  refine lv_ldc (v := 65536) hx hb hown (ht _ tw_515) dR_fetch_204 ?_
                  refine lv_iload hx hb dR_fetch_206 (lv_at hl 0 rfl) ?_
                  refine lv_bipush (v := 127) hx hb dR_fetch_208 (by decide) ?_
                  refine lv_icmp_le (tgt := 222) hx hb dR_fetch_210 (by decide) (fun c_19 => ?_) (fun c_19 => ?_)
                  · refine lv_iload hx hb dR_fetch_222 (lv_at hl 0 rfl) ?_
                    refine lv_imul hx hb dR_fetch_224 ?_
                    have ev : f_rfetch σ a0 a1 a2 = (65536 * (f_byteAt (w2 σ 35 0 (0 : Int32))  ((((w2 σ 35 0 (0 : Int32)) 37 ((4 * a0).toNatClampNeg)).toInt64) + ((a1.toInt64) * (((w2 σ 35 0 (0 : Int32)) 37 (((4 * a0) + 1).toNatClampNeg)).toInt64))) a2)) := by unfold f_rfetch; rw [if_neg c_1, if_neg c_4, if_pos c_7, if_pos c_11, if_neg c_15, if_neg c_16, if_neg c_17, if_pos c_19]
                    have es : s_rfetch σ a0 a1 a2 = (w2 σ 35 0 (0 : Int32)) := by unfold s_rfetch; rw [if_neg c_1, if_neg c_4, if_pos c_7, if_pos c_11, if_neg c_15, if_neg c_16, if_neg c_17, if_pos c_19]
                    exact W.iret (v := (65536 * (f_byteAt (w2 σ 35 0 (0 : Int32))  ((((w2 σ 35 0 (0 : Int32)) 37 ((4 * a0).toNatClampNeg)).toInt64) + ((a1.toInt64) * (((w2 σ 35 0 (0 : Int32)) 37 (((4 * a0) + 1).toNatClampNeg)).toInt64))) a2))) hx hb hr (fun t ht9 hW => ⟨by rw [ev], by show va_P D vwCl (gW cs ad (s_rfetch σ a0 a1 a2) τ) t.heap; rw [ht9, es]; exact hP, hS.F ht9⟩) hS.2.2 dR_fetch_225
                  · refine lv_iload hx hb dR_fetch_213 (lv_at hl 0 rfl) ?_
                    refine lv_sipush (v := 256) hx hb dR_fetch_215 (by decide) ?_
                    refine lv_isub hx hb dR_fetch_218 ?_
                    refine lv_goto (tgt := 224) hx hb dR_fetch_219 (by decide) ?_
                    refine lv_imul hx hb dR_fetch_224 ?_
                    have ev : f_rfetch σ a0 a1 a2 = (65536 * ((f_byteAt (w2 σ 35 0 (0 : Int32))  ((((w2 σ 35 0 (0 : Int32)) 37 ((4 * a0).toNatClampNeg)).toInt64) + ((a1.toInt64) * (((w2 σ 35 0 (0 : Int32)) 37 (((4 * a0) + 1).toNatClampNeg)).toInt64))) a2) - 256)) := by unfold f_rfetch; rw [if_neg c_1, if_neg c_4, if_pos c_7, if_pos c_11, if_neg c_15, if_neg c_16, if_neg c_17, if_neg c_19]
                    have es : s_rfetch σ a0 a1 a2 = (w2 σ 35 0 (0 : Int32)) := by unfold s_rfetch; rw [if_neg c_1, if_neg c_4, if_pos c_7, if_pos c_11, if_neg c_15, if_neg c_16, if_neg c_17, if_neg c_19]
                    exact W.iret (v := (65536 * ((f_byteAt (w2 σ 35 0 (0 : Int32))  ((((w2 σ 35 0 (0 : Int32)) 37 ((4 * a0).toNatClampNeg)).toInt64) + ((a1.toInt64) * (((w2 σ 35 0 (0 : Int32)) 37 (((4 * a0) + 1).toNatClampNeg)).toInt64))) a2) - 256))) hx hb hr (fun t ht9 hW => ⟨by rw [ev], by show va_P D vwCl (gW cs ad (s_rfetch σ a0 a1 a2) τ) t.heap; rw [ht9, es]; exact hP, hS.F ht9⟩) hS.2.2 dR_fetch_225
          · refine lv_iload_n hx hb dR_fetch_52 rfl (lv_at hl 3 rfl) ?_
            refine lv_iconst (v := 3) hx hb dR_fetch_53 (by decide) ?_
            refine lv_icmp_ne (tgt := 62) hx hb dR_fetch_54 (by decide) (fun c_20 => ?_) (fun c_20 => ?_)
            · refine lv_iconst (v := 0) hx hb dR_fetch_62 (by decide) ?_
              have ev : f_rfetch σ a0 a1 a2 = 0 := by unfold f_rfetch; rw [if_neg c_1, if_neg c_4, if_pos c_7, if_neg c_11, if_neg c_20]
              have es : s_rfetch σ a0 a1 a2 = (w2 σ 35 0 (0 : Int32)) := by unfold s_rfetch; rw [if_neg c_1, if_neg c_4, if_pos c_7, if_neg c_11, if_neg c_20]
              exact W.iret (v := 0) hx hb hr (fun t ht9 hW => ⟨by rw [ev], by show va_P D vwCl (gW cs ad (s_rfetch σ a0 a1 a2) τ) t.heap; rw [ht9, es]; exact hP, hS.F ht9⟩) hS.2.2 dR_fetch_63
            · refine lv_ldc (v := 65536) hx hb hown (ht _ tw_515) dR_fetch_57 ?_
              refine lv_goto (tgt := 63) hx hb dR_fetch_59 (by decide) ?_
              have ev : f_rfetch σ a0 a1 a2 = 65536 := by unfold f_rfetch; rw [if_neg c_1, if_neg c_4, if_pos c_7, if_neg c_11, if_pos c_20]
              have es : s_rfetch σ a0 a1 a2 = (w2 σ 35 0 (0 : Int32)) := by unfold s_rfetch; rw [if_neg c_1, if_neg c_4, if_pos c_7, if_neg c_11, if_pos c_20]
              exact W.iret (v := 65536) hx hb hr (fun t ht9 hW => ⟨by rw [ev], by show va_P D vwCl (gW cs ad (s_rfetch σ a0 a1 a2) τ) t.heap; rw [ht9, es]; exact hP, hS.F ht9⟩) hS.2.2 dR_fetch_63
        · exact absurd (by decide) c_9
      · refine lv_iconst (v := 1) hx hb dR_fetch_24 (by decide) ?_
        refine lv_goto (tgt := 29) hx hb dR_fetch_25 (by decide) ?_
        refine lv_iconst (v := 0) hx hb dR_fetch_29 (by decide) ?_
        refine g_runR (v := .int (f_refuse σ  (1 : Int32) (0 : Int32))) (va_runV (C := RR) (As := [.int 1, .int 0]) (rest := []) ⟨hx, hb, hml, hown, hts⟩ (c_refuse l hinj σ τ _  (1 : Int32) (0 : Int32) ) (qV 2 ht tw_503 tw_505 ts_R_refuse tw_6 tk_R_refuse rfl rfl (by decide +kernel) ⟨(Nat.le_of_ble_eq_true rfl), (Nat.le_of_ble_eq_true rfl)⟩) (g_pv (ci := 5) hK hP (by decide) rfl kR rfl) rfl rfl hl.1 rfl (lv_room (Nat.le_of_ble_eq_true rfl)) dR_fetch_30 ⟨Nat.zero_le _, Nat.zero_le _⟩) hS (fun q _ h => gA_mono hS.1 q h) (fun q h => gA_mono hS.1 q h) (fun H locs hP hz hS => ?_)
        have hP : va_P D vwCl (gW cs ad (w2 σ 35 0 1) τ) H := by have h9 : va_P D vwCl (gW cs ad (s_refuse σ  (1 : Int32) (0 : Int32)) τ) H := hP; rw [srefuse_1] at h9; exact h9
        refine lv_topi (fun z_21 ez_21 => ?_)
        have ez_21 : z_21 = 1 := ez_21.trans frefuse_1
        subst ez_21
        refine lv_if_eq (tgt := 38) hx hb dR_fetch_33 (by decide) (fun c_22 => ?_) (fun c_22 => ?_)
        · exact absurd c_22 (by decide)
        · refine lv_iconst (v := 0) hx hb dR_fetch_36 (by decide) ?_
          have ev : f_rfetch σ a0 a1 a2 = 0 := by unfold f_rfetch; rw [if_neg c_1, if_neg c_4, if_neg c_7]
          have es : s_rfetch σ a0 a1 a2 = (w2 σ 35 0 (1 : Int32)) := by unfold s_rfetch; rw [if_neg c_1, if_neg c_4, if_neg c_7]
          exact W.iret (v := 0) hx hb hr (fun t ht9 hW => ⟨by rw [ev], by show va_P D vwCl (gW cs ad (s_rfetch σ a0 a1 a2) τ) t.heap; rw [ht9, es]; exact hP, hS.F ht9⟩) hS.2.2 dR_fetch_37
def f_rindex (σ : Nat → Nat → Int32)  (a0 : Int32) (a1 : Int32) (a2 : Int32) : Int32 :=
  if a1 < 0 then
    0
  else
    if a2 < 0 then
      0
    else
      if (f_in_ a0 (0 : Int32) (2 : Int32)) = 0 then
        0
      else
        if a0 = 0 then
          (f_wordAt (w2 σ 35 0 (0 : Int32))  ((a1.toInt64) + (a2.toInt64)))
        else
          if a0 = 1 then
            (f_halfAt (w2 σ 35 0 (0 : Int32))  ((a1.toInt64) + ((a2 / 2).toInt64)) (a2 - a2 / 2 * 2))
          else
            (f_byteAt (w2 σ 35 0 (0 : Int32))  ((a1.toInt64) + ((a2 / 4).toInt64)) (a2 - a2 / 4 * 4))
def s_rindex (σ : Nat → Nat → Int32)  (a0 : Int32) (a1 : Int32) (a2 : Int32) : Nat → Nat → Int32 :=
  if a1 < 0 then
    (w2 σ 35 0 (1 : Int32))
  else
    if a2 < 0 then
      (w2 σ 35 0 (1 : Int32))
    else
      if (f_in_ a0 (0 : Int32) (2 : Int32)) = 0 then
        (w2 σ 35 0 (1 : Int32))
      else
        if a0 = 0 then
          (w2 σ 35 0 (0 : Int32))
        else
          if a0 = 1 then
            (w2 σ 35 0 (0 : Int32))
          else
            (w2 σ 35 0 (0 : Int32))
set_option maxHeartbeats 4000000 in
set_option maxRecDepth 100000 in
theorem c_rindex (l : Launch) {D : va_G} {cs : Nat → ClassId} {ad : Nat → Nat} (hinj : gI ad) (σ : Nat → Nat → Int32) (τ : Nat → Nat → Int64) (sz : Nat)  (a0 : Int32) (a1 : Int32) (a2 : Int32) : Met l yR_index (wsB kR_index) ({ frames := 2, cells := 0, slots := 0, locals := 45 } : Room) (va_Pc [.ref (ad 35), .int a0, .int a1, .int a2] (gP D cs ad σ τ sz)) (gQ (some (.int (f_rindex σ a0 a1 a2))) (gB D cs ad (s_rindex σ a0 a1 a2) τ) (gA NC ad sz)) 0 0 (gA NC ad sz) := by
  refine Met.ofW (cc := cR_index) (maxL := 6) (ret := (some .int)) (by decide) rfl ?_
  intro p e s m args below meth c s₁ B hml hv
  obtain ⟨rfl, hsz, hP, hK⟩ := hv
  have hx := B.exec
  have hb := B.bytes
  have hr := B.returns
  have hts := atoms_spec (ws := wsB kR_index) B.pre
  have ht := hbig hts
  have hown : s.vm.findClass RR = some m.cls := findClass_of_methodNamed B.named
  have hlocks := B.notSynchronized
  subst hsz
  have hD : ∀ σ τ, va_D (gA NC ad s.heap.size) (gW cs ad σ τ) := fun _ _ => gw_D hinj (fun i h => gA_ad h)
  have hS : va_S (gA NC ad s.heap.size) s.heap s.heap [] := va_S.rf
  have hl := lv_entry ([.ref (ad 35), .int a0, .int a1, .int a2]) (n := 6) (Nat.le_of_ble_eq_true rfl)
  rw [lg_entry_eq]
  generalize (lg_sl ([.ref (ad 35), .int a0, .int a1, .int a2]) ++ List.replicate (6 - (lg_sl ([.ref (ad 35), .int a0, .int a1, .int a2])).length) Slot.unset).toArray = ls at hl ⊢
  have hl : lv_has ls 6 [(0, .ref (ad 35)), (1, .int a0), (2, .int a1), (3, .int a2)] := hl
  refine lv_aload_n hx hb dR_index_0 rfl (lv_at hl 0 rfl) ?_
  refine lv_iload_n hx hb dR_index_1 rfl (lv_at hl 2 rfl) ?_
  refine lv_if_lt (tgt := 18) hx hb dR_index_2 (by decide) (fun c_1 => ?_) (fun c_1 => ?_)
  · refine lv_iconst (v := 1) hx hb dR_index_18 (by decide) ?_
    refine lv_goto (tgt := 23) hx hb dR_index_19 (by decide) ?_
    refine lv_iconst (v := 0) hx hb dR_index_23 (by decide) ?_
    refine g_runR (v := .int (f_refuse σ  (1 : Int32) (0 : Int32))) (va_runV (C := RR) (As := [.int 1, .int 0]) (rest := []) ⟨hx, hb, hml, hown, hts⟩ (c_refuse l hinj σ τ _  (1 : Int32) (0 : Int32) ) (qV 2 ht tw_503 tw_505 ts_R_refuse tw_6 tk_R_refuse rfl rfl (by decide +kernel) ⟨(Nat.le_of_ble_eq_true rfl), (Nat.le_of_ble_eq_true rfl)⟩) (g_pv (ci := 5) hK hP (by decide) rfl kR rfl) rfl rfl hl.1 rfl (lv_room (Nat.le_of_ble_eq_true rfl)) dR_index_24 ⟨Nat.zero_le _, Nat.zero_le _⟩) hS (fun q _ h => gA_mono hS.1 q h) (fun q h => gA_mono hS.1 q h) (fun H locs hP hz hS => ?_)
    have hP : va_P D vwCl (gW cs ad (w2 σ 35 0 1) τ) H := by have h9 : va_P D vwCl (gW cs ad (s_refuse σ  (1 : Int32) (0 : Int32)) τ) H := hP; rw [srefuse_1] at h9; exact h9
    refine lv_topi (fun z_2 ez_2 => ?_)
    have ez_2 : z_2 = 1 := ez_2.trans frefuse_1
    subst ez_2
    refine lv_if_eq (tgt := 32) hx hb dR_index_27 (by decide) (fun c_3 => ?_) (fun c_3 => ?_)
    · exact absurd c_3 (by decide)
    · refine lv_iconst (v := 0) hx hb dR_index_30 (by decide) ?_
      have ev : f_rindex σ a0 a1 a2 = 0 := by unfold f_rindex; rw [if_pos c_1]
      have es : s_rindex σ a0 a1 a2 = (w2 σ 35 0 (1 : Int32)) := by unfold s_rindex; rw [if_pos c_1]
      exact W.iret (v := 0) hx hb hr (fun t ht9 hW => ⟨by rw [ev], by show va_P D vwCl (gW cs ad (s_rindex σ a0 a1 a2) τ) t.heap; rw [ht9, es]; exact hP, hS.F ht9⟩) hS.2.2 dR_index_31
  · refine lv_iload_n hx hb dR_index_5 rfl (lv_at hl 3 rfl) ?_
    refine lv_if_lt (tgt := 18) hx hb dR_index_6 (by decide) (fun c_4 => ?_) (fun c_4 => ?_)
    · refine lv_iconst (v := 1) hx hb dR_index_18 (by decide) ?_
      refine lv_goto (tgt := 23) hx hb dR_index_19 (by decide) ?_
      refine lv_iconst (v := 0) hx hb dR_index_23 (by decide) ?_
      refine g_runR (v := .int (f_refuse σ  (1 : Int32) (0 : Int32))) (va_runV (C := RR) (As := [.int 1, .int 0]) (rest := []) ⟨hx, hb, hml, hown, hts⟩ (c_refuse l hinj σ τ _  (1 : Int32) (0 : Int32) ) (qV 2 ht tw_503 tw_505 ts_R_refuse tw_6 tk_R_refuse rfl rfl (by decide +kernel) ⟨(Nat.le_of_ble_eq_true rfl), (Nat.le_of_ble_eq_true rfl)⟩) (g_pv (ci := 5) hK hP (by decide) rfl kR rfl) rfl rfl hl.1 rfl (lv_room (Nat.le_of_ble_eq_true rfl)) dR_index_24 ⟨Nat.zero_le _, Nat.zero_le _⟩) hS (fun q _ h => gA_mono hS.1 q h) (fun q h => gA_mono hS.1 q h) (fun H locs hP hz hS => ?_)
      have hP : va_P D vwCl (gW cs ad (w2 σ 35 0 1) τ) H := by have h9 : va_P D vwCl (gW cs ad (s_refuse σ  (1 : Int32) (0 : Int32)) τ) H := hP; rw [srefuse_1] at h9; exact h9
      refine lv_topi (fun z_5 ez_5 => ?_)
      have ez_5 : z_5 = 1 := ez_5.trans frefuse_1
      subst ez_5
      refine lv_if_eq (tgt := 32) hx hb dR_index_27 (by decide) (fun c_6 => ?_) (fun c_6 => ?_)
      · exact absurd c_6 (by decide)
      · refine lv_iconst (v := 0) hx hb dR_index_30 (by decide) ?_
        have ev : f_rindex σ a0 a1 a2 = 0 := by unfold f_rindex; rw [if_neg c_1, if_pos c_4]
        have es : s_rindex σ a0 a1 a2 = (w2 σ 35 0 (1 : Int32)) := by unfold s_rindex; rw [if_neg c_1, if_pos c_4]
        exact W.iret (v := 0) hx hb hr (fun t ht9 hW => ⟨by rw [ev], by show va_P D vwCl (gW cs ad (s_rindex σ a0 a1 a2) τ) t.heap; rw [ht9, es]; exact hP, hS.F ht9⟩) hS.2.2 dR_index_31
    · refine lv_iload_n hx hb dR_index_9 rfl (lv_at hl 1 rfl) ?_
      refine lv_iconst (v := 0) hx hb dR_index_10 (by decide) ?_
      refine lv_iconst (v := 2) hx hb dR_index_11 (by decide) ?_
      refine g_pure (v := .int (f_in_ a0 (0 : Int32) (2 : Int32))) (va_runS (As := [.int a0, .int 0, .int 2]) (rest := [.ref (ad 35)]) ⟨hx, hb, hml, hown, hts⟩ (c_in_ l a0 (0 : Int32) (2 : Int32)) (qS 3 ht tw_500 tw_501 tw_6 tk_R_in_ rfl rfl (by decide +kernel) ⟨(Nat.le_of_ble_eq_true rfl), (Nat.le_of_ble_eq_true rfl)⟩) g_pt rfl rfl hl.1 rfl (lv_room (Nat.le_of_ble_eq_true rfl)) dR_index_12 ⟨Nat.zero_le _, Nat.zero_le _⟩) ?_
      refine lv_if_ne (tgt := 22) hx hb dR_index_15 (by decide) (fun c_7 => ?_) (fun c_7 => ?_)
      · refine lv_iconst (v := 0) hx hb dR_index_22 (by decide) ?_
        refine lv_iconst (v := 0) hx hb dR_index_23 (by decide) ?_
        refine g_runR (v := .int (f_refuse σ  (0 : Int32) (0 : Int32))) (va_runV (C := RR) (As := [.int 0, .int 0]) (rest := []) ⟨hx, hb, hml, hown, hts⟩ (c_refuse l hinj σ τ _  (0 : Int32) (0 : Int32) ) (qV 2 ht tw_503 tw_505 ts_R_refuse tw_6 tk_R_refuse rfl rfl (by decide +kernel) ⟨(Nat.le_of_ble_eq_true rfl), (Nat.le_of_ble_eq_true rfl)⟩) (g_pv (ci := 5) hK hP (by decide) rfl kR rfl) rfl rfl hl.1 rfl (lv_room (Nat.le_of_ble_eq_true rfl)) dR_index_24 ⟨Nat.zero_le _, Nat.zero_le _⟩) hS (fun q _ h => gA_mono hS.1 q h) (fun q h => gA_mono hS.1 q h) (fun H locs hP hz hS => ?_)
        have hP : va_P D vwCl (gW cs ad (w2 σ 35 0 0) τ) H := by have h9 : va_P D vwCl (gW cs ad (s_refuse σ  (0 : Int32) (0 : Int32)) τ) H := hP; rw [srefuse_00] at h9; exact h9
        refine lv_topi (fun z_8 ez_8 => ?_)
        have ez_8 : z_8 = 0 := ez_8.trans frefuse_00
        subst ez_8
        refine lv_if_eq (tgt := 32) hx hb dR_index_27 (by decide) (fun c_9 => ?_) (fun c_9 => ?_)
        · refine lv_iload_n hx hb dR_index_32 rfl (lv_at hl 2 rfl) ?_
          refine lv_i2l hx hb dR_index_33 rfl ?_
          refine lv_lstore (lv' := [(4, .long (a1.toInt64)), (0, .ref (ad 35)), (1, .int a0), (2, .int a1), (3, .int a2)]) hx hb dR_index_34 hl (by decide) rfl (fun ls hl => ?_)
          refine lv_iload_n hx hb dR_index_36 rfl (lv_at hl 2 rfl) ?_
          refine lv_if_ne (tgt := 52) hx hb dR_index_37 (by decide) (fun c_10 => ?_) (fun c_10 => ?_)
          · refine lv_iload_n hx hb dR_index_52 rfl (lv_at hl 2 rfl) ?_
            refine lv_iconst (v := 1) hx hb dR_index_53 (by decide) ?_
            refine lv_icmp_ne (tgt := 74) hx hb dR_index_54 (by decide) (fun c_11 => ?_) (fun c_11 => ?_)
            · refine lv_aload_n hx hb dR_index_74 rfl (lv_at hl 1 rfl) ?_
              refine lv_lload hx hb dR_index_75 (lv_at hl 0 rfl) ?_
              refine lv_iload_n hx hb dR_index_77 rfl (lv_at hl 4 rfl) ?_
              refine lv_iconst (v := 4) hx hb dR_index_78 (by decide) ?_
              refine lv_idiv hx hb dR_index_79 (by decide) ?_
              refine lv_i2l hx hb dR_index_80 rfl ?_
              refine lv_ladd hx hb dR_index_81 ?_
              refine lv_iload_n hx hb dR_index_82 rfl (lv_at hl 4 rfl) ?_
              refine lv_iconst (v := 4) hx hb dR_index_83 (by decide) ?_
              refine lv_irem hx hb dR_index_84 (by decide) ?_
              refine g_pure (v := .int (f_byteAt (w2 σ 35 0 (0 : Int32))  ((a1.toInt64) + ((a2 / 4).toInt64)) (a2 - a2 / 4 * 4))) (va_runV (C := RR) (As := [.long ((a1.toInt64) + ((a2 / 4).toInt64)), .int (a2 - a2 / 4 * 4)]) (rest := []) ⟨hx, hb, hml, hown, hts⟩ (c_byteAt l hinj (w2 σ 35 0 (0 : Int32)) τ _  ((a1.toInt64) + ((a2 / 4).toInt64)) (a2 - a2 / 4 * 4) ) (qV 2 ht tw_521 tw_523 ts_R_byteAt tw_6 tk_R_byteAt rfl rfl (by decide +kernel) ⟨(Nat.le_of_ble_eq_true rfl), (Nat.le_of_ble_eq_true rfl)⟩) (g_pv (ci := 5) hK hP (by decide) rfl kR rfl) rfl rfl hl.1 rfl (lv_room (Nat.le_of_ble_eq_true rfl)) dR_index_85 ⟨Nat.zero_le _, Nat.zero_le _⟩) ?_
              have ev : f_rindex σ a0 a1 a2 = (f_byteAt (w2 σ 35 0 (0 : Int32))  ((a1.toInt64) + ((a2 / 4).toInt64)) (a2 - a2 / 4 * 4)) := by unfold f_rindex; rw [if_neg c_1, if_neg c_4, if_neg c_7, if_neg c_10, if_neg c_11]
              have es : s_rindex σ a0 a1 a2 = (w2 σ 35 0 (0 : Int32)) := by unfold s_rindex; rw [if_neg c_1, if_neg c_4, if_neg c_7, if_neg c_10, if_neg c_11]
              exact W.iret (v := (f_byteAt (w2 σ 35 0 (0 : Int32))  ((a1.toInt64) + ((a2 / 4).toInt64)) (a2 - a2 / 4 * 4))) hx hb hr (fun t ht9 hW => ⟨by rw [ev], by show va_P D vwCl (gW cs ad (s_rindex σ a0 a1 a2) τ) t.heap; rw [ht9, es]; exact hP, hS.F ht9⟩) hS.2.2 dR_index_88
            · refine lv_aload_n hx hb dR_index_57 rfl (lv_at hl 1 rfl) ?_
              refine lv_lload hx hb dR_index_58 (lv_at hl 0 rfl) ?_
              refine lv_iload_n hx hb dR_index_60 rfl (lv_at hl 4 rfl) ?_
              refine lv_iconst (v := 2) hx hb dR_index_61 (by decide) ?_
              refine lv_idiv hx hb dR_index_62 (by decide) ?_
              refine lv_i2l hx hb dR_index_63 rfl ?_
              refine lv_ladd hx hb dR_index_64 ?_
              refine lv_iload_n hx hb dR_index_65 rfl (lv_at hl 4 rfl) ?_
              refine lv_iconst (v := 2) hx hb dR_index_66 (by decide) ?_
              refine lv_irem hx hb dR_index_67 (by decide) ?_
              refine g_pure (v := .int (f_halfAt (w2 σ 35 0 (0 : Int32))  ((a1.toInt64) + ((a2 / 2).toInt64)) (a2 - a2 / 2 * 2))) (va_runV (C := RR) (As := [.long ((a1.toInt64) + ((a2 / 2).toInt64)), .int (a2 - a2 / 2 * 2)]) (rest := []) ⟨hx, hb, hml, hown, hts⟩ (c_halfAt l hinj (w2 σ 35 0 (0 : Int32)) τ _  ((a1.toInt64) + ((a2 / 2).toInt64)) (a2 - a2 / 2 * 2) ) (qV 2 ht tw_525 tw_527 ts_R_halfAt tw_6 tk_R_halfAt rfl rfl (by decide +kernel) ⟨(Nat.le_of_ble_eq_true rfl), (Nat.le_of_ble_eq_true rfl)⟩) (g_pv (ci := 5) hK hP (by decide) rfl kR rfl) rfl rfl hl.1 rfl (lv_room (Nat.le_of_ble_eq_true rfl)) dR_index_68 ⟨Nat.zero_le _, Nat.zero_le _⟩) ?_
              refine lv_goto (tgt := 88) hx hb dR_index_71 (by decide) ?_
              have ev : f_rindex σ a0 a1 a2 = (f_halfAt (w2 σ 35 0 (0 : Int32))  ((a1.toInt64) + ((a2 / 2).toInt64)) (a2 - a2 / 2 * 2)) := by unfold f_rindex; rw [if_neg c_1, if_neg c_4, if_neg c_7, if_neg c_10, if_pos c_11]
              have es : s_rindex σ a0 a1 a2 = (w2 σ 35 0 (0 : Int32)) := by unfold s_rindex; rw [if_neg c_1, if_neg c_4, if_neg c_7, if_neg c_10, if_pos c_11]
              exact W.iret (v := (f_halfAt (w2 σ 35 0 (0 : Int32))  ((a1.toInt64) + ((a2 / 2).toInt64)) (a2 - a2 / 2 * 2))) hx hb hr (fun t ht9 hW => ⟨by rw [ev], by show va_P D vwCl (gW cs ad (s_rindex σ a0 a1 a2) τ) t.heap; rw [ht9, es]; exact hP, hS.F ht9⟩) hS.2.2 dR_index_88
          · refine lv_aload_n hx hb dR_index_40 rfl (lv_at hl 1 rfl) ?_
            refine lv_lload hx hb dR_index_41 (lv_at hl 0 rfl) ?_
            refine lv_iload_n hx hb dR_index_43 rfl (lv_at hl 4 rfl) ?_
            refine lv_i2l hx hb dR_index_44 rfl ?_
            refine lv_ladd hx hb dR_index_45 ?_
            refine g_pure (v := .int (f_wordAt (w2 σ 35 0 (0 : Int32))  ((a1.toInt64) + (a2.toInt64)))) (va_runV (C := RR) (As := [.long ((a1.toInt64) + (a2.toInt64))]) (rest := []) ⟨hx, hb, hml, hown, hts⟩ (c_wordAt l hinj (w2 σ 35 0 (0 : Int32)) τ _  ((a1.toInt64) + (a2.toInt64)) ) (qV 1 ht tw_516 tw_518 ts_R_wordAt tw_6 tk_R_wordAt rfl rfl (by decide +kernel) ⟨(Nat.le_of_ble_eq_true rfl), (Nat.le_of_ble_eq_true rfl)⟩) (g_pv (ci := 5) hK hP (by decide) rfl kR rfl) rfl rfl hl.1 rfl (lv_room (Nat.le_of_ble_eq_true rfl)) dR_index_46 ⟨Nat.zero_le _, Nat.zero_le _⟩) ?_
            refine lv_goto (tgt := 88) hx hb dR_index_49 (by decide) ?_
            have ev : f_rindex σ a0 a1 a2 = (f_wordAt (w2 σ 35 0 (0 : Int32))  ((a1.toInt64) + (a2.toInt64))) := by unfold f_rindex; rw [if_neg c_1, if_neg c_4, if_neg c_7, if_pos c_10]
            have es : s_rindex σ a0 a1 a2 = (w2 σ 35 0 (0 : Int32)) := by unfold s_rindex; rw [if_neg c_1, if_neg c_4, if_neg c_7, if_pos c_10]
            exact W.iret (v := (f_wordAt (w2 σ 35 0 (0 : Int32))  ((a1.toInt64) + (a2.toInt64)))) hx hb hr (fun t ht9 hW => ⟨by rw [ev], by show va_P D vwCl (gW cs ad (s_rindex σ a0 a1 a2) τ) t.heap; rw [ht9, es]; exact hP, hS.F ht9⟩) hS.2.2 dR_index_88
        · exact absurd (by decide) c_9
      · refine lv_iconst (v := 1) hx hb dR_index_18 (by decide) ?_
        refine lv_goto (tgt := 23) hx hb dR_index_19 (by decide) ?_
        refine lv_iconst (v := 0) hx hb dR_index_23 (by decide) ?_
        refine g_runR (v := .int (f_refuse σ  (1 : Int32) (0 : Int32))) (va_runV (C := RR) (As := [.int 1, .int 0]) (rest := []) ⟨hx, hb, hml, hown, hts⟩ (c_refuse l hinj σ τ _  (1 : Int32) (0 : Int32) ) (qV 2 ht tw_503 tw_505 ts_R_refuse tw_6 tk_R_refuse rfl rfl (by decide +kernel) ⟨(Nat.le_of_ble_eq_true rfl), (Nat.le_of_ble_eq_true rfl)⟩) (g_pv (ci := 5) hK hP (by decide) rfl kR rfl) rfl rfl hl.1 rfl (lv_room (Nat.le_of_ble_eq_true rfl)) dR_index_24 ⟨Nat.zero_le _, Nat.zero_le _⟩) hS (fun q _ h => gA_mono hS.1 q h) (fun q h => gA_mono hS.1 q h) (fun H locs hP hz hS => ?_)
        have hP : va_P D vwCl (gW cs ad (w2 σ 35 0 1) τ) H := by have h9 : va_P D vwCl (gW cs ad (s_refuse σ  (1 : Int32) (0 : Int32)) τ) H := hP; rw [srefuse_1] at h9; exact h9
        refine lv_topi (fun z_12 ez_12 => ?_)
        have ez_12 : z_12 = 1 := ez_12.trans frefuse_1
        subst ez_12
        refine lv_if_eq (tgt := 32) hx hb dR_index_27 (by decide) (fun c_13 => ?_) (fun c_13 => ?_)
        · exact absurd c_13 (by decide)
        · refine lv_iconst (v := 0) hx hb dR_index_30 (by decide) ?_
          have ev : f_rindex σ a0 a1 a2 = 0 := by unfold f_rindex; rw [if_neg c_1, if_neg c_4, if_pos c_7]
          have es : s_rindex σ a0 a1 a2 = (w2 σ 35 0 (1 : Int32)) := by unfold s_rindex; rw [if_neg c_1, if_neg c_4, if_pos c_7]
          exact W.iret (v := 0) hx hb hr (fun t ht9 hW => ⟨by rw [ev], by show va_P D vwCl (gW cs ad (s_rindex σ a0 a1 a2) τ) t.heap; rw [ht9, es]; exact hP, hS.F ht9⟩) hS.2.2 dR_index_31
def f_rtriangles (σ : Nat → Nat → Int32)  (a0 : Int32) (a1 : Int32) : Int32 :=
  if (f_in_ a0 (0 : Int32) (2 : Int32)) = 0 then
    0
  else
    if 0 ≤ a1 then
      if a0 = 0 then
        (a1 / 3)
      else
        if (3 : Int32) ≤ a1 then
          (a1 - 2)
        else
          0
    else
      0
def s_rtriangles (σ : Nat → Nat → Int32)  (a0 : Int32) (a1 : Int32) : Nat → Nat → Int32 :=
  if (f_in_ a0 (0 : Int32) (2 : Int32)) = 0 then
    (w2 σ 35 0 (1 : Int32))
  else
    if 0 ≤ a1 then
      if a0 = 0 then
        (w2 σ 35 0 (0 : Int32))
      else
        if (3 : Int32) ≤ a1 then
          (w2 σ 35 0 (0 : Int32))
        else
          (w2 σ 35 0 (0 : Int32))
    else
      (w2 σ 35 0 (1 : Int32))
set_option maxHeartbeats 4000000 in
set_option maxRecDepth 100000 in
theorem c_rtriangles (l : Launch) {D : va_G} {cs : Nat → ClassId} {ad : Nat → Nat} (hinj : gI ad) (σ : Nat → Nat → Int32) (τ : Nat → Nat → Int64) (sz : Nat)  (a0 : Int32) (a1 : Int32) : Met l yR_triangles (wsB kR_triangles) ({ frames := 1, cells := 0, slots := 0, locals := 22 } : Room) (va_Pc [.ref (ad 35), .int a0, .int a1] (gP D cs ad σ τ sz)) (gQ (some (.int (f_rtriangles σ a0 a1))) (gB D cs ad (s_rtriangles σ a0 a1) τ) (gA NC ad sz)) 0 0 (gA NC ad sz) := by
  refine Met.ofW (cc := cR_triangles) (maxL := 3) (ret := (some .int)) (by decide) rfl ?_
  intro p e s m args below meth c s₁ B hml hv
  obtain ⟨rfl, hsz, hP, hK⟩ := hv
  have hx := B.exec
  have hb := B.bytes
  have hr := B.returns
  have hts := atoms_spec (ws := wsB kR_triangles) B.pre
  have ht := hbig hts
  have hown : s.vm.findClass RR = some m.cls := findClass_of_methodNamed B.named
  have hlocks := B.notSynchronized
  subst hsz
  have hD : ∀ σ τ, va_D (gA NC ad s.heap.size) (gW cs ad σ τ) := fun _ _ => gw_D hinj (fun i h => gA_ad h)
  have hS : va_S (gA NC ad s.heap.size) s.heap s.heap [] := va_S.rf
  have hl := lv_entry ([.ref (ad 35), .int a0, .int a1]) (n := 3) (Nat.le_of_ble_eq_true rfl)
  rw [lg_entry_eq]
  generalize (lg_sl ([.ref (ad 35), .int a0, .int a1]) ++ List.replicate (3 - (lg_sl ([.ref (ad 35), .int a0, .int a1])).length) Slot.unset).toArray = ls at hl ⊢
  have hl : lv_has ls 3 [(0, .ref (ad 35)), (1, .int a0), (2, .int a1)] := hl
  refine lv_aload_n hx hb dR_triangles_0 rfl (lv_at hl 0 rfl) ?_
  refine lv_iload_n hx hb dR_triangles_1 rfl (lv_at hl 1 rfl) ?_
  refine lv_iconst (v := 0) hx hb dR_triangles_2 (by decide) ?_
  refine lv_iconst (v := 2) hx hb dR_triangles_3 (by decide) ?_
  refine g_pure (v := .int (f_in_ a0 (0 : Int32) (2 : Int32))) (va_runS (As := [.int a0, .int 0, .int 2]) (rest := [.ref (ad 35)]) ⟨hx, hb, hml, hown, hts⟩ (c_in_ l a0 (0 : Int32) (2 : Int32)) (qS 3 ht tw_500 tw_501 tw_6 tk_R_in_ rfl rfl (by decide +kernel) ⟨(Nat.le_of_ble_eq_true rfl), (Nat.le_of_ble_eq_true rfl)⟩) g_pt rfl rfl hl.1 rfl (lv_room (Nat.le_of_ble_eq_true rfl)) dR_triangles_4 ⟨Nat.zero_le _, Nat.zero_le _⟩) ?_
  refine lv_if_eq (tgt := 14) hx hb dR_triangles_7 (by decide) (fun c_1 => ?_) (fun c_1 => ?_)
  · refine lv_iconst (v := 1) hx hb dR_triangles_14 (by decide) ?_
    refine lv_goto (tgt := 19) hx hb dR_triangles_15 (by decide) ?_
    refine lv_iconst (v := 0) hx hb dR_triangles_19 (by decide) ?_
    refine g_runR (v := .int (f_refuse σ  (1 : Int32) (0 : Int32))) (va_runV (C := RR) (As := [.int 1, .int 0]) (rest := []) ⟨hx, hb, hml, hown, hts⟩ (c_refuse l hinj σ τ _  (1 : Int32) (0 : Int32) ) (qV 2 ht tw_503 tw_505 ts_R_refuse tw_6 tk_R_refuse rfl rfl (by decide +kernel) ⟨(Nat.le_of_ble_eq_true rfl), (Nat.le_of_ble_eq_true rfl)⟩) (g_pv (ci := 5) hK hP (by decide) rfl kR rfl) rfl rfl hl.1 rfl (lv_room (Nat.le_of_ble_eq_true rfl)) dR_triangles_20 ⟨Nat.zero_le _, Nat.zero_le _⟩) hS (fun q _ h => gA_mono hS.1 q h) (fun q h => gA_mono hS.1 q h) (fun H locs hP hz hS => ?_)
    have hP : va_P D vwCl (gW cs ad (w2 σ 35 0 1) τ) H := by have h9 : va_P D vwCl (gW cs ad (s_refuse σ  (1 : Int32) (0 : Int32)) τ) H := hP; rw [srefuse_1] at h9; exact h9
    refine lv_topi (fun z_2 ez_2 => ?_)
    have ez_2 : z_2 = 1 := ez_2.trans frefuse_1
    subst ez_2
    refine lv_if_eq (tgt := 28) hx hb dR_triangles_23 (by decide) (fun c_3 => ?_) (fun c_3 => ?_)
    · exact absurd c_3 (by decide)
    · refine lv_iconst (v := 0) hx hb dR_triangles_26 (by decide) ?_
      have ev : f_rtriangles σ a0 a1 = 0 := by unfold f_rtriangles; rw [if_pos c_1]
      have es : s_rtriangles σ a0 a1 = (w2 σ 35 0 (1 : Int32)) := by unfold s_rtriangles; rw [if_pos c_1]
      exact W.iret (v := 0) hx hb hr (fun t ht9 hW => ⟨by rw [ev], by show va_P D vwCl (gW cs ad (s_rtriangles σ a0 a1) τ) t.heap; rw [ht9, es]; exact hP, hS.F ht9⟩) hS.2.2 dR_triangles_27
  · refine lv_iload_n hx hb dR_triangles_10 rfl (lv_at hl 2 rfl) ?_
    refine lv_if_ge (tgt := 18) hx hb dR_triangles_11 (by decide) (fun c_4 => ?_) (fun c_4 => ?_)
    · refine lv_iconst (v := 0) hx hb dR_triangles_18 (by decide) ?_
      refine lv_iconst (v := 0) hx hb dR_triangles_19 (by decide) ?_
      refine g_runR (v := .int (f_refuse σ  (0 : Int32) (0 : Int32))) (va_runV (C := RR) (As := [.int 0, .int 0]) (rest := []) ⟨hx, hb, hml, hown, hts⟩ (c_refuse l hinj σ τ _  (0 : Int32) (0 : Int32) ) (qV 2 ht tw_503 tw_505 ts_R_refuse tw_6 tk_R_refuse rfl rfl (by decide +kernel) ⟨(Nat.le_of_ble_eq_true rfl), (Nat.le_of_ble_eq_true rfl)⟩) (g_pv (ci := 5) hK hP (by decide) rfl kR rfl) rfl rfl hl.1 rfl (lv_room (Nat.le_of_ble_eq_true rfl)) dR_triangles_20 ⟨Nat.zero_le _, Nat.zero_le _⟩) hS (fun q _ h => gA_mono hS.1 q h) (fun q h => gA_mono hS.1 q h) (fun H locs hP hz hS => ?_)
      have hP : va_P D vwCl (gW cs ad (w2 σ 35 0 0) τ) H := by have h9 : va_P D vwCl (gW cs ad (s_refuse σ  (0 : Int32) (0 : Int32)) τ) H := hP; rw [srefuse_00] at h9; exact h9
      refine lv_topi (fun z_5 ez_5 => ?_)
      have ez_5 : z_5 = 0 := ez_5.trans frefuse_00
      subst ez_5
      refine lv_if_eq (tgt := 28) hx hb dR_triangles_23 (by decide) (fun c_6 => ?_) (fun c_6 => ?_)
      · refine lv_iload_n hx hb dR_triangles_28 rfl (lv_at hl 1 rfl) ?_
        refine lv_if_ne (tgt := 38) hx hb dR_triangles_29 (by decide) (fun c_7 => ?_) (fun c_7 => ?_)
        · refine lv_iload_n hx hb dR_triangles_38 rfl (lv_at hl 2 rfl) ?_
          refine lv_iconst (v := 3) hx hb dR_triangles_39 (by decide) ?_
          refine lv_icmp_ge (tgt := 47) hx hb dR_triangles_40 (by decide) (fun c_8 => ?_) (fun c_8 => ?_)
          · refine lv_iload_n hx hb dR_triangles_47 rfl (lv_at hl 2 rfl) ?_
            refine lv_iconst (v := 2) hx hb dR_triangles_48 (by decide) ?_
            refine lv_isub hx hb dR_triangles_49 ?_
            have ev : f_rtriangles σ a0 a1 = (a1 - 2) := by unfold f_rtriangles; rw [if_neg c_1, if_pos c_4, if_neg c_7, if_pos c_8]
            have es : s_rtriangles σ a0 a1 = (w2 σ 35 0 (0 : Int32)) := by unfold s_rtriangles; rw [if_neg c_1, if_pos c_4, if_neg c_7, if_pos c_8]
            exact W.iret (v := (a1 - 2)) hx hb hr (fun t ht9 hW => ⟨by rw [ev], by show va_P D vwCl (gW cs ad (s_rtriangles σ a0 a1) τ) t.heap; rw [ht9, es]; exact hP, hS.F ht9⟩) hS.2.2 dR_triangles_50
          · refine lv_iconst (v := 0) hx hb dR_triangles_43 (by decide) ?_
            refine lv_goto (tgt := 50) hx hb dR_triangles_44 (by decide) ?_
            have ev : f_rtriangles σ a0 a1 = 0 := by unfold f_rtriangles; rw [if_neg c_1, if_pos c_4, if_neg c_7, if_neg c_8]
            have es : s_rtriangles σ a0 a1 = (w2 σ 35 0 (0 : Int32)) := by unfold s_rtriangles; rw [if_neg c_1, if_pos c_4, if_neg c_7, if_neg c_8]
            exact W.iret (v := 0) hx hb hr (fun t ht9 hW => ⟨by rw [ev], by show va_P D vwCl (gW cs ad (s_rtriangles σ a0 a1) τ) t.heap; rw [ht9, es]; exact hP, hS.F ht9⟩) hS.2.2 dR_triangles_50
        · refine lv_iload_n hx hb dR_triangles_32 rfl (lv_at hl 2 rfl) ?_
          refine lv_iconst (v := 3) hx hb dR_triangles_33 (by decide) ?_
          refine lv_idiv hx hb dR_triangles_34 (by decide) ?_
          refine lv_goto (tgt := 50) hx hb dR_triangles_35 (by decide) ?_
          have ev : f_rtriangles σ a0 a1 = (a1 / 3) := by unfold f_rtriangles; rw [if_neg c_1, if_pos c_4, if_pos c_7]
          have es : s_rtriangles σ a0 a1 = (w2 σ 35 0 (0 : Int32)) := by unfold s_rtriangles; rw [if_neg c_1, if_pos c_4, if_pos c_7]
          exact W.iret (v := (a1 / 3)) hx hb hr (fun t ht9 hW => ⟨by rw [ev], by show va_P D vwCl (gW cs ad (s_rtriangles σ a0 a1) τ) t.heap; rw [ht9, es]; exact hP, hS.F ht9⟩) hS.2.2 dR_triangles_50
      · exact absurd (by decide) c_6
    · refine lv_iconst (v := 1) hx hb dR_triangles_14 (by decide) ?_
      refine lv_goto (tgt := 19) hx hb dR_triangles_15 (by decide) ?_
      refine lv_iconst (v := 0) hx hb dR_triangles_19 (by decide) ?_
      refine g_runR (v := .int (f_refuse σ  (1 : Int32) (0 : Int32))) (va_runV (C := RR) (As := [.int 1, .int 0]) (rest := []) ⟨hx, hb, hml, hown, hts⟩ (c_refuse l hinj σ τ _  (1 : Int32) (0 : Int32) ) (qV 2 ht tw_503 tw_505 ts_R_refuse tw_6 tk_R_refuse rfl rfl (by decide +kernel) ⟨(Nat.le_of_ble_eq_true rfl), (Nat.le_of_ble_eq_true rfl)⟩) (g_pv (ci := 5) hK hP (by decide) rfl kR rfl) rfl rfl hl.1 rfl (lv_room (Nat.le_of_ble_eq_true rfl)) dR_triangles_20 ⟨Nat.zero_le _, Nat.zero_le _⟩) hS (fun q _ h => gA_mono hS.1 q h) (fun q h => gA_mono hS.1 q h) (fun H locs hP hz hS => ?_)
      have hP : va_P D vwCl (gW cs ad (w2 σ 35 0 1) τ) H := by have h9 : va_P D vwCl (gW cs ad (s_refuse σ  (1 : Int32) (0 : Int32)) τ) H := hP; rw [srefuse_1] at h9; exact h9
      refine lv_topi (fun z_9 ez_9 => ?_)
      have ez_9 : z_9 = 1 := ez_9.trans frefuse_1
      subst ez_9
      refine lv_if_eq (tgt := 28) hx hb dR_triangles_23 (by decide) (fun c_10 => ?_) (fun c_10 => ?_)
      · exact absurd c_10 (by decide)
      · refine lv_iconst (v := 0) hx hb dR_triangles_26 (by decide) ?_
        have ev : f_rtriangles σ a0 a1 = 0 := by unfold f_rtriangles; rw [if_neg c_1, if_neg c_4]
        have es : s_rtriangles σ a0 a1 = (w2 σ 35 0 (1 : Int32)) := by unfold s_rtriangles; rw [if_neg c_1, if_neg c_4]
        exact W.iret (v := 0) hx hb hr (fun t ht9 hW => ⟨by rw [ev], by show va_P D vwCl (gW cs ad (s_rtriangles σ a0 a1) τ) t.heap; rw [ht9, es]; exact hP, hS.F ht9⟩) hS.2.2 dR_triangles_27
def f_rcorner (σ : Nat → Nat → Int32)  (a0 : Int32) (a1 : Int32) (a2 : Int32) : Int32 :=
  if (f_in_ a0 (0 : Int32) (2 : Int32)) = 0 then
    0
  else
    if (f_in_ a1 (0 : Int32) (100000000 : Int32)) = 0 then
      0
    else
      if (f_in_ a2 (0 : Int32) (2 : Int32)) = 0 then
        0
      else
        if a0 = 0 then
          ((3 * a1) + a2)
        else
          if a0 = 2 then
            if a2 = 0 then
              0
            else
              (a1 + a2)
          else
            if (a1 - a1 / 2 * 2) = 1 then
              if (2 : Int32) ≤ a2 then
                (a1 + a2)
              else
                ((a1 + 1) - a2)
            else
              (a1 + a2)
def s_rcorner (σ : Nat → Nat → Int32)  (a0 : Int32) (a1 : Int32) (a2 : Int32) : Nat → Nat → Int32 :=
  if (f_in_ a0 (0 : Int32) (2 : Int32)) = 0 then
    (w2 σ 35 0 (1 : Int32))
  else
    if (f_in_ a1 (0 : Int32) (100000000 : Int32)) = 0 then
      (w2 σ 35 0 (1 : Int32))
    else
      if (f_in_ a2 (0 : Int32) (2 : Int32)) = 0 then
        (w2 σ 35 0 (1 : Int32))
      else
        if a0 = 0 then
          (w2 σ 35 0 (0 : Int32))
        else
          if a0 = 2 then
            if a2 = 0 then
              (w2 σ 35 0 (0 : Int32))
            else
              (w2 σ 35 0 (0 : Int32))
          else
            if (a1 - a1 / 2 * 2) = 1 then
              if (2 : Int32) ≤ a2 then
                (w2 σ 35 0 (0 : Int32))
              else
                (w2 σ 35 0 (0 : Int32))
            else
              (w2 σ 35 0 (0 : Int32))
set_option maxHeartbeats 4000000 in
set_option maxRecDepth 100000 in
theorem c_rcorner (l : Launch) {D : va_G} {cs : Nat → ClassId} {ad : Nat → Nat} (hinj : gI ad) (σ : Nat → Nat → Int32) (τ : Nat → Nat → Int64) (sz : Nat)  (a0 : Int32) (a1 : Int32) (a2 : Int32) : Met l yR_corner (wsB kR_corner) ({ frames := 1, cells := 0, slots := 0, locals := 22 } : Room) (va_Pc [.ref (ad 35), .int a0, .int a1, .int a2] (gP D cs ad σ τ sz)) (gQ (some (.int (f_rcorner σ a0 a1 a2))) (gB D cs ad (s_rcorner σ a0 a1 a2) τ) (gA NC ad sz)) 0 0 (gA NC ad sz) := by
  refine Met.ofW (cc := cR_corner) (maxL := 5) (ret := (some .int)) (by decide) rfl ?_
  intro p e s m args below meth c s₁ B hml hv
  obtain ⟨rfl, hsz, hP, hK⟩ := hv
  have hx := B.exec
  have hb := B.bytes
  have hr := B.returns
  have hts := atoms_spec (ws := wsB kR_corner) B.pre
  have ht := hbig hts
  have hown : s.vm.findClass RR = some m.cls := findClass_of_methodNamed B.named
  have hlocks := B.notSynchronized
  subst hsz
  have hD : ∀ σ τ, va_D (gA NC ad s.heap.size) (gW cs ad σ τ) := fun _ _ => gw_D hinj (fun i h => gA_ad h)
  have hS : va_S (gA NC ad s.heap.size) s.heap s.heap [] := va_S.rf
  have hl := lv_entry ([.ref (ad 35), .int a0, .int a1, .int a2]) (n := 5) (Nat.le_of_ble_eq_true rfl)
  rw [lg_entry_eq]
  generalize (lg_sl ([.ref (ad 35), .int a0, .int a1, .int a2]) ++ List.replicate (5 - (lg_sl ([.ref (ad 35), .int a0, .int a1, .int a2])).length) Slot.unset).toArray = ls at hl ⊢
  have hl : lv_has ls 5 [(0, .ref (ad 35)), (1, .int a0), (2, .int a1), (3, .int a2)] := hl
  refine lv_aload_n hx hb dR_corner_0 rfl (lv_at hl 0 rfl) ?_
  refine lv_iload_n hx hb dR_corner_1 rfl (lv_at hl 1 rfl) ?_
  refine lv_iconst (v := 0) hx hb dR_corner_2 (by decide) ?_
  refine lv_iconst (v := 2) hx hb dR_corner_3 (by decide) ?_
  refine g_pure (v := .int (f_in_ a0 (0 : Int32) (2 : Int32))) (va_runS (As := [.int a0, .int 0, .int 2]) (rest := [.ref (ad 35)]) ⟨hx, hb, hml, hown, hts⟩ (c_in_ l a0 (0 : Int32) (2 : Int32)) (qS 3 ht tw_500 tw_501 tw_6 tk_R_in_ rfl rfl (by decide +kernel) ⟨(Nat.le_of_ble_eq_true rfl), (Nat.le_of_ble_eq_true rfl)⟩) g_pt rfl rfl hl.1 rfl (lv_room (Nat.le_of_ble_eq_true rfl)) dR_corner_4 ⟨Nat.zero_le _, Nat.zero_le _⟩) ?_
  refine lv_if_eq (tgt := 29) hx hb dR_corner_7 (by decide) (fun c_1 => ?_) (fun c_1 => ?_)
  · refine lv_iconst (v := 1) hx hb dR_corner_29 (by decide) ?_
    refine lv_goto (tgt := 34) hx hb dR_corner_30 (by decide) ?_
    refine lv_iconst (v := 0) hx hb dR_corner_34 (by decide) ?_
    refine g_runR (v := .int (f_refuse σ  (1 : Int32) (0 : Int32))) (va_runV (C := RR) (As := [.int 1, .int 0]) (rest := []) ⟨hx, hb, hml, hown, hts⟩ (c_refuse l hinj σ τ _  (1 : Int32) (0 : Int32) ) (qV 2 ht tw_503 tw_505 ts_R_refuse tw_6 tk_R_refuse rfl rfl (by decide +kernel) ⟨(Nat.le_of_ble_eq_true rfl), (Nat.le_of_ble_eq_true rfl)⟩) (g_pv (ci := 5) hK hP (by decide) rfl kR rfl) rfl rfl hl.1 rfl (lv_room (Nat.le_of_ble_eq_true rfl)) dR_corner_35 ⟨Nat.zero_le _, Nat.zero_le _⟩) hS (fun q _ h => gA_mono hS.1 q h) (fun q h => gA_mono hS.1 q h) (fun H locs hP hz hS => ?_)
    have hP : va_P D vwCl (gW cs ad (w2 σ 35 0 1) τ) H := by have h9 : va_P D vwCl (gW cs ad (s_refuse σ  (1 : Int32) (0 : Int32)) τ) H := hP; rw [srefuse_1] at h9; exact h9
    refine lv_topi (fun z_2 ez_2 => ?_)
    have ez_2 : z_2 = 1 := ez_2.trans frefuse_1
    subst ez_2
    refine lv_if_eq (tgt := 43) hx hb dR_corner_38 (by decide) (fun c_3 => ?_) (fun c_3 => ?_)
    · exact absurd c_3 (by decide)
    · refine lv_iconst (v := 0) hx hb dR_corner_41 (by decide) ?_
      have ev : f_rcorner σ a0 a1 a2 = 0 := by unfold f_rcorner; rw [if_pos c_1]
      have es : s_rcorner σ a0 a1 a2 = (w2 σ 35 0 (1 : Int32)) := by unfold s_rcorner; rw [if_pos c_1]
      exact W.iret (v := 0) hx hb hr (fun t ht9 hW => ⟨by rw [ev], by show va_P D vwCl (gW cs ad (s_rcorner σ a0 a1 a2) τ) t.heap; rw [ht9, es]; exact hP, hS.F ht9⟩) hS.2.2 dR_corner_42
  · refine lv_iload_n hx hb dR_corner_10 rfl (lv_at hl 2 rfl) ?_
    refine lv_iconst (v := 0) hx hb dR_corner_11 (by decide) ?_
    refine lv_ldc (v := 100000000) hx hb hown (ht _ tw_542) dR_corner_12 ?_
    refine g_pure (v := .int (f_in_ a1 (0 : Int32) (100000000 : Int32))) (va_runS (As := [.int a1, .int 0, .int 100000000]) (rest := [.ref (ad 35)]) ⟨hx, hb, hml, hown, hts⟩ (c_in_ l a1 (0 : Int32) (100000000 : Int32)) (qS 3 ht tw_500 tw_501 tw_6 tk_R_in_ rfl rfl (by decide +kernel) ⟨(Nat.le_of_ble_eq_true rfl), (Nat.le_of_ble_eq_true rfl)⟩) g_pt rfl rfl hl.1 rfl (lv_room (Nat.le_of_ble_eq_true rfl)) dR_corner_14 ⟨Nat.zero_le _, Nat.zero_le _⟩) ?_
    refine lv_if_eq (tgt := 29) hx hb dR_corner_17 (by decide) (fun c_4 => ?_) (fun c_4 => ?_)
    · refine lv_iconst (v := 1) hx hb dR_corner_29 (by decide) ?_
      refine lv_goto (tgt := 34) hx hb dR_corner_30 (by decide) ?_
      refine lv_iconst (v := 0) hx hb dR_corner_34 (by decide) ?_
      refine g_runR (v := .int (f_refuse σ  (1 : Int32) (0 : Int32))) (va_runV (C := RR) (As := [.int 1, .int 0]) (rest := []) ⟨hx, hb, hml, hown, hts⟩ (c_refuse l hinj σ τ _  (1 : Int32) (0 : Int32) ) (qV 2 ht tw_503 tw_505 ts_R_refuse tw_6 tk_R_refuse rfl rfl (by decide +kernel) ⟨(Nat.le_of_ble_eq_true rfl), (Nat.le_of_ble_eq_true rfl)⟩) (g_pv (ci := 5) hK hP (by decide) rfl kR rfl) rfl rfl hl.1 rfl (lv_room (Nat.le_of_ble_eq_true rfl)) dR_corner_35 ⟨Nat.zero_le _, Nat.zero_le _⟩) hS (fun q _ h => gA_mono hS.1 q h) (fun q h => gA_mono hS.1 q h) (fun H locs hP hz hS => ?_)
      have hP : va_P D vwCl (gW cs ad (w2 σ 35 0 1) τ) H := by have h9 : va_P D vwCl (gW cs ad (s_refuse σ  (1 : Int32) (0 : Int32)) τ) H := hP; rw [srefuse_1] at h9; exact h9
      refine lv_topi (fun z_5 ez_5 => ?_)
      have ez_5 : z_5 = 1 := ez_5.trans frefuse_1
      subst ez_5
      refine lv_if_eq (tgt := 43) hx hb dR_corner_38 (by decide) (fun c_6 => ?_) (fun c_6 => ?_)
      · exact absurd c_6 (by decide)
      · refine lv_iconst (v := 0) hx hb dR_corner_41 (by decide) ?_
        have ev : f_rcorner σ a0 a1 a2 = 0 := by unfold f_rcorner; rw [if_neg c_1, if_pos c_4]
        have es : s_rcorner σ a0 a1 a2 = (w2 σ 35 0 (1 : Int32)) := by unfold s_rcorner; rw [if_neg c_1, if_pos c_4]
        exact W.iret (v := 0) hx hb hr (fun t ht9 hW => ⟨by rw [ev], by show va_P D vwCl (gW cs ad (s_rcorner σ a0 a1 a2) τ) t.heap; rw [ht9, es]; exact hP, hS.F ht9⟩) hS.2.2 dR_corner_42
    · refine lv_iload_n hx hb dR_corner_20 rfl (lv_at hl 3 rfl) ?_
      refine lv_iconst (v := 0) hx hb dR_corner_21 (by decide) ?_
      refine lv_iconst (v := 2) hx hb dR_corner_22 (by decide) ?_
      refine g_pure (v := .int (f_in_ a2 (0 : Int32) (2 : Int32))) (va_runS (As := [.int a2, .int 0, .int 2]) (rest := [.ref (ad 35)]) ⟨hx, hb, hml, hown, hts⟩ (c_in_ l a2 (0 : Int32) (2 : Int32)) (qS 3 ht tw_500 tw_501 tw_6 tk_R_in_ rfl rfl (by decide +kernel) ⟨(Nat.le_of_ble_eq_true rfl), (Nat.le_of_ble_eq_true rfl)⟩) g_pt rfl rfl hl.1 rfl (lv_room (Nat.le_of_ble_eq_true rfl)) dR_corner_23 ⟨Nat.zero_le _, Nat.zero_le _⟩) ?_
      refine lv_if_ne (tgt := 33) hx hb dR_corner_26 (by decide) (fun c_7 => ?_) (fun c_7 => ?_)
      · refine lv_iconst (v := 0) hx hb dR_corner_33 (by decide) ?_
        refine lv_iconst (v := 0) hx hb dR_corner_34 (by decide) ?_
        refine g_runR (v := .int (f_refuse σ  (0 : Int32) (0 : Int32))) (va_runV (C := RR) (As := [.int 0, .int 0]) (rest := []) ⟨hx, hb, hml, hown, hts⟩ (c_refuse l hinj σ τ _  (0 : Int32) (0 : Int32) ) (qV 2 ht tw_503 tw_505 ts_R_refuse tw_6 tk_R_refuse rfl rfl (by decide +kernel) ⟨(Nat.le_of_ble_eq_true rfl), (Nat.le_of_ble_eq_true rfl)⟩) (g_pv (ci := 5) hK hP (by decide) rfl kR rfl) rfl rfl hl.1 rfl (lv_room (Nat.le_of_ble_eq_true rfl)) dR_corner_35 ⟨Nat.zero_le _, Nat.zero_le _⟩) hS (fun q _ h => gA_mono hS.1 q h) (fun q h => gA_mono hS.1 q h) (fun H locs hP hz hS => ?_)
        have hP : va_P D vwCl (gW cs ad (w2 σ 35 0 0) τ) H := by have h9 : va_P D vwCl (gW cs ad (s_refuse σ  (0 : Int32) (0 : Int32)) τ) H := hP; rw [srefuse_00] at h9; exact h9
        refine lv_topi (fun z_8 ez_8 => ?_)
        have ez_8 : z_8 = 0 := ez_8.trans frefuse_00
        subst ez_8
        refine lv_if_eq (tgt := 43) hx hb dR_corner_38 (by decide) (fun c_9 => ?_) (fun c_9 => ?_)
        · refine lv_iload_n hx hb dR_corner_43 rfl (lv_at hl 1 rfl) ?_
          refine lv_if_ne (tgt := 53) hx hb dR_corner_44 (by decide) (fun c_10 => ?_) (fun c_10 => ?_)
          · refine lv_iload_n hx hb dR_corner_53 rfl (lv_at hl 1 rfl) ?_
            refine lv_iconst (v := 2) hx hb dR_corner_54 (by decide) ?_
            refine lv_icmp_ne (tgt := 70) hx hb dR_corner_55 (by decide) (fun c_11 => ?_) (fun c_11 => ?_)
            · refine lv_iload_n hx hb dR_corner_70 rfl (lv_at hl 2 rfl) ?_
              refine lv_iconst (v := 2) hx hb dR_corner_71 (by decide) ?_
              refine lv_irem hx hb dR_corner_72 (by decide) ?_
              refine lv_iconst (v := 1) hx hb dR_corner_73 (by decide) ?_
              refine lv_icmp_ne (tgt := 86) hx hb dR_corner_74 (by decide) (fun c_12 => ?_) (fun c_12 => ?_)
              · refine lv_iconst (v := 0) hx hb dR_corner_86 (by decide) ?_
                refine lv_istore (lv' := [(4, .int 0), (0, .ref (ad 35)), (1, .int a0), (2, .int a1), (3, .int a2)]) hx hb dR_corner_87 hl (by decide) rfl (fun ls hl => ?_)
                refine lv_iload hx hb dR_corner_89 (lv_at hl 0 rfl) ?_
                refine lv_if_eq (tgt := 102) hx hb dR_corner_91 (by decide) (fun c_13 => ?_) (fun c_13 => ?_)
                · refine lv_iload_n hx hb dR_corner_102 rfl (lv_at hl 3 rfl) ?_
                  refine lv_iload_n hx hb dR_corner_103 rfl (lv_at hl 4 rfl) ?_
                  refine lv_iadd hx hb dR_corner_104 ?_
                  have ev : f_rcorner σ a0 a1 a2 = (a1 + a2) := by unfold f_rcorner; rw [if_neg c_1, if_neg c_4, if_neg c_7, if_neg c_10, if_neg c_11, if_neg c_12]
                  have es : s_rcorner σ a0 a1 a2 = (w2 σ 35 0 (0 : Int32)) := by unfold s_rcorner; rw [if_neg c_1, if_neg c_4, if_neg c_7, if_neg c_10, if_neg c_11, if_neg c_12]
                  exact W.iret (v := (a1 + a2)) hx hb hr (fun t ht9 hW => ⟨by rw [ev], by show va_P D vwCl (gW cs ad (s_rcorner σ a0 a1 a2) τ) t.heap; rw [ht9, es]; exact hP, hS.F ht9⟩) hS.2.2 dR_corner_105
                · exact absurd (by decide) c_13
              · refine lv_iload_n hx hb dR_corner_77 rfl (lv_at hl 3 rfl) ?_
                refine lv_iconst (v := 2) hx hb dR_corner_78 (by decide) ?_
                refine lv_icmp_ge (tgt := 86) hx hb dR_corner_79 (by decide) (fun c_14 => ?_) (fun c_14 => ?_)
                · refine lv_iconst (v := 0) hx hb dR_corner_86 (by decide) ?_
                  refine lv_istore (lv' := [(4, .int 0), (0, .ref (ad 35)), (1, .int a0), (2, .int a1), (3, .int a2)]) hx hb dR_corner_87 hl (by decide) rfl (fun ls hl => ?_)
                  refine lv_iload hx hb dR_corner_89 (lv_at hl 0 rfl) ?_
                  refine lv_if_eq (tgt := 102) hx hb dR_corner_91 (by decide) (fun c_15 => ?_) (fun c_15 => ?_)
                  · refine lv_iload_n hx hb dR_corner_102 rfl (lv_at hl 3 rfl) ?_
                    refine lv_iload_n hx hb dR_corner_103 rfl (lv_at hl 4 rfl) ?_
                    refine lv_iadd hx hb dR_corner_104 ?_
                    have ev : f_rcorner σ a0 a1 a2 = (a1 + a2) := by unfold f_rcorner; rw [if_neg c_1, if_neg c_4, if_neg c_7, if_neg c_10, if_neg c_11, if_pos c_12, if_pos c_14]
                    have es : s_rcorner σ a0 a1 a2 = (w2 σ 35 0 (0 : Int32)) := by unfold s_rcorner; rw [if_neg c_1, if_neg c_4, if_neg c_7, if_neg c_10, if_neg c_11, if_pos c_12, if_pos c_14]
                    exact W.iret (v := (a1 + a2)) hx hb hr (fun t ht9 hW => ⟨by rw [ev], by show va_P D vwCl (gW cs ad (s_rcorner σ a0 a1 a2) τ) t.heap; rw [ht9, es]; exact hP, hS.F ht9⟩) hS.2.2 dR_corner_105
                  · exact absurd (by decide) c_15
                · refine lv_iconst (v := 1) hx hb dR_corner_82 (by decide) ?_
                  refine lv_goto (tgt := 87) hx hb dR_corner_83 (by decide) ?_
                  refine lv_istore (lv' := [(4, .int 1), (0, .ref (ad 35)), (1, .int a0), (2, .int a1), (3, .int a2)]) hx hb dR_corner_87 hl (by decide) rfl (fun ls hl => ?_)
                  refine lv_iload hx hb dR_corner_89 (lv_at hl 0 rfl) ?_
                  refine lv_if_eq (tgt := 102) hx hb dR_corner_91 (by decide) (fun c_16 => ?_) (fun c_16 => ?_)
                  · exact absurd c_16 (by decide)
                  · refine lv_iload_n hx hb dR_corner_94 rfl (lv_at hl 3 rfl) ?_
                    refine lv_iconst (v := 1) hx hb dR_corner_95 (by decide) ?_
                    refine lv_iadd hx hb dR_corner_96 ?_
                    refine lv_iload_n hx hb dR_corner_97 rfl (lv_at hl 4 rfl) ?_
                    refine lv_isub hx hb dR_corner_98 ?_
                    refine lv_goto (tgt := 105) hx hb dR_corner_99 (by decide) ?_
                    have ev : f_rcorner σ a0 a1 a2 = ((a1 + 1) - a2) := by unfold f_rcorner; rw [if_neg c_1, if_neg c_4, if_neg c_7, if_neg c_10, if_neg c_11, if_pos c_12, if_neg c_14]
                    have es : s_rcorner σ a0 a1 a2 = (w2 σ 35 0 (0 : Int32)) := by unfold s_rcorner; rw [if_neg c_1, if_neg c_4, if_neg c_7, if_neg c_10, if_neg c_11, if_pos c_12, if_neg c_14]
                    exact W.iret (v := ((a1 + 1) - a2)) hx hb hr (fun t ht9 hW => ⟨by rw [ev], by show va_P D vwCl (gW cs ad (s_rcorner σ a0 a1 a2) τ) t.heap; rw [ht9, es]; exact hP, hS.F ht9⟩) hS.2.2 dR_corner_105
            · refine lv_iload_n hx hb dR_corner_58 rfl (lv_at hl 3 rfl) ?_
              refine lv_if_ne (tgt := 66) hx hb dR_corner_59 (by decide) (fun c_17 => ?_) (fun c_17 => ?_)
              · refine lv_iload_n hx hb dR_corner_66 rfl (lv_at hl 2 rfl) ?_
                refine lv_iload_n hx hb dR_corner_67 rfl (lv_at hl 3 rfl) ?_
                refine lv_iadd hx hb dR_corner_68 ?_
                have ev : f_rcorner σ a0 a1 a2 = (a1 + a2) := by unfold f_rcorner; rw [if_neg c_1, if_neg c_4, if_neg c_7, if_neg c_10, if_pos c_11, if_neg c_17]
                have es : s_rcorner σ a0 a1 a2 = (w2 σ 35 0 (0 : Int32)) := by unfold s_rcorner; rw [if_neg c_1, if_neg c_4, if_neg c_7, if_neg c_10, if_pos c_11, if_neg c_17]
                exact W.iret (v := (a1 + a2)) hx hb hr (fun t ht9 hW => ⟨by rw [ev], by show va_P D vwCl (gW cs ad (s_rcorner σ a0 a1 a2) τ) t.heap; rw [ht9, es]; exact hP, hS.F ht9⟩) hS.2.2 dR_corner_69
              · refine lv_iconst (v := 0) hx hb dR_corner_62 (by decide) ?_
                refine lv_goto (tgt := 69) hx hb dR_corner_63 (by decide) ?_
                have ev : f_rcorner σ a0 a1 a2 = 0 := by unfold f_rcorner; rw [if_neg c_1, if_neg c_4, if_neg c_7, if_neg c_10, if_pos c_11, if_pos c_17]
                have es : s_rcorner σ a0 a1 a2 = (w2 σ 35 0 (0 : Int32)) := by unfold s_rcorner; rw [if_neg c_1, if_neg c_4, if_neg c_7, if_neg c_10, if_pos c_11, if_pos c_17]
                exact W.iret (v := 0) hx hb hr (fun t ht9 hW => ⟨by rw [ev], by show va_P D vwCl (gW cs ad (s_rcorner σ a0 a1 a2) τ) t.heap; rw [ht9, es]; exact hP, hS.F ht9⟩) hS.2.2 dR_corner_69
          · refine lv_iconst (v := 3) hx hb dR_corner_47 (by decide) ?_
            refine lv_iload_n hx hb dR_corner_48 rfl (lv_at hl 2 rfl) ?_
            refine lv_imul hx hb dR_corner_49 ?_
            refine lv_iload_n hx hb dR_corner_50 rfl (lv_at hl 3 rfl) ?_
            refine lv_iadd hx hb dR_corner_51 ?_
            have ev : f_rcorner σ a0 a1 a2 = ((3 * a1) + a2) := by unfold f_rcorner; rw [if_neg c_1, if_neg c_4, if_neg c_7, if_pos c_10]
            have es : s_rcorner σ a0 a1 a2 = (w2 σ 35 0 (0 : Int32)) := by unfold s_rcorner; rw [if_neg c_1, if_neg c_4, if_neg c_7, if_pos c_10]
            exact W.iret (v := ((3 * a1) + a2)) hx hb hr (fun t ht9 hW => ⟨by rw [ev], by show va_P D vwCl (gW cs ad (s_rcorner σ a0 a1 a2) τ) t.heap; rw [ht9, es]; exact hP, hS.F ht9⟩) hS.2.2 dR_corner_52
        · exact absurd (by decide) c_9
      · refine lv_iconst (v := 1) hx hb dR_corner_29 (by decide) ?_
        refine lv_goto (tgt := 34) hx hb dR_corner_30 (by decide) ?_
        refine lv_iconst (v := 0) hx hb dR_corner_34 (by decide) ?_
        refine g_runR (v := .int (f_refuse σ  (1 : Int32) (0 : Int32))) (va_runV (C := RR) (As := [.int 1, .int 0]) (rest := []) ⟨hx, hb, hml, hown, hts⟩ (c_refuse l hinj σ τ _  (1 : Int32) (0 : Int32) ) (qV 2 ht tw_503 tw_505 ts_R_refuse tw_6 tk_R_refuse rfl rfl (by decide +kernel) ⟨(Nat.le_of_ble_eq_true rfl), (Nat.le_of_ble_eq_true rfl)⟩) (g_pv (ci := 5) hK hP (by decide) rfl kR rfl) rfl rfl hl.1 rfl (lv_room (Nat.le_of_ble_eq_true rfl)) dR_corner_35 ⟨Nat.zero_le _, Nat.zero_le _⟩) hS (fun q _ h => gA_mono hS.1 q h) (fun q h => gA_mono hS.1 q h) (fun H locs hP hz hS => ?_)
        have hP : va_P D vwCl (gW cs ad (w2 σ 35 0 1) τ) H := by have h9 : va_P D vwCl (gW cs ad (s_refuse σ  (1 : Int32) (0 : Int32)) τ) H := hP; rw [srefuse_1] at h9; exact h9
        refine lv_topi (fun z_18 ez_18 => ?_)
        have ez_18 : z_18 = 1 := ez_18.trans frefuse_1
        subst ez_18
        refine lv_if_eq (tgt := 43) hx hb dR_corner_38 (by decide) (fun c_19 => ?_) (fun c_19 => ?_)
        · exact absurd c_19 (by decide)
        · refine lv_iconst (v := 0) hx hb dR_corner_41 (by decide) ?_
          have ev : f_rcorner σ a0 a1 a2 = 0 := by unfold f_rcorner; rw [if_neg c_1, if_neg c_4, if_pos c_7]
          have es : s_rcorner σ a0 a1 a2 = (w2 σ 35 0 (1 : Int32)) := by unfold s_rcorner; rw [if_neg c_1, if_neg c_4, if_pos c_7]
          exact W.iret (v := 0) hx hb hr (fun t ht9 hW => ⟨by rw [ev], by show va_P D vwCl (gW cs ad (s_rcorner σ a0 a1 a2) τ) t.heap; rw [ht9, es]; exact hP, hS.F ht9⟩) hS.2.2 dR_corner_42
def s_rtell (σ : Nat → Nat → Int32)  (a0 : Int32) (a1 : Int32) (a2 : Int32) (a3 : Int32) (a4 : Int32) (a5 : Int32) : Nat → Nat → Int32 :=
  if (f_in_ a0 (0 : Int32) (2 : Int32)) = 0 then
    (w2 σ 35 0 (1 : Int32))
  else
    (w2 (w2 (w2 (w2 (w2 (w2 σ 35 0 (0 : Int32)) 38 (((32 * a0) + a1).toNatClampNeg) a2) 38 ((((32 * a0) + a1) + 1).toNatClampNeg) a3) 38 ((((32 * a0) + a1) + 2).toNatClampNeg) a4) 38 ((((32 * a0) + a1) + 3).toNatClampNeg) a5) 35 11 (0 : Int32))
set_option maxHeartbeats 4000000 in
set_option maxRecDepth 100000 in
theorem c_rtell (l : Launch) {D : va_G} {cs : Nat → ClassId} {ad : Nat → Nat} (hinj : gI ad) (σ : Nat → Nat → Int32) (τ : Nat → Nat → Int64) (sz : Nat)  (a0 : Int32) (a1 : Int32) (a2 : Int32) (a3 : Int32) (a4 : Int32) (a5 : Int32) (hq : 0 ≤ a1.toInt ∧ a1.toInt ≤ 28) : Met l yR_tell (wsB kR_tell) ({ frames := 1, cells := 0, slots := 0, locals := 22 } : Room) (va_Pc [.ref (ad 35), .int a0, .int a1, .int a2, .int a3, .int a4, .int a5] (gP D cs ad σ τ sz)) (gQ none (gB D cs ad (s_rtell σ a0 a1 a2 a3 a4 a5) τ) (gA NC ad sz)) 0 0 (gA NC ad sz) := by
  refine Met.ofW (cc := cR_tell) (maxL := 7) (ret := none) (by decide) rfl ?_
  intro p e s m args below meth c s₁ B hml hv
  obtain ⟨rfl, hsz, hP, hK⟩ := hv
  have hx := B.exec
  have hb := B.bytes
  have hr := B.returns
  have hts := atoms_spec (ws := wsB kR_tell) B.pre
  have ht := hbig hts
  have hown : s.vm.findClass RR = some m.cls := findClass_of_methodNamed B.named
  have hlocks := B.notSynchronized
  subst hsz
  have hD : ∀ σ τ, va_D (gA NC ad s.heap.size) (gW cs ad σ τ) := fun _ _ => gw_D hinj (fun i h => gA_ad h)
  have hS : va_S (gA NC ad s.heap.size) s.heap s.heap [] := va_S.rf
  have hl := lv_entry ([.ref (ad 35), .int a0, .int a1, .int a2, .int a3, .int a4, .int a5]) (n := 7) (Nat.le_of_ble_eq_true rfl)
  rw [lg_entry_eq]
  generalize (lg_sl ([.ref (ad 35), .int a0, .int a1, .int a2, .int a3, .int a4, .int a5]) ++ List.replicate (7 - (lg_sl ([.ref (ad 35), .int a0, .int a1, .int a2, .int a3, .int a4, .int a5])).length) Slot.unset).toArray = ls at hl ⊢
  have hl : lv_has ls 7 [(0, .ref (ad 35)), (1, .int a0), (2, .int a1), (3, .int a2), (4, .int a3), (5, .int a4), (6, .int a5)] := hl
  refine lv_aload_n hx hb dR_tell_0 rfl (lv_at hl 0 rfl) ?_
  refine lv_iload_n hx hb dR_tell_1 rfl (lv_at hl 1 rfl) ?_
  refine lv_iconst (v := 0) hx hb dR_tell_2 (by decide) ?_
  refine lv_iconst (v := 2) hx hb dR_tell_3 (by decide) ?_
  refine g_pure (v := .int (f_in_ a0 (0 : Int32) (2 : Int32))) (va_runS (As := [.int a0, .int 0, .int 2]) (rest := [.ref (ad 35)]) ⟨hx, hb, hml, hown, hts⟩ (c_in_ l a0 (0 : Int32) (2 : Int32)) (qS 3 ht tw_500 tw_501 tw_6 tk_R_in_ rfl rfl (by decide +kernel) ⟨(Nat.le_of_ble_eq_true rfl), (Nat.le_of_ble_eq_true rfl)⟩) g_pt rfl rfl hl.1 rfl (lv_room (Nat.le_of_ble_eq_true rfl)) dR_tell_4 ⟨Nat.zero_le _, Nat.zero_le _⟩) ?_
  refine lv_if_ne (tgt := 14) hx hb dR_tell_7 (by decide) (fun c_1 => ?_) (fun c_1 => ?_)
  · refine lv_iconst (v := 0) hx hb dR_tell_14 (by decide) ?_
    refine lv_iconst (v := 0) hx hb dR_tell_15 (by decide) ?_
    refine g_runR (v := .int (f_refuse σ  (0 : Int32) (0 : Int32))) (va_runV (C := RR) (As := [.int 0, .int 0]) (rest := []) ⟨hx, hb, hml, hown, hts⟩ (c_refuse l hinj σ τ _  (0 : Int32) (0 : Int32) ) (qV 2 ht tw_503 tw_505 ts_R_refuse tw_6 tk_R_refuse rfl rfl (by decide +kernel) ⟨(Nat.le_of_ble_eq_true rfl), (Nat.le_of_ble_eq_true rfl)⟩) (g_pv (ci := 5) hK hP (by decide) rfl kR rfl) rfl rfl hl.1 rfl (lv_room (Nat.le_of_ble_eq_true rfl)) dR_tell_16 ⟨Nat.zero_le _, Nat.zero_le _⟩) hS (fun q _ h => gA_mono hS.1 q h) (fun q h => gA_mono hS.1 q h) (fun H locs hP hz hS => ?_)
    have hP : va_P D vwCl (gW cs ad (w2 σ 35 0 0) τ) H := by have h9 : va_P D vwCl (gW cs ad (s_refuse σ  (0 : Int32) (0 : Int32)) τ) H := hP; rw [srefuse_00] at h9; exact h9
    refine lv_topi (fun z_2 ez_2 => ?_)
    have ez_2 : z_2 = 0 := ez_2.trans frefuse_00
    subst ez_2
    refine lv_if_eq (tgt := 23) hx hb dR_tell_19 (by decide) (fun c_3 => ?_) (fun c_3 => ?_)
    · refine lv_aload_n hx hb dR_tell_23 rfl (lv_at hl 0 rfl) ?_
      refine g_get (ci := 5) (C := RR) (T := TR) (M := 13) (v := .ref (ad 38)) hx hb ht inR hown hK hP 35 (by decide) kR rfl 3 (by decide) (ht _ tw_455) (fun _ h9 => h9) rfl dR_tell_24 ?_
      refine lv_bipush (v := 32) hx hb dR_tell_27 (by decide) ?_
      refine lv_iload_n hx hb dR_tell_29 rfl (lv_at hl 1 rfl) ?_
      refine lv_imul hx hb dR_tell_30 ?_
      refine lv_iload_n hx hb dR_tell_31 rfl (lv_at hl 2 rfl) ?_
      refine lv_iadd hx hb dR_tell_32 ?_
      refine lv_iload_n hx hb dR_tell_33 rfl (lv_at hl 3 rfl) ?_
      have hi_4 : vp_in ((32 * a0) + a1) 96 := (by have l0 : (0 : Int32).toInt = 0 := (by decide); have l2 : (2 : Int32).toInt = 2 := (by decide); have l32 : (32 : Int32).toInt = 32 := (by decide); have b0 := hq; have b1 := in_b c_1; rw [vp_in_iff]; (try simp only [Int32.toInt_add, Int32.toInt_sub, Int32.toInt_mul, Int.bmod_def, l0, l2, l32]); omega)
      refine g_iast hx hb hK hP hD hS 38 0 (by decide) (fun r t => kR38) rfl hi_4 dR_tell_34 (fun H locs hP hS => ?_)
      refine lv_aload_n hx hb dR_tell_35 rfl (lv_at hl 0 rfl) ?_
      refine g_get (ci := 5) (C := RR) (T := TR) (M := 13) (v := .ref (ad 38)) hx hb ht inR hown hK hP 35 (by decide) kR rfl 3 (by decide) (ht _ tw_455) (fun _ h9 => h9) rfl dR_tell_36 ?_
      refine lv_bipush (v := 32) hx hb dR_tell_39 (by decide) ?_
      refine lv_iload_n hx hb dR_tell_41 rfl (lv_at hl 1 rfl) ?_
      refine lv_imul hx hb dR_tell_42 ?_
      refine lv_iload_n hx hb dR_tell_43 rfl (lv_at hl 2 rfl) ?_
      refine lv_iadd hx hb dR_tell_44 ?_
      refine lv_iconst (v := 1) hx hb dR_tell_45 (by decide) ?_
      refine lv_iadd hx hb dR_tell_46 ?_
      refine lv_iload hx hb dR_tell_47 (lv_at hl 4 rfl) ?_
      have hi_5 : vp_in (((32 * a0) + a1) + 1) 96 := (by have l0 : (0 : Int32).toInt = 0 := (by decide); have l1 : (1 : Int32).toInt = 1 := (by decide); have l2 : (2 : Int32).toInt = 2 := (by decide); have l32 : (32 : Int32).toInt = 32 := (by decide); have b0 := hq; have b1 := in_b c_1; rw [vp_in_iff]; (try simp only [Int32.toInt_add, Int32.toInt_sub, Int32.toInt_mul, Int.bmod_def, l0, l1, l2, l32]); omega)
      refine g_iast hx hb hK hP hD hS 38 0 (by decide) (fun r t => kR38) rfl hi_5 dR_tell_49 (fun H locs hP hS => ?_)
      refine lv_aload_n hx hb dR_tell_50 rfl (lv_at hl 0 rfl) ?_
      refine g_get (ci := 5) (C := RR) (T := TR) (M := 13) (v := .ref (ad 38)) hx hb ht inR hown hK hP 35 (by decide) kR rfl 3 (by decide) (ht _ tw_455) (fun _ h9 => h9) rfl dR_tell_51 ?_
      refine lv_bipush (v := 32) hx hb dR_tell_54 (by decide) ?_
      refine lv_iload_n hx hb dR_tell_56 rfl (lv_at hl 1 rfl) ?_
      refine lv_imul hx hb dR_tell_57 ?_
      refine lv_iload_n hx hb dR_tell_58 rfl (lv_at hl 2 rfl) ?_
      refine lv_iadd hx hb dR_tell_59 ?_
      refine lv_iconst (v := 2) hx hb dR_tell_60 (by decide) ?_
      refine lv_iadd hx hb dR_tell_61 ?_
      refine lv_iload hx hb dR_tell_62 (lv_at hl 5 rfl) ?_
      have hi_6 : vp_in (((32 * a0) + a1) + 2) 96 := (by have l0 : (0 : Int32).toInt = 0 := (by decide); have l2 : (2 : Int32).toInt = 2 := (by decide); have l32 : (32 : Int32).toInt = 32 := (by decide); have b0 := hq; have b1 := in_b c_1; rw [vp_in_iff]; (try simp only [Int32.toInt_add, Int32.toInt_sub, Int32.toInt_mul, Int.bmod_def, l0, l2, l32]); omega)
      refine g_iast hx hb hK hP hD hS 38 0 (by decide) (fun r t => kR38) rfl hi_6 dR_tell_64 (fun H locs hP hS => ?_)
      refine lv_aload_n hx hb dR_tell_65 rfl (lv_at hl 0 rfl) ?_
      refine g_get (ci := 5) (C := RR) (T := TR) (M := 13) (v := .ref (ad 38)) hx hb ht inR hown hK hP 35 (by decide) kR rfl 3 (by decide) (ht _ tw_455) (fun _ h9 => h9) rfl dR_tell_66 ?_
      refine lv_bipush (v := 32) hx hb dR_tell_69 (by decide) ?_
      refine lv_iload_n hx hb dR_tell_71 rfl (lv_at hl 1 rfl) ?_
      refine lv_imul hx hb dR_tell_72 ?_
      refine lv_iload_n hx hb dR_tell_73 rfl (lv_at hl 2 rfl) ?_
      refine lv_iadd hx hb dR_tell_74 ?_
      refine lv_iconst (v := 3) hx hb dR_tell_75 (by decide) ?_
      refine lv_iadd hx hb dR_tell_76 ?_
      refine lv_iload hx hb dR_tell_77 (lv_at hl 6 rfl) ?_
      have hi_7 : vp_in (((32 * a0) + a1) + 3) 96 := (by have l0 : (0 : Int32).toInt = 0 := (by decide); have l2 : (2 : Int32).toInt = 2 := (by decide); have l3 : (3 : Int32).toInt = 3 := (by decide); have l32 : (32 : Int32).toInt = 32 := (by decide); have b0 := hq; have b1 := in_b c_1; rw [vp_in_iff]; (try simp only [Int32.toInt_add, Int32.toInt_sub, Int32.toInt_mul, Int.bmod_def, l0, l2, l3, l32]); omega)
      refine g_iast hx hb hK hP hD hS 38 0 (by decide) (fun r t => kR38) rfl hi_7 dR_tell_79 (fun H locs hP hS => ?_)
      refine lv_aload_n hx hb dR_tell_80 rfl (lv_at hl 0 rfl) ?_
      refine lv_iconst (v := 0) hx hb dR_tell_81 (by decide) ?_
      refine g_put (ci := 5) (C := RR) (T := TR) (M := 13) (ty := .int) (x := 0) hx hb ht inR tyR tyR_ok nmR hown hK hP hD hS 35 (by decide) (fR ad) (fun r t => kR) rfl 11 (by decide) (ht _ tw_463) (fun _ h9 => h9) rfl (by decide +kernel) rfl rfl (Nat.le_of_ble_eq_true rfl) rfl dR_tell_82 (fun H locs hP hS => ?_)
      have es : s_rtell σ a0 a1 a2 a3 a4 a5 = (w2 (w2 (w2 (w2 (w2 (w2 σ 35 0 (0 : Int32)) 38 (((32 * a0) + a1).toNatClampNeg) a2) 38 ((((32 * a0) + a1) + 1).toNatClampNeg) a3) 38 ((((32 * a0) + a1) + 2).toNatClampNeg) a4) 38 ((((32 * a0) + a1) + 3).toNatClampNeg) a5) 35 11 (0 : Int32)) := by unfold s_rtell; rw [if_neg c_1]
      exact W.vret hx hb hr (fun t ht9 hW => ⟨rfl, by show va_P D vwCl (gW cs ad (s_rtell σ a0 a1 a2 a3 a4 a5) τ) t.heap; rw [ht9, es]; exact hP, hS.F ht9⟩) hS.2.2 dR_tell_85
    · exact absurd (by decide) c_3
  · refine lv_iconst (v := 1) hx hb dR_tell_10 (by decide) ?_
    refine lv_goto (tgt := 15) hx hb dR_tell_11 (by decide) ?_
    refine lv_iconst (v := 0) hx hb dR_tell_15 (by decide) ?_
    refine g_runR (v := .int (f_refuse σ  (1 : Int32) (0 : Int32))) (va_runV (C := RR) (As := [.int 1, .int 0]) (rest := []) ⟨hx, hb, hml, hown, hts⟩ (c_refuse l hinj σ τ _  (1 : Int32) (0 : Int32) ) (qV 2 ht tw_503 tw_505 ts_R_refuse tw_6 tk_R_refuse rfl rfl (by decide +kernel) ⟨(Nat.le_of_ble_eq_true rfl), (Nat.le_of_ble_eq_true rfl)⟩) (g_pv (ci := 5) hK hP (by decide) rfl kR rfl) rfl rfl hl.1 rfl (lv_room (Nat.le_of_ble_eq_true rfl)) dR_tell_16 ⟨Nat.zero_le _, Nat.zero_le _⟩) hS (fun q _ h => gA_mono hS.1 q h) (fun q h => gA_mono hS.1 q h) (fun H locs hP hz hS => ?_)
    have hP : va_P D vwCl (gW cs ad (w2 σ 35 0 1) τ) H := by have h9 : va_P D vwCl (gW cs ad (s_refuse σ  (1 : Int32) (0 : Int32)) τ) H := hP; rw [srefuse_1] at h9; exact h9
    refine lv_topi (fun z_8 ez_8 => ?_)
    have ez_8 : z_8 = 1 := ez_8.trans frefuse_1
    subst ez_8
    refine lv_if_eq (tgt := 23) hx hb dR_tell_19 (by decide) (fun c_9 => ?_) (fun c_9 => ?_)
    · exact absurd c_9 (by decide)
    · have es : s_rtell σ a0 a1 a2 a3 a4 a5 = (w2 σ 35 0 (1 : Int32)) := by unfold s_rtell; rw [if_pos c_1]
      exact W.vret hx hb hr (fun t ht9 hW => ⟨rfl, by show va_P D vwCl (gW cs ad (s_rtell σ a0 a1 a2 a3 a4 a5) τ) t.heap; rw [ht9, es]; exact hP, hS.F ht9⟩) hS.2.2 dR_tell_22
def s_rplace (σ : Nat → Nat → Int32)  (a0 : Int32) (a1 : Int32) (a2 : Int32) (a3 : Int32) (a4 : Int32) : Nat → Nat → Int32 :=
  (s_rtell σ  a0 (0 : Int32) a1 a2 a3 a4)
set_option maxHeartbeats 4000000 in
set_option maxRecDepth 100000 in
theorem c_rplace (l : Launch) {D : va_G} {cs : Nat → ClassId} {ad : Nat → Nat} (hinj : gI ad) (σ : Nat → Nat → Int32) (τ : Nat → Nat → Int64) (sz : Nat)  (a0 : Int32) (a1 : Int32) (a2 : Int32) (a3 : Int32) (a4 : Int32) : Met l yR_place (wsB kR_place) ({ frames := 2, cells := 0, slots := 0, locals := 48 } : Room) (va_Pc [.ref (ad 35), .int a0, .int a1, .int a2, .int a3, .int a4] (gP D cs ad σ τ sz)) (gQ none (gB D cs ad (s_rplace σ a0 a1 a2 a3 a4) τ) (gA NC ad sz)) 0 0 (gA NC ad sz) := by
  refine Met.ofW (cc := cR_place) (maxL := 6) (ret := none) (by decide) rfl ?_
  intro p e s m args below meth c s₁ B hml hv
  obtain ⟨rfl, hsz, hP, hK⟩ := hv
  have hx := B.exec
  have hb := B.bytes
  have hr := B.returns
  have hts := atoms_spec (ws := wsB kR_place) B.pre
  have ht := hbig hts
  have hown : s.vm.findClass RR = some m.cls := findClass_of_methodNamed B.named
  have hlocks := B.notSynchronized
  subst hsz
  have hD : ∀ σ τ, va_D (gA NC ad s.heap.size) (gW cs ad σ τ) := fun _ _ => gw_D hinj (fun i h => gA_ad h)
  have hS : va_S (gA NC ad s.heap.size) s.heap s.heap [] := va_S.rf
  have hl := lv_entry ([.ref (ad 35), .int a0, .int a1, .int a2, .int a3, .int a4]) (n := 6) (Nat.le_of_ble_eq_true rfl)
  rw [lg_entry_eq]
  generalize (lg_sl ([.ref (ad 35), .int a0, .int a1, .int a2, .int a3, .int a4]) ++ List.replicate (6 - (lg_sl ([.ref (ad 35), .int a0, .int a1, .int a2, .int a3, .int a4])).length) Slot.unset).toArray = ls at hl ⊢
  have hl : lv_has ls 6 [(0, .ref (ad 35)), (1, .int a0), (2, .int a1), (3, .int a2), (4, .int a3), (5, .int a4)] := hl
  refine lv_aload_n hx hb dR_place_0 rfl (lv_at hl 0 rfl) ?_
  refine lv_iload_n hx hb dR_place_1 rfl (lv_at hl 1 rfl) ?_
  refine lv_iconst (v := 0) hx hb dR_place_2 (by decide) ?_
  refine lv_iload_n hx hb dR_place_3 rfl (lv_at hl 2 rfl) ?_
  refine lv_iload_n hx hb dR_place_4 rfl (lv_at hl 3 rfl) ?_
  refine lv_iload hx hb dR_place_5 (lv_at hl 4 rfl) ?_
  refine lv_iload hx hb dR_place_7 (lv_at hl 5 rfl) ?_
  refine g_runV (va_runV (C := RR) (As := [.int a0, .int 0, .int a1, .int a2, .int a3, .int a4]) (rest := []) ⟨hx, hb, hml, hown, hts⟩ (c_rtell l hinj σ τ _  a0 (0 : Int32) a1 a2 a3 a4 (by decide)) (qV 6 ht tw_547 tw_549 ts_R_tell tw_6 tk_R_tell rfl rfl (by decide +kernel) ⟨(Nat.le_of_ble_eq_true rfl), (Nat.le_of_ble_eq_true rfl)⟩) (g_pv (ci := 5) hK hP (by decide) rfl kR rfl) rfl rfl hl.1 rfl (lv_room (Nat.le_of_ble_eq_true rfl)) dR_place_9 ⟨Nat.zero_le _, Nat.zero_le _⟩) hS (fun q _ h => gA_mono hS.1 q h) (fun q h => gA_mono hS.1 q h) (fun H locs hP hz hS => ?_)
  have es : s_rplace σ a0 a1 a2 a3 a4 = (s_rtell σ  a0 (0 : Int32) a1 a2 a3 a4) := by unfold s_rplace; rfl
  exact W.vret hx hb hr (fun t ht9 hW => ⟨rfl, by show va_P D vwCl (gW cs ad (s_rplace σ a0 a1 a2 a3 a4) τ) t.heap; rw [ht9, es]; exact hP, hS.F ht9⟩) hS.2.2 dR_place_12
def s_rvary (σ : Nat → Nat → Int32)  (a0 : Int32) (a1 : Int32) (a2 : Int32) (a3 : Int32) (a4 : Int32) (a5 : Int32) : Nat → Nat → Int32 :=
  if (f_in_ a1 (0 : Int32) (6 : Int32)) = 0 then
    (w2 σ 35 0 (1 : Int32))
  else
    (s_rtell (w2 σ 35 0 (0 : Int32))  a0 (4 + (4 * a1)) a2 a3 a4 a5)
set_option maxHeartbeats 4000000 in
set_option maxRecDepth 100000 in
theorem c_rvary (l : Launch) {D : va_G} {cs : Nat → ClassId} {ad : Nat → Nat} (hinj : gI ad) (σ : Nat → Nat → Int32) (τ : Nat → Nat → Int64) (sz : Nat)  (a0 : Int32) (a1 : Int32) (a2 : Int32) (a3 : Int32) (a4 : Int32) (a5 : Int32) : Met l yR_vary (wsB kR_vary) ({ frames := 2, cells := 0, slots := 0, locals := 48 } : Room) (va_Pc [.ref (ad 35), .int a0, .int a1, .int a2, .int a3, .int a4, .int a5] (gP D cs ad σ τ sz)) (gQ none (gB D cs ad (s_rvary σ a0 a1 a2 a3 a4 a5) τ) (gA NC ad sz)) 0 0 (gA NC ad sz) := by
  refine Met.ofW (cc := cR_vary) (maxL := 7) (ret := none) (by decide) rfl ?_
  intro p e s m args below meth c s₁ B hml hv
  obtain ⟨rfl, hsz, hP, hK⟩ := hv
  have hx := B.exec
  have hb := B.bytes
  have hr := B.returns
  have hts := atoms_spec (ws := wsB kR_vary) B.pre
  have ht := hbig hts
  have hown : s.vm.findClass RR = some m.cls := findClass_of_methodNamed B.named
  have hlocks := B.notSynchronized
  subst hsz
  have hD : ∀ σ τ, va_D (gA NC ad s.heap.size) (gW cs ad σ τ) := fun _ _ => gw_D hinj (fun i h => gA_ad h)
  have hS : va_S (gA NC ad s.heap.size) s.heap s.heap [] := va_S.rf
  have hl := lv_entry ([.ref (ad 35), .int a0, .int a1, .int a2, .int a3, .int a4, .int a5]) (n := 7) (Nat.le_of_ble_eq_true rfl)
  rw [lg_entry_eq]
  generalize (lg_sl ([.ref (ad 35), .int a0, .int a1, .int a2, .int a3, .int a4, .int a5]) ++ List.replicate (7 - (lg_sl ([.ref (ad 35), .int a0, .int a1, .int a2, .int a3, .int a4, .int a5])).length) Slot.unset).toArray = ls at hl ⊢
  have hl : lv_has ls 7 [(0, .ref (ad 35)), (1, .int a0), (2, .int a1), (3, .int a2), (4, .int a3), (5, .int a4), (6, .int a5)] := hl
  refine lv_aload_n hx hb dR_vary_0 rfl (lv_at hl 0 rfl) ?_
  refine lv_iload_n hx hb dR_vary_1 rfl (lv_at hl 2 rfl) ?_
  refine lv_iconst (v := 0) hx hb dR_vary_2 (by decide) ?_
  refine lv_bipush (v := 6) hx hb dR_vary_3 (by decide) ?_
  refine g_pure (v := .int (f_in_ a1 (0 : Int32) (6 : Int32))) (va_runS (As := [.int a1, .int 0, .int 6]) (rest := [.ref (ad 35)]) ⟨hx, hb, hml, hown, hts⟩ (c_in_ l a1 (0 : Int32) (6 : Int32)) (qS 3 ht tw_500 tw_501 tw_6 tk_R_in_ rfl rfl (by decide +kernel) ⟨(Nat.le_of_ble_eq_true rfl), (Nat.le_of_ble_eq_true rfl)⟩) g_pt rfl rfl hl.1 rfl (lv_room (Nat.le_of_ble_eq_true rfl)) dR_vary_5 ⟨Nat.zero_le _, Nat.zero_le _⟩) ?_
  refine lv_if_ne (tgt := 15) hx hb dR_vary_8 (by decide) (fun c_1 => ?_) (fun c_1 => ?_)
  · refine lv_iconst (v := 0) hx hb dR_vary_15 (by decide) ?_
    refine lv_iconst (v := 0) hx hb dR_vary_16 (by decide) ?_
    refine g_runR (v := .int (f_refuse σ  (0 : Int32) (0 : Int32))) (va_runV (C := RR) (As := [.int 0, .int 0]) (rest := []) ⟨hx, hb, hml, hown, hts⟩ (c_refuse l hinj σ τ _  (0 : Int32) (0 : Int32) ) (qV 2 ht tw_503 tw_505 ts_R_refuse tw_6 tk_R_refuse rfl rfl (by decide +kernel) ⟨(Nat.le_of_ble_eq_true rfl), (Nat.le_of_ble_eq_true rfl)⟩) (g_pv (ci := 5) hK hP (by decide) rfl kR rfl) rfl rfl hl.1 rfl (lv_room (Nat.le_of_ble_eq_true rfl)) dR_vary_17 ⟨Nat.zero_le _, Nat.zero_le _⟩) hS (fun q _ h => gA_mono hS.1 q h) (fun q h => gA_mono hS.1 q h) (fun H locs hP hz hS => ?_)
    have hP : va_P D vwCl (gW cs ad (w2 σ 35 0 0) τ) H := by have h9 : va_P D vwCl (gW cs ad (s_refuse σ  (0 : Int32) (0 : Int32)) τ) H := hP; rw [srefuse_00] at h9; exact h9
    refine lv_topi (fun z_2 ez_2 => ?_)
    have ez_2 : z_2 = 0 := ez_2.trans frefuse_00
    subst ez_2
    refine lv_if_ne (tgt := 40) hx hb dR_vary_20 (by decide) (fun c_3 => ?_) (fun c_3 => ?_)
    · exact absurd (by decide) c_3
    · refine lv_aload_n hx hb dR_vary_23 rfl (lv_at hl 0 rfl) ?_
      refine lv_iload_n hx hb dR_vary_24 rfl (lv_at hl 1 rfl) ?_
      refine lv_iconst (v := 4) hx hb dR_vary_25 (by decide) ?_
      refine lv_iconst (v := 4) hx hb dR_vary_26 (by decide) ?_
      refine lv_iload_n hx hb dR_vary_27 rfl (lv_at hl 2 rfl) ?_
      refine lv_imul hx hb dR_vary_28 ?_
      refine lv_iadd hx hb dR_vary_29 ?_
      refine lv_iload_n hx hb dR_vary_30 rfl (lv_at hl 3 rfl) ?_
      refine lv_iload hx hb dR_vary_31 (lv_at hl 4 rfl) ?_
      refine lv_iload hx hb dR_vary_33 (lv_at hl 5 rfl) ?_
      refine lv_iload hx hb dR_vary_35 (lv_at hl 6 rfl) ?_
      refine g_runV (va_runV (C := RR) (As := [.int a0, .int (4 + (4 * a1)), .int a2, .int a3, .int a4, .int a5]) (rest := []) ⟨hx, hb, hml, hown, hts⟩ (c_rtell l hinj (w2 σ 35 0 (0 : Int32)) τ _  a0 (4 + (4 * a1)) a2 a3 a4 a5 (vary_q c_1)) (qV 6 ht tw_547 tw_549 ts_R_tell tw_6 tk_R_tell rfl rfl (by decide +kernel) ⟨(Nat.le_of_ble_eq_true rfl), (Nat.le_of_ble_eq_true rfl)⟩) (g_pv (ci := 5) hK hP (by decide) rfl kR rfl) rfl rfl hl.1 rfl (lv_room (Nat.le_of_ble_eq_true rfl)) dR_vary_37 ⟨Nat.zero_le _, Nat.zero_le _⟩) hS (fun q _ h => gA_mono hS.1 q h) (fun q h => gA_mono hS.1 q h) (fun H locs hP hz hS => ?_)
      have es : s_rvary σ a0 a1 a2 a3 a4 a5 = (s_rtell (w2 σ 35 0 (0 : Int32))  a0 (4 + (4 * a1)) a2 a3 a4 a5) := by unfold s_rvary; rw [if_neg c_1]
      exact W.vret hx hb hr (fun t ht9 hW => ⟨rfl, by show va_P D vwCl (gW cs ad (s_rvary σ a0 a1 a2 a3 a4 a5) τ) t.heap; rw [ht9, es]; exact hP, hS.F ht9⟩) hS.2.2 dR_vary_40
  · refine lv_iconst (v := 1) hx hb dR_vary_11 (by decide) ?_
    refine lv_goto (tgt := 16) hx hb dR_vary_12 (by decide) ?_
    refine lv_iconst (v := 0) hx hb dR_vary_16 (by decide) ?_
    refine g_runR (v := .int (f_refuse σ  (1 : Int32) (0 : Int32))) (va_runV (C := RR) (As := [.int 1, .int 0]) (rest := []) ⟨hx, hb, hml, hown, hts⟩ (c_refuse l hinj σ τ _  (1 : Int32) (0 : Int32) ) (qV 2 ht tw_503 tw_505 ts_R_refuse tw_6 tk_R_refuse rfl rfl (by decide +kernel) ⟨(Nat.le_of_ble_eq_true rfl), (Nat.le_of_ble_eq_true rfl)⟩) (g_pv (ci := 5) hK hP (by decide) rfl kR rfl) rfl rfl hl.1 rfl (lv_room (Nat.le_of_ble_eq_true rfl)) dR_vary_17 ⟨Nat.zero_le _, Nat.zero_le _⟩) hS (fun q _ h => gA_mono hS.1 q h) (fun q h => gA_mono hS.1 q h) (fun H locs hP hz hS => ?_)
    have hP : va_P D vwCl (gW cs ad (w2 σ 35 0 1) τ) H := by have h9 : va_P D vwCl (gW cs ad (s_refuse σ  (1 : Int32) (0 : Int32)) τ) H := hP; rw [srefuse_1] at h9; exact h9
    refine lv_topi (fun z_4 ez_4 => ?_)
    have ez_4 : z_4 = 1 := ez_4.trans frefuse_1
    subst ez_4
    refine lv_if_ne (tgt := 40) hx hb dR_vary_20 (by decide) (fun c_5 => ?_) (fun c_5 => ?_)
    · have es : s_rvary σ a0 a1 a2 a3 a4 a5 = (w2 σ 35 0 (1 : Int32)) := by unfold s_rvary; rw [if_pos c_1]
      exact W.vret hx hb hr (fun t ht9 hW => ⟨rfl, by show va_P D vwCl (gW cs ad (s_rvary σ a0 a1 a2 a3 a4 a5) τ) t.heap; rw [ht9, es]; exact hP, hS.F ht9⟩) hS.2.2 dR_vary_40
    · exact absurd c_5 (by decide)
def s_rview (σ : Nat → Nat → Int32)  (a0 : Int32) (a1 : Int32) (a2 : Int32) (a3 : Int32) (a4 : Int32) (a5 : Int32) : Nat → Nat → Int32 :=
  if (f_in_ a0 ((-1023) : Int32) (1023 : Int32)) = 0 then
    (w2 σ 35 0 (1 : Int32))
  else
    if (f_in_ a1 ((-1023) : Int32) (1023 : Int32)) = 0 then
      (w2 σ 35 0 (1 : Int32))
    else
      if (f_in_ a2 (1 : Int32) (1024 : Int32)) = 0 then
        (w2 σ 35 0 (1 : Int32))
      else
        if (f_in_ a3 (1 : Int32) (1024 : Int32)) = 0 then
          (w2 σ 35 0 (1 : Int32))
        else
          if (f_in_ a4 (0 : Int32) (16777215 : Int32)) = 0 then
            (w2 σ 35 0 (1 : Int32))
          else
            if (f_in_ a5 (0 : Int32) (16777215 : Int32)) = 0 then
              (w2 σ 35 0 (1 : Int32))
            else
              (w2 (w2 (w2 (w2 (w2 (w2 (w2 (w2 σ 35 0 (0 : Int32)) 39 ((0 : Int32).toNatClampNeg) a0) 39 ((1 : Int32).toNatClampNeg) a1) 39 ((2 : Int32).toNatClampNeg) a2) 39 ((3 : Int32).toNatClampNeg) a3) 39 ((4 : Int32).toNatClampNeg) a4) 39 ((5 : Int32).toNatClampNeg) a5) 35 11 (0 : Int32))
set_option maxHeartbeats 4000000 in
set_option maxRecDepth 100000 in
theorem c_rview (l : Launch) {D : va_G} {cs : Nat → ClassId} {ad : Nat → Nat} (hinj : gI ad) (σ : Nat → Nat → Int32) (τ : Nat → Nat → Int64) (sz : Nat)  (a0 : Int32) (a1 : Int32) (a2 : Int32) (a3 : Int32) (a4 : Int32) (a5 : Int32) : Met l yR_view (wsB kR_view) ({ frames := 1, cells := 0, slots := 0, locals := 22 } : Room) (va_Pc [.ref (ad 35), .int a0, .int a1, .int a2, .int a3, .int a4, .int a5] (gP D cs ad σ τ sz)) (gQ none (gB D cs ad (s_rview σ a0 a1 a2 a3 a4 a5) τ) (gA NC ad sz)) 0 0 (gA NC ad sz) := by
  refine Met.ofW (cc := cR_view) (maxL := 8) (ret := none) (by decide) rfl ?_
  intro p e s m args below meth c s₁ B hml hv
  obtain ⟨rfl, hsz, hP, hK⟩ := hv
  have hx := B.exec
  have hb := B.bytes
  have hr := B.returns
  have hts := atoms_spec (ws := wsB kR_view) B.pre
  have ht := hbig hts
  have hown : s.vm.findClass RR = some m.cls := findClass_of_methodNamed B.named
  have hlocks := B.notSynchronized
  subst hsz
  have hD : ∀ σ τ, va_D (gA NC ad s.heap.size) (gW cs ad σ τ) := fun _ _ => gw_D hinj (fun i h => gA_ad h)
  have hS : va_S (gA NC ad s.heap.size) s.heap s.heap [] := va_S.rf
  have hl := lv_entry ([.ref (ad 35), .int a0, .int a1, .int a2, .int a3, .int a4, .int a5]) (n := 8) (Nat.le_of_ble_eq_true rfl)
  rw [lg_entry_eq]
  generalize (lg_sl ([.ref (ad 35), .int a0, .int a1, .int a2, .int a3, .int a4, .int a5]) ++ List.replicate (8 - (lg_sl ([.ref (ad 35), .int a0, .int a1, .int a2, .int a3, .int a4, .int a5])).length) Slot.unset).toArray = ls at hl ⊢
  have hl : lv_has ls 8 [(0, .ref (ad 35)), (1, .int a0), (2, .int a1), (3, .int a2), (4, .int a3), (5, .int a4), (6, .int a5)] := hl
  refine lv_iload_n hx hb dR_view_0 rfl (lv_at hl 1 rfl) ?_
  refine lv_sipush (v := (-1023)) hx hb dR_view_1 (by decide) ?_
  refine lv_sipush (v := 1023) hx hb dR_view_4 (by decide) ?_
  refine g_pure (v := .int (f_in_ a0 ((-1023) : Int32) (1023 : Int32))) (va_runS (As := [.int a0, .int (-1023), .int 1023]) (rest := []) ⟨hx, hb, hml, hown, hts⟩ (c_in_ l a0 ((-1023) : Int32) (1023 : Int32)) (qS 3 ht tw_500 tw_501 tw_6 tk_R_in_ rfl rfl (by decide +kernel) ⟨(Nat.le_of_ble_eq_true rfl), (Nat.le_of_ble_eq_true rfl)⟩) g_pt rfl rfl hl.1 rfl (lv_room (Nat.le_of_ble_eq_true rfl)) dR_view_7 ⟨Nat.zero_le _, Nat.zero_le _⟩) ?_
  refine lv_if_eq (tgt := 75) hx hb dR_view_10 (by decide) (fun c_1 => ?_) (fun c_1 => ?_)
  · refine lv_iconst (v := 0) hx hb dR_view_75 (by decide) ?_
    refine lv_istore (lv' := [(7, .int 0), (0, .ref (ad 35)), (1, .int a0), (2, .int a1), (3, .int a2), (4, .int a3), (5, .int a4), (6, .int a5)]) hx hb dR_view_76 hl (by decide) rfl (fun ls hl => ?_)
    refine lv_aload_n hx hb dR_view_78 rfl (lv_at hl 1 rfl) ?_
    refine lv_iload hx hb dR_view_79 (lv_at hl 0 rfl) ?_
    refine lv_if_ne (tgt := 88) hx hb dR_view_81 (by decide) (fun c_2 => ?_) (fun c_2 => ?_)
    · exact absurd (by decide) c_2
    · refine lv_iconst (v := 1) hx hb dR_view_84 (by decide) ?_
      refine lv_goto (tgt := 89) hx hb dR_view_85 (by decide) ?_
      refine lv_iconst (v := 0) hx hb dR_view_89 (by decide) ?_
      refine g_runR (v := .int (f_refuse σ  (1 : Int32) (0 : Int32))) (va_runV (C := RR) (As := [.int 1, .int 0]) (rest := []) ⟨hx, hb, hml, hown, hts⟩ (c_refuse l hinj σ τ _  (1 : Int32) (0 : Int32) ) (qV 2 ht tw_503 tw_505 ts_R_refuse tw_6 tk_R_refuse rfl rfl (by decide +kernel) ⟨(Nat.le_of_ble_eq_true rfl), (Nat.le_of_ble_eq_true rfl)⟩) (g_pv (ci := 5) hK hP (by decide) rfl kR rfl) rfl rfl hl.1 rfl (lv_room (Nat.le_of_ble_eq_true rfl)) dR_view_90 ⟨Nat.zero_le _, Nat.zero_le _⟩) hS (fun q _ h => gA_mono hS.1 q h) (fun q h => gA_mono hS.1 q h) (fun H locs hP hz hS => ?_)
      have hP : va_P D vwCl (gW cs ad (w2 σ 35 0 1) τ) H := by have h9 : va_P D vwCl (gW cs ad (s_refuse σ  (1 : Int32) (0 : Int32)) τ) H := hP; rw [srefuse_1] at h9; exact h9
      refine lv_topi (fun z_3 ez_3 => ?_)
      have ez_3 : z_3 = 1 := ez_3.trans frefuse_1
      subst ez_3
      refine lv_if_eq (tgt := 97) hx hb dR_view_93 (by decide) (fun c_4 => ?_) (fun c_4 => ?_)
      · exact absurd c_4 (by decide)
      · have es : s_rview σ a0 a1 a2 a3 a4 a5 = (w2 σ 35 0 (1 : Int32)) := by unfold s_rview; rw [if_pos c_1]
        exact W.vret hx hb hr (fun t ht9 hW => ⟨rfl, by show va_P D vwCl (gW cs ad (s_rview σ a0 a1 a2 a3 a4 a5) τ) t.heap; rw [ht9, es]; exact hP, hS.F ht9⟩) hS.2.2 dR_view_96
  · refine lv_iload_n hx hb dR_view_13 rfl (lv_at hl 2 rfl) ?_
    refine lv_sipush (v := (-1023)) hx hb dR_view_14 (by decide) ?_
    refine lv_sipush (v := 1023) hx hb dR_view_17 (by decide) ?_
    refine g_pure (v := .int (f_in_ a1 ((-1023) : Int32) (1023 : Int32))) (va_runS (As := [.int a1, .int (-1023), .int 1023]) (rest := []) ⟨hx, hb, hml, hown, hts⟩ (c_in_ l a1 ((-1023) : Int32) (1023 : Int32)) (qS 3 ht tw_500 tw_501 tw_6 tk_R_in_ rfl rfl (by decide +kernel) ⟨(Nat.le_of_ble_eq_true rfl), (Nat.le_of_ble_eq_true rfl)⟩) g_pt rfl rfl hl.1 rfl (lv_room (Nat.le_of_ble_eq_true rfl)) dR_view_20 ⟨Nat.zero_le _, Nat.zero_le _⟩) ?_
    refine lv_if_eq (tgt := 75) hx hb dR_view_23 (by decide) (fun c_5 => ?_) (fun c_5 => ?_)
    · refine lv_iconst (v := 0) hx hb dR_view_75 (by decide) ?_
      refine lv_istore (lv' := [(7, .int 0), (0, .ref (ad 35)), (1, .int a0), (2, .int a1), (3, .int a2), (4, .int a3), (5, .int a4), (6, .int a5)]) hx hb dR_view_76 hl (by decide) rfl (fun ls hl => ?_)
      refine lv_aload_n hx hb dR_view_78 rfl (lv_at hl 1 rfl) ?_
      refine lv_iload hx hb dR_view_79 (lv_at hl 0 rfl) ?_
      refine lv_if_ne (tgt := 88) hx hb dR_view_81 (by decide) (fun c_6 => ?_) (fun c_6 => ?_)
      · exact absurd (by decide) c_6
      · refine lv_iconst (v := 1) hx hb dR_view_84 (by decide) ?_
        refine lv_goto (tgt := 89) hx hb dR_view_85 (by decide) ?_
        refine lv_iconst (v := 0) hx hb dR_view_89 (by decide) ?_
        refine g_runR (v := .int (f_refuse σ  (1 : Int32) (0 : Int32))) (va_runV (C := RR) (As := [.int 1, .int 0]) (rest := []) ⟨hx, hb, hml, hown, hts⟩ (c_refuse l hinj σ τ _  (1 : Int32) (0 : Int32) ) (qV 2 ht tw_503 tw_505 ts_R_refuse tw_6 tk_R_refuse rfl rfl (by decide +kernel) ⟨(Nat.le_of_ble_eq_true rfl), (Nat.le_of_ble_eq_true rfl)⟩) (g_pv (ci := 5) hK hP (by decide) rfl kR rfl) rfl rfl hl.1 rfl (lv_room (Nat.le_of_ble_eq_true rfl)) dR_view_90 ⟨Nat.zero_le _, Nat.zero_le _⟩) hS (fun q _ h => gA_mono hS.1 q h) (fun q h => gA_mono hS.1 q h) (fun H locs hP hz hS => ?_)
        have hP : va_P D vwCl (gW cs ad (w2 σ 35 0 1) τ) H := by have h9 : va_P D vwCl (gW cs ad (s_refuse σ  (1 : Int32) (0 : Int32)) τ) H := hP; rw [srefuse_1] at h9; exact h9
        refine lv_topi (fun z_7 ez_7 => ?_)
        have ez_7 : z_7 = 1 := ez_7.trans frefuse_1
        subst ez_7
        refine lv_if_eq (tgt := 97) hx hb dR_view_93 (by decide) (fun c_8 => ?_) (fun c_8 => ?_)
        · exact absurd c_8 (by decide)
        · have es : s_rview σ a0 a1 a2 a3 a4 a5 = (w2 σ 35 0 (1 : Int32)) := by unfold s_rview; rw [if_neg c_1, if_pos c_5]
          exact W.vret hx hb hr (fun t ht9 hW => ⟨rfl, by show va_P D vwCl (gW cs ad (s_rview σ a0 a1 a2 a3 a4 a5) τ) t.heap; rw [ht9, es]; exact hP, hS.F ht9⟩) hS.2.2 dR_view_96
    · refine lv_iload_n hx hb dR_view_26 rfl (lv_at hl 3 rfl) ?_
      refine lv_iconst (v := 1) hx hb dR_view_27 (by decide) ?_
      refine lv_sipush (v := 1024) hx hb dR_view_28 (by decide) ?_
      refine g_pure (v := .int (f_in_ a2 (1 : Int32) (1024 : Int32))) (va_runS (As := [.int a2, .int 1, .int 1024]) (rest := []) ⟨hx, hb, hml, hown, hts⟩ (c_in_ l a2 (1 : Int32) (1024 : Int32)) (qS 3 ht tw_500 tw_501 tw_6 tk_R_in_ rfl rfl (by decide +kernel) ⟨(Nat.le_of_ble_eq_true rfl), (Nat.le_of_ble_eq_true rfl)⟩) g_pt rfl rfl hl.1 rfl (lv_room (Nat.le_of_ble_eq_true rfl)) dR_view_31 ⟨Nat.zero_le _, Nat.zero_le _⟩) ?_
      refine lv_if_eq (tgt := 75) hx hb dR_view_34 (by decide) (fun c_9 => ?_) (fun c_9 => ?_)
      · refine lv_iconst (v := 0) hx hb dR_view_75 (by decide) ?_
        refine lv_istore (lv' := [(7, .int 0), (0, .ref (ad 35)), (1, .int a0), (2, .int a1), (3, .int a2), (4, .int a3), (5, .int a4), (6, .int a5)]) hx hb dR_view_76 hl (by decide) rfl (fun ls hl => ?_)
        refine lv_aload_n hx hb dR_view_78 rfl (lv_at hl 1 rfl) ?_
        refine lv_iload hx hb dR_view_79 (lv_at hl 0 rfl) ?_
        refine lv_if_ne (tgt := 88) hx hb dR_view_81 (by decide) (fun c_10 => ?_) (fun c_10 => ?_)
        · exact absurd (by decide) c_10
        · refine lv_iconst (v := 1) hx hb dR_view_84 (by decide) ?_
          refine lv_goto (tgt := 89) hx hb dR_view_85 (by decide) ?_
          refine lv_iconst (v := 0) hx hb dR_view_89 (by decide) ?_
          refine g_runR (v := .int (f_refuse σ  (1 : Int32) (0 : Int32))) (va_runV (C := RR) (As := [.int 1, .int 0]) (rest := []) ⟨hx, hb, hml, hown, hts⟩ (c_refuse l hinj σ τ _  (1 : Int32) (0 : Int32) ) (qV 2 ht tw_503 tw_505 ts_R_refuse tw_6 tk_R_refuse rfl rfl (by decide +kernel) ⟨(Nat.le_of_ble_eq_true rfl), (Nat.le_of_ble_eq_true rfl)⟩) (g_pv (ci := 5) hK hP (by decide) rfl kR rfl) rfl rfl hl.1 rfl (lv_room (Nat.le_of_ble_eq_true rfl)) dR_view_90 ⟨Nat.zero_le _, Nat.zero_le _⟩) hS (fun q _ h => gA_mono hS.1 q h) (fun q h => gA_mono hS.1 q h) (fun H locs hP hz hS => ?_)
          have hP : va_P D vwCl (gW cs ad (w2 σ 35 0 1) τ) H := by have h9 : va_P D vwCl (gW cs ad (s_refuse σ  (1 : Int32) (0 : Int32)) τ) H := hP; rw [srefuse_1] at h9; exact h9
          refine lv_topi (fun z_11 ez_11 => ?_)
          have ez_11 : z_11 = 1 := ez_11.trans frefuse_1
          subst ez_11
          refine lv_if_eq (tgt := 97) hx hb dR_view_93 (by decide) (fun c_12 => ?_) (fun c_12 => ?_)
          · exact absurd c_12 (by decide)
          · have es : s_rview σ a0 a1 a2 a3 a4 a5 = (w2 σ 35 0 (1 : Int32)) := by unfold s_rview; rw [if_neg c_1, if_neg c_5, if_pos c_9]
            exact W.vret hx hb hr (fun t ht9 hW => ⟨rfl, by show va_P D vwCl (gW cs ad (s_rview σ a0 a1 a2 a3 a4 a5) τ) t.heap; rw [ht9, es]; exact hP, hS.F ht9⟩) hS.2.2 dR_view_96
      · refine lv_iload hx hb dR_view_37 (lv_at hl 4 rfl) ?_
        refine lv_iconst (v := 1) hx hb dR_view_39 (by decide) ?_
        refine lv_sipush (v := 1024) hx hb dR_view_40 (by decide) ?_
        refine g_pure (v := .int (f_in_ a3 (1 : Int32) (1024 : Int32))) (va_runS (As := [.int a3, .int 1, .int 1024]) (rest := []) ⟨hx, hb, hml, hown, hts⟩ (c_in_ l a3 (1 : Int32) (1024 : Int32)) (qS 3 ht tw_500 tw_501 tw_6 tk_R_in_ rfl rfl (by decide +kernel) ⟨(Nat.le_of_ble_eq_true rfl), (Nat.le_of_ble_eq_true rfl)⟩) g_pt rfl rfl hl.1 rfl (lv_room (Nat.le_of_ble_eq_true rfl)) dR_view_43 ⟨Nat.zero_le _, Nat.zero_le _⟩) ?_
        refine lv_if_eq (tgt := 75) hx hb dR_view_46 (by decide) (fun c_13 => ?_) (fun c_13 => ?_)
        · refine lv_iconst (v := 0) hx hb dR_view_75 (by decide) ?_
          refine lv_istore (lv' := [(7, .int 0), (0, .ref (ad 35)), (1, .int a0), (2, .int a1), (3, .int a2), (4, .int a3), (5, .int a4), (6, .int a5)]) hx hb dR_view_76 hl (by decide) rfl (fun ls hl => ?_)
          refine lv_aload_n hx hb dR_view_78 rfl (lv_at hl 1 rfl) ?_
          refine lv_iload hx hb dR_view_79 (lv_at hl 0 rfl) ?_
          refine lv_if_ne (tgt := 88) hx hb dR_view_81 (by decide) (fun c_14 => ?_) (fun c_14 => ?_)
          · exact absurd (by decide) c_14
          · refine lv_iconst (v := 1) hx hb dR_view_84 (by decide) ?_
            refine lv_goto (tgt := 89) hx hb dR_view_85 (by decide) ?_
            refine lv_iconst (v := 0) hx hb dR_view_89 (by decide) ?_
            refine g_runR (v := .int (f_refuse σ  (1 : Int32) (0 : Int32))) (va_runV (C := RR) (As := [.int 1, .int 0]) (rest := []) ⟨hx, hb, hml, hown, hts⟩ (c_refuse l hinj σ τ _  (1 : Int32) (0 : Int32) ) (qV 2 ht tw_503 tw_505 ts_R_refuse tw_6 tk_R_refuse rfl rfl (by decide +kernel) ⟨(Nat.le_of_ble_eq_true rfl), (Nat.le_of_ble_eq_true rfl)⟩) (g_pv (ci := 5) hK hP (by decide) rfl kR rfl) rfl rfl hl.1 rfl (lv_room (Nat.le_of_ble_eq_true rfl)) dR_view_90 ⟨Nat.zero_le _, Nat.zero_le _⟩) hS (fun q _ h => gA_mono hS.1 q h) (fun q h => gA_mono hS.1 q h) (fun H locs hP hz hS => ?_)
            have hP : va_P D vwCl (gW cs ad (w2 σ 35 0 1) τ) H := by have h9 : va_P D vwCl (gW cs ad (s_refuse σ  (1 : Int32) (0 : Int32)) τ) H := hP; rw [srefuse_1] at h9; exact h9
            refine lv_topi (fun z_15 ez_15 => ?_)
            have ez_15 : z_15 = 1 := ez_15.trans frefuse_1
            subst ez_15
            refine lv_if_eq (tgt := 97) hx hb dR_view_93 (by decide) (fun c_16 => ?_) (fun c_16 => ?_)
            · exact absurd c_16 (by decide)
            · have es : s_rview σ a0 a1 a2 a3 a4 a5 = (w2 σ 35 0 (1 : Int32)) := by unfold s_rview; rw [if_neg c_1, if_neg c_5, if_neg c_9, if_pos c_13]
              exact W.vret hx hb hr (fun t ht9 hW => ⟨rfl, by show va_P D vwCl (gW cs ad (s_rview σ a0 a1 a2 a3 a4 a5) τ) t.heap; rw [ht9, es]; exact hP, hS.F ht9⟩) hS.2.2 dR_view_96
        · refine lv_iload hx hb dR_view_49 (lv_at hl 5 rfl) ?_
          refine lv_iconst (v := 0) hx hb dR_view_51 (by decide) ?_
          refine lv_ldc (v := 16777215) hx hb hown (ht _ tw_451) dR_view_52 ?_
          refine g_pure (v := .int (f_in_ a4 (0 : Int32) (16777215 : Int32))) (va_runS (As := [.int a4, .int 0, .int 16777215]) (rest := []) ⟨hx, hb, hml, hown, hts⟩ (c_in_ l a4 (0 : Int32) (16777215 : Int32)) (qS 3 ht tw_500 tw_501 tw_6 tk_R_in_ rfl rfl (by decide +kernel) ⟨(Nat.le_of_ble_eq_true rfl), (Nat.le_of_ble_eq_true rfl)⟩) g_pt rfl rfl hl.1 rfl (lv_room (Nat.le_of_ble_eq_true rfl)) dR_view_54 ⟨Nat.zero_le _, Nat.zero_le _⟩) ?_
          refine lv_if_eq (tgt := 75) hx hb dR_view_57 (by decide) (fun c_17 => ?_) (fun c_17 => ?_)
          · refine lv_iconst (v := 0) hx hb dR_view_75 (by decide) ?_
            refine lv_istore (lv' := [(7, .int 0), (0, .ref (ad 35)), (1, .int a0), (2, .int a1), (3, .int a2), (4, .int a3), (5, .int a4), (6, .int a5)]) hx hb dR_view_76 hl (by decide) rfl (fun ls hl => ?_)
            refine lv_aload_n hx hb dR_view_78 rfl (lv_at hl 1 rfl) ?_
            refine lv_iload hx hb dR_view_79 (lv_at hl 0 rfl) ?_
            refine lv_if_ne (tgt := 88) hx hb dR_view_81 (by decide) (fun c_18 => ?_) (fun c_18 => ?_)
            · exact absurd (by decide) c_18
            · refine lv_iconst (v := 1) hx hb dR_view_84 (by decide) ?_
              refine lv_goto (tgt := 89) hx hb dR_view_85 (by decide) ?_
              refine lv_iconst (v := 0) hx hb dR_view_89 (by decide) ?_
              refine g_runR (v := .int (f_refuse σ  (1 : Int32) (0 : Int32))) (va_runV (C := RR) (As := [.int 1, .int 0]) (rest := []) ⟨hx, hb, hml, hown, hts⟩ (c_refuse l hinj σ τ _  (1 : Int32) (0 : Int32) ) (qV 2 ht tw_503 tw_505 ts_R_refuse tw_6 tk_R_refuse rfl rfl (by decide +kernel) ⟨(Nat.le_of_ble_eq_true rfl), (Nat.le_of_ble_eq_true rfl)⟩) (g_pv (ci := 5) hK hP (by decide) rfl kR rfl) rfl rfl hl.1 rfl (lv_room (Nat.le_of_ble_eq_true rfl)) dR_view_90 ⟨Nat.zero_le _, Nat.zero_le _⟩) hS (fun q _ h => gA_mono hS.1 q h) (fun q h => gA_mono hS.1 q h) (fun H locs hP hz hS => ?_)
              have hP : va_P D vwCl (gW cs ad (w2 σ 35 0 1) τ) H := by have h9 : va_P D vwCl (gW cs ad (s_refuse σ  (1 : Int32) (0 : Int32)) τ) H := hP; rw [srefuse_1] at h9; exact h9
              refine lv_topi (fun z_19 ez_19 => ?_)
              have ez_19 : z_19 = 1 := ez_19.trans frefuse_1
              subst ez_19
              refine lv_if_eq (tgt := 97) hx hb dR_view_93 (by decide) (fun c_20 => ?_) (fun c_20 => ?_)
              · exact absurd c_20 (by decide)
              · have es : s_rview σ a0 a1 a2 a3 a4 a5 = (w2 σ 35 0 (1 : Int32)) := by unfold s_rview; rw [if_neg c_1, if_neg c_5, if_neg c_9, if_neg c_13, if_pos c_17]
                exact W.vret hx hb hr (fun t ht9 hW => ⟨rfl, by show va_P D vwCl (gW cs ad (s_rview σ a0 a1 a2 a3 a4 a5) τ) t.heap; rw [ht9, es]; exact hP, hS.F ht9⟩) hS.2.2 dR_view_96
          · refine lv_iload hx hb dR_view_60 (lv_at hl 6 rfl) ?_
            refine lv_iconst (v := 0) hx hb dR_view_62 (by decide) ?_
            refine lv_ldc (v := 16777215) hx hb hown (ht _ tw_451) dR_view_63 ?_
            refine g_pure (v := .int (f_in_ a5 (0 : Int32) (16777215 : Int32))) (va_runS (As := [.int a5, .int 0, .int 16777215]) (rest := []) ⟨hx, hb, hml, hown, hts⟩ (c_in_ l a5 (0 : Int32) (16777215 : Int32)) (qS 3 ht tw_500 tw_501 tw_6 tk_R_in_ rfl rfl (by decide +kernel) ⟨(Nat.le_of_ble_eq_true rfl), (Nat.le_of_ble_eq_true rfl)⟩) g_pt rfl rfl hl.1 rfl (lv_room (Nat.le_of_ble_eq_true rfl)) dR_view_65 ⟨Nat.zero_le _, Nat.zero_le _⟩) ?_
            refine lv_if_eq (tgt := 75) hx hb dR_view_68 (by decide) (fun c_21 => ?_) (fun c_21 => ?_)
            · refine lv_iconst (v := 0) hx hb dR_view_75 (by decide) ?_
              refine lv_istore (lv' := [(7, .int 0), (0, .ref (ad 35)), (1, .int a0), (2, .int a1), (3, .int a2), (4, .int a3), (5, .int a4), (6, .int a5)]) hx hb dR_view_76 hl (by decide) rfl (fun ls hl => ?_)
              refine lv_aload_n hx hb dR_view_78 rfl (lv_at hl 1 rfl) ?_
              refine lv_iload hx hb dR_view_79 (lv_at hl 0 rfl) ?_
              refine lv_if_ne (tgt := 88) hx hb dR_view_81 (by decide) (fun c_22 => ?_) (fun c_22 => ?_)
              · exact absurd (by decide) c_22
              · refine lv_iconst (v := 1) hx hb dR_view_84 (by decide) ?_
                refine lv_goto (tgt := 89) hx hb dR_view_85 (by decide) ?_
                refine lv_iconst (v := 0) hx hb dR_view_89 (by decide) ?_
                refine g_runR (v := .int (f_refuse σ  (1 : Int32) (0 : Int32))) (va_runV (C := RR) (As := [.int 1, .int 0]) (rest := []) ⟨hx, hb, hml, hown, hts⟩ (c_refuse l hinj σ τ _  (1 : Int32) (0 : Int32) ) (qV 2 ht tw_503 tw_505 ts_R_refuse tw_6 tk_R_refuse rfl rfl (by decide +kernel) ⟨(Nat.le_of_ble_eq_true rfl), (Nat.le_of_ble_eq_true rfl)⟩) (g_pv (ci := 5) hK hP (by decide) rfl kR rfl) rfl rfl hl.1 rfl (lv_room (Nat.le_of_ble_eq_true rfl)) dR_view_90 ⟨Nat.zero_le _, Nat.zero_le _⟩) hS (fun q _ h => gA_mono hS.1 q h) (fun q h => gA_mono hS.1 q h) (fun H locs hP hz hS => ?_)
                have hP : va_P D vwCl (gW cs ad (w2 σ 35 0 1) τ) H := by have h9 : va_P D vwCl (gW cs ad (s_refuse σ  (1 : Int32) (0 : Int32)) τ) H := hP; rw [srefuse_1] at h9; exact h9
                refine lv_topi (fun z_23 ez_23 => ?_)
                have ez_23 : z_23 = 1 := ez_23.trans frefuse_1
                subst ez_23
                refine lv_if_eq (tgt := 97) hx hb dR_view_93 (by decide) (fun c_24 => ?_) (fun c_24 => ?_)
                · exact absurd c_24 (by decide)
                · have es : s_rview σ a0 a1 a2 a3 a4 a5 = (w2 σ 35 0 (1 : Int32)) := by unfold s_rview; rw [if_neg c_1, if_neg c_5, if_neg c_9, if_neg c_13, if_neg c_17, if_pos c_21]
                  exact W.vret hx hb hr (fun t ht9 hW => ⟨rfl, by show va_P D vwCl (gW cs ad (s_rview σ a0 a1 a2 a3 a4 a5) τ) t.heap; rw [ht9, es]; exact hP, hS.F ht9⟩) hS.2.2 dR_view_96
            · refine lv_iconst (v := 1) hx hb dR_view_71 (by decide) ?_
              refine lv_goto (tgt := 76) hx hb dR_view_72 (by decide) ?_
              refine lv_istore (lv' := [(7, .int 1), (0, .ref (ad 35)), (1, .int a0), (2, .int a1), (3, .int a2), (4, .int a3), (5, .int a4), (6, .int a5)]) hx hb dR_view_76 hl (by decide) rfl (fun ls hl => ?_)
              refine lv_aload_n hx hb dR_view_78 rfl (lv_at hl 1 rfl) ?_
              refine lv_iload hx hb dR_view_79 (lv_at hl 0 rfl) ?_
              refine lv_if_ne (tgt := 88) hx hb dR_view_81 (by decide) (fun c_25 => ?_) (fun c_25 => ?_)
              · refine lv_iconst (v := 0) hx hb dR_view_88 (by decide) ?_
                refine lv_iconst (v := 0) hx hb dR_view_89 (by decide) ?_
                refine g_runR (v := .int (f_refuse σ  (0 : Int32) (0 : Int32))) (va_runV (C := RR) (As := [.int 0, .int 0]) (rest := []) ⟨hx, hb, hml, hown, hts⟩ (c_refuse l hinj σ τ _  (0 : Int32) (0 : Int32) ) (qV 2 ht tw_503 tw_505 ts_R_refuse tw_6 tk_R_refuse rfl rfl (by decide +kernel) ⟨(Nat.le_of_ble_eq_true rfl), (Nat.le_of_ble_eq_true rfl)⟩) (g_pv (ci := 5) hK hP (by decide) rfl kR rfl) rfl rfl hl.1 rfl (lv_room (Nat.le_of_ble_eq_true rfl)) dR_view_90 ⟨Nat.zero_le _, Nat.zero_le _⟩) hS (fun q _ h => gA_mono hS.1 q h) (fun q h => gA_mono hS.1 q h) (fun H locs hP hz hS => ?_)
                have hP : va_P D vwCl (gW cs ad (w2 σ 35 0 0) τ) H := by have h9 : va_P D vwCl (gW cs ad (s_refuse σ  (0 : Int32) (0 : Int32)) τ) H := hP; rw [srefuse_00] at h9; exact h9
                refine lv_topi (fun z_26 ez_26 => ?_)
                have ez_26 : z_26 = 0 := ez_26.trans frefuse_00
                subst ez_26
                refine lv_if_eq (tgt := 97) hx hb dR_view_93 (by decide) (fun c_27 => ?_) (fun c_27 => ?_)
                · refine lv_aload_n hx hb dR_view_97 rfl (lv_at hl 1 rfl) ?_
                  refine g_get (ci := 5) (C := RR) (T := TR) (M := 13) (v := .ref (ad 39)) hx hb ht inR hown hK hP 35 (by decide) kR rfl 4 (by decide) (ht _ tw_456) (fun _ h9 => h9) rfl dR_view_98 ?_
                  refine lv_iconst (v := 0) hx hb dR_view_101 (by decide) ?_
                  refine lv_iload_n hx hb dR_view_102 rfl (lv_at hl 2 rfl) ?_
                  have hi_28 : vp_in (0 : Int32) 6 := (by unfold vp_in; decide)
                  refine g_iast hx hb hK hP hD hS 39 0 (by decide) (fun r t => kR39) rfl hi_28 dR_view_103 (fun H locs hP hS => ?_)
                  refine lv_aload_n hx hb dR_view_104 rfl (lv_at hl 1 rfl) ?_
                  refine g_get (ci := 5) (C := RR) (T := TR) (M := 13) (v := .ref (ad 39)) hx hb ht inR hown hK hP 35 (by decide) kR rfl 4 (by decide) (ht _ tw_456) (fun _ h9 => h9) rfl dR_view_105 ?_
                  refine lv_iconst (v := 1) hx hb dR_view_108 (by decide) ?_
                  refine lv_iload_n hx hb dR_view_109 rfl (lv_at hl 3 rfl) ?_
                  have hi_29 : vp_in (1 : Int32) 6 := (by unfold vp_in; decide)
                  refine g_iast hx hb hK hP hD hS 39 0 (by decide) (fun r t => kR39) rfl hi_29 dR_view_110 (fun H locs hP hS => ?_)
                  refine lv_aload_n hx hb dR_view_111 rfl (lv_at hl 1 rfl) ?_
                  refine g_get (ci := 5) (C := RR) (T := TR) (M := 13) (v := .ref (ad 39)) hx hb ht inR hown hK hP 35 (by decide) kR rfl 4 (by decide) (ht _ tw_456) (fun _ h9 => h9) rfl dR_view_112 ?_
                  refine lv_iconst (v := 2) hx hb dR_view_115 (by decide) ?_
                  refine lv_iload_n hx hb dR_view_116 rfl (lv_at hl 4 rfl) ?_
                  have hi_30 : vp_in (2 : Int32) 6 := (by unfold vp_in; decide)
                  refine g_iast hx hb hK hP hD hS 39 0 (by decide) (fun r t => kR39) rfl hi_30 dR_view_117 (fun H locs hP hS => ?_)
                  refine lv_aload_n hx hb dR_view_118 rfl (lv_at hl 1 rfl) ?_
                  refine g_get (ci := 5) (C := RR) (T := TR) (M := 13) (v := .ref (ad 39)) hx hb ht inR hown hK hP 35 (by decide) kR rfl 4 (by decide) (ht _ tw_456) (fun _ h9 => h9) rfl dR_view_119 ?_
                  refine lv_iconst (v := 3) hx hb dR_view_122 (by decide) ?_
                  refine lv_iload hx hb dR_view_123 (lv_at hl 5 rfl) ?_
                  have hi_31 : vp_in (3 : Int32) 6 := (by unfold vp_in; decide)
                  refine g_iast hx hb hK hP hD hS 39 0 (by decide) (fun r t => kR39) rfl hi_31 dR_view_125 (fun H locs hP hS => ?_)
                  refine lv_aload_n hx hb dR_view_126 rfl (lv_at hl 1 rfl) ?_
                  refine g_get (ci := 5) (C := RR) (T := TR) (M := 13) (v := .ref (ad 39)) hx hb ht inR hown hK hP 35 (by decide) kR rfl 4 (by decide) (ht _ tw_456) (fun _ h9 => h9) rfl dR_view_127 ?_
                  refine lv_iconst (v := 4) hx hb dR_view_130 (by decide) ?_
                  refine lv_iload hx hb dR_view_131 (lv_at hl 6 rfl) ?_
                  have hi_32 : vp_in (4 : Int32) 6 := (by unfold vp_in; decide)
                  refine g_iast hx hb hK hP hD hS 39 0 (by decide) (fun r t => kR39) rfl hi_32 dR_view_133 (fun H locs hP hS => ?_)
                  refine lv_aload_n hx hb dR_view_134 rfl (lv_at hl 1 rfl) ?_
                  refine g_get (ci := 5) (C := RR) (T := TR) (M := 13) (v := .ref (ad 39)) hx hb ht inR hown hK hP 35 (by decide) kR rfl 4 (by decide) (ht _ tw_456) (fun _ h9 => h9) rfl dR_view_135 ?_
                  refine lv_iconst (v := 5) hx hb dR_view_138 (by decide) ?_
                  refine lv_iload hx hb dR_view_139 (lv_at hl 7 rfl) ?_
                  have hi_33 : vp_in (5 : Int32) 6 := (by unfold vp_in; decide)
                  refine g_iast hx hb hK hP hD hS 39 0 (by decide) (fun r t => kR39) rfl hi_33 dR_view_141 (fun H locs hP hS => ?_)
                  refine lv_aload_n hx hb dR_view_142 rfl (lv_at hl 1 rfl) ?_
                  refine lv_iconst (v := 0) hx hb dR_view_143 (by decide) ?_
                  refine g_put (ci := 5) (C := RR) (T := TR) (M := 13) (ty := .int) (x := 0) hx hb ht inR tyR tyR_ok nmR hown hK hP hD hS 35 (by decide) (fR ad) (fun r t => kR) rfl 11 (by decide) (ht _ tw_463) (fun _ h9 => h9) rfl (by decide +kernel) rfl rfl (Nat.le_of_ble_eq_true rfl) rfl dR_view_144 (fun H locs hP hS => ?_)
                  have es : s_rview σ a0 a1 a2 a3 a4 a5 = (w2 (w2 (w2 (w2 (w2 (w2 (w2 (w2 σ 35 0 (0 : Int32)) 39 ((0 : Int32).toNatClampNeg) a0) 39 ((1 : Int32).toNatClampNeg) a1) 39 ((2 : Int32).toNatClampNeg) a2) 39 ((3 : Int32).toNatClampNeg) a3) 39 ((4 : Int32).toNatClampNeg) a4) 39 ((5 : Int32).toNatClampNeg) a5) 35 11 (0 : Int32)) := by unfold s_rview; rw [if_neg c_1, if_neg c_5, if_neg c_9, if_neg c_13, if_neg c_17, if_neg c_21]
                  exact W.vret hx hb hr (fun t ht9 hW => ⟨rfl, by show va_P D vwCl (gW cs ad (s_rview σ a0 a1 a2 a3 a4 a5) τ) t.heap; rw [ht9, es]; exact hP, hS.F ht9⟩) hS.2.2 dR_view_147
                · exact absurd (by decide) c_27
              · exact absurd c_25 (by decide)
def s_rfaces (σ : Nat → Nat → Int32)  (a0 : Int32) (a1 : Int32) : Nat → Nat → Int32 :=
  if (f_in_ a0 (0 : Int32) (3 : Int32)) = 0 then
    (w2 σ 35 0 (1 : Int32))
  else
    (w2 (w2 (w2 (w2 σ 35 0 (0 : Int32)) 35 5 a0) 35 6 a1) 35 11 (0 : Int32))
set_option maxHeartbeats 4000000 in
set_option maxRecDepth 100000 in
theorem c_rfaces (l : Launch) {D : va_G} {cs : Nat → ClassId} {ad : Nat → Nat} (hinj : gI ad) (σ : Nat → Nat → Int32) (τ : Nat → Nat → Int64) (sz : Nat)  (a0 : Int32) (a1 : Int32) (hb1 : a1 = 0 ∨ a1 = 1) : Met l yR_faces (wsB kR_faces) ({ frames := 1, cells := 0, slots := 0, locals := 22 } : Room) (va_Pc [.ref (ad 35), .int a0, .int a1] (gP D cs ad σ τ sz)) (gQ none (gB D cs ad (s_rfaces σ a0 a1) τ) (gA NC ad sz)) 0 0 (gA NC ad sz) := by
  refine Met.ofW (cc := cR_faces) (maxL := 3) (ret := none) (by decide) rfl ?_
  intro p e s m args below meth c s₁ B hml hv
  obtain ⟨rfl, hsz, hP, hK⟩ := hv
  have hx := B.exec
  have hb := B.bytes
  have hr := B.returns
  have hts := atoms_spec (ws := wsB kR_faces) B.pre
  have ht := hbig hts
  have hown : s.vm.findClass RR = some m.cls := findClass_of_methodNamed B.named
  have hlocks := B.notSynchronized
  subst hsz
  have hD : ∀ σ τ, va_D (gA NC ad s.heap.size) (gW cs ad σ τ) := fun _ _ => gw_D hinj (fun i h => gA_ad h)
  have hS : va_S (gA NC ad s.heap.size) s.heap s.heap [] := va_S.rf
  have hl := lv_entry ([.ref (ad 35), .int a0, .int a1]) (n := 3) (Nat.le_of_ble_eq_true rfl)
  rw [lg_entry_eq]
  generalize (lg_sl ([.ref (ad 35), .int a0, .int a1]) ++ List.replicate (3 - (lg_sl ([.ref (ad 35), .int a0, .int a1])).length) Slot.unset).toArray = ls at hl ⊢
  have hl : lv_has ls 3 [(0, .ref (ad 35)), (1, .int a0), (2, .int a1)] := hl
  refine lv_aload_n hx hb dR_faces_0 rfl (lv_at hl 0 rfl) ?_
  refine lv_iload_n hx hb dR_faces_1 rfl (lv_at hl 1 rfl) ?_
  refine lv_iconst (v := 0) hx hb dR_faces_2 (by decide) ?_
  refine lv_iconst (v := 3) hx hb dR_faces_3 (by decide) ?_
  refine g_pure (v := .int (f_in_ a0 (0 : Int32) (3 : Int32))) (va_runS (As := [.int a0, .int 0, .int 3]) (rest := [.ref (ad 35)]) ⟨hx, hb, hml, hown, hts⟩ (c_in_ l a0 (0 : Int32) (3 : Int32)) (qS 3 ht tw_500 tw_501 tw_6 tk_R_in_ rfl rfl (by decide +kernel) ⟨(Nat.le_of_ble_eq_true rfl), (Nat.le_of_ble_eq_true rfl)⟩) g_pt rfl rfl hl.1 rfl (lv_room (Nat.le_of_ble_eq_true rfl)) dR_faces_4 ⟨Nat.zero_le _, Nat.zero_le _⟩) ?_
  refine lv_if_ne (tgt := 14) hx hb dR_faces_7 (by decide) (fun c_1 => ?_) (fun c_1 => ?_)
  · refine lv_iconst (v := 0) hx hb dR_faces_14 (by decide) ?_
    refine lv_iconst (v := 0) hx hb dR_faces_15 (by decide) ?_
    refine g_runR (v := .int (f_refuse σ  (0 : Int32) (0 : Int32))) (va_runV (C := RR) (As := [.int 0, .int 0]) (rest := []) ⟨hx, hb, hml, hown, hts⟩ (c_refuse l hinj σ τ _  (0 : Int32) (0 : Int32) ) (qV 2 ht tw_503 tw_505 ts_R_refuse tw_6 tk_R_refuse rfl rfl (by decide +kernel) ⟨(Nat.le_of_ble_eq_true rfl), (Nat.le_of_ble_eq_true rfl)⟩) (g_pv (ci := 5) hK hP (by decide) rfl kR rfl) rfl rfl hl.1 rfl (lv_room (Nat.le_of_ble_eq_true rfl)) dR_faces_16 ⟨Nat.zero_le _, Nat.zero_le _⟩) hS (fun q _ h => gA_mono hS.1 q h) (fun q h => gA_mono hS.1 q h) (fun H locs hP hz hS => ?_)
    have hP : va_P D vwCl (gW cs ad (w2 σ 35 0 0) τ) H := by have h9 : va_P D vwCl (gW cs ad (s_refuse σ  (0 : Int32) (0 : Int32)) τ) H := hP; rw [srefuse_00] at h9; exact h9
    refine lv_topi (fun z_2 ez_2 => ?_)
    have ez_2 : z_2 = 0 := ez_2.trans frefuse_00
    subst ez_2
    refine lv_if_eq (tgt := 23) hx hb dR_faces_19 (by decide) (fun c_3 => ?_) (fun c_3 => ?_)
    · refine lv_aload_n hx hb dR_faces_23 rfl (lv_at hl 0 rfl) ?_
      refine lv_iload_n hx hb dR_faces_24 rfl (lv_at hl 1 rfl) ?_
      refine g_put (ci := 5) (C := RR) (T := TR) (M := 13) (ty := .int) (x := a0) hx hb ht inR tyR tyR_ok nmR hown hK hP hD hS 35 (by decide) (fR ad) (fun r t => kR) rfl 5 (by decide) (ht _ tw_457) (fun _ h9 => h9) rfl (by decide +kernel) rfl rfl (Nat.le_of_ble_eq_true rfl) rfl dR_faces_25 (fun H locs hP hS => ?_)
      refine lv_aload_n hx hb dR_faces_28 rfl (lv_at hl 0 rfl) ?_
      refine lv_iload_n hx hb dR_faces_29 rfl (lv_at hl 2 rfl) ?_
      refine g_put (ci := 5) (C := RR) (T := TR) (M := 13) (ty := .boolean) (x := a1) hx hb ht inR tyR tyR_ok nmR hown hK hP hD hS 35 (by decide) (fR ad) (fun r t => kR) rfl 6 (by decide) (ht _ tw_458) (fun _ h9 => h9) rfl (by decide +kernel) (nar01 hb1) (fit01 hb1) (Nat.le_of_ble_eq_true rfl) rfl dR_faces_30 (fun H locs hP hS => ?_)
      refine lv_aload_n hx hb dR_faces_33 rfl (lv_at hl 0 rfl) ?_
      refine lv_iconst (v := 0) hx hb dR_faces_34 (by decide) ?_
      refine g_put (ci := 5) (C := RR) (T := TR) (M := 13) (ty := .int) (x := 0) hx hb ht inR tyR tyR_ok nmR hown hK hP hD hS 35 (by decide) (fR ad) (fun r t => kR) rfl 11 (by decide) (ht _ tw_463) (fun _ h9 => h9) rfl (by decide +kernel) rfl rfl (Nat.le_of_ble_eq_true rfl) rfl dR_faces_35 (fun H locs hP hS => ?_)
      have es : s_rfaces σ a0 a1 = (w2 (w2 (w2 (w2 σ 35 0 (0 : Int32)) 35 5 a0) 35 6 a1) 35 11 (0 : Int32)) := by unfold s_rfaces; rw [if_neg c_1]
      exact W.vret hx hb hr (fun t ht9 hW => ⟨rfl, by show va_P D vwCl (gW cs ad (s_rfaces σ a0 a1) τ) t.heap; rw [ht9, es]; exact hP, hS.F ht9⟩) hS.2.2 dR_faces_38
    · exact absurd (by decide) c_3
  · refine lv_iconst (v := 1) hx hb dR_faces_10 (by decide) ?_
    refine lv_goto (tgt := 15) hx hb dR_faces_11 (by decide) ?_
    refine lv_iconst (v := 0) hx hb dR_faces_15 (by decide) ?_
    refine g_runR (v := .int (f_refuse σ  (1 : Int32) (0 : Int32))) (va_runV (C := RR) (As := [.int 1, .int 0]) (rest := []) ⟨hx, hb, hml, hown, hts⟩ (c_refuse l hinj σ τ _  (1 : Int32) (0 : Int32) ) (qV 2 ht tw_503 tw_505 ts_R_refuse tw_6 tk_R_refuse rfl rfl (by decide +kernel) ⟨(Nat.le_of_ble_eq_true rfl), (Nat.le_of_ble_eq_true rfl)⟩) (g_pv (ci := 5) hK hP (by decide) rfl kR rfl) rfl rfl hl.1 rfl (lv_room (Nat.le_of_ble_eq_true rfl)) dR_faces_16 ⟨Nat.zero_le _, Nat.zero_le _⟩) hS (fun q _ h => gA_mono hS.1 q h) (fun q h => gA_mono hS.1 q h) (fun H locs hP hz hS => ?_)
    have hP : va_P D vwCl (gW cs ad (w2 σ 35 0 1) τ) H := by have h9 : va_P D vwCl (gW cs ad (s_refuse σ  (1 : Int32) (0 : Int32)) τ) H := hP; rw [srefuse_1] at h9; exact h9
    refine lv_topi (fun z_4 ez_4 => ?_)
    have ez_4 : z_4 = 1 := ez_4.trans frefuse_1
    subst ez_4
    refine lv_if_eq (tgt := 23) hx hb dR_faces_19 (by decide) (fun c_5 => ?_) (fun c_5 => ?_)
    · exact absurd c_5 (by decide)
    · have es : s_rfaces σ a0 a1 = (w2 σ 35 0 (1 : Int32)) := by unfold s_rfaces; rw [if_pos c_1]
      exact W.vret hx hb hr (fun t ht9 hW => ⟨rfl, by show va_P D vwCl (gW cs ad (s_rfaces σ a0 a1) τ) t.heap; rw [ht9, es]; exact hP, hS.F ht9⟩) hS.2.2 dR_faces_22
def f_rinside (σ : Nat → Nat → Int32)  (a0 : Int32) (a1 : Int32) : Int64 :=
  if a1 = 0 then
    (((σ 40 (((32 * a0) + 2).toNatClampNeg)).toInt64) + ((σ 40 (((32 * a0) + 3).toNatClampNeg)).toInt64))
  else
    (((σ 40 (((32 * a0) + 3).toNatClampNeg)).toInt64) - 256)
set_option maxHeartbeats 4000000 in
set_option maxRecDepth 100000 in
theorem c_rinside (l : Launch) {D : va_G} {cs : Nat → ClassId} {ad : Nat → Nat} (hinj : gI ad) (σ : Nat → Nat → Int32) (τ : Nat → Nat → Int64) (sz : Nat)  (a0 : Int32) (a1 : Int32) (hc : 0 ≤ a0.toInt ∧ a0.toInt ≤ 7) : Met l yR_inside (wsB kR_inside) ({ frames := 0, cells := 0, slots := 0, locals := 0 } : Room) (va_Pc [.ref (ad 35), .int a0, .int a1] (gP D cs ad σ τ sz)) (gR (some (.long (f_rinside σ a0 a1)))) 0 0 (fun _ => False) := by
  refine Met.ofW (cc := cR_inside) (maxL := 3) (ret := (some .long)) (by decide) rfl ?_
  intro p e s m args below meth c s₁ B hml hv
  obtain ⟨rfl, hsz, hP, hK⟩ := hv
  have hx := B.exec
  have hb := B.bytes
  have hr := B.returns
  have hts := atoms_spec (ws := wsB kR_inside) B.pre
  have ht := hbig hts
  have hown : s.vm.findClass RR = some m.cls := findClass_of_methodNamed B.named
  have hlocks := B.notSynchronized
  subst hsz
  have hD : ∀ σ τ, va_D (gA NC ad s.heap.size) (gW cs ad σ τ) := fun _ _ => gw_D hinj (fun i h => gA_ad h)
  have hS : va_S (gA NC ad s.heap.size) s.heap s.heap [] := va_S.rf
  have hl := lv_entry ([.ref (ad 35), .int a0, .int a1]) (n := 3) (Nat.le_of_ble_eq_true rfl)
  rw [lg_entry_eq]
  generalize (lg_sl ([.ref (ad 35), .int a0, .int a1]) ++ List.replicate (3 - (lg_sl ([.ref (ad 35), .int a0, .int a1])).length) Slot.unset).toArray = ls at hl ⊢
  have hl : lv_has ls 3 [(0, .ref (ad 35)), (1, .int a0), (2, .int a1)] := hl
  refine lv_iload_n hx hb dR_inside_0 rfl (lv_at hl 2 rfl) ?_
  refine lv_if_eq (tgt := 23) hx hb dR_inside_1 (by decide) (fun c_1 => ?_) (fun c_1 => ?_)
  · refine lv_aload_n hx hb dR_inside_23 rfl (lv_at hl 0 rfl) ?_
    refine g_get (ci := 5) (C := RR) (T := TR) (M := 13) (v := .ref (ad 40)) hx hb ht inR hown hK hP 35 (by decide) kR rfl 8 (by decide) (ht _ tw_460) (fun _ h9 => h9) rfl dR_inside_24 ?_
    refine lv_bipush (v := 32) hx hb dR_inside_27 (by decide) ?_
    refine lv_iload_n hx hb dR_inside_29 rfl (lv_at hl 1 rfl) ?_
    refine lv_imul hx hb dR_inside_30 ?_
    refine lv_iconst (v := 2) hx hb dR_inside_31 (by decide) ?_
    refine lv_iadd hx hb dR_inside_32 ?_
    have hi_2 : vp_in ((32 * a0) + 2) 256 := (by have l2 : (2 : Int32).toInt = 2 := (by decide); have l32 : (32 : Int32).toInt = 32 := (by decide); have b0 := hc; rw [vp_in_iff]; (try simp only [Int32.toInt_add, Int32.toInt_sub, Int32.toInt_mul, Int.bmod_def, l2, l32]); omega)
    refine g_iald hx hb hK hP 40 0 (by decide) (fun r t => kR40) rfl hi_2 dR_inside_33 ?_
    refine lv_i2l hx hb dR_inside_34 rfl ?_
    refine lv_aload_n hx hb dR_inside_35 rfl (lv_at hl 0 rfl) ?_
    refine g_get (ci := 5) (C := RR) (T := TR) (M := 13) (v := .ref (ad 40)) hx hb ht inR hown hK hP 35 (by decide) kR rfl 8 (by decide) (ht _ tw_460) (fun _ h9 => h9) rfl dR_inside_36 ?_
    refine lv_bipush (v := 32) hx hb dR_inside_39 (by decide) ?_
    refine lv_iload_n hx hb dR_inside_41 rfl (lv_at hl 1 rfl) ?_
    refine lv_imul hx hb dR_inside_42 ?_
    refine lv_iconst (v := 3) hx hb dR_inside_43 (by decide) ?_
    refine lv_iadd hx hb dR_inside_44 ?_
    have hi_3 : vp_in ((32 * a0) + 3) 256 := (by have l3 : (3 : Int32).toInt = 3 := (by decide); have l32 : (32 : Int32).toInt = 32 := (by decide); have b0 := hc; rw [vp_in_iff]; (try simp only [Int32.toInt_add, Int32.toInt_sub, Int32.toInt_mul, Int.bmod_def, l3, l32]); omega)
    refine g_iald hx hb hK hP 40 0 (by decide) (fun r t => kR40) rfl hi_3 dR_inside_45 ?_
    refine lv_i2l hx hb dR_inside_46 rfl ?_
    refine lv_ladd hx hb dR_inside_47 ?_
    have ev : f_rinside σ a0 a1 = (((σ 40 (((32 * a0) + 2).toNatClampNeg)).toInt64) + ((σ 40 (((32 * a0) + 3).toNatClampNeg)).toInt64)) := by unfold f_rinside; rw [if_pos c_1]
    exact W.lret (v := (((σ 40 (((32 * a0) + 2).toNatClampNeg)).toInt64) + ((σ 40 (((32 * a0) + 3).toNatClampNeg)).toInt64))) hx hb hr (fun t ht9 hW => ⟨by rw [ev], ht9⟩) (fun q hq => by cases hq) dR_inside_48
  · refine lv_aload_n hx hb dR_inside_4 rfl (lv_at hl 0 rfl) ?_
    refine g_get (ci := 5) (C := RR) (T := TR) (M := 13) (v := .ref (ad 40)) hx hb ht inR hown hK hP 35 (by decide) kR rfl 8 (by decide) (ht _ tw_460) (fun _ h9 => h9) rfl dR_inside_5 ?_
    refine lv_bipush (v := 32) hx hb dR_inside_8 (by decide) ?_
    refine lv_iload_n hx hb dR_inside_10 rfl (lv_at hl 1 rfl) ?_
    refine lv_imul hx hb dR_inside_11 ?_
    refine lv_iconst (v := 3) hx hb dR_inside_12 (by decide) ?_
    refine lv_iadd hx hb dR_inside_13 ?_
    have hi_4 : vp_in ((32 * a0) + 3) 256 := (by have l3 : (3 : Int32).toInt = 3 := (by decide); have l32 : (32 : Int32).toInt = 32 := (by decide); have b0 := hc; rw [vp_in_iff]; (try simp only [Int32.toInt_add, Int32.toInt_sub, Int32.toInt_mul, Int.bmod_def, l3, l32]); omega)
    refine g_iald hx hb hK hP 40 0 (by decide) (fun r t => kR40) rfl hi_4 dR_inside_14 ?_
    refine lv_i2l hx hb dR_inside_15 rfl ?_
    refine lv_ldc2 (v := 256) hx hb hown (ht _ tw_575) dR_inside_16 ?_
    refine lv_lsub hx hb dR_inside_19 ?_
    refine lv_goto (tgt := 48) hx hb dR_inside_20 (by decide) ?_
    have ev : f_rinside σ a0 a1 = (((σ 40 (((32 * a0) + 3).toNatClampNeg)).toInt64) - 256) := by unfold f_rinside; rw [if_neg c_1]
    exact W.lret (v := (((σ 40 (((32 * a0) + 3).toNatClampNeg)).toInt64) - 256)) hx hb hr (fun t ht9 hW => ⟨by rw [ev], ht9⟩) (fun q hq => by cases hq) dR_inside_48
def f_rareaOf (σ : Nat → Nat → Int32)  (a0 : Int32) : Int64 :=
  (((((σ 42 ((4 * (f_cornerOf a0 (1 : Int32))).toNatClampNeg)).toInt64) - ((σ 42 ((0 : Int32).toNatClampNeg)).toInt64)) * (((σ 42 (((4 * (f_cornerOf a0 (2 : Int32))) + 1).toNatClampNeg)).toInt64) - ((σ 42 ((1 : Int32).toNatClampNeg)).toInt64))) - ((((σ 42 ((4 * (f_cornerOf a0 (2 : Int32))).toNatClampNeg)).toInt64) - ((σ 42 ((0 : Int32).toNatClampNeg)).toInt64)) * (((σ 42 (((4 * (f_cornerOf a0 (1 : Int32))) + 1).toNatClampNeg)).toInt64) - ((σ 42 ((1 : Int32).toNatClampNeg)).toInt64))))
set_option maxHeartbeats 4000000 in
set_option maxRecDepth 100000 in
theorem c_rareaOf (l : Launch) {D : va_G} {cs : Nat → ClassId} {ad : Nat → Nat} (hinj : gI ad) (σ : Nat → Nat → Int32) (τ : Nat → Nat → Int64) (sz : Nat)  (a0 : Int32) (hc : 0 ≤ a0.toInt ∧ a0.toInt ≤ 2) : Met l yR_areaOf (wsB kR_areaOf) ({ frames := 1, cells := 0, slots := 0, locals := 21 } : Room) (va_Pc [.ref (ad 35), .int a0] (gP D cs ad σ τ sz)) (gR (some (.long (f_rareaOf σ a0)))) 0 0 (fun _ => False) := by
  refine Met.ofW (cc := cR_areaOf) (maxL := 8) (ret := (some .long)) (by decide) rfl ?_
  intro p e s m args below meth c s₁ B hml hv
  obtain ⟨rfl, hsz, hP, hK⟩ := hv
  have hx := B.exec
  have hb := B.bytes
  have hr := B.returns
  have hts := atoms_spec (ws := wsB kR_areaOf) B.pre
  have ht := hbig hts
  have hown : s.vm.findClass RR = some m.cls := findClass_of_methodNamed B.named
  have hlocks := B.notSynchronized
  subst hsz
  have hD : ∀ σ τ, va_D (gA NC ad s.heap.size) (gW cs ad σ τ) := fun _ _ => gw_D hinj (fun i h => gA_ad h)
  have hS : va_S (gA NC ad s.heap.size) s.heap s.heap [] := va_S.rf
  have hl := lv_entry ([.ref (ad 35), .int a0]) (n := 8) (Nat.le_of_ble_eq_true rfl)
  rw [lg_entry_eq]
  generalize (lg_sl ([.ref (ad 35), .int a0]) ++ List.replicate (8 - (lg_sl ([.ref (ad 35), .int a0])).length) Slot.unset).toArray = ls at hl ⊢
  have hl : lv_has ls 8 [(0, .ref (ad 35)), (1, .int a0)] := hl
  refine lv_aload_n hx hb dR_areaOf_0 rfl (lv_at hl 0 rfl) ?_
  refine g_get (ci := 5) (C := RR) (T := TR) (M := 13) (v := .ref (ad 42)) hx hb ht inR hown hK hP 35 (by decide) kR rfl 12 (by decide) (ht _ tw_464) (fun _ h9 => h9) rfl dR_areaOf_1 ?_
  refine lv_iconst (v := 0) hx hb dR_areaOf_4 (by decide) ?_
  have hi_1 : vp_in (0 : Int32) 32 := (by unfold vp_in; decide)
  refine g_iald hx hb hK hP 42 0 (by decide) (fun r t => kR42) rfl hi_1 dR_areaOf_5 ?_
  refine lv_i2l hx hb dR_areaOf_6 rfl ?_
  refine lv_lstore_n (lv' := [(2, .long ((σ 42 ((0 : Int32).toNatClampNeg)).toInt64)), (0, .ref (ad 35)), (1, .int a0)]) hx hb dR_areaOf_7 rfl hl (by decide) rfl (fun ls hl => ?_)
  refine lv_aload_n hx hb dR_areaOf_8 rfl (lv_at hl 1 rfl) ?_
  refine g_get (ci := 5) (C := RR) (T := TR) (M := 13) (v := .ref (ad 42)) hx hb ht inR hown hK hP 35 (by decide) kR rfl 12 (by decide) (ht _ tw_464) (fun _ h9 => h9) rfl dR_areaOf_9 ?_
  refine lv_iconst (v := 1) hx hb dR_areaOf_12 (by decide) ?_
  have hi_2 : vp_in (1 : Int32) 32 := (by unfold vp_in; decide)
  refine g_iald hx hb hK hP 42 0 (by decide) (fun r t => kR42) rfl hi_2 dR_areaOf_13 ?_
  refine lv_i2l hx hb dR_areaOf_14 rfl ?_
  refine lv_lstore (lv' := [(4, .long ((σ 42 ((1 : Int32).toNatClampNeg)).toInt64)), (2, .long ((σ 42 ((0 : Int32).toNatClampNeg)).toInt64)), (0, .ref (ad 35)), (1, .int a0)]) hx hb dR_areaOf_15 hl (by decide) rfl (fun ls hl => ?_)
  refine lv_iconst (v := 4) hx hb dR_areaOf_17 (by decide) ?_
  refine lv_iload_n hx hb dR_areaOf_18 rfl (lv_at hl 3 rfl) ?_
  refine lv_iconst (v := 1) hx hb dR_areaOf_19 (by decide) ?_
  refine g_pure (v := .int (f_cornerOf a0 (1 : Int32))) (va_runS (As := [.int a0, .int 1]) (rest := [.int 4]) ⟨hx, hb, hml, hown, hts⟩ (c_cornerOf l a0 (1 : Int32)) (qS 2 ht tw_605 tw_606 tw_6 tk_R_cornerOf rfl rfl (by decide +kernel) ⟨(Nat.le_of_ble_eq_true rfl), (Nat.le_of_ble_eq_true rfl)⟩) g_pt rfl rfl hl.1 rfl (lv_room (Nat.le_of_ble_eq_true rfl)) dR_areaOf_20 ⟨Nat.zero_le _, Nat.zero_le _⟩) ?_
  refine lv_imul hx hb dR_areaOf_23 ?_
  refine lv_istore (lv' := [(6, .int (4 * (f_cornerOf a0 (1 : Int32)))), (4, .long ((σ 42 ((1 : Int32).toNatClampNeg)).toInt64)), (2, .long ((σ 42 ((0 : Int32).toNatClampNeg)).toInt64)), (0, .ref (ad 35)), (1, .int a0)]) hx hb dR_areaOf_24 hl (by decide) rfl (fun ls hl => ?_)
  refine lv_iconst (v := 4) hx hb dR_areaOf_26 (by decide) ?_
  refine lv_iload_n hx hb dR_areaOf_27 rfl (lv_at hl 4 rfl) ?_
  refine lv_iconst (v := 2) hx hb dR_areaOf_28 (by decide) ?_
  refine g_pure (v := .int (f_cornerOf a0 (2 : Int32))) (va_runS (As := [.int a0, .int 2]) (rest := [.int 4]) ⟨hx, hb, hml, hown, hts⟩ (c_cornerOf l a0 (2 : Int32)) (qS 2 ht tw_605 tw_606 tw_6 tk_R_cornerOf rfl rfl (by decide +kernel) ⟨(Nat.le_of_ble_eq_true rfl), (Nat.le_of_ble_eq_true rfl)⟩) g_pt rfl rfl hl.1 rfl (lv_room (Nat.le_of_ble_eq_true rfl)) dR_areaOf_29 ⟨Nat.zero_le _, Nat.zero_le _⟩) ?_
  refine lv_imul hx hb dR_areaOf_32 ?_
  refine lv_istore (lv' := [(7, .int (4 * (f_cornerOf a0 (2 : Int32)))), (6, .int (4 * (f_cornerOf a0 (1 : Int32)))), (4, .long ((σ 42 ((1 : Int32).toNatClampNeg)).toInt64)), (2, .long ((σ 42 ((0 : Int32).toNatClampNeg)).toInt64)), (0, .ref (ad 35)), (1, .int a0)]) hx hb dR_areaOf_33 hl (by decide) rfl (fun ls hl => ?_)
  refine lv_aload_n hx hb dR_areaOf_35 rfl (lv_at hl 4 rfl) ?_
  refine g_get (ci := 5) (C := RR) (T := TR) (M := 13) (v := .ref (ad 42)) hx hb ht inR hown hK hP 35 (by decide) kR rfl 12 (by decide) (ht _ tw_464) (fun _ h9 => h9) rfl dR_areaOf_36 ?_
  refine lv_iload hx hb dR_areaOf_39 (lv_at hl 1 rfl) ?_
  have hi_3 : vp_in (4 * (f_cornerOf a0 (1 : Int32))) 32 := (by have l1 : (1 : Int32).toInt = 1 := (by decide); have l4 : (4 : Int32).toInt = 4 := (by decide); have b0 := hc; rw [vp_in_iff]; (try simp only [corner_1, corner_2, Int32.toInt_add, Int32.toInt_sub, Int32.toInt_mul, Int.bmod_def, l1, l4]); omega)
  refine g_iald hx hb hK hP 42 0 (by decide) (fun r t => kR42) rfl hi_3 dR_areaOf_41 ?_
  refine lv_i2l hx hb dR_areaOf_42 rfl ?_
  refine lv_lload_n hx hb dR_areaOf_43 rfl (lv_at hl 3 rfl) ?_
  refine lv_lsub hx hb dR_areaOf_44 ?_
  refine lv_aload_n hx hb dR_areaOf_45 rfl (lv_at hl 4 rfl) ?_
  refine g_get (ci := 5) (C := RR) (T := TR) (M := 13) (v := .ref (ad 42)) hx hb ht inR hown hK hP 35 (by decide) kR rfl 12 (by decide) (ht _ tw_464) (fun _ h9 => h9) rfl dR_areaOf_46 ?_
  refine lv_iload hx hb dR_areaOf_49 (lv_at hl 0 rfl) ?_
  refine lv_iconst (v := 1) hx hb dR_areaOf_51 (by decide) ?_
  refine lv_iadd hx hb dR_areaOf_52 ?_
  have hi_4 : vp_in ((4 * (f_cornerOf a0 (2 : Int32))) + 1) 32 := (by have l1 : (1 : Int32).toInt = 1 := (by decide); have l2 : (2 : Int32).toInt = 2 := (by decide); have l4 : (4 : Int32).toInt = 4 := (by decide); have b0 := hc; rw [vp_in_iff]; (try simp only [corner_1, corner_2, Int32.toInt_add, Int32.toInt_sub, Int32.toInt_mul, Int.bmod_def, l1, l2, l4]); omega)
  refine g_iald hx hb hK hP 42 0 (by decide) (fun r t => kR42) rfl hi_4 dR_areaOf_53 ?_
  refine lv_i2l hx hb dR_areaOf_54 rfl ?_
  refine lv_lload hx hb dR_areaOf_55 (lv_at hl 2 rfl) ?_
  refine lv_lsub hx hb dR_areaOf_57 ?_
  refine lv_lmul hx hb dR_areaOf_58 ?_
  refine lv_aload_n hx hb dR_areaOf_59 rfl (lv_at hl 4 rfl) ?_
  refine g_get (ci := 5) (C := RR) (T := TR) (M := 13) (v := .ref (ad 42)) hx hb ht inR hown hK hP 35 (by decide) kR rfl 12 (by decide) (ht _ tw_464) (fun _ h9 => h9) rfl dR_areaOf_60 ?_
  refine lv_iload hx hb dR_areaOf_63 (lv_at hl 0 rfl) ?_
  have hi_5 : vp_in (4 * (f_cornerOf a0 (2 : Int32))) 32 := (by have l2 : (2 : Int32).toInt = 2 := (by decide); have l4 : (4 : Int32).toInt = 4 := (by decide); have b0 := hc; rw [vp_in_iff]; (try simp only [corner_1, corner_2, Int32.toInt_add, Int32.toInt_sub, Int32.toInt_mul, Int.bmod_def, l2, l4]); omega)
  refine g_iald hx hb hK hP 42 0 (by decide) (fun r t => kR42) rfl hi_5 dR_areaOf_65 ?_
  refine lv_i2l hx hb dR_areaOf_66 rfl ?_
  refine lv_lload_n hx hb dR_areaOf_67 rfl (lv_at hl 3 rfl) ?_
  refine lv_lsub hx hb dR_areaOf_68 ?_
  refine lv_aload_n hx hb dR_areaOf_69 rfl (lv_at hl 4 rfl) ?_
  refine g_get (ci := 5) (C := RR) (T := TR) (M := 13) (v := .ref (ad 42)) hx hb ht inR hown hK hP 35 (by decide) kR rfl 12 (by decide) (ht _ tw_464) (fun _ h9 => h9) rfl dR_areaOf_70 ?_
  refine lv_iload hx hb dR_areaOf_73 (lv_at hl 1 rfl) ?_
  refine lv_iconst (v := 1) hx hb dR_areaOf_75 (by decide) ?_
  refine lv_iadd hx hb dR_areaOf_76 ?_
  have hi_6 : vp_in ((4 * (f_cornerOf a0 (1 : Int32))) + 1) 32 := (by have l1 : (1 : Int32).toInt = 1 := (by decide); have l4 : (4 : Int32).toInt = 4 := (by decide); have b0 := hc; rw [vp_in_iff]; (try simp only [corner_1, corner_2, Int32.toInt_add, Int32.toInt_sub, Int32.toInt_mul, Int.bmod_def, l1, l4]); omega)
  refine g_iald hx hb hK hP 42 0 (by decide) (fun r t => kR42) rfl hi_6 dR_areaOf_77 ?_
  refine lv_i2l hx hb dR_areaOf_78 rfl ?_
  refine lv_lload hx hb dR_areaOf_79 (lv_at hl 2 rfl) ?_
  refine lv_lsub hx hb dR_areaOf_81 ?_
  refine lv_lmul hx hb dR_areaOf_82 ?_
  refine lv_lsub hx hb dR_areaOf_83 ?_
  have ev : f_rareaOf σ a0 = (((((σ 42 ((4 * (f_cornerOf a0 (1 : Int32))).toNatClampNeg)).toInt64) - ((σ 42 ((0 : Int32).toNatClampNeg)).toInt64)) * (((σ 42 (((4 * (f_cornerOf a0 (2 : Int32))) + 1).toNatClampNeg)).toInt64) - ((σ 42 ((1 : Int32).toNatClampNeg)).toInt64))) - ((((σ 42 ((4 * (f_cornerOf a0 (2 : Int32))).toNatClampNeg)).toInt64) - ((σ 42 ((0 : Int32).toNatClampNeg)).toInt64)) * (((σ 42 (((4 * (f_cornerOf a0 (1 : Int32))) + 1).toNatClampNeg)).toInt64) - ((σ 42 ((1 : Int32).toNatClampNeg)).toInt64)))) := by unfold f_rareaOf; rfl
  exact W.lret (v := (((((σ 42 ((4 * (f_cornerOf a0 (1 : Int32))).toNatClampNeg)).toInt64) - ((σ 42 ((0 : Int32).toNatClampNeg)).toInt64)) * (((σ 42 (((4 * (f_cornerOf a0 (2 : Int32))) + 1).toNatClampNeg)).toInt64) - ((σ 42 ((1 : Int32).toNatClampNeg)).toInt64))) - ((((σ 42 ((4 * (f_cornerOf a0 (2 : Int32))).toNatClampNeg)).toInt64) - ((σ 42 ((0 : Int32).toNatClampNeg)).toInt64)) * (((σ 42 (((4 * (f_cornerOf a0 (1 : Int32))) + 1).toNatClampNeg)).toInt64) - ((σ 42 ((1 : Int32).toNatClampNeg)).toInt64))))) hx hb hr (fun t ht9 hW => ⟨by rw [ev], ht9⟩) (fun q hq => by cases hq) dR_areaOf_84
