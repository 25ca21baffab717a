def f_thrown (σ : Nat → Nat → Int32)   : Int32 :=
  (σ 35 0)
set_option maxHeartbeats 4000000 in
set_option maxRecDepth 100000 in
theorem c_thrown (l : Launch) {D : va_G} {cs : Nat → ClassId} {ad : Nat → Nat} (hinj : gI ad) (σ : Nat → Nat → Int32) (τ : Nat → Nat → Int64) (sz : Nat)   : Met l yR_thrown (wsB kR_thrown) ({ frames := 0, cells := 0, slots := 0, locals := 0 } : Room) (va_Pc [.ref (ad 35)] (gP D cs ad σ τ sz)) (gR (some (.int (f_thrown σ)))) 0 0 (fun _ => False) := by
  refine Met.ofW (cc := cR_thrown) (maxL := 1) (ret := (some .int)) (by decide) rfl ?_
  intro p e s m args below meth c s₁ B hml hv
  obtain ⟨rfl, hsz, hP, hK⟩ := hv
  have hx := B.exec
  have hb := B.bytes
  have hr := B.returns
  have hts := atoms_spec (ws := wsB kR_thrown) B.pre
  have ht := hbig hts
  have hown : s.vm.findClass RR = some m.cls := findClass_of_methodNamed B.named
  have hlocks := B.notSynchronized
  subst hsz
  have hD : ∀ σ τ, va_D (gA NC ad s.heap.size) (gW cs ad σ τ) := fun _ _ => gw_D hinj (fun i h => gA_ad h)
  have hS : va_S (gA NC ad s.heap.size) s.heap s.heap [] := va_S.rf
  have hl := lv_entry ([.ref (ad 35)]) (n := 1) (Nat.le_of_ble_eq_true rfl)
  rw [lg_entry_eq]
  generalize (lg_sl ([.ref (ad 35)]) ++ List.replicate (1 - (lg_sl ([.ref (ad 35)])).length) Slot.unset).toArray = ls at hl ⊢
  have hl : lv_has ls 1 [(0, .ref (ad 35))] := hl
  refine lv_aload_n hx hb dR_thrown_0 rfl (lv_at hl 0 rfl) ?_
  refine g_get (ci := 5) (C := RR) (T := TR) (M := 13) (v := .int (σ 35 0)) hx hb ht inR hown hK hP 35 (by decide) kR rfl 0 (by decide) (ht _ tw_452) (fun _ h9 => h9) rfl dR_thrown_1 ?_
  have ev : f_thrown σ = (σ 35 0) := by unfold f_thrown; rfl
  exact W.iret (v := (σ 35 0)) hx hb hr (fun t ht9 hW => ⟨by rw [ev], ht9⟩) (fun q hq => by cases hq) dR_thrown_4
def f_refuse (σ : Nat → Nat → Int32)  (x : Int32) (y : Int32) : Int32 :=
  if x = 0 then
    if y = 0 then
      if ((w2 σ 35 0 (0 : Int32)) 35 0) ≤ 0 then
        0
      else
        1
    else
      if ((w2 σ 35 0 (2 : Int32)) 35 0) ≤ 0 then
        0
      else
        1
  else
    if ((w2 σ 35 0 (1 : Int32)) 35 0) ≤ 0 then
      0
    else
      1
def s_refuse (σ : Nat → Nat → Int32)  (x : Int32) (y : Int32) : Nat → Nat → Int32 :=
  if x = 0 then
    if y = 0 then
      if ((w2 σ 35 0 (0 : Int32)) 35 0) ≤ 0 then
        (w2 σ 35 0 (0 : Int32))
      else
        (w2 σ 35 0 (0 : Int32))
    else
      if ((w2 σ 35 0 (2 : Int32)) 35 0) ≤ 0 then
        (w2 σ 35 0 (2 : Int32))
      else
        (w2 σ 35 0 (2 : Int32))
  else
    if ((w2 σ 35 0 (1 : Int32)) 35 0) ≤ 0 then
      (w2 σ 35 0 (1 : Int32))
    else
      (w2 σ 35 0 (1 : Int32))
set_option maxHeartbeats 4000000 in
set_option maxRecDepth 100000 in
theorem c_refuse (l : Launch) {D : va_G} {cs : Nat → ClassId} {ad : Nat → Nat} (hinj : gI ad) (σ : Nat → Nat → Int32) (τ : Nat → Nat → Int64) (sz : Nat)  (x : Int32) (y : Int32) : Met l yR_refuse (wsB kR_refuse) ({ frames := 0, cells := 0, slots := 0, locals := 0 } : Room) (va_Pc [.ref (ad 35), .int x, .int y] (gP D cs ad σ τ sz)) (gQ (some (.int (f_refuse σ x y))) (gB D cs ad (s_refuse σ x y) τ) (gA NC ad sz)) 0 0 (gA NC ad sz) := by
  refine Met.ofW (cc := cR_refuse) (maxL := 3) (ret := (some .boolean)) (by decide) rfl ?_
  intro p e s m args below meth c s₁ B hml hv
  obtain ⟨rfl, hsz, hP, hK⟩ := hv
  have hx := B.exec
  have hb := B.bytes
  have hr := B.returns
  have hts := atoms_spec (ws := wsB kR_refuse) B.pre
  have ht := hbig hts
  have hown : s.vm.findClass RR = some m.cls := findClass_of_methodNamed B.named
  have hlocks := B.notSynchronized
  subst hsz
  have hD : ∀ σ τ, va_D (gA NC ad s.heap.size) (gW cs ad σ τ) := fun _ _ => gw_D hinj (fun i h => gA_ad h)
  have hS : va_S (gA NC ad s.heap.size) s.heap s.heap [] := va_S.rf
  have hl := lv_entry ([.ref (ad 35), .int x, .int y]) (n := 3) (Nat.le_of_ble_eq_true rfl)
  rw [lg_entry_eq]
  generalize (lg_sl ([.ref (ad 35), .int x, .int y]) ++ List.replicate (3 - (lg_sl ([.ref (ad 35), .int x, .int y])).length) Slot.unset).toArray = ls at hl ⊢
  have hl : lv_has ls 3 [(0, .ref (ad 35)), (1, .int x), (2, .int y)] := hl
  refine lv_aload_n hx hb dR_refuse_0 rfl (lv_at hl 0 rfl) ?_
  refine lv_iload_n hx hb dR_refuse_1 rfl (lv_at hl 1 rfl) ?_
  refine lv_if_eq (tgt := 9) hx hb dR_refuse_2 (by decide) (fun c_1 => ?_) (fun c_1 => ?_)
  · refine lv_iload_n hx hb dR_refuse_9 rfl (lv_at hl 2 rfl) ?_
    refine lv_if_eq (tgt := 17) hx hb dR_refuse_10 (by decide) (fun c_2 => ?_) (fun c_2 => ?_)
    · refine lv_iconst (v := 0) hx hb dR_refuse_17 (by decide) ?_
      refine g_put (ci := 5) (C := RR) (T := TR) (M := 13) (ty := .int) (x := 0) hx hb ht inR tyR tyR_ok nmR hown hK hP hD hS 35 (by decide) (fR ad) (fun r t => kR) rfl 0 (by decide) (ht _ tw_452) (fun _ h9 => h9) rfl (by decide +kernel) rfl rfl (Nat.le_of_ble_eq_true rfl) rfl dR_refuse_18 (fun H locs hP hS => ?_)
      refine lv_aload_n hx hb dR_refuse_21 rfl (lv_at hl 0 rfl) ?_
      refine g_get (ci := 5) (C := RR) (T := TR) (M := 13) (v := .int ((w2 σ 35 0 (0 : Int32)) 35 0)) hx hb ht inR hown hK hP 35 (by decide) kR rfl 0 (by decide) (ht _ tw_452) (fun _ h9 => h9) rfl dR_refuse_22 ?_
      refine lv_if_le (tgt := 32) hx hb dR_refuse_25 (by decide) (fun c_3 => ?_) (fun c_3 => ?_)
      · refine lv_iconst (v := 0) hx hb dR_refuse_32 (by decide) ?_
        have ev : f_refuse σ x y = 0 := by unfold f_refuse; rw [if_pos c_1, if_pos c_2, if_pos c_3]
        have es : s_refuse σ x y = (w2 σ 35 0 (0 : Int32)) := by unfold s_refuse; rw [if_pos c_1, if_pos c_2, if_pos c_3]
        exact W.zret (v := 0) (ty := .boolean) hx hb hr rfl (fun t ht9 hW => ⟨by rw [ev], by show va_P D vwCl (gW cs ad (s_refuse σ x y) τ) t.heap; rw [ht9, es]; exact hP, hS.F ht9⟩) hS.2.2 dR_refuse_33
      · refine lv_iconst (v := 1) hx hb dR_refuse_28 (by decide) ?_
        refine lv_goto (tgt := 33) hx hb dR_refuse_29 (by decide) ?_
        have ev : f_refuse σ x y = 1 := by unfold f_refuse; rw [if_pos c_1, if_pos c_2, if_neg c_3]
        have es : s_refuse σ x y = (w2 σ 35 0 (0 : Int32)) := by unfold s_refuse; rw [if_pos c_1, if_pos c_2, if_neg c_3]
        exact W.zret (v := 1) (ty := .boolean) hx hb hr rfl (fun t ht9 hW => ⟨by rw [ev], by show va_P D vwCl (gW cs ad (s_refuse σ x y) τ) t.heap; rw [ht9, es]; exact hP, hS.F ht9⟩) hS.2.2 dR_refuse_33
    · refine lv_iconst (v := 2) hx hb dR_refuse_13 (by decide) ?_
      refine lv_goto (tgt := 18) hx hb dR_refuse_14 (by decide) ?_
      refine g_put (ci := 5) (C := RR) (T := TR) (M := 13) (ty := .int) (x := 2) hx hb ht inR tyR tyR_ok nmR hown hK hP hD hS 35 (by decide) (fR ad) (fun r t => kR) rfl 0 (by decide) (ht _ tw_452) (fun _ h9 => h9) rfl (by decide +kernel) rfl rfl (Nat.le_of_ble_eq_true rfl) rfl dR_refuse_18 (fun H locs hP hS => ?_)
      refine lv_aload_n hx hb dR_refuse_21 rfl (lv_at hl 0 rfl) ?_
      refine g_get (ci := 5) (C := RR) (T := TR) (M := 13) (v := .int ((w2 σ 35 0 (2 : Int32)) 35 0)) hx hb ht inR hown hK hP 35 (by decide) kR rfl 0 (by decide) (ht _ tw_452) (fun _ h9 => h9) rfl dR_refuse_22 ?_
      refine lv_if_le (tgt := 32) hx hb dR_refuse_25 (by decide) (fun c_4 => ?_) (fun c_4 => ?_)
      · refine lv_iconst (v := 0) hx hb dR_refuse_32 (by decide) ?_
        have ev : f_refuse σ x y = 0 := by unfold f_refuse; rw [if_pos c_1, if_neg c_2, if_pos c_4]
        have es : s_refuse σ x y = (w2 σ 35 0 (2 : Int32)) := by unfold s_refuse; rw [if_pos c_1, if_neg c_2, if_pos c_4]
        exact W.zret (v := 0) (ty := .boolean) hx hb hr rfl (fun t ht9 hW => ⟨by rw [ev], by show va_P D vwCl (gW cs ad (s_refuse σ x y) τ) t.heap; rw [ht9, es]; exact hP, hS.F ht9⟩) hS.2.2 dR_refuse_33
      · refine lv_iconst (v := 1) hx hb dR_refuse_28 (by decide) ?_
        refine lv_goto (tgt := 33) hx hb dR_refuse_29 (by decide) ?_
        have ev : f_refuse σ x y = 1 := by unfold f_refuse; rw [if_pos c_1, if_neg c_2, if_neg c_4]
        have es : s_refuse σ x y = (w2 σ 35 0 (2 : Int32)) := by unfold s_refuse; rw [if_pos c_1, if_neg c_2, if_neg c_4]
        exact W.zret (v := 1) (ty := .boolean) hx hb hr rfl (fun t ht9 hW => ⟨by rw [ev], by show va_P D vwCl (gW cs ad (s_refuse σ x y) τ) t.heap; rw [ht9, es]; exact hP, hS.F ht9⟩) hS.2.2 dR_refuse_33
  · refine lv_iconst (v := 1) hx hb dR_refuse_5 (by decide) ?_
    refine lv_goto (tgt := 18) hx hb dR_refuse_6 (by decide) ?_
    refine g_put (ci := 5) (C := RR) (T := TR) (M := 13) (ty := .int) (x := 1) hx hb ht inR tyR tyR_ok nmR hown hK hP hD hS 35 (by decide) (fR ad) (fun r t => kR) rfl 0 (by decide) (ht _ tw_452) (fun _ h9 => h9) rfl (by decide +kernel) rfl rfl (Nat.le_of_ble_eq_true rfl) rfl dR_refuse_18 (fun H locs hP hS => ?_)
    refine lv_aload_n hx hb dR_refuse_21 rfl (lv_at hl 0 rfl) ?_
    refine g_get (ci := 5) (C := RR) (T := TR) (M := 13) (v := .int ((w2 σ 35 0 (1 : Int32)) 35 0)) hx hb ht inR hown hK hP 35 (by decide) kR rfl 0 (by decide) (ht _ tw_452) (fun _ h9 => h9) rfl dR_refuse_22 ?_
    refine lv_if_le (tgt := 32) hx hb dR_refuse_25 (by decide) (fun c_5 => ?_) (fun c_5 => ?_)
    · refine lv_iconst (v := 0) hx hb dR_refuse_32 (by decide) ?_
      have ev : f_refuse σ x y = 0 := by unfold f_refuse; rw [if_neg c_1, if_pos c_5]
      have es : s_refuse σ x y = (w2 σ 35 0 (1 : Int32)) := by unfold s_refuse; rw [if_neg c_1, if_pos c_5]
      exact W.zret (v := 0) (ty := .boolean) hx hb hr rfl (fun t ht9 hW => ⟨by rw [ev], by show va_P D vwCl (gW cs ad (s_refuse σ x y) τ) t.heap; rw [ht9, es]; exact hP, hS.F ht9⟩) hS.2.2 dR_refuse_33
    · refine lv_iconst (v := 1) hx hb dR_refuse_28 (by decide) ?_
      refine lv_goto (tgt := 33) hx hb dR_refuse_29 (by decide) ?_
      have ev : f_refuse σ x y = 1 := by unfold f_refuse; rw [if_neg c_1, if_neg c_5]
      have es : s_refuse σ x y = (w2 σ 35 0 (1 : Int32)) := by unfold s_refuse; rw [if_neg c_1, if_neg c_5]
      exact W.zret (v := 1) (ty := .boolean) hx hb hr rfl (fun t ht9 hW => ⟨by rw [ev], by show va_P D vwCl (gW cs ad (s_refuse σ x y) τ) t.heap; rw [ht9, es]; exact hP, hS.F ht9⟩) hS.2.2 dR_refuse_33
def f_wordAt (σ : Nat → Nat → Int32)  (w : Int64) : Int32 :=
  if (lg_cmp w 0) < 0 then
    0
  else
    if (lg_cmp w 4095) ≤ 0 then
      (σ 36 ((w.toInt32).toNatClampNeg))
    else
      0
set_option maxHeartbeats 4000000 in
set_option maxRecDepth 100000 in
theorem c_wordAt (l : Launch) {D : va_G} {cs : Nat → ClassId} {ad : Nat → Nat} (hinj : gI ad) (σ : Nat → Nat → Int32) (τ : Nat → Nat → Int64) (sz : Nat)  (w : Int64) : Met l yR_wordAt (wsB kR_wordAt) ({ frames := 0, cells := 0, slots := 0, locals := 0 } : Room) (va_Pc [.ref (ad 35), .long w] (gP D cs ad σ τ sz)) (gR (some (.int (f_wordAt σ w)))) 0 0 (fun _ => False) := by
  refine Met.ofW (cc := cR_wordAt) (maxL := 3) (ret := (some .int)) (by decide) rfl ?_
  intro p e s m args below meth c s₁ B hml hv
  obtain ⟨rfl, hsz, hP, hK⟩ := hv
  have hx := B.exec
  have hb := B.bytes
  have hr := B.returns
  have hts := atoms_spec (ws := wsB kR_wordAt) B.pre
  have ht := hbig hts
  have hown : s.vm.findClass RR = some m.cls := findClass_of_methodNamed B.named
  have hlocks := B.notSynchronized
  subst hsz
  have hD : ∀ σ τ, va_D (gA NC ad s.heap.size) (gW cs ad σ τ) := fun _ _ => gw_D hinj (fun i h => gA_ad h)
  have hS : va_S (gA NC ad s.heap.size) s.heap s.heap [] := va_S.rf
  have hl := lv_entry ([.ref (ad 35), .long w]) (n := 3) (Nat.le_of_ble_eq_true rfl)
  rw [lg_entry_eq]
  generalize (lg_sl ([.ref (ad 35), .long w]) ++ List.replicate (3 - (lg_sl ([.ref (ad 35), .long w])).length) Slot.unset).toArray = ls at hl ⊢
  have hl : lv_has ls 3 [(0, .ref (ad 35)), (1, .long w)] := hl
  refine lv_lload_n hx hb dR_wordAt_0 rfl (lv_at hl 1 rfl) ?_
  refine lv_lconst (v := 0) hx hb dR_wordAt_1 (by decide) ?_
  refine W.lcmp hx hb dR_wordAt_2 ?_
  refine lv_if_lt (tgt := 14) hx hb dR_wordAt_3 (by decide) (fun c_1 => ?_) (fun c_1 => ?_)
  · refine lv_iconst (v := 0) hx hb dR_wordAt_14 (by decide) ?_
    refine lv_goto (tgt := 25) hx hb dR_wordAt_15 (by decide) ?_
    have ev : f_wordAt σ w = 0 := by unfold f_wordAt; rw [if_pos c_1]
    exact W.iret (v := 0) hx hb hr (fun t ht9 hW => ⟨by rw [ev], ht9⟩) (fun q hq => by cases hq) dR_wordAt_25
  · refine lv_lload_n hx hb dR_wordAt_6 rfl (lv_at hl 1 rfl) ?_
    refine lv_ldc2 (v := 4095) hx hb hown (ht _ tw_520) dR_wordAt_7 ?_
    refine W.lcmp hx hb dR_wordAt_10 ?_
    refine lv_if_le (tgt := 18) hx hb dR_wordAt_11 (by decide) (fun c_2 => ?_) (fun c_2 => ?_)
    · refine lv_aload_n hx hb dR_wordAt_18 rfl (lv_at hl 0 rfl) ?_
      refine g_get (ci := 5) (C := RR) (T := TR) (M := 13) (v := .ref (ad 36)) hx hb ht inR hown hK hP 35 (by decide) kR rfl 1 (by decide) (ht _ tw_453) (fun _ h9 => h9) rfl dR_wordAt_19 ?_
      refine lv_lload_n hx hb dR_wordAt_22 rfl (lv_at hl 1 rfl) ?_
      refine lv_l2i hx hb dR_wordAt_23 rfl ?_
      have hi_3 : vp_in (w.toInt32) 4096 := (wat_in c_1 c_2)
      refine g_iald hx hb hK hP 36 0 (by decide) (fun r t => kR36) rfl hi_3 dR_wordAt_24 ?_
      have ev : f_wordAt σ w = (σ 36 ((w.toInt32).toNatClampNeg)) := by unfold f_wordAt; rw [if_neg c_1, if_pos c_2]
      exact W.iret (v := (σ 36 ((w.toInt32).toNatClampNeg))) hx hb hr (fun t ht9 hW => ⟨by rw [ev], ht9⟩) (fun q hq => by cases hq) dR_wordAt_25
    · refine lv_iconst (v := 0) hx hb dR_wordAt_14 (by decide) ?_
      refine lv_goto (tgt := 25) hx hb dR_wordAt_15 (by decide) ?_
      have ev : f_wordAt σ w = 0 := by unfold f_wordAt; rw [if_neg c_1, if_neg c_2]
      exact W.iret (v := 0) hx hb hr (fun t ht9 hW => ⟨by rw [ev], ht9⟩) (fun q hq => by cases hq) dR_wordAt_25
def f_byteAt (σ : Nat → Nat → Int32)  (w : Int64) (k : Int32) : Int32 :=
  (((f_wordAt σ  w) >>> ((8 * k) &&& 31)) &&& 255)
set_option maxHeartbeats 4000000 in
set_option maxRecDepth 100000 in
theorem c_byteAt (l : Launch) {D : va_G} {cs : Nat → ClassId} {ad : Nat → Nat} (hinj : gI ad) (σ : Nat → Nat → Int32) (τ : Nat → Nat → Int64) (sz : Nat)  (w : Int64) (k : Int32) : Met l yR_byteAt (wsB kR_byteAt) ({ frames := 1, cells := 0, slots := 0, locals := 22 } : Room) (va_Pc [.ref (ad 35), .long w, .int k] (gP D cs ad σ τ sz)) (gR (some (.int (f_byteAt σ w k)))) 0 0 (fun _ => False) := by
  refine Met.ofW (cc := cR_byteAt) (maxL := 4) (ret := (some .int)) (by decide) rfl ?_
  intro p e s m args below meth c s₁ B hml hv
  obtain ⟨rfl, hsz, hP, hK⟩ := hv
  have hx := B.exec
  have hb := B.bytes
  have hr := B.returns
  have hts := atoms_spec (ws := wsB kR_byteAt) B.pre
  have ht := hbig hts
  have hown : s.vm.findClass RR = some m.cls := findClass_of_methodNamed B.named
  have hlocks := B.notSynchronized
  subst hsz
  have hD : ∀ σ τ, va_D (gA NC ad s.heap.size) (gW cs ad σ τ) := fun _ _ => gw_D hinj (fun i h => gA_ad h)
  have hS : va_S (gA NC ad s.heap.size) s.heap s.heap [] := va_S.rf
  have hl := lv_entry ([.ref (ad 35), .long w, .int k]) (n := 4) (Nat.le_of_ble_eq_true rfl)
  rw [lg_entry_eq]
  generalize (lg_sl ([.ref (ad 35), .long w, .int k]) ++ List.replicate (4 - (lg_sl ([.ref (ad 35), .long w, .int k])).length) Slot.unset).toArray = ls at hl ⊢
  have hl : lv_has ls 4 [(0, .ref (ad 35)), (1, .long w), (3, .int k)] := hl
  refine lv_aload_n hx hb dR_byteAt_0 rfl (lv_at hl 0 rfl) ?_
  refine lv_lload_n hx hb dR_byteAt_1 rfl (lv_at hl 1 rfl) ?_
  refine g_pure (v := .int (f_wordAt σ  w)) (va_runV (C := RR) (As := [.long w]) (rest := []) ⟨hx, hb, hml, hown, hts⟩ (c_wordAt l hinj σ τ _  w ) (qV 1 ht tw_516 tw_518 ts_R_wordAt tw_6 tk_R_wordAt rfl rfl (by decide +kernel) ⟨(Nat.le_of_ble_eq_true rfl), (Nat.le_of_ble_eq_true rfl)⟩) (g_pv (ci := 5) hK hP (by decide) rfl kR rfl) rfl rfl hl.1 rfl (lv_room (Nat.le_of_ble_eq_true rfl)) dR_byteAt_2 ⟨Nat.zero_le _, Nat.zero_le _⟩) ?_
  refine lv_bipush (v := 8) hx hb dR_byteAt_5 (by decide) ?_
  refine lv_iload_n hx hb dR_byteAt_7 rfl (lv_at hl 2 rfl) ?_
  refine lv_imul hx hb dR_byteAt_8 ?_
  refine lv_ishr hx hb dR_byteAt_9 ?_
  refine lv_sipush (v := 255) hx hb dR_byteAt_10 (by decide) ?_
  refine lv_iand hx hb dR_byteAt_13 ?_
  have ev : f_byteAt σ w k = (((f_wordAt σ  w) >>> ((8 * k) &&& 31)) &&& 255) := by unfold f_byteAt; rfl
  exact W.iret (v := (((f_wordAt σ  w) >>> ((8 * k) &&& 31)) &&& 255)) hx hb hr (fun t ht9 hW => ⟨by rw [ev], ht9⟩) (fun q hq => by cases hq) dR_byteAt_14
def f_halfAt (σ : Nat → Nat → Int32)  (w : Int64) (k : Int32) : Int32 :=
  (((f_wordAt σ  w) >>> ((16 * k) &&& 31)) &&& 65535)
set_option maxHeartbeats 4000000 in
set_option maxRecDepth 100000 in
theorem c_halfAt (l : Launch) {D : va_G} {cs : Nat → ClassId} {ad : Nat → Nat} (hinj : gI ad) (σ : Nat → Nat → Int32) (τ : Nat → Nat → Int64) (sz : Nat)  (w : Int64) (k : Int32) : Met l yR_halfAt (wsB kR_halfAt) ({ frames := 1, cells := 0, slots := 0, locals := 22 } : Room) (va_Pc [.ref (ad 35), .long w, .int k] (gP D cs ad σ τ sz)) (gR (some (.int (f_halfAt σ w k)))) 0 0 (fun _ => False) := by
  refine Met.ofW (cc := cR_halfAt) (maxL := 4) (ret := (some .int)) (by decide) rfl ?_
  intro p e s m args below meth c s₁ B hml hv
  obtain ⟨rfl, hsz, hP, hK⟩ := hv
  have hx := B.exec
  have hb := B.bytes
  have hr := B.returns
  have hts := atoms_spec (ws := wsB kR_halfAt) B.pre
  have ht := hbig hts
  have hown : s.vm.findClass RR = some m.cls := findClass_of_methodNamed B.named
  have hlocks := B.notSynchronized
  subst hsz
  have hD : ∀ σ τ, va_D (gA NC ad s.heap.size) (gW cs ad σ τ) := fun _ _ => gw_D hinj (fun i h => gA_ad h)
  have hS : va_S (gA NC ad s.heap.size) s.heap s.heap [] := va_S.rf
  have hl := lv_entry ([.ref (ad 35), .long w, .int k]) (n := 4) (Nat.le_of_ble_eq_true rfl)
  rw [lg_entry_eq]
  generalize (lg_sl ([.ref (ad 35), .long w, .int k]) ++ List.replicate (4 - (lg_sl ([.ref (ad 35), .long w, .int k])).length) Slot.unset).toArray = ls at hl ⊢
  have hl : lv_has ls 4 [(0, .ref (ad 35)), (1, .long w), (3, .int k)] := hl
  refine lv_aload_n hx hb dR_halfAt_0 rfl (lv_at hl 0 rfl) ?_
  refine lv_lload_n hx hb dR_halfAt_1 rfl (lv_at hl 1 rfl) ?_
  refine g_pure (v := .int (f_wordAt σ  w)) (va_runV (C := RR) (As := [.long w]) (rest := []) ⟨hx, hb, hml, hown, hts⟩ (c_wordAt l hinj σ τ _  w ) (qV 1 ht tw_516 tw_518 ts_R_wordAt tw_6 tk_R_wordAt rfl rfl (by decide +kernel) ⟨(Nat.le_of_ble_eq_true rfl), (Nat.le_of_ble_eq_true rfl)⟩) (g_pv (ci := 5) hK hP (by decide) rfl kR rfl) rfl rfl hl.1 rfl (lv_room (Nat.le_of_ble_eq_true rfl)) dR_halfAt_2 ⟨Nat.zero_le _, Nat.zero_le _⟩) ?_
  refine lv_bipush (v := 16) hx hb dR_halfAt_5 (by decide) ?_
  refine lv_iload_n hx hb dR_halfAt_7 rfl (lv_at hl 2 rfl) ?_
  refine lv_imul hx hb dR_halfAt_8 ?_
  refine lv_ishr hx hb dR_halfAt_9 ?_
  refine lv_ldc (v := 65535) hx hb hown (ht _ tw_529) dR_halfAt_10 ?_
  refine lv_iand hx hb dR_halfAt_12 ?_
  have ev : f_halfAt σ w k = (((f_wordAt σ  w) >>> ((16 * k) &&& 31)) &&& 65535) := by unfold f_halfAt; rfl
  exact W.iret (v := (((f_wordAt σ  w) >>> ((16 * k) &&& 31)) &&& 65535)) hx hb hr (fun t ht9 hW => ⟨by rw [ev], ht9⟩) (fun q hq => by cases hq) dR_halfAt_13
