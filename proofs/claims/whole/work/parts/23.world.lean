def f_at (σ : Nat → Nat → Int32)  (w : Int64) : Int32 :=
  if (lg_cmp w 0) < 0 then
    0
  else
    if 0 ≤ (lg_cmp w 4096) then
      0
    else
      (σ 2 ((w.toInt32).toNatClampNeg))
set_option maxHeartbeats 4000000 in
set_option maxRecDepth 100000 in
theorem c_at (l : Launch) {D : va_G} {cs : Nat → ClassId} {ad : Nat → Nat} (hinj : gI ad) (σ : Nat → Nat → Int32) (τ : Nat → Nat → Int64) (sz : Nat)  (w : Int64) : Met l yM_at (wsB kM_at) ({ frames := 0, cells := 0, slots := 0, locals := 0 } : Room) (va_Pc [.ref (ad 1), .long w] (gP D cs ad σ τ sz)) (gR (some (.int (f_at σ w)))) 0 0 (fun _ => False) := by
  refine Met.ofW (cc := cM_at) (maxL := 3) (ret := (some .int)) (by decide) rfl ?_
  intro p e s m args below meth c s₁ B hml hv
  obtain ⟨rfl, hsz, hP, hK⟩ := hv
  have hx := B.exec
  have hb := B.bytes
  have hr := B.returns
  have hts := atoms_spec (ws := wsB kM_at) B.pre
  have ht := hbig hts
  have hown : s.vm.findClass RM = some m.cls := findClass_of_methodNamed B.named
  have hlocks := B.notSynchronized
  subst hsz
  have hD : ∀ σ τ, va_D (gA NC ad s.heap.size) (gW cs ad σ τ) := fun _ _ => gw_D hinj (fun i h => gA_ad h)
  have hS : va_S (gA NC ad s.heap.size) s.heap s.heap [] := va_S.rf
  have hl := lv_entry ([.ref (ad 1), .long w]) (n := 3) (Nat.le_of_ble_eq_true rfl)
  rw [lg_entry_eq]
  generalize (lg_sl ([.ref (ad 1), .long w]) ++ List.replicate (3 - (lg_sl ([.ref (ad 1), .long w])).length) Slot.unset).toArray = ls at hl ⊢
  have hl : lv_has ls 3 [(0, .ref (ad 1)), (1, .long w)] := hl
  refine lv_lload_n hx hb dM_at_0 rfl (lv_at hl 1 rfl) ?_
  refine lv_lconst (v := 0) hx hb dM_at_1 (by decide) ?_
  refine W.lcmp hx hb dM_at_2 ?_
  refine lv_if_lt (tgt := 24) hx hb dM_at_3 (by decide) (fun c_1 => ?_) (fun c_1 => ?_)
  · refine lv_iconst (v := 0) hx hb dM_at_24 (by decide) ?_
    have ev : f_at σ w = 0 := by unfold f_at; rw [if_pos c_1]
    exact W.iret (v := 0) hx hb hr (fun t ht9 hW => ⟨by rw [ev], ht9⟩) (fun q hq => by cases hq) dM_at_25
  · refine lv_lload_n hx hb dM_at_6 rfl (lv_at hl 1 rfl) ?_
    refine lv_ldc2 (v := 4096) hx hb hown (ht _ tw_280) dM_at_7 ?_
    refine W.lcmp hx hb dM_at_10 ?_
    refine lv_if_ge (tgt := 24) hx hb dM_at_11 (by decide) (fun c_2 => ?_) (fun c_2 => ?_)
    · refine lv_iconst (v := 0) hx hb dM_at_24 (by decide) ?_
      have ev : f_at σ w = 0 := by unfold f_at; rw [if_neg c_1, if_pos c_2]
      exact W.iret (v := 0) hx hb hr (fun t ht9 hW => ⟨by rw [ev], ht9⟩) (fun q hq => by cases hq) dM_at_25
    · refine lv_aload_n hx hb dM_at_14 rfl (lv_at hl 0 rfl) ?_
      refine g_get (ci := 1) (C := RM) (T := TM) (M := 1) (v := .ref (ad 2)) hx hb ht inM hown hK hP 1 (by decide) kM rfl 0 (by decide) (ht _ tw_28) (fun _ h9 => h9) rfl dM_at_15 ?_
      refine lv_lload_n hx hb dM_at_18 rfl (lv_at hl 1 rfl) ?_
      refine lv_l2i hx hb dM_at_19 rfl ?_
      have hi_3 : vp_in (w.toInt32) 4096 := (at_in c_1 c_2)
      refine g_iald hx hb hK hP 2 0 (by decide) (fun r t => kMw) rfl hi_3 dM_at_20 ?_
      refine lv_goto (tgt := 25) hx hb dM_at_21 (by decide) ?_
      have ev : f_at σ w = (σ 2 ((w.toInt32).toNatClampNeg)) := by unfold f_at; rw [if_neg c_1, if_neg c_2]
      exact W.iret (v := (σ 2 ((w.toInt32).toNatClampNeg))) hx hb hr (fun t ht9 hW => ⟨by rw [ev], ht9⟩) (fun q hq => by cases hq) dM_at_25
def f_half (σ : Nat → Nat → Int32)  (w : Int64) (k : Int32) : Int32 :=
  ((((f_at σ  (w + ((k / 2).toInt64))).toUInt32 >>> ((16 * (k - k / 2 * 2)).toUInt32 &&& Int32.toUInt32 31)).toInt32) &&& 65535)
set_option maxHeartbeats 4000000 in
set_option maxRecDepth 100000 in
theorem c_half (l : Launch) {D : va_G} {cs : Nat → ClassId} {ad : Nat → Nat} (hinj : gI ad) (σ : Nat → Nat → Int32) (τ : Nat → Nat → Int64) (sz : Nat)  (w : Int64) (k : Int32) : Met l yM_half (wsB kM_half) ({ frames := 1, cells := 0, slots := 0, locals := 22 } : Room) (va_Pc [.ref (ad 1), .long w, .int k] (gP D cs ad σ τ sz)) (gR (some (.int (f_half σ w k)))) 0 0 (fun _ => False) := by
  refine Met.ofW (cc := cM_half) (maxL := 4) (ret := (some .int)) (by decide) rfl ?_
  intro p e s m args below meth c s₁ B hml hv
  obtain ⟨rfl, hsz, hP, hK⟩ := hv
  have hx := B.exec
  have hb := B.bytes
  have hr := B.returns
  have hts := atoms_spec (ws := wsB kM_half) B.pre
  have ht := hbig hts
  have hown : s.vm.findClass RM = some m.cls := findClass_of_methodNamed B.named
  have hlocks := B.notSynchronized
  subst hsz
  have hD : ∀ σ τ, va_D (gA NC ad s.heap.size) (gW cs ad σ τ) := fun _ _ => gw_D hinj (fun i h => gA_ad h)
  have hS : va_S (gA NC ad s.heap.size) s.heap s.heap [] := va_S.rf
  have hl := lv_entry ([.ref (ad 1), .long w, .int k]) (n := 4) (Nat.le_of_ble_eq_true rfl)
  rw [lg_entry_eq]
  generalize (lg_sl ([.ref (ad 1), .long w, .int k]) ++ List.replicate (4 - (lg_sl ([.ref (ad 1), .long w, .int k])).length) Slot.unset).toArray = ls at hl ⊢
  have hl : lv_has ls 4 [(0, .ref (ad 1)), (1, .long w), (3, .int k)] := hl
  refine lv_aload_n hx hb dM_half_0 rfl (lv_at hl 0 rfl) ?_
  refine lv_lload_n hx hb dM_half_1 rfl (lv_at hl 1 rfl) ?_
  refine lv_iload_n hx hb dM_half_2 rfl (lv_at hl 2 rfl) ?_
  refine lv_iconst (v := 2) hx hb dM_half_3 (by decide) ?_
  refine lv_idiv hx hb dM_half_4 (by decide) ?_
  refine lv_i2l hx hb dM_half_5 rfl ?_
  refine lv_ladd hx hb dM_half_6 ?_
  refine g_pure (v := .int (f_at σ  (w + ((k / 2).toInt64)))) (va_runV (C := RM) (As := [.long (w + ((k / 2).toInt64))]) (rest := []) ⟨hx, hb, hml, hown, hts⟩ (c_at l hinj σ τ _  (w + ((k / 2).toInt64)) ) (qV 1 ht tw_276 tw_277 tw_278 tw_2 tk_M_at rfl rfl (by decide +kernel) ⟨(Nat.le_of_ble_eq_true rfl), (Nat.le_of_ble_eq_true rfl)⟩) (g_pv (ci := 1) hK hP (by decide) rfl kM rfl) rfl rfl hl.1 rfl (lv_room (Nat.le_of_ble_eq_true rfl)) dM_half_7 ⟨Nat.zero_le _, Nat.zero_le _⟩) ?_
  refine lv_bipush (v := 16) hx hb dM_half_10 (by decide) ?_
  refine lv_iload_n hx hb dM_half_12 rfl (lv_at hl 2 rfl) ?_
  refine lv_iconst (v := 2) hx hb dM_half_13 (by decide) ?_
  refine lv_irem hx hb dM_half_14 (by decide) ?_
  refine lv_imul hx hb dM_half_15 ?_
  refine lv_iushr hx hb dM_half_16 rfl ?_
  refine lv_ldc (v := 65535) hx hb hown (ht _ tw_333) dM_half_17 ?_
  refine lv_iand hx hb dM_half_19 ?_
  have ev : f_half σ w k = ((((f_at σ  (w + ((k / 2).toInt64))).toUInt32 >>> ((16 * (k - k / 2 * 2)).toUInt32 &&& Int32.toUInt32 31)).toInt32) &&& 65535) := by unfold f_half; rfl
  exact W.iret (v := ((((f_at σ  (w + ((k / 2).toInt64))).toUInt32 >>> ((16 * (k - k / 2 * 2)).toUInt32 &&& Int32.toUInt32 31)).toInt32) &&& 65535)) hx hb hr (fun t ht9 hW => ⟨by rw [ev], ht9⟩) (fun q hq => by cases hq) dM_half_20
def f_octet (σ : Nat → Nat → Int32)  (w : Int64) (k : Int32) : Int32 :=
  ((((f_at σ  w).toUInt32 >>> ((8 * k).toUInt32 &&& Int32.toUInt32 31)).toInt32) &&& 255)
set_option maxHeartbeats 4000000 in
set_option maxRecDepth 100000 in
theorem c_octet (l : Launch) {D : va_G} {cs : Nat → ClassId} {ad : Nat → Nat} (hinj : gI ad) (σ : Nat → Nat → Int32) (τ : Nat → Nat → Int64) (sz : Nat)  (w : Int64) (k : Int32) : Met l yM_octet (wsB kM_octet) ({ frames := 1, cells := 0, slots := 0, locals := 22 } : Room) (va_Pc [.ref (ad 1), .long w, .int k] (gP D cs ad σ τ sz)) (gR (some (.int (f_octet σ w k)))) 0 0 (fun _ => False) := by
  refine Met.ofW (cc := cM_octet) (maxL := 4) (ret := (some .int)) (by decide) rfl ?_
  intro p e s m args below meth c s₁ B hml hv
  obtain ⟨rfl, hsz, hP, hK⟩ := hv
  have hx := B.exec
  have hb := B.bytes
  have hr := B.returns
  have hts := atoms_spec (ws := wsB kM_octet) B.pre
  have ht := hbig hts
  have hown : s.vm.findClass RM = some m.cls := findClass_of_methodNamed B.named
  have hlocks := B.notSynchronized
  subst hsz
  have hD : ∀ σ τ, va_D (gA NC ad s.heap.size) (gW cs ad σ τ) := fun _ _ => gw_D hinj (fun i h => gA_ad h)
  have hS : va_S (gA NC ad s.heap.size) s.heap s.heap [] := va_S.rf
  have hl := lv_entry ([.ref (ad 1), .long w, .int k]) (n := 4) (Nat.le_of_ble_eq_true rfl)
  rw [lg_entry_eq]
  generalize (lg_sl ([.ref (ad 1), .long w, .int k]) ++ List.replicate (4 - (lg_sl ([.ref (ad 1), .long w, .int k])).length) Slot.unset).toArray = ls at hl ⊢
  have hl : lv_has ls 4 [(0, .ref (ad 1)), (1, .long w), (3, .int k)] := hl
  refine lv_aload_n hx hb dM_octet_0 rfl (lv_at hl 0 rfl) ?_
  refine lv_lload_n hx hb dM_octet_1 rfl (lv_at hl 1 rfl) ?_
  refine g_pure (v := .int (f_at σ  w)) (va_runV (C := RM) (As := [.long w]) (rest := []) ⟨hx, hb, hml, hown, hts⟩ (c_at l hinj σ τ _  w ) (qV 1 ht tw_276 tw_277 tw_278 tw_2 tk_M_at rfl rfl (by decide +kernel) ⟨(Nat.le_of_ble_eq_true rfl), (Nat.le_of_ble_eq_true rfl)⟩) (g_pv (ci := 1) hK hP (by decide) rfl kM rfl) rfl rfl hl.1 rfl (lv_room (Nat.le_of_ble_eq_true rfl)) dM_octet_2 ⟨Nat.zero_le _, Nat.zero_le _⟩) ?_
  refine lv_bipush (v := 8) hx hb dM_octet_5 (by decide) ?_
  refine lv_iload_n hx hb dM_octet_7 rfl (lv_at hl 2 rfl) ?_
  refine lv_imul hx hb dM_octet_8 ?_
  refine lv_iushr hx hb dM_octet_9 rfl ?_
  refine lv_sipush (v := 255) hx hb dM_octet_10 (by decide) ?_
  refine lv_iand hx hb dM_octet_13 ?_
  have ev : f_octet σ w k = ((((f_at σ  w).toUInt32 >>> ((8 * k).toUInt32 &&& Int32.toUInt32 31)).toInt32) &&& 255) := by unfold f_octet; rfl
  exact W.iret (v := ((((f_at σ  w).toUInt32 >>> ((8 * k).toUInt32 &&& Int32.toUInt32 31)).toInt32) &&& 255)) hx hb hr (fun t ht9 hW => ⟨by rw [ev], ht9⟩) (fun q hq => by cases hq) dM_octet_14
def f_swap (σ : Nat → Nat → Int32)  (k : Int32) (v : Int32) : Int32 :=
  if (f_isBelow k (4096 : Int32)) = 0 then
    (f_at σ  (k.toInt64))
  else
    (f_at σ  (k.toInt64))
def s_swap (σ : Nat → Nat → Int32)  (k : Int32) (v : Int32) : Nat → Nat → Int32 :=
  if (f_isBelow k (4096 : Int32)) = 0 then
    σ
  else
    (w2 σ 2 k.toNatClampNeg v)
set_option maxHeartbeats 4000000 in
set_option maxRecDepth 100000 in
theorem c_swap (l : Launch) {D : va_G} {cs : Nat → ClassId} {ad : Nat → Nat} (hinj : gI ad) (σ : Nat → Nat → Int32) (τ : Nat → Nat → Int64) (sz : Nat)  (k : Int32) (v : Int32) : Met l yM_swap (wsB kM_swap) ({ frames := 1, cells := 0, slots := 0, locals := 22 } : Room) (va_Pc [.ref (ad 1), .int k, .int v] (gP D cs ad σ τ sz)) (gQ (some (.int (f_swap σ k v))) (gB D cs ad (s_swap σ k v) τ) (gA NC ad sz)) 0 0 (gA NC ad sz) := by
  refine Met.ofW (cc := cM_swap) (maxL := 4) (ret := (some .int)) (by decide) rfl ?_
  intro p e s m args below meth c s₁ B hml hv
  obtain ⟨rfl, hsz, hP, hK⟩ := hv
  have hx := B.exec
  have hb := B.bytes
  have hr := B.returns
  have hts := atoms_spec (ws := wsB kM_swap) B.pre
  have ht := hbig hts
  have hown : s.vm.findClass RM = some m.cls := findClass_of_methodNamed B.named
  have hlocks := B.notSynchronized
  subst hsz
  have hD : ∀ σ τ, va_D (gA NC ad s.heap.size) (gW cs ad σ τ) := fun _ _ => gw_D hinj (fun i h => gA_ad h)
  have hS : va_S (gA NC ad s.heap.size) s.heap s.heap [] := va_S.rf
  have hl := lv_entry ([.ref (ad 1), .int k, .int v]) (n := 4) (Nat.le_of_ble_eq_true rfl)
  rw [lg_entry_eq]
  generalize (lg_sl ([.ref (ad 1), .int k, .int v]) ++ List.replicate (4 - (lg_sl ([.ref (ad 1), .int k, .int v])).length) Slot.unset).toArray = ls at hl ⊢
  have hl : lv_has ls 4 [(0, .ref (ad 1)), (1, .int k), (2, .int v)] := hl
  refine lv_aload_n hx hb dM_swap_0 rfl (lv_at hl 0 rfl) ?_
  refine lv_iload_n hx hb dM_swap_1 rfl (lv_at hl 1 rfl) ?_
  refine lv_i2l hx hb dM_swap_2 rfl ?_
  refine g_pure (v := .int (f_at σ  (k.toInt64))) (va_runV (C := RM) (As := [.long (k.toInt64)]) (rest := []) ⟨hx, hb, hml, hown, hts⟩ (c_at l hinj σ τ _  (k.toInt64) ) (qV 1 ht tw_276 tw_277 tw_278 tw_2 tk_M_at rfl rfl (by decide +kernel) ⟨(Nat.le_of_ble_eq_true rfl), (Nat.le_of_ble_eq_true rfl)⟩) (g_pv (ci := 1) hK hP (by decide) rfl kM rfl) rfl rfl hl.1 rfl (lv_room (Nat.le_of_ble_eq_true rfl)) dM_swap_3 ⟨Nat.zero_le _, Nat.zero_le _⟩) ?_
  refine lv_istore_n (lv' := [(3, .int (f_at σ  (k.toInt64))), (0, .ref (ad 1)), (1, .int k), (2, .int v)]) hx hb dM_swap_6 rfl hl (by decide) rfl (fun ls hl => ?_)
  refine lv_iload_n hx hb dM_swap_7 rfl (lv_at hl 2 rfl) ?_
  refine lv_sipush (v := 4096) hx hb dM_swap_8 (by decide) ?_
  refine g_pure (v := .int (f_isBelow k (4096 : Int32))) (va_runSN (As := [.int k, .int 4096]) (rest := []) ⟨hx, hb, hml, hown, hts⟩ (c_isBelow l k (4096 : Int32)) ⟨qN 2 ht tw_281 tw_1 tk_V_isBelow rfl rfl (by decide +kernel) ⟨(Nat.le_of_ble_eq_true rfl), (Nat.le_of_ble_eq_true rfl)⟩, ht _ tw_203, trivial⟩ g_pt rfl rfl hl.1 rfl (lv_room (Nat.le_of_ble_eq_true rfl)) dM_swap_11 ⟨Nat.zero_le _, Nat.zero_le _⟩) ?_
  refine lv_if_eq (tgt := 24) hx hb dM_swap_14 (by decide) (fun c_1 => ?_) (fun c_1 => ?_)
  · refine lv_iload_n hx hb dM_swap_24 rfl (lv_at hl 0 rfl) ?_
    have ev : f_swap σ k v = (f_at σ  (k.toInt64)) := by unfold f_swap; rw [if_pos c_1]
    have es : s_swap σ k v = σ := by unfold s_swap; rw [if_pos c_1]
    exact W.iret (v := (f_at σ  (k.toInt64))) hx hb hr (fun t ht9 hW => ⟨by rw [ev], by show va_P D vwCl (gW cs ad (s_swap σ k v) τ) t.heap; rw [ht9, es]; exact hP, hS.F ht9⟩) hS.2.2 dM_swap_25
  · refine lv_aload_n hx hb dM_swap_17 rfl (lv_at hl 1 rfl) ?_
    refine g_get (ci := 1) (C := RM) (T := TM) (M := 1) (v := .ref (ad 2)) hx hb ht inM hown hK hP 1 (by decide) kM rfl 0 (by decide) (ht _ tw_28) (fun _ h9 => h9) rfl dM_swap_18 ?_
    refine lv_iload_n hx hb dM_swap_21 rfl (lv_at hl 2 rfl) ?_
    refine lv_iload_n hx hb dM_swap_22 rfl (lv_at hl 3 rfl) ?_
    have hi_2 : vp_in k 4096 := (below_in rfl c_1)
    refine g_iast hx hb hK hP hD hS 2 0 (by decide) (fun r t => kMw) rfl hi_2 dM_swap_23 (fun H locs hP hS => ?_)
    refine lv_iload_n hx hb dM_swap_24 rfl (lv_at hl 0 rfl) ?_
    have ev : f_swap σ k v = (f_at σ  (k.toInt64)) := by unfold f_swap; rw [if_neg c_1]
    have es : s_swap σ k v = (w2 σ 2 k.toNatClampNeg v) := by unfold s_swap; rw [if_neg c_1]
    exact W.iret (v := (f_at σ  (k.toInt64))) hx hb hr (fun t ht9 hW => ⟨by rw [ev], by show va_P D vwCl (gW cs ad (s_swap σ k v) τ) t.heap; rw [ht9, es]; exact hP, hS.F ht9⟩) hS.2.2 dM_swap_25
def s_become (σ : Nat → Nat → Int32) (j : Nat) (u : Int32) (v : Int32) (x : Int32) (y : Int32) : Nat → Nat → Int32 :=
  (w2 (w2 (w2 (w2 σ (4 + j) 0 u) (4 + j) 1 v) (4 + j) 2 x) (4 + j) 3 y)
set_option maxHeartbeats 4000000 in
set_option maxRecDepth 100000 in
theorem c_become (l : Launch) {D : va_G} {cs : Nat → ClassId} {ad : Nat → Nat} (hinj : gI ad) (σ : Nat → Nat → Int32) (τ : Nat → Nat → Int64) (sz : Nat) (j : Nat) (u : Int32) (v : Int32) (x : Int32) (y : Int32) (hj : j < 8) : Met l yA_become (wsB kA_become) ({ frames := 0, cells := 0, slots := 0, locals := 0 } : Room) (va_Pc [.ref (ad (4 + j)), .int u, .int v, .int x, .int y] (gP D cs ad σ τ sz)) (gQ none (gB D cs ad (s_become σ j u v x y) τ) (gA NC ad sz)) 0 0 (gA NC ad sz) := by
  refine Met.ofW (cc := cA_become) (maxL := 5) (ret := none) (by decide) rfl ?_
  intro p e s m args below meth c s₁ B hml hv
  obtain ⟨rfl, hsz, hP, hK⟩ := hv
  have hx := B.exec
  have hb := B.bytes
  have hr := B.returns
  have hts := atoms_spec (ws := wsB kA_become) B.pre
  have ht := hbig hts
  have hown : s.vm.findClass RA = some m.cls := findClass_of_methodNamed B.named
  have hlocks := B.notSynchronized
  subst hsz
  have hD : ∀ σ τ, va_D (gA NC ad s.heap.size) (gW cs ad σ τ) := fun _ _ => gw_D hinj (fun i h => gA_ad h)
  have hS : va_S (gA NC ad s.heap.size) s.heap s.heap [] := va_S.rf
  have hl := lv_entry ([.ref (ad (4 + j)), .int u, .int v, .int x, .int y]) (n := 5) (Nat.le_of_ble_eq_true rfl)
  rw [lg_entry_eq]
  generalize (lg_sl ([.ref (ad (4 + j)), .int u, .int v, .int x, .int y]) ++ List.replicate (5 - (lg_sl ([.ref (ad (4 + j)), .int u, .int v, .int x, .int y])).length) Slot.unset).toArray = ls at hl ⊢
  have hl : lv_has ls 5 [(0, .ref (ad (4 + j))), (1, .int u), (2, .int v), (3, .int x), (4, .int y)] := hl
  refine lv_aload_n hx hb dA_become_0 rfl (lv_at hl 0 rfl) ?_
  refine lv_iload_n hx hb dA_become_1 rfl (lv_at hl 1 rfl) ?_
  refine g_put (ci := 2) (C := RA) (T := TA) (M := 4) (ty := .int) (x := u) hx hb ht inA tyA tyA_ok nmA hown hK hP hD hS (4 + j) (lt4 hj) fA (fun r t => (kA hj)) rfl 0 (by decide) (ht _ tw_40) (fun _ h9 => h9) rfl (by decide +kernel) rfl rfl (Nat.le_of_ble_eq_true rfl) rfl dA_become_2 (fun H locs hP hS => ?_)
  refine lv_aload_n hx hb dA_become_5 rfl (lv_at hl 0 rfl) ?_
  refine lv_iload_n hx hb dA_become_6 rfl (lv_at hl 2 rfl) ?_
  refine g_put (ci := 2) (C := RA) (T := TA) (M := 4) (ty := .int) (x := v) hx hb ht inA tyA tyA_ok nmA hown hK hP hD hS (4 + j) (lt4 hj) fA (fun r t => (kA hj)) rfl 1 (by decide) (ht _ tw_41) (fun _ h9 => h9) rfl (by decide +kernel) rfl rfl (Nat.le_of_ble_eq_true rfl) rfl dA_become_7 (fun H locs hP hS => ?_)
  refine lv_aload_n hx hb dA_become_10 rfl (lv_at hl 0 rfl) ?_
  refine lv_iload_n hx hb dA_become_11 rfl (lv_at hl 3 rfl) ?_
  refine g_put (ci := 2) (C := RA) (T := TA) (M := 4) (ty := .int) (x := x) hx hb ht inA tyA tyA_ok nmA hown hK hP hD hS (4 + j) (lt4 hj) fA (fun r t => (kA hj)) rfl 2 (by decide) (ht _ tw_42) (fun _ h9 => h9) rfl (by decide +kernel) rfl rfl (Nat.le_of_ble_eq_true rfl) rfl dA_become_12 (fun H locs hP hS => ?_)
  refine lv_aload_n hx hb dA_become_15 rfl (lv_at hl 0 rfl) ?_
  refine lv_iload hx hb dA_become_16 (lv_at hl 4 rfl) ?_
  refine g_put (ci := 2) (C := RA) (T := TA) (M := 4) (ty := .int) (x := y) hx hb ht inA tyA tyA_ok nmA hown hK hP hD hS (4 + j) (lt4 hj) fA (fun r t => (kA hj)) rfl 3 (by decide) (ht _ tw_43) (fun _ h9 => h9) rfl (by decide +kernel) rfl rfl (Nat.le_of_ble_eq_true rfl) rfl dA_become_18 (fun H locs hP hS => ?_)
  have es : s_become σ j u v x y = (w2 (w2 (w2 (w2 σ (4 + j) 0 u) (4 + j) 1 v) (4 + j) 2 x) (4 + j) 3 y) := by unfold s_become; rfl
  exact W.vret hx hb hr (fun t ht9 hW => ⟨rfl, by show va_P D vwCl (gW cs ad (s_become σ j u v x y) τ) t.heap; rw [ht9, es]; exact hP, hS.F ht9⟩) hS.2.2 dA_become_21
def f_read (σ : Nat → Nat → Int32) (j : Nat) (i : Int32) (k : Int32) : Int32 :=
  if k < (σ (4 + j) 2) then
    if (σ (4 + j) 3) = 0 then
      (f_at σ  ((((σ (4 + j) 0).toInt64) + ((i.toInt64) * ((σ (4 + j) 1).toInt64))) + (k.toInt64)))
    else
      if (σ (4 + j) 3) = 1 then
        (((65536 * (f_octet σ  (((σ (4 + j) 0).toInt64) + ((i.toInt64) * ((σ (4 + j) 1).toInt64))) k)) + 127) / 255)
      else
        if (σ (4 + j) 3) = 2 then
          (((f_half σ  (((σ (4 + j) 0).toInt64) + ((i.toInt64) * ((σ (4 + j) 1).toInt64))) k).toInt16.toInt32) * 256)
        else
          (((f_octet σ  (((σ (4 + j) 0).toInt64) + ((i.toInt64) * ((σ (4 + j) 1).toInt64))) k).toInt8.toInt32) * 65536)
  else
    if k = 3 then
      65536
    else
      0
set_option maxHeartbeats 4000000 in
set_option maxRecDepth 100000 in
theorem c_read (l : Launch) {D : va_G} {cs : Nat → ClassId} {ad : Nat → Nat} (hinj : gI ad) (σ : Nat → Nat → Int32) (τ : Nat → Nat → Int64) (sz : Nat) (j : Nat) (i : Int32) (k : Int32) (hj : j < 8) : Met l yA_read (wsB kA_read) ({ frames := 2, cells := 0, slots := 0, locals := 45 } : Room) (va_Pc [.ref (ad (4 + j)), .ref (ad 1), .int i, .int k] (gP D cs ad σ τ sz)) (gR (some (.int (f_read σ j i k)))) 0 0 (fun _ => False) := by
  refine Met.ofW (cc := cA_read) (maxL := 6) (ret := (some .int)) (by decide) rfl ?_
  intro p e s m args below meth c s₁ B hml hv
  obtain ⟨rfl, hsz, hP, hK⟩ := hv
  have hx := B.exec
  have hb := B.bytes
  have hr := B.returns
  have hts := atoms_spec (ws := wsB kA_read) B.pre
  have ht := hbig hts
  have hown : s.vm.findClass RA = some m.cls := findClass_of_methodNamed B.named
  have hlocks := B.notSynchronized
  subst hsz
  have hD : ∀ σ τ, va_D (gA NC ad s.heap.size) (gW cs ad σ τ) := fun _ _ => gw_D hinj (fun i h => gA_ad h)
  have hS : va_S (gA NC ad s.heap.size) s.heap s.heap [] := va_S.rf
  have hl := lv_entry ([.ref (ad (4 + j)), .ref (ad 1), .int i, .int k]) (n := 6) (Nat.le_of_ble_eq_true rfl)
  rw [lg_entry_eq]
  generalize (lg_sl ([.ref (ad (4 + j)), .ref (ad 1), .int i, .int k]) ++ List.replicate (6 - (lg_sl ([.ref (ad (4 + j)), .ref (ad 1), .int i, .int k])).length) Slot.unset).toArray = ls at hl ⊢
  have hl : lv_has ls 6 [(0, .ref (ad (4 + j))), (1, .ref (ad 1)), (2, .int i), (3, .int k)] := hl
  refine lv_iload_n hx hb dA_read_0 rfl (lv_at hl 3 rfl) ?_
  refine lv_aload_n hx hb dA_read_1 rfl (lv_at hl 0 rfl) ?_
  refine g_get (ci := 2) (C := RA) (T := TA) (M := 4) (v := .int (σ (4 + j) 2)) hx hb ht inA hown hK hP (4 + j) (lt4 hj) (kA hj) rfl 2 (by decide) (ht _ tw_42) (fun _ h9 => h9) rfl dA_read_2 ?_
  refine lv_icmp_lt (tgt := 20) hx hb dA_read_5 (by decide) (fun c_1 => ?_) (fun c_1 => ?_)
  · refine lv_aload_n hx hb dA_read_20 rfl (lv_at hl 0 rfl) ?_
    refine g_get (ci := 2) (C := RA) (T := TA) (M := 4) (v := .int (σ (4 + j) 0)) hx hb ht inA hown hK hP (4 + j) (lt4 hj) (kA hj) rfl 0 (by decide) (ht _ tw_40) (fun _ h9 => h9) rfl dA_read_21 ?_
    refine lv_i2l hx hb dA_read_24 rfl ?_
    refine lv_iload_n hx hb dA_read_25 rfl (lv_at hl 2 rfl) ?_
    refine lv_i2l hx hb dA_read_26 rfl ?_
    refine lv_aload_n hx hb dA_read_27 rfl (lv_at hl 0 rfl) ?_
    refine g_get (ci := 2) (C := RA) (T := TA) (M := 4) (v := .int (σ (4 + j) 1)) hx hb ht inA hown hK hP (4 + j) (lt4 hj) (kA hj) rfl 1 (by decide) (ht _ tw_41) (fun _ h9 => h9) rfl dA_read_28 ?_
    refine lv_i2l hx hb dA_read_31 rfl ?_
    refine lv_lmul hx hb dA_read_32 ?_
    refine lv_ladd hx hb dA_read_33 ?_
    refine lv_lstore (lv' := [(4, .long (((σ (4 + j) 0).toInt64) + ((i.toInt64) * ((σ (4 + j) 1).toInt64)))), (0, .ref (ad (4 + j))), (1, .ref (ad 1)), (2, .int i), (3, .int k)]) hx hb dA_read_34 hl (by decide) rfl (fun ls hl => ?_)
    refine lv_aload_n hx hb dA_read_36 rfl (lv_at hl 1 rfl) ?_
    refine g_get (ci := 2) (C := RA) (T := TA) (M := 4) (v := .int (σ (4 + j) 3)) hx hb ht inA hown hK hP (4 + j) (lt4 hj) (kA hj) rfl 3 (by decide) (ht _ tw_43) (fun _ h9 => h9) rfl dA_read_37 ?_
    by_cases c_2 : (σ (4 + j) 3) = 0
    · refine lv_tableIn (off := 28) (tgt := 68) hx hb dA_read_40 (by rw [c_2]; decide) (by rw [c_2]; decide) (by rw [c_2]; rfl) (by decide) ?_
      refine lv_aload_n hx hb dA_read_68 rfl (lv_at hl 2 rfl) ?_
      refine lv_lload hx hb dA_read_69 (lv_at hl 0 rfl) ?_
      refine lv_iload_n hx hb dA_read_71 rfl (lv_at hl 4 rfl) ?_
      refine lv_i2l hx hb dA_read_72 rfl ?_
      refine lv_ladd hx hb dA_read_73 ?_
      refine g_pure (v := .int (f_at σ  ((((σ (4 + j) 0).toInt64) + ((i.toInt64) * ((σ (4 + j) 1).toInt64))) + (k.toInt64)))) (va_runV (C := RM) (As := [.long ((((σ (4 + j) 0).toInt64) + ((i.toInt64) * ((σ (4 + j) 1).toInt64))) + (k.toInt64))]) (rest := []) ⟨hx, hb, hml, hown, hts⟩ (c_at l hinj σ τ _  ((((σ (4 + j) 0).toInt64) + ((i.toInt64) * ((σ (4 + j) 1).toInt64))) + (k.toInt64)) ) (qV 1 ht tw_324 tw_277 tw_278 tw_2 tk_M_at rfl rfl (by decide +kernel) ⟨(Nat.le_of_ble_eq_true rfl), (Nat.le_of_ble_eq_true rfl)⟩) (g_pv (ci := 1) hK hP (by decide) rfl kM rfl) rfl rfl hl.1 rfl (lv_room (Nat.le_of_ble_eq_true rfl)) dA_read_74 ⟨Nat.zero_le _, Nat.zero_le _⟩) ?_
      have ev : f_read σ j i k = (f_at σ  ((((σ (4 + j) 0).toInt64) + ((i.toInt64) * ((σ (4 + j) 1).toInt64))) + (k.toInt64))) := by unfold f_read; rw [if_pos c_1, if_pos c_2]
      exact W.iret (v := (f_at σ  ((((σ (4 + j) 0).toInt64) + ((i.toInt64) * ((σ (4 + j) 1).toInt64))) + (k.toInt64)))) hx hb hr (fun t ht9 hW => ⟨by rw [ev], ht9⟩) (fun q hq => by cases hq) dA_read_77
    · by_cases c_3 : (σ (4 + j) 3) = 1
      · refine lv_tableIn (off := 38) (tgt := 78) hx hb dA_read_40 (by rw [c_3]; decide) (by rw [c_3]; decide) (by rw [c_3]; rfl) (by decide) ?_
        refine lv_ldc (v := 65536) hx hb hown (ht _ tw_323) dA_read_78 ?_
        refine lv_aload_n hx hb dA_read_80 rfl (lv_at hl 2 rfl) ?_
        refine lv_lload hx hb dA_read_81 (lv_at hl 0 rfl) ?_
        refine lv_iload_n hx hb dA_read_83 rfl (lv_at hl 4 rfl) ?_
        refine g_pure (v := .int (f_octet σ  (((σ (4 + j) 0).toInt64) + ((i.toInt64) * ((σ (4 + j) 1).toInt64))) k)) (va_runV (C := RM) (As := [.long (((σ (4 + j) 0).toInt64) + ((i.toInt64) * ((σ (4 + j) 1).toInt64))), .int k]) (rest := [.int 65536]) ⟨hx, hb, hml, hown, hts⟩ (c_octet l hinj σ τ _  (((σ (4 + j) 0).toInt64) + ((i.toInt64) * ((σ (4 + j) 1).toInt64))) k ) (qV 2 ht tw_325 tw_326 tw_327 tw_2 tk_M_octet rfl rfl (by decide +kernel) ⟨(Nat.le_of_ble_eq_true rfl), (Nat.le_of_ble_eq_true rfl)⟩) (g_pv (ci := 1) hK hP (by decide) rfl kM rfl) rfl rfl hl.1 rfl (lv_room (Nat.le_of_ble_eq_true rfl)) dA_read_84 ⟨Nat.zero_le _, Nat.zero_le _⟩) ?_
        refine lv_imul hx hb dA_read_87 ?_
        refine lv_bipush (v := 127) hx hb dA_read_88 (by decide) ?_
        refine lv_iadd hx hb dA_read_90 ?_
        refine lv_sipush (v := 255) hx hb dA_read_91 (by decide) ?_
        refine lv_idiv hx hb dA_read_94 (by decide) ?_
        have ev : f_read σ j i k = (((65536 * (f_octet σ  (((σ (4 + j) 0).toInt64) + ((i.toInt64) * ((σ (4 + j) 1).toInt64))) k)) + 127) / 255) := by unfold f_read; rw [if_pos c_1, if_neg c_2, if_pos c_3]
        exact W.iret (v := (((65536 * (f_octet σ  (((σ (4 + j) 0).toInt64) + ((i.toInt64) * ((σ (4 + j) 1).toInt64))) k)) + 127) / 255)) hx hb hr (fun t ht9 hW => ⟨by rw [ev], ht9⟩) (fun q hq => by cases hq) dA_read_95
      · by_cases c_4 : (σ (4 + j) 3) = 2
        · refine lv_tableIn (off := 56) (tgt := 96) hx hb dA_read_40 (by rw [c_4]; decide) (by rw [c_4]; decide) (by rw [c_4]; rfl) (by decide) ?_
          refine lv_aload_n hx hb dA_read_96 rfl (lv_at hl 2 rfl) ?_
          refine lv_lload hx hb dA_read_97 (lv_at hl 0 rfl) ?_
          refine lv_iload_n hx hb dA_read_99 rfl (lv_at hl 4 rfl) ?_
          refine g_pure (v := .int (f_half σ  (((σ (4 + j) 0).toInt64) + ((i.toInt64) * ((σ (4 + j) 1).toInt64))) k)) (va_runV (C := RM) (As := [.long (((σ (4 + j) 0).toInt64) + ((i.toInt64) * ((σ (4 + j) 1).toInt64))), .int k]) (rest := []) ⟨hx, hb, hml, hown, hts⟩ (c_half l hinj σ τ _  (((σ (4 + j) 0).toInt64) + ((i.toInt64) * ((σ (4 + j) 1).toInt64))) k ) (qV 2 ht tw_329 tw_330 tw_331 tw_2 tk_M_half rfl rfl (by decide +kernel) ⟨(Nat.le_of_ble_eq_true rfl), (Nat.le_of_ble_eq_true rfl)⟩) (g_pv (ci := 1) hK hP (by decide) rfl kM rfl) rfl rfl hl.1 rfl (lv_room (Nat.le_of_ble_eq_true rfl)) dA_read_100 ⟨Nat.zero_le _, Nat.zero_le _⟩) ?_
          refine lv_i2s hx hb dA_read_103 rfl ?_
          refine lv_sipush (v := 256) hx hb dA_read_104 (by decide) ?_
          refine lv_imul hx hb dA_read_107 ?_
          have ev : f_read σ j i k = (((f_half σ  (((σ (4 + j) 0).toInt64) + ((i.toInt64) * ((σ (4 + j) 1).toInt64))) k).toInt16.toInt32) * 256) := by unfold f_read; rw [if_pos c_1, if_neg c_2, if_neg c_3, if_pos c_4]
          exact W.iret (v := (((f_half σ  (((σ (4 + j) 0).toInt64) + ((i.toInt64) * ((σ (4 + j) 1).toInt64))) k).toInt16.toInt32) * 256)) hx hb hr (fun t ht9 hW => ⟨by rw [ev], ht9⟩) (fun q hq => by cases hq) dA_read_108
        · refine lv_tableOut (tgt := 109) hx hb dA_read_40 (sw_out3 c_2 c_3 c_4) (by decide) ?_
          refine lv_aload_n hx hb dA_read_109 rfl (lv_at hl 2 rfl) ?_
          refine lv_lload hx hb dA_read_110 (lv_at hl 0 rfl) ?_
          refine lv_iload_n hx hb dA_read_112 rfl (lv_at hl 4 rfl) ?_
          refine g_pure (v := .int (f_octet σ  (((σ (4 + j) 0).toInt64) + ((i.toInt64) * ((σ (4 + j) 1).toInt64))) k)) (va_runV (C := RM) (As := [.long (((σ (4 + j) 0).toInt64) + ((i.toInt64) * ((σ (4 + j) 1).toInt64))), .int k]) (rest := []) ⟨hx, hb, hml, hown, hts⟩ (c_octet l hinj σ τ _  (((σ (4 + j) 0).toInt64) + ((i.toInt64) * ((σ (4 + j) 1).toInt64))) k ) (qV 2 ht tw_325 tw_326 tw_327 tw_2 tk_M_octet rfl rfl (by decide +kernel) ⟨(Nat.le_of_ble_eq_true rfl), (Nat.le_of_ble_eq_true rfl)⟩) (g_pv (ci := 1) hK hP (by decide) rfl kM rfl) rfl rfl hl.1 rfl (lv_room (Nat.le_of_ble_eq_true rfl)) dA_read_113 ⟨Nat.zero_le _, Nat.zero_le _⟩) ?_
          refine lv_i2b hx hb dA_read_116 rfl ?_
          refine lv_ldc (v := 65536) hx hb hown (ht _ tw_323) dA_read_117 ?_
          refine lv_imul hx hb dA_read_119 ?_
          have ev : f_read σ j i k = (((f_octet σ  (((σ (4 + j) 0).toInt64) + ((i.toInt64) * ((σ (4 + j) 1).toInt64))) k).toInt8.toInt32) * 65536) := by unfold f_read; rw [if_pos c_1, if_neg c_2, if_neg c_3, if_neg c_4]
          exact W.iret (v := (((f_octet σ  (((σ (4 + j) 0).toInt64) + ((i.toInt64) * ((σ (4 + j) 1).toInt64))) k).toInt8.toInt32) * 65536)) hx hb hr (fun t ht9 hW => ⟨by rw [ev], ht9⟩) (fun q hq => by cases hq) dA_read_120
  · refine lv_iload_n hx hb dA_read_8 rfl (lv_at hl 3 rfl) ?_
    refine lv_iconst (v := 3) hx hb dA_read_9 (by decide) ?_
    refine lv_icmp_ne (tgt := 18) hx hb dA_read_10 (by decide) (fun c_5 => ?_) (fun c_5 => ?_)
    · refine lv_iconst (v := 0) hx hb dA_read_18 (by decide) ?_
      have ev : f_read σ j i k = 0 := by unfold f_read; rw [if_neg c_1, if_neg c_5]
      exact W.iret (v := 0) hx hb hr (fun t ht9 hW => ⟨by rw [ev], ht9⟩) (fun q hq => by cases hq) dA_read_19
    · refine lv_ldc (v := 65536) hx hb hown (ht _ tw_323) dA_read_13 ?_
      refine lv_goto (tgt := 19) hx hb dA_read_15 (by decide) ?_
      have ev : f_read σ j i k = 65536 := by unfold f_read; rw [if_neg c_1, if_pos c_5]
      exact W.iret (v := 65536) hx hb hr (fun t ht9 hW => ⟨by rw [ev], ht9⟩) (fun q hq => by cases hq) dA_read_19
def s_sbecome (σ : Nat → Nat → Int32)  (a0 : Int32) (a1 : Int32) (a2 : Int32) (a3 : Int32) (a4 : Int32) (a5 : Int32) : Nat → Nat → Int32 :=
  (w2 (w2 (w2 (w2 (w2 (w2 σ 33 0 a0) 33 1 a1) 33 2 a2) 33 3 a3) 33 4 a4) 33 5 a5)
set_option maxHeartbeats 4000000 in
set_option maxRecDepth 100000 in
theorem c_sbecome (l : Launch) {D : va_G} {cs : Nat → ClassId} {ad : Nat → Nat} (hinj : gI ad) (σ : Nat → Nat → Int32) (τ : Nat → Nat → Int64) (sz : Nat)  (a0 : Int32) (a1 : Int32) (a2 : Int32) (a3 : Int32) (a4 : Int32) (a5 : Int32) : Met l yS_become (wsB kS_become) ({ frames := 0, cells := 0, slots := 0, locals := 0 } : Room) (va_Pc [.ref (ad 33), .int a0, .int a1, .int a2, .int a3, .int a4, .int a5] (gP D cs ad σ τ sz)) (gQ none (gB D cs ad (s_sbecome σ a0 a1 a2 a3 a4 a5) τ) (gA NC ad sz)) 0 0 (gA NC ad sz) := by
  refine Met.ofW (cc := cS_become) (maxL := 7) (ret := none) (by decide) rfl ?_
  intro p e s m args below meth c s₁ B hml hv
  obtain ⟨rfl, hsz, hP, hK⟩ := hv
  have hx := B.exec
  have hb := B.bytes
  have hr := B.returns
  have hts := atoms_spec (ws := wsB kS_become) B.pre
  have ht := hbig hts
  have hown : s.vm.findClass RS = some m.cls := findClass_of_methodNamed B.named
  have hlocks := B.notSynchronized
  subst hsz
  have hD : ∀ σ τ, va_D (gA NC ad s.heap.size) (gW cs ad σ τ) := fun _ _ => gw_D hinj (fun i h => gA_ad h)
  have hS : va_S (gA NC ad s.heap.size) s.heap s.heap [] := va_S.rf
  have hl := lv_entry ([.ref (ad 33), .int a0, .int a1, .int a2, .int a3, .int a4, .int a5]) (n := 7) (Nat.le_of_ble_eq_true rfl)
  rw [lg_entry_eq]
  generalize (lg_sl ([.ref (ad 33), .int a0, .int a1, .int a2, .int a3, .int a4, .int a5]) ++ List.replicate (7 - (lg_sl ([.ref (ad 33), .int a0, .int a1, .int a2, .int a3, .int a4, .int a5])).length) Slot.unset).toArray = ls at hl ⊢
  have hl : lv_has ls 7 [(0, .ref (ad 33)), (1, .int a0), (2, .int a1), (3, .int a2), (4, .int a3), (5, .int a4), (6, .int a5)] := hl
  refine lv_aload_n hx hb dS_become_0 rfl (lv_at hl 0 rfl) ?_
  refine lv_iload_n hx hb dS_become_1 rfl (lv_at hl 1 rfl) ?_
  refine g_put (ci := 4) (C := RS) (T := TS) (M := 6) (ty := .int) (x := a0) hx hb ht inS tyS tyS_ok nmS hown hK hP hD hS 33 (by decide) fS (fun r t => kS) rfl 0 (by decide) (ht _ tw_77) (fun _ h9 => h9) rfl (by decide +kernel) rfl rfl (Nat.le_of_ble_eq_true rfl) rfl dS_become_2 (fun H locs hP hS => ?_)
  refine lv_aload_n hx hb dS_become_5 rfl (lv_at hl 0 rfl) ?_
  refine lv_iload_n hx hb dS_become_6 rfl (lv_at hl 2 rfl) ?_
  refine g_put (ci := 4) (C := RS) (T := TS) (M := 6) (ty := .int) (x := a1) hx hb ht inS tyS tyS_ok nmS hown hK hP hD hS 33 (by decide) fS (fun r t => kS) rfl 1 (by decide) (ht _ tw_78) (fun _ h9 => h9) rfl (by decide +kernel) rfl rfl (Nat.le_of_ble_eq_true rfl) rfl dS_become_7 (fun H locs hP hS => ?_)
  refine lv_aload_n hx hb dS_become_10 rfl (lv_at hl 0 rfl) ?_
  refine lv_iload_n hx hb dS_become_11 rfl (lv_at hl 3 rfl) ?_
  refine g_put (ci := 4) (C := RS) (T := TS) (M := 6) (ty := .int) (x := a2) hx hb ht inS tyS tyS_ok nmS hown hK hP hD hS 33 (by decide) fS (fun r t => kS) rfl 2 (by decide) (ht _ tw_79) (fun _ h9 => h9) rfl (by decide +kernel) rfl rfl (Nat.le_of_ble_eq_true rfl) rfl dS_become_12 (fun H locs hP hS => ?_)
  refine lv_aload_n hx hb dS_become_15 rfl (lv_at hl 0 rfl) ?_
  refine lv_iload hx hb dS_become_16 (lv_at hl 4 rfl) ?_
  refine g_put (ci := 4) (C := RS) (T := TS) (M := 6) (ty := .int) (x := a3) hx hb ht inS tyS tyS_ok nmS hown hK hP hD hS 33 (by decide) fS (fun r t => kS) rfl 3 (by decide) (ht _ tw_80) (fun _ h9 => h9) rfl (by decide +kernel) rfl rfl (Nat.le_of_ble_eq_true rfl) rfl dS_become_18 (fun H locs hP hS => ?_)
  refine lv_aload_n hx hb dS_become_21 rfl (lv_at hl 0 rfl) ?_
  refine lv_iload hx hb dS_become_22 (lv_at hl 5 rfl) ?_
  refine g_put (ci := 4) (C := RS) (T := TS) (M := 6) (ty := .int) (x := a4) hx hb ht inS tyS tyS_ok nmS hown hK hP hD hS 33 (by decide) fS (fun r t => kS) rfl 4 (by decide) (ht _ tw_81) (fun _ h9 => h9) rfl (by decide +kernel) rfl rfl (Nat.le_of_ble_eq_true rfl) rfl dS_become_24 (fun H locs hP hS => ?_)
  refine lv_aload_n hx hb dS_become_27 rfl (lv_at hl 0 rfl) ?_
  refine lv_iload hx hb dS_become_28 (lv_at hl 6 rfl) ?_
  refine g_put (ci := 4) (C := RS) (T := TS) (M := 6) (ty := .int) (x := a5) hx hb ht inS tyS tyS_ok nmS hown hK hP hD hS 33 (by decide) fS (fun r t => kS) rfl 5 (by decide) (ht _ tw_82) (fun _ h9 => h9) rfl (by decide +kernel) rfl rfl (Nat.le_of_ble_eq_true rfl) rfl dS_become_30 (fun H locs hP hS => ?_)
  have es : s_sbecome σ a0 a1 a2 a3 a4 a5 = (w2 (w2 (w2 (w2 (w2 (w2 σ 33 0 a0) 33 1 a1) 33 2 a2) 33 3 a3) 33 4 a4) 33 5 a5) := by unfold s_sbecome; rfl
  exact W.vret hx hb hr (fun t ht9 hW => ⟨rfl, by show va_P D vwCl (gW cs ad (s_sbecome σ a0 a1 a2 a3 a4 a5) τ) t.heap; rw [ht9, es]; exact hP, hS.F ht9⟩) hS.2.2 dS_become_33
def f_isOut (σ : Nat → Nat → Int32)  (x : Int32) : Int32 :=
  if (((σ 0 6) >>> (x &&& 31)) &&& 1) = 0 then
    0
  else
    1
set_option maxHeartbeats 4000000 in
set_option maxRecDepth 100000 in
theorem c_isOut (l : Launch) {D : va_G} {cs : Nat → ClassId} {ad : Nat → Nat} (hinj : gI ad) (σ : Nat → Nat → Int32) (τ : Nat → Nat → Int64) (sz : Nat)  (x : Int32) : Met l yV_isOut (wsB kV_isOut) ({ frames := 0, cells := 0, slots := 0, locals := 0 } : Room) (va_Pc [.ref (ad 0), .int x] (gP D cs ad σ τ sz)) (gR (some (.int (f_isOut σ x)))) 0 0 (fun _ => False) := by
  refine Met.ofW (cc := cV_isOut) (maxL := 2) (ret := (some .boolean)) (by decide) rfl ?_
  intro p e s m args below meth c s₁ B hml hv
  obtain ⟨rfl, hsz, hP, hK⟩ := hv
  have hx := B.exec
  have hb := B.bytes
  have hr := B.returns
  have hts := atoms_spec (ws := wsB kV_isOut) B.pre
  have ht := hbig hts
  have hown : s.vm.findClass RV = some m.cls := findClass_of_methodNamed B.named
  have hlocks := B.notSynchronized
  subst hsz
  have hD : ∀ σ τ, va_D (gA NC ad s.heap.size) (gW cs ad σ τ) := fun _ _ => gw_D hinj (fun i h => gA_ad h)
  have hS : va_S (gA NC ad s.heap.size) s.heap s.heap [] := va_S.rf
  have hl := lv_entry ([.ref (ad 0), .int x]) (n := 2) (Nat.le_of_ble_eq_true rfl)
  rw [lg_entry_eq]
  generalize (lg_sl ([.ref (ad 0), .int x]) ++ List.replicate (2 - (lg_sl ([.ref (ad 0), .int x])).length) Slot.unset).toArray = ls at hl ⊢
  have hl : lv_has ls 2 [(0, .ref (ad 0)), (1, .int x)] := hl
  refine lv_aload_n hx hb dV_isOut_0 rfl (lv_at hl 0 rfl) ?_
  refine g_get (ci := 0) (C := RV) (T := TV) (M := 8) (v := .int (σ 0 6)) hx hb ht inV hown hK hP 0 (by decide) kV rfl 6 (by decide) (ht _ tw_102) (fun _ h9 => h9) rfl dV_isOut_1 ?_
  refine lv_iload_n hx hb dV_isOut_4 rfl (lv_at hl 1 rfl) ?_
  refine lv_ishr hx hb dV_isOut_5 ?_
  refine lv_iconst (v := 1) hx hb dV_isOut_6 (by decide) ?_
  refine lv_iand hx hb dV_isOut_7 ?_
  refine lv_if_eq (tgt := 15) hx hb dV_isOut_8 (by decide) (fun c_1 => ?_) (fun c_1 => ?_)
  · refine lv_iconst (v := 0) hx hb dV_isOut_15 (by decide) ?_
    have ev : f_isOut σ x = 0 := by unfold f_isOut; rw [if_pos c_1]
    exact W.zret (v := 0) (ty := .boolean) hx hb hr rfl (fun t ht9 hW => ⟨by rw [ev], ht9⟩) (fun q hq => by cases hq) dV_isOut_16
  · refine lv_iconst (v := 1) hx hb dV_isOut_11 (by decide) ?_
    refine lv_goto (tgt := 16) hx hb dV_isOut_12 (by decide) ?_
    have ev : f_isOut σ x = 1 := by unfold f_isOut; rw [if_neg c_1]
    exact W.zret (v := 1) (ty := .boolean) hx hb hr rfl (fun t ht9 hW => ⟨by rw [ev], ht9⟩) (fun q hq => by cases hq) dV_isOut_16
def f_distance (σ : Nat → Nat → Int32) (i1 : Nat) (x : Int32) : Int64 :=
  if x = 0 then
    (((σ i1 ((2 : Int32).toNatClampNeg)).toInt64) + ((σ i1 ((3 : Int32).toNatClampNeg)).toInt64))
  else
    (((σ i1 ((3 : Int32).toNatClampNeg)).toInt64) - 256)
set_option maxHeartbeats 4000000 in
set_option maxRecDepth 100000 in
theorem c_distance (l : Launch) {D : va_G} {cs : Nat → ClassId} {ad : Nat → Nat} (hinj : gI ad) (σ : Nat → Nat → Int32) (τ : Nat → Nat → Int64) (sz : Nat) (i1 : Nat) (x : Int32) (h1 : i1 < NC) (k1 : ∀ r t, ceW cs ad i1 r t = .inl (cs 0, 32, .inl r)) : Met l yP_distance (wsB kP_distance) ({ frames := 0, cells := 0, slots := 0, locals := 0 } : Room) (va_Pc [.ref (ad i1), .int x] (gP D cs ad σ τ sz)) (gR (some (.long (f_distance σ i1 x)))) 0 0 (fun _ => False) := by
  refine Met.ofW (cc := cP_distance) (maxL := 2) (ret := (some .long)) (by decide) rfl ?_
  intro p e s m args below meth c s₁ B hml hv
  obtain ⟨rfl, hsz, hP, hK⟩ := hv
  have hx := B.exec
  have hb := B.bytes
  have hr := B.returns
  have hts := atoms_spec (ws := wsB kP_distance) B.pre
  have ht := hbig hts
  have hown : s.vm.findClass RP = some m.cls := findClass_of_methodNamed B.named
  have hlocks := B.notSynchronized
  subst hsz
  have hD : ∀ σ τ, va_D (gA NC ad s.heap.size) (gW cs ad σ τ) := fun _ _ => gw_D hinj (fun i h => gA_ad h)
  have hS : va_S (gA NC ad s.heap.size) s.heap s.heap [] := va_S.rf
  have hl := lv_entry ([.ref (ad i1), .int x]) (n := 2) (Nat.le_of_ble_eq_true rfl)
  rw [lg_entry_eq]
  generalize (lg_sl ([.ref (ad i1), .int x]) ++ List.replicate (2 - (lg_sl ([.ref (ad i1), .int x])).length) Slot.unset).toArray = ls at hl ⊢
  have hl : lv_has ls 2 [(0, .ref (ad i1)), (1, .int x)] := hl
  refine lv_iload_n hx hb dP_distance_0 rfl (lv_at hl 1 rfl) ?_
  refine lv_if_ne (tgt := 16) hx hb dP_distance_1 (by decide) (fun c_1 => ?_) (fun c_1 => ?_)
  · refine lv_aload_n hx hb dP_distance_16 rfl (lv_at hl 0 rfl) ?_
    refine lv_iconst (v := 3) hx hb dP_distance_17 (by decide) ?_
    have hi_2 : vp_in (3 : Int32) 32 := (by unfold vp_in; decide)
    refine g_iald hx hb hK hP i1 0 h1 k1 rfl hi_2 dP_distance_18 ?_
    refine lv_i2l hx hb dP_distance_19 rfl ?_
    refine lv_ldc2 (v := 256) hx hb hown (ht _ tw_136) dP_distance_20 ?_
    refine lv_lsub hx hb dP_distance_23 ?_
    have ev : f_distance σ i1 x = (((σ i1 ((3 : Int32).toNatClampNeg)).toInt64) - 256) := by unfold f_distance; rw [if_neg c_1]
    exact W.lret (v := (((σ i1 ((3 : Int32).toNatClampNeg)).toInt64) - 256)) hx hb hr (fun t ht9 hW => ⟨by rw [ev], ht9⟩) (fun q hq => by cases hq) dP_distance_24
  · refine lv_aload_n hx hb dP_distance_4 rfl (lv_at hl 0 rfl) ?_
    refine lv_iconst (v := 2) hx hb dP_distance_5 (by decide) ?_
    have hi_3 : vp_in (2 : Int32) 32 := (by unfold vp_in; decide)
    refine g_iald hx hb hK hP i1 0 h1 k1 rfl hi_3 dP_distance_6 ?_
    refine lv_i2l hx hb dP_distance_7 rfl ?_
    refine lv_aload_n hx hb dP_distance_8 rfl (lv_at hl 0 rfl) ?_
    refine lv_iconst (v := 3) hx hb dP_distance_9 (by decide) ?_
    have hi_4 : vp_in (3 : Int32) 32 := (by unfold vp_in; decide)
    refine g_iald hx hb hK hP i1 0 h1 k1 rfl hi_4 dP_distance_10 ?_
    refine lv_i2l hx hb dP_distance_11 rfl ?_
    refine lv_ladd hx hb dP_distance_12 ?_
    refine lv_goto (tgt := 24) hx hb dP_distance_13 (by decide) ?_
    have ev : f_distance σ i1 x = (((σ i1 ((2 : Int32).toNatClampNeg)).toInt64) + ((σ i1 ((3 : Int32).toNatClampNeg)).toInt64)) := by unfold f_distance; rw [if_pos c_1]
    exact W.lret (v := (((σ i1 ((2 : Int32).toNatClampNeg)).toInt64) + ((σ i1 ((3 : Int32).toNatClampNeg)).toInt64))) hx hb hr (fun t ht9 hW => ⟨by rw [ev], ht9⟩) (fun q hq => by cases hq) dP_distance_24
def s_take (σ : Nat → Nat → Int32) (b : Nat) (i1 : Nat)  : Nat → Nat → Int32 :=
  if (σ b 1) < 5 then
    (w2 (cp2 σ i1 (b + 2 + (σ b 1).toNatClampNeg) (32 : Int32).toNatClampNeg) b 1 (((cp2 σ i1 (b + 2 + (σ b 1).toNatClampNeg) (32 : Int32).toNatClampNeg) b 1) + 1))
  else
    σ
set_option maxHeartbeats 4000000 in
set_option maxRecDepth 100000 in
theorem c_take (l : Launch) {D : va_G} {cs : Nat → ClassId} {ad : Nat → Nat} (hinj : gI ad) (σ : Nat → Nat → Int32) (τ : Nat → Nat → Int64) (sz : Nat) (b : Nat) (i1 : Nat)  (hb0 : isP b) (h1 : i1 < NC) (k1 : ∀ r t, ceW cs ad i1 r t = .inl (cs 0, 32, .inl r)) (hm : ¬ σ b 1 < 0) : Met l yP_take (wsB kP_take) ({ frames := 1, cells := 0, slots := 0, locals := 64 } : Room) (va_Pc [.ref (ad b), .ref (ad i1)] (gP D cs ad σ τ sz)) (gQ none (gB D cs ad (s_take σ b i1) τ) (gA NC ad sz)) 0 0 (gA NC ad sz) := by
  refine Met.ofW (cc := cP_take) (maxL := 2) (ret := none) (by decide) rfl ?_
  intro p e s m args below meth c s₁ B hml hv
  obtain ⟨rfl, hsz, hP, hK⟩ := hv
  have hx := B.exec
  have hb := B.bytes
  have hr := B.returns
  have hts := atoms_spec (ws := wsB kP_take) B.pre
  have ht := hbig hts
  have hown : s.vm.findClass RP = some m.cls := findClass_of_methodNamed B.named
  have hlocks := B.notSynchronized
  subst hsz
  have hD : ∀ σ τ, va_D (gA NC ad s.heap.size) (gW cs ad σ τ) := fun _ _ => gw_D hinj (fun i h => gA_ad h)
  have hS : va_S (gA NC ad s.heap.size) s.heap s.heap [] := va_S.rf
  have hl := lv_entry ([.ref (ad b), .ref (ad i1)]) (n := 2) (Nat.le_of_ble_eq_true rfl)
  rw [lg_entry_eq]
  generalize (lg_sl ([.ref (ad b), .ref (ad i1)]) ++ List.replicate (2 - (lg_sl ([.ref (ad b), .ref (ad i1)])).length) Slot.unset).toArray = ls at hl ⊢
  have hl : lv_has ls 2 [(0, .ref (ad b)), (1, .ref (ad i1))] := hl
  refine lv_aload_n hx hb dP_take_0 rfl (lv_at hl 0 rfl) ?_
  refine g_get (ci := 3) (C := RP) (T := TP) (M := 2) (v := .int (σ b 1)) hx hb ht inP hown hK hP b (isP_lt0 hb0) (kP hb0) rfl 1 (by decide) (ht _ tw_64) (fun _ h9 => h9) rfl dP_take_1 ?_
  refine lv_iconst (v := 5) hx hb dP_take_4 (by decide) ?_
  refine lv_icmp_lt (tgt := 9) hx hb dP_take_5 (by decide) (fun c_1 => ?_) (fun c_1 => ?_)
  · refine lv_aload_n hx hb dP_take_9 rfl (lv_at hl 1 rfl) ?_
    refine lv_iconst (v := 0) hx hb dP_take_10 (by decide) ?_
    refine lv_aload_n hx hb dP_take_11 rfl (lv_at hl 0 rfl) ?_
    refine g_get (ci := 3) (C := RP) (T := TP) (M := 2) (v := .ref (ad (b + 1))) hx hb ht inP hown hK hP b (isP_lt0 hb0) (kP hb0) rfl 0 (by decide) (ht _ tw_61) (fun _ h9 => h9) rfl dP_take_12 ?_
    refine lv_aload_n hx hb dP_take_15 rfl (lv_at hl 0 rfl) ?_
    refine g_get (ci := 3) (C := RP) (T := TP) (M := 2) (v := .int (σ b 1)) hx hb ht inP hown hK hP b (isP_lt0 hb0) (kP hb0) rfl 1 (by decide) (ht _ tw_64) (fun _ h9 => h9) rfl dP_take_16 ?_
    have hi_2 : vp_in (σ b 1) 5 := (in_of rfl hm c_1)
    refine g_aald hx hb hK hP (b + 1) 1 (isP_lt1 hb0) (kO hb0) rfl rfl hi_2 (rfs_at (vp_lt hi_2)) dP_take_19 ?_
    refine lv_iconst (v := 0) hx hb dP_take_20 (by decide) ?_
    refine lv_bipush (v := 32) hx hb dP_take_21 (by decide) ?_
    refine g_copy hx hb (hml.trans hl.1.symm) hown (ht _ tw_141) (ht _ tw_143) (ht _ tw_142) (ht _ tw_12) hK hP hD hS i1 (b + 2 + (σ b 1).toNatClampNeg) 0 h1 (isP_lt hb0 (vp_lt hi_2)) k1 (fun r t => kW hb0 (vp_lt hi_2)) rfl (by decide) (by decide) (by decide) (Nat.le_of_ble_eq_true rfl) (Nat.le_of_ble_eq_true rfl) dP_take_23 (fun H locs hP hS => ?_)
    refine lv_aload_n hx hb dP_take_26 rfl (lv_at hl 0 rfl) ?_
    refine lv_dup hx hb dP_take_27 rfl ?_
    refine g_get (ci := 3) (C := RP) (T := TP) (M := 2) (v := .int ((cp2 σ i1 (b + 2 + (σ b 1).toNatClampNeg) (32 : Int32).toNatClampNeg) b 1)) hx hb ht inP hown hK hP b (isP_lt0 hb0) (kP hb0) rfl 1 (by decide) (ht _ tw_64) (fun _ h9 => h9) rfl dP_take_28 ?_
    refine lv_iconst (v := 1) hx hb dP_take_31 (by decide) ?_
    refine lv_iadd hx hb dP_take_32 ?_
    refine g_put (ci := 3) (C := RP) (T := TP) (M := 2) (ty := .int) (x := (((cp2 σ i1 (b + 2 + (σ b 1).toNatClampNeg) (32 : Int32).toNatClampNeg) b 1) + 1)) hx hb ht inP tyP tyP_ok nmP hown hK hP hD hS b (isP_lt0 hb0) (fP ad b) (fun r t => (kP hb0)) rfl 1 (by decide) (ht _ tw_64) (fun _ h9 => h9) rfl (by decide +kernel) rfl rfl (Nat.le_of_ble_eq_true rfl) rfl dP_take_33 (fun H locs hP hS => ?_)
    have es : s_take σ b i1 = (w2 (cp2 σ i1 (b + 2 + (σ b 1).toNatClampNeg) (32 : Int32).toNatClampNeg) b 1 (((cp2 σ i1 (b + 2 + (σ b 1).toNatClampNeg) (32 : Int32).toNatClampNeg) b 1) + 1)) := by unfold s_take; rw [if_pos c_1]
    exact W.vret hx hb hr (fun t ht9 hW => ⟨rfl, by show va_P D vwCl (gW cs ad (s_take σ b i1) τ) t.heap; rw [ht9, es]; exact hP, hS.F ht9⟩) hS.2.2 dP_take_36
  · have es : s_take σ b i1 = σ := by unfold s_take; rw [if_neg c_1]
    exact W.vret hx hb hr (fun t ht9 hW => ⟨rfl, by show va_P D vwCl (gW cs ad (s_take σ b i1) τ) t.heap; rw [ht9, es]; exact hP, hS.F ht9⟩) hS.2.2 dP_take_8
