def B_mk (σ : Nat → Nat → Int32) (σ_mk : Nat → Nat → Int32) (v_mk : Int32) : Nat → Nat → Int32 :=
  (s_slay σ_mk (26 + 2 + v_mk.toNatClampNeg) )
def L_mk (σ : Nat → Nat → Int32) : Nat → Nat → Nat → Int32
  | 0 => (s_takeInside (s_takeInside σ 19 12 (0 : Int32)) 26 19 (1 : Int32))
  | k + 1 => B_mk σ (L_mk σ k) (nI k)
def f_make (σ : Nat → Nat → Int32)   : Int32 :=
  (f_fanOf ((L_mk σ ((s_takeInside (s_takeInside σ 19 12 (0 : Int32)) 26 19 (1 : Int32)) 26 1).toNatClampNeg) 26 1))
def s_make (σ : Nat → Nat → Int32)   : Nat → Nat → Int32 :=
  (L_mk σ ((s_takeInside (s_takeInside σ 19 12 (0 : Int32)) 26 19 (1 : Int32)) 26 1).toNatClampNeg)
set_option maxHeartbeats 800000 in
set_option maxRecDepth 100000 in
theorem c_make (l : Launch) {D : va_G} {cs : Nat → ClassId} {ad : Nat → Nat} (hinj : gI ad) (σ : Nat → Nat → Int32) (τ : Nat → Nat → Int64) (sz : Nat)   (hw : rng (σ 12 1)) : Met l yV_make (wsB kV_make) ({ frames := 4, cells := 0, slots := 0, locals := 136 } : Room) (va_Pc [.ref (ad 0)] (gP D cs ad σ τ sz)) (gQ (some (.int (f_make σ))) (gB D cs ad (s_make σ) τ) (gA NC ad sz)) 0 0 (gA NC ad sz) := by
  refine Met.ofW (cc := cV_make) (maxL := 2) (ret := (some .int)) (by decide) rfl ?_
  intro p e s m args below meth c s₁ B hml hv
  obtain ⟨rfl, hsz, hP, hK⟩ := hv
  have hx := B.exec
  have hb := B.bytes
  have hr := B.returns
  have hts := atoms_spec (ws := wsB kV_make) B.pre
  have ht := hbig hts
  have hown : s.vm.findClass RV = some m.cls := findClass_of_methodNamed B.named
  have hlocks := B.notSynchronized
  subst hsz
  have hD : ∀ σ τ, va_D (gA NC ad s.heap.size) (gW cs ad σ τ) := fun _ _ => gw_D hinj (fun i h => gA_ad h)
  have hS : va_S (gA NC ad s.heap.size) s.heap s.heap [] := va_S.rf
  have hl := lv_entry ([.ref (ad 0)]) (n := 2) (Nat.le_of_ble_eq_true rfl)
  rw [lg_entry_eq]
  generalize (lg_sl ([.ref (ad 0)]) ++ List.replicate (2 - (lg_sl ([.ref (ad 0)])).length) Slot.unset).toArray = ls at hl ⊢
  have hl : lv_has ls 2 [(0, .ref (ad 0))] := hl
  refine lv_aload_n hx hb dV_make_0 rfl (lv_at hl 0 rfl) ?_
  refine g_get (ci := 0) (C := RV) (T := TV) (M := 8) (v := .ref (ad 19)) hx hb ht inV hown hK hP 0 (by decide) kV rfl 3 (by decide) (ht _ tw_99) (fun _ h9 => h9) rfl dV_make_1 ?_
  refine lv_aload_n hx hb dV_make_4 rfl (lv_at hl 0 rfl) ?_
  refine g_get (ci := 0) (C := RV) (T := TV) (M := 8) (v := .ref (ad 12)) hx hb ht inV hown hK hP 0 (by decide) kV rfl 2 (by decide) (ht _ tw_98) (fun _ h9 => h9) rfl dV_make_5 ?_
  refine lv_iconst (v := 0) hx hb dV_make_8 (by decide) ?_
  refine g_runV (va_runV (C := RP) (As := [.ref (ad 12), .int 0]) (rest := []) ⟨hx, hb, hml, hown, hts⟩ (c_takeInside l hinj σ τ _ 19 12 (0 : Int32) (Or.inr (Or.inl rfl)) (Or.inl rfl) (by decide) hw) (qV 2 ht tw_125 tw_126 tw_127 tw_4 tk_P_takeInside rfl rfl (by decide +kernel) ⟨(Nat.le_of_ble_eq_true rfl), (Nat.le_of_ble_eq_true rfl)⟩) (g_pv (ci := 3) hK hP (isP_lt0 (Or.inr (Or.inl rfl))) rfl (kP (Or.inr (Or.inl rfl))) rfl) rfl rfl hl.1 rfl (lv_room (Nat.le_of_ble_eq_true rfl)) dV_make_9 ⟨Nat.zero_le _, Nat.zero_le _⟩) hS (fun q _ h => gA_mono hS.1 q h) (fun q h => gA_mono hS.1 q h) (fun H locs hP hz hS => ?_)
  refine lv_aload_n hx hb dV_make_12 rfl (lv_at hl 0 rfl) ?_
  refine g_get (ci := 0) (C := RV) (T := TV) (M := 8) (v := .ref (ad 26)) hx hb ht inV hown hK hP 0 (by decide) kV rfl 4 (by decide) (ht _ tw_100) (fun _ h9 => h9) rfl dV_make_13 ?_
  refine lv_aload_n hx hb dV_make_16 rfl (lv_at hl 0 rfl) ?_
  refine g_get (ci := 0) (C := RV) (T := TV) (M := 8) (v := .ref (ad 19)) hx hb ht inV hown hK hP 0 (by decide) kV rfl 3 (by decide) (ht _ tw_99) (fun _ h9 => h9) rfl dV_make_17 ?_
  refine lv_iconst (v := 1) hx hb dV_make_20 (by decide) ?_
  refine g_runV (va_runV (C := RP) (As := [.ref (ad 19), .int 1]) (rest := []) ⟨hx, hb, hml, hown, hts⟩ (c_takeInside l hinj (s_takeInside σ 19 12 (0 : Int32)) τ _ 26 19 (1 : Int32) (Or.inr (Or.inr rfl)) (Or.inr (Or.inl rfl)) (by decide) ti_rng) (qV 2 ht tw_125 tw_126 tw_127 tw_4 tk_P_takeInside rfl rfl (by decide +kernel) ⟨(Nat.le_of_ble_eq_true rfl), (Nat.le_of_ble_eq_true rfl)⟩) (g_pv (ci := 3) hK hP (isP_lt0 (Or.inr (Or.inr rfl))) rfl (kP (Or.inr (Or.inr rfl))) rfl) rfl rfl hl.1 rfl (lv_room (Nat.le_of_ble_eq_true rfl)) dV_make_21 ⟨Nat.zero_le _, Nat.zero_le _⟩) hS (fun q _ h => gA_mono hS.1 q h) (fun q h => gA_mono hS.1 q h) (fun H locs hP hz hS => ?_)
  refine lv_iconst (v := 0) hx hb dV_make_24 (by decide) ?_
  refine lv_istore_n (lv' := [(1, .int 0), (0, .ref (ad 0))]) hx hb dV_make_25 rfl hl (by decide) rfl (fun ls hl => ?_)
  have lp_mk : ∀ (n k_mk : Nat) (v_mk : Int32) (σ_mk : Nat → Nat → Int32), k_mk ≤ ((s_takeInside (s_takeInside σ 19 12 (0 : Int32)) 26 19 (1 : Int32)) 26 1).toNatClampNeg → ((s_takeInside (s_takeInside σ 19 12 (0 : Int32)) 26 19 (1 : Int32)) 26 1).toNatClampNeg + 1 ≤ k_mk + n → v_mk = nI k_mk → σ_mk = L_mk σ k_mk → σ_mk 26 1 = (s_takeInside (s_takeInside σ 19 12 (0 : Int32)) 26 19 (1 : Int32)) 26 1 → ∀ (H : Heap) (locs : List Loc), va_P D vwCl (gW cs ad σ_mk τ) H → va_S (gA NC ad s.heap.size) s.heap H locs → ∀ ls : Array Slot, lv_has ls 2 [(1, .int v_mk), (0, .ref (ad 0))] → W p l e (headSpec (wsB kV_make) ({ frames := 4, cells := 0, slots := 0, locals := 136 } : Room)).room s m ([.ref (ad 0)] : List Value).toArray below meth c H locs 0 0 (MQ below (gQ (some (.int (f_make σ))) (gB D cs ad (s_make σ) τ) (gA NC ad s.heap.size)) ([.ref (ad 0)] : List Value).toArray s 0 0 (gA NC ad s.heap.size)) (F0 m 26 ls []) := by
    intro n
    induction n with
    | zero => intro k_mk v_mk σ_mk h1 h2; exact absurd h2 (by omega)
    | succ n ih_mk =>
      intro k_mk v_mk σ_mk hk_mk hn_mk ek_mk es_mk hI_mk H locs hP hS ls hl
      refine lv_iload_n hx hb dV_make_26 rfl (lv_at hl 0 rfl) ?_
      refine lv_aload_n hx hb dV_make_27 rfl (lv_at hl 1 rfl) ?_
      refine g_get (ci := 0) (C := RV) (T := TV) (M := 8) (v := .ref (ad 26)) hx hb ht inV hown hK hP 0 (by decide) kV rfl 4 (by decide) (ht _ tw_100) (fun _ h9 => h9) rfl dV_make_28 ?_
      refine g_get (ci := 3) (C := RP) (T := TP) (M := 2) (v := .int (σ_mk 26 1)) hx hb ht inP hown hK hP 26 (isP_lt0 (Or.inr (Or.inr rfl))) (kP (Or.inr (Or.inr rfl))) rfl 1 (by decide) (ht _ tw_63) (fun _ h9 => h9) rfl dV_make_31 ?_
      refine lv_icmp_ge (tgt := 59) hx hb dV_make_34 (by decide) (fun c_1 => ?_) (fun c_1 => ?_)
      · have hk9 := lp_end (N := ((s_takeInside (s_takeInside σ 19 12 (0 : Int32)) 26 19 (1 : Int32)) 26 1).toNatClampNeg) (hI_mk.trans (nI_self ti_rng)) (cl_lt ti_rng) hk_mk ek_mk c_1
        subst hk9
        refine lv_aload_n hx hb dV_make_59 rfl (lv_at hl 1 rfl) ?_
        refine g_get (ci := 0) (C := RV) (T := TV) (M := 8) (v := .ref (ad 26)) hx hb ht inV hown hK hP 0 (by decide) kV rfl 4 (by decide) (ht _ tw_100) (fun _ h9 => h9) rfl dV_make_60 ?_
        refine g_get (ci := 3) (C := RP) (T := TP) (M := 2) (v := .int (σ_mk 26 1)) hx hb ht inP hown hK hP 26 (isP_lt0 (Or.inr (Or.inr rfl))) (kP (Or.inr (Or.inr rfl))) rfl 1 (by decide) (ht _ tw_63) (fun _ h9 => h9) rfl dV_make_63 ?_
        refine g_pure (v := .int (f_fanOf (σ_mk 26 1))) (va_runS (As := [.int (σ_mk 26 1)]) (rest := []) ⟨hx, hb, hml, hown, hts⟩ (c_fanOf l (σ_mk 26 1)) (qS 1 ht tw_191 tw_192 tw_1 tk_V_fanOf rfl rfl (by decide +kernel) ⟨(Nat.le_of_ble_eq_true rfl), (Nat.le_of_ble_eq_true rfl)⟩) g_pt rfl rfl hl.1 rfl (lv_room (Nat.le_of_ble_eq_true rfl)) dV_make_66 ⟨Nat.zero_le _, Nat.zero_le _⟩) ?_
        have ev : f_make σ = (f_fanOf (σ_mk 26 1)) := by unfold f_make; (try rw [← es_mk]); (try rfl)
        have es : s_make σ = σ_mk := by unfold s_make; (try rw [← es_mk]); (try rfl)
        exact W.iret (v := (f_fanOf (σ_mk 26 1))) hx hb hr (fun t ht9 hW => ⟨by rw [ev], by show va_P D vwCl (gW cs ad (s_make σ) τ) t.heap; rw [ht9, es]; exact hP, hS.F ht9⟩) hS.2.2 dV_make_69
      · have hb_mk := lp_body (N := ((s_takeInside (s_takeInside σ 19 12 (0 : Int32)) 26 19 (1 : Int32)) 26 1).toNatClampNeg) (hI_mk.trans (nI_self ti_rng)) (cl_lt ti_rng) hk_mk ek_mk c_1
        refine lv_aload_n hx hb dV_make_37 rfl (lv_at hl 1 rfl) ?_
        refine g_get (ci := 0) (C := RV) (T := TV) (M := 8) (v := .ref (ad 33)) hx hb ht inV hown hK hP 0 (by decide) kV rfl 5 (by decide) (ht _ tw_101) (fun _ h9 => h9) rfl dV_make_38 ?_
        refine lv_aload_n hx hb dV_make_41 rfl (lv_at hl 1 rfl) ?_
        refine g_get (ci := 0) (C := RV) (T := TV) (M := 8) (v := .ref (ad 26)) hx hb ht inV hown hK hP 0 (by decide) kV rfl 4 (by decide) (ht _ tw_100) (fun _ h9 => h9) rfl dV_make_42 ?_
        refine g_get (ci := 3) (C := RP) (T := TP) (M := 2) (v := .ref (ad (26 + 1))) hx hb ht inP hown hK hP 26 (isP_lt0 (Or.inr (Or.inr rfl))) (kP (Or.inr (Or.inr rfl))) rfl 0 (by decide) (ht _ tw_62) (fun _ h9 => h9) rfl dV_make_45 ?_
        refine lv_iload_n hx hb dV_make_48 rfl (lv_at hl 0 rfl) ?_
        have hi_2 : vp_in v_mk 5 := (cur_in5 ti_rng hb_mk.1 ek_mk)
        refine g_aald hx hb hK hP (26 + 1) 1 (isP_lt1 (Or.inr (Or.inr rfl))) (kO (Or.inr (Or.inr rfl))) rfl rfl hi_2 (rfs_at (vp_lt hi_2)) dV_make_49 ?_
        refine g_runV (va_runV (C := RS) (As := [.ref (ad (26 + 2 + v_mk.toNatClampNeg))]) (rest := []) ⟨hx, hb, hml, hown, hts⟩ (c_slay l hinj σ_mk τ _ (26 + 2 + v_mk.toNatClampNeg)  (isP_lt (Or.inr (Or.inr rfl)) (vp_lt hi_2)) (fun r t => kW (Or.inr (Or.inr rfl)) (vp_lt hi_2))) (qV 1 ht tw_158 tw_159 tw_160 tw_5 tk_S_lay rfl rfl (by decide +kernel) ⟨(Nat.le_of_ble_eq_true rfl), (Nat.le_of_ble_eq_true rfl)⟩) (g_pv (ci := 4) hK hP (by decide) rfl kS rfl) rfl rfl hl.1 rfl (lv_room (Nat.le_of_ble_eq_true rfl)) dV_make_50 ⟨Nat.zero_le _, Nat.zero_le _⟩) hS (fun q _ h => gA_mono hS.1 q h) (fun q h => gA_mono hS.1 q h) (fun H locs hP hz hS => ?_)
        refine lv_iinc (v := (v_mk + 1)) (lv' := [(1, .int (v_mk + 1)), (0, .ref (ad 0))]) hx hb dV_make_53 hl (k := 0) rfl rfl (by decide) rfl (fun ls hl => ?_)
        refine lv_goto (tgt := 26) hx hb dV_make_56 (by decide) ?_
        have eb_3 : B_mk σ σ_mk v_mk = (s_slay σ_mk (26 + 2 + v_mk.toNatClampNeg) ) := by unfold B_mk; rfl
        exact ih_mk (k_mk + 1) _ _ hb_mk.1 (by omega) (by rw [ek_mk]; exact nI_1 k_mk) (eb_3.symm.trans (by rw [es_mk, ek_mk]; rfl)) (slay_26.trans hI_mk) _ _ hP hS ls (lv_sub hl [0, 1] rfl)
  exact lp_mk (((s_takeInside (s_takeInside σ 19 12 (0 : Int32)) 26 19 (1 : Int32)) 26 1).toNatClampNeg + 1) 0 0 _ (Nat.zero_le _) (by omega) rfl rfl rfl _ _ hP hS ls (lv_sub hl [0, 1] rfl)
def B_bw (σ : Nat → Nat → Int32) (a0 : Int32) (a1 : Int32) (a2 : Int32) (σ_bw : Nat → Nat → Int32) (v_bw : Int32) : Nat → Nat → Int32 :=
  (w2 σ_bw 41 (((32 * (σ_bw 35 9)) + v_bw).toNatClampNeg) ((((σ_bw 40 (((32 * a0) + v_bw).toNatClampNeg)).toInt64) + (f_down ((((σ_bw 40 (((32 * a1) + v_bw).toNatClampNeg)).toInt64) - ((σ_bw 40 (((32 * a0) + v_bw).toNatClampNeg)).toInt64)) * (f_down (65536 * (f_rinside σ  a0 a2)) ((f_rinside σ  a0 a2) - (f_rinside σ  a1 a2)))) (65536 : Int64))).toInt32))
def L_bw (σ : Nat → Nat → Int32) (a0 : Int32) (a1 : Int32) (a2 : Int32) : Nat → Nat → Nat → Int32
  | 0 => σ
  | k + 1 => B_bw σ a0 a1 a2 (L_bw σ a0 a1 a2 k) (nI k)
def s_rbetween (σ : Nat → Nat → Int32)  (a0 : Int32) (a1 : Int32) (a2 : Int32) : Nat → Nat → Int32 :=
  (w2 (L_bw σ a0 a1 a2 32) 35 9 (((L_bw σ a0 a1 a2 32) 35 9) + 1))
set_option maxHeartbeats 800000 in
set_option maxRecDepth 100000 in
theorem c_rbetween (l : Launch) {D : va_G} {cs : Nat → ClassId} {ad : Nat → Nat} (hinj : gI ad) (σ : Nat → Nat → Int32) (τ : Nat → Nat → Int64) (sz : Nat)  (a0 : Int32) (a1 : Int32) (a2 : Int32) (ha : 0 ≤ a0.toInt ∧ a0.toInt ≤ 7) (hb9 : 0 ≤ a1.toInt ∧ a1.toInt ≤ 7) (hf : 0 ≤ (σ 35 9).toInt ∧ (σ 35 9).toInt ≤ 7) (hd : ¬ (f_rinside σ a0 a2 - f_rinside σ a1 a2) = 0) : Met l yR_between (wsB kR_between) ({ frames := 1, cells := 0, slots := 0, locals := 25 } : Room) (va_Pc [.ref (ad 35), .int a0, .int a1, .int a2] (gP D cs ad σ τ sz)) (gQ none (gB D cs ad (s_rbetween σ a0 a1 a2) τ) (gA NC ad sz)) 0 0 (gA NC ad sz) := by
  refine Met.ofW (cc := cR_between) (maxL := 15) (ret := none) (by decide) rfl ?_
  intro p e s m args below meth c s₁ B hml hv
  obtain ⟨rfl, hsz, hP, hK⟩ := hv
  have hx := B.exec
  have hb := B.bytes
  have hr := B.returns
  have hts := atoms_spec (ws := wsB kR_between) B.pre
  have ht := hbig hts
  have hown : s.vm.findClass RR = some m.cls := findClass_of_methodNamed B.named
  have hlocks := B.notSynchronized
  subst hsz
  have hD : ∀ σ τ, va_D (gA NC ad s.heap.size) (gW cs ad σ τ) := fun _ _ => gw_D hinj (fun i h => gA_ad h)
  have hS : va_S (gA NC ad s.heap.size) s.heap s.heap [] := va_S.rf
  have hl := lv_entry ([.ref (ad 35), .int a0, .int a1, .int a2]) (n := 15) (Nat.le_of_ble_eq_true rfl)
  rw [lg_entry_eq]
  generalize (lg_sl ([.ref (ad 35), .int a0, .int a1, .int a2]) ++ List.replicate (15 - (lg_sl ([.ref (ad 35), .int a0, .int a1, .int a2])).length) Slot.unset).toArray = ls at hl ⊢
  have hl : lv_has ls 15 [(0, .ref (ad 35)), (1, .int a0), (2, .int a1), (3, .int a2)] := hl
  refine lv_aload_n hx hb dR_between_0 rfl (lv_at hl 0 rfl) ?_
  refine lv_iload_n hx hb dR_between_1 rfl (lv_at hl 1 rfl) ?_
  refine lv_iload_n hx hb dR_between_2 rfl (lv_at hl 3 rfl) ?_
  refine g_pure (v := .long (f_rinside σ  a0 a2)) (va_runV (C := RR) (As := [.int a0, .int a2]) (rest := []) ⟨hx, hb, hml, hown, hts⟩ (c_rinside l hinj σ τ _  a0 a2 ha) (qV 2 ht tw_571 tw_573 ts_R_inside tw_6 tk_R_inside rfl rfl (by decide +kernel) ⟨(Nat.le_of_ble_eq_true rfl), (Nat.le_of_ble_eq_true rfl)⟩) (g_pv (ci := 5) hK hP (by decide) rfl kR rfl) rfl rfl hl.1 rfl (lv_room (Nat.le_of_ble_eq_true rfl)) dR_between_3 ⟨Nat.zero_le _, Nat.zero_le _⟩) ?_
  refine lv_lstore (lv' := [(4, .long (f_rinside σ  a0 a2)), (0, .ref (ad 35)), (1, .int a0), (2, .int a1), (3, .int a2)]) hx hb dR_between_6 hl (by decide) rfl (fun ls hl => ?_)
  refine lv_aload_n hx hb dR_between_8 rfl (lv_at hl 1 rfl) ?_
  refine lv_iload_n hx hb dR_between_9 rfl (lv_at hl 3 rfl) ?_
  refine lv_iload_n hx hb dR_between_10 rfl (lv_at hl 4 rfl) ?_
  refine g_pure (v := .long (f_rinside σ  a1 a2)) (va_runV (C := RR) (As := [.int a1, .int a2]) (rest := []) ⟨hx, hb, hml, hown, hts⟩ (c_rinside l hinj σ τ _  a1 a2 hb9) (qV 2 ht tw_571 tw_573 ts_R_inside tw_6 tk_R_inside rfl rfl (by decide +kernel) ⟨(Nat.le_of_ble_eq_true rfl), (Nat.le_of_ble_eq_true rfl)⟩) (g_pv (ci := 5) hK hP (by decide) rfl kR rfl) rfl rfl hl.1 rfl (lv_room (Nat.le_of_ble_eq_true rfl)) dR_between_11 ⟨Nat.zero_le _, Nat.zero_le _⟩) ?_
  refine lv_lstore (lv' := [(6, .long (f_rinside σ  a1 a2)), (4, .long (f_rinside σ  a0 a2)), (0, .ref (ad 35)), (1, .int a0), (2, .int a1), (3, .int a2)]) hx hb dR_between_14 hl (by decide) rfl (fun ls hl => ?_)
  refine lv_ldc2 (v := 65536) hx hb hown (ht _ tw_580) dR_between_16 ?_
  refine lv_lload hx hb dR_between_19 (lv_at hl 1 rfl) ?_
  refine lv_lmul hx hb dR_between_21 ?_
  refine lv_lload hx hb dR_between_22 (lv_at hl 1 rfl) ?_
  refine lv_lload hx hb dR_between_24 (lv_at hl 0 rfl) ?_
  refine lv_lsub hx hb dR_between_26 ?_
  refine g_pure (v := .long (f_down (65536 * (f_rinside σ  a0 a2)) ((f_rinside σ  a0 a2) - (f_rinside σ  a1 a2)))) (va_runS (As := [.long (65536 * (f_rinside σ  a0 a2)), .long ((f_rinside σ  a0 a2) - (f_rinside σ  a1 a2))]) (rest := []) ⟨hx, hb, hml, hown, hts⟩ (c_down l (65536 * (f_rinside σ  a0 a2)) ((f_rinside σ  a0 a2) - (f_rinside σ  a1 a2)) hd) (qS 2 ht tw_581 tw_582 tw_6 tk_R_down rfl rfl (by decide +kernel) ⟨(Nat.le_of_ble_eq_true rfl), (Nat.le_of_ble_eq_true rfl)⟩) g_pt rfl rfl hl.1 rfl (lv_room (Nat.le_of_ble_eq_true rfl)) dR_between_27 ⟨Nat.zero_le _, Nat.zero_le _⟩) ?_
  refine lv_lstore (lv' := [(8, .long (f_down (65536 * (f_rinside σ  a0 a2)) ((f_rinside σ  a0 a2) - (f_rinside σ  a1 a2)))), (6, .long (f_rinside σ  a1 a2)), (4, .long (f_rinside σ  a0 a2)), (0, .ref (ad 35)), (1, .int a0), (2, .int a1), (3, .int a2)]) hx hb dR_between_30 hl (by decide) rfl (fun ls hl => ?_)
  refine lv_iconst (v := 0) hx hb dR_between_32 (by decide) ?_
  refine lv_istore (lv' := [(10, .int 0), (8, .long (f_down (65536 * (f_rinside σ  a0 a2)) ((f_rinside σ  a0 a2) - (f_rinside σ  a1 a2)))), (6, .long (f_rinside σ  a1 a2)), (4, .long (f_rinside σ  a0 a2)), (0, .ref (ad 35)), (1, .int a0), (2, .int a1), (3, .int a2)]) hx hb dR_between_33 hl (by decide) rfl (fun ls hl => ?_)
  have lp_bw : ∀ (n k_bw : Nat) (v_bw : Int32) (σ_bw : Nat → Nat → Int32), k_bw ≤ 32 → 32 + 1 ≤ k_bw + n → v_bw = nI k_bw → σ_bw = L_bw σ a0 a1 a2 k_bw → σ_bw 35 9 = σ 35 9 → ∀ (H : Heap) (locs : List Loc), va_P D vwCl (gW cs ad σ_bw τ) H → va_S (gA NC ad s.heap.size) s.heap H locs → ∀ ls : Array Slot, lv_has ls 15 [(10, .int v_bw), (8, .long (f_down (65536 * (f_rinside σ  a0 a2)) ((f_rinside σ  a0 a2) - (f_rinside σ  a1 a2)))), (6, .long (f_rinside σ  a1 a2)), (4, .long (f_rinside σ  a0 a2)), (0, .ref (ad 35)), (1, .int a0), (2, .int a1), (3, .int a2)] → W p l e (headSpec (wsB kR_between) ({ frames := 1, cells := 0, slots := 0, locals := 25 } : Room)).room s m ([.ref (ad 35), .int a0, .int a1, .int a2] : List Value).toArray below meth c H locs 0 0 (MQ below (gQ none (gB D cs ad (s_rbetween σ a0 a1 a2) τ) (gA NC ad s.heap.size)) ([.ref (ad 35), .int a0, .int a1, .int a2] : List Value).toArray s 0 0 (gA NC ad s.heap.size)) (F0 m 35 ls []) := by
    intro n
    induction n with
    | zero => intro k_bw v_bw σ_bw h1 h2; exact absurd h2 (by omega)
    | succ n ih_bw =>
      intro k_bw v_bw σ_bw hk_bw hn_bw ek_bw es_bw hI_bw H locs hP hS ls hl
      refine lv_iload hx hb dR_between_35 (lv_at hl 0 rfl) ?_
      refine lv_bipush (v := 32) hx hb dR_between_37 (by decide) ?_
      refine lv_icmp_ge (tgt := 111) hx hb dR_between_39 (by decide) (fun c_1 => ?_) (fun c_1 => ?_)
      · have hk9 := lp_end (N := 32) (by decide) (by decide) hk_bw ek_bw c_1
        subst hk9
        refine lv_aload_n hx hb dR_between_111 rfl (lv_at hl 4 rfl) ?_
        refine lv_dup hx hb dR_between_112 rfl ?_
        refine g_get (ci := 5) (C := RR) (T := TR) (M := 13) (v := .int (σ_bw 35 9)) hx hb ht inR hown hK hP 35 (by decide) kR rfl 9 (by decide) (ht _ tw_461) (fun _ h9 => h9) rfl dR_between_113 ?_
        refine lv_iconst (v := 1) hx hb dR_between_116 (by decide) ?_
        refine lv_iadd hx hb dR_between_117 ?_
        refine g_put (ci := 5) (C := RR) (T := TR) (M := 13) (ty := .int) (x := ((σ_bw 35 9) + 1)) hx hb ht inR tyR tyR_ok nmR hown hK hP hD hS 35 (by decide) (fR ad) (fun r t => kR) rfl 9 (by decide) (ht _ tw_461) (fun _ h9 => h9) rfl (by decide +kernel) rfl rfl (Nat.le_of_ble_eq_true rfl) rfl dR_between_118 (fun H locs hP hS => ?_)
        have es : s_rbetween σ a0 a1 a2 = (w2 σ_bw 35 9 ((σ_bw 35 9) + 1)) := by unfold s_rbetween; (try rw [← es_bw]); (try rfl)
        exact W.vret hx hb hr (fun t ht9 hW => ⟨rfl, by show va_P D vwCl (gW cs ad (s_rbetween σ a0 a1 a2) τ) t.heap; rw [ht9, es]; exact hP, hS.F ht9⟩) hS.2.2 dR_between_121
      · have hb_bw := lp_body (N := 32) (by decide) (by decide) hk_bw ek_bw c_1
        refine lv_aload_n hx hb dR_between_42 rfl (lv_at hl 4 rfl) ?_
        refine g_get (ci := 5) (C := RR) (T := TR) (M := 13) (v := .ref (ad 40)) hx hb ht inR hown hK hP 35 (by decide) kR rfl 8 (by decide) (ht _ tw_460) (fun _ h9 => h9) rfl dR_between_43 ?_
        refine lv_bipush (v := 32) hx hb dR_between_46 (by decide) ?_
        refine lv_iload_n hx hb dR_between_48 rfl (lv_at hl 5 rfl) ?_
        refine lv_imul hx hb dR_between_49 ?_
        refine lv_iload hx hb dR_between_50 (lv_at hl 0 rfl) ?_
        refine lv_iadd hx hb dR_between_52 ?_
        have hi_2 : vp_in ((32 * a0) + v_bw) 256 := (by have l32 : (32 : Int32).toInt = 32 := (by decide); have b0 := ha; have b1 := hb9; have b2 := hf; have b3 := hb_bw; have b4 := congrArg Int32.toInt hI_bw; rw [vp_in_iff]; (try simp only [Int32.toInt_add, Int32.toInt_sub, Int32.toInt_mul, Int.bmod_def, l32]); omega)
        refine g_iald hx hb hK hP 40 0 (by decide) (fun r t => kR40) rfl hi_2 dR_between_53 ?_
        refine lv_i2l hx hb dR_between_54 rfl ?_
        refine lv_lstore (lv' := [(11, .long ((σ_bw 40 (((32 * a0) + v_bw).toNatClampNeg)).toInt64)), (10, .int v_bw), (8, .long (f_down (65536 * (f_rinside σ  a0 a2)) ((f_rinside σ  a0 a2) - (f_rinside σ  a1 a2)))), (6, .long (f_rinside σ  a1 a2)), (4, .long (f_rinside σ  a0 a2)), (0, .ref (ad 35)), (1, .int a0), (2, .int a1), (3, .int a2)]) hx hb dR_between_55 hl (by decide) rfl (fun ls hl => ?_)
        refine lv_aload_n hx hb dR_between_57 rfl (lv_at hl 5 rfl) ?_
        refine g_get (ci := 5) (C := RR) (T := TR) (M := 13) (v := .ref (ad 40)) hx hb ht inR hown hK hP 35 (by decide) kR rfl 8 (by decide) (ht _ tw_460) (fun _ h9 => h9) rfl dR_between_58 ?_
        refine lv_bipush (v := 32) hx hb dR_between_61 (by decide) ?_
        refine lv_iload_n hx hb dR_between_63 rfl (lv_at hl 7 rfl) ?_
        refine lv_imul hx hb dR_between_64 ?_
        refine lv_iload hx hb dR_between_65 (lv_at hl 1 rfl) ?_
        refine lv_iadd hx hb dR_between_67 ?_
        have hi_3 : vp_in ((32 * a1) + v_bw) 256 := (by have l32 : (32 : Int32).toInt = 32 := (by decide); have b0 := ha; have b1 := hb9; have b2 := hf; have b3 := hb_bw; have b4 := congrArg Int32.toInt hI_bw; rw [vp_in_iff]; (try simp only [Int32.toInt_add, Int32.toInt_sub, Int32.toInt_mul, Int.bmod_def, l32]); omega)
        refine g_iald hx hb hK hP 40 0 (by decide) (fun r t => kR40) rfl hi_3 dR_between_68 ?_
        refine lv_i2l hx hb dR_between_69 rfl ?_
        refine lv_lstore (lv' := [(13, .long ((σ_bw 40 (((32 * a1) + v_bw).toNatClampNeg)).toInt64)), (11, .long ((σ_bw 40 (((32 * a0) + v_bw).toNatClampNeg)).toInt64)), (10, .int v_bw), (8, .long (f_down (65536 * (f_rinside σ  a0 a2)) ((f_rinside σ  a0 a2) - (f_rinside σ  a1 a2)))), (6, .long (f_rinside σ  a1 a2)), (4, .long (f_rinside σ  a0 a2)), (0, .ref (ad 35)), (1, .int a0), (2, .int a1), (3, .int a2)]) hx hb dR_between_70 hl (by decide) rfl (fun ls hl => ?_)
        refine lv_aload_n hx hb dR_between_72 rfl (lv_at hl 6 rfl) ?_
        refine g_get (ci := 5) (C := RR) (T := TR) (M := 13) (v := .ref (ad 41)) hx hb ht inR hown hK hP 35 (by decide) kR rfl 10 (by decide) (ht _ tw_462) (fun _ h9 => h9) rfl dR_between_73 ?_
        refine lv_bipush (v := 32) hx hb dR_between_76 (by decide) ?_
        refine lv_aload_n hx hb dR_between_78 rfl (lv_at hl 6 rfl) ?_
        refine g_get (ci := 5) (C := RR) (T := TR) (M := 13) (v := .int (σ_bw 35 9)) hx hb ht inR hown hK hP 35 (by decide) kR rfl 9 (by decide) (ht _ tw_461) (fun _ h9 => h9) rfl dR_between_79 ?_
        refine lv_imul hx hb dR_between_82 ?_
        refine lv_iload hx hb dR_between_83 (lv_at hl 2 rfl) ?_
        refine lv_iadd hx hb dR_between_85 ?_
        refine lv_lload hx hb dR_between_86 (lv_at hl 1 rfl) ?_
        refine lv_lload hx hb dR_between_88 (lv_at hl 0 rfl) ?_
        refine lv_lload hx hb dR_between_90 (lv_at hl 1 rfl) ?_
        refine lv_lsub hx hb dR_between_92 ?_
        refine lv_lload hx hb dR_between_93 (lv_at hl 3 rfl) ?_
        refine lv_lmul hx hb dR_between_95 ?_
        refine lv_ldc2 (v := 65536) hx hb hown (ht _ tw_580) dR_between_96 ?_
        refine g_pure (v := .long (f_down ((((σ_bw 40 (((32 * a1) + v_bw).toNatClampNeg)).toInt64) - ((σ_bw 40 (((32 * a0) + v_bw).toNatClampNeg)).toInt64)) * (f_down (65536 * (f_rinside σ  a0 a2)) ((f_rinside σ  a0 a2) - (f_rinside σ  a1 a2)))) (65536 : Int64))) (va_runS (As := [.long ((((σ_bw 40 (((32 * a1) + v_bw).toNatClampNeg)).toInt64) - ((σ_bw 40 (((32 * a0) + v_bw).toNatClampNeg)).toInt64)) * (f_down (65536 * (f_rinside σ  a0 a2)) ((f_rinside σ  a0 a2) - (f_rinside σ  a1 a2)))), .long 65536]) (rest := [.long ((σ_bw 40 (((32 * a0) + v_bw).toNatClampNeg)).toInt64), .int ((32 * (σ_bw 35 9)) + v_bw), .ref (ad 41)]) ⟨hx, hb, hml, hown, hts⟩ (c_down l ((((σ_bw 40 (((32 * a1) + v_bw).toNatClampNeg)).toInt64) - ((σ_bw 40 (((32 * a0) + v_bw).toNatClampNeg)).toInt64)) * (f_down (65536 * (f_rinside σ  a0 a2)) ((f_rinside σ  a0 a2) - (f_rinside σ  a1 a2)))) (65536 : Int64) (by decide)) (qS 2 ht tw_581 tw_582 tw_6 tk_R_down rfl rfl (by decide +kernel) ⟨(Nat.le_of_ble_eq_true rfl), (Nat.le_of_ble_eq_true rfl)⟩) g_pt rfl rfl hl.1 rfl (lv_room (Nat.le_of_ble_eq_true rfl)) dR_between_99 ⟨Nat.zero_le _, Nat.zero_le _⟩) ?_
        refine lv_ladd hx hb dR_between_102 ?_
        refine lv_l2i hx hb dR_between_103 rfl ?_
        have hi_4 : vp_in ((32 * (σ_bw 35 9)) + v_bw) 256 := (by have l9 : (9 : Int32).toInt = 9 := (by decide); have l32 : (32 : Int32).toInt = 32 := (by decide); have l35 : (35 : Int32).toInt = 35 := (by decide); have b0 := ha; have b1 := hb9; have b2 := hf; have b3 := hb_bw; have b4 := congrArg Int32.toInt hI_bw; rw [vp_in_iff]; (try simp only [Int32.toInt_add, Int32.toInt_sub, Int32.toInt_mul, Int.bmod_def, l9, l32, l35]); omega)
        refine g_iast hx hb hK hP hD hS 41 0 (by decide) (fun r t => kR41) rfl hi_4 dR_between_104 (fun H locs hP hS => ?_)
        refine lv_iinc (v := (v_bw + 1)) (lv' := [(10, .int (v_bw + 1)), (13, .long ((σ_bw 40 (((32 * a1) + v_bw).toNatClampNeg)).toInt64)), (11, .long ((σ_bw 40 (((32 * a0) + v_bw).toNatClampNeg)).toInt64)), (8, .long (f_down (65536 * (f_rinside σ  a0 a2)) ((f_rinside σ  a0 a2) - (f_rinside σ  a1 a2)))), (6, .long (f_rinside σ  a1 a2)), (4, .long (f_rinside σ  a0 a2)), (0, .ref (ad 35)), (1, .int a0), (2, .int a1), (3, .int a2)]) hx hb dR_between_105 hl (k := 2) rfl rfl (by decide) rfl (fun ls hl => ?_)
        refine lv_goto (tgt := 35) hx hb dR_between_108 (by decide) ?_
        have eb_5 : B_bw σ a0 a1 a2 σ_bw v_bw = (w2 σ_bw 41 (((32 * (σ_bw 35 9)) + v_bw).toNatClampNeg) ((((σ_bw 40 (((32 * a0) + v_bw).toNatClampNeg)).toInt64) + (f_down ((((σ_bw 40 (((32 * a1) + v_bw).toNatClampNeg)).toInt64) - ((σ_bw 40 (((32 * a0) + v_bw).toNatClampNeg)).toInt64)) * (f_down (65536 * (f_rinside σ  a0 a2)) ((f_rinside σ  a0 a2) - (f_rinside σ  a1 a2)))) (65536 : Int64))).toInt32)) := by unfold B_bw; rfl
        exact ih_bw (k_bw + 1) _ _ hb_bw.1 (by omega) (by rw [ek_bw]; exact nI_1 k_bw) (eb_5.symm.trans (by rw [es_bw, ek_bw]; rfl)) ((congrFun (w2_ne (by decide)) 9).trans hI_bw) _ _ hP hS ls (lv_sub hl [0, 3, 4, 5, 6, 7, 8, 9] rfl)
  exact lp_bw (32 + 1) 0 0 _ (Nat.zero_le _) (by omega) rfl rfl rfl _ _ hP hS ls (lv_sub hl [0, 1, 2, 3, 4, 5, 6, 7] rfl)
