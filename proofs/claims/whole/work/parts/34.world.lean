def B_ti (σ : Nat → Nat → Int32) (b : Nat) (fb : Nat) (x : Int32) (σ_ti : Nat → Nat → Int32) (v_ti : Int32) : Nat → Nat → Int32 :=
  if (σ_ti fb 1) ≤ (v_ti + 1) then
    (s_takeEdge σ_ti b (fb + 2 + v_ti.toNatClampNeg) (fb + 2 + (0 : Int32).toNatClampNeg) x)
  else
    (s_takeEdge σ_ti b (fb + 2 + v_ti.toNatClampNeg) (fb + 2 + (v_ti + 1).toNatClampNeg) x)
def L_ti (σ : Nat → Nat → Int32) (b : Nat) (fb : Nat) (x : Int32) : Nat → Nat → Nat → Int32
  | 0 => (w2 σ b 1 (0 : Int32))
  | k + 1 => B_ti σ b fb x (L_ti σ b fb x k) (nI k)
def s_takeInside (σ : Nat → Nat → Int32) (b : Nat) (fb : Nat) (x : Int32) : Nat → Nat → Int32 :=
  if (3 : Int32) ≤ ((L_ti σ b fb x (σ fb 1).toNatClampNeg) b 1) then
    (L_ti σ b fb x (σ fb 1).toNatClampNeg)
  else
    (w2 (L_ti σ b fb x (σ fb 1).toNatClampNeg) b 1 (0 : Int32))
set_option maxHeartbeats 800000 in
set_option maxRecDepth 100000 in
theorem c_takeInside (l : Launch) {D : va_G} {cs : Nat → ClassId} {ad : Nat → Nat} (hinj : gI ad) (σ : Nat → Nat → Int32) (τ : Nat → Nat → Int64) (sz : Nat) (b : Nat) (fb : Nat) (x : Int32) (hb0 : isP b) (hf0 : isP fb) (hne : fb ≠ b) (hn : 0 ≤ (σ fb 1).toInt ∧ (σ fb 1).toInt ≤ 5) : Met l yP_takeInside (wsB kP_takeInside) ({ frames := 3, cells := 0, slots := 0, locals := 112 } : Room) (va_Pc [.ref (ad b), .ref (ad fb), .int x] (gP D cs ad σ τ sz)) (gQ none (gB D cs ad (s_takeInside σ b fb x) τ) (gA NC ad sz)) 0 0 (gA NC ad sz) := by
  refine Met.ofW (cc := cP_takeInside) (maxL := 5) (ret := none) (by decide) rfl ?_
  intro p e s m args below meth c s₁ B hml hv
  obtain ⟨rfl, hsz, hP, hK⟩ := hv
  have hx := B.exec
  have hb := B.bytes
  have hr := B.returns
  have hts := atoms_spec (ws := wsB kP_takeInside) B.pre
  have ht := hbig hts
  have hown : s.vm.findClass RP = some m.cls := findClass_of_methodNamed B.named
  have hlocks := B.notSynchronized
  subst hsz
  have hD : ∀ σ τ, va_D (gA NC ad s.heap.size) (gW cs ad σ τ) := fun _ _ => gw_D hinj (fun i h => gA_ad h)
  have hS : va_S (gA NC ad s.heap.size) s.heap s.heap [] := va_S.rf
  have hl := lv_entry ([.ref (ad b), .ref (ad fb), .int x]) (n := 5) (Nat.le_of_ble_eq_true rfl)
  rw [lg_entry_eq]
  generalize (lg_sl ([.ref (ad b), .ref (ad fb), .int x]) ++ List.replicate (5 - (lg_sl ([.ref (ad b), .ref (ad fb), .int x])).length) Slot.unset).toArray = ls at hl ⊢
  have hl : lv_has ls 5 [(0, .ref (ad b)), (1, .ref (ad fb)), (2, .int x)] := hl
  refine lv_aload_n hx hb dP_takeInside_0 rfl (lv_at hl 0 rfl) ?_
  refine lv_iconst (v := 0) hx hb dP_takeInside_1 (by decide) ?_
  refine g_put (ci := 3) (C := RP) (T := TP) (M := 2) (ty := .int) (x := 0) hx hb ht inP tyP tyP_ok nmP hown hK hP hD hS b (isP_lt0 hb0) (fP ad b) (fun r t => (kP hb0)) rfl 1 (by decide) (ht _ tw_64) (fun _ h9 => h9) rfl (by decide +kernel) rfl rfl (Nat.le_of_ble_eq_true rfl) rfl dP_takeInside_2 (fun H locs hP hS => ?_)
  refine lv_iconst (v := 0) hx hb dP_takeInside_5 (by decide) ?_
  refine lv_istore_n (lv' := [(3, .int 0), (0, .ref (ad b)), (1, .ref (ad fb)), (2, .int x)]) hx hb dP_takeInside_6 rfl hl (by decide) rfl (fun ls hl => ?_)
  have lp_ti : ∀ (n k_ti : Nat) (v_ti : Int32) (σ_ti : Nat → Nat → Int32), k_ti ≤ (σ fb 1).toNatClampNeg → (σ fb 1).toNatClampNeg + 1 ≤ k_ti + n → v_ti = nI k_ti → σ_ti = L_ti σ b fb x k_ti → σ_ti fb 1 = σ fb 1 ∧ ¬ σ_ti b 1 < 0 → ∀ (H : Heap) (locs : List Loc), va_P D vwCl (gW cs ad σ_ti τ) H → va_S (gA NC ad s.heap.size) s.heap H locs → ∀ ls : Array Slot, lv_has ls 5 [(3, .int v_ti), (0, .ref (ad b)), (1, .ref (ad fb)), (2, .int x)] → W p l e (headSpec (wsB kP_takeInside) ({ frames := 3, cells := 0, slots := 0, locals := 112 } : Room)).room s m ([.ref (ad b), .ref (ad fb), .int x] : List Value).toArray below meth c H locs 0 0 (MQ below (gQ none (gB D cs ad (s_takeInside σ b fb x) τ) (gA NC ad s.heap.size)) ([.ref (ad b), .ref (ad fb), .int x] : List Value).toArray s 0 0 (gA NC ad s.heap.size)) (F0 m 7 ls []) := by
    intro n
    induction n with
    | zero => intro k_ti v_ti σ_ti h1 h2; exact absurd h2 (by omega)
    | succ n ih_ti =>
      intro k_ti v_ti σ_ti hk_ti hn_ti ek_ti es_ti hI_ti H locs hP hS ls hl
      refine lv_iload_n hx hb dP_takeInside_7 rfl (lv_at hl 0 rfl) ?_
      refine lv_aload_n hx hb dP_takeInside_8 rfl (lv_at hl 2 rfl) ?_
      refine g_get (ci := 3) (C := RP) (T := TP) (M := 2) (v := .int (σ_ti fb 1)) hx hb ht inP hown hK hP fb (isP_lt0 hf0) (kP hf0) rfl 1 (by decide) (ht _ tw_64) (fun _ h9 => h9) rfl dP_takeInside_9 ?_
      refine lv_icmp_ge (tgt := 58) hx hb dP_takeInside_12 (by decide) (fun c_1 => ?_) (fun c_1 => ?_)
      · have hk9 := lp_end (N := (σ fb 1).toNatClampNeg) (hI_ti.1.trans (nI_self hn)) (cl_lt hn) hk_ti ek_ti c_1
        subst hk9
        refine lv_aload_n hx hb dP_takeInside_58 rfl (lv_at hl 1 rfl) ?_
        refine g_get (ci := 3) (C := RP) (T := TP) (M := 2) (v := .int (σ_ti b 1)) hx hb ht inP hown hK hP b (isP_lt0 hb0) (kP hb0) rfl 1 (by decide) (ht _ tw_64) (fun _ h9 => h9) rfl dP_takeInside_59 ?_
        refine lv_iconst (v := 3) hx hb dP_takeInside_62 (by decide) ?_
        refine lv_icmp_ge (tgt := 71) hx hb dP_takeInside_63 (by decide) (fun c_2 => ?_) (fun c_2 => ?_)
        · have es : s_takeInside σ b fb x = σ_ti := by unfold s_takeInside; (try rw [← es_ti]); (try rw [if_pos c_2]); (try rfl)
          exact W.vret hx hb hr (fun t ht9 hW => ⟨rfl, by show va_P D vwCl (gW cs ad (s_takeInside σ b fb x) τ) t.heap; rw [ht9, es]; exact hP, hS.F ht9⟩) hS.2.2 dP_takeInside_71
        · refine lv_aload_n hx hb dP_takeInside_66 rfl (lv_at hl 1 rfl) ?_
          refine lv_iconst (v := 0) hx hb dP_takeInside_67 (by decide) ?_
          refine g_put (ci := 3) (C := RP) (T := TP) (M := 2) (ty := .int) (x := 0) hx hb ht inP tyP tyP_ok nmP hown hK hP hD hS b (isP_lt0 hb0) (fP ad b) (fun r t => (kP hb0)) rfl 1 (by decide) (ht _ tw_64) (fun _ h9 => h9) rfl (by decide +kernel) rfl rfl (Nat.le_of_ble_eq_true rfl) rfl dP_takeInside_68 (fun H locs hP hS => ?_)
          have es : s_takeInside σ b fb x = (w2 σ_ti b 1 (0 : Int32)) := by unfold s_takeInside; (try rw [← es_ti]); (try rw [if_neg c_2]); (try rfl)
          exact W.vret hx hb hr (fun t ht9 hW => ⟨rfl, by show va_P D vwCl (gW cs ad (s_takeInside σ b fb x) τ) t.heap; rw [ht9, es]; exact hP, hS.F ht9⟩) hS.2.2 dP_takeInside_71
      · have hb_ti := lp_body (N := (σ fb 1).toNatClampNeg) (hI_ti.1.trans (nI_self hn)) (cl_lt hn) hk_ti ek_ti c_1
        refine lv_iload_n hx hb dP_takeInside_15 rfl (lv_at hl 0 rfl) ?_
        refine lv_iconst (v := 1) hx hb dP_takeInside_16 (by decide) ?_
        refine lv_iadd hx hb dP_takeInside_17 ?_
        refine lv_aload_n hx hb dP_takeInside_18 rfl (lv_at hl 2 rfl) ?_
        refine g_get (ci := 3) (C := RP) (T := TP) (M := 2) (v := .int (σ_ti fb 1)) hx hb ht inP hown hK hP fb (isP_lt0 hf0) (kP hf0) rfl 1 (by decide) (ht _ tw_64) (fun _ h9 => h9) rfl dP_takeInside_19 ?_
        refine lv_icmp_ge (tgt := 31) hx hb dP_takeInside_22 (by decide) (fun c_3 => ?_) (fun c_3 => ?_)
        · refine lv_iconst (v := 0) hx hb dP_takeInside_31 (by decide) ?_
          refine lv_istore (lv' := [(4, .int 0), (3, .int v_ti), (0, .ref (ad b)), (1, .ref (ad fb)), (2, .int x)]) hx hb dP_takeInside_32 hl (by decide) rfl (fun ls hl => ?_)
          refine lv_aload_n hx hb dP_takeInside_34 rfl (lv_at hl 2 rfl) ?_
          refine lv_aload_n hx hb dP_takeInside_35 rfl (lv_at hl 3 rfl) ?_
          refine g_get (ci := 3) (C := RP) (T := TP) (M := 2) (v := .ref (ad (fb + 1))) hx hb ht inP hown hK hP fb (isP_lt0 hf0) (kP hf0) rfl 0 (by decide) (ht _ tw_61) (fun _ h9 => h9) rfl dP_takeInside_36 ?_
          refine lv_iload_n hx hb dP_takeInside_39 rfl (lv_at hl 1 rfl) ?_
          have hi_4 : vp_in v_ti 5 := (cur_in (cl_le hn) hb_ti.1 ek_ti)
          refine g_aald hx hb hK hP (fb + 1) 1 (isP_lt1 hf0) (kO hf0) rfl rfl hi_4 (rfs_at (vp_lt hi_4)) dP_takeInside_40 ?_
          refine lv_aload_n hx hb dP_takeInside_41 rfl (lv_at hl 3 rfl) ?_
          refine g_get (ci := 3) (C := RP) (T := TP) (M := 2) (v := .ref (ad (fb + 1))) hx hb ht inP hown hK hP fb (isP_lt0 hf0) (kP hf0) rfl 0 (by decide) (ht _ tw_61) (fun _ h9 => h9) rfl dP_takeInside_42 ?_
          refine lv_iload hx hb dP_takeInside_45 (lv_at hl 0 rfl) ?_
          have hi_5 : vp_in (0 : Int32) 5 := (by unfold vp_in; decide)
          refine g_aald hx hb hK hP (fb + 1) 1 (isP_lt1 hf0) (kO hf0) rfl rfl hi_5 (rfs_at (vp_lt hi_5)) dP_takeInside_47 ?_
          refine lv_iload_n hx hb dP_takeInside_48 rfl (lv_at hl 4 rfl) ?_
          refine g_runV (va_runV (C := RP) (As := [.ref (ad (fb + 2 + v_ti.toNatClampNeg)), .ref (ad (fb + 2 + (0 : Int32).toNatClampNeg)), .int x]) (rest := []) ⟨hx, hb, hml, hown, hts⟩ (c_takeEdge l hinj σ_ti τ _ b (fb + 2 + v_ti.toNatClampNeg) (fb + 2 + (0 : Int32).toNatClampNeg) x hb0 (isP_lt hf0 (vp_lt hi_4)) (fun r t => kW hf0 (vp_lt hi_4)) (isP_lt hf0 (vp_lt hi_5)) (fun r t => kW hf0 (vp_lt hi_5)) hI_ti.2) (qV 3 ht tw_129 tw_131 ts_P_takeEdge tw_4 tk_P_takeEdge rfl rfl (by decide +kernel) ⟨(Nat.le_of_ble_eq_true rfl), (Nat.le_of_ble_eq_true rfl)⟩) (g_pv (ci := 3) hK hP (isP_lt0 hb0) rfl (kP hb0) rfl) rfl rfl hl.1 rfl (lv_room (Nat.le_of_ble_eq_true rfl)) dP_takeInside_49 ⟨Nat.zero_le _, Nat.zero_le _⟩) hS (fun q _ h => gA_mono hS.1 q h) (fun q h => gA_mono hS.1 q h) (fun H locs hP hz hS => ?_)
          refine lv_iinc (v := (v_ti + 1)) (lv' := [(3, .int (v_ti + 1)), (4, .int 0), (0, .ref (ad b)), (1, .ref (ad fb)), (2, .int x)]) hx hb dP_takeInside_52 hl (k := 1) rfl rfl (by decide) rfl (fun ls hl => ?_)
          refine lv_goto (tgt := 7) hx hb dP_takeInside_55 (by decide) ?_
          have eb_6 : B_ti σ b fb x σ_ti v_ti = (s_takeEdge σ_ti b (fb + 2 + v_ti.toNatClampNeg) (fb + 2 + (0 : Int32).toNatClampNeg) x) := by unfold B_ti; rw [if_pos c_3]
          exact ih_ti (k_ti + 1) _ _ hb_ti.1 (by omega) (by rw [ek_ti]; exact nI_1 k_ti) (eb_6.symm.trans (by rw [es_ti, ek_ti]; rfl)) (ti_step hb0 hf0 hne hI_ti) _ _ hP hS ls (lv_sub hl [0, 2, 3, 4] rfl)
        · refine lv_iload_n hx hb dP_takeInside_25 rfl (lv_at hl 0 rfl) ?_
          refine lv_iconst (v := 1) hx hb dP_takeInside_26 (by decide) ?_
          refine lv_iadd hx hb dP_takeInside_27 ?_
          refine lv_goto (tgt := 32) hx hb dP_takeInside_28 (by decide) ?_
          refine lv_istore (lv' := [(4, .int (v_ti + 1)), (3, .int v_ti), (0, .ref (ad b)), (1, .ref (ad fb)), (2, .int x)]) hx hb dP_takeInside_32 hl (by decide) rfl (fun ls hl => ?_)
          refine lv_aload_n hx hb dP_takeInside_34 rfl (lv_at hl 2 rfl) ?_
          refine lv_aload_n hx hb dP_takeInside_35 rfl (lv_at hl 3 rfl) ?_
          refine g_get (ci := 3) (C := RP) (T := TP) (M := 2) (v := .ref (ad (fb + 1))) hx hb ht inP hown hK hP fb (isP_lt0 hf0) (kP hf0) rfl 0 (by decide) (ht _ tw_61) (fun _ h9 => h9) rfl dP_takeInside_36 ?_
          refine lv_iload_n hx hb dP_takeInside_39 rfl (lv_at hl 1 rfl) ?_
          have hi_7 : vp_in v_ti 5 := (cur_in (cl_le hn) hb_ti.1 ek_ti)
          refine g_aald hx hb hK hP (fb + 1) 1 (isP_lt1 hf0) (kO hf0) rfl rfl hi_7 (rfs_at (vp_lt hi_7)) dP_takeInside_40 ?_
          refine lv_aload_n hx hb dP_takeInside_41 rfl (lv_at hl 3 rfl) ?_
          refine g_get (ci := 3) (C := RP) (T := TP) (M := 2) (v := .ref (ad (fb + 1))) hx hb ht inP hown hK hP fb (isP_lt0 hf0) (kP hf0) rfl 0 (by decide) (ht _ tw_61) (fun _ h9 => h9) rfl dP_takeInside_42 ?_
          refine lv_iload hx hb dP_takeInside_45 (lv_at hl 0 rfl) ?_
          have hi_8 : vp_in (v_ti + 1) 5 := (next_in (hI_ti.1.trans (nI_self hn)) (cl_le hn) hb_ti.1 ek_ti c_3)
          refine g_aald hx hb hK hP (fb + 1) 1 (isP_lt1 hf0) (kO hf0) rfl rfl hi_8 (rfs_at (vp_lt hi_8)) dP_takeInside_47 ?_
          refine lv_iload_n hx hb dP_takeInside_48 rfl (lv_at hl 4 rfl) ?_
          refine g_runV (va_runV (C := RP) (As := [.ref (ad (fb + 2 + v_ti.toNatClampNeg)), .ref (ad (fb + 2 + (v_ti + 1).toNatClampNeg)), .int x]) (rest := []) ⟨hx, hb, hml, hown, hts⟩ (c_takeEdge l hinj σ_ti τ _ b (fb + 2 + v_ti.toNatClampNeg) (fb + 2 + (v_ti + 1).toNatClampNeg) x hb0 (isP_lt hf0 (vp_lt hi_7)) (fun r t => kW hf0 (vp_lt hi_7)) (isP_lt hf0 (vp_lt hi_8)) (fun r t => kW hf0 (vp_lt hi_8)) hI_ti.2) (qV 3 ht tw_129 tw_131 ts_P_takeEdge tw_4 tk_P_takeEdge rfl rfl (by decide +kernel) ⟨(Nat.le_of_ble_eq_true rfl), (Nat.le_of_ble_eq_true rfl)⟩) (g_pv (ci := 3) hK hP (isP_lt0 hb0) rfl (kP hb0) rfl) rfl rfl hl.1 rfl (lv_room (Nat.le_of_ble_eq_true rfl)) dP_takeInside_49 ⟨Nat.zero_le _, Nat.zero_le _⟩) hS (fun q _ h => gA_mono hS.1 q h) (fun q h => gA_mono hS.1 q h) (fun H locs hP hz hS => ?_)
          refine lv_iinc (v := (v_ti + 1)) (lv' := [(3, .int (v_ti + 1)), (4, .int (v_ti + 1)), (0, .ref (ad b)), (1, .ref (ad fb)), (2, .int x)]) hx hb dP_takeInside_52 hl (k := 1) rfl rfl (by decide) rfl (fun ls hl => ?_)
          refine lv_goto (tgt := 7) hx hb dP_takeInside_55 (by decide) ?_
          have eb_9 : B_ti σ b fb x σ_ti v_ti = (s_takeEdge σ_ti b (fb + 2 + v_ti.toNatClampNeg) (fb + 2 + (v_ti + 1).toNatClampNeg) x) := by unfold B_ti; rw [if_neg c_3]
          exact ih_ti (k_ti + 1) _ _ hb_ti.1 (by omega) (by rw [ek_ti]; exact nI_1 k_ti) (eb_9.symm.trans (by rw [es_ti, ek_ti]; rfl)) (ti_step hb0 hf0 hne hI_ti) _ _ hP hS ls (lv_sub hl [0, 2, 3, 4] rfl)
  exact lp_ti ((σ fb 1).toNatClampNeg + 1) 0 0 _ (Nat.zero_le _) (by omega) rfl rfl (ti_0 hne) _ _ hP hS ls (lv_sub hl [0, 1, 2, 3] rfl)
