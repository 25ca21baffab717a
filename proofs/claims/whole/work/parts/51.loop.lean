section LawB
def FactsOf (Rel : (Nat → Nat → Int32) → Prop) : Prop :=
  (∀ σ (a0 a1 : Int32), Rel σ → s_rword (s_vword σ a0 a1) a0 a1 35 0 = t_vword σ a0 a1 ∧ (t_vword σ a0 a1 = 0 → f_vword σ a0 a1 = f_rword (s_vword σ a0 a1) a0 a1) ∧ Rel (s_rword (s_vword σ a0 a1) a0 a1)) ∧
  (∀ σ (a0 a1 a2 a3 a4 : Int32), Rel σ → s_rattr (s_vattr σ a0 a1 a2 a3 a4) a0 a1 a2 a3 a4 35 0 = t_vattr σ a0 a1 a2 a3 a4 ∧ Rel (s_rattr (s_vattr σ a0 a1 a2 a3 a4) a0 a1 a2 a3 a4)) ∧
  (∀ σ (a0 a1 a2 : Int32), Rel σ → s_rfetch (s_vfetch σ a0 a1 a2) a0 a1 a2 35 0 = t_vfetch σ a0 a1 a2 ∧ (t_vfetch σ a0 a1 a2 = 0 → f_vfetch σ a0 a1 a2 = f_rfetch (s_vfetch σ a0 a1 a2) a0 a1 a2) ∧ Rel (s_rfetch (s_vfetch σ a0 a1 a2) a0 a1 a2)) ∧
  (∀ σ (a0 a1 a2 : Int32), Rel σ → s_rindex (s_vindex σ a0 a1 a2) a0 a1 a2 35 0 = t_vindex σ a0 a1 a2 ∧ (t_vindex σ a0 a1 a2 = 0 → f_vindex σ a0 a1 a2 = f_rindex (s_vindex σ a0 a1 a2) a0 a1 a2) ∧ Rel (s_rindex (s_vindex σ a0 a1 a2) a0 a1 a2)) ∧
  (∀ σ (a0 a1 : Int32), Rel σ → s_rtriangles (s_vtriangles σ a0 a1) a0 a1 35 0 = t_vtriangles σ a0 a1 ∧ (t_vtriangles σ a0 a1 = 0 → f_vtriangles σ a0 a1 = f_rtriangles (s_vtriangles σ a0 a1) a0 a1) ∧ Rel (s_rtriangles (s_vtriangles σ a0 a1) a0 a1)) ∧
  (∀ σ (a0 a1 a2 : Int32), Rel σ → s_rcorner (s_vcorner σ a0 a1 a2) a0 a1 a2 35 0 = t_vcorner σ a0 a1 a2 ∧ (t_vcorner σ a0 a1 a2 = 0 → f_vcorner σ a0 a1 a2 = f_rcorner (s_vcorner σ a0 a1 a2) a0 a1 a2) ∧ Rel (s_rcorner (s_vcorner σ a0 a1 a2) a0 a1 a2)) ∧
  (∀ σ (a0 a1 a2 a3 a4 : Int32), Rel σ → s_rplace (s_vplace σ a0 a1 a2 a3 a4) a0 a1 a2 a3 a4 35 0 = t_vplace σ a0 a1 a2 a3 a4 ∧ Rel (s_rplace (s_vplace σ a0 a1 a2 a3 a4) a0 a1 a2 a3 a4)) ∧
  (∀ σ (a0 a1 a2 a3 a4 a5 : Int32), Rel σ → s_rvary (s_vvary σ a0 a1 a2 a3 a4 a5) a0 a1 a2 a3 a4 a5 35 0 = t_vvary σ a0 a1 a2 a3 a4 a5 ∧ Rel (s_rvary (s_vvary σ a0 a1 a2 a3 a4 a5) a0 a1 a2 a3 a4 a5)) ∧
  (∀ σ (a0 a1 a2 a3 a4 a5 : Int32), Rel σ → s_rview (s_vview σ a0 a1 a2 a3 a4 a5) a0 a1 a2 a3 a4 a5 35 0 = t_vview σ a0 a1 a2 a3 a4 a5 ∧ Rel (s_rview (s_vview σ a0 a1 a2 a3 a4 a5) a0 a1 a2 a3 a4 a5)) ∧
  (∀ σ (a0 a1 : Int32), (a1 = 0 ∨ a1 = 1) → Rel σ → s_rfaces (s_vfaces σ a0 a1) a0 a1 35 0 = t_vfaces σ a0 a1 ∧ Rel (s_rfaces (s_vfaces σ a0 a1) a0 a1)) ∧
  (∀ σ, Rel σ → f_make σ = f_rmake (s_make σ) ∧ Rel (s_rmake (s_make σ))) ∧
  (∀ {σ}, Rel σ → rng (σ 12 1)) ∧
  (∀ {σ}, Rel σ → rmk_ok (s_make σ)) ∧
  (∀ σ (a0 : Int32), Rel σ → s_rside (s_vside σ a0) a0 35 0 = t_vside σ a0 ∧ (t_vside σ a0 = 0 → f_vside σ a0 = f_rside (s_vside σ a0) a0) ∧ Rel (s_rside (s_vside σ a0) a0)) ∧
  (∀ {σ}, Rel σ → rng (σ 26 1)) ∧
  (∀ {σ} {a0 : Int32}, Rel σ → 0 ≤ ((s_vside σ a0) 35 11).toInt ∧ ((s_vside σ a0) 35 11).toInt ≤ 3) ∧
  (∀ σ (a0 a1 a2 : Int32), Rel σ → s_rgot (s_vgot σ a0 a1 a2) a0 a1 a2 35 0 = t_vgot σ a0 a1 a2 ∧ (t_vgot σ a0 a1 a2 = 0 → f_vgot σ a0 a1 a2 = f_rgot (s_vgot σ a0 a1 a2) a0 a1 a2) ∧ Rel (s_rgot (s_vgot σ a0 a1 a2) a0 a1 a2)) ∧
  (∀ {σ} {a0 a1 a2 : Int32}, Rel σ → 0 ≤ ((s_vgot σ a0 a1 a2) 35 11).toInt ∧ ((s_vgot σ a0 a1 a2) 35 11).toInt ≤ 3) ∧
  (∀ σ (a0 : Int32), Rel σ → s_rarea (s_varea σ a0) a0 35 0 = t_varea σ a0 ∧ (t_varea σ a0 = 0 → f_varea σ a0 = f_rarea (s_varea σ a0) a0) ∧ Rel (s_rarea (s_varea σ a0) a0)) ∧
  (∀ {σ} {a0 : Int32}, Rel σ → 0 ≤ ((s_varea σ a0) 35 11).toInt ∧ ((s_varea σ a0) 35 11).toInt ≤ 3)
set_option maxHeartbeats 1600000 in
set_option maxRecDepth 100000 in
theorem law_loop {p : Program} {l : Launch} {e : Env} {s : State} {m : MethodId} {below : List Frame} {meth : Method} {c : Code} {b L : Nat} {xs : Nat → Int32} {D : va_G} {cs : Nat → ClassId} {ad : Nat → Nat} (C0 : lC p l s m meth c b L xs D cs ad) (hr : meth.sig.returnType = ret) (hlocks : meth.locks = false) (Rel : (Nat → Nat → Int32) → Prop) (F0s : FactsOf Rel) :
    ∀ (n i : Nat) (v : Int32) (σ : Nat → Nat → Int32) (τ : Nat → Nat → Int64) (H : Heap) (locs : List Loc) (cells slots : Nat) (ls : Array Slot), i ≤ L → L + 1 ≤ i + n → v = nI i → Rel σ → va_P D vwCl (gW cs ad σ τ) H → va_S (fun q => s.heap.size ≤ q) s.heap H locs → cells + (L - i) + 100 ≤ 601024 → slots + 6 * (L - i) + 1000 ≤ 7293034 → lv_has ls 8 [(0, .ref b), (1, .ref (ad 0)), (2, .ref (ad 35)), (3, .ref (ad 34)), (4, .int v)] → W p l e room_1 s m #[Value.ref b] below meth c H locs cells slots (lw_Z below #[Value.ref b] s) (F0 m 23 ls []) := by
  have C1 := C0
  obtain ⟨hx, hb, hml, hown, ht, hXs, hbl, hL, hinj, hnew, hK, hX, hl9⟩ := C0
  obtain ⟨hF_word, hF_attribute, hF_fetch, hF_index, hF_triangles, hF_corner, hF_place, hF_vary, hF_view, hF_faces, hF_make, h12, hmk, hF_side, h26, h35_side, hF_got, h35_got, hF_area, h35_area⟩ := F0s
  have hbA : ¬ (fun q : Nat => s.heap.size ≤ q) b := Nat.not_le.mpr hbl
  have l7 : (7 : Int32).toInt = 7 := by decide
  intro n
  induction n with
  | zero => intro i v σ τ H locs cells slots ls h1 h2; exact absurd h2 (by omega)
  | succ n ih =>
    intro i v σ τ H locs cells slots ls hi hn ev hR hP hS hc9 hs9 hl
    have hvi : v.toInt = (i : Int) := by rw [ev]; exact nI_toInt (by omega)
    have hLi : (nI L).toInt = (L : Int) := nI_toInt (by omega)
    refine lv_iload hx hb dL_law_23 (lv_at hl 4 rfl) ?_
    refine lv_aload_n hx hb dL_law_25 rfl (lv_at hl 0 rfl) ?_
    refine va_slen hx hb hXs hbl hbA hS dL_law_26 ?_
    refine lv_bipush (v := 7) hx hb dL_law_27 (by decide) ?_
    refine lv_isub hx hb dL_law_29 ?_
    refine lv_icmp_gt (tgt := 1126) hx hb dL_law_30 (by decide) (fun c_1 => ?_) (fun c_1 => ?_)
    · refine lv_iconst (v := 1) hx hb dL_law_1126 (by decide) ?_
      refine va_forget (fun q hq => hS.2.2 q hq) ?_
      refine W.widen (k := 601024) (n := 7293034) (by omega) (by omega) ?_
      exact lw_ret hx hb hr hlocks dL_law_1127
    · have hv : 0 ≤ v.toInt ∧ v.toInt + 7 ≤ (L : Int) ∧ L ≤ 3584 := by
        have c2 := (not_congr Int32.lt_iff_toInt_lt).mp c_1
        have e2 : (nI L - 7).toInt = (L : Int) - 7 := by
          rw [Int32.toInt_sub, hLi, l7, Int.bmod_def]
          omega
        have c3 : ¬ (nI L - 7).toInt < v.toInt := c2
        omega
      have K : ∀ (σ9 : Nat → Nat → Int32) (τ9 : Nat → Nat → Int64) (H9 : Heap) (locs9 : List Loc) (cells9 slots9 : Nat) (ls9 : Array Slot), Rel σ9 → va_P D vwCl (gW cs ad σ9 τ9) H9 → va_S (fun q => s.heap.size ≤ q) s.heap H9 locs9 → cells9 ≤ cells + 1 → slots9 ≤ slots + 6 → lv_has ls9 8 [(0, .ref b), (1, .ref (ad 0)), (2, .ref (ad 35)), (3, .ref (ad 34)), (4, .int v)] → W p l e room_1 s m #[Value.ref b] below meth c H9 locs9 cells9 slots9 (lw_Z below #[Value.ref b] s) (F0 m 1120 ls9 []) := by
        intro σ9 τ9 H9 locs9 cells9 slots9 ls9 hR9 hP9 hS9 h1 h2 hl9'
        refine lv_iinc (v := v + 7) (lv' := [(4, .int (v + 7)), (0, .ref b), (1, .ref (ad 0)), (2, .ref (ad 35)), (3, .ref (ad 34))]) hx hb dL_law_1120 hl9' (k := 4) rfl rfl (by decide) rfl (fun ls hl => ?_)
        refine lv_goto (tgt := 23) hx hb dL_law_1123 (by decide) ?_
        exact ih (i + 7) (v + 7) σ9 τ9 H9 locs9 cells9 slots9 ls (by omega) (by omega) (by rw [ev]; exact nI_add i 7) hR9 hP9 hS9 (by omega) (by omega) (lv_sub hl [1, 2, 3, 4, 0] rfl)
      have hc8 : cells + 10 ≤ 601024 := by omega
      have hs8 : slots + 100 ≤ 7293034 := by omega
      have h_in : vp_in v L := by rw [vp_in_iff]; omega
      refine lv_aload_n hx hb dL_law_33 rfl (lv_at hl 0 rfl) ?_
      refine lv_iload hx hb dL_law_34 (lv_at hl 4 rfl) ?_
      refine va_sld hx hb hXs hbl hbA hS h_in dL_law_36 ?_
      refine lv_bipush (v := 15) hx hb dL_law_37 (by decide) ?_
      refine lv_iand hx hb dL_law_39 ?_
      refine lv_topi (fun y ey => ?_)
      obtain ⟨j, hj, ej⟩ := pk_andE (xs v.toNatClampNeg) (m := 15) 4 (by decide)
      have ey : y = nI j := ey.trans ej
      subst ey
      rcases (by omega : j = 0 ∨ j = 1 ∨ j = 2 ∨ j = 3 ∨ j = 4 ∨ j = 5 ∨ j = 6 ∨ j = 7 ∨ j = 8 ∨ j = 9 ∨ j = 10 ∨ j = 11 ∨ j = 12 ∨ j = 13 ∨ j = 14 ∨ j = 15) with rfl | rfl | rfl | rfl | rfl | rfl | rfl | rfl | rfl | rfl | rfl | rfl | rfl | rfl | rfl | rfl
      · refine lv_tableIn (off := 72) (tgt := 112) hx hb dL_law_40 (by decide) (by decide) (by decide) (by decide) ?_
        exact lc_word C1 Rel hF_word hR hP hS hc8 hs8 hv hl K
      · refine lv_tableIn (off := 140) (tgt := 180) hx hb dL_law_40 (by decide) (by decide) (by decide) (by decide) ?_
        exact lc_attribute C1 Rel hF_attribute hR hP hS hc8 hs8 hv hl K
      · refine lv_tableIn (off := 224) (tgt := 264) hx hb dL_law_40 (by decide) (by decide) (by decide) (by decide) ?_
        exact lc_fetch C1 Rel hF_fetch hR hP hS hc8 hs8 hv hl K
      · refine lv_tableIn (off := 304) (tgt := 344) hx hb dL_law_40 (by decide) (by decide) (by decide) (by decide) ?_
        exact lc_index C1 Rel hF_index hR hP hS hc8 hs8 hv hl K
      · refine lv_tableIn (off := 384) (tgt := 424) hx hb dL_law_40 (by decide) (by decide) (by decide) (by decide) ?_
        exact lc_triangles C1 Rel hF_triangles hR hP hS hc8 hs8 hv hl K
      · refine lv_tableIn (off := 452) (tgt := 492) hx hb dL_law_40 (by decide) (by decide) (by decide) (by decide) ?_
        exact lc_corner C1 Rel hF_corner hR hP hS hc8 hs8 hv hl K
      · refine lv_tableIn (off := 532) (tgt := 572) hx hb dL_law_40 (by decide) (by decide) (by decide) (by decide) ?_
        exact lc_place C1 Rel hF_place hR hP hS hc8 hs8 hv hl K
      · refine lv_tableIn (off := 616) (tgt := 656) hx hb dL_law_40 (by decide) (by decide) (by decide) (by decide) ?_
        exact lc_vary C1 Rel hF_vary hR hP hS hc8 hs8 hv hl K
      · refine lv_tableIn (off := 714) (tgt := 754) hx hb dL_law_40 (by decide) (by decide) (by decide) (by decide) ?_
        exact lc_view C1 Rel hF_view hR hP hS hc8 hs8 hv hl K
      · refine lv_tableIn (off := 812) (tgt := 852) hx hb dL_law_40 (by decide) (by decide) (by decide) (by decide) ?_
        exact lc_faces C1 Rel hF_faces hR hP hS hc8 hs8 hv hl K
      · refine lv_tableIn (off := 876) (tgt := 916) hx hb dL_law_40 (by decide) (by decide) (by decide) (by decide) ?_
        exact lc_make C1 Rel hF_make h12 hmk hR hP hS hc8 hs8 hv hl K
      · refine lv_tableIn (off := 889) (tgt := 929) hx hb dL_law_40 (by decide) (by decide) (by decide) (by decide) ?_
        exact lc_side C1 Rel hF_side h26 h35_side hR hP hS hc8 hs8 hv hl K
      · refine lv_tableIn (off := 945) (tgt := 985) hx hb dL_law_40 (by decide) (by decide) (by decide) (by decide) ?_
        exact lc_got C1 Rel hF_got h26 h35_got hR hP hS hc8 hs8 hv hl K
      · refine lv_tableIn (off := 1025) (tgt := 1065) hx hb dL_law_40 (by decide) (by decide) (by decide) (by decide) ?_
        exact lc_area C1 Rel hF_area h26 h35_area hR hP hS hc8 hs8 hv hl K
      · refine lv_tableOut (tgt := 1120) hx hb dL_law_40 (Or.inr (by decide)) (by decide) ?_
        exact K σ τ H locs cells slots ls hR hP hS (by omega) (by omega) hl
      · refine lv_tableOut (tgt := 1120) hx hb dL_law_40 (Or.inr (by decide)) (by decide) ?_
        exact K σ τ H locs cells slots ls hR hP hS (by omega) (by omega) hl
end LawB
