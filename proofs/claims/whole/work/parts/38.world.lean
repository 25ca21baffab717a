def B_cr (σ : Nat → Nat → Int32) (a0 : Int32) (σ_cr : Nat → Nat → Int32) (v_cr : Int32) : Nat → Nat → Int32 :=
  (w2 σ_cr 40 v_cr.toNatClampNeg (σ_cr 41 v_cr.toNatClampNeg))
def L_cr (σ : Nat → Nat → Int32) (a0 : Int32) (σe : Nat → Nat → Int32) : Nat → Nat → Nat → Int32
  | 0 => σe
  | k + 1 => B_cr σ a0 (L_cr σ a0 σe k) (nI k)
def B_cq (σ : Nat → Nat → Int32) (a0 : Int32) (σ_ct : Nat → Nat → Int32) (v_ct : Int32) (σ_cq : Nat → Nat → Int32) (v_cq : Int32) : Nat → Nat → Int32 :=
  (w2 σ_cq 41 (((32 * (σ_cq 35 9)) + v_cq).toNatClampNeg) (σ_cq 40 (((32 * v_ct) + v_cq).toNatClampNeg)))
def L_cq (σ : Nat → Nat → Int32) (a0 : Int32) (σ_ct : Nat → Nat → Int32) (v_ct : Int32) (σe : Nat → Nat → Int32) : Nat → Nat → Nat → Int32
  | 0 => σe
  | k + 1 => B_cq σ a0 σ_ct v_ct (L_cq σ a0 σ_ct v_ct σe k) (nI k)
def B_ct (σ : Nat → Nat → Int32) (a0 : Int32) (σ_ct : Nat → Nat → Int32) (v_ct : Int32) : Nat → Nat → Int32 :=
  if (v_ct + 1) = (σ_ct 35 7) then
    if (lg_cmp (f_rinside σ_ct  v_ct a0) 0) < 0 then
      if (lg_cmp (f_rinside σ_ct  (0 : Int32) a0) 0) < 0 then
        σ_ct
      else
        (s_rbetween σ_ct  (0 : Int32) v_ct a0)
    else
      if (lg_cmp (f_rinside σ_ct  (0 : Int32) a0) 0) < 0 then
        (s_rbetween (w2 (L_cq σ a0 σ_ct v_ct σ_ct 32) 35 9 (((L_cq σ a0 σ_ct v_ct σ_ct 32) 35 9) + 1))  v_ct (0 : Int32) a0)
      else
        (w2 (L_cq σ a0 σ_ct v_ct σ_ct 32) 35 9 (((L_cq σ a0 σ_ct v_ct σ_ct 32) 35 9) + 1))
  else
    if (lg_cmp (f_rinside σ_ct  v_ct a0) 0) < 0 then
      if (lg_cmp (f_rinside σ_ct  (v_ct + 1) a0) 0) < 0 then
        σ_ct
      else
        (s_rbetween σ_ct  (v_ct + 1) v_ct a0)
    else
      if (lg_cmp (f_rinside σ_ct  (v_ct + 1) a0) 0) < 0 then
        (s_rbetween (w2 (L_cq σ a0 σ_ct v_ct σ_ct 32) 35 9 (((L_cq σ a0 σ_ct v_ct σ_ct 32) 35 9) + 1))  v_ct (v_ct + 1) a0)
      else
        (w2 (L_cq σ a0 σ_ct v_ct σ_ct 32) 35 9 (((L_cq σ a0 σ_ct v_ct σ_ct 32) 35 9) + 1))
def L_ct (σ : Nat → Nat → Int32) (a0 : Int32) (σe : Nat → Nat → Int32) : Nat → Nat → Nat → Int32
  | 0 => σe
  | k + 1 => B_ct σ a0 (L_ct σ a0 σe k) (nI k)
def s_rcut (σ : Nat → Nat → Int32)  (a0 : Int32) : Nat → Nat → Int32 :=
  if (3 : Int32) ≤ ((L_ct σ a0 (w2 σ 35 9 (0 : Int32)) (σ 35 7).toNatClampNeg) 35 9) then
    (L_cr σ a0 (w2 (L_ct σ a0 (w2 σ 35 9 (0 : Int32)) (σ 35 7).toNatClampNeg) 35 7 ((L_ct σ a0 (w2 σ 35 9 (0 : Int32)) (σ 35 7).toNatClampNeg) 35 9)) ((32 : Int32) * ((w2 (L_ct σ a0 (w2 σ 35 9 (0 : Int32)) (σ 35 7).toNatClampNeg) 35 7 ((L_ct σ a0 (w2 σ 35 9 (0 : Int32)) (σ 35 7).toNatClampNeg) 35 9)) 35 7)).toNatClampNeg)
  else
    (L_cr σ a0 (w2 (L_ct σ a0 (w2 σ 35 9 (0 : Int32)) (σ 35 7).toNatClampNeg) 35 7 (0 : Int32)) ((32 : Int32) * ((w2 (L_ct σ a0 (w2 σ 35 9 (0 : Int32)) (σ 35 7).toNatClampNeg) 35 7 (0 : Int32)) 35 7)).toNatClampNeg)
set_option maxHeartbeats 800000 in
set_option maxRecDepth 100000 in
theorem c_rcut (l : Launch) {D : va_G} {cs : Nat → ClassId} {ad : Nat → Nat} (hinj : gI ad) (σ : Nat → Nat → Int32) (τ : Nat → Nat → Int64) (sz : Nat)  (a0 : Int32) (hn : 0 ≤ (σ 35 7).toInt ∧ (σ 35 7).toInt ≤ 4) : Met l yR_cut (wsB kR_cut) ({ frames := 2, cells := 0, slots := 0, locals := 59 } : Room) (va_Pc [.ref (ad 35), .int a0] (gP D cs ad σ τ sz)) (gQ none (gB D cs ad (s_rcut σ a0) τ) (gA NC ad sz)) 0 0 (gA NC ad sz) := by
  refine Met.ofW (cc := cR_cut) (maxL := 7) (ret := none) (by decide) rfl ?_
  intro p e s m args below meth c s₁ B hml hv
  obtain ⟨rfl, hsz, hP, hK⟩ := hv
  have hx := B.exec
  have hb := B.bytes
  have hr := B.returns
  have hts := atoms_spec (ws := wsB kR_cut) B.pre
  have ht := hbig hts
  have hown : s.vm.findClass RR = some m.cls := findClass_of_methodNamed B.named
  have hlocks := B.notSynchronized
  subst hsz
  have hD : ∀ σ τ, va_D (gA NC ad s.heap.size) (gW cs ad σ τ) := fun _ _ => gw_D hinj (fun i h => gA_ad h)
  have hS : va_S (gA NC ad s.heap.size) s.heap s.heap [] := va_S.rf
  have hl := lv_entry ([.ref (ad 35), .int a0]) (n := 7) (Nat.le_of_ble_eq_true rfl)
  rw [lg_entry_eq]
  generalize (lg_sl ([.ref (ad 35), .int a0]) ++ List.replicate (7 - (lg_sl ([.ref (ad 35), .int a0])).length) Slot.unset).toArray = ls at hl ⊢
  have hl : lv_has ls 7 [(0, .ref (ad 35)), (1, .int a0)] := hl
  refine lv_aload_n hx hb dR_cut_0 rfl (lv_at hl 0 rfl) ?_
  refine lv_iconst (v := 0) hx hb dR_cut_1 (by decide) ?_
  refine g_put (ci := 5) (C := RR) (T := TR) (M := 13) (ty := .int) (x := 0) hx hb ht inR tyR tyR_ok nmR hown hK hP hD hS 35 (by decide) (fR ad) (fun r t => kR) rfl 9 (by decide) (ht _ tw_461) (fun _ h9 => h9) rfl (by decide +kernel) rfl rfl (Nat.le_of_ble_eq_true rfl) rfl dR_cut_2 (fun H locs hP hS => ?_)
  refine lv_iconst (v := 0) hx hb dR_cut_5 (by decide) ?_
  refine lv_istore_n (lv' := [(2, .int 0), (0, .ref (ad 35)), (1, .int a0)]) hx hb dR_cut_6 rfl hl (by decide) rfl (fun ls hl => ?_)
  have lp_ct : ∀ (n k_ct : Nat) (v_ct : Int32) (σ_ct : Nat → Nat → Int32), k_ct ≤ (σ 35 7).toNatClampNeg → (σ 35 7).toNatClampNeg + 1 ≤ k_ct + n → v_ct = nI k_ct → σ_ct = L_ct σ a0 (w2 σ 35 9 (0 : Int32)) k_ct → ct2 σ (2 * k_ct) σ_ct → ∀ (H : Heap) (locs : List Loc), va_P D vwCl (gW cs ad σ_ct τ) H → va_S (gA NC ad s.heap.size) s.heap H locs → ∀ ls : Array Slot, lv_has ls 7 [(0, .ref (ad 35)), (1, .int a0), (2, .int v_ct)] → W p l e (headSpec (wsB kR_cut) ({ frames := 2, cells := 0, slots := 0, locals := 59 } : Room)).room s m ([.ref (ad 35), .int a0] : List Value).toArray below meth c H locs 0 0 (MQ below (gQ none (gB D cs ad (s_rcut σ a0) τ) (gA NC ad s.heap.size)) ([.ref (ad 35), .int a0] : List Value).toArray s 0 0 (gA NC ad s.heap.size)) (F0 m 7 ls []) := by
    intro n
    induction n with
    | zero => intro k_ct v_ct σ_ct h1 h2; exact absurd h2 (by omega)
    | succ n ih_ct =>
      intro k_ct v_ct σ_ct hk_ct hn_ct ek_ct es_ct hI_ct H locs hP hS ls hl
      refine lv_iload_n hx hb dR_cut_7 rfl (lv_at hl 2 rfl) ?_
      refine lv_aload_n hx hb dR_cut_8 rfl (lv_at hl 0 rfl) ?_
      refine g_get (ci := 5) (C := RR) (T := TR) (M := 13) (v := .int (σ_ct 35 7)) hx hb ht inR hown hK hP 35 (by decide) kR rfl 7 (by decide) (ht _ tw_459) (fun _ h9 => h9) rfl dR_cut_9 ?_
      refine lv_icmp_ge (tgt := 167) hx hb dR_cut_12 (by decide) (fun c_1 => ?_) (fun c_1 => ?_)
      · have hk9 := lp_end (N := (σ 35 7).toNatClampNeg) (hI_ct.1.trans (nI_self (le45 hn))) (cl_lt (le45 hn)) hk_ct ek_ct c_1
        subst hk9
        refine lv_aload_n hx hb dR_cut_167 rfl (lv_at hl 0 rfl) ?_
        refine lv_aload_n hx hb dR_cut_168 rfl (lv_at hl 0 rfl) ?_
        refine g_get (ci := 5) (C := RR) (T := TR) (M := 13) (v := .int (σ_ct 35 9)) hx hb ht inR hown hK hP 35 (by decide) kR rfl 9 (by decide) (ht _ tw_461) (fun _ h9 => h9) rfl dR_cut_169 ?_
        refine lv_iconst (v := 3) hx hb dR_cut_172 (by decide) ?_
        refine lv_icmp_ge (tgt := 180) hx hb dR_cut_173 (by decide) (fun c_2 => ?_) (fun c_2 => ?_)
        · refine lv_aload_n hx hb dR_cut_180 rfl (lv_at hl 0 rfl) ?_
          refine g_get (ci := 5) (C := RR) (T := TR) (M := 13) (v := .int (σ_ct 35 9)) hx hb ht inR hown hK hP 35 (by decide) kR rfl 9 (by decide) (ht _ tw_461) (fun _ h9 => h9) rfl dR_cut_181 ?_
          refine g_put (ci := 5) (C := RR) (T := TR) (M := 13) (ty := .int) (x := (σ_ct 35 9)) hx hb ht inR tyR tyR_ok nmR hown hK hP hD hS 35 (by decide) (fR ad) (fun r t => kR) rfl 7 (by decide) (ht _ tw_459) (fun _ h9 => h9) rfl (by decide +kernel) rfl rfl (Nat.le_of_ble_eq_true rfl) rfl dR_cut_184 (fun H locs hP hS => ?_)
          refine lv_iconst (v := 0) hx hb dR_cut_187 (by decide) ?_
          refine lv_istore_n (lv' := [(2, .int 0), (0, .ref (ad 35)), (1, .int a0)]) hx hb dR_cut_188 rfl hl (by decide) rfl (fun ls hl => ?_)
          have hE_cr : 0 ≤ ((w2 σ_ct 35 7 (σ_ct 35 9)) 35 7).toInt ∧ ((w2 σ_ct 35 7 (σ_ct 35 9)) 35 7).toInt ≤ 8 := (crE1 hI_ct (cl4 hn))
          have lp_cr : ∀ (n k_cr : Nat) (v_cr : Int32) (σ_cr : Nat → Nat → Int32), k_cr ≤ ((32 : Int32) * ((w2 σ_ct 35 7 (σ_ct 35 9)) 35 7)).toNatClampNeg → ((32 : Int32) * ((w2 σ_ct 35 7 (σ_ct 35 9)) 35 7)).toNatClampNeg + 1 ≤ k_cr + n → v_cr = nI k_cr → σ_cr = L_cr σ a0 (w2 σ_ct 35 7 (σ_ct 35 9)) k_cr → σ_cr 35 7 = (w2 σ_ct 35 7 (σ_ct 35 9)) 35 7 → ∀ (H : Heap) (locs : List Loc), va_P D vwCl (gW cs ad σ_cr τ) H → va_S (gA NC ad s.heap.size) s.heap H locs → ∀ ls : Array Slot, lv_has ls 7 [(0, .ref (ad 35)), (1, .int a0), (2, .int v_cr)] → W p l e (headSpec (wsB kR_cut) ({ frames := 2, cells := 0, slots := 0, locals := 59 } : Room)).room s m ([.ref (ad 35), .int a0] : List Value).toArray below meth c H locs 0 0 (MQ below (gQ none (gB D cs ad (s_rcut σ a0) τ) (gA NC ad s.heap.size)) ([.ref (ad 35), .int a0] : List Value).toArray s 0 0 (gA NC ad s.heap.size)) (F0 m 189 ls []) := by
            intro n
            induction n with
            | zero => intro k_cr v_cr σ_cr h1 h2; exact absurd h2 (by omega)
            | succ n ih_cr =>
              intro k_cr v_cr σ_cr hk_cr hn_cr ek_cr es_cr hI_cr H locs hP hS ls hl
              refine lv_iload_n hx hb dR_cut_189 rfl (lv_at hl 2 rfl) ?_
              refine lv_bipush (v := 32) hx hb dR_cut_190 (by decide) ?_
              refine lv_aload_n hx hb dR_cut_192 rfl (lv_at hl 0 rfl) ?_
              refine g_get (ci := 5) (C := RR) (T := TR) (M := 13) (v := .int (σ_cr 35 7)) hx hb ht inR hown hK hP 35 (by decide) kR rfl 7 (by decide) (ht _ tw_459) (fun _ h9 => h9) rfl dR_cut_193 ?_
              refine lv_imul hx hb dR_cut_196 ?_
              refine lv_icmp_ge (tgt := 218) hx hb dR_cut_197 (by decide) (fun c_3 => ?_) (fun c_3 => ?_)
              · have hk9 := lp_end (N := ((32 : Int32) * ((w2 σ_ct 35 7 (σ_ct 35 9)) 35 7)).toNatClampNeg) (cr_nv hI_cr hE_cr) (cr_lt hE_cr) hk_cr ek_cr c_3
                subst hk9
                have es : s_rcut σ a0 = σ_cr := by unfold s_rcut; (try rw [← es_ct]); (try rw [← es_cr]); (try rw [if_pos c_2]); (try rfl)
                exact W.vret hx hb hr (fun t ht9 hW => ⟨rfl, by show va_P D vwCl (gW cs ad (s_rcut σ a0) τ) t.heap; rw [ht9, es]; exact hP, hS.F ht9⟩) hS.2.2 dR_cut_218
              · have hb_cr := lp_body (N := ((32 : Int32) * ((w2 σ_ct 35 7 (σ_ct 35 9)) 35 7)).toNatClampNeg) (cr_nv hI_cr hE_cr) (cr_lt hE_cr) hk_cr ek_cr c_3
                refine lv_aload_n hx hb dR_cut_200 rfl (lv_at hl 0 rfl) ?_
                refine g_get (ci := 5) (C := RR) (T := TR) (M := 13) (v := .ref (ad 40)) hx hb ht inR hown hK hP 35 (by decide) kR rfl 8 (by decide) (ht _ tw_460) (fun _ h9 => h9) rfl dR_cut_201 ?_
                refine lv_iload_n hx hb dR_cut_204 rfl (lv_at hl 2 rfl) ?_
                refine lv_aload_n hx hb dR_cut_205 rfl (lv_at hl 0 rfl) ?_
                refine g_get (ci := 5) (C := RR) (T := TR) (M := 13) (v := .ref (ad 41)) hx hb ht inR hown hK hP 35 (by decide) kR rfl 10 (by decide) (ht _ tw_462) (fun _ h9 => h9) rfl dR_cut_206 ?_
                refine lv_iload_n hx hb dR_cut_209 rfl (lv_at hl 2 rfl) ?_
                have hi_4 : vp_in v_cr 256 := (cr_in (cr_le hE_cr) hb_cr.1 ek_cr)
                refine g_iald hx hb hK hP 41 0 (by decide) (fun r t => kR41) rfl hi_4 dR_cut_210 ?_
                have hi_5 : vp_in v_cr 256 := (cr_in (cr_le hE_cr) hb_cr.1 ek_cr)
                refine g_iast hx hb hK hP hD hS 40 0 (by decide) (fun r t => kR40) rfl hi_5 dR_cut_211 (fun H locs hP hS => ?_)
                refine lv_iinc (v := (v_cr + 1)) (lv' := [(2, .int (v_cr + 1)), (0, .ref (ad 35)), (1, .int a0)]) hx hb dR_cut_212 hl (k := 2) rfl rfl (by decide) rfl (fun ls hl => ?_)
                refine lv_goto (tgt := 189) hx hb dR_cut_215 (by decide) ?_
                have eb_6 : B_cr σ a0 σ_cr v_cr = (w2 σ_cr 40 v_cr.toNatClampNeg (σ_cr 41 v_cr.toNatClampNeg)) := by unfold B_cr; (try rw [← es_ct]); (try rfl)
                exact ih_cr (k_cr + 1) _ _ hb_cr.1 (by omega) (by rw [ek_cr]; exact nI_1 k_cr) (eb_6.symm.trans (by rw [es_cr, ek_cr]; rfl)) ((congrFun (w2_ne (by decide)) 7).trans hI_cr) _ _ hP hS ls (lv_sub hl [1, 2, 0] rfl)
          exact lp_cr (((32 : Int32) * ((w2 σ_ct 35 7 (σ_ct 35 9)) 35 7)).toNatClampNeg + 1) 0 0 _ (Nat.zero_le _) (by omega) rfl rfl rfl _ _ hP hS ls (lv_sub hl [1, 2, 0] rfl)
        · refine lv_iconst (v := 0) hx hb dR_cut_176 (by decide) ?_
          refine lv_goto (tgt := 184) hx hb dR_cut_177 (by decide) ?_
          refine g_put (ci := 5) (C := RR) (T := TR) (M := 13) (ty := .int) (x := 0) hx hb ht inR tyR tyR_ok nmR hown hK hP hD hS 35 (by decide) (fR ad) (fun r t => kR) rfl 7 (by decide) (ht _ tw_459) (fun _ h9 => h9) rfl (by decide +kernel) rfl rfl (Nat.le_of_ble_eq_true rfl) rfl dR_cut_184 (fun H locs hP hS => ?_)
          refine lv_iconst (v := 0) hx hb dR_cut_187 (by decide) ?_
          refine lv_istore_n (lv' := [(2, .int 0), (0, .ref (ad 35)), (1, .int a0)]) hx hb dR_cut_188 rfl hl (by decide) rfl (fun ls hl => ?_)
          have hE_cr : 0 ≤ ((w2 σ_ct 35 7 (0 : Int32)) 35 7).toInt ∧ ((w2 σ_ct 35 7 (0 : Int32)) 35 7).toInt ≤ 8 := crE0
          have lp_cr : ∀ (n k_cr : Nat) (v_cr : Int32) (σ_cr : Nat → Nat → Int32), k_cr ≤ ((32 : Int32) * ((w2 σ_ct 35 7 (0 : Int32)) 35 7)).toNatClampNeg → ((32 : Int32) * ((w2 σ_ct 35 7 (0 : Int32)) 35 7)).toNatClampNeg + 1 ≤ k_cr + n → v_cr = nI k_cr → σ_cr = L_cr σ a0 (w2 σ_ct 35 7 (0 : Int32)) k_cr → σ_cr 35 7 = (w2 σ_ct 35 7 (0 : Int32)) 35 7 → ∀ (H : Heap) (locs : List Loc), va_P D vwCl (gW cs ad σ_cr τ) H → va_S (gA NC ad s.heap.size) s.heap H locs → ∀ ls : Array Slot, lv_has ls 7 [(0, .ref (ad 35)), (1, .int a0), (2, .int v_cr)] → W p l e (headSpec (wsB kR_cut) ({ frames := 2, cells := 0, slots := 0, locals := 59 } : Room)).room s m ([.ref (ad 35), .int a0] : List Value).toArray below meth c H locs 0 0 (MQ below (gQ none (gB D cs ad (s_rcut σ a0) τ) (gA NC ad s.heap.size)) ([.ref (ad 35), .int a0] : List Value).toArray s 0 0 (gA NC ad s.heap.size)) (F0 m 189 ls []) := by
            intro n
            induction n with
            | zero => intro k_cr v_cr σ_cr h1 h2; exact absurd h2 (by omega)
            | succ n ih_cr =>
              intro k_cr v_cr σ_cr hk_cr hn_cr ek_cr es_cr hI_cr H locs hP hS ls hl
              refine lv_iload_n hx hb dR_cut_189 rfl (lv_at hl 2 rfl) ?_
              refine lv_bipush (v := 32) hx hb dR_cut_190 (by decide) ?_
              refine lv_aload_n hx hb dR_cut_192 rfl (lv_at hl 0 rfl) ?_
              refine g_get (ci := 5) (C := RR) (T := TR) (M := 13) (v := .int (σ_cr 35 7)) hx hb ht inR hown hK hP 35 (by decide) kR rfl 7 (by decide) (ht _ tw_459) (fun _ h9 => h9) rfl dR_cut_193 ?_
              refine lv_imul hx hb dR_cut_196 ?_
              refine lv_icmp_ge (tgt := 218) hx hb dR_cut_197 (by decide) (fun c_7 => ?_) (fun c_7 => ?_)
              · have hk9 := lp_end (N := ((32 : Int32) * ((w2 σ_ct 35 7 (0 : Int32)) 35 7)).toNatClampNeg) (cr_nv hI_cr hE_cr) (cr_lt hE_cr) hk_cr ek_cr c_7
                subst hk9
                have es : s_rcut σ a0 = σ_cr := by unfold s_rcut; (try rw [← es_ct]); (try rw [← es_cr]); (try rw [if_neg c_2]); (try rfl)
                exact W.vret hx hb hr (fun t ht9 hW => ⟨rfl, by show va_P D vwCl (gW cs ad (s_rcut σ a0) τ) t.heap; rw [ht9, es]; exact hP, hS.F ht9⟩) hS.2.2 dR_cut_218
              · have hb_cr := lp_body (N := ((32 : Int32) * ((w2 σ_ct 35 7 (0 : Int32)) 35 7)).toNatClampNeg) (cr_nv hI_cr hE_cr) (cr_lt hE_cr) hk_cr ek_cr c_7
                refine lv_aload_n hx hb dR_cut_200 rfl (lv_at hl 0 rfl) ?_
                refine g_get (ci := 5) (C := RR) (T := TR) (M := 13) (v := .ref (ad 40)) hx hb ht inR hown hK hP 35 (by decide) kR rfl 8 (by decide) (ht _ tw_460) (fun _ h9 => h9) rfl dR_cut_201 ?_
                refine lv_iload_n hx hb dR_cut_204 rfl (lv_at hl 2 rfl) ?_
                refine lv_aload_n hx hb dR_cut_205 rfl (lv_at hl 0 rfl) ?_
                refine g_get (ci := 5) (C := RR) (T := TR) (M := 13) (v := .ref (ad 41)) hx hb ht inR hown hK hP 35 (by decide) kR rfl 10 (by decide) (ht _ tw_462) (fun _ h9 => h9) rfl dR_cut_206 ?_
                refine lv_iload_n hx hb dR_cut_209 rfl (lv_at hl 2 rfl) ?_
                have hi_8 : vp_in v_cr 256 := (cr_in (cr_le hE_cr) hb_cr.1 ek_cr)
                refine g_iald hx hb hK hP 41 0 (by decide) (fun r t => kR41) rfl hi_8 dR_cut_210 ?_
                have hi_9 : vp_in v_cr 256 := (cr_in (cr_le hE_cr) hb_cr.1 ek_cr)
                refine g_iast hx hb hK hP hD hS 40 0 (by decide) (fun r t => kR40) rfl hi_9 dR_cut_211 (fun H locs hP hS => ?_)
                refine lv_iinc (v := (v_cr + 1)) (lv' := [(2, .int (v_cr + 1)), (0, .ref (ad 35)), (1, .int a0)]) hx hb dR_cut_212 hl (k := 2) rfl rfl (by decide) rfl (fun ls hl => ?_)
                refine lv_goto (tgt := 189) hx hb dR_cut_215 (by decide) ?_
                have eb_10 : B_cr σ a0 σ_cr v_cr = (w2 σ_cr 40 v_cr.toNatClampNeg (σ_cr 41 v_cr.toNatClampNeg)) := by unfold B_cr; (try rw [← es_ct]); (try rfl)
                exact ih_cr (k_cr + 1) _ _ hb_cr.1 (by omega) (by rw [ek_cr]; exact nI_1 k_cr) (eb_10.symm.trans (by rw [es_cr, ek_cr]; rfl)) ((congrFun (w2_ne (by decide)) 7).trans hI_cr) _ _ hP hS ls (lv_sub hl [1, 2, 0] rfl)
          exact lp_cr (((32 : Int32) * ((w2 σ_ct 35 7 (0 : Int32)) 35 7)).toNatClampNeg + 1) 0 0 _ (Nat.zero_le _) (by omega) rfl rfl rfl _ _ hP hS ls (lv_sub hl [1, 2, 0] rfl)
      · have hb_ct := lp_body (N := (σ 35 7).toNatClampNeg) (hI_ct.1.trans (nI_self (le45 hn))) (cl_lt (le45 hn)) hk_ct ek_ct c_1
        refine lv_iload_n hx hb dR_cut_15 rfl (lv_at hl 2 rfl) ?_
        refine lv_iconst (v := 1) hx hb dR_cut_16 (by decide) ?_
        refine lv_iadd hx hb dR_cut_17 ?_
        refine lv_aload_n hx hb dR_cut_18 rfl (lv_at hl 0 rfl) ?_
        refine g_get (ci := 5) (C := RR) (T := TR) (M := 13) (v := .int (σ_ct 35 7)) hx hb ht inR hown hK hP 35 (by decide) kR rfl 7 (by decide) (ht _ tw_459) (fun _ h9 => h9) rfl dR_cut_19 ?_
        refine lv_icmp_ne (tgt := 29) hx hb dR_cut_22 (by decide) (fun c_11 => ?_) (fun c_11 => ?_)
        · refine lv_iload_n hx hb dR_cut_29 rfl (lv_at hl 2 rfl) ?_
          refine lv_iconst (v := 1) hx hb dR_cut_30 (by decide) ?_
          refine lv_iadd hx hb dR_cut_31 ?_
          refine lv_istore_n (lv' := [(3, .int (v_ct + 1)), (0, .ref (ad 35)), (1, .int a0), (2, .int v_ct)]) hx hb dR_cut_32 rfl hl (by decide) rfl (fun ls hl => ?_)
          refine lv_aload_n hx hb dR_cut_33 rfl (lv_at hl 1 rfl) ?_
          refine lv_iload_n hx hb dR_cut_34 rfl (lv_at hl 3 rfl) ?_
          refine lv_iload_n hx hb dR_cut_35 rfl (lv_at hl 2 rfl) ?_
          refine g_pure (v := .long (f_rinside σ_ct  v_ct a0)) (va_runV (C := RR) (As := [.int v_ct, .int a0]) (rest := []) ⟨hx, hb, hml, hown, hts⟩ (c_rinside l hinj σ_ct τ _  v_ct a0 (ct_c hb_ct.1 hn ek_ct)) (qV 2 ht tw_571 tw_573 ts_R_inside tw_6 tk_R_inside rfl rfl (by decide +kernel) ⟨(Nat.le_of_ble_eq_true rfl), (Nat.le_of_ble_eq_true rfl)⟩) (g_pv (ci := 5) hK hP (by decide) rfl kR rfl) rfl rfl hl.1 rfl (lv_room (Nat.le_of_ble_eq_true rfl)) dR_cut_36 ⟨Nat.zero_le _, Nat.zero_le _⟩) ?_
          refine lv_lconst (v := 0) hx hb dR_cut_39 (by decide) ?_
          refine W.lcmp hx hb dR_cut_40 ?_
          refine lv_if_lt (tgt := 48) hx hb dR_cut_41 (by decide) (fun c_12 => ?_) (fun c_12 => ?_)
          · refine lv_iconst (v := 0) hx hb dR_cut_48 (by decide) ?_
            refine lv_istore (lv' := [(4, .int 0), (3, .int (v_ct + 1)), (0, .ref (ad 35)), (1, .int a0), (2, .int v_ct)]) hx hb dR_cut_49 hl (by decide) rfl (fun ls hl => ?_)
            refine lv_aload_n hx hb dR_cut_51 rfl (lv_at hl 2 rfl) ?_
            refine lv_iload_n hx hb dR_cut_52 rfl (lv_at hl 1 rfl) ?_
            refine lv_iload_n hx hb dR_cut_53 rfl (lv_at hl 3 rfl) ?_
            refine g_pure (v := .long (f_rinside σ_ct  (v_ct + 1) a0)) (va_runV (C := RR) (As := [.int (v_ct + 1), .int a0]) (rest := []) ⟨hx, hb, hml, hown, hts⟩ (c_rinside l hinj σ_ct τ _  (v_ct + 1) a0 (ct_d hb_ct.1 hn ek_ct)) (qV 2 ht tw_571 tw_573 ts_R_inside tw_6 tk_R_inside rfl rfl (by decide +kernel) ⟨(Nat.le_of_ble_eq_true rfl), (Nat.le_of_ble_eq_true rfl)⟩) (g_pv (ci := 5) hK hP (by decide) rfl kR rfl) rfl rfl hl.1 rfl (lv_room (Nat.le_of_ble_eq_true rfl)) dR_cut_54 ⟨Nat.zero_le _, Nat.zero_le _⟩) ?_
            refine lv_lconst (v := 0) hx hb dR_cut_57 (by decide) ?_
            refine W.lcmp hx hb dR_cut_58 ?_
            refine lv_if_lt (tgt := 66) hx hb dR_cut_59 (by decide) (fun c_13 => ?_) (fun c_13 => ?_)
            · refine lv_iconst (v := 0) hx hb dR_cut_66 (by decide) ?_
              refine lv_istore (lv' := [(5, .int 0), (4, .int 0), (3, .int (v_ct + 1)), (0, .ref (ad 35)), (1, .int a0), (2, .int v_ct)]) hx hb dR_cut_67 hl (by decide) rfl (fun ls hl => ?_)
              refine lv_iload hx hb dR_cut_69 (lv_at hl 1 rfl) ?_
              refine lv_if_eq (tgt := 127) hx hb dR_cut_71 (by decide) (fun c_14 => ?_) (fun c_14 => ?_)
              · refine lv_iload hx hb dR_cut_127 (lv_at hl 1 rfl) ?_
                refine lv_if_eq (tgt := 144) hx hb dR_cut_129 (by decide) (fun c_15 => ?_) (fun c_15 => ?_)
                · refine lv_iload hx hb dR_cut_144 (lv_at hl 1 rfl) ?_
                  refine lv_if_ne (tgt := 161) hx hb dR_cut_146 (by decide) (fun c_16 => ?_) (fun c_16 => ?_)
                  · exact absurd (by decide) c_16
                  · refine lv_iload hx hb dR_cut_149 (lv_at hl 0 rfl) ?_
                    refine lv_if_eq (tgt := 161) hx hb dR_cut_151 (by decide) (fun c_17 => ?_) (fun c_17 => ?_)
                    · refine lv_iinc (v := (v_ct + 1)) (lv' := [(2, .int (v_ct + 1)), (5, .int 0), (4, .int 0), (3, .int (v_ct + 1)), (0, .ref (ad 35)), (1, .int a0)]) hx hb dR_cut_161 hl (k := 5) rfl rfl (by decide) rfl (fun ls hl => ?_)
                      refine lv_goto (tgt := 7) hx hb dR_cut_164 (by decide) ?_
                      have eb_18 : B_ct σ a0 σ_ct v_ct = σ_ct := by unfold B_ct; rw [if_neg c_11, if_pos c_12, if_pos c_13]
                      exact ih_ct (k_ct + 1) _ _ hb_ct.1 (by omega) (by rw [ek_ct]; exact nI_1 k_ct) (eb_18.symm.trans (by rw [es_ct, ek_ct]; rfl)) (ct2_mono hI_ct (by omega)) _ _ hP hS ls (lv_sub hl [4, 5, 0] rfl)
                    · exact absurd (by decide) c_17
                · exact absurd (by decide) c_15
              · exact absurd (by decide) c_14
            · refine lv_iconst (v := 1) hx hb dR_cut_62 (by decide) ?_
              refine lv_goto (tgt := 67) hx hb dR_cut_63 (by decide) ?_
              refine lv_istore (lv' := [(5, .int 1), (4, .int 0), (3, .int (v_ct + 1)), (0, .ref (ad 35)), (1, .int a0), (2, .int v_ct)]) hx hb dR_cut_67 hl (by decide) rfl (fun ls hl => ?_)
              refine lv_iload hx hb dR_cut_69 (lv_at hl 1 rfl) ?_
              refine lv_if_eq (tgt := 127) hx hb dR_cut_71 (by decide) (fun c_19 => ?_) (fun c_19 => ?_)
              · refine lv_iload hx hb dR_cut_127 (lv_at hl 1 rfl) ?_
                refine lv_if_eq (tgt := 144) hx hb dR_cut_129 (by decide) (fun c_20 => ?_) (fun c_20 => ?_)
                · refine lv_iload hx hb dR_cut_144 (lv_at hl 1 rfl) ?_
                  refine lv_if_ne (tgt := 161) hx hb dR_cut_146 (by decide) (fun c_21 => ?_) (fun c_21 => ?_)
                  · exact absurd (by decide) c_21
                  · refine lv_iload hx hb dR_cut_149 (lv_at hl 0 rfl) ?_
                    refine lv_if_eq (tgt := 161) hx hb dR_cut_151 (by decide) (fun c_22 => ?_) (fun c_22 => ?_)
                    · exact absurd c_22 (by decide)
                    · refine lv_aload_n hx hb dR_cut_154 rfl (lv_at hl 3 rfl) ?_
                      refine lv_iload_n hx hb dR_cut_155 rfl (lv_at hl 2 rfl) ?_
                      refine lv_iload_n hx hb dR_cut_156 rfl (lv_at hl 5 rfl) ?_
                      refine lv_iload_n hx hb dR_cut_157 rfl (lv_at hl 4 rfl) ?_
                      refine g_runV (va_runV (C := RR) (As := [.int (v_ct + 1), .int v_ct, .int a0]) (rest := []) ⟨hx, hb, hml, hown, hts⟩ (c_rbetween l hinj σ_ct τ _  (v_ct + 1) v_ct a0 (ct_d hb_ct.1 hn ek_ct) (ct_c hb_ct.1 hn ek_ct) (ct_f0 hI_ct hb_ct.1 (cl4 hn)) (ct_ne (σ := σ_ct) rfl c_13 c_12)) (qV 3 ht tw_576 tw_578 ts_R_between tw_6 tk_R_between rfl rfl (by decide +kernel) ⟨(Nat.le_of_ble_eq_true rfl), (Nat.le_of_ble_eq_true rfl)⟩) (g_pv (ci := 5) hK hP (by decide) rfl kR rfl) rfl rfl hl.1 rfl (lv_room (Nat.le_of_ble_eq_true rfl)) dR_cut_158 ⟨Nat.zero_le _, Nat.zero_le _⟩) hS (fun q _ h => gA_mono hS.1 q h) (fun q h => gA_mono hS.1 q h) (fun H locs hP hz hS => ?_)
                      refine lv_iinc (v := (v_ct + 1)) (lv' := [(2, .int (v_ct + 1)), (5, .int 1), (4, .int 0), (3, .int (v_ct + 1)), (0, .ref (ad 35)), (1, .int a0)]) hx hb dR_cut_161 hl (k := 5) rfl rfl (by decide) rfl (fun ls hl => ?_)
                      refine lv_goto (tgt := 7) hx hb dR_cut_164 (by decide) ?_
                      have eb_23 : B_ct σ a0 σ_ct v_ct = (s_rbetween σ_ct  (v_ct + 1) v_ct a0) := by unfold B_ct; rw [if_neg c_11, if_pos c_12, if_neg c_13]
                      exact ih_ct (k_ct + 1) _ _ hb_ct.1 (by omega) (by rw [ek_ct]; exact nI_1 k_ct) (eb_23.symm.trans (by rw [es_ct, ek_ct]; rfl)) (ct2_mono (ct2_inc hI_ct (by have := hb_ct.1; have := cl4 hn; omega) rb_7 rb_9) (by omega)) _ _ hP hS ls (lv_sub hl [4, 5, 0] rfl)
                · exact absurd (by decide) c_20
              · exact absurd (by decide) c_19
          · refine lv_iconst (v := 1) hx hb dR_cut_44 (by decide) ?_
            refine lv_goto (tgt := 49) hx hb dR_cut_45 (by decide) ?_
            refine lv_istore (lv' := [(4, .int 1), (3, .int (v_ct + 1)), (0, .ref (ad 35)), (1, .int a0), (2, .int v_ct)]) hx hb dR_cut_49 hl (by decide) rfl (fun ls hl => ?_)
            refine lv_aload_n hx hb dR_cut_51 rfl (lv_at hl 2 rfl) ?_
            refine lv_iload_n hx hb dR_cut_52 rfl (lv_at hl 1 rfl) ?_
            refine lv_iload_n hx hb dR_cut_53 rfl (lv_at hl 3 rfl) ?_
            refine g_pure (v := .long (f_rinside σ_ct  (v_ct + 1) a0)) (va_runV (C := RR) (As := [.int (v_ct + 1), .int a0]) (rest := []) ⟨hx, hb, hml, hown, hts⟩ (c_rinside l hinj σ_ct τ _  (v_ct + 1) a0 (ct_d hb_ct.1 hn ek_ct)) (qV 2 ht tw_571 tw_573 ts_R_inside tw_6 tk_R_inside rfl rfl (by decide +kernel) ⟨(Nat.le_of_ble_eq_true rfl), (Nat.le_of_ble_eq_true rfl)⟩) (g_pv (ci := 5) hK hP (by decide) rfl kR rfl) rfl rfl hl.1 rfl (lv_room (Nat.le_of_ble_eq_true rfl)) dR_cut_54 ⟨Nat.zero_le _, Nat.zero_le _⟩) ?_
            refine lv_lconst (v := 0) hx hb dR_cut_57 (by decide) ?_
            refine W.lcmp hx hb dR_cut_58 ?_
            refine lv_if_lt (tgt := 66) hx hb dR_cut_59 (by decide) (fun c_24 => ?_) (fun c_24 => ?_)
            · refine lv_iconst (v := 0) hx hb dR_cut_66 (by decide) ?_
              refine lv_istore (lv' := [(5, .int 0), (4, .int 1), (3, .int (v_ct + 1)), (0, .ref (ad 35)), (1, .int a0), (2, .int v_ct)]) hx hb dR_cut_67 hl (by decide) rfl (fun ls hl => ?_)
              refine lv_iload hx hb dR_cut_69 (lv_at hl 1 rfl) ?_
              refine lv_if_eq (tgt := 127) hx hb dR_cut_71 (by decide) (fun c_25 => ?_) (fun c_25 => ?_)
              · exact absurd c_25 (by decide)
              · refine lv_iconst (v := 0) hx hb dR_cut_74 (by decide) ?_
                refine lv_istore (lv' := [(6, .int 0), (5, .int 0), (4, .int 1), (3, .int (v_ct + 1)), (0, .ref (ad 35)), (1, .int a0), (2, .int v_ct)]) hx hb dR_cut_75 hl (by decide) rfl (fun ls hl => ?_)
                have lp_cq : ∀ (n k_cq : Nat) (v_cq : Int32) (σ_cq : Nat → Nat → Int32), k_cq ≤ 32 → 32 + 1 ≤ k_cq + n → v_cq = nI k_cq → σ_cq = L_cq σ a0 σ_ct v_ct σ_ct k_cq → σ_cq 35 9 = σ_ct 35 9 ∧ σ_cq 35 7 = σ_ct 35 7 ∧ σ_cq 40 = σ_ct 40 → ∀ (H : Heap) (locs : List Loc), va_P D vwCl (gW cs ad σ_cq τ) H → va_S (gA NC ad s.heap.size) s.heap H locs → ∀ ls : Array Slot, lv_has ls 7 [(0, .ref (ad 35)), (1, .int a0), (2, .int v_ct), (3, .int (v_ct + 1)), (4, .int 1), (5, .int 0), (6, .int v_cq)] → W p l e (headSpec (wsB kR_cut) ({ frames := 2, cells := 0, slots := 0, locals := 59 } : Room)).room s m ([.ref (ad 35), .int a0] : List Value).toArray below meth c H locs 0 0 (MQ below (gQ none (gB D cs ad (s_rcut σ a0) τ) (gA NC ad s.heap.size)) ([.ref (ad 35), .int a0] : List Value).toArray s 0 0 (gA NC ad s.heap.size)) (F0 m 77 ls []) := by
                  intro n
                  induction n with
                  | zero => intro k_cq v_cq σ_cq h1 h2; exact absurd h2 (by omega)
                  | succ n ih_cq =>
                    intro k_cq v_cq σ_cq hk_cq hn_cq ek_cq es_cq hI_cq H locs hP hS ls hl
                    refine lv_iload hx hb dR_cut_77 (lv_at hl 6 rfl) ?_
                    refine lv_bipush (v := 32) hx hb dR_cut_79 (by decide) ?_
                    refine lv_icmp_ge (tgt := 117) hx hb dR_cut_81 (by decide) (fun c_26 => ?_) (fun c_26 => ?_)
                    · have hk9 := lp_end (N := 32) (by decide) (by decide) hk_cq ek_cq c_26
                      subst hk9
                      refine lv_aload_n hx hb dR_cut_117 rfl (lv_at hl 0 rfl) ?_
                      refine lv_dup hx hb dR_cut_118 rfl ?_
                      refine g_get (ci := 5) (C := RR) (T := TR) (M := 13) (v := .int (σ_cq 35 9)) hx hb ht inR hown hK hP 35 (by decide) kR rfl 9 (by decide) (ht _ tw_461) (fun _ h9 => h9) rfl dR_cut_119 ?_
                      refine lv_iconst (v := 1) hx hb dR_cut_122 (by decide) ?_
                      refine lv_iadd hx hb dR_cut_123 ?_
                      refine g_put (ci := 5) (C := RR) (T := TR) (M := 13) (ty := .int) (x := ((σ_cq 35 9) + 1)) hx hb ht inR tyR tyR_ok nmR hown hK hP hD hS 35 (by decide) (fR ad) (fun r t => kR) rfl 9 (by decide) (ht _ tw_461) (fun _ h9 => h9) rfl (by decide +kernel) rfl rfl (Nat.le_of_ble_eq_true rfl) rfl dR_cut_124 (fun H locs hP hS => ?_)
                      refine lv_iload hx hb dR_cut_127 (lv_at hl 4 rfl) ?_
                      refine lv_if_eq (tgt := 144) hx hb dR_cut_129 (by decide) (fun c_27 => ?_) (fun c_27 => ?_)
                      · exact absurd c_27 (by decide)
                      · refine lv_iload hx hb dR_cut_132 (lv_at hl 5 rfl) ?_
                        refine lv_if_ne (tgt := 144) hx hb dR_cut_134 (by decide) (fun c_28 => ?_) (fun c_28 => ?_)
                        · exact absurd (by decide) c_28
                        · refine lv_aload_n hx hb dR_cut_137 rfl (lv_at hl 0 rfl) ?_
                          refine lv_iload_n hx hb dR_cut_138 rfl (lv_at hl 2 rfl) ?_
                          refine lv_iload_n hx hb dR_cut_139 rfl (lv_at hl 3 rfl) ?_
                          refine lv_iload_n hx hb dR_cut_140 rfl (lv_at hl 1 rfl) ?_
                          refine g_runV (va_runV (C := RR) (As := [.int v_ct, .int (v_ct + 1), .int a0]) (rest := []) ⟨hx, hb, hml, hown, hts⟩ (c_rbetween l hinj (w2 σ_cq 35 9 ((σ_cq 35 9) + 1)) τ _  v_ct (v_ct + 1) a0 (ct_c hb_ct.1 hn ek_ct) (ct_d hb_ct.1 hn ek_ct) (ct_f1 hI_ct hb_ct.1 (cl4 hn) (w2_same.trans (congrArg (· + 1) hI_cq.1))) (ct_ne (σ := σ_ct) ((w2_ne (by decide)).trans hI_cq.2.2) c_12 c_24)) (qV 3 ht tw_576 tw_578 ts_R_between tw_6 tk_R_between rfl rfl (by decide +kernel) ⟨(Nat.le_of_ble_eq_true rfl), (Nat.le_of_ble_eq_true rfl)⟩) (g_pv (ci := 5) hK hP (by decide) rfl kR rfl) rfl rfl hl.1 rfl (lv_room (Nat.le_of_ble_eq_true rfl)) dR_cut_141 ⟨Nat.zero_le _, Nat.zero_le _⟩) hS (fun q _ h => gA_mono hS.1 q h) (fun q h => gA_mono hS.1 q h) (fun H locs hP hz hS => ?_)
                          refine lv_iload hx hb dR_cut_144 (lv_at hl 4 rfl) ?_
                          refine lv_if_ne (tgt := 161) hx hb dR_cut_146 (by decide) (fun c_29 => ?_) (fun c_29 => ?_)
                          · refine lv_iinc (v := (v_ct + 1)) (lv' := [(2, .int (v_ct + 1)), (0, .ref (ad 35)), (1, .int a0), (3, .int (v_ct + 1)), (4, .int 1), (5, .int 0), (6, .int v_cq)]) hx hb dR_cut_161 hl (k := 2) rfl rfl (by decide) rfl (fun ls hl => ?_)
                            refine lv_goto (tgt := 7) hx hb dR_cut_164 (by decide) ?_
                            have eb_30 : B_ct σ a0 σ_ct v_ct = (s_rbetween (w2 σ_cq 35 9 ((σ_cq 35 9) + 1))  v_ct (v_ct + 1) a0) := by unfold B_ct; (try rw [← es_cq]); (try rw [if_neg c_11, if_neg c_12, if_pos c_24]); (try rfl)
                            exact ih_ct (k_ct + 1) _ _ hb_ct.1 (by omega) (by rw [ek_ct]; exact nI_1 k_ct) (eb_30.symm.trans (by rw [es_ct, ek_ct]; rfl)) (ct2_mono (ct2_inc (ct2_inc hI_ct (by have := hb_ct.1; have := cl4 hn; omega) ((w2_off (by decide)).trans hI_cq.2.1) (w2_same.trans (congrArg (· + 1) hI_cq.1))) (by have := hb_ct.1; have := cl4 hn; omega) rb_7 rb_9) (by omega)) _ _ hP hS ls (lv_sub hl [1, 2, 0] rfl)
                          · exact absurd c_29 (by decide)
                    · have hb_cq := lp_body (N := 32) (by decide) (by decide) hk_cq ek_cq c_26
                      refine lv_aload_n hx hb dR_cut_84 rfl (lv_at hl 0 rfl) ?_
                      refine g_get (ci := 5) (C := RR) (T := TR) (M := 13) (v := .ref (ad 41)) hx hb ht inR hown hK hP 35 (by decide) kR rfl 10 (by decide) (ht _ tw_462) (fun _ h9 => h9) rfl dR_cut_85 ?_
                      refine lv_bipush (v := 32) hx hb dR_cut_88 (by decide) ?_
                      refine lv_aload_n hx hb dR_cut_90 rfl (lv_at hl 0 rfl) ?_
                      refine g_get (ci := 5) (C := RR) (T := TR) (M := 13) (v := .int (σ_cq 35 9)) hx hb ht inR hown hK hP 35 (by decide) kR rfl 9 (by decide) (ht _ tw_461) (fun _ h9 => h9) rfl dR_cut_91 ?_
                      refine lv_imul hx hb dR_cut_94 ?_
                      refine lv_iload hx hb dR_cut_95 (lv_at hl 6 rfl) ?_
                      refine lv_iadd hx hb dR_cut_97 ?_
                      refine lv_aload_n hx hb dR_cut_98 rfl (lv_at hl 0 rfl) ?_
                      refine g_get (ci := 5) (C := RR) (T := TR) (M := 13) (v := .ref (ad 40)) hx hb ht inR hown hK hP 35 (by decide) kR rfl 8 (by decide) (ht _ tw_460) (fun _ h9 => h9) rfl dR_cut_99 ?_
                      refine lv_bipush (v := 32) hx hb dR_cut_102 (by decide) ?_
                      refine lv_iload_n hx hb dR_cut_104 rfl (lv_at hl 2 rfl) ?_
                      refine lv_imul hx hb dR_cut_105 ?_
                      refine lv_iload hx hb dR_cut_106 (lv_at hl 6 rfl) ?_
                      refine lv_iadd hx hb dR_cut_108 ?_
                      have hi_31 : vp_in ((32 * v_ct) + v_cq) 256 := (by have l32 : (32 : Int32).toInt = 32 := (by decide); have b0 := hI_ct.2; have b1 := hb_ct; have b2 := hb_cq; have b3 := cl4 hn; have b4 := congrArg Int32.toInt hI_cq.1; rw [vp_in_iff]; (try simp only [Int32.toInt_add, Int32.toInt_sub, Int32.toInt_mul, Int.bmod_def, l32]); omega)
                      refine g_iald hx hb hK hP 40 0 (by decide) (fun r t => kR40) rfl hi_31 dR_cut_109 ?_
                      have hi_32 : vp_in ((32 * (σ_cq 35 9)) + v_cq) 256 := (by have l9 : (9 : Int32).toInt = 9 := (by decide); have l32 : (32 : Int32).toInt = 32 := (by decide); have l35 : (35 : Int32).toInt = 35 := (by decide); have b0 := hI_ct.2; have b1 := hb_ct; have b2 := hb_cq; have b3 := cl4 hn; have b4 := congrArg Int32.toInt hI_cq.1; rw [vp_in_iff]; (try simp only [Int32.toInt_add, Int32.toInt_sub, Int32.toInt_mul, Int.bmod_def, l9, l32, l35]); omega)
                      refine g_iast hx hb hK hP hD hS 41 0 (by decide) (fun r t => kR41) rfl hi_32 dR_cut_110 (fun H locs hP hS => ?_)
                      refine lv_iinc (v := (v_cq + 1)) (lv' := [(6, .int (v_cq + 1)), (0, .ref (ad 35)), (1, .int a0), (2, .int v_ct), (3, .int (v_ct + 1)), (4, .int 1), (5, .int 0)]) hx hb dR_cut_111 hl (k := 6) rfl rfl (by decide) rfl (fun ls hl => ?_)
                      refine lv_goto (tgt := 77) hx hb dR_cut_114 (by decide) ?_
                      have eb_33 : B_cq σ a0 σ_ct v_ct σ_cq v_cq = (w2 σ_cq 41 (((32 * (σ_cq 35 9)) + v_cq).toNatClampNeg) (σ_cq 40 (((32 * v_ct) + v_cq).toNatClampNeg))) := by unfold B_cq; rfl
                      exact ih_cq (k_cq + 1) _ _ hb_cq.1 (by omega) (by rw [ek_cq]; exact nI_1 k_cq) (eb_33.symm.trans (by rw [es_cq, ek_cq]; rfl)) ⟨(congrFun (w2_ne (by decide)) 9).trans hI_cq.1, (congrFun (w2_ne (by decide)) 7).trans hI_cq.2.1, (w2_ne (by decide)).trans hI_cq.2.2⟩ _ _ hP hS ls (lv_sub hl [1, 2, 3, 4, 5, 6, 0] rfl)
                exact lp_cq (32 + 1) 0 0 _ (Nat.zero_le _) (by omega) rfl rfl ⟨rfl, rfl, rfl⟩ _ _ hP hS ls (lv_sub hl [4, 5, 6, 3, 2, 1, 0] rfl)
            · refine lv_iconst (v := 1) hx hb dR_cut_62 (by decide) ?_
              refine lv_goto (tgt := 67) hx hb dR_cut_63 (by decide) ?_
              refine lv_istore (lv' := [(5, .int 1), (4, .int 1), (3, .int (v_ct + 1)), (0, .ref (ad 35)), (1, .int a0), (2, .int v_ct)]) hx hb dR_cut_67 hl (by decide) rfl (fun ls hl => ?_)
              refine lv_iload hx hb dR_cut_69 (lv_at hl 1 rfl) ?_
              refine lv_if_eq (tgt := 127) hx hb dR_cut_71 (by decide) (fun c_34 => ?_) (fun c_34 => ?_)
              · exact absurd c_34 (by decide)
              · refine lv_iconst (v := 0) hx hb dR_cut_74 (by decide) ?_
                refine lv_istore (lv' := [(6, .int 0), (5, .int 1), (4, .int 1), (3, .int (v_ct + 1)), (0, .ref (ad 35)), (1, .int a0), (2, .int v_ct)]) hx hb dR_cut_75 hl (by decide) rfl (fun ls hl => ?_)
                have lp_cq : ∀ (n k_cq : Nat) (v_cq : Int32) (σ_cq : Nat → Nat → Int32), k_cq ≤ 32 → 32 + 1 ≤ k_cq + n → v_cq = nI k_cq → σ_cq = L_cq σ a0 σ_ct v_ct σ_ct k_cq → σ_cq 35 9 = σ_ct 35 9 ∧ σ_cq 35 7 = σ_ct 35 7 ∧ σ_cq 40 = σ_ct 40 → ∀ (H : Heap) (locs : List Loc), va_P D vwCl (gW cs ad σ_cq τ) H → va_S (gA NC ad s.heap.size) s.heap H locs → ∀ ls : Array Slot, lv_has ls 7 [(0, .ref (ad 35)), (1, .int a0), (2, .int v_ct), (3, .int (v_ct + 1)), (4, .int 1), (5, .int 1), (6, .int v_cq)] → W p l e (headSpec (wsB kR_cut) ({ frames := 2, cells := 0, slots := 0, locals := 59 } : Room)).room s m ([.ref (ad 35), .int a0] : List Value).toArray below meth c H locs 0 0 (MQ below (gQ none (gB D cs ad (s_rcut σ a0) τ) (gA NC ad s.heap.size)) ([.ref (ad 35), .int a0] : List Value).toArray s 0 0 (gA NC ad s.heap.size)) (F0 m 77 ls []) := by
                  intro n
                  induction n with
                  | zero => intro k_cq v_cq σ_cq h1 h2; exact absurd h2 (by omega)
                  | succ n ih_cq =>
                    intro k_cq v_cq σ_cq hk_cq hn_cq ek_cq es_cq hI_cq H locs hP hS ls hl
                    refine lv_iload hx hb dR_cut_77 (lv_at hl 6 rfl) ?_
                    refine lv_bipush (v := 32) hx hb dR_cut_79 (by decide) ?_
                    refine lv_icmp_ge (tgt := 117) hx hb dR_cut_81 (by decide) (fun c_35 => ?_) (fun c_35 => ?_)
                    · have hk9 := lp_end (N := 32) (by decide) (by decide) hk_cq ek_cq c_35
                      subst hk9
                      refine lv_aload_n hx hb dR_cut_117 rfl (lv_at hl 0 rfl) ?_
                      refine lv_dup hx hb dR_cut_118 rfl ?_
                      refine g_get (ci := 5) (C := RR) (T := TR) (M := 13) (v := .int (σ_cq 35 9)) hx hb ht inR hown hK hP 35 (by decide) kR rfl 9 (by decide) (ht _ tw_461) (fun _ h9 => h9) rfl dR_cut_119 ?_
                      refine lv_iconst (v := 1) hx hb dR_cut_122 (by decide) ?_
                      refine lv_iadd hx hb dR_cut_123 ?_
                      refine g_put (ci := 5) (C := RR) (T := TR) (M := 13) (ty := .int) (x := ((σ_cq 35 9) + 1)) hx hb ht inR tyR tyR_ok nmR hown hK hP hD hS 35 (by decide) (fR ad) (fun r t => kR) rfl 9 (by decide) (ht _ tw_461) (fun _ h9 => h9) rfl (by decide +kernel) rfl rfl (Nat.le_of_ble_eq_true rfl) rfl dR_cut_124 (fun H locs hP hS => ?_)
                      refine lv_iload hx hb dR_cut_127 (lv_at hl 4 rfl) ?_
                      refine lv_if_eq (tgt := 144) hx hb dR_cut_129 (by decide) (fun c_36 => ?_) (fun c_36 => ?_)
                      · exact absurd c_36 (by decide)
                      · refine lv_iload hx hb dR_cut_132 (lv_at hl 5 rfl) ?_
                        refine lv_if_ne (tgt := 144) hx hb dR_cut_134 (by decide) (fun c_37 => ?_) (fun c_37 => ?_)
                        · refine lv_iload hx hb dR_cut_144 (lv_at hl 4 rfl) ?_
                          refine lv_if_ne (tgt := 161) hx hb dR_cut_146 (by decide) (fun c_38 => ?_) (fun c_38 => ?_)
                          · refine lv_iinc (v := (v_ct + 1)) (lv' := [(2, .int (v_ct + 1)), (0, .ref (ad 35)), (1, .int a0), (3, .int (v_ct + 1)), (4, .int 1), (5, .int 1), (6, .int v_cq)]) hx hb dR_cut_161 hl (k := 2) rfl rfl (by decide) rfl (fun ls hl => ?_)
                            refine lv_goto (tgt := 7) hx hb dR_cut_164 (by decide) ?_
                            have eb_39 : B_ct σ a0 σ_ct v_ct = (w2 σ_cq 35 9 ((σ_cq 35 9) + 1)) := by unfold B_ct; (try rw [← es_cq]); (try rw [if_neg c_11, if_neg c_12, if_neg c_24]); (try rfl)
                            exact ih_ct (k_ct + 1) _ _ hb_ct.1 (by omega) (by rw [ek_ct]; exact nI_1 k_ct) (eb_39.symm.trans (by rw [es_ct, ek_ct]; rfl)) (ct2_mono (ct2_inc hI_ct (by have := hb_ct.1; have := cl4 hn; omega) ((w2_off (by decide)).trans hI_cq.2.1) (w2_same.trans (congrArg (· + 1) hI_cq.1))) (by omega)) _ _ hP hS ls (lv_sub hl [1, 2, 0] rfl)
                          · exact absurd c_38 (by decide)
                        · exact absurd c_37 (by decide)
                    · have hb_cq := lp_body (N := 32) (by decide) (by decide) hk_cq ek_cq c_35
                      refine lv_aload_n hx hb dR_cut_84 rfl (lv_at hl 0 rfl) ?_
                      refine g_get (ci := 5) (C := RR) (T := TR) (M := 13) (v := .ref (ad 41)) hx hb ht inR hown hK hP 35 (by decide) kR rfl 10 (by decide) (ht _ tw_462) (fun _ h9 => h9) rfl dR_cut_85 ?_
                      refine lv_bipush (v := 32) hx hb dR_cut_88 (by decide) ?_
                      refine lv_aload_n hx hb dR_cut_90 rfl (lv_at hl 0 rfl) ?_
                      refine g_get (ci := 5) (C := RR) (T := TR) (M := 13) (v := .int (σ_cq 35 9)) hx hb ht inR hown hK hP 35 (by decide) kR rfl 9 (by decide) (ht _ tw_461) (fun _ h9 => h9) rfl dR_cut_91 ?_
                      refine lv_imul hx hb dR_cut_94 ?_
                      refine lv_iload hx hb dR_cut_95 (lv_at hl 6 rfl) ?_
                      refine lv_iadd hx hb dR_cut_97 ?_
                      refine lv_aload_n hx hb dR_cut_98 rfl (lv_at hl 0 rfl) ?_
                      refine g_get (ci := 5) (C := RR) (T := TR) (M := 13) (v := .ref (ad 40)) hx hb ht inR hown hK hP 35 (by decide) kR rfl 8 (by decide) (ht _ tw_460) (fun _ h9 => h9) rfl dR_cut_99 ?_
                      refine lv_bipush (v := 32) hx hb dR_cut_102 (by decide) ?_
                      refine lv_iload_n hx hb dR_cut_104 rfl (lv_at hl 2 rfl) ?_
                      refine lv_imul hx hb dR_cut_105 ?_
                      refine lv_iload hx hb dR_cut_106 (lv_at hl 6 rfl) ?_
                      refine lv_iadd hx hb dR_cut_108 ?_
                      have hi_40 : vp_in ((32 * v_ct) + v_cq) 256 := (by have l32 : (32 : Int32).toInt = 32 := (by decide); have b0 := hI_ct.2; have b1 := hb_ct; have b2 := hb_cq; have b3 := cl4 hn; have b4 := congrArg Int32.toInt hI_cq.1; rw [vp_in_iff]; (try simp only [Int32.toInt_add, Int32.toInt_sub, Int32.toInt_mul, Int.bmod_def, l32]); omega)
                      refine g_iald hx hb hK hP 40 0 (by decide) (fun r t => kR40) rfl hi_40 dR_cut_109 ?_
                      have hi_41 : vp_in ((32 * (σ_cq 35 9)) + v_cq) 256 := (by have l9 : (9 : Int32).toInt = 9 := (by decide); have l32 : (32 : Int32).toInt = 32 := (by decide); have l35 : (35 : Int32).toInt = 35 := (by decide); have b0 := hI_ct.2; have b1 := hb_ct; have b2 := hb_cq; have b3 := cl4 hn; have b4 := congrArg Int32.toInt hI_cq.1; rw [vp_in_iff]; (try simp only [Int32.toInt_add, Int32.toInt_sub, Int32.toInt_mul, Int.bmod_def, l9, l32, l35]); omega)
                      refine g_iast hx hb hK hP hD hS 41 0 (by decide) (fun r t => kR41) rfl hi_41 dR_cut_110 (fun H locs hP hS => ?_)
                      refine lv_iinc (v := (v_cq + 1)) (lv' := [(6, .int (v_cq + 1)), (0, .ref (ad 35)), (1, .int a0), (2, .int v_ct), (3, .int (v_ct + 1)), (4, .int 1), (5, .int 1)]) hx hb dR_cut_111 hl (k := 6) rfl rfl (by decide) rfl (fun ls hl => ?_)
                      refine lv_goto (tgt := 77) hx hb dR_cut_114 (by decide) ?_
                      have eb_42 : B_cq σ a0 σ_ct v_ct σ_cq v_cq = (w2 σ_cq 41 (((32 * (σ_cq 35 9)) + v_cq).toNatClampNeg) (σ_cq 40 (((32 * v_ct) + v_cq).toNatClampNeg))) := by unfold B_cq; rfl
                      exact ih_cq (k_cq + 1) _ _ hb_cq.1 (by omega) (by rw [ek_cq]; exact nI_1 k_cq) (eb_42.symm.trans (by rw [es_cq, ek_cq]; rfl)) ⟨(congrFun (w2_ne (by decide)) 9).trans hI_cq.1, (congrFun (w2_ne (by decide)) 7).trans hI_cq.2.1, (w2_ne (by decide)).trans hI_cq.2.2⟩ _ _ hP hS ls (lv_sub hl [1, 2, 3, 4, 5, 6, 0] rfl)
                exact lp_cq (32 + 1) 0 0 _ (Nat.zero_le _) (by omega) rfl rfl ⟨rfl, rfl, rfl⟩ _ _ hP hS ls (lv_sub hl [4, 5, 6, 3, 2, 1, 0] rfl)
        · refine lv_iconst (v := 0) hx hb dR_cut_25 (by decide) ?_
          refine lv_goto (tgt := 32) hx hb dR_cut_26 (by decide) ?_
          refine lv_istore_n (lv' := [(3, .int 0), (0, .ref (ad 35)), (1, .int a0), (2, .int v_ct)]) hx hb dR_cut_32 rfl hl (by decide) rfl (fun ls hl => ?_)
          refine lv_aload_n hx hb dR_cut_33 rfl (lv_at hl 1 rfl) ?_
          refine lv_iload_n hx hb dR_cut_34 rfl (lv_at hl 3 rfl) ?_
          refine lv_iload_n hx hb dR_cut_35 rfl (lv_at hl 2 rfl) ?_
          refine g_pure (v := .long (f_rinside σ_ct  v_ct a0)) (va_runV (C := RR) (As := [.int v_ct, .int a0]) (rest := []) ⟨hx, hb, hml, hown, hts⟩ (c_rinside l hinj σ_ct τ _  v_ct a0 (ct_c hb_ct.1 hn ek_ct)) (qV 2 ht tw_571 tw_573 ts_R_inside tw_6 tk_R_inside rfl rfl (by decide +kernel) ⟨(Nat.le_of_ble_eq_true rfl), (Nat.le_of_ble_eq_true rfl)⟩) (g_pv (ci := 5) hK hP (by decide) rfl kR rfl) rfl rfl hl.1 rfl (lv_room (Nat.le_of_ble_eq_true rfl)) dR_cut_36 ⟨Nat.zero_le _, Nat.zero_le _⟩) ?_
          refine lv_lconst (v := 0) hx hb dR_cut_39 (by decide) ?_
          refine W.lcmp hx hb dR_cut_40 ?_
          refine lv_if_lt (tgt := 48) hx hb dR_cut_41 (by decide) (fun c_43 => ?_) (fun c_43 => ?_)
          · refine lv_iconst (v := 0) hx hb dR_cut_48 (by decide) ?_
            refine lv_istore (lv' := [(4, .int 0), (3, .int 0), (0, .ref (ad 35)), (1, .int a0), (2, .int v_ct)]) hx hb dR_cut_49 hl (by decide) rfl (fun ls hl => ?_)
            refine lv_aload_n hx hb dR_cut_51 rfl (lv_at hl 2 rfl) ?_
            refine lv_iload_n hx hb dR_cut_52 rfl (lv_at hl 1 rfl) ?_
            refine lv_iload_n hx hb dR_cut_53 rfl (lv_at hl 3 rfl) ?_
            refine g_pure (v := .long (f_rinside σ_ct  (0 : Int32) a0)) (va_runV (C := RR) (As := [.int 0, .int a0]) (rest := []) ⟨hx, hb, hml, hown, hts⟩ (c_rinside l hinj σ_ct τ _  (0 : Int32) a0 (by decide)) (qV 2 ht tw_571 tw_573 ts_R_inside tw_6 tk_R_inside rfl rfl (by decide +kernel) ⟨(Nat.le_of_ble_eq_true rfl), (Nat.le_of_ble_eq_true rfl)⟩) (g_pv (ci := 5) hK hP (by decide) rfl kR rfl) rfl rfl hl.1 rfl (lv_room (Nat.le_of_ble_eq_true rfl)) dR_cut_54 ⟨Nat.zero_le _, Nat.zero_le _⟩) ?_
            refine lv_lconst (v := 0) hx hb dR_cut_57 (by decide) ?_
            refine W.lcmp hx hb dR_cut_58 ?_
            refine lv_if_lt (tgt := 66) hx hb dR_cut_59 (by decide) (fun c_44 => ?_) (fun c_44 => ?_)
            · refine lv_iconst (v := 0) hx hb dR_cut_66 (by decide) ?_
              refine lv_istore (lv' := [(5, .int 0), (4, .int 0), (3, .int 0), (0, .ref (ad 35)), (1, .int a0), (2, .int v_ct)]) hx hb dR_cut_67 hl (by decide) rfl (fun ls hl => ?_)
              refine lv_iload hx hb dR_cut_69 (lv_at hl 1 rfl) ?_
              refine lv_if_eq (tgt := 127) hx hb dR_cut_71 (by decide) (fun c_45 => ?_) (fun c_45 => ?_)
              · refine lv_iload hx hb dR_cut_127 (lv_at hl 1 rfl) ?_
                refine lv_if_eq (tgt := 144) hx hb dR_cut_129 (by decide) (fun c_46 => ?_) (fun c_46 => ?_)
                · refine lv_iload hx hb dR_cut_144 (lv_at hl 1 rfl) ?_
                  refine lv_if_ne (tgt := 161) hx hb dR_cut_146 (by decide) (fun c_47 => ?_) (fun c_47 => ?_)
                  · exact absurd (by decide) c_47
                  · refine lv_iload hx hb dR_cut_149 (lv_at hl 0 rfl) ?_
                    refine lv_if_eq (tgt := 161) hx hb dR_cut_151 (by decide) (fun c_48 => ?_) (fun c_48 => ?_)
                    · refine lv_iinc (v := (v_ct + 1)) (lv' := [(2, .int (v_ct + 1)), (5, .int 0), (4, .int 0), (3, .int 0), (0, .ref (ad 35)), (1, .int a0)]) hx hb dR_cut_161 hl (k := 5) rfl rfl (by decide) rfl (fun ls hl => ?_)
                      refine lv_goto (tgt := 7) hx hb dR_cut_164 (by decide) ?_
                      have eb_49 : B_ct σ a0 σ_ct v_ct = σ_ct := by unfold B_ct; rw [if_pos c_11, if_pos c_43, if_pos c_44]
                      exact ih_ct (k_ct + 1) _ _ hb_ct.1 (by omega) (by rw [ek_ct]; exact nI_1 k_ct) (eb_49.symm.trans (by rw [es_ct, ek_ct]; rfl)) (ct2_mono hI_ct (by omega)) _ _ hP hS ls (lv_sub hl [4, 5, 0] rfl)
                    · exact absurd (by decide) c_48
                · exact absurd (by decide) c_46
              · exact absurd (by decide) c_45
            · refine lv_iconst (v := 1) hx hb dR_cut_62 (by decide) ?_
              refine lv_goto (tgt := 67) hx hb dR_cut_63 (by decide) ?_
              refine lv_istore (lv' := [(5, .int 1), (4, .int 0), (3, .int 0), (0, .ref (ad 35)), (1, .int a0), (2, .int v_ct)]) hx hb dR_cut_67 hl (by decide) rfl (fun ls hl => ?_)
              refine lv_iload hx hb dR_cut_69 (lv_at hl 1 rfl) ?_
              refine lv_if_eq (tgt := 127) hx hb dR_cut_71 (by decide) (fun c_50 => ?_) (fun c_50 => ?_)
              · refine lv_iload hx hb dR_cut_127 (lv_at hl 1 rfl) ?_
                refine lv_if_eq (tgt := 144) hx hb dR_cut_129 (by decide) (fun c_51 => ?_) (fun c_51 => ?_)
                · refine lv_iload hx hb dR_cut_144 (lv_at hl 1 rfl) ?_
                  refine lv_if_ne (tgt := 161) hx hb dR_cut_146 (by decide) (fun c_52 => ?_) (fun c_52 => ?_)
                  · exact absurd (by decide) c_52
                  · refine lv_iload hx hb dR_cut_149 (lv_at hl 0 rfl) ?_
                    refine lv_if_eq (tgt := 161) hx hb dR_cut_151 (by decide) (fun c_53 => ?_) (fun c_53 => ?_)
                    · exact absurd c_53 (by decide)
                    · refine lv_aload_n hx hb dR_cut_154 rfl (lv_at hl 3 rfl) ?_
                      refine lv_iload_n hx hb dR_cut_155 rfl (lv_at hl 2 rfl) ?_
                      refine lv_iload_n hx hb dR_cut_156 rfl (lv_at hl 5 rfl) ?_
                      refine lv_iload_n hx hb dR_cut_157 rfl (lv_at hl 4 rfl) ?_
                      refine g_runV (va_runV (C := RR) (As := [.int 0, .int v_ct, .int a0]) (rest := []) ⟨hx, hb, hml, hown, hts⟩ (c_rbetween l hinj σ_ct τ _  (0 : Int32) v_ct a0 (by decide) (ct_c hb_ct.1 hn ek_ct) (ct_f0 hI_ct hb_ct.1 (cl4 hn)) (ct_ne (σ := σ_ct) rfl c_44 c_43)) (qV 3 ht tw_576 tw_578 ts_R_between tw_6 tk_R_between rfl rfl (by decide +kernel) ⟨(Nat.le_of_ble_eq_true rfl), (Nat.le_of_ble_eq_true rfl)⟩) (g_pv (ci := 5) hK hP (by decide) rfl kR rfl) rfl rfl hl.1 rfl (lv_room (Nat.le_of_ble_eq_true rfl)) dR_cut_158 ⟨Nat.zero_le _, Nat.zero_le _⟩) hS (fun q _ h => gA_mono hS.1 q h) (fun q h => gA_mono hS.1 q h) (fun H locs hP hz hS => ?_)
                      refine lv_iinc (v := (v_ct + 1)) (lv' := [(2, .int (v_ct + 1)), (5, .int 1), (4, .int 0), (3, .int 0), (0, .ref (ad 35)), (1, .int a0)]) hx hb dR_cut_161 hl (k := 5) rfl rfl (by decide) rfl (fun ls hl => ?_)
                      refine lv_goto (tgt := 7) hx hb dR_cut_164 (by decide) ?_
                      have eb_54 : B_ct σ a0 σ_ct v_ct = (s_rbetween σ_ct  (0 : Int32) v_ct a0) := by unfold B_ct; rw [if_pos c_11, if_pos c_43, if_neg c_44]
                      exact ih_ct (k_ct + 1) _ _ hb_ct.1 (by omega) (by rw [ek_ct]; exact nI_1 k_ct) (eb_54.symm.trans (by rw [es_ct, ek_ct]; rfl)) (ct2_mono (ct2_inc hI_ct (by have := hb_ct.1; have := cl4 hn; omega) rb_7 rb_9) (by omega)) _ _ hP hS ls (lv_sub hl [4, 5, 0] rfl)
                · exact absurd (by decide) c_51
              · exact absurd (by decide) c_50
          · refine lv_iconst (v := 1) hx hb dR_cut_44 (by decide) ?_
            refine lv_goto (tgt := 49) hx hb dR_cut_45 (by decide) ?_
            refine lv_istore (lv' := [(4, .int 1), (3, .int 0), (0, .ref (ad 35)), (1, .int a0), (2, .int v_ct)]) hx hb dR_cut_49 hl (by decide) rfl (fun ls hl => ?_)
            refine lv_aload_n hx hb dR_cut_51 rfl (lv_at hl 2 rfl) ?_
            refine lv_iload_n hx hb dR_cut_52 rfl (lv_at hl 1 rfl) ?_
            refine lv_iload_n hx hb dR_cut_53 rfl (lv_at hl 3 rfl) ?_
            refine g_pure (v := .long (f_rinside σ_ct  (0 : Int32) a0)) (va_runV (C := RR) (As := [.int 0, .int a0]) (rest := []) ⟨hx, hb, hml, hown, hts⟩ (c_rinside l hinj σ_ct τ _  (0 : Int32) a0 (by decide)) (qV 2 ht tw_571 tw_573 ts_R_inside tw_6 tk_R_inside rfl rfl (by decide +kernel) ⟨(Nat.le_of_ble_eq_true rfl), (Nat.le_of_ble_eq_true rfl)⟩) (g_pv (ci := 5) hK hP (by decide) rfl kR rfl) rfl rfl hl.1 rfl (lv_room (Nat.le_of_ble_eq_true rfl)) dR_cut_54 ⟨Nat.zero_le _, Nat.zero_le _⟩) ?_
            refine lv_lconst (v := 0) hx hb dR_cut_57 (by decide) ?_
            refine W.lcmp hx hb dR_cut_58 ?_
            refine lv_if_lt (tgt := 66) hx hb dR_cut_59 (by decide) (fun c_55 => ?_) (fun c_55 => ?_)
            · refine lv_iconst (v := 0) hx hb dR_cut_66 (by decide) ?_
              refine lv_istore (lv' := [(5, .int 0), (4, .int 1), (3, .int 0), (0, .ref (ad 35)), (1, .int a0), (2, .int v_ct)]) hx hb dR_cut_67 hl (by decide) rfl (fun ls hl => ?_)
              refine lv_iload hx hb dR_cut_69 (lv_at hl 1 rfl) ?_
              refine lv_if_eq (tgt := 127) hx hb dR_cut_71 (by decide) (fun c_56 => ?_) (fun c_56 => ?_)
              · exact absurd c_56 (by decide)
              · refine lv_iconst (v := 0) hx hb dR_cut_74 (by decide) ?_
                refine lv_istore (lv' := [(6, .int 0), (5, .int 0), (4, .int 1), (3, .int 0), (0, .ref (ad 35)), (1, .int a0), (2, .int v_ct)]) hx hb dR_cut_75 hl (by decide) rfl (fun ls hl => ?_)
                have lp_cq : ∀ (n k_cq : Nat) (v_cq : Int32) (σ_cq : Nat → Nat → Int32), k_cq ≤ 32 → 32 + 1 ≤ k_cq + n → v_cq = nI k_cq → σ_cq = L_cq σ a0 σ_ct v_ct σ_ct k_cq → σ_cq 35 9 = σ_ct 35 9 ∧ σ_cq 35 7 = σ_ct 35 7 ∧ σ_cq 40 = σ_ct 40 → ∀ (H : Heap) (locs : List Loc), va_P D vwCl (gW cs ad σ_cq τ) H → va_S (gA NC ad s.heap.size) s.heap H locs → ∀ ls : Array Slot, lv_has ls 7 [(0, .ref (ad 35)), (1, .int a0), (2, .int v_ct), (3, .int 0), (4, .int 1), (5, .int 0), (6, .int v_cq)] → W p l e (headSpec (wsB kR_cut) ({ frames := 2, cells := 0, slots := 0, locals := 59 } : Room)).room s m ([.ref (ad 35), .int a0] : List Value).toArray below meth c H locs 0 0 (MQ below (gQ none (gB D cs ad (s_rcut σ a0) τ) (gA NC ad s.heap.size)) ([.ref (ad 35), .int a0] : List Value).toArray s 0 0 (gA NC ad s.heap.size)) (F0 m 77 ls []) := by
                  intro n
                  induction n with
                  | zero => intro k_cq v_cq σ_cq h1 h2; exact absurd h2 (by omega)
                  | succ n ih_cq =>
                    intro k_cq v_cq σ_cq hk_cq hn_cq ek_cq es_cq hI_cq H locs hP hS ls hl
                    refine lv_iload hx hb dR_cut_77 (lv_at hl 6 rfl) ?_
                    refine lv_bipush (v := 32) hx hb dR_cut_79 (by decide) ?_
                    refine lv_icmp_ge (tgt := 117) hx hb dR_cut_81 (by decide) (fun c_57 => ?_) (fun c_57 => ?_)
                    · have hk9 := lp_end (N := 32) (by decide) (by decide) hk_cq ek_cq c_57
                      subst hk9
                      refine lv_aload_n hx hb dR_cut_117 rfl (lv_at hl 0 rfl) ?_
                      refine lv_dup hx hb dR_cut_118 rfl ?_
                      refine g_get (ci := 5) (C := RR) (T := TR) (M := 13) (v := .int (σ_cq 35 9)) hx hb ht inR hown hK hP 35 (by decide) kR rfl 9 (by decide) (ht _ tw_461) (fun _ h9 => h9) rfl dR_cut_119 ?_
                      refine lv_iconst (v := 1) hx hb dR_cut_122 (by decide) ?_
                      refine lv_iadd hx hb dR_cut_123 ?_
                      refine g_put (ci := 5) (C := RR) (T := TR) (M := 13) (ty := .int) (x := ((σ_cq 35 9) + 1)) hx hb ht inR tyR tyR_ok nmR hown hK hP hD hS 35 (by decide) (fR ad) (fun r t => kR) rfl 9 (by decide) (ht _ tw_461) (fun _ h9 => h9) rfl (by decide +kernel) rfl rfl (Nat.le_of_ble_eq_true rfl) rfl dR_cut_124 (fun H locs hP hS => ?_)
                      refine lv_iload hx hb dR_cut_127 (lv_at hl 4 rfl) ?_
                      refine lv_if_eq (tgt := 144) hx hb dR_cut_129 (by decide) (fun c_58 => ?_) (fun c_58 => ?_)
                      · exact absurd c_58 (by decide)
                      · refine lv_iload hx hb dR_cut_132 (lv_at hl 5 rfl) ?_
                        refine lv_if_ne (tgt := 144) hx hb dR_cut_134 (by decide) (fun c_59 => ?_) (fun c_59 => ?_)
                        · exact absurd (by decide) c_59
                        · refine lv_aload_n hx hb dR_cut_137 rfl (lv_at hl 0 rfl) ?_
                          refine lv_iload_n hx hb dR_cut_138 rfl (lv_at hl 2 rfl) ?_
                          refine lv_iload_n hx hb dR_cut_139 rfl (lv_at hl 3 rfl) ?_
                          refine lv_iload_n hx hb dR_cut_140 rfl (lv_at hl 1 rfl) ?_
                          refine g_runV (va_runV (C := RR) (As := [.int v_ct, .int 0, .int a0]) (rest := []) ⟨hx, hb, hml, hown, hts⟩ (c_rbetween l hinj (w2 σ_cq 35 9 ((σ_cq 35 9) + 1)) τ _  v_ct (0 : Int32) a0 (ct_c hb_ct.1 hn ek_ct) (by decide) (ct_f1 hI_ct hb_ct.1 (cl4 hn) (w2_same.trans (congrArg (· + 1) hI_cq.1))) (ct_ne (σ := σ_ct) ((w2_ne (by decide)).trans hI_cq.2.2) c_43 c_55)) (qV 3 ht tw_576 tw_578 ts_R_between tw_6 tk_R_between rfl rfl (by decide +kernel) ⟨(Nat.le_of_ble_eq_true rfl), (Nat.le_of_ble_eq_true rfl)⟩) (g_pv (ci := 5) hK hP (by decide) rfl kR rfl) rfl rfl hl.1 rfl (lv_room (Nat.le_of_ble_eq_true rfl)) dR_cut_141 ⟨Nat.zero_le _, Nat.zero_le _⟩) hS (fun q _ h => gA_mono hS.1 q h) (fun q h => gA_mono hS.1 q h) (fun H locs hP hz hS => ?_)
                          refine lv_iload hx hb dR_cut_144 (lv_at hl 4 rfl) ?_
                          refine lv_if_ne (tgt := 161) hx hb dR_cut_146 (by decide) (fun c_60 => ?_) (fun c_60 => ?_)
                          · refine lv_iinc (v := (v_ct + 1)) (lv' := [(2, .int (v_ct + 1)), (0, .ref (ad 35)), (1, .int a0), (3, .int 0), (4, .int 1), (5, .int 0), (6, .int v_cq)]) hx hb dR_cut_161 hl (k := 2) rfl rfl (by decide) rfl (fun ls hl => ?_)
                            refine lv_goto (tgt := 7) hx hb dR_cut_164 (by decide) ?_
                            have eb_61 : B_ct σ a0 σ_ct v_ct = (s_rbetween (w2 σ_cq 35 9 ((σ_cq 35 9) + 1))  v_ct (0 : Int32) a0) := by unfold B_ct; (try rw [← es_cq]); (try rw [if_pos c_11, if_neg c_43, if_pos c_55]); (try rfl)
                            exact ih_ct (k_ct + 1) _ _ hb_ct.1 (by omega) (by rw [ek_ct]; exact nI_1 k_ct) (eb_61.symm.trans (by rw [es_ct, ek_ct]; rfl)) (ct2_mono (ct2_inc (ct2_inc hI_ct (by have := hb_ct.1; have := cl4 hn; omega) ((w2_off (by decide)).trans hI_cq.2.1) (w2_same.trans (congrArg (· + 1) hI_cq.1))) (by have := hb_ct.1; have := cl4 hn; omega) rb_7 rb_9) (by omega)) _ _ hP hS ls (lv_sub hl [1, 2, 0] rfl)
                          · exact absurd c_60 (by decide)
                    · have hb_cq := lp_body (N := 32) (by decide) (by decide) hk_cq ek_cq c_57
                      refine lv_aload_n hx hb dR_cut_84 rfl (lv_at hl 0 rfl) ?_
                      refine g_get (ci := 5) (C := RR) (T := TR) (M := 13) (v := .ref (ad 41)) hx hb ht inR hown hK hP 35 (by decide) kR rfl 10 (by decide) (ht _ tw_462) (fun _ h9 => h9) rfl dR_cut_85 ?_
                      refine lv_bipush (v := 32) hx hb dR_cut_88 (by decide) ?_
                      refine lv_aload_n hx hb dR_cut_90 rfl (lv_at hl 0 rfl) ?_
                      refine g_get (ci := 5) (C := RR) (T := TR) (M := 13) (v := .int (σ_cq 35 9)) hx hb ht inR hown hK hP 35 (by decide) kR rfl 9 (by decide) (ht _ tw_461) (fun _ h9 => h9) rfl dR_cut_91 ?_
                      refine lv_imul hx hb dR_cut_94 ?_
                      refine lv_iload hx hb dR_cut_95 (lv_at hl 6 rfl) ?_
                      refine lv_iadd hx hb dR_cut_97 ?_
                      refine lv_aload_n hx hb dR_cut_98 rfl (lv_at hl 0 rfl) ?_
                      refine g_get (ci := 5) (C := RR) (T := TR) (M := 13) (v := .ref (ad 40)) hx hb ht inR hown hK hP 35 (by decide) kR rfl 8 (by decide) (ht _ tw_460) (fun _ h9 => h9) rfl dR_cut_99 ?_
                      refine lv_bipush (v := 32) hx hb dR_cut_102 (by decide) ?_
                      refine lv_iload_n hx hb dR_cut_104 rfl (lv_at hl 2 rfl) ?_
                      refine lv_imul hx hb dR_cut_105 ?_
                      refine lv_iload hx hb dR_cut_106 (lv_at hl 6 rfl) ?_
                      refine lv_iadd hx hb dR_cut_108 ?_
                      have hi_62 : vp_in ((32 * v_ct) + v_cq) 256 := (by have l32 : (32 : Int32).toInt = 32 := (by decide); have b0 := hI_ct.2; have b1 := hb_ct; have b2 := hb_cq; have b3 := cl4 hn; have b4 := congrArg Int32.toInt hI_cq.1; rw [vp_in_iff]; (try simp only [Int32.toInt_add, Int32.toInt_sub, Int32.toInt_mul, Int.bmod_def, l32]); omega)
                      refine g_iald hx hb hK hP 40 0 (by decide) (fun r t => kR40) rfl hi_62 dR_cut_109 ?_
                      have hi_63 : vp_in ((32 * (σ_cq 35 9)) + v_cq) 256 := (by have l9 : (9 : Int32).toInt = 9 := (by decide); have l32 : (32 : Int32).toInt = 32 := (by decide); have l35 : (35 : Int32).toInt = 35 := (by decide); have b0 := hI_ct.2; have b1 := hb_ct; have b2 := hb_cq; have b3 := cl4 hn; have b4 := congrArg Int32.toInt hI_cq.1; rw [vp_in_iff]; (try simp only [Int32.toInt_add, Int32.toInt_sub, Int32.toInt_mul, Int.bmod_def, l9, l32, l35]); omega)
                      refine g_iast hx hb hK hP hD hS 41 0 (by decide) (fun r t => kR41) rfl hi_63 dR_cut_110 (fun H locs hP hS => ?_)
                      refine lv_iinc (v := (v_cq + 1)) (lv' := [(6, .int (v_cq + 1)), (0, .ref (ad 35)), (1, .int a0), (2, .int v_ct), (3, .int 0), (4, .int 1), (5, .int 0)]) hx hb dR_cut_111 hl (k := 6) rfl rfl (by decide) rfl (fun ls hl => ?_)
                      refine lv_goto (tgt := 77) hx hb dR_cut_114 (by decide) ?_
                      have eb_64 : B_cq σ a0 σ_ct v_ct σ_cq v_cq = (w2 σ_cq 41 (((32 * (σ_cq 35 9)) + v_cq).toNatClampNeg) (σ_cq 40 (((32 * v_ct) + v_cq).toNatClampNeg))) := by unfold B_cq; rfl
                      exact ih_cq (k_cq + 1) _ _ hb_cq.1 (by omega) (by rw [ek_cq]; exact nI_1 k_cq) (eb_64.symm.trans (by rw [es_cq, ek_cq]; rfl)) ⟨(congrFun (w2_ne (by decide)) 9).trans hI_cq.1, (congrFun (w2_ne (by decide)) 7).trans hI_cq.2.1, (w2_ne (by decide)).trans hI_cq.2.2⟩ _ _ hP hS ls (lv_sub hl [1, 2, 3, 4, 5, 6, 0] rfl)
                exact lp_cq (32 + 1) 0 0 _ (Nat.zero_le _) (by omega) rfl rfl ⟨rfl, rfl, rfl⟩ _ _ hP hS ls (lv_sub hl [4, 5, 6, 3, 2, 1, 0] rfl)
            · refine lv_iconst (v := 1) hx hb dR_cut_62 (by decide) ?_
              refine lv_goto (tgt := 67) hx hb dR_cut_63 (by decide) ?_
              refine lv_istore (lv' := [(5, .int 1), (4, .int 1), (3, .int 0), (0, .ref (ad 35)), (1, .int a0), (2, .int v_ct)]) hx hb dR_cut_67 hl (by decide) rfl (fun ls hl => ?_)
              refine lv_iload hx hb dR_cut_69 (lv_at hl 1 rfl) ?_
              refine lv_if_eq (tgt := 127) hx hb dR_cut_71 (by decide) (fun c_65 => ?_) (fun c_65 => ?_)
              · exact absurd c_65 (by decide)
              · refine lv_iconst (v := 0) hx hb dR_cut_74 (by decide) ?_
                refine lv_istore (lv' := [(6, .int 0), (5, .int 1), (4, .int 1), (3, .int 0), (0, .ref (ad 35)), (1, .int a0), (2, .int v_ct)]) hx hb dR_cut_75 hl (by decide) rfl (fun ls hl => ?_)
                have lp_cq : ∀ (n k_cq : Nat) (v_cq : Int32) (σ_cq : Nat → Nat → Int32), k_cq ≤ 32 → 32 + 1 ≤ k_cq + n → v_cq = nI k_cq → σ_cq = L_cq σ a0 σ_ct v_ct σ_ct k_cq → σ_cq 35 9 = σ_ct 35 9 ∧ σ_cq 35 7 = σ_ct 35 7 ∧ σ_cq 40 = σ_ct 40 → ∀ (H : Heap) (locs : List Loc), va_P D vwCl (gW cs ad σ_cq τ) H → va_S (gA NC ad s.heap.size) s.heap H locs → ∀ ls : Array Slot, lv_has ls 7 [(0, .ref (ad 35)), (1, .int a0), (2, .int v_ct), (3, .int 0), (4, .int 1), (5, .int 1), (6, .int v_cq)] → W p l e (headSpec (wsB kR_cut) ({ frames := 2, cells := 0, slots := 0, locals := 59 } : Room)).room s m ([.ref (ad 35), .int a0] : List Value).toArray below meth c H locs 0 0 (MQ below (gQ none (gB D cs ad (s_rcut σ a0) τ) (gA NC ad s.heap.size)) ([.ref (ad 35), .int a0] : List Value).toArray s 0 0 (gA NC ad s.heap.size)) (F0 m 77 ls []) := by
                  intro n
                  induction n with
                  | zero => intro k_cq v_cq σ_cq h1 h2; exact absurd h2 (by omega)
                  | succ n ih_cq =>
                    intro k_cq v_cq σ_cq hk_cq hn_cq ek_cq es_cq hI_cq H locs hP hS ls hl
                    refine lv_iload hx hb dR_cut_77 (lv_at hl 6 rfl) ?_
                    refine lv_bipush (v := 32) hx hb dR_cut_79 (by decide) ?_
                    refine lv_icmp_ge (tgt := 117) hx hb dR_cut_81 (by decide) (fun c_66 => ?_) (fun c_66 => ?_)
                    · have hk9 := lp_end (N := 32) (by decide) (by decide) hk_cq ek_cq c_66
                      subst hk9
                      refine lv_aload_n hx hb dR_cut_117 rfl (lv_at hl 0 rfl) ?_
                      refine lv_dup hx hb dR_cut_118 rfl ?_
                      refine g_get (ci := 5) (C := RR) (T := TR) (M := 13) (v := .int (σ_cq 35 9)) hx hb ht inR hown hK hP 35 (by decide) kR rfl 9 (by decide) (ht _ tw_461) (fun _ h9 => h9) rfl dR_cut_119 ?_
                      refine lv_iconst (v := 1) hx hb dR_cut_122 (by decide) ?_
                      refine lv_iadd hx hb dR_cut_123 ?_
                      refine g_put (ci := 5) (C := RR) (T := TR) (M := 13) (ty := .int) (x := ((σ_cq 35 9) + 1)) hx hb ht inR tyR tyR_ok nmR hown hK hP hD hS 35 (by decide) (fR ad) (fun r t => kR) rfl 9 (by decide) (ht _ tw_461) (fun _ h9 => h9) rfl (by decide +kernel) rfl rfl (Nat.le_of_ble_eq_true rfl) rfl dR_cut_124 (fun H locs hP hS => ?_)
                      refine lv_iload hx hb dR_cut_127 (lv_at hl 4 rfl) ?_
                      refine lv_if_eq (tgt := 144) hx hb dR_cut_129 (by decide) (fun c_67 => ?_) (fun c_67 => ?_)
                      · exact absurd c_67 (by decide)
                      · refine lv_iload hx hb dR_cut_132 (lv_at hl 5 rfl) ?_
                        refine lv_if_ne (tgt := 144) hx hb dR_cut_134 (by decide) (fun c_68 => ?_) (fun c_68 => ?_)
                        · refine lv_iload hx hb dR_cut_144 (lv_at hl 4 rfl) ?_
                          refine lv_if_ne (tgt := 161) hx hb dR_cut_146 (by decide) (fun c_69 => ?_) (fun c_69 => ?_)
                          · refine lv_iinc (v := (v_ct + 1)) (lv' := [(2, .int (v_ct + 1)), (0, .ref (ad 35)), (1, .int a0), (3, .int 0), (4, .int 1), (5, .int 1), (6, .int v_cq)]) hx hb dR_cut_161 hl (k := 2) rfl rfl (by decide) rfl (fun ls hl => ?_)
                            refine lv_goto (tgt := 7) hx hb dR_cut_164 (by decide) ?_
                            have eb_70 : B_ct σ a0 σ_ct v_ct = (w2 σ_cq 35 9 ((σ_cq 35 9) + 1)) := by unfold B_ct; (try rw [← es_cq]); (try rw [if_pos c_11, if_neg c_43, if_neg c_55]); (try rfl)
                            exact ih_ct (k_ct + 1) _ _ hb_ct.1 (by omega) (by rw [ek_ct]; exact nI_1 k_ct) (eb_70.symm.trans (by rw [es_ct, ek_ct]; rfl)) (ct2_mono (ct2_inc hI_ct (by have := hb_ct.1; have := cl4 hn; omega) ((w2_off (by decide)).trans hI_cq.2.1) (w2_same.trans (congrArg (· + 1) hI_cq.1))) (by omega)) _ _ hP hS ls (lv_sub hl [1, 2, 0] rfl)
                          · exact absurd c_69 (by decide)
                        · exact absurd c_68 (by decide)
                    · have hb_cq := lp_body (N := 32) (by decide) (by decide) hk_cq ek_cq c_66
                      refine lv_aload_n hx hb dR_cut_84 rfl (lv_at hl 0 rfl) ?_
                      refine g_get (ci := 5) (C := RR) (T := TR) (M := 13) (v := .ref (ad 41)) hx hb ht inR hown hK hP 35 (by decide) kR rfl 10 (by decide) (ht _ tw_462) (fun _ h9 => h9) rfl dR_cut_85 ?_
                      refine lv_bipush (v := 32) hx hb dR_cut_88 (by decide) ?_
                      refine lv_aload_n hx hb dR_cut_90 rfl (lv_at hl 0 rfl) ?_
                      refine g_get (ci := 5) (C := RR) (T := TR) (M := 13) (v := .int (σ_cq 35 9)) hx hb ht inR hown hK hP 35 (by decide) kR rfl 9 (by decide) (ht _ tw_461) (fun _ h9 => h9) rfl dR_cut_91 ?_
                      refine lv_imul hx hb dR_cut_94 ?_
                      refine lv_iload hx hb dR_cut_95 (lv_at hl 6 rfl) ?_
                      refine lv_iadd hx hb dR_cut_97 ?_
                      refine lv_aload_n hx hb dR_cut_98 rfl (lv_at hl 0 rfl) ?_
                      refine g_get (ci := 5) (C := RR) (T := TR) (M := 13) (v := .ref (ad 40)) hx hb ht inR hown hK hP 35 (by decide) kR rfl 8 (by decide) (ht _ tw_460) (fun _ h9 => h9) rfl dR_cut_99 ?_
                      refine lv_bipush (v := 32) hx hb dR_cut_102 (by decide) ?_
                      refine lv_iload_n hx hb dR_cut_104 rfl (lv_at hl 2 rfl) ?_
                      refine lv_imul hx hb dR_cut_105 ?_
                      refine lv_iload hx hb dR_cut_106 (lv_at hl 6 rfl) ?_
                      refine lv_iadd hx hb dR_cut_108 ?_
                      have hi_71 : vp_in ((32 * v_ct) + v_cq) 256 := (by have l32 : (32 : Int32).toInt = 32 := (by decide); have b0 := hI_ct.2; have b1 := hb_ct; have b2 := hb_cq; have b3 := cl4 hn; have b4 := congrArg Int32.toInt hI_cq.1; rw [vp_in_iff]; (try simp only [Int32.toInt_add, Int32.toInt_sub, Int32.toInt_mul, Int.bmod_def, l32]); omega)
                      refine g_iald hx hb hK hP 40 0 (by decide) (fun r t => kR40) rfl hi_71 dR_cut_109 ?_
                      have hi_72 : vp_in ((32 * (σ_cq 35 9)) + v_cq) 256 := (by have l9 : (9 : Int32).toInt = 9 := (by decide); have l32 : (32 : Int32).toInt = 32 := (by decide); have l35 : (35 : Int32).toInt = 35 := (by decide); have b0 := hI_ct.2; have b1 := hb_ct; have b2 := hb_cq; have b3 := cl4 hn; have b4 := congrArg Int32.toInt hI_cq.1; rw [vp_in_iff]; (try simp only [Int32.toInt_add, Int32.toInt_sub, Int32.toInt_mul, Int.bmod_def, l9, l32, l35]); omega)
                      refine g_iast hx hb hK hP hD hS 41 0 (by decide) (fun r t => kR41) rfl hi_72 dR_cut_110 (fun H locs hP hS => ?_)
                      refine lv_iinc (v := (v_cq + 1)) (lv' := [(6, .int (v_cq + 1)), (0, .ref (ad 35)), (1, .int a0), (2, .int v_ct), (3, .int 0), (4, .int 1), (5, .int 1)]) hx hb dR_cut_111 hl (k := 6) rfl rfl (by decide) rfl (fun ls hl => ?_)
                      refine lv_goto (tgt := 77) hx hb dR_cut_114 (by decide) ?_
                      have eb_73 : B_cq σ a0 σ_ct v_ct σ_cq v_cq = (w2 σ_cq 41 (((32 * (σ_cq 35 9)) + v_cq).toNatClampNeg) (σ_cq 40 (((32 * v_ct) + v_cq).toNatClampNeg))) := by unfold B_cq; rfl
                      exact ih_cq (k_cq + 1) _ _ hb_cq.1 (by omega) (by rw [ek_cq]; exact nI_1 k_cq) (eb_73.symm.trans (by rw [es_cq, ek_cq]; rfl)) ⟨(congrFun (w2_ne (by decide)) 9).trans hI_cq.1, (congrFun (w2_ne (by decide)) 7).trans hI_cq.2.1, (w2_ne (by decide)).trans hI_cq.2.2⟩ _ _ hP hS ls (lv_sub hl [1, 2, 3, 4, 5, 6, 0] rfl)
                exact lp_cq (32 + 1) 0 0 _ (Nat.zero_le _) (by omega) rfl rfl ⟨rfl, rfl, rfl⟩ _ _ hP hS ls (lv_sub hl [4, 5, 6, 3, 2, 1, 0] rfl)
  exact lp_ct ((σ 35 7).toNatClampNeg + 1) 0 0 _ (Nat.zero_le _) (by omega) rfl rfl ct2_0 _ _ hP hS ls (lv_sub hl [1, 2, 0] rfl)
