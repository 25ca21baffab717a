abbrev b_A_init (cs : Nat → ClassId) (h0 : Nat) : va_W → Prop := fun w1 => w1 = [(h0, .inr (2, [.int 0, .int 0, .int 0, .int 0]))]
set_option maxHeartbeats 400000 in
set_option maxRecDepth 100000 in
theorem c_A_init (l : Launch) {D : va_G} {cs : Nat → ClassId} (h0 sz : Nat) : Met l yA_init (wsB kA_init) ({ frames := 1, cells := 0, slots := 0, locals := 20 } : Room) (va_Pc [.ref h0] (cP D cs [(h0, .inr (2, [.int 0, .int 0, .int 0, .int 0]))] sz)) (gQ none (fun H1 => ∃ w1, b_A_init cs h0 w1 ∧ va_P D vwCl w1 H1 ∧ va_D (va_A [(h0, .inr (2, [.int 0, .int 0, .int 0, .int 0]))] sz) w1) (va_A [(h0, .inr (2, [.int 0, .int 0, .int 0, .int 0]))] sz)) 0 0 (va_A [(h0, .inr (2, [.int 0, .int 0, .int 0, .int 0]))] sz) := by
  refine Met.ofW (cc := cA_init) (maxL := 1) (ret := none) (by decide) rfl ?_
  intro p e s m args below meth c s₁ B hml hv
  obtain ⟨rfl, hsz, hP, hK, hD0⟩ := hv
  have hx := B.exec
  have hb := B.bytes
  have hr := B.returns
  have hts := atoms_spec (ws := wsB kA_init) B.pre
  have ht := hbig hts
  have hown : s.vm.findClass RA = some m.cls := findClass_of_methodNamed B.named
  have hlocks := B.notSynchronized
  have hin : meth.name = "<init>" := (name_of_methodNamed B.named B.method).1
  subst hsz
  have hD := hD0.self (sz := s.heap.size)
  generalize hAe : va_A [(h0, .inr (2, [.int 0, .int 0, .int 0, .int 0]))] s.heap.size = A at hD ⊢
  have hA : ∀ q : Nat, s.heap.size ≤ q → A q := fun q h => by rw [← hAe]; exact Or.inr h
  have hS : va_S A s.heap s.heap [] := va_S.rf
  have hP : va_P D vwCl [(h0, .inr (2, [.int 0, .int 0, .int 0, .int 0]))] s.heap := hP
  have hl := lv_entry ([.ref h0]) (n := 1) (Nat.le_of_ble_eq_true rfl)
  rw [lg_entry_eq]
  generalize (lg_sl ([.ref h0]) ++ List.replicate (1 - (lg_sl ([.ref h0])).length) Slot.unset).toArray = ls at hl ⊢
  have hl : lv_has ls 1 [(0, .ref h0)] := hl
  refine lv_aload_n hx hb dA_init_0 rfl (lv_at hl 0 rfl) ?_
  refine W.objInit hx hb hown (ht _ tw_39) (ht _ tw_20) (ht _ tObj) rfl (by rw [hml]; exact hl.1) rfl dA_init_1 (Nat.le_of_ble_eq_true rfl) (Nat.le_of_ble_eq_true rfl) ?_
  refine W.eq (g2 := F0 m 4 ls []) rfl ?_
  refine W.widen (k := 0) (n := 0) (Nat.le_of_ble_eq_true rfl) (Nat.le_of_ble_eq_true rfl) ?_
  exact W.vret hx hb hr (fun t ht9 hW => ⟨rfl, ⟨[(h0, .inr (2, [.int 0, .int 0, .int 0, .int 0]))], rfl, by rw [ht9]; exact hP, hD⟩, hS.F ht9⟩) hS.2.2 dA_init_4
abbrev b_M_init (cs : Nat → ClassId) (h0 : Nat) : va_W → Prop := fun w1 => ∃ q : Nat, w1 = [(h0, .inr (1, [.ref q])), (q, .inl (cs 0, 4096, .inl (fun _ => 0)))]
set_option maxHeartbeats 400000 in
set_option maxRecDepth 100000 in
theorem c_M_init (l : Launch) {D : va_G} {cs : Nat → ClassId} (h0 sz : Nat) : Met l yM_init (wsB kM_init) ({ frames := 1, cells := 1, slots := 4096, locals := 20 } : Room) (va_Pc [.ref h0] (cP D cs [(h0, .inr (1, [.null]))] sz)) (gQ none (fun H1 => ∃ w1, b_M_init cs h0 w1 ∧ va_P D vwCl w1 H1 ∧ va_D (va_A [(h0, .inr (1, [.null]))] sz) w1) (va_A [(h0, .inr (1, [.null]))] sz)) 1 4096 (va_A [(h0, .inr (1, [.null]))] sz) := by
  refine Met.ofW (cc := cM_init) (maxL := 1) (ret := none) (by decide) rfl ?_
  intro p e s m args below meth c s₁ B hml hv
  obtain ⟨rfl, hsz, hP, hK, hD0⟩ := hv
  have hx := B.exec
  have hb := B.bytes
  have hr := B.returns
  have hts := atoms_spec (ws := wsB kM_init) B.pre
  have ht := hbig hts
  have hown : s.vm.findClass RM = some m.cls := findClass_of_methodNamed B.named
  have hlocks := B.notSynchronized
  have hin : meth.name = "<init>" := (name_of_methodNamed B.named B.method).1
  subst hsz
  have hD := hD0.self (sz := s.heap.size)
  generalize hAe : va_A [(h0, .inr (1, [.null]))] s.heap.size = A at hD ⊢
  have hA : ∀ q : Nat, s.heap.size ≤ q → A q := fun q h => by rw [← hAe]; exact Or.inr h
  have hS : va_S A s.heap s.heap [] := va_S.rf
  have hP : va_P D vwCl [(h0, .inr (1, [.null]))] s.heap := hP
  have hl := lv_entry ([.ref h0]) (n := 1) (Nat.le_of_ble_eq_true rfl)
  rw [lg_entry_eq]
  generalize (lg_sl ([.ref h0]) ++ List.replicate (1 - (lg_sl ([.ref h0])).length) Slot.unset).toArray = ls at hl ⊢
  have hl : lv_has ls 1 [(0, .ref h0)] := hl
  refine lv_aload_n hx hb dM_init_0 rfl (lv_at hl 0 rfl) ?_
  refine W.objInit hx hb hown (ht _ tw_27) (ht _ tw_20) (ht _ tObj) rfl (by rw [hml]; exact hl.1) rfl dM_init_1 (Nat.le_of_ble_eq_true rfl) (Nat.le_of_ble_eq_true rfl) ?_
  refine W.eq (g2 := F0 m 4 ls []) rfl ?_
  refine lv_aload_n hx hb dM_init_4 rfl (lv_at hl 0 rfl) ?_
  refine lv_sipush (v := 4096) hx hb dM_init_5 (by decide) ?_
  refine va_newa (atype := .int) (ty := .int) (a0 := (4096, .inl (fun _ => 0))) (N' := 4096) hx hb (ht _ tw_32) rfl hK hP hD hS hA (fun _ => rfl) (by decide) (by decide) (by decide) (Nat.le_of_ble_eq_true rfl) (Nat.le_of_ble_eq_true rfl) dM_init_8 (fun q_1 cA_2 H hK9 hP hD hS => ?_)
  have e9 := arr_int hK hK9
  subst e9
  have hP : va_P D vwCl [(h0, .inr (1, [.null])), (q_1, .inl (cs 0, 4096, .inl (fun _ => 0)))] H := hP
  have hD : va_D A [(h0, .inr (1, [.null])), (q_1, .inl (cs 0, 4096, .inl (fun _ => 0)))] := hD
  refine va_putF (D := D) (ci := 1) (v := .ref q_1) (ty := .array .int) (C := RM) (T := TM) (N := 1) hx hb ht inM tyM tyM_ok nmM hown hK hP hD hS 0 rfl rfl 0 (by decide) (ht _ tw_28) (fun _ h9 => h9) rfl hin rfl (by decide +kernel) rfl rfl (Nat.le_of_ble_eq_true rfl) dM_init_10 (fun H locs hP hD hS => ?_)
  have hP : va_P D vwCl [(h0, .inr (1, [.ref q_1])), (q_1, .inl (cs 0, 4096, .inl (fun _ => 0)))] H := hP
  have hD : va_D A [(h0, .inr (1, [.ref q_1])), (q_1, .inl (cs 0, 4096, .inl (fun _ => 0)))] := hD
  refine W.widen (k := 1) (n := 4096) (Nat.le_of_ble_eq_true rfl) (Nat.le_of_ble_eq_true rfl) ?_
  exact W.vret hx hb hr (fun t ht9 hW => ⟨rfl, ⟨[(h0, .inr (1, [.ref q_1])), (q_1, .inl (cs 0, 4096, .inl (fun _ => 0)))], ⟨_, rfl⟩, by rw [ht9]; exact hP, hD⟩, hS.F ht9⟩) hS.2.2 dM_init_13
abbrev b_S_init (cs : Nat → ClassId) (h0 : Nat) : va_W → Prop := fun w1 => w1 = [(h0, .inr (4, [.int 0, .int 0, .int 1, .int 1, .int 0, .int 16777215]))]
set_option maxHeartbeats 400000 in
set_option maxRecDepth 100000 in
theorem c_S_init (l : Launch) {D : va_G} {cs : Nat → ClassId} (h0 sz : Nat) : Met l yS_init (wsB kS_init) ({ frames := 1, cells := 0, slots := 0, locals := 20 } : Room) (va_Pc [.ref h0] (cP D cs [(h0, .inr (4, [.int 0, .int 0, .int 0, .int 0, .int 0, .int 0]))] sz)) (gQ none (fun H1 => ∃ w1, b_S_init cs h0 w1 ∧ va_P D vwCl w1 H1 ∧ va_D (va_A [(h0, .inr (4, [.int 0, .int 0, .int 0, .int 0, .int 0, .int 0]))] sz) w1) (va_A [(h0, .inr (4, [.int 0, .int 0, .int 0, .int 0, .int 0, .int 0]))] sz)) 0 0 (va_A [(h0, .inr (4, [.int 0, .int 0, .int 0, .int 0, .int 0, .int 0]))] sz) := by
  refine Met.ofW (cc := cS_init) (maxL := 1) (ret := none) (by decide) rfl ?_
  intro p e s m args below meth c s₁ B hml hv
  obtain ⟨rfl, hsz, hP, hK, hD0⟩ := hv
  have hx := B.exec
  have hb := B.bytes
  have hr := B.returns
  have hts := atoms_spec (ws := wsB kS_init) B.pre
  have ht := hbig hts
  have hown : s.vm.findClass RS = some m.cls := findClass_of_methodNamed B.named
  have hlocks := B.notSynchronized
  have hin : meth.name = "<init>" := (name_of_methodNamed B.named B.method).1
  subst hsz
  have hD := hD0.self (sz := s.heap.size)
  generalize hAe : va_A [(h0, .inr (4, [.int 0, .int 0, .int 0, .int 0, .int 0, .int 0]))] s.heap.size = A at hD ⊢
  have hA : ∀ q : Nat, s.heap.size ≤ q → A q := fun q h => by rw [← hAe]; exact Or.inr h
  have hS : va_S A s.heap s.heap [] := va_S.rf
  have hP : va_P D vwCl [(h0, .inr (4, [.int 0, .int 0, .int 0, .int 0, .int 0, .int 0]))] s.heap := hP
  have hl := lv_entry ([.ref h0]) (n := 1) (Nat.le_of_ble_eq_true rfl)
  rw [lg_entry_eq]
  generalize (lg_sl ([.ref h0]) ++ List.replicate (1 - (lg_sl ([.ref h0])).length) Slot.unset).toArray = ls at hl ⊢
  have hl : lv_has ls 1 [(0, .ref h0)] := hl
  refine lv_aload_n hx hb dS_init_0 rfl (lv_at hl 0 rfl) ?_
  refine W.objInit hx hb hown (ht _ tw_75) (ht _ tw_20) (ht _ tObj) rfl (by rw [hml]; exact hl.1) rfl dS_init_1 (Nat.le_of_ble_eq_true rfl) (Nat.le_of_ble_eq_true rfl) ?_
  refine W.eq (g2 := F0 m 4 ls []) rfl ?_
  refine lv_aload_n hx hb dS_init_4 rfl (lv_at hl 0 rfl) ?_
  refine lv_iconst (v := 1) hx hb dS_init_5 (by decide) ?_
  refine va_put (D := D) (ci := 4) (v := .int 1) (ty := .int) (C := RS) (T := TS) (N := 6) hx hb ht inS tyS tyS_ok nmS hown hK hP hD hS 0 rfl rfl 2 (by decide) (ht _ tw_79) (fun _ h9 => h9) rfl (by decide +kernel) rfl rfl (Nat.le_of_ble_eq_true rfl) dS_init_6 (fun H locs hP hD hS => ?_)
  have hP : va_P D vwCl [(h0, .inr (4, [.int 0, .int 0, .int 1, .int 0, .int 0, .int 0]))] H := hP
  have hD : va_D A [(h0, .inr (4, [.int 0, .int 0, .int 1, .int 0, .int 0, .int 0]))] := hD
  refine lv_aload_n hx hb dS_init_9 rfl (lv_at hl 0 rfl) ?_
  refine lv_iconst (v := 1) hx hb dS_init_10 (by decide) ?_
  refine va_put (D := D) (ci := 4) (v := .int 1) (ty := .int) (C := RS) (T := TS) (N := 6) hx hb ht inS tyS tyS_ok nmS hown hK hP hD hS 0 rfl rfl 3 (by decide) (ht _ tw_80) (fun _ h9 => h9) rfl (by decide +kernel) rfl rfl (Nat.le_of_ble_eq_true rfl) dS_init_11 (fun H locs hP hD hS => ?_)
  have hP : va_P D vwCl [(h0, .inr (4, [.int 0, .int 0, .int 1, .int 1, .int 0, .int 0]))] H := hP
  have hD : va_D A [(h0, .inr (4, [.int 0, .int 0, .int 1, .int 1, .int 0, .int 0]))] := hD
  refine lv_aload_n hx hb dS_init_14 rfl (lv_at hl 0 rfl) ?_
  refine lv_ldc (v := 16777215) hx hb hown (ht _ tw_76) dS_init_15 ?_
  refine va_put (D := D) (ci := 4) (v := .int 16777215) (ty := .int) (C := RS) (T := TS) (N := 6) hx hb ht inS tyS tyS_ok nmS hown hK hP hD hS 0 rfl rfl 5 (by decide) (ht _ tw_82) (fun _ h9 => h9) rfl (by decide +kernel) rfl rfl (Nat.le_of_ble_eq_true rfl) dS_init_17 (fun H locs hP hD hS => ?_)
  have hP : va_P D vwCl [(h0, .inr (4, [.int 0, .int 0, .int 1, .int 1, .int 0, .int 16777215]))] H := hP
  have hD : va_D A [(h0, .inr (4, [.int 0, .int 0, .int 1, .int 1, .int 0, .int 16777215]))] := hD
  refine W.widen (k := 0) (n := 0) (Nat.le_of_ble_eq_true rfl) (Nat.le_of_ble_eq_true rfl) ?_
  exact W.vret hx hb hr (fun t ht9 hW => ⟨rfl, ⟨[(h0, .inr (4, [.int 0, .int 0, .int 1, .int 1, .int 0, .int 16777215]))], rfl, by rw [ht9]; exact hP, hD⟩, hS.F ht9⟩) hS.2.2 dS_init_20
