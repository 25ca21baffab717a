abbrev b_P_init (cs : Nat → ClassId) (h0 : Nat) : va_W → Prop := fun w1 => ∃ (q : Nat) (r : Nat → Nat), w1 = [(h0, .inr (3, [.ref q, .int 0])), (q, .inl (cs 1, 5, .inr (.inr (.inr (.inr (fun i => if i < 5 then some (r i) else none)))))), (r 0, .inl (cs 0, 32, .inl (fun _ => 0))), (r 1, .inl (cs 0, 32, .inl (fun _ => 0))), (r 2, .inl (cs 0, 32, .inl (fun _ => 0))), (r 3, .inl (cs 0, 32, .inl (fun _ => 0))), (r 4, .inl (cs 0, 32, .inl (fun _ => 0)))]
set_option maxHeartbeats 400000 in
set_option maxRecDepth 100000 in
theorem c_P_init (l : Launch) {D : va_G} {cs : Nat → ClassId} (h0 sz : Nat) : Met l yP_init (wsB kP_init) ({ frames := 1, cells := 6, slots := 165, locals := 20 } : Room) (va_Pc [.ref h0] (cP D cs [(h0, .inr (3, [.null, .int 0]))] sz)) (gQ none (fun H1 => ∃ w1, b_P_init cs h0 w1 ∧ va_P D vwCl w1 H1 ∧ va_D (va_A [(h0, .inr (3, [.null, .int 0]))] sz) w1) (va_A [(h0, .inr (3, [.null, .int 0]))] sz)) 6 165 (va_A [(h0, .inr (3, [.null, .int 0]))] sz) := by
  refine Met.ofW (cc := cP_init) (maxL := 1) (ret := none) (by decide) rfl ?_
  intro p e s m args below meth c s₁ B hml hv
  obtain ⟨rfl, hsz, hP, hK, hD0⟩ := hv
  have hx := B.exec
  have hb := B.bytes
  have hr := B.returns
  have hts := atoms_spec (ws := wsB kP_init) B.pre
  have ht := hbig hts
  have hown : s.vm.findClass RP = some m.cls := findClass_of_methodNamed B.named
  have hlocks := B.notSynchronized
  have hin : meth.name = "<init>" := (name_of_methodNamed B.named B.method).1
  subst hsz
  have hD := hD0.self (sz := s.heap.size)
  generalize hAe : va_A [(h0, .inr (3, [.null, .int 0]))] s.heap.size = A at hD ⊢
  have hA : ∀ q : Nat, s.heap.size ≤ q → A q := fun q h => by rw [← hAe]; exact Or.inr h
  have hS : va_S A s.heap s.heap [] := va_S.rf
  have hP : va_P D vwCl [(h0, .inr (3, [.null, .int 0]))] s.heap := hP
  have hl := lv_entry ([.ref h0]) (n := 1) (Nat.le_of_ble_eq_true rfl)
  rw [lg_entry_eq]
  generalize (lg_sl ([.ref h0]) ++ List.replicate (1 - (lg_sl ([.ref h0])).length) Slot.unset).toArray = ls at hl ⊢
  have hl : lv_has ls 1 [(0, .ref h0)] := hl
  refine lv_aload_n hx hb dP_init_0 rfl (lv_at hl 0 rfl) ?_
  refine W.objInit hx hb hown (ht _ tw_58) (ht _ tw_20) (ht _ tObj) rfl (by rw [hml]; exact hl.1) rfl dP_init_1 (Nat.le_of_ble_eq_true rfl) (Nat.le_of_ble_eq_true rfl) ?_
  refine W.eq (g2 := F0 m 4 ls []) rfl ?_
  refine lv_aload_n hx hb dP_init_4 rfl (lv_at hl 0 rfl) ?_
  refine lv_iconst (v := 5) hx hb dP_init_5 (by decide) ?_
  refine lv_bipush (v := 32) hx hb dP_init_6 (by decide) ?_
  refine va_mna (X := [(h0, .inr (3, [.null, .int 0]))]) (L := []) (f := fun _ => .inl (cs 0, 32, .inl (fun _ => 0))) (ty := .int) (cy := cs 0) (z := (32, .inl (fun _ => 0))) (N' := 5) (K' := 32) hx hb hown (by rw [show ("[" ++ (FieldType.array FieldType.int).toString) = "[[I" by decide]; exact ht _ tw_59) (show va_AOA .int s from ht _ tw_60) (ht _ tw_32) (hK.2 0 _ rfl).2 hK hP hD hS hA (by decide) (by decide) (by decide) (by decide) (by decide) (by decide) (by decide) rfl rfl (Nat.le_of_ble_eq_true rfl) (Nat.le_of_ble_eq_true rfl) (fun c9 => arrV_new c9 32 (.int 0)) dP_init_8 (fun q_1 r_2 cA_3 H hri hrL hK9 hP hD hS => ?_)
  have e9 := arr_arr hK hK9
  subst e9
  rw [← vr_rows (L := []) (fun a _ h => absurd h List.not_mem_nil)] at hP hD
  have hP : va_P D vwCl [(h0, .inr (3, [.null, .int 0])), (q_1, .inl (cs 1, 5, .inr (.inr (.inr (.inr (fun i => if i < 5 then some (r_2 i) else none)))))), (r_2 0, .inl (cs 0, 32, .inl (fun _ => 0))), (r_2 1, .inl (cs 0, 32, .inl (fun _ => 0))), (r_2 2, .inl (cs 0, 32, .inl (fun _ => 0))), (r_2 3, .inl (cs 0, 32, .inl (fun _ => 0))), (r_2 4, .inl (cs 0, 32, .inl (fun _ => 0)))] H := hP
  have hD : va_D A [(h0, .inr (3, [.null, .int 0])), (q_1, .inl (cs 1, 5, .inr (.inr (.inr (.inr (fun i => if i < 5 then some (r_2 i) else none)))))), (r_2 0, .inl (cs 0, 32, .inl (fun _ => 0))), (r_2 1, .inl (cs 0, 32, .inl (fun _ => 0))), (r_2 2, .inl (cs 0, 32, .inl (fun _ => 0))), (r_2 3, .inl (cs 0, 32, .inl (fun _ => 0))), (r_2 4, .inl (cs 0, 32, .inl (fun _ => 0)))] := hD
  refine va_putF (D := D) (ci := 3) (v := .ref q_1) (ty := .array (.array .int)) (C := RP) (T := TP) (N := 2) hx hb ht inP tyP tyP_ok nmP hown hK hP hD hS 0 rfl rfl 0 (by decide) (ht _ tw_61) (fun _ h9 => h9) rfl hin rfl (by decide +kernel) rfl rfl (Nat.le_of_ble_eq_true rfl) dP_init_12 (fun H locs hP hD hS => ?_)
  have hP : va_P D vwCl [(h0, .inr (3, [.ref q_1, .int 0])), (q_1, .inl (cs 1, 5, .inr (.inr (.inr (.inr (fun i => if i < 5 then some (r_2 i) else none)))))), (r_2 0, .inl (cs 0, 32, .inl (fun _ => 0))), (r_2 1, .inl (cs 0, 32, .inl (fun _ => 0))), (r_2 2, .inl (cs 0, 32, .inl (fun _ => 0))), (r_2 3, .inl (cs 0, 32, .inl (fun _ => 0))), (r_2 4, .inl (cs 0, 32, .inl (fun _ => 0)))] H := hP
  have hD : va_D A [(h0, .inr (3, [.ref q_1, .int 0])), (q_1, .inl (cs 1, 5, .inr (.inr (.inr (.inr (fun i => if i < 5 then some (r_2 i) else none)))))), (r_2 0, .inl (cs 0, 32, .inl (fun _ => 0))), (r_2 1, .inl (cs 0, 32, .inl (fun _ => 0))), (r_2 2, .inl (cs 0, 32, .inl (fun _ => 0))), (r_2 3, .inl (cs 0, 32, .inl (fun _ => 0))), (r_2 4, .inl (cs 0, 32, .inl (fun _ => 0)))] := hD
  refine W.widen (k := 6) (n := 165) (Nat.le_of_ble_eq_true rfl) (Nat.le_of_ble_eq_true rfl) ?_
  exact W.vret hx hb hr (fun t ht9 hW => ⟨rfl, ⟨[(h0, .inr (3, [.ref q_1, .int 0])), (q_1, .inl (cs 1, 5, .inr (.inr (.inr (.inr (fun i => if i < 5 then some (r_2 i) else none)))))), (r_2 0, .inl (cs 0, 32, .inl (fun _ => 0))), (r_2 1, .inl (cs 0, 32, .inl (fun _ => 0))), (r_2 2, .inl (cs 0, 32, .inl (fun _ => 0))), (r_2 3, .inl (cs 0, 32, .inl (fun _ => 0))), (r_2 4, .inl (cs 0, 32, .inl (fun _ => 0)))], ⟨_, _, rfl⟩, by rw [ht9]; exact hP, hD⟩, hS.F ht9⟩) hS.2.2 dP_init_15
abbrev b_R_init (cs : Nat → ClassId) (h0 : Nat) : va_W → Prop := fun w1 => ∃ (y1 y2 y3 y4 y5 y6 y7 : Nat), w1 = [(h0, .inr (5, [.int 0, .ref y1, .ref y2, .ref y3, .ref y4, .int 0, .int 0, .int 0, .ref y5, .int 0, .ref y6, .int 0, .ref y7])), (y1, .inl (cs 0, 4096, .inl (fun _ => 0))), (y2, .inl (cs 0, 32, .inl (fun _ => 0))), (y3, .inl (cs 0, 96, .inl (fun _ => 0))), (y4, .inl (cs 0, 6, .inl (upd (upd (upd (fun _ => 0) (2 : Int32).toNatClampNeg 1) (3 : Int32).toNatClampNeg 1) (5 : Int32).toNatClampNeg 16777215))), (y5, .inl (cs 0, 256, .inl (fun _ => 0))), (y6, .inl (cs 0, 256, .inl (fun _ => 0))), (y7, .inl (cs 0, 32, .inl (fun _ => 0)))]
set_option maxHeartbeats 400000 in
set_option maxRecDepth 100000 in
theorem c_R_init (l : Launch) {D : va_G} {cs : Nat → ClassId} (h0 sz : Nat) : Met l yR_init (wsB kR_init) ({ frames := 1, cells := 7, slots := 4774, locals := 20 } : Room) (va_Pc [.ref h0] (cP D cs [(h0, .inr (5, [.int 0, .null, .null, .null, .null, .int 0, .int 0, .int 0, .null, .int 0, .null, .int 0, .null]))] sz)) (gQ none (fun H1 => ∃ w1, b_R_init cs h0 w1 ∧ va_P D vwCl w1 H1 ∧ va_D (va_A [(h0, .inr (5, [.int 0, .null, .null, .null, .null, .int 0, .int 0, .int 0, .null, .int 0, .null, .int 0, .null]))] sz) w1) (va_A [(h0, .inr (5, [.int 0, .null, .null, .null, .null, .int 0, .int 0, .int 0, .null, .int 0, .null, .int 0, .null]))] sz)) 7 4774 (va_A [(h0, .inr (5, [.int 0, .null, .null, .null, .null, .int 0, .int 0, .int 0, .null, .int 0, .null, .int 0, .null]))] sz) := by
  refine Met.ofW (cc := cR_init) (maxL := 1) (ret := none) (by decide) rfl ?_
  intro p e s m args below meth c s₁ B hml hv
  obtain ⟨rfl, hsz, hP, hK, hD0⟩ := hv
  have hx := B.exec
  have hb := B.bytes
  have hr := B.returns
  have hts := atoms_spec (ws := wsB kR_init) B.pre
  have ht := hbig hts
  have hown : s.vm.findClass RR = some m.cls := findClass_of_methodNamed B.named
  have hlocks := B.notSynchronized
  have hin : meth.name = "<init>" := (name_of_methodNamed B.named B.method).1
  subst hsz
  have hD := hD0.self (sz := s.heap.size)
  generalize hAe : va_A [(h0, .inr (5, [.int 0, .null, .null, .null, .null, .int 0, .int 0, .int 0, .null, .int 0, .null, .int 0, .null]))] s.heap.size = A at hD ⊢
  have hA : ∀ q : Nat, s.heap.size ≤ q → A q := fun q h => by rw [← hAe]; exact Or.inr h
  have hS : va_S A s.heap s.heap [] := va_S.rf
  have hP : va_P D vwCl [(h0, .inr (5, [.int 0, .null, .null, .null, .null, .int 0, .int 0, .int 0, .null, .int 0, .null, .int 0, .null]))] s.heap := hP
  have hl := lv_entry ([.ref h0]) (n := 1) (Nat.le_of_ble_eq_true rfl)
  rw [lg_entry_eq]
  generalize (lg_sl ([.ref h0]) ++ List.replicate (1 - (lg_sl ([.ref h0])).length) Slot.unset).toArray = ls at hl ⊢
  have hl : lv_has ls 1 [(0, .ref h0)] := hl
  refine lv_aload_n hx hb dR_init_0 rfl (lv_at hl 0 rfl) ?_
  refine W.objInit hx hb hown (ht _ tw_450) (ht _ tw_20) (ht _ tObj) rfl (by rw [hml]; exact hl.1) rfl dR_init_1 (Nat.le_of_ble_eq_true rfl) (Nat.le_of_ble_eq_true rfl) ?_
  refine W.eq (g2 := F0 m 4 ls []) rfl ?_
  refine lv_aload_n hx hb dR_init_4 rfl (lv_at hl 0 rfl) ?_
  refine lv_sipush (v := 4096) hx hb dR_init_5 (by decide) ?_
  refine va_newa (atype := .int) (ty := .int) (a0 := (4096, .inl (fun _ => 0))) (N' := 4096) hx hb (ht _ tw_32) rfl hK hP hD hS hA (fun _ => rfl) (by decide) (by decide) (by decide) (Nat.le_of_ble_eq_true rfl) (Nat.le_of_ble_eq_true rfl) dR_init_8 (fun q_1 cA_2 H hK9 hP hD hS => ?_)
  have e9 := arr_int hK hK9
  subst e9
  have hP : va_P D vwCl [(h0, .inr (5, [.int 0, .null, .null, .null, .null, .int 0, .int 0, .int 0, .null, .int 0, .null, .int 0, .null])), (q_1, .inl (cs 0, 4096, .inl (fun _ => 0)))] H := hP
  have hD : va_D A [(h0, .inr (5, [.int 0, .null, .null, .null, .null, .int 0, .int 0, .int 0, .null, .int 0, .null, .int 0, .null])), (q_1, .inl (cs 0, 4096, .inl (fun _ => 0)))] := hD
  refine va_putF (D := D) (ci := 5) (v := .ref q_1) (ty := .array .int) (C := RR) (T := TR) (N := 13) hx hb ht inR tyR tyR_ok nmR hown hK hP hD hS 0 rfl rfl 1 (by decide) (ht _ tw_453) (fun _ h9 => h9) rfl hin rfl (by decide +kernel) rfl rfl (Nat.le_of_ble_eq_true rfl) dR_init_10 (fun H locs hP hD hS => ?_)
  have hP : va_P D vwCl [(h0, .inr (5, [.int 0, .ref q_1, .null, .null, .null, .int 0, .int 0, .int 0, .null, .int 0, .null, .int 0, .null])), (q_1, .inl (cs 0, 4096, .inl (fun _ => 0)))] H := hP
  have hD : va_D A [(h0, .inr (5, [.int 0, .ref q_1, .null, .null, .null, .int 0, .int 0, .int 0, .null, .int 0, .null, .int 0, .null])), (q_1, .inl (cs 0, 4096, .inl (fun _ => 0)))] := hD
  refine lv_aload_n hx hb dR_init_13 rfl (lv_at hl 0 rfl) ?_
  refine lv_bipush (v := 32) hx hb dR_init_14 (by decide) ?_
  refine va_newa (atype := .int) (ty := .int) (a0 := (32, .inl (fun _ => 0))) (N' := 32) hx hb (ht _ tw_32) rfl hK hP hD hS hA (fun _ => rfl) (by decide) (by decide) (by decide) (Nat.le_of_ble_eq_true rfl) (Nat.le_of_ble_eq_true rfl) dR_init_16 (fun q_3 cA_4 H hK9 hP hD hS => ?_)
  have e9 := arr_int hK hK9
  subst e9
  have hP : va_P D vwCl [(h0, .inr (5, [.int 0, .ref q_1, .null, .null, .null, .int 0, .int 0, .int 0, .null, .int 0, .null, .int 0, .null])), (q_1, .inl (cs 0, 4096, .inl (fun _ => 0))), (q_3, .inl (cs 0, 32, .inl (fun _ => 0)))] H := hP
  have hD : va_D A [(h0, .inr (5, [.int 0, .ref q_1, .null, .null, .null, .int 0, .int 0, .int 0, .null, .int 0, .null, .int 0, .null])), (q_1, .inl (cs 0, 4096, .inl (fun _ => 0))), (q_3, .inl (cs 0, 32, .inl (fun _ => 0)))] := hD
  refine va_putF (D := D) (ci := 5) (v := .ref q_3) (ty := .array .int) (C := RR) (T := TR) (N := 13) hx hb ht inR tyR tyR_ok nmR hown hK hP hD hS 0 rfl rfl 2 (by decide) (ht _ tw_454) (fun _ h9 => h9) rfl hin rfl (by decide +kernel) rfl rfl (Nat.le_of_ble_eq_true rfl) dR_init_18 (fun H locs hP hD hS => ?_)
  have hP : va_P D vwCl [(h0, .inr (5, [.int 0, .ref q_1, .ref q_3, .null, .null, .int 0, .int 0, .int 0, .null, .int 0, .null, .int 0, .null])), (q_1, .inl (cs 0, 4096, .inl (fun _ => 0))), (q_3, .inl (cs 0, 32, .inl (fun _ => 0)))] H := hP
  have hD : va_D A [(h0, .inr (5, [.int 0, .ref q_1, .ref q_3, .null, .null, .int 0, .int 0, .int 0, .null, .int 0, .null, .int 0, .null])), (q_1, .inl (cs 0, 4096, .inl (fun _ => 0))), (q_3, .inl (cs 0, 32, .inl (fun _ => 0)))] := hD
  refine lv_aload_n hx hb dR_init_21 rfl (lv_at hl 0 rfl) ?_
  refine lv_bipush (v := 96) hx hb dR_init_22 (by decide) ?_
  refine va_newa (atype := .int) (ty := .int) (a0 := (96, .inl (fun _ => 0))) (N' := 96) hx hb (ht _ tw_32) rfl hK hP hD hS hA (fun _ => rfl) (by decide) (by decide) (by decide) (Nat.le_of_ble_eq_true rfl) (Nat.le_of_ble_eq_true rfl) dR_init_24 (fun q_5 cA_6 H hK9 hP hD hS => ?_)
  have e9 := arr_int hK hK9
  subst e9
  have hP : va_P D vwCl [(h0, .inr (5, [.int 0, .ref q_1, .ref q_3, .null, .null, .int 0, .int 0, .int 0, .null, .int 0, .null, .int 0, .null])), (q_1, .inl (cs 0, 4096, .inl (fun _ => 0))), (q_3, .inl (cs 0, 32, .inl (fun _ => 0))), (q_5, .inl (cs 0, 96, .inl (fun _ => 0)))] H := hP
  have hD : va_D A [(h0, .inr (5, [.int 0, .ref q_1, .ref q_3, .null, .null, .int 0, .int 0, .int 0, .null, .int 0, .null, .int 0, .null])), (q_1, .inl (cs 0, 4096, .inl (fun _ => 0))), (q_3, .inl (cs 0, 32, .inl (fun _ => 0))), (q_5, .inl (cs 0, 96, .inl (fun _ => 0)))] := hD
  refine va_putF (D := D) (ci := 5) (v := .ref q_5) (ty := .array .int) (C := RR) (T := TR) (N := 13) hx hb ht inR tyR tyR_ok nmR hown hK hP hD hS 0 rfl rfl 3 (by decide) (ht _ tw_455) (fun _ h9 => h9) rfl hin rfl (by decide +kernel) rfl rfl (Nat.le_of_ble_eq_true rfl) dR_init_26 (fun H locs hP hD hS => ?_)
  have hP : va_P D vwCl [(h0, .inr (5, [.int 0, .ref q_1, .ref q_3, .ref q_5, .null, .int 0, .int 0, .int 0, .null, .int 0, .null, .int 0, .null])), (q_1, .inl (cs 0, 4096, .inl (fun _ => 0))), (q_3, .inl (cs 0, 32, .inl (fun _ => 0))), (q_5, .inl (cs 0, 96, .inl (fun _ => 0)))] H := hP
  have hD : va_D A [(h0, .inr (5, [.int 0, .ref q_1, .ref q_3, .ref q_5, .null, .int 0, .int 0, .int 0, .null, .int 0, .null, .int 0, .null])), (q_1, .inl (cs 0, 4096, .inl (fun _ => 0))), (q_3, .inl (cs 0, 32, .inl (fun _ => 0))), (q_5, .inl (cs 0, 96, .inl (fun _ => 0)))] := hD
  refine lv_aload_n hx hb dR_init_29 rfl (lv_at hl 0 rfl) ?_
  refine lv_bipush (v := 6) hx hb dR_init_30 (by decide) ?_
  refine va_newa (atype := .int) (ty := .int) (a0 := (6, .inl (fun _ => 0))) (N' := 6) hx hb (ht _ tw_32) rfl hK hP hD hS hA (fun _ => rfl) (by decide) (by decide) (by decide) (Nat.le_of_ble_eq_true rfl) (Nat.le_of_ble_eq_true rfl) dR_init_32 (fun q_7 cA_8 H hK9 hP hD hS => ?_)
  have e9 := arr_int hK hK9
  subst e9
  have hP : va_P D vwCl [(h0, .inr (5, [.int 0, .ref q_1, .ref q_3, .ref q_5, .null, .int 0, .int 0, .int 0, .null, .int 0, .null, .int 0, .null])), (q_1, .inl (cs 0, 4096, .inl (fun _ => 0))), (q_3, .inl (cs 0, 32, .inl (fun _ => 0))), (q_5, .inl (cs 0, 96, .inl (fun _ => 0))), (q_7, .inl (cs 0, 6, .inl (fun _ => 0)))] H := hP
  have hD : va_D A [(h0, .inr (5, [.int 0, .ref q_1, .ref q_3, .ref q_5, .null, .int 0, .int 0, .int 0, .null, .int 0, .null, .int 0, .null])), (q_1, .inl (cs 0, 4096, .inl (fun _ => 0))), (q_3, .inl (cs 0, 32, .inl (fun _ => 0))), (q_5, .inl (cs 0, 96, .inl (fun _ => 0))), (q_7, .inl (cs 0, 6, .inl (fun _ => 0)))] := hD
  refine va_putF (D := D) (ci := 5) (v := .ref q_7) (ty := .array .int) (C := RR) (T := TR) (N := 13) hx hb ht inR tyR tyR_ok nmR hown hK hP hD hS 0 rfl rfl 4 (by decide) (ht _ tw_456) (fun _ h9 => h9) rfl hin rfl (by decide +kernel) rfl rfl (Nat.le_of_ble_eq_true rfl) dR_init_34 (fun H locs hP hD hS => ?_)
  have hP : va_P D vwCl [(h0, .inr (5, [.int 0, .ref q_1, .ref q_3, .ref q_5, .ref q_7, .int 0, .int 0, .int 0, .null, .int 0, .null, .int 0, .null])), (q_1, .inl (cs 0, 4096, .inl (fun _ => 0))), (q_3, .inl (cs 0, 32, .inl (fun _ => 0))), (q_5, .inl (cs 0, 96, .inl (fun _ => 0))), (q_7, .inl (cs 0, 6, .inl (fun _ => 0)))] H := hP
  have hD : va_D A [(h0, .inr (5, [.int 0, .ref q_1, .ref q_3, .ref q_5, .ref q_7, .int 0, .int 0, .int 0, .null, .int 0, .null, .int 0, .null])), (q_1, .inl (cs 0, 4096, .inl (fun _ => 0))), (q_3, .inl (cs 0, 32, .inl (fun _ => 0))), (q_5, .inl (cs 0, 96, .inl (fun _ => 0))), (q_7, .inl (cs 0, 6, .inl (fun _ => 0)))] := hD
  refine lv_aload_n hx hb dR_init_37 rfl (lv_at hl 0 rfl) ?_
  refine lv_sipush (v := 256) hx hb dR_init_38 (by decide) ?_
  refine va_newa (atype := .int) (ty := .int) (a0 := (256, .inl (fun _ => 0))) (N' := 256) hx hb (ht _ tw_32) rfl hK hP hD hS hA (fun _ => rfl) (by decide) (by decide) (by decide) (Nat.le_of_ble_eq_true rfl) (Nat.le_of_ble_eq_true rfl) dR_init_41 (fun q_9 cA_10 H hK9 hP hD hS => ?_)
  have e9 := arr_int hK hK9
  subst e9
  have hP : va_P D vwCl [(h0, .inr (5, [.int 0, .ref q_1, .ref q_3, .ref q_5, .ref q_7, .int 0, .int 0, .int 0, .null, .int 0, .null, .int 0, .null])), (q_1, .inl (cs 0, 4096, .inl (fun _ => 0))), (q_3, .inl (cs 0, 32, .inl (fun _ => 0))), (q_5, .inl (cs 0, 96, .inl (fun _ => 0))), (q_7, .inl (cs 0, 6, .inl (fun _ => 0))), (q_9, .inl (cs 0, 256, .inl (fun _ => 0)))] H := hP
  have hD : va_D A [(h0, .inr (5, [.int 0, .ref q_1, .ref q_3, .ref q_5, .ref q_7, .int 0, .int 0, .int 0, .null, .int 0, .null, .int 0, .null])), (q_1, .inl (cs 0, 4096, .inl (fun _ => 0))), (q_3, .inl (cs 0, 32, .inl (fun _ => 0))), (q_5, .inl (cs 0, 96, .inl (fun _ => 0))), (q_7, .inl (cs 0, 6, .inl (fun _ => 0))), (q_9, .inl (cs 0, 256, .inl (fun _ => 0)))] := hD
  refine va_putF (D := D) (ci := 5) (v := .ref q_9) (ty := .array .int) (C := RR) (T := TR) (N := 13) hx hb ht inR tyR tyR_ok nmR hown hK hP hD hS 0 rfl rfl 8 (by decide) (ht _ tw_460) (fun _ h9 => h9) rfl hin rfl (by decide +kernel) rfl rfl (Nat.le_of_ble_eq_true rfl) dR_init_43 (fun H locs hP hD hS => ?_)
  have hP : va_P D vwCl [(h0, .inr (5, [.int 0, .ref q_1, .ref q_3, .ref q_5, .ref q_7, .int 0, .int 0, .int 0, .ref q_9, .int 0, .null, .int 0, .null])), (q_1, .inl (cs 0, 4096, .inl (fun _ => 0))), (q_3, .inl (cs 0, 32, .inl (fun _ => 0))), (q_5, .inl (cs 0, 96, .inl (fun _ => 0))), (q_7, .inl (cs 0, 6, .inl (fun _ => 0))), (q_9, .inl (cs 0, 256, .inl (fun _ => 0)))] H := hP
  have hD : va_D A [(h0, .inr (5, [.int 0, .ref q_1, .ref q_3, .ref q_5, .ref q_7, .int 0, .int 0, .int 0, .ref q_9, .int 0, .null, .int 0, .null])), (q_1, .inl (cs 0, 4096, .inl (fun _ => 0))), (q_3, .inl (cs 0, 32, .inl (fun _ => 0))), (q_5, .inl (cs 0, 96, .inl (fun _ => 0))), (q_7, .inl (cs 0, 6, .inl (fun _ => 0))), (q_9, .inl (cs 0, 256, .inl (fun _ => 0)))] := hD
  refine lv_aload_n hx hb dR_init_46 rfl (lv_at hl 0 rfl) ?_
  refine lv_sipush (v := 256) hx hb dR_init_47 (by decide) ?_
  refine va_newa (atype := .int) (ty := .int) (a0 := (256, .inl (fun _ => 0))) (N' := 256) hx hb (ht _ tw_32) rfl hK hP hD hS hA (fun _ => rfl) (by decide) (by decide) (by decide) (Nat.le_of_ble_eq_true rfl) (Nat.le_of_ble_eq_true rfl) dR_init_50 (fun q_11 cA_12 H hK9 hP hD hS => ?_)
  have e9 := arr_int hK hK9
  subst e9
  have hP : va_P D vwCl [(h0, .inr (5, [.int 0, .ref q_1, .ref q_3, .ref q_5, .ref q_7, .int 0, .int 0, .int 0, .ref q_9, .int 0, .null, .int 0, .null])), (q_1, .inl (cs 0, 4096, .inl (fun _ => 0))), (q_3, .inl (cs 0, 32, .inl (fun _ => 0))), (q_5, .inl (cs 0, 96, .inl (fun _ => 0))), (q_7, .inl (cs 0, 6, .inl (fun _ => 0))), (q_9, .inl (cs 0, 256, .inl (fun _ => 0))), (q_11, .inl (cs 0, 256, .inl (fun _ => 0)))] H := hP
  have hD : va_D A [(h0, .inr (5, [.int 0, .ref q_1, .ref q_3, .ref q_5, .ref q_7, .int 0, .int 0, .int 0, .ref q_9, .int 0, .null, .int 0, .null])), (q_1, .inl (cs 0, 4096, .inl (fun _ => 0))), (q_3, .inl (cs 0, 32, .inl (fun _ => 0))), (q_5, .inl (cs 0, 96, .inl (fun _ => 0))), (q_7, .inl (cs 0, 6, .inl (fun _ => 0))), (q_9, .inl (cs 0, 256, .inl (fun _ => 0))), (q_11, .inl (cs 0, 256, .inl (fun _ => 0)))] := hD
  refine va_putF (D := D) (ci := 5) (v := .ref q_11) (ty := .array .int) (C := RR) (T := TR) (N := 13) hx hb ht inR tyR tyR_ok nmR hown hK hP hD hS 0 rfl rfl 10 (by decide) (ht _ tw_462) (fun _ h9 => h9) rfl hin rfl (by decide +kernel) rfl rfl (Nat.le_of_ble_eq_true rfl) dR_init_52 (fun H locs hP hD hS => ?_)
  have hP : va_P D vwCl [(h0, .inr (5, [.int 0, .ref q_1, .ref q_3, .ref q_5, .ref q_7, .int 0, .int 0, .int 0, .ref q_9, .int 0, .ref q_11, .int 0, .null])), (q_1, .inl (cs 0, 4096, .inl (fun _ => 0))), (q_3, .inl (cs 0, 32, .inl (fun _ => 0))), (q_5, .inl (cs 0, 96, .inl (fun _ => 0))), (q_7, .inl (cs 0, 6, .inl (fun _ => 0))), (q_9, .inl (cs 0, 256, .inl (fun _ => 0))), (q_11, .inl (cs 0, 256, .inl (fun _ => 0)))] H := hP
  have hD : va_D A [(h0, .inr (5, [.int 0, .ref q_1, .ref q_3, .ref q_5, .ref q_7, .int 0, .int 0, .int 0, .ref q_9, .int 0, .ref q_11, .int 0, .null])), (q_1, .inl (cs 0, 4096, .inl (fun _ => 0))), (q_3, .inl (cs 0, 32, .inl (fun _ => 0))), (q_5, .inl (cs 0, 96, .inl (fun _ => 0))), (q_7, .inl (cs 0, 6, .inl (fun _ => 0))), (q_9, .inl (cs 0, 256, .inl (fun _ => 0))), (q_11, .inl (cs 0, 256, .inl (fun _ => 0)))] := hD
  refine lv_aload_n hx hb dR_init_55 rfl (lv_at hl 0 rfl) ?_
  refine lv_bipush (v := 32) hx hb dR_init_56 (by decide) ?_
  refine va_newa (atype := .int) (ty := .int) (a0 := (32, .inl (fun _ => 0))) (N' := 32) hx hb (ht _ tw_32) rfl hK hP hD hS hA (fun _ => rfl) (by decide) (by decide) (by decide) (Nat.le_of_ble_eq_true rfl) (Nat.le_of_ble_eq_true rfl) dR_init_58 (fun q_13 cA_14 H hK9 hP hD hS => ?_)
  have e9 := arr_int hK hK9
  subst e9
  have hP : va_P D vwCl [(h0, .inr (5, [.int 0, .ref q_1, .ref q_3, .ref q_5, .ref q_7, .int 0, .int 0, .int 0, .ref q_9, .int 0, .ref q_11, .int 0, .null])), (q_1, .inl (cs 0, 4096, .inl (fun _ => 0))), (q_3, .inl (cs 0, 32, .inl (fun _ => 0))), (q_5, .inl (cs 0, 96, .inl (fun _ => 0))), (q_7, .inl (cs 0, 6, .inl (fun _ => 0))), (q_9, .inl (cs 0, 256, .inl (fun _ => 0))), (q_11, .inl (cs 0, 256, .inl (fun _ => 0))), (q_13, .inl (cs 0, 32, .inl (fun _ => 0)))] H := hP
  have hD : va_D A [(h0, .inr (5, [.int 0, .ref q_1, .ref q_3, .ref q_5, .ref q_7, .int 0, .int 0, .int 0, .ref q_9, .int 0, .ref q_11, .int 0, .null])), (q_1, .inl (cs 0, 4096, .inl (fun _ => 0))), (q_3, .inl (cs 0, 32, .inl (fun _ => 0))), (q_5, .inl (cs 0, 96, .inl (fun _ => 0))), (q_7, .inl (cs 0, 6, .inl (fun _ => 0))), (q_9, .inl (cs 0, 256, .inl (fun _ => 0))), (q_11, .inl (cs 0, 256, .inl (fun _ => 0))), (q_13, .inl (cs 0, 32, .inl (fun _ => 0)))] := hD
  refine va_putF (D := D) (ci := 5) (v := .ref q_13) (ty := .array .int) (C := RR) (T := TR) (N := 13) hx hb ht inR tyR tyR_ok nmR hown hK hP hD hS 0 rfl rfl 12 (by decide) (ht _ tw_464) (fun _ h9 => h9) rfl hin rfl (by decide +kernel) rfl rfl (Nat.le_of_ble_eq_true rfl) dR_init_60 (fun H locs hP hD hS => ?_)
  have hP : va_P D vwCl [(h0, .inr (5, [.int 0, .ref q_1, .ref q_3, .ref q_5, .ref q_7, .int 0, .int 0, .int 0, .ref q_9, .int 0, .ref q_11, .int 0, .ref q_13])), (q_1, .inl (cs 0, 4096, .inl (fun _ => 0))), (q_3, .inl (cs 0, 32, .inl (fun _ => 0))), (q_5, .inl (cs 0, 96, .inl (fun _ => 0))), (q_7, .inl (cs 0, 6, .inl (fun _ => 0))), (q_9, .inl (cs 0, 256, .inl (fun _ => 0))), (q_11, .inl (cs 0, 256, .inl (fun _ => 0))), (q_13, .inl (cs 0, 32, .inl (fun _ => 0)))] H := hP
  have hD : va_D A [(h0, .inr (5, [.int 0, .ref q_1, .ref q_3, .ref q_5, .ref q_7, .int 0, .int 0, .int 0, .ref q_9, .int 0, .ref q_11, .int 0, .ref q_13])), (q_1, .inl (cs 0, 4096, .inl (fun _ => 0))), (q_3, .inl (cs 0, 32, .inl (fun _ => 0))), (q_5, .inl (cs 0, 96, .inl (fun _ => 0))), (q_7, .inl (cs 0, 6, .inl (fun _ => 0))), (q_9, .inl (cs 0, 256, .inl (fun _ => 0))), (q_11, .inl (cs 0, 256, .inl (fun _ => 0))), (q_13, .inl (cs 0, 32, .inl (fun _ => 0)))] := hD
  refine lv_aload_n hx hb dR_init_63 rfl (lv_at hl 0 rfl) ?_
  refine va_get (D := D) (ci := 5) (v := .ref q_7) (C := RR) (T := TR) (N := 13) hx hb ht inR hown hK hP 0 rfl rfl 4 (by decide) (ht _ tw_456) (fun _ h9 => h9) rfl dR_init_64 ?_
  refine lv_iconst (v := 2) hx hb dR_init_67 (by decide) ?_
  refine lv_iconst (v := 1) hx hb dR_init_68 (by decide) ?_
  refine va_iast hx hb hK hP hD hS 4 0 rfl rfl (by unfold vp_in; decide) dR_init_69 (fun H locs hP hD hS => ?_)
  have hP : va_P D vwCl [(h0, .inr (5, [.int 0, .ref q_1, .ref q_3, .ref q_5, .ref q_7, .int 0, .int 0, .int 0, .ref q_9, .int 0, .ref q_11, .int 0, .ref q_13])), (q_1, .inl (cs 0, 4096, .inl (fun _ => 0))), (q_3, .inl (cs 0, 32, .inl (fun _ => 0))), (q_5, .inl (cs 0, 96, .inl (fun _ => 0))), (q_7, .inl (cs 0, 6, .inl (upd (fun _ => 0) (2 : Int32).toNatClampNeg 1))), (q_9, .inl (cs 0, 256, .inl (fun _ => 0))), (q_11, .inl (cs 0, 256, .inl (fun _ => 0))), (q_13, .inl (cs 0, 32, .inl (fun _ => 0)))] H := hP
  have hD : va_D A [(h0, .inr (5, [.int 0, .ref q_1, .ref q_3, .ref q_5, .ref q_7, .int 0, .int 0, .int 0, .ref q_9, .int 0, .ref q_11, .int 0, .ref q_13])), (q_1, .inl (cs 0, 4096, .inl (fun _ => 0))), (q_3, .inl (cs 0, 32, .inl (fun _ => 0))), (q_5, .inl (cs 0, 96, .inl (fun _ => 0))), (q_7, .inl (cs 0, 6, .inl (upd (fun _ => 0) (2 : Int32).toNatClampNeg 1))), (q_9, .inl (cs 0, 256, .inl (fun _ => 0))), (q_11, .inl (cs 0, 256, .inl (fun _ => 0))), (q_13, .inl (cs 0, 32, .inl (fun _ => 0)))] := hD
  refine lv_aload_n hx hb dR_init_70 rfl (lv_at hl 0 rfl) ?_
  refine va_get (D := D) (ci := 5) (v := .ref q_7) (C := RR) (T := TR) (N := 13) hx hb ht inR hown hK hP 0 rfl rfl 4 (by decide) (ht _ tw_456) (fun _ h9 => h9) rfl dR_init_71 ?_
  refine lv_iconst (v := 3) hx hb dR_init_74 (by decide) ?_
  refine lv_iconst (v := 1) hx hb dR_init_75 (by decide) ?_
  refine va_iast hx hb hK hP hD hS 4 0 rfl rfl (by unfold vp_in; decide) dR_init_76 (fun H locs hP hD hS => ?_)
  have hP : va_P D vwCl [(h0, .inr (5, [.int 0, .ref q_1, .ref q_3, .ref q_5, .ref q_7, .int 0, .int 0, .int 0, .ref q_9, .int 0, .ref q_11, .int 0, .ref q_13])), (q_1, .inl (cs 0, 4096, .inl (fun _ => 0))), (q_3, .inl (cs 0, 32, .inl (fun _ => 0))), (q_5, .inl (cs 0, 96, .inl (fun _ => 0))), (q_7, .inl (cs 0, 6, .inl (upd (upd (fun _ => 0) (2 : Int32).toNatClampNeg 1) (3 : Int32).toNatClampNeg 1))), (q_9, .inl (cs 0, 256, .inl (fun _ => 0))), (q_11, .inl (cs 0, 256, .inl (fun _ => 0))), (q_13, .inl (cs 0, 32, .inl (fun _ => 0)))] H := hP
  have hD : va_D A [(h0, .inr (5, [.int 0, .ref q_1, .ref q_3, .ref q_5, .ref q_7, .int 0, .int 0, .int 0, .ref q_9, .int 0, .ref q_11, .int 0, .ref q_13])), (q_1, .inl (cs 0, 4096, .inl (fun _ => 0))), (q_3, .inl (cs 0, 32, .inl (fun _ => 0))), (q_5, .inl (cs 0, 96, .inl (fun _ => 0))), (q_7, .inl (cs 0, 6, .inl (upd (upd (fun _ => 0) (2 : Int32).toNatClampNeg 1) (3 : Int32).toNatClampNeg 1))), (q_9, .inl (cs 0, 256, .inl (fun _ => 0))), (q_11, .inl (cs 0, 256, .inl (fun _ => 0))), (q_13, .inl (cs 0, 32, .inl (fun _ => 0)))] := hD
  refine lv_aload_n hx hb dR_init_77 rfl (lv_at hl 0 rfl) ?_
  refine va_get (D := D) (ci := 5) (v := .ref q_7) (C := RR) (T := TR) (N := 13) hx hb ht inR hown hK hP 0 rfl rfl 4 (by decide) (ht _ tw_456) (fun _ h9 => h9) rfl dR_init_78 ?_
  refine lv_iconst (v := 5) hx hb dR_init_81 (by decide) ?_
  refine lv_ldc (v := 16777215) hx hb hown (ht _ tw_451) dR_init_82 ?_
  refine va_iast hx hb hK hP hD hS 4 0 rfl rfl (by unfold vp_in; decide) dR_init_84 (fun H locs hP hD hS => ?_)
  have hP : va_P D vwCl [(h0, .inr (5, [.int 0, .ref q_1, .ref q_3, .ref q_5, .ref q_7, .int 0, .int 0, .int 0, .ref q_9, .int 0, .ref q_11, .int 0, .ref q_13])), (q_1, .inl (cs 0, 4096, .inl (fun _ => 0))), (q_3, .inl (cs 0, 32, .inl (fun _ => 0))), (q_5, .inl (cs 0, 96, .inl (fun _ => 0))), (q_7, .inl (cs 0, 6, .inl (upd (upd (upd (fun _ => 0) (2 : Int32).toNatClampNeg 1) (3 : Int32).toNatClampNeg 1) (5 : Int32).toNatClampNeg 16777215))), (q_9, .inl (cs 0, 256, .inl (fun _ => 0))), (q_11, .inl (cs 0, 256, .inl (fun _ => 0))), (q_13, .inl (cs 0, 32, .inl (fun _ => 0)))] H := hP
  have hD : va_D A [(h0, .inr (5, [.int 0, .ref q_1, .ref q_3, .ref q_5, .ref q_7, .int 0, .int 0, .int 0, .ref q_9, .int 0, .ref q_11, .int 0, .ref q_13])), (q_1, .inl (cs 0, 4096, .inl (fun _ => 0))), (q_3, .inl (cs 0, 32, .inl (fun _ => 0))), (q_5, .inl (cs 0, 96, .inl (fun _ => 0))), (q_7, .inl (cs 0, 6, .inl (upd (upd (upd (fun _ => 0) (2 : Int32).toNatClampNeg 1) (3 : Int32).toNatClampNeg 1) (5 : Int32).toNatClampNeg 16777215))), (q_9, .inl (cs 0, 256, .inl (fun _ => 0))), (q_11, .inl (cs 0, 256, .inl (fun _ => 0))), (q_13, .inl (cs 0, 32, .inl (fun _ => 0)))] := hD
  refine W.widen (k := 7) (n := 4774) (Nat.le_of_ble_eq_true rfl) (Nat.le_of_ble_eq_true rfl) ?_
  exact W.vret hx hb hr (fun t ht9 hW => ⟨rfl, ⟨[(h0, .inr (5, [.int 0, .ref q_1, .ref q_3, .ref q_5, .ref q_7, .int 0, .int 0, .int 0, .ref q_9, .int 0, .ref q_11, .int 0, .ref q_13])), (q_1, .inl (cs 0, 4096, .inl (fun _ => 0))), (q_3, .inl (cs 0, 32, .inl (fun _ => 0))), (q_5, .inl (cs 0, 96, .inl (fun _ => 0))), (q_7, .inl (cs 0, 6, .inl (upd (upd (upd (fun _ => 0) (2 : Int32).toNatClampNeg 1) (3 : Int32).toNatClampNeg 1) (5 : Int32).toNatClampNeg 16777215))), (q_9, .inl (cs 0, 256, .inl (fun _ => 0))), (q_11, .inl (cs 0, 256, .inl (fun _ => 0))), (q_13, .inl (cs 0, 32, .inl (fun _ => 0)))], ⟨_, _, _, _, _, _, _, rfl⟩, by rw [ht9]; exact hP, hD⟩, hS.F ht9⟩) hS.2.2 dR_init_85
