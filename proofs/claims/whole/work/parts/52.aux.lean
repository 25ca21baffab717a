section CtorA
/-- what holds ahead of a constructor -/
def cP (D : va_G) (cs : Nat → ClassId) (W0 : va_W) (sz : Nat) (U : State) : Prop := U.heap.size = sz ∧ va_P D vwCl W0 U.heap ∧ va_K D vwCl (gt cs) U ∧ va_D (fun _ => True) W0
theorem cP_blind {av : List Value} {D : va_G} {cs : Nat → ClassId} {W0 : va_W} {sz : Nat} : FrameBlind (va_Pc av (cP D cs W0 sz)) := fun a U g mk q => by
  obtain ⟨q0, q1, qP, qK, qD⟩ := q
  exact ⟨q0, q1, qP, va_K.moved (u := U) (U := U.calling g mk a) (Vm.Alike.refl U.vm) qK, qD⟩
theorem cP_ps {As : List Value} {D : va_G} {cs : Nat → ClassId} {W0 : va_W} {A : Nat → Prop} {s : State} {H : Heap} (hK : va_K D vwCl (gt cs) s) (hP : va_P D vwCl W0 H) (hD : va_D A W0) : PreS s H (va_Pc As (cP D cs W0 H.size)) As :=
  ⟨cP_blind, fun U hU hW => ⟨rfl, by rw [hU], by rw [hU]; exact hP, va_K.moved hW.alike hK, hD.weaken (fun _ _ _ _ => trivial)⟩⟩
theorem arr_int {D : va_G} {cs : Nat → ClassId} {s : State} {cA : ClassId} (hK : va_K D vwCl (gt cs) s) (h : va_K D vwCl (gt cs ++ [(cA, .int)]) s) : cA = cs 0 :=
  Option.some.inj ((show s.vm.findClass ("[" ++ FieldType.int.toString) = some cA from (h.2 4 _ rfl).2).symm.trans (hK.2 0 _ rfl).2)
theorem arr_arr {D : va_G} {cs : Nat → ClassId} {s : State} {cA : ClassId} (hK : va_K D vwCl (gt cs) s) (h : va_K D vwCl (gt cs ++ [(cA, .array .int)]) s) : cA = cs 1 :=
  Option.some.inj ((show s.vm.findClass ("[" ++ (FieldType.array .int).toString) = some cA from (h.2 4 _ rfl).2).symm.trans (hK.2 1 _ rfl).2)
theorem arr_obj {D : va_G} {cs : Nat → ClassId} {s : State} {cA : ClassId} (hK : va_K D vwCl (gt cs) s) (h : va_K D vwCl (gt cs ++ [(cA, .object "VertexWork$Attribute")]) s) : cA = cs 2 := by
  obtain ⟨-, -, -, -, -, h1⟩ := (h.2 4 _ rfl).2
  obtain ⟨-, -, -, -, -, h2⟩ := (hK.2 2 _ rfl).2
  exact Option.some.inj (h1.symm.trans h2)
theorem arr_long {D : va_G} {cs : Nat → ClassId} {s : State} {cA : ClassId} (hK : va_K D vwCl (gt cs) s) (h : va_K D vwCl (gt cs ++ [(cA, .long)]) s) : cA = cs 3 :=
  Option.some.inj ((show s.vm.findClass ("[" ++ FieldType.long.toString) = some cA from (h.2 4 _ rfl).2).symm.trans (hK.2 3 _ rfl).2)
theorem tObj : (Cond.code Lib.objectInit ⟨#[0xb1]⟩ 1 none) ∈ big := mem_big (i := 21) (by decide +kernel) (by decide +kernel)
variable {p : Program} {l : Launch} {e : Env} {R : Room} {s : State} {m : MethodId} {args : Array Value} {below : List Frame} {meth : Method} {c : Code} {H : Heap} {locs : List Loc} {cells slots : Nat} {Q : State → Prop}
variable {mc ms : Nat} {free : Addr → Prop} {A A0 A1 : Nat → Prop} {H0 : Heap} {a : Array Value} {pc : Nat} {ls : Array Slot} {st0 rest : List Value}
/-- behind a constructor's call: what it made beside the rest -/
theorem c_call {D : va_G} {ws wc wr : va_W} {B : va_W → Prop} (hr : va_Run p l e R s m args below meth c H locs cells slots mc ms (F0 m pc ls st0) rest (gQ none (fun H1 => ∃ w1, B w1 ∧ va_P D vwCl w1 H1 ∧ va_D (va_A wc H.size) w1) (va_A wc H.size) a) (va_A wc H.size)) (hS : va_S A0 H0 H locs) (hP : va_P D vwCl ws H) (hD : va_D A0 ws) (hA : ∀ q, H0.size ≤ q → A0 q) (isC isR : List Nat) (hC : isC.map (fun i => ws[i]?) = wc.map some) (hR : isR.map (fun i => ws[i]?) = wr.map some) (hn : va_nd isR = true) (hdis : ∀ i ∈ isR, i ∉ isC)
    (kk : ∀ (w1 : va_W) (H1 : Heap) (locs1 : List Loc), B w1 → va_P D vwCl (wr ++ w1) H1 → va_D A0 (wr ++ w1) → va_S A0 H0 H1 locs1 → W p l e R s m args below meth c H1 locs1 (cells + mc) (slots + ms) Q (F0 m (pc + 3) ls rest)) : W p l e R s m args below meth c H locs cells slots Q (F0 m pc ls st0) := by
  have hF := va_free hD hS hA isC hC
  refine g_run hr hS (fun q _ h => hF q h) hF (fun H1 locs1 hB hz hk hS1 => ?_)
  obtain ⟨w1, hB1, hP1, hD1⟩ := hB
  obtain ⟨hP2, hD2⟩ := va_join hP hD isC isR hC hR hn hdis hk hF hP1 hD1
  exact kk w1 H1 locs1 hB1 hP2 hD2 hS1
end CtorA
