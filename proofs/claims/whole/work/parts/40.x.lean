section ExcA
abbrev xI : String := "java/lang/IndexOutOfBoundsException"
abbrev xA : String := "java/lang/IllegalArgumentException"
abbrev xN : List String := ["java/lang/RuntimeException", "java/lang/Exception"]
theorem xat_I : ∀ w ∈ vx_atS RV 55 xI xN, w ∈ big := by decide +kernel
theorem xat_A : ∀ w ∈ vx_atS RV 66 xA xN, w ∈ big := by decide +kernel
theorem xgo_I : ∀ w ∈ Cond.classLink RV 51 xI :: Cond.initialized xI :: vx_atS RV 55 xI xN, vx_ot w = true := by decide +kernel
theorem xgo_A : ∀ w ∈ Cond.classLink RV 62 xA :: Cond.initialized xA :: vx_atS RV 66 xA xN, vx_ot w = true := by decide +kernel
def strW : List (Nat × String) := [(53, "no such word"), (64, "no such attribute, or below 0"), (67, "no such parts or type"), (73, "no such attribute, part or vertex"), (79, "no such type, or below 0"), (92, "no such mode, or below 0"), (99, "no such mode, triangle or corner"), (107, "no such corner"), (113, "no such corner or varying"), (119, "too far off"), (121, "no such size"), (124, "no such depth"), (128, "no such sides"), (149, "no such triangle"), (159, "no such corner or number")]
/-- what a throw needs of the start -/
def gX (A : Nat → Prop) (U : State) : Prop := (∀ q ∈ strW, ∃ a, vk_R RV q.1 q.2 a U) ∧ vx_Zq Bundle.tN "UNASSIGNED_STACK" Bundle.steD A U U.heap ∧ vx_Zq Bundle.tN "SUPPRESSED_SENTINEL" Bundle.listD A U U.heap ∧ va_Nc xA xI U
def gPX (D : va_G) (cs : Nat → ClassId) (ad : Nat → Nat) (σ : Nat → Nat → Int32) (τ : Nat → Nat → Int64) (sz : Nat) (U : State) : Prop := gP D cs ad σ τ sz U ∧ gX (gA NC ad sz) U
/-- an end that returns where T is 0 -/
def xQ (T : Int32) (ov : Option Value) (B : Heap → Prop) (A : Nat → Prop) : Array Value → State → Outcome → State → Prop := fun a st o t => T = 0 ∧ gQ ov B A a st o t
/-- an end that throws where it is not: nothing that was there has changed -/
def xX (T : Int32) (xn : Int32 → String) : String → State → State → Prop := fun E st t => ¬ T = 0 ∧ E = xn T ∧ st.heap.size ≤ t.heap.size ∧ ∀ q : Nat, q < st.heap.size → t.heap[q]? = st.heap[q]?
theorem gX_at {ad : Nat → Nat} {s U : State} {H : Heap} {locs : List Loc} (h : gX (gA NC ad s.heap.size) s) (hS : va_S (gA NC ad s.heap.size) s.heap H locs) (hU : U.heap = H) (hW : s.WarmedH U.vm) : gX (gA NC ad H.size) U := by
  obtain ⟨h1, h2, h3, h4⟩ := h
  refine ⟨fun q hq => ?_, ?_, ?_, va_Nc.moved hW.alike h4⟩
  · obtain ⟨a, ha⟩ := h1 q hq
    exact ⟨a, vk_R.warm hW ha⟩
  · rw [hU]
    exact vx_Zq.narrow (vx_Zq.moved hW.alike (vx_Zq.kept h2 hS.2.1)) (gA_mono hS.1)
  · rw [hU]
    exact vx_Zq.narrow (vx_Zq.moved hW.alike (vx_Zq.kept h3 hS.2.1)) (gA_mono hS.1)
theorem gPX_blind {av : List Value} {D : va_G} {cs : Nat → ClassId} {ad : Nat → Nat} {σ : Nat → Nat → Int32} {τ : Nat → Nat → Int64} {sz : Nat} : FrameBlind (va_Pc av (gPX D cs ad σ τ sz)) := fun a U g mk q => by
  obtain ⟨q0, ⟨q1, qP, qK⟩, x1, x2, x3, x4⟩ := q
  refine ⟨q0, ⟨q1, qP, va_K.moved (u := U) (U := U.calling g mk a) (Vm.Alike.refl U.vm) qK⟩, fun q hq => ?_, vx_Zq.moved (u := U) (U := U.calling g mk a) (Vm.Alike.refl U.vm) x2, vx_Zq.moved (u := U) (U := U.calling g mk a) (Vm.Alike.refl U.vm) x3, va_Nc.moved (u := U) (U := U.calling g mk a) (Vm.Alike.refl U.vm) x4⟩
  obtain ⟨a9, ha⟩ := x1 q hq
  exact ⟨a9, vk_R.same rfl ha⟩
end ExcA
section ExcB
variable {p : Program} {l : Launch} {e : Env} {R : Room} {s : State} {m : MethodId} {args : Array Value} {below : List Frame} {meth : Method} {c : Code} {H : Heap} {locs : List Loc} {cells slots : Nat} {Q : State → Prop}
variable {mc ms : Nat} {free : Addr → Prop} {A A0 A1 : Nat → Prop} {H0 : Heap} {a : Array Value} {pc : Nat} {ls : Array Slot} {st0 rest As : List Value}
variable {D : va_G} {cs : Nat → ClassId} {ad : Nat → Nat} {σ : Nat → Nat → Int32} {τ : Nat → Nat → Int64}
theorem g_pvX {C : String} {i ci : Nat} {q : vw_C} {fs : List Value} (hK : va_K D vwCl (gt cs) s) (hP : va_P D vwCl (gW cs ad σ τ) H) (hX : gX (gA NC ad s.heap.size) s) (hS : va_S (gA NC ad s.heap.size) s.heap H locs) (hi : i < NC) (hc : vwCl[ci]? = some q) (he : ceW cs ad i (σ i) (τ i) = .inr (ci, fs)) (hq : q.1 = C) : PreV s H C (ad i) (va_Pc (.ref (ad i) :: As) (gPX D cs ad σ τ H.size)) As :=
  ⟨gPX_blind, by rw [← hq]; exact va_recv hK hP hc (by rw [gw_get hi, he]), fun U hU hW => ⟨rfl, ⟨by rw [hU], by rw [hU]; exact hP, va_K.moved hW.alike hK⟩, gX_at hX hS hU hW⟩⟩
theorem g_psX (hK : va_K D vwCl (gt cs) s) (hP : va_P D vwCl (gW cs ad σ τ) H) (hX : gX (gA NC ad s.heap.size) s) (hS : va_S (gA NC ad s.heap.size) s.heap H locs) : PreS s H (va_Pc As (gPX D cs ad σ τ H.size)) As :=
  ⟨gPX_blind, fun U hU hW => ⟨rfl, ⟨by rw [hU], by rw [hU]; exact hP, va_K.moved hW.alike hK⟩, gX_at hX hS hU hW⟩⟩
theorem g_xrun {T : Int32} {xn : Int32 → String} {ov : Option Value} {B : Heap → Prop} (hr : vx_Run p l e R s m args below meth c H locs cells slots mc ms (F0 m pc ls st0) rest (xQ T ov B A1 a) (xX T xn) free) (hS : va_S A0 H0 H locs) (hA : ∀ q, q < H.size → A1 q → A0 q) (hf : ∀ q, free q → A0 q)
    (kx : ∀ (ce : Cell) (q9 : Addr) (H1 : Heap) (locs1 : List Loc), ¬ T = 0 → H.size ≤ H1.size → (∀ q : Nat, q < H.size → H1[q]? = H[q]?) → va_S A0 H0 H1 locs1 → H1[q9]? = some ce → ce.vm = .none → s.vm.findClass (xn T) = some ce.cls → vx_W p l e R s m args below meth c H1 locs1 (cells + mc) (slots + ms) Q (F0 m pc ls rest) q9)
    (kk : ∀ (H1 : Heap) (locs1 : List Loc), T = 0 → B H1 → H.size ≤ H1.size → va_S A0 H0 H1 locs1 → W p l e R s m args below meth c H1 locs1 (cells + mc) (slots + ms) Q (F0 m (pc + 3) ls (ov.toList ++ rest))) : W p l e R s m args below meth c H locs cells slots Q (F0 m pc ls st0) := by
  intro T9 hT X
  rcases hr T9 hT X with ⟨v, st₀, t, T', L, h0, X', hL, e1, e2, ⟨ht0, hv, hb, hF⟩, st⟩ | ⟨q, st₀, t, T', L, E, ce, h0, X', hL, e1, e2, ⟨ht0, hE, hz, hk⟩, hce, hcv, hcl, st⟩
  · cases hv
    obtain ⟨k1, k2, k3⟩ := vx_keep h0 e1 hS hA hf hL hF
    obtain ⟨t2, a1, b1⟩ := kk T'.heap (locs ++ L) ht0 (by rw [e1]; exact hb) k1 k3 T' rfl X'
    exact ⟨t2, st t2 a1, b1⟩
  · have hF : va_F (fun _ => False) st₀ t := ⟨hz, fun q h1 _ => hk q h1⟩
    obtain ⟨k1, k2, k3⟩ := vx_keep (A1 := fun _ => False) h0 e1 hS (fun _ _ h => h.elim) hf hL hF
    subst hE
    obtain ⟨t2, a1, b1⟩ := kx ce q T'.heap (locs ++ L) ht0 k1 (fun q hq => k2 q hq (fun h => h)) k3 (by rw [e1]; exact hce) hcv hcl T' rfl X'
    exact ⟨t2, st.trans a1, b1⟩
theorem gw_kept {H1 : Heap} (hP : va_P D vwCl (gW cs ad σ τ) H) (hk : ∀ q : Nat, q < H.size → H1[q]? = H[q]?) : va_P D vwCl (gW cs ad σ τ) H1 := hP.kept (fun k q hq => hk q.1 (hP k q hq).lt)
end ExcB
