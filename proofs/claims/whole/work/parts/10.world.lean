/-! ONE WORLD FOR ALL: the cells of the object, of the reference's and of the law's own array, numbered; cell i lies at ad i and holds the ints σ i (and the longs τ i). -/
section WorldA
/-- one place of a table becomes v -/
def w2 (σ : Nat → Nat → Int32) (i k : Nat) (v : Int32) : Nat → Nat → Int32 := fun a b => if a = i ∧ b = k then v else σ a b
theorem w2_row (σ : Nat → Nat → Int32) (i k : Nat) (v : Int32) : w2 σ i k v i = upd (σ i) k v := by
  funext b
  simp [w2, upd]
theorem w2_ne {σ : Nat → Nat → Int32} {i k a : Nat} {v : Int32} (h : a ≠ i) : w2 σ i k v a = σ a := by
  funext b
  simp [w2, h]
theorem w2_same {σ : Nat → Nat → Int32} {i k : Nat} {v : Int32} : w2 σ i k v i k = v := by simp [w2]
theorem w2_off {σ : Nat → Nat → Int32} {i k b : Nat} {v : Int32} (h : b ≠ k) : w2 σ i k v i b = σ i b := by simp [w2, h]
def wl2 (τ : Nat → Nat → Int64) (i k : Nat) (v : Int64) : Nat → Nat → Int64 := fun a b => if a = i ∧ b = k then v else τ a b
theorem wl2_row (τ : Nat → Nat → Int64) (i k : Nat) (v : Int64) : wl2 τ i k v i = vp_updL (τ i) k v := by
  funext b
  simp [wl2, vp_updL]
theorem wl2_ne {τ : Nat → Nat → Int64} {i k a : Nat} {v : Int64} (h : a ≠ i) : wl2 τ i k v a = τ a := by
  funext b
  simp [wl2, h]
/-- a row of a table becomes r -/
def r2 (σ : Nat → Nat → Int32) (i : Nat) (r : Nat → Int32) : Nat → Nat → Int32 := fun a => if a = i then r else σ a
abbrev gC : Type := Nat → (Nat → Int32) → (Nat → Int64) → va_E
def gw (N : Nat) (ad : Nat → Nat) (ce : gC) (σ : Nat → Nat → Int32) (τ : Nat → Nat → Int64) : va_W := (List.range N).map (fun i => (ad i, ce i (σ i) (τ i)))
theorem gw_get {N : Nat} {ad : Nat → Nat} {ce : gC} {σ : Nat → Nat → Int32} {τ : Nat → Nat → Int64} {i : Nat} (h : i < N) : (gw N ad ce σ τ)[i]? = some (ad i, ce i (σ i) (τ i)) := by
  simp [gw, h]
theorem gw_out {N : Nat} {ad : Nat → Nat} {ce : gC} {σ : Nat → Nat → Int32} {τ : Nat → Nat → Int64} {i : Nat} {q : Nat × va_E} (h : (gw N ad ce σ τ)[i]? = some q) : i < N ∧ q = (ad i, ce i (σ i) (τ i)) := by
  have h1 : i < N := by
    rcases Nat.lt_or_ge i N with h2 | h2
    · exact h2
    · simp [gw, Nat.not_lt.mpr h2] at h
  rw [gw_get h1] at h
  exact ⟨h1, (Option.some.inj h).symm⟩
theorem gw_none {N : Nat} {ad : Nat → Nat} {ce : gC} {σ : Nat → Nat → Int32} {τ : Nat → Nat → Int64} {i : Nat} (h : ¬ i < N) : (gw N ad ce σ τ)[i]? = none := by
  simp [gw, h]
theorem gw_len {N : Nat} {ad : Nat → Nat} {ce : gC} {σ : Nat → Nat → Int32} {τ : Nat → Nat → Int64} : (gw N ad ce σ τ).length = N := by simp [gw]
/-- a changed cell: the tables changed at that row alone -/
theorem gw_set {N : Nat} {ad : Nat → Nat} {ce : gC} {σ σ' : Nat → Nat → Int32} {τ τ' : Nat → Nat → Int64} {i : Nat} (h : i < N) (h1 : ∀ a, a ≠ i → σ' a = σ a) (h2 : ∀ a, a ≠ i → τ' a = τ a) :
    (gw N ad ce σ τ).set i (ad i, ce i (σ' i) (τ' i)) = gw N ad ce σ' τ' := by
  apply List.ext_getElem?
  intro j
  rw [List.getElem?_set]
  by_cases hj : i = j
  · subst hj
    rw [if_pos rfl, gw_len, if_pos h, gw_get h]
  · rw [if_neg hj]
    by_cases hl : j < N
    · rw [gw_get hl, gw_get hl, h1 j (fun q => hj q.symm), h2 j (fun q => hj q.symm)]
    · rw [gw_none hl, gw_none hl]
theorem gw_D {A : Nat → Prop} {N : Nat} {ad : Nat → Nat} {ce : gC} {σ : Nat → Nat → Int32} {τ : Nat → Nat → Int64} (hi : ∀ i j, i < N → j < N → ad i = ad j → i = j) (hA : ∀ i, i < N → A (ad i)) : va_D A (gw N ad ce σ τ) := by
  refine ⟨fun i j p q h1 h2 h3 => ?_, fun k q h => ?_⟩
  · obtain ⟨a1, b1⟩ := gw_out h1
    obtain ⟨a2, b2⟩ := gw_out h2
    rw [b1, b2] at h3
    exact hi i j a1 a2 h3
  · obtain ⟨a1, b1⟩ := gw_out h
    rw [b1]
    exact hA k a1
/-- what a method may write: the world's cells, and what is new -/
def gA (N : Nat) (ad : Nat → Nat) (sz : Nat) : Nat → Prop := fun q => (∃ i, i < N ∧ q = ad i) ∨ sz ≤ q
theorem gA_ad {N : Nat} {ad : Nat → Nat} {sz i : Nat} (h : i < N) : gA N ad sz (ad i) := Or.inl ⟨i, h, rfl⟩
theorem gA_mono {N : Nat} {ad : Nat → Nat} {sz sz' : Nat} (h : sz ≤ sz') : ∀ q, gA N ad sz' q → gA N ad sz q := fun q hq => by
  rcases hq with h1 | h1
  · exact Or.inl h1
  · exact Or.inr (Nat.le_trans h h1)
/-- what holds ahead of a method -/
def gPre (D : va_G) (cl : List vw_C) (tys : List (ClassId × FieldType)) (N : Nat) (ad : Nat → Nat) (ce : gC) (σ : Nat → Nat → Int32) (τ : Nat → Nat → Int64) (sz : Nat) (U : State) : Prop :=
  U.heap.size = sz ∧ va_P D cl (gw N ad ce σ τ) U.heap ∧ va_K D cl tys U
/-- it returned ov; the heap is such; nothing but A has changed -/
def gQ (ov : Option Value) (B : Heap → Prop) (A : Nat → Prop) : Array Value → State → Outcome → State → Prop := fun _ st o t => o = .returned ov ∧ B t.heap ∧ va_F A st t
/-- it returned ov, and the heap is as it was -/
def gR (ov : Option Value) : Array Value → State → Outcome → State → Prop := fun _ st o t => o = .returned ov ∧ t.heap = st.heap
theorem g_blind {av : List Value} {D : va_G} {cl : List vw_C} {tys : List (ClassId × FieldType)} {N : Nat} {ad : Nat → Nat} {ce : gC} {σ : Nat → Nat → Int32} {τ : Nat → Nat → Int64} {sz : Nat} : FrameBlind (va_Pc av (gPre D cl tys N ad ce σ τ sz)) := fun a U g mk q => by
  obtain ⟨q0, q1, qP, qK⟩ := q
  exact ⟨q0, q1, qP, va_K.moved (u := U) (U := U.calling g mk a) (Vm.Alike.refl U.vm) qK⟩
theorem g_blindT {av : List Value} : FrameBlind (va_Pc av (fun _ => True)) := fun _ _ _ _ q => q
end WorldA
section WorldB
variable {p : Program} {l : Launch} {e : Env} {R : Room} {s : State} {m : MethodId} {args : Array Value} {below : List Frame} {meth : Method} {c : Code} {H : Heap} {locs : List Loc} {cells slots : Nat} {Q : State → Prop}
variable {mc ms : Nat} {free : Addr → Prop} {A A0 A1 : Nat → Prop} {H0 : Heap} {a : Array Value} {pc : Nat} {ls : Array Slot} {st0 rest As : List Value} {cc : ByteArray}
variable {D : va_G} {cl : List vw_C} {tys : List (ClassId × FieldType)} {N : Nat} {ad : Nat → Nat} {ce : gC} {σ : Nat → Nat → Int32} {τ : Nat → Nat → Int64}
theorem g_pt : PreS s H (va_Pc As (fun _ => True)) As := ⟨g_blindT, fun _ _ _ => ⟨rfl, trivial⟩⟩
theorem g_ps (hK : va_K D cl tys s) (hP : va_P D cl (gw N ad ce σ τ) H) : PreS s H (va_Pc As (gPre D cl tys N ad ce σ τ H.size)) As :=
  ⟨g_blind, fun U hU hW => ⟨rfl, by rw [hU], by rw [hU]; exact hP, va_K.moved hW.alike hK⟩⟩
theorem g_pv {C : String} {i ci : Nat} {q : vw_C} {fs : List Value} (hK : va_K D cl tys s) (hP : va_P D cl (gw N ad ce σ τ) H) (hi : i < N) (hc : cl[ci]? = some q) (he : ce i (σ i) (τ i) = .inr (ci, fs)) (hq : q.1 = C) : PreV s H C (ad i) (va_Pc (.ref (ad i) :: As) (gPre D cl tys N ad ce σ τ H.size)) As :=
  ⟨g_blind, by rw [← hq]; exact va_recv hK hP hc (by rw [gw_get hi, he]), fun U hU hW => ⟨rfl, by rw [hU], by rw [hU]; exact hP, va_K.moved hW.alike hK⟩⟩
/-- a call that returns ov and changes A1 alone -/
theorem g_run {ov : Option Value} {B : Heap → Prop} (hr : va_Run p l e R s m args below meth c H locs cells slots mc ms (F0 m pc ls st0) rest (gQ ov B A1 a) free) (hS : va_S A0 H0 H locs) (hA : ∀ q, q < H.size → A1 q → A0 q) (hf : ∀ q, free q → A0 q)
    (kk : ∀ (H1 : Heap) (locs1 : List Loc), B H1 → H.size ≤ H1.size → (∀ q : Nat, q < H.size → ¬ A1 q → H1[q]? = H[q]?) → va_S A0 H0 H1 locs1 → W p l e R s m args below meth c H1 locs1 (cells + mc) (slots + ms) Q (F0 m (pc + 3) ls (ov.toList ++ rest))) : W p l e R s m args below meth c H locs cells slots Q (F0 m pc ls st0) := by
  intro T hT X
  obtain ⟨v, st₀, t, T', L, h0, X', hL, e1, e2, ⟨hv, hb, hz, hk⟩, st⟩ := hr T hT X
  cases hv
  rw [h0] at hz hk
  obtain ⟨t2, a1, b1⟩ := kk T'.heap (locs ++ L) (by rw [e1]; exact hb) (by rw [e1]; exact hz) (fun q h1 h2 => by rw [e1]; exact hk q h1 h2)
    ⟨Nat.le_trans hS.1 (by rw [e1]; exact hz), fun q h1 h2 => by rw [e1, hk q (Nat.lt_of_lt_of_le h1 hS.1) (fun z => h2 (hA q (Nat.lt_of_lt_of_le h1 hS.1) z))]; exact hS.2.1 q h1 h2, fun q hq => by
      rcases List.mem_append.mp hq with h | h
      · exact hS.2.2 q h
      · exact hf _ (hL q h)⟩ T' rfl X'
  exact ⟨t2, st t2 a1, b1⟩
/-- a call that changes nothing -/
theorem g_pure {v : Value} (hr : va_Run p l e R s m args below meth c H locs cells slots 0 0 (F0 m pc ls st0) rest (gR (some v) a) (fun _ => False))
    (kk : W p l e R s m args below meth c H locs cells slots Q (F0 m (pc + 3) ls (v :: rest))) : W p l e R s m args below meth c H locs cells slots Q (F0 m pc ls st0) := by
  intro T hT X
  obtain ⟨v', st₀, t, T', L, h0, X', hL, e1, e2, ⟨hv, hh⟩, st⟩ := hr T hT X
  cases hv
  have hLn : L = [] := List.eq_nil_iff_forall_not_mem.mpr (fun q hq => hL q hq)
  subst hLn
  rw [List.append_nil] at X'
  obtain ⟨t2, a1, b1⟩ := kk T' (by rw [e1, hh, h0]) X'
  exact ⟨t2, st t2 a1, b1⟩
theorem g_iald (hexec : p.tables.exec = Jvm.exec) (hb : c.code = cc) (hK : va_K D cl tys s) (hP : va_P D cl (gw N ad ce σ τ) H) (i t0 : Nat) (hi : i < N) {cA : ClassId} {n : Nat} (hc : ∀ r t, ce i r t = .inl (cA, n, .inl r)) (ht : tys[t0]? = some (cA, .int)) {j : Int32} (hin : vp_in j n) (hdg : decode cc pc = .ok (.iaload, 1))
    (kk : W p l e R s m args below meth c H locs cells slots Q (F0 m (pc + 1) ls (.int (σ i j.toNatClampNeg) :: rest))) : W p l e R s m args below meth c H locs cells slots Q (F0 m pc ls (.int j :: .ref (ad i) :: rest)) :=
  va_iald hexec hb hK hP i t0 (by rw [gw_get hi, hc]) ht hin hdg kk
theorem g_iast (hexec : p.tables.exec = Jvm.exec) (hb : c.code = cc) (hK : va_K D cl tys s) (hP : va_P D cl (gw N ad ce σ τ) H) (hD : ∀ σ τ, va_D A (gw N ad ce σ τ)) (hS : va_S A H0 H locs) (i t0 : Nat) (hi : i < N) {cA : ClassId} {n : Nat} (hc : ∀ r t, ce i r t = .inl (cA, n, .inl r)) (ht : tys[t0]? = some (cA, .int)) {j x : Int32} (hin : vp_in j n) (hdg : decode cc pc = .ok (.iastore, 1))
    (kk : ∀ (H1 : Heap) (locs1 : List Loc), va_P D cl (gw N ad ce (w2 σ i j.toNatClampNeg x) τ) H1 → va_S A H0 H1 locs1 → W p l e R s m args below meth c H1 locs1 cells slots Q (F0 m (pc + 1) ls rest)) : W p l e R s m args below meth c H locs cells slots Q (F0 m pc ls (.int x :: .int j :: .ref (ad i) :: rest)) := by
  refine va_iast hexec hb hK hP (hD σ τ) hS i t0 (by rw [gw_get hi, hc]) ht hin hdg (fun H1 locs1 hP1 _ hS1 => kk H1 locs1 ?_ hS1)
  have e1 := gw_set (ce := ce) (ad := ad) (σ := σ) (σ' := w2 σ i j.toNatClampNeg x) (τ := τ) (τ' := τ) hi (fun a h => w2_ne h) (fun _ _ => rfl)
  rw [hc, w2_row] at e1
  rw [e1] at hP1
  exact hP1
theorem g_get (hexec : p.tables.exec = Jvm.exec) (hb : c.code = cc) {own ref C : String} {T : u_T} {M ci index : Nat} {Ts : List Cond} (hts : ∀ w ∈ Ts, w.before args s = true) (hin : ∀ w ∈ u_ws C T M, w ∈ Ts) (hown : s.vm.findClass own = some m.cls) (hK : va_K D cl tys s) (hP : va_P D cl (gw N ad ce σ τ) H) (i : Nat) (hi : i < N) {fs : List Value} (he : ce i (σ i) (τ i) = .inr (ci, fs)) (hc : cl[ci]? = some (C, T, M)) (k : Nat) (hk : k < M) (hlink : (Cond.fieldLink own index ref (T k).2.1 (T k).2.2.1).before args s = true) (hsame : ∀ x, s.fieldFound? (T k).1 (T k).2.1 (T k).2.2.1 = some x → s.fieldFound? ref (T k).2.1 (T k).2.2.1 = some x) {v : Value} (hv : fs[k]? = some v) (hdg : decode cc pc = .ok (.getfield index, 3))
    (kk : W p l e R s m args below meth c H locs cells slots Q (F0 m (pc + 3) ls (v :: rest))) : W p l e R s m args below meth c H locs cells slots Q (F0 m pc ls (.ref (ad i) :: rest)) :=
  va_get hexec hb hts hin hown hK hP i (by rw [gw_get hi, he]) hc k hk hlink hsame hv hdg kk
theorem g_getN (hexec : p.tables.exec = Jvm.exec) (hb : c.code = cc) {own ref C host : String} {T : u_T} {M ci index : Nat} {Ts : List Cond} (hts : ∀ w ∈ Ts, w.before args s = true) (hin : ∀ w ∈ u_ws C T M, w ∈ Ts) (hown : s.vm.findClass own = some m.cls) (hK : va_K D cl tys s) (hP : va_P D cl (gw N ad ce σ τ) H) (i : Nat) (hi : i < N) {fs : List Value} (he : ce i (σ i) (τ i) = .inr (ci, fs)) (hc : cl[ci]? = some (C, T, M)) (k : Nat) (hk : k < M) (hlink : (Cond.fieldLinkNest own index ref (T k).2.1 (T k).2.2.1 host).before args s = true) (hsame : ∀ x, s.fieldFound? (T k).1 (T k).2.1 (T k).2.2.1 = some x → s.fieldFound? ref (T k).2.1 (T k).2.2.1 = some x) {v : Value} (hv : fs[k]? = some v) (hdg : decode cc pc = .ok (.getfield index, 3))
    (kk : W p l e R s m args below meth c H locs cells slots Q (F0 m (pc + 3) ls (v :: rest))) : W p l e R s m args below meth c H locs cells slots Q (F0 m pc ls (.ref (ad i) :: rest)) :=
  va_getN hexec hb hts hin hown hK hP i (by rw [gw_get hi, he]) hc k hk hlink hsame hv hdg kk
/-- an int field becomes x -/
theorem g_put (hexec : p.tables.exec = Jvm.exec) (hb : c.code = cc) {own ref C : String} {T : u_T} {M ci index : Nat} {Ts : List Cond} (hts : ∀ w ∈ Ts, w.before args s = true) (hin : ∀ w ∈ u_ws C T M, w ∈ Ts) (ty0 : Nat → FieldType) (hty : ∀ k, k < M → parseFieldDescriptor (T k).2.2.1 = some (ty0 k)) (hnm : ∀ a, a < M → ∀ b, b < M → a ≠ b → (T a).2.1 ≠ (T b).2.1) (hown : s.vm.findClass own = some m.cls) (hK : va_K D cl tys s) (hP : va_P D cl (gw N ad ce σ τ) H) (hD : ∀ σ τ, va_D A (gw N ad ce σ τ)) (hS : va_S A H0 H locs) (i : Nat) (hi : i < N) (fs : (Nat → Int32) → List Value) (he : ∀ r t, ce i r t = .inr (ci, fs r)) (hc : cl[ci]? = some (C, T, M)) (k : Nat) (hk : k < M) (hlink : (Cond.fieldLink own index ref (T k).2.1 (T k).2.2.1).before args s = true) (hsame : ∀ x, s.fieldFound? (T k).1 (T k).2.1 (T k).2.2.1 = some x → s.fieldFound? ref (T k).2.1 (T k).2.2.1 = some x) (hfin : (T k).2.2.2 = false) {ty : FieldType} {x : Int32} (hd : parseFieldDescriptor (T k).2.2.1 = some ty) (hn : narrow ty (.int x) = .int x) (hfit : fits ty (.int x) = true) (hl : k < (fs (σ i)).length)
    (hset : (fs (σ i)).set k (.int x) = fs (upd (σ i) k x)) (hdg : decode cc pc = .ok (.putfield index, 3))
    (kk : ∀ (H1 : Heap) (locs1 : List Loc), va_P D cl (gw N ad ce (w2 σ i k x) τ) H1 → va_S A H0 H1 locs1 → W p l e R s m args below meth c H1 locs1 cells slots Q (F0 m (pc + 3) ls rest)) : W p l e R s m args below meth c H locs cells slots Q (F0 m pc ls (.int x :: .ref (ad i) :: rest)) := by
  refine va_put hexec hb hts hin ty0 hty hnm hown hK hP (hD σ τ) hS i (by rw [gw_get hi, he]) hc k hk hlink hsame hfin hd hn hfit hl hdg (fun H1 locs1 hP1 _ hS1 => kk H1 locs1 ?_ hS1)
  have e1 := gw_set (ce := ce) (ad := ad) (σ := σ) (σ' := w2 σ i k x) (τ := τ) (τ' := τ) hi (fun a h => w2_ne h) (fun _ _ => rfl)
  rw [he, w2_row, ← hset] at e1
  rw [e1] at hP1
  exact hP1
theorem g_putN (hexec : p.tables.exec = Jvm.exec) (hb : c.code = cc) {own ref C host : String} {T : u_T} {M ci index : Nat} {Ts : List Cond} (hts : ∀ w ∈ Ts, w.before args s = true) (hin : ∀ w ∈ u_ws C T M, w ∈ Ts) (ty0 : Nat → FieldType) (hty : ∀ k, k < M → parseFieldDescriptor (T k).2.2.1 = some (ty0 k)) (hnm : ∀ a, a < M → ∀ b, b < M → a ≠ b → (T a).2.1 ≠ (T b).2.1) (hown : s.vm.findClass own = some m.cls) (hK : va_K D cl tys s) (hP : va_P D cl (gw N ad ce σ τ) H) (hD : ∀ σ τ, va_D A (gw N ad ce σ τ)) (hS : va_S A H0 H locs) (i : Nat) (hi : i < N) (fs : (Nat → Int32) → List Value) (he : ∀ r t, ce i r t = .inr (ci, fs r)) (hc : cl[ci]? = some (C, T, M)) (k : Nat) (hk : k < M) (hlink : (Cond.fieldLinkNest own index ref (T k).2.1 (T k).2.2.1 host).before args s = true) (hsame : ∀ x, s.fieldFound? (T k).1 (T k).2.1 (T k).2.2.1 = some x → s.fieldFound? ref (T k).2.1 (T k).2.2.1 = some x) (hfin : (T k).2.2.2 = false) {ty : FieldType} {x : Int32} (hd : parseFieldDescriptor (T k).2.2.1 = some ty) (hn : narrow ty (.int x) = .int x) (hfit : fits ty (.int x) = true) (hl : k < (fs (σ i)).length)
    (hset : (fs (σ i)).set k (.int x) = fs (upd (σ i) k x)) (hdg : decode cc pc = .ok (.putfield index, 3))
    (kk : ∀ (H1 : Heap) (locs1 : List Loc), va_P D cl (gw N ad ce (w2 σ i k x) τ) H1 → va_S A H0 H1 locs1 → W p l e R s m args below meth c H1 locs1 cells slots Q (F0 m (pc + 3) ls rest)) : W p l e R s m args below meth c H locs cells slots Q (F0 m pc ls (.int x :: .ref (ad i) :: rest)) := by
  refine va_putN hexec hb hts hin ty0 hty hnm hown hK hP (hD σ τ) hS i (by rw [gw_get hi, he]) hc k hk hlink hsame hfin hd hn hfit hl hdg (fun H1 locs1 hP1 _ hS1 => kk H1 locs1 ?_ hS1)
  have e1 := gw_set (ce := ce) (ad := ad) (σ := σ) (σ' := w2 σ i k x) (τ := τ) (τ' := τ) hi (fun a h => w2_ne h) (fun _ _ => rfl)
  rw [he, w2_row, ← hset] at e1
  rw [e1] at hP1
  exact hP1
/-- an array of references: what lies there is q -/
theorem g_aald (hexec : p.tables.exec = Jvm.exec) (hb : c.code = cc) (hK : va_K D cl tys s) (hP : va_P D cl (gw N ad ce σ τ) H) (i t0 : Nat) (hi : i < N) {cA : ClassId} {n q : Nat} {ty : FieldType} {f : Nat → Option Nat} (hc : ce i (σ i) (τ i) = .inl (cA, n, .inr (.inr (.inr (.inr f))))) (ht : tys[t0]? = some (cA, ty)) (href : ty.isReference = true) {j : Int32} (hin : vp_in j n) (hq : f j.toNatClampNeg = some q) (hdg : decode cc pc = .ok (.aaload, 1))
    (kk : W p l e R s m args below meth c H locs cells slots Q (F0 m (pc + 1) ls (.ref q :: rest))) : W p l e R s m args below meth c H locs cells slots Q (F0 m pc ls (.int j :: .ref (ad i) :: rest)) := by
  have hlt : j.toNatClampNeg < n := Nat.not_le.mp fun z => hin (Or.inr z)
  have ha : (gw N ad ce σ τ)[i]? = some (ad i, .inl (cA, n, .inr (.inr (.inr (.inr f))))) := by rw [gw_get hi, hc]
  refine W.aald (v := .ref q) (ty := ty) hexec hb (hP i _ ha) ((hK.2 t0 _ ht).1 n (fun j => va_rf (f j))) href (fun z => by cases z) (by show ¬ (j < 0 ∨ (arrV _ _ _).slots.size ≤ _); rw [arrV_size]; exact hin) ?_ rfl rfl hdg kk
  show (arrV _ _ _).slots[_]? = _
  rw [arrV_read _ _ hlt, hq]
  rfl
theorem g_lald (hexec : p.tables.exec = Jvm.exec) (hb : c.code = cc) (hK : va_K D cl tys s) (hP : va_P D cl (gw N ad ce σ τ) H) (i t0 : Nat) (hi : i < N) {cA : ClassId} {n : Nat} (hc : ∀ r t, ce i r t = .inl (cA, n, .inr (.inl t))) (ht : tys[t0]? = some (cA, .long)) {j : Int32} (hin : vp_in j n) (hdg : decode cc pc = .ok (.laload, 1))
    (kk : W p l e R s m args below meth c H locs cells slots Q (F0 m (pc + 1) ls (.long (τ i j.toNatClampNeg) :: rest))) : W p l e R s m args below meth c H locs cells slots Q (F0 m pc ls (.int j :: .ref (ad i) :: rest)) :=
  va_lald hexec hb hK hP i t0 (by rw [gw_get hi, hc]) ht hin hdg kk
theorem g_last (hexec : p.tables.exec = Jvm.exec) (hb : c.code = cc) (hK : va_K D cl tys s) (hP : va_P D cl (gw N ad ce σ τ) H) (hD : ∀ σ τ, va_D A (gw N ad ce σ τ)) (hS : va_S A H0 H locs) (i t0 : Nat) (hi : i < N) {cA : ClassId} {n : Nat} (hc : ∀ r t, ce i r t = .inl (cA, n, .inr (.inl t))) (ht : tys[t0]? = some (cA, .long)) {j : Int32} {x : Int64} (hin : vp_in j n) (hdg : decode cc pc = .ok (.lastore, 1))
    (kk : ∀ (H1 : Heap) (locs1 : List Loc), va_P D cl (gw N ad ce σ (wl2 τ i j.toNatClampNeg x)) H1 → va_S A H0 H1 locs1 → W p l e R s m args below meth c H1 locs1 cells slots Q (F0 m (pc + 1) ls rest)) : W p l e R s m args below meth c H locs cells slots Q (F0 m pc ls (.long x :: .int j :: .ref (ad i) :: rest)) := by
  refine va_last hexec hb hK hP (hD σ τ) hS i t0 (by rw [gw_get hi, hc]) ht hin hdg (fun H1 locs1 hP1 _ hS1 => kk H1 locs1 ?_ hS1)
  have e1 := gw_set (ce := ce) (ad := ad) (σ := σ) (σ' := σ) (τ := τ) (τ' := wl2 τ i j.toNatClampNeg x) hi (fun _ _ => rfl) (fun a h => wl2_ne h)
  rw [hc, wl2_row] at e1
  rw [e1] at hP1
  exact hP1
end WorldB
section WorldC
variable {p : Program} {l : Launch} {e : Env} {R : Room} {s : State} {m : MethodId} {args : Array Value} {below : List Frame} {meth : Method} {c : Code} {H : Heap} {locs : List Loc} {cells slots : Nat} {Q : State → Prop}
variable {mc ms : Nat} {free : Addr → Prop} {A A0 A1 : Nat → Prop} {H0 : Heap} {a : Array Value} {pc : Nat} {ls : Array Slot} {st0 rest As : List Value} {cc : ByteArray}
theorem g_runV {B : Heap → Prop} (hr : va_Run p l e R s m args below meth c H locs cells slots mc ms (F0 m pc ls st0) rest (gQ none B A1 a) free) (hS : va_S A0 H0 H locs) (hA : ∀ q, q < H.size → A1 q → A0 q) (hf : ∀ q, free q → A0 q)
    (kk : ∀ (H1 : Heap) (locs1 : List Loc), B H1 → H.size ≤ H1.size → va_S A0 H0 H1 locs1 → W p l e R s m args below meth c H1 locs1 (cells + mc) (slots + ms) Q (F0 m (pc + 3) ls rest)) : W p l e R s m args below meth c H locs cells slots Q (F0 m pc ls st0) :=
  g_run hr hS hA hf (fun H1 locs1 h1 h2 _ h4 => kk H1 locs1 h1 h2 h4)
theorem g_runR {v : Value} {B : Heap → Prop} (hr : va_Run p l e R s m args below meth c H locs cells slots mc ms (F0 m pc ls st0) rest (gQ (some v) B A1 a) free) (hS : va_S A0 H0 H locs) (hA : ∀ q, q < H.size → A1 q → A0 q) (hf : ∀ q, free q → A0 q)
    (kk : ∀ (H1 : Heap) (locs1 : List Loc), B H1 → H.size ≤ H1.size → va_S A0 H0 H1 locs1 → W p l e R s m args below meth c H1 locs1 (cells + mc) (slots + ms) Q (F0 m (pc + 3) ls (v :: rest))) : W p l e R s m args below meth c H locs cells slots Q (F0 m pc ls st0) :=
  g_run hr hS hA hf (fun H1 locs1 h1 h2 _ h4 => kk H1 locs1 h1 h2 h4)
theorem vp_lt {j : Int32} {n : Nat} (h : vp_in j n) : j.toNatClampNeg < n := Nat.not_le.mp fun z => h (Or.inr z)
end WorldC
