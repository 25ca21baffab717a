/-! The cells of this claim, by their numbers. 0: the object; 1, 2: its memory; 3: the table of the eight that say where parts lie, 4 .. 11; 12, 19, 26: three polygons, each with its outer array and five rows behind it; 33: the screen; 34: the law's own array of one long; 35: the reference, 36 .. 42 its arrays. -/
section Cells
abbrev NC : Nat := 43
def fV (ad : Nat → Nat) (r : Nat → Int32) : List Value := [.ref (ad 1), .ref (ad 3), .ref (ad 12), .ref (ad 19), .ref (ad 26), .ref (ad 33), .int (r 6), .int (r 7)]
def fM (ad : Nat → Nat) : List Value := [.ref (ad 2)]
def fA (r : Nat → Int32) : List Value := [.int (r 0), .int (r 1), .int (r 2), .int (r 3)]
def fP (ad : Nat → Nat) (i : Nat) (r : Nat → Int32) : List Value := [.ref (ad (i + 1)), .int (r 1)]
def fS (r : Nat → Int32) : List Value := [.int (r 0), .int (r 1), .int (r 2), .int (r 3), .int (r 4), .int (r 5)]
def fR (ad : Nat → Nat) (r : Nat → Int32) : List Value := [.int (r 0), .ref (ad 36), .ref (ad 37), .ref (ad 38), .ref (ad 39), .int (r 5), .int (r 6), .int (r 7), .ref (ad 40), .int (r 9), .ref (ad 41), .int (r 11), .ref (ad 42)]
def rfs (ad : Nat → Nat) (b n : Nat) : Nat → Option Nat := fun j => if j < n then some (ad (b + j)) else none
def isP (b : Nat) : Prop := b = 12 ∨ b = 19 ∨ b = 26
def ceW (cs : Nat → ClassId) (ad : Nat → Nat) : gC := fun i r t =>
  if i = 0 then .inr (0, fV ad r)
  else if i = 1 then .inr (1, fM ad)
  else if i = 2 then .inl (cs 0, 4096, .inl r)
  else if i = 3 then .inl (cs 2, 8, .inr (.inr (.inr (.inr (rfs ad 4 8)))))
  else if i < 12 then .inr (2, fA r)
  else if i = 12 ∨ i = 19 ∨ i = 26 then .inr (3, fP ad i r)
  else if i = 13 ∨ i = 20 ∨ i = 27 then .inl (cs 1, 5, .inr (.inr (.inr (.inr (rfs ad (i + 1) 5)))))
  else if i < 33 then .inl (cs 0, 32, .inl r)
  else if i = 33 then .inr (4, fS r)
  else if i = 34 then .inl (cs 3, 1, .inr (.inl t))
  else if i = 35 then .inr (5, fR ad r)
  else if i = 36 then .inl (cs 0, 4096, .inl r)
  else if i = 37 then .inl (cs 0, 32, .inl r)
  else if i = 38 then .inl (cs 0, 96, .inl r)
  else if i = 39 then .inl (cs 0, 6, .inl r)
  else if i = 40 then .inl (cs 0, 256, .inl r)
  else if i = 41 then .inl (cs 0, 256, .inl r)
  else .inl (cs 0, 32, .inl r)
abbrev gt (cs : Nat → ClassId) : List (ClassId × FieldType) := [(cs 0, .int), (cs 1, .array .int), (cs 2, .object "VertexWork$Attribute"), (cs 3, .long)]
variable {cs : Nat → ClassId} {ad : Nat → Nat} {r : Nat → Int32} {t : Nat → Int64} {b i j : Nat}
theorem kV : ceW cs ad 0 r t = .inr (0, fV ad r) := rfl
theorem kM : ceW cs ad 1 r t = .inr (1, fM ad) := rfl
theorem kMw : ceW cs ad 2 r t = .inl (cs 0, 4096, .inl r) := rfl
theorem kAs : ceW cs ad 3 r t = .inl (cs 2, 8, .inr (.inr (.inr (.inr (rfs ad 4 8))))) := rfl
theorem kA (h : j < 8) : ceW cs ad (4 + j) r t = .inr (2, fA r) := by
  unfold ceW
  rw [if_neg (by omega), if_neg (by omega), if_neg (by omega), if_neg (by omega), if_pos (by omega)]
theorem kP (h : isP b) : ceW cs ad b r t = .inr (3, fP ad b r) := by
  rcases h with rfl | rfl | rfl <;> rfl
theorem kO (h : isP b) : ceW cs ad (b + 1) r t = .inl (cs 1, 5, .inr (.inr (.inr (.inr (rfs ad (b + 2) 5))))) := by
  rcases h with rfl | rfl | rfl <;> rfl
theorem kW (h : isP b) (hj : j < 5) : ceW cs ad (b + 2 + j) r t = .inl (cs 0, 32, .inl r) := by
  rcases h with rfl | rfl | rfl <;> (rcases (by omega : j = 0 ∨ j = 1 ∨ j = 2 ∨ j = 3 ∨ j = 4) with rfl | rfl | rfl | rfl | rfl <;> rfl)
theorem kS : ceW cs ad 33 r t = .inr (4, fS r) := rfl
theorem kL : ceW cs ad 34 r t = .inl (cs 3, 1, .inr (.inl t)) := rfl
theorem kR : ceW cs ad 35 r t = .inr (5, fR ad r) := rfl
theorem kR36 : ceW cs ad 36 r t = .inl (cs 0, 4096, .inl r) := rfl
theorem kR37 : ceW cs ad 37 r t = .inl (cs 0, 32, .inl r) := rfl
theorem kR38 : ceW cs ad 38 r t = .inl (cs 0, 96, .inl r) := rfl
theorem kR39 : ceW cs ad 39 r t = .inl (cs 0, 6, .inl r) := rfl
theorem kR40 : ceW cs ad 40 r t = .inl (cs 0, 256, .inl r) := rfl
theorem kR41 : ceW cs ad 41 r t = .inl (cs 0, 256, .inl r) := rfl
theorem kR42 : ceW cs ad 42 r t = .inl (cs 0, 32, .inl r) := rfl
theorem isP_lt (h : isP b) (hj : j < 5) : b + 2 + j < NC := by
  rcases h with rfl | rfl | rfl <;> (show _ < 43; omega)
theorem isP_lt1 (h : isP b) : b + 1 < NC := by
  rcases h with rfl | rfl | rfl <;> (show _ < 43; omega)
theorem isP_lt0 (h : isP b) : b < NC := by
  rcases h with rfl | rfl | rfl <;> (show _ < 43; omega)
abbrev gI (ad : Nat → Nat) : Prop := ∀ i j, i < NC → j < NC → ad i = ad j → i = j
/-- the world of this claim -/
abbrev gW (cs : Nat → ClassId) (ad : Nat → Nat) (σ : Nat → Nat → Int32) (τ : Nat → Nat → Int64) : va_W := gw NC ad (ceW cs ad) σ τ
abbrev gB (D : va_G) (cs : Nat → ClassId) (ad : Nat → Nat) (σ : Nat → Nat → Int32) (τ : Nat → Nat → Int64) : Heap → Prop := fun H => va_P D vwCl (gW cs ad σ τ) H
abbrev gP (D : va_G) (cs : Nat → ClassId) (ad : Nat → Nat) (σ : Nat → Nat → Int32) (τ : Nat → Nat → Int64) (sz : Nat) : State → Prop := gPre D vwCl (gt cs) NC ad (ceW cs ad) σ τ sz
end Cells
section Calls
abbrev wsB (k : Cond) : List Cond := k :: big
theorem hbig {k : Cond} {args : Array Value} {s : State} (h : ∀ w ∈ wsB k, w.before args s = true) : ∀ w ∈ big, w.before args s = true := fun w hw => h w (List.mem_cons_of_mem _ hw)
variable {R : Room} {s : State} {args : Array Value} {own C host : String} {index maxL mc ms : Nat} {y : MethodName} {bytes : ByteArray} {ret : Option FieldType} {rm : Room}
theorem qB (n : Nat) (ht : ∀ w ∈ big, w.before args s = true) (h1 : Cond.methodLink own index y ∈ big) (h3 : Cond.initialized y.cls ∈ big) (h4 : Cond.code y bytes maxL ret ∈ big) (hrc : rm.cells = mc) (hrs : rm.slots = ms)
    (hd : y.cls ≠ "java/lang/invoke/MethodHandle" ∧ y.cls ≠ "java/lang/invoke/VarHandle" ∧ (parseMethodDescriptor y.desc).map (fun d => d.parameters.length) = some n) (hR : rm.frames + 1 ≤ R.frames ∧ 8 + (maxL + 11) + rm.locals ≤ R.locals) :
    CallB R s args own index y bytes maxL ret (wsB (.code y bytes maxL ret)) rm mc ms n := by
  refine ⟨hrc, hrs, hR.1, hR.2, fun w hw a' U hW => ?_, List.mem_cons_self, ht _ h4, ht _ h3, ⟨hd.1, hd.2.1⟩, fun sig h => ?_, ht _ h1⟩
  · rcases List.mem_cons.mp hw with h | h
    · rw [h]; exact big_warm ht hW _ h4
    · exact big_warm ht hW w h
  · have h2 := hd.2.2
    rw [h] at h2
    exact (Option.some.inj h2).symm
theorem qS (n : Nat) (ht : ∀ w ∈ big, w.before args s = true) (h1 : Cond.methodLink own index y ∈ big) (h2 : Cond.static y ∈ big) (h3 : Cond.initialized y.cls ∈ big) (h4 : Cond.code y bytes maxL ret ∈ big) (hrc : rm.cells = mc) (hrs : rm.slots = ms)
    (hd : y.cls ≠ "java/lang/invoke/MethodHandle" ∧ y.cls ≠ "java/lang/invoke/VarHandle" ∧ (parseMethodDescriptor y.desc).map (fun d => d.parameters.length) = some n) (hR : rm.frames + 1 ≤ R.frames ∧ 8 + (maxL + 11) + rm.locals ≤ R.locals) :
    CallB R s args own index y bytes maxL ret (wsB (.code y bytes maxL ret)) rm mc ms n ∧ (Cond.static y).before args s = true := ⟨qB n ht h1 h3 h4 hrc hrs hd hR, ht _ h2⟩
theorem qV (n : Nat) (ht : ∀ w ∈ big, w.before args s = true) (h1 : Cond.methodLink own index y ∈ big) (h2 : Cond.instanceMethod y ∈ big) (h5 : Cond.selects C y y ∈ big) (h3 : Cond.initialized y.cls ∈ big) (h4 : Cond.code y bytes maxL ret ∈ big) (hrc : rm.cells = mc) (hrs : rm.slots = ms)
    (hd : y.cls ≠ "java/lang/invoke/MethodHandle" ∧ y.cls ≠ "java/lang/invoke/VarHandle" ∧ (parseMethodDescriptor y.desc).map (fun d => d.parameters.length) = some n) (hR : rm.frames + 1 ≤ R.frames ∧ 8 + (maxL + 11) + rm.locals ≤ R.locals) :
    CallW R s args own C index y bytes maxL ret (wsB (.code y bytes maxL ret)) rm mc ms n := ⟨qB n ht h1 h3 h4 hrc hrs hd hR, ht _ h2, ht _ h5⟩
theorem qN (n : Nat) (ht : ∀ w ∈ big, w.before args s = true) (h1 : Cond.methodLinkNest own index y host ∈ big) (h3 : Cond.initialized y.cls ∈ big) (h4 : Cond.code y bytes maxL ret ∈ big) (hrc : rm.cells = mc) (hrs : rm.slots = ms)
    (hd : y.cls ≠ "java/lang/invoke/MethodHandle" ∧ y.cls ≠ "java/lang/invoke/VarHandle" ∧ (parseMethodDescriptor y.desc).map (fun d => d.parameters.length) = some n) (hR : rm.frames + 1 ≤ R.frames ∧ 8 + (maxL + 11) + rm.locals ≤ R.locals) :
    va_CN R s args own index y host bytes maxL ret (wsB (.code y bytes maxL ret)) rm mc ms n := by
  refine ⟨⟨hrc, hrs, hR.1, hR.2, fun w hw a' U hW => ?_, List.mem_cons_self⟩, ht _ h4, ht _ h3, ⟨hd.1, hd.2.1⟩, fun sig h => ?_, ht _ h1⟩
  · rcases List.mem_cons.mp hw with h | h
    · rw [h]; exact big_warm ht hW _ h4
    · exact big_warm ht hW w h
  · have h2 := hd.2.2
    rw [h] at h2
    exact (Option.some.inj h2).symm
end Calls
theorem rfs_at {ad : Nat → Nat} {b n j : Nat} (h : j < n) : rfs ad b n j = some (ad (b + j)) := if_pos h
theorem lt4 {j : Nat} (h : j < 8) : 4 + j < NC := by show _ < 43; omega
theorem mx1_ne (z : Int64) : ¬ (if z < (1 : Int64) then (1 : Int64) else z) = 0 := by
  split
  · decide
  · intro h
    subst h
    exact absurd (by decide : (0 : Int64) < 1) (by assumption)
