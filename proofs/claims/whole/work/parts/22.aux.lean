section AuxA
theorem x_lt0 {x : Int32} : (¬ x < 0) ↔ 0 ≤ x.toInt := by
  rw [Int32.lt_iff_toInt_lt]
  show (¬ x.toInt < 0) ↔ _
  omega
theorem isBelow_0 {x y : Int32} : f_isBelow x y = 0 ↔ (x < 0 ∨ y ≤ x) := by
  unfold f_isBelow
  by_cases h1 : x < 0
  · simp [h1]
  · by_cases h2 : y ≤ x
    · simp [h2]
    · simp [h1, h2]
theorem below_in {x y : Int32} {n : Nat} (hy : y.toInt = (n : Int)) (h : ¬ f_isBelow x y = 0) : vp_in x n := by
  rw [isBelow_0] at h
  have h1 : ¬ x < 0 := fun z => h (Or.inl z)
  have h2 : ¬ y ≤ x := fun z => h (Or.inr z)
  rw [x_lt0] at h1
  rw [Int32.le_iff_toInt_le] at h2
  exact vp_in_iff.mpr ⟨h1, by omega⟩
theorem in_of {x y : Int32} {n : Nat} (hy : y.toInt = (n : Int)) (h0 : ¬ x < 0) (h : x < y) : vp_in x n := by
  rw [x_lt0] at h0
  rw [Int32.lt_iff_toInt_lt] at h
  exact vp_in_iff.mpr ⟨h0, by omega⟩
theorem at_in {w : Int64} (h1 : ¬ lg_cmp w 0 < 0) (h2 : ¬ 0 ≤ lg_cmp w 4096) : vp_in w.toInt32 4096 := by
  rw [lg_cmp_lt] at h1
  rw [lg_cmp_ge] at h2
  rw [Int64.lt_iff_toInt_lt] at h1
  rw [Int64.le_iff_toInt_le] at h2
  have e0 : (0 : Int64).toInt = 0 := by decide
  have e1 : (4096 : Int64).toInt = 4096 := by decide
  rw [e0] at h1
  rw [e1] at h2
  have h3 := Kit.i32_of_i64 (x := w) (by omega) (by omega)
  exact vp_in_iff.mpr ⟨by omega, by omega⟩
theorem sw_out3 {x : Int32} (h0 : ¬ x = 0) (h1 : ¬ x = 1) (h2 : ¬ x = 2) : x.toInt < 0 ∨ 2 < x.toInt := by
  have a0 : x.toInt ≠ 0 := fun z => h0 (Int32.toInt_inj.mp (by rw [z]; rfl))
  have a1 : x.toInt ≠ 1 := fun z => h1 (Int32.toInt_inj.mp (by rw [z]; rfl))
  have a2 : x.toInt ≠ 2 := fun z => h2 (Int32.toInt_inj.mp (by rw [z]; rfl))
  omega
/-- n numbers of row i go into row k -/
def cp2 (σ : Nat → Nat → Int32) (i k n : Nat) : Nat → Nat → Int32 := fun a b => if a = k ∧ b < n then σ i b else σ a b
theorem cp2_ne {σ : Nat → Nat → Int32} {i k n a : Nat} (h : a ≠ k) : cp2 σ i k n a = σ a := by
  funext b
  simp [cp2, h]
theorem cp2_row (σ : Nat → Nat → Int32) (i k n : Nat) : cp2 σ i k n k = va_cpy (σ i) (σ k) 0 0 n := by
  funext b
  simp [cp2, va_cpy]
variable {p : Program} {l : Launch} {e : Env} {R : Room} {s : State} {m : MethodId} {args : Array Value} {below : List Frame} {meth : Method} {c : Code} {H : Heap} {locs : List Loc} {cells slots : Nat} {Q : State → Prop}
variable {A : Nat → Prop} {pc : Nat} {ls : Array Slot} {rest : List Value} {cc : ByteArray} {H0 : Heap}
variable {D : va_G} {cl : List vw_C} {tys : List (ClassId × FieldType)} {N : Nat} {ad : Nat → Nat} {ce : gC} {σ : Nat → Nat → Int32} {τ : Nat → Nat → Int64}
theorem g_copy (hexec : p.tables.exec = Jvm.exec) (hb : c.code = cc) (hml : c.maxLocals = ls.size) {own : String} {index : Nat} (hown : s.vm.findClass own = some m.cls) (hlink : (Cond.methodLink own index arraycopyName).before args s = true) (hnat : (Cond.native arraycopyName).before args s = true) (hstat : (Cond.static arraycopyName).before args s = true) (hini : (Cond.initialized "java/lang/System").before args s = true)
    (hK : va_K D cl tys s) (hP : va_P D cl (gw N ad ce σ τ) H) (hD : ∀ σ τ, va_D A (gw N ad ce σ τ)) (hS : va_S A H0 H locs) (i k t0 : Nat) (hi : i < N) (hk : k < N) {cA : ClassId} {n0 n1 : Nat} (hc0 : ∀ r t, ce i r t = .inl (cA, n0, .inl r)) (hc1 : ∀ r t, ce k r t = .inl (cA, n1, .inl r)) (ht : tys[t0]? = some (cA, .int))
    {n : Int32} (h3 : ¬ n < 0) (h4 : n.toNatClampNeg ≤ n0) (h5 : n.toNatClampNeg ≤ n1)
    (hframes : 1 ≤ R.frames) (hlocals : (rest.map fun v => v.category).sum + (nativeFrameWords "java/lang/System" "arraycopy" 5 + 11) ≤ R.locals) (hdg : decode cc pc = .ok (.invokestatic index, 3))
    (kk : ∀ (H1 : Heap) (locs1 : List Loc), va_P D cl (gw N ad ce (cp2 σ i k n.toNatClampNeg) τ) H1 → va_S A H0 H1 locs1 → W p l e R s m args below meth c H1 locs1 cells slots Q (F0 m (pc + 3) ls rest)) : W p l e R s m args below meth c H locs cells slots Q (F0 m pc ls (.int n :: .int 0 :: .ref (ad k) :: .int 0 :: .ref (ad i) :: rest)) := by
  refine va_copyi hexec hb hml hown hlink hnat hstat hini hK hP (hD σ τ) hS i k t0 t0 (by rw [gw_get hi, hc0]) (by rw [gw_get hk, hc1]) ht ht rfl (by decide) (by decide) h3 (by show 0 + _ ≤ _; omega) (by show 0 + _ ≤ _; omega) (fun _ _ => rfl) hframes hlocals hdg (fun H1 locs1 hP1 _ hS1 => kk H1 locs1 ?_ hS1)
  have e1 := gw_set (ce := ce) (ad := ad) (σ := σ) (σ' := cp2 σ i k n.toNatClampNeg) (τ := τ) (τ' := τ) hk (fun a h => cp2_ne h) (fun _ _ => rfl)
  rw [hc1, cp2_row] at e1
  rw [← e1]
  exact hP1
end AuxA
