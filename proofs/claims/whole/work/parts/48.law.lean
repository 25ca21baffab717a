section LawA
/-- what holds all through the law: its start, where the world lies, the tables, what a throw needs -/
def lC (p : Program) (l : Launch) (s : State) (m : MethodId) (meth : Method) (c : Code) (b L : Nat) (xs : Nat → Int32) (D : va_G) (cs : Nat → ClassId) (ad : Nat → Nat) : Prop :=
  p.tables.exec = Jvm.exec ∧ c.code = cL_law ∧ c.maxLocals = 8 ∧ s.vm.findClass RL = some m.cls ∧ (∀ w ∈ big, w.before #[Value.ref b] s = true) ∧ va_X b L xs s s.heap ∧ b < s.heap.size ∧ L ≤ 3584 ∧ gI ad ∧ (∀ i, i < NC → s.heap.size ≤ ad i) ∧ va_K D vwCl (gt cs) s ∧ gX (fun q => s.heap.size ≤ q) s ∧ l.stackTraces = false
theorem gA_new {ad : Nat → Nat} {z z' : Nat} (hnew : ∀ i, i < NC → z ≤ ad i) (hz : z ≤ z') : ∀ q, gA NC ad z' q → z ≤ q := fun q h => by
  rcases h with ⟨i, hi, rfl⟩ | h
  · exact hnew i hi
  · exact Nat.le_trans hz h
theorem gX_atL {ad : Nat → Nat} {s U : State} {H : Heap} {locs : List Loc} (h : gX (fun q => s.heap.size ≤ q) s) (hS : va_S (fun q => s.heap.size ≤ q) s.heap H locs) (hnew : ∀ i, i < NC → s.heap.size ≤ ad i) (hU : U.heap = H) (hW : s.WarmedH U.vm) : gX (gA NC ad H.size) U := by
  obtain ⟨h1, h2, h3, h4⟩ := h
  refine ⟨fun q hq => ?_, ?_, ?_, va_Nc.moved hW.alike h4⟩
  · obtain ⟨a, ha⟩ := h1 q hq
    exact ⟨a, vk_R.warm hW ha⟩
  · rw [hU]
    exact vx_Zq.narrow (vx_Zq.moved hW.alike (vx_Zq.kept h2 hS.2.1)) (gA_new hnew hS.1)
  · rw [hU]
    exact vx_Zq.narrow (vx_Zq.moved hW.alike (vx_Zq.kept h3 hS.2.1)) (gA_new hnew hS.1)
theorem g_psL {As : List Value} {D : va_G} {cs : Nat → ClassId} {ad : Nat → Nat} {σ : Nat → Nat → Int32} {τ : Nat → Nat → Int64} {s : State} {H : Heap} {locs : List Loc} (hK : va_K D vwCl (gt cs) s) (hP : va_P D vwCl (gW cs ad σ τ) H) (hX : gX (fun q => s.heap.size ≤ q) s) (hS : va_S (fun q => s.heap.size ≤ q) s.heap H locs) (hnew : ∀ i, i < NC → s.heap.size ≤ ad i) : PreS s H (va_Pc As (gPX D cs ad σ τ H.size)) As :=
  ⟨gPX_blind, fun U hU hW => ⟨rfl, ⟨by rw [hU], by rw [hU]; exact hP, va_K.moved hW.alike hK⟩, gX_atL hX hS hnew hU hW⟩⟩
/-- what the reference's make asks -/
def rmk_ok (σ : Nat → Nat → Int32) : Prop :=
  (0 ≤ ((s_rcut (L_m1 σ (w2 (w2 σ 35 0 (0 : Int32)) 35 7 (3 : Int32)) 96) (0 : Int32)) 35 7).toInt ∧ ((s_rcut (L_m1 σ (w2 (w2 σ 35 0 (0 : Int32)) 35 7 (3 : Int32)) 96) (0 : Int32)) 35 7).toInt ≤ 4) ∧
  rng ((s_rcut (s_rcut (L_m1 σ (w2 (w2 σ 35 0 (0 : Int32)) 35 7 (3 : Int32)) 96) (0 : Int32)) (1 : Int32)) 35 7) ∧
  ∀ k : Nat, k < ((s_rcut (s_rcut (L_m1 σ (w2 (w2 σ 35 0 (0 : Int32)) 35 7 (3 : Int32)) 96) (0 : Int32)) (1 : Int32)) 35 7).toNatClampNeg → ¬ (s_rcut (s_rcut (L_m1 σ (w2 (w2 σ 35 0 (0 : Int32)) 35 7 (3 : Int32)) 96) (0 : Int32)) (1 : Int32)) 40 (((32 : Int32) * nI k) + 3).toNatClampNeg = 0
end LawA
