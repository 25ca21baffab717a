section AuxL
theorem m2_w0 {X E : Nat → Nat → Int32} {v : Int32} {k : Nat} (h : X 40 = E 40) (e : v = nI k) (hw : ¬ E 40 (((32 : Int32) * nI k) + 3).toNatClampNeg = 0) : ¬ X 40 (((32 : Int32) * v) + 3).toNatClampNeg = 0 := by
  rw [h, e]
  exact hw
theorem m2_w1 {X E : Nat → Nat → Int32} {v : Int32} {k : Nat} (h : X 40 = E 40) (e : v = nI k) (hw : ¬ E 40 (((32 : Int32) * nI k) + 3).toNatClampNeg = 0) : ¬ (X 40 (((32 : Int32) * v) + 3).toNatClampNeg).toInt64 = 0 := by
  intro h1
  refine m2_w0 h e hw ?_
  have h2 := congrArg Int64.toInt h1
  rw [Int32.toInt_toInt64] at h2
  exact Int32.toInt_inj.mp (by rw [h2]; rfl)
end AuxL
