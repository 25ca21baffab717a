section StartA
theorem at_int {D : va_G} {cl : List vw_C} {a n : Nat} {c : ClassId} {f g : Nat → Int32} {H : Heap} (hat : va_at D cl (a, .inl (c, n, .inl f)) H) (h : ∀ j, j < n → f j = g j) : va_at D cl (a, .inl (c, n, .inl g)) H := by
  show H[a]? = some (arrV c n (fun j => .int (g j)))
  have h1 : H[a]? = some (arrV c n (fun j => .int (f j))) := hat
  rw [h1]
  unfold arrV
  congr 3
  funext j
  dsimp only
  rw [h j.val j.isLt]
theorem at_ref {D : va_G} {cl : List vw_C} {a n : Nat} {c : ClassId} {f g : Nat → Option Nat} {H : Heap} (hat : va_at D cl (a, .inl (c, n, .inr (.inr (.inr (.inr f))))) H) (h : ∀ j, j < n → f j = g j) : va_at D cl (a, .inl (c, n, .inr (.inr (.inr (.inr g))))) H := by
  show H[a]? = some (arrV c n (fun j => va_rf (g j)))
  have h1 : H[a]? = some (arrV c n (fun j => va_rf (f j))) := hat
  rw [h1]
  unfold arrV
  congr 3
  funext j
  dsimp only
  rw [h j.val j.isLt]
/-- the table at the start -/
def σ0 : Nat → Nat → Int32 := fun i j =>
  if i = 12 ∧ j = 1 then 3 else if (i = 33 ∨ i = 39) ∧ (j = 2 ∨ j = 3) then 1 else if (i = 33 ∨ i = 39) ∧ j = 5 then 16777215 else 0
def τ0 : Nat → Nat → Int64 := fun _ _ => 0
theorem σ0_row {i : Nat} (h1 : i ≠ 12) (h2 : i ≠ 33) (h3 : i ≠ 39) (j : Nat) : (0 : Int32) = σ0 i j := by
  unfold σ0
  rw [if_neg (fun h => h1 h.1), if_neg (fun h => h.1.elim h2 h3), if_neg (fun h => h.1.elim h2 h3)]
theorem arr_cls {D : va_G} {args : Array Value} {s : State} (hKc : ∀ (k : Nat) (q : vw_C), vwCl[k]? = some q → u_Kn s q.1 q.2.1 q.2.2 (D.1 k) (D.2 k)) (ht : ∀ w ∈ big, w.before args s = true) : ∃ cs : Nat → ClassId, va_K D vwCl (gt cs) s := by
  obtain ⟨c0, k0, p0, a1, a2, a3⟩ := Cond.arrayClass_spec (ht _ tw_32)
  obtain ⟨p1, c1, k1, b1, b2, b3, b4⟩ := Cond.arrayOver_specA (ht _ tw_60)
  obtain ⟨p2, c2, k2, d1, -, d2, d3, d4⟩ := Cond.arrayOver_spec (ht _ tw_34)
  obtain ⟨c3, k3, p3, e1, e2, e3⟩ := Cond.arrayClass_spec (ht _ tw_616)
  refine ⟨fun i => if i = 0 then c0 else if i = 1 then c1 else if i = 2 then c2 else c3, hKc, fun k q hq => ?_⟩
  match k, hq with
  | 0, hq => cases hq; exact ⟨fun N z => ⟨(fun q hq => by cases hq), k0, a2, p0, a3⟩, a1⟩
  | 1, hq => cases hq; exact ⟨fun N z => ⟨(fun q hq => by cases hq), k1, b2, p1, b3⟩, b4⟩
  | 2, hq => cases hq; exact ⟨fun N z => ⟨(fun q hq => by cases hq), k2, d2, p2, d3⟩, k2, p2, d2, d3, d1, d4⟩
  | 3, hq => cases hq; exact ⟨fun N z => ⟨(fun q hq => by cases hq), k3, e2, p3, e3⟩, e1⟩
  | k + 4, hq => simp [gt] at hq
end StartA
