section StartB
set_option maxRecDepth 100000 in
theorem gX_start {p : Program} {s : State} {m : MethodId} {meth : Method} {c : Code} {b L : Nat} {xs : Nat → Int32} (C0 : lw_At p s m meth c b L xs) : gX (fun q => s.heap.size ≤ q) s := by
  obtain ⟨hx, hb, hr, hml, hown, hts, hXs, hbl, hlocks, hgv⟩ := C0
  have hs := flat_of_before _ hgv
  have hA : ∀ a : Nat, a < s.heap.size → ¬ (fun q => s.heap.size ≤ q) a := fun a h => Nat.not_le.mpr h
  refine ⟨?_, ?_, ?_, ?_⟩
  · intro q hq
    have hq2 : q = (53, "no such word") ∨ q = (64, "no such attribute, or below 0") ∨ q = (67, "no such parts or type") ∨ q = (73, "no such attribute, part or vertex") ∨ q = (79, "no such type, or below 0") ∨ q = (92, "no such mode, or below 0") ∨ q = (99, "no such mode, triangle or corner") ∨ q = (107, "no such corner") ∨ q = (113, "no such corner or varying") ∨ q = (119, "too far off") ∨ q = (121, "no such size") ∨ q = (124, "no such depth") ∨ q = (128, "no such sides") ∨ q = (149, "no such triangle") ∨ q = (159, "no such corner or number") := by
      simpa [strW] using hq
    rcases hq2 with rfl | rfl | rfl | rfl | rfl | rfl | rfl | rfl | rfl | rfl | rfl | rfl | rfl | rfl | rfl
    · obtain ⟨a, _, _, _, ha, -⟩ := Cond.exactly_spec (hs (Cond.exactly (.string RV 53) "java/lang/String") (by decide +kernel))
      exact ⟨a, vk_R.of (hts (Cond.stringRef RV 53 "no such word") (List.mem_append_right _ (List.mem_of_getElem? (i := 245) (by decide +kernel)))) ha⟩
    · obtain ⟨a, _, _, _, ha, -⟩ := Cond.exactly_spec (hs (Cond.exactly (.string RV 64) "java/lang/String") (by decide +kernel))
      exact ⟨a, vk_R.of (hts (Cond.stringRef RV 64 "no such attribute, or below 0") (List.mem_append_right _ (List.mem_of_getElem? (i := 299) (by decide +kernel)))) ha⟩
    · obtain ⟨a, _, _, _, ha, -⟩ := Cond.exactly_spec (hs (Cond.exactly (.string RV 67) "java/lang/String") (by decide +kernel))
      exact ⟨a, vk_R.of (hts (Cond.stringRef RV 67 "no such parts or type") (List.mem_append_right _ (List.mem_of_getElem? (i := 306) (by decide +kernel)))) ha⟩
    · obtain ⟨a, _, _, _, ha, -⟩ := Cond.exactly_spec (hs (Cond.exactly (.string RV 73) "java/lang/String") (by decide +kernel))
      exact ⟨a, vk_R.of (hts (Cond.stringRef RV 73 "no such attribute, part or vertex") (List.mem_append_right _ (List.mem_of_getElem? (i := 318) (by decide +kernel)))) ha⟩
    · obtain ⟨a, _, _, _, ha, -⟩ := Cond.exactly_spec (hs (Cond.exactly (.string RV 79) "java/lang/String") (by decide +kernel))
      exact ⟨a, vk_R.of (hts (Cond.stringRef RV 79 "no such type, or below 0") (List.mem_append_right _ (List.mem_of_getElem? (i := 341) (by decide +kernel)))) ha⟩
    · obtain ⟨a, _, _, _, ha, -⟩ := Cond.exactly_spec (hs (Cond.exactly (.string RV 92) "java/lang/String") (by decide +kernel))
      exact ⟨a, vk_R.of (hts (Cond.stringRef RV 92 "no such mode, or below 0") (List.mem_append_right _ (List.mem_of_getElem? (i := 352) (by decide +kernel)))) ha⟩
    · obtain ⟨a, _, _, _, ha, -⟩ := Cond.exactly_spec (hs (Cond.exactly (.string RV 99) "java/lang/String") (by decide +kernel))
      exact ⟨a, vk_R.of (hts (Cond.stringRef RV 99 "no such mode, triangle or corner") (List.mem_append_right _ (List.mem_of_getElem? (i := 361) (by decide +kernel)))) ha⟩
    · obtain ⟨a, _, _, _, ha, -⟩ := Cond.exactly_spec (hs (Cond.exactly (.string RV 107) "java/lang/String") (by decide +kernel))
      exact ⟨a, vk_R.of (hts (Cond.stringRef RV 107 "no such corner") (List.mem_append_right _ (List.mem_of_getElem? (i := 375) (by decide +kernel)))) ha⟩
    · obtain ⟨a, _, _, _, ha, -⟩ := Cond.exactly_spec (hs (Cond.exactly (.string RV 113) "java/lang/String") (by decide +kernel))
      exact ⟨a, vk_R.of (hts (Cond.stringRef RV 113 "no such corner or varying") (List.mem_append_right _ (List.mem_of_getElem? (i := 387) (by decide +kernel)))) ha⟩
    · obtain ⟨a, _, _, _, ha, -⟩ := Cond.exactly_spec (hs (Cond.exactly (.string RV 119) "java/lang/String") (by decide +kernel))
      exact ⟨a, vk_R.of (hts (Cond.stringRef RV 119 "too far off") (List.mem_append_right _ (List.mem_of_getElem? (i := 398) (by decide +kernel)))) ha⟩
    · obtain ⟨a, _, _, _, ha, -⟩ := Cond.exactly_spec (hs (Cond.exactly (.string RV 121) "java/lang/String") (by decide +kernel))
      exact ⟨a, vk_R.of (hts (Cond.stringRef RV 121 "no such size") (List.mem_append_right _ (List.mem_of_getElem? (i := 399) (by decide +kernel)))) ha⟩
    · obtain ⟨a, _, _, _, ha, -⟩ := Cond.exactly_spec (hs (Cond.exactly (.string RV 124) "java/lang/String") (by decide +kernel))
      exact ⟨a, vk_R.of (hts (Cond.stringRef RV 124 "no such depth") (List.mem_append_right _ (List.mem_of_getElem? (i := 401) (by decide +kernel)))) ha⟩
    · obtain ⟨a, _, _, _, ha, -⟩ := Cond.exactly_spec (hs (Cond.exactly (.string RV 128) "java/lang/String") (by decide +kernel))
      exact ⟨a, vk_R.of (hts (Cond.stringRef RV 128 "no such sides") (List.mem_append_right _ (List.mem_of_getElem? (i := 413) (by decide +kernel)))) ha⟩
    · obtain ⟨a, _, _, _, ha, -⟩ := Cond.exactly_spec (hs (Cond.exactly (.string RV 149) "java/lang/String") (by decide +kernel))
      exact ⟨a, vk_R.of (hts (Cond.stringRef RV 149 "no such triangle") (List.mem_append_right _ (List.mem_of_getElem? (i := 421) (by decide +kernel)))) ha⟩
    · obtain ⟨a, _, _, _, ha, -⟩ := Cond.exactly_spec (hs (Cond.exactly (.string RV 159) "java/lang/String") (by decide +kernel))
      exact ⟨a, vk_R.of (hts (Cond.stringRef RV 159 "no such corner or number") (List.mem_append_right _ (List.mem_of_getElem? (i := 437) (by decide +kernel)))) ha⟩
  · exact vx_Zqof (hts (Cond.laysStatic Bundle.tN "UNASSIGNED_STACK" Bundle.steD) (List.mem_append_right _ (List.mem_of_getElem? (i := 232) (by decide +kernel)))) (hts (Cond.initialized Bundle.tN) (List.mem_append_right _ (List.mem_of_getElem? (i := 7) (by decide +kernel)))) (hs (Cond.isRef (.static Bundle.tN "UNASSIGNED_STACK" Bundle.steD)) (by decide +kernel)) hA
  · exact vx_Zqof (hts (Cond.laysStatic Bundle.tN "SUPPRESSED_SENTINEL" Bundle.listD) (List.mem_append_right _ (List.mem_of_getElem? (i := 234) (by decide +kernel)))) (hts (Cond.initialized Bundle.tN) (List.mem_append_right _ (List.mem_of_getElem? (i := 7) (by decide +kernel)))) (hs (Cond.isRef (.static Bundle.tN "SUPPRESSED_SENTINEL" Bundle.listD)) (by decide +kernel)) hA
  · exact va_Nc.of (hs (Cond.not (Cond.castable xA xI)) (by decide +kernel))
end StartB
