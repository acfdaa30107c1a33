/-! the calls that set and ask: put to wrap, place, nodes, node, printed -/
theorem hh_ge0 {n : Nat} {x : Int32} (h : nI n ≤ x) (hn : n < 2147483648) : ¬ x < 0 := by
  rw [Int32.le_iff_toInt_le, nI_toInt hn] at h
  rw [Int32.lt_iff_toInt_lt]
  have z : (0 : Int32).toInt = 0 := by decide
  omega
theorem hh_gt {n : Nat} {x : Int32} (h : nI (n + 1) ≤ x) (hn : n + 1 < 2147483648) : nI n < x := by
  rw [Int32.le_iff_toInt_le, nI_toInt hn] at h
  rw [Int32.lt_iff_toInt_lt, nI_toInt (by omega)]
  omega
theorem hh_n0 {n : Nat} (h : n < 2147483648) : ¬ nI n < 0 := nI_pos h
theorem i_vc_put {k : Nat} {u : SX} {v : SY} (I : i_Rel k u v) (hk : k + 6 ≤ 3072) (v1 : Int32) : wpX_put (fun r u' => wpY_put (fun r' v' => r' = r ∧ i_Rel (k + 6) u' v') v v1) u v1 := by
  obtain ⟨x_nodeCount, x_bound, x_fault, x_faultPlace, x_mode, x_at, x_tokenStart, x_textCount, x_escaped, x_valueSlot, x_valueName, x_depth, x_outputLength, x_text, x_typeKind, x_typeDetail, x_typeLeast, x_typeMost, x_fieldCount, x_fieldName, x_fieldType, x_fieldNeeded, x_tagType, x_nodeKind, x_nodeValue, x_nodeParent, x_nodeName, x_nodeSlot, x_nodeStart, x_nodeTag, x_completeCount, x_openNode, x_openSlot, x_openNames, x_openNext, x_openComma, x_output, y_parts, y_bad, y_nodes, y_fault, y_depth, y_nextName, y_wantsName, y_wantsTag, y_waiting, y_scaled, y_typeA, y_typeB, y_typeC, y_fields, y_tags, y_begin, y_end, y_inside, y_whole, y_kind, y_value, y_parent, y_name, y_slotOf, y_placeOf, y_complete, y_openNode, y_openType, y_openCount, y_openNames, y_openChoice, y_todo, L, rfl, rfl, hT, hB⟩ := I
  rcases pk_ix v1 (n := 32) (by decide) with h | h | ⟨c, hc, rfl⟩
  · exact br_t h (br_t h (br_t rfl ⟨rfl, rl_mk hT hB⟩))
  · exact br_f (hh_ge0 h (by decide)) (br_t h (br_f (hh_ge0 h (by decide)) (br_t (hh_gt (n := 31) h (by decide)) (br_t rfl ⟨rfl, rl_mk hT hB⟩))))
  · have h0 : ¬ nI c < 0 := nI_pos (by omega)
    have h1 : ¬ (32 : Int32) ≤ nI c := nI_ge (b := 32) hc (by decide)
    have h2 : ¬ (31 : Int32) < nI c := nI_nlt (b := c) (a := 31) (by omega) (by omega)
    have hL := hT.1
    rcases Nat.lt_or_ge L 96 with z | z
    · have e : nI L < 96 := nI_lt (b := 96) z (by decide)
      have e' : ¬ nI L = 96 := fun q => by have := hh_i (by omega) (by decide) (m := 96) q; omega
      have i : vp_in (nI L) 96 := vp_in_nI z (by decide)
      exact br_f h0 (br_f h1 (br_t e ⟨i, nm_e (nm_r (nI_1 L) (br_f h0 (br_f h2 (br_f (by decide) (br_f e' ⟨i, nm_e (nm_r (nI_1 L) ⟨rfl, rl_mk (L := L + 1) ⟨by omega, tt_u hT.2.1 hc _, hT.2.2⟩ (Or.inl rfl)⟩)⟩)))))⟩))
    · have e : L = 96 := by omega
      subst e
      exact br_f h0 (br_f h1 (br_f (by decide) (br_f h0 (br_f h2 (br_f (by decide) (br_t rfl ⟨rfl, rl_mk hT hB⟩))))))
theorem i_vc_wipe {k : Nat} {u : SX} {v : SY} (I : i_Rel k u v) (hk : k + 6 ≤ 3072) : wpX_wipe (fun r u' => wpY_wipe (fun r' v' => r' = r ∧ i_Rel (k + 6) u' v') v) u := by
  obtain ⟨x_nodeCount, x_bound, x_fault, x_faultPlace, x_mode, x_at, x_tokenStart, x_textCount, x_escaped, x_valueSlot, x_valueName, x_depth, x_outputLength, x_text, x_typeKind, x_typeDetail, x_typeLeast, x_typeMost, x_fieldCount, x_fieldName, x_fieldType, x_fieldNeeded, x_tagType, x_nodeKind, x_nodeValue, x_nodeParent, x_nodeName, x_nodeSlot, x_nodeStart, x_nodeTag, x_completeCount, x_openNode, x_openSlot, x_openNames, x_openNext, x_openComma, x_output, y_parts, y_bad, y_nodes, y_fault, y_depth, y_nextName, y_wantsName, y_wantsTag, y_waiting, y_scaled, y_typeA, y_typeB, y_typeC, y_fields, y_tags, y_begin, y_end, y_inside, y_whole, y_kind, y_value, y_parent, y_name, y_slotOf, y_placeOf, y_complete, y_openNode, y_openType, y_openCount, y_openNames, y_openChoice, y_todo, L, rfl, rfl, hT, hB⟩ := I
  exact ⟨rfl, rl_mk (L := 0) ⟨by omega, hT.2⟩ (Or.inl rfl)⟩
theorem i_vc_place {k : Nat} {u : SX} {v : SY} (I : i_Rel k u v) (hk : k + 6 ≤ 3072) : wpX_place (fun r => wpY_place (fun r' => r' = r ∧ i_Rel (k + 6) u v) v) u := by
  obtain ⟨x_nodeCount, x_bound, x_fault, x_faultPlace, x_mode, x_at, x_tokenStart, x_textCount, x_escaped, x_valueSlot, x_valueName, x_depth, x_outputLength, x_text, x_typeKind, x_typeDetail, x_typeLeast, x_typeMost, x_fieldCount, x_fieldName, x_fieldType, x_fieldNeeded, x_tagType, x_nodeKind, x_nodeValue, x_nodeParent, x_nodeName, x_nodeSlot, x_nodeStart, x_nodeTag, x_completeCount, x_openNode, x_openSlot, x_openNames, x_openNext, x_openComma, x_output, y_parts, y_bad, y_nodes, y_fault, y_depth, y_nextName, y_wantsName, y_wantsTag, y_waiting, y_scaled, y_typeA, y_typeB, y_typeC, y_fields, y_tags, y_begin, y_end, y_inside, y_whole, y_kind, y_value, y_parent, y_name, y_slotOf, y_placeOf, y_complete, y_openNode, y_openType, y_openCount, y_openNames, y_openChoice, y_todo, L, rfl, rfl, hT, hB⟩ := I
  exact ⟨rfl, rl_mk hT hB⟩
theorem i_vc_nodes {k : Nat} {u : SX} {v : SY} (I : i_Rel k u v) (hk : k + 6 ≤ 3072) : wpX_nodes (fun r => wpY_nodes (fun r' => r' = r ∧ i_Rel (k + 6) u v) v) u := by
  obtain ⟨x_nodeCount, x_bound, x_fault, x_faultPlace, x_mode, x_at, x_tokenStart, x_textCount, x_escaped, x_valueSlot, x_valueName, x_depth, x_outputLength, x_text, x_typeKind, x_typeDetail, x_typeLeast, x_typeMost, x_fieldCount, x_fieldName, x_fieldType, x_fieldNeeded, x_tagType, x_nodeKind, x_nodeValue, x_nodeParent, x_nodeName, x_nodeSlot, x_nodeStart, x_nodeTag, x_completeCount, x_openNode, x_openSlot, x_openNames, x_openNext, x_openComma, x_output, y_parts, y_bad, y_nodes, y_fault, y_depth, y_nextName, y_wantsName, y_wantsTag, y_waiting, y_scaled, y_typeA, y_typeB, y_typeC, y_fields, y_tags, y_begin, y_end, y_inside, y_whole, y_kind, y_value, y_parent, y_name, y_slotOf, y_placeOf, y_complete, y_openNode, y_openType, y_openCount, y_openNames, y_openChoice, y_todo, L, rfl, rfl, hT, hB⟩ := I
  have hB' := hB
  rcases hB' with rfl | ⟨rfl, N, dp, -, rfl, rfl, -⟩
  · exact br_t rfl (br_t rfl ⟨rfl, rl_mk hT hB⟩)
  · exact br_f (by decide) (br_f (by decide) ⟨rfl, rl_mk hT hB⟩)
theorem i_vc_printed {k : Nat} {u : SX} {v : SY} (I : i_Rel k u v) (hk : k + 6 ≤ 3072) (v1 : Int32) : wpX_printed (fun r => wpY_printed (fun r' => r' = r ∧ i_Rel (k + 6) u v) v v1) u v1 := by
  obtain ⟨x_nodeCount, x_bound, x_fault, x_faultPlace, x_mode, x_at, x_tokenStart, x_textCount, x_escaped, x_valueSlot, x_valueName, x_depth, x_outputLength, x_text, x_typeKind, x_typeDetail, x_typeLeast, x_typeMost, x_fieldCount, x_fieldName, x_fieldType, x_fieldNeeded, x_tagType, x_nodeKind, x_nodeValue, x_nodeParent, x_nodeName, x_nodeSlot, x_nodeStart, x_nodeTag, x_completeCount, x_openNode, x_openSlot, x_openNames, x_openNext, x_openComma, x_output, y_parts, y_bad, y_nodes, y_fault, y_depth, y_nextName, y_wantsName, y_wantsTag, y_waiting, y_scaled, y_typeA, y_typeB, y_typeC, y_fields, y_tags, y_begin, y_end, y_inside, y_whole, y_kind, y_value, y_parent, y_name, y_slotOf, y_placeOf, y_complete, y_openNode, y_openType, y_openCount, y_openNames, y_openChoice, y_todo, L, rfl, rfl, hT, hB⟩ := I
  have R : i_Rel (k + 6) (nI L, x_nodeCount, x_bound, x_fault, x_faultPlace, x_mode, x_at, x_tokenStart, x_textCount, x_escaped, x_valueSlot, x_valueName, x_depth, x_outputLength, x_text, x_typeKind, x_typeDetail, x_typeLeast, x_typeMost, x_fieldCount, x_fieldName, x_fieldType, x_fieldNeeded, x_tagType, x_nodeKind, x_nodeValue, x_nodeParent, x_nodeName, x_nodeSlot, x_nodeStart, x_nodeTag, x_completeCount, x_openNode, x_openSlot, x_openNames, x_openNext, x_openComma, x_output) (nI L, y_parts, y_bad, y_nodes, y_fault, x_faultPlace, x_bound, y_depth, y_nextName, y_wantsName, y_wantsTag, x_outputLength, y_waiting, y_scaled, x_typeKind, y_typeA, y_typeB, y_typeC, x_fieldName, x_fieldType, y_fields, y_tags, x_fieldNeeded, x_text, y_begin, y_end, y_inside, y_whole, y_kind, y_value, y_parent, y_name, y_slotOf, y_placeOf, y_complete, y_openNode, y_openType, y_openCount, y_openNames, y_openChoice, x_output, y_todo) := rl_mk hT hB
  by_cases h0 : v1 < 0
  · exact br_t h0 (br_t h0 ⟨rfl, R⟩)
  · by_cases h1 : x_outputLength ≤ v1
    · exact br_f h0 (br_t h1 (br_f h0 (br_t h1 ⟨rfl, R⟩)))
    · rcases pk_ix v1 (n := 192) (by decide) with h | h | ⟨c, hc, rfl⟩
      · exact absurd h h0
      · have h2 : ¬ v1 < 192 := Int32.not_lt.mpr h
        have h3 : ¬ v1 ≤ 191 := Int32.not_le.mpr (hh_gt (n := 191) h (by decide))
        exact br_f h0 (br_f h1 (br_f h2 (br_f h0 (br_f h1 (br_f h3 ⟨rfl, R⟩)))))
      · have h2 : nI c < 192 := nI_lt (b := 192) hc (by decide)
        have h3 : nI c ≤ 191 := nI_le (b := 191) (by omega) (by decide)
        have i : vp_in (nI c) 192 := vp_in_nI hc (by decide)
        exact br_f h0 (br_f h1 (br_t h2 ⟨i, br_f h0 (br_f h1 (br_t h3 ⟨i, rfl, R⟩))⟩))
theorem i_vc_node {k : Nat} {u : SX} {v : SY} (I : i_Rel k u v) (hk : k + 6 ≤ 3072) (v1 : Int32) (v2 : Int32) : wpX_node (fun r => wpY_node (fun r' => r' = r ∧ i_Rel (k + 6) u v) v v1 v2) u v1 v2 := by
  obtain ⟨x_nodeCount, x_bound, x_fault, x_faultPlace, x_mode, x_at, x_tokenStart, x_textCount, x_escaped, x_valueSlot, x_valueName, x_depth, x_outputLength, x_text, x_typeKind, x_typeDetail, x_typeLeast, x_typeMost, x_fieldCount, x_fieldName, x_fieldType, x_fieldNeeded, x_tagType, x_nodeKind, x_nodeValue, x_nodeParent, x_nodeName, x_nodeSlot, x_nodeStart, x_nodeTag, x_completeCount, x_openNode, x_openSlot, x_openNames, x_openNext, x_openComma, x_output, y_parts, y_bad, y_nodes, y_fault, y_depth, y_nextName, y_wantsName, y_wantsTag, y_waiting, y_scaled, y_typeA, y_typeB, y_typeC, y_fields, y_tags, y_begin, y_end, y_inside, y_whole, y_kind, y_value, y_parent, y_name, y_slotOf, y_placeOf, y_complete, y_openNode, y_openType, y_openCount, y_openNames, y_openChoice, y_todo, L, rfl, rfl, hT, hB⟩ := I
  have R : i_Rel (k + 6) (nI L, x_nodeCount, x_bound, x_fault, x_faultPlace, x_mode, x_at, x_tokenStart, x_textCount, x_escaped, x_valueSlot, x_valueName, x_depth, x_outputLength, x_text, x_typeKind, x_typeDetail, x_typeLeast, x_typeMost, x_fieldCount, x_fieldName, x_fieldType, x_fieldNeeded, x_tagType, x_nodeKind, x_nodeValue, x_nodeParent, x_nodeName, x_nodeSlot, x_nodeStart, x_nodeTag, x_completeCount, x_openNode, x_openSlot, x_openNames, x_openNext, x_openComma, x_output) (nI L, y_parts, y_bad, y_nodes, y_fault, x_faultPlace, x_bound, y_depth, y_nextName, y_wantsName, y_wantsTag, x_outputLength, y_waiting, y_scaled, x_typeKind, y_typeA, y_typeB, y_typeC, x_fieldName, x_fieldType, y_fields, y_tags, x_fieldNeeded, x_text, y_begin, y_end, y_inside, y_whole, y_kind, y_value, y_parent, y_name, y_slotOf, y_placeOf, y_complete, y_openNode, y_openType, y_openCount, y_openNames, y_openChoice, x_output, y_todo) := rl_mk hT hB
  rcases hB with rfl | ⟨rfl, N, dp, -, rfl, rfl, e0, e1, e2, e3, -, -, hN, -⟩
  · exact br_t rfl (br_t rfl ⟨rfl, R⟩)
  · have hb : ¬ (1 : Int32) = 0 := by decide
    rcases pk_ix v1 (n := N) (by omega) with h | h | ⟨c, hc, rfl⟩
    · exact br_f hb (br_t h (br_f hb (br_t h ⟨rfl, R⟩)))
    · have h0 := hh_ge0 h (by omega)
      exact br_f hb (br_f h0 (br_f (Int32.not_lt.mpr h) (br_f hb (br_f h0 (br_t h ⟨rfl, R⟩)))))
    · have h0 : ¬ nI c < 0 := nI_pos (by omega)
      have h1 : nI c < nI N := nI_lt hc (by omega)
      have h2 : ¬ nI N ≤ nI c := nI_ge hc (by omega)
      have i : vp_in (nI c) 40 := vp_in_nI (by omega) (by decide)
      have ec : (nI c).toNatClampNeg = c := nI_clamp (by omega)
      refine br_f hb (br_f h0 (br_t h1 ?_))
      rcases pk_ix v2 (n := 4) (by decide) with w | w | ⟨d, hd, rfl⟩
      · exact br_t w (br_f hb (br_f h0 (br_f h2 (br_t w (br_t rfl ⟨rfl, R⟩)))))
      · have w0 := hh_ge0 w (by decide)
        have w3 : (3 : Int32) < v2 := hh_gt (n := 3) w (by decide)
        exact br_f w0 (br_t w3 (br_f hb (br_f h0 (br_f h2 (br_f w0 (br_t w3 (br_t rfl ⟨rfl, R⟩)))))))
      · have w0 : ¬ nI d < 0 := nI_pos (by omega)
        have w3 : ¬ (3 : Int32) < nI d := nI_nlt (b := d) (a := 3) (by omega) (by omega)
        refine br_f w0 (br_f w3 ?_)
        have hd' : d = 0 ∨ d = 1 ∨ d = 2 ∨ d = 3 := by omega
        rcases hd' with rfl | rfl | rfl | rfl
        · exact br_t rfl ⟨i, br_f hb (br_f h0 (br_f h2 (br_f w0 (br_f w3 (br_f (by decide) (br_t rfl ⟨i, by rw [ec]; exact e0 c hc, R⟩))))))⟩
        · exact br_f (by decide) (br_t rfl ⟨i, br_f hb (br_f h0 (br_f h2 (br_f w0 (br_f w3 (br_f (by decide) (br_f (by decide) (br_t rfl ⟨i, by rw [ec]; exact e1 c hc, R⟩)))))))⟩)
        · exact br_f (by decide) (br_f (by decide) (br_t rfl ⟨i, br_f hb (br_f h0 (br_f h2 (br_f w0 (br_f w3 (br_f (by decide) (br_f (by decide) (br_f (by decide) (br_t rfl ⟨i, by rw [ec]; exact e2 c hc, R⟩))))))))⟩))
        · exact br_f (by decide) (br_f (by decide) (br_f (by decide) (br_t rfl ⟨i, br_f hb (br_f h0 (br_f h2 (br_f w0 (br_f w3 (br_f (by decide) (br_f (by decide) (br_f (by decide) (br_f (by decide) ⟨i, by rw [ec]; exact e3 c hc, R⟩))))))))⟩)))
