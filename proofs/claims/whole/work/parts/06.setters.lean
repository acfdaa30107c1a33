/-! simple, list, members, wrap, tag, field -/
theorem hh_ne {x : Int32} {n c : Nat} (h : x < 0 ∨ nI n ≤ x) (hc : c < n) (hn : n < 1000) : ¬ x = nI c := by
  rintro rfl
  rcases h with h | h
  · exact nI_pos (by omega) h
  · exact nI_ge hc (by omega) h
theorem i_vc_simple {k : Nat} {u : SX} {v : SY} (I : i_Rel k u v) (hk : k + 6 ≤ 3072) (v1 : Int32) (v2 : Int32) (v3 : Int32) (v4 : Int32) (v5 : Int32) : wpX_simple (fun r u' => wpY_simple (fun r' v' => r' = r ∧ i_Rel (k + 6) u' v') v v1 v2 v3 v4 v5) u v1 v2 v3 v4 v5 := by
  obtain ⟨x_nodeCount, x_bound, x_fault, x_faultPlace, x_mode, x_at, x_tokenStart, x_textCount, x_escaped, x_valueSlot, x_valueName, x_depth, x_outputLength, x_text, x_typeKind, x_typeDetail, x_typeLeast, x_typeMost, x_fieldCount, x_fieldName, x_fieldType, x_fieldNeeded, x_tagType, x_nodeKind, x_nodeValue, x_nodeParent, x_nodeName, x_nodeSlot, x_nodeStart, x_nodeTag, x_completeCount, x_openNode, x_openSlot, x_openNames, x_openNext, x_openComma, x_output, y_parts, y_bad, y_nodes, y_fault, y_depth, y_nextName, y_wantsName, y_wantsTag, y_waiting, y_scaled, y_typeA, y_typeB, y_typeC, y_fields, y_tags, y_begin, y_end, y_inside, y_whole, y_kind, y_value, y_parent, y_name, y_slotOf, y_placeOf, y_complete, y_openNode, y_openType, y_openCount, y_openNames, y_openChoice, y_todo, L, rfl, rfl, hT, hB⟩ := I
  have R : i_Rel (k + 6) (nI L, x_nodeCount, x_bound, x_fault, x_faultPlace, x_mode, x_at, x_tokenStart, x_textCount, x_escaped, x_valueSlot, x_valueName, x_depth, x_outputLength, x_text, x_typeKind, x_typeDetail, x_typeLeast, x_typeMost, x_fieldCount, x_fieldName, x_fieldType, x_fieldNeeded, x_tagType, x_nodeKind, x_nodeValue, x_nodeParent, x_nodeName, x_nodeSlot, x_nodeStart, x_nodeTag, x_completeCount, x_openNode, x_openSlot, x_openNames, x_openNext, x_openComma, x_output) (nI L, y_parts, y_bad, y_nodes, y_fault, x_faultPlace, x_bound, y_depth, y_nextName, y_wantsName, y_wantsTag, x_outputLength, y_waiting, y_scaled, x_typeKind, y_typeA, y_typeB, y_typeC, x_fieldName, x_fieldType, y_fields, y_tags, x_fieldNeeded, x_text, y_begin, y_end, y_inside, y_whole, y_kind, y_value, y_parent, y_name, y_slotOf, y_placeOf, y_complete, y_openNode, y_openType, y_openCount, y_openNames, y_openChoice, x_output, y_todo) := rl_mk hT hB
  unfold wpX_simple wpY_simple
  dsimp only
  have slot : (v1 < 0 ∨ nI 12 ≤ v1) ∨ ∃ s, s < 12 ∧ v1 = nI s := by
    rcases pk_ix v1 (n := 12) (by decide) with h | h | h
    · exact Or.inl (Or.inl h)
    · exact Or.inl (Or.inr h)
    · exact Or.inr h
  rcases slot with h | ⟨s, hs, rfl⟩
  · exact xs_0 h (br_t rfl (yi_0 11 (by decide) h (br_t rfl ⟨rfl, R⟩)))
  refine xs_1 hs (br_f (by decide) ?_)
  have what : (v2 < 0 ∨ nI 3 ≤ v2) ∨ v2 = nI 0 ∨ v2 = nI 1 ∨ v2 = nI 2 := by
    rcases pk_ix v2 (n := 3) (by decide) with h | h | ⟨j, hj, rfl⟩
    · exact Or.inl (Or.inl h)
    · exact Or.inl (Or.inr h)
    · have : j = 0 ∨ j = 1 ∨ j = 2 := by omega
      rcases this with rfl | rfl | rfl
      · exact Or.inr (Or.inl rfl)
      · exact Or.inr (Or.inr (Or.inl rfl))
      · exact Or.inr (Or.inr (Or.inr rfl))
  rcases what with h | rfl | rfl | rfl
  · exact br_f (hh_ne (c := 0) h (by decide) (by decide)) (br_f (hh_ne (c := 1) h (by decide) (by decide)) (br_f (hh_ne (c := 2) h (by decide) (by decide)) (yi_1 11 (by decide) (by omega) (br_f (by decide) (yi_0 2 (by decide) h (br_t rfl ⟨rfl, R⟩))))))
  · refine br_t rfl ?_
    rcases pk_ix v3 (n := 5) (by decide) with h | h | ⟨d, hd, rfl⟩
    · exact br_t h (br_f (by decide) (br_f (by decide) (yi_1 11 (by decide) (by omega) (br_f (by decide) (yi_1 (c := 0) 2 (by decide) (by omega) (br_f (by decide) (br_t rfl (yi_0 4 (by decide) (Or.inl h) (br_t rfl ⟨rfl, R⟩)))))))))
    · exact br_f (hh_ge0 h (by decide)) (br_t (hh_gt (n := 4) h (by decide)) (br_f (by decide) (br_f (by decide) (yi_1 11 (by decide) (by omega) (br_f (by decide) (yi_1 (c := 0) 2 (by decide) (by omega) (br_f (by decide) (br_t rfl (yi_0 4 (by decide) (Or.inr h) (br_t rfl ⟨rfl, R⟩))))))))))
    · refine br_f (nI_pos (by omega)) (br_f (nI_nlt (b := d) (a := 4) (by omega) (by omega)) ?_)
      by_cases w : v5 < v4
      · exact br_t w (br_f (by decide) (br_f (by decide) (yi_1 11 (by decide) (by omega) (br_f (by decide) (yi_1 (c := 0) 2 (by decide) (by omega) (br_f (by decide) (br_t rfl (yi_1 4 (by decide) (by omega) (br_f (by decide) (br_t w ⟨rfl, R⟩))))))))))
      · refine br_f w (xs_set hs ?_)
        dsimp only
        refine yi_1 11 (by decide) (by omega) (br_f (by decide) (yi_1 (c := 0) 2 (by decide) (by omega) (br_f (by decide) (br_t rfl (yi_1 4 (by decide) (by omega) (br_f (by decide) (br_f w (br_f (by decide) (yd_def hs ⟨rfl, rfl, ?_⟩)))))))))
        rw [show (1 : Int32) + nI 0 = 1 from by decide]
        exact rl_mk (ty_u hT (fun _ _ => rfl) (fun _ _ => rfl) (ty_n ⟨1, by omega, rfl⟩ (fun _ => ⟨rfl, rfl, rfl, d, by omega, rfl⟩) (fun z => absurd z (by decide)) (fun z => absurd z (by decide)) (fun z => absurd z (by decide)) (fun z => absurd z (by decide)) (fun z => absurd z (by decide)))) (Or.inl rfl)
  · refine br_f (by decide) (br_t rfl ?_)
    rcases pk_ix v3 (n := 41) (by decide) with h | h | ⟨d, hd, rfl⟩
    · exact br_t h (br_f (by decide) (yi_1 11 (by decide) (by omega) (br_f (by decide) (yi_1 (c := 1) 2 (by decide) (by omega) (br_f (by decide) (br_f (by decide) (br_t rfl (yi_0 40 (by decide) (Or.inl h) (br_t rfl ⟨rfl, R⟩)))))))))
    · exact br_f (hh_ge0 h (by decide)) (br_t (hh_gt (n := 40) h (by decide)) (br_f (by decide) (yi_1 11 (by decide) (by omega) (br_f (by decide) (yi_1 (c := 1) 2 (by decide) (by omega) (br_f (by decide) (br_f (by decide) (br_t rfl (yi_0 40 (by decide) (Or.inr h) (br_t rfl ⟨rfl, R⟩))))))))))
    · refine br_f (nI_pos (by omega)) (br_f (nI_nlt (b := d) (a := 40) (by omega) (by omega)) (xs_set hs ?_))
      dsimp only
      refine yi_1 11 (by decide) (by omega) (br_f (by decide) (yi_1 (c := 1) 2 (by decide) (by omega) (br_f (by decide) (br_f (by decide) (br_t rfl (yi_1 40 (by decide) (by omega) (br_f (by decide) (yd_def hs ⟨rfl, rfl, ?_⟩))))))))
      rw [show (1 : Int32) + nI 1 = 2 from by decide]
      exact rl_mk (ty_u hT (fun _ _ => rfl) (fun _ _ => rfl) (ty_n ⟨2, by omega, rfl⟩ (fun z => absurd z (by decide)) (fun _ => ⟨rfl, d, by omega, rfl⟩) (fun z => absurd z (by decide)) (fun z => absurd z (by decide)) (fun z => absurd z (by decide)) (fun z => absurd z (by decide)))) (Or.inl rfl)
  · refine br_f (by decide) (br_f (by decide) (br_t rfl (xs_set hs ?_)))
    dsimp only
    refine yi_1 11 (by decide) (by omega) (br_f (by decide) (yi_1 (c := 2) 2 (by decide) (by omega) (br_f (by decide) (br_f (by decide) (br_f (by decide) (yd_def hs ⟨rfl, rfl, ?_⟩))))))
    rw [show (1 : Int32) + nI 2 = 3 from by decide]
    exact rl_mk (ty_u hT (fun _ _ => rfl) (fun _ _ => rfl) (ty_n ⟨3, by omega, rfl⟩ (fun z => absurd z (by decide)) (fun z => absurd z (by decide)) (fun z => absurd z (by decide)) (fun z => absurd z (by decide)) (fun z => absurd z (by decide)) (fun z => absurd z (by decide)))) (Or.inl rfl)
theorem hh_sl (x : Int32) : (x < 0 ∨ nI 12 ≤ x) ∨ ∃ s, s < 12 ∧ x = nI s := by
  rcases pk_ix x (n := 12) (by decide) with h | h | h
  · exact Or.inl (Or.inl h)
  · exact Or.inl (Or.inr h)
  · exact Or.inr h
theorem i_vc_list {k : Nat} {u : SX} {v : SY} (I : i_Rel k u v) (hk : k + 6 ≤ 3072) (v1 : Int32) (v2 : Int32) (v3 : Int32) (v4 : Int32) : wpX_list (fun r u' => wpY_list (fun r' v' => r' = r ∧ i_Rel (k + 6) u' v') v v1 v2 v3 v4) u v1 v2 v3 v4 := by
  obtain ⟨x_nodeCount, x_bound, x_fault, x_faultPlace, x_mode, x_at, x_tokenStart, x_textCount, x_escaped, x_valueSlot, x_valueName, x_depth, x_outputLength, x_text, x_typeKind, x_typeDetail, x_typeLeast, x_typeMost, x_fieldCount, x_fieldName, x_fieldType, x_fieldNeeded, x_tagType, x_nodeKind, x_nodeValue, x_nodeParent, x_nodeName, x_nodeSlot, x_nodeStart, x_nodeTag, x_completeCount, x_openNode, x_openSlot, x_openNames, x_openNext, x_openComma, x_output, y_parts, y_bad, y_nodes, y_fault, y_depth, y_nextName, y_wantsName, y_wantsTag, y_waiting, y_scaled, y_typeA, y_typeB, y_typeC, y_fields, y_tags, y_begin, y_end, y_inside, y_whole, y_kind, y_value, y_parent, y_name, y_slotOf, y_placeOf, y_complete, y_openNode, y_openType, y_openCount, y_openNames, y_openChoice, y_todo, L, rfl, rfl, hT, hB⟩ := I
  have R : i_Rel (k + 6) (nI L, x_nodeCount, x_bound, x_fault, x_faultPlace, x_mode, x_at, x_tokenStart, x_textCount, x_escaped, x_valueSlot, x_valueName, x_depth, x_outputLength, x_text, x_typeKind, x_typeDetail, x_typeLeast, x_typeMost, x_fieldCount, x_fieldName, x_fieldType, x_fieldNeeded, x_tagType, x_nodeKind, x_nodeValue, x_nodeParent, x_nodeName, x_nodeSlot, x_nodeStart, x_nodeTag, x_completeCount, x_openNode, x_openSlot, x_openNames, x_openNext, x_openComma, x_output) (nI L, y_parts, y_bad, y_nodes, y_fault, x_faultPlace, x_bound, y_depth, y_nextName, y_wantsName, y_wantsTag, x_outputLength, y_waiting, y_scaled, x_typeKind, y_typeA, y_typeB, y_typeC, x_fieldName, x_fieldType, y_fields, y_tags, x_fieldNeeded, x_text, y_begin, y_end, y_inside, y_whole, y_kind, y_value, y_parent, y_name, y_slotOf, y_placeOf, y_complete, y_openNode, y_openType, y_openCount, y_openNames, y_openChoice, x_output, y_todo) := rl_mk hT hB
  unfold wpX_list wpY_list
  dsimp only
  rcases hh_sl v1 with h | ⟨s, hs, rfl⟩
  · exact xs_0 h (br_t rfl (yi_0 11 (by decide) h (br_t rfl ⟨rfl, R⟩)))
  refine xs_1 hs (br_f (by decide) ?_)
  rcases hh_sl v2 with h | ⟨o, ho, rfl⟩
  · exact xs_0 h (br_t rfl (yi_1 11 (by decide) (by omega) (br_f (by decide) (yi_0 11 (by decide) h (br_t rfl ⟨rfl, R⟩)))))
  refine xs_1 ho (br_f (by decide) ?_)
  by_cases h0 : v3 < 0
  · exact br_t h0 (yi_1 11 (by decide) (by omega) (br_f (by decide) (yi_1 11 (by decide) (by omega) (br_f (by decide) (br_t h0 ⟨rfl, R⟩)))))
  by_cases h1 : v4 < v3
  · exact br_f h0 (br_t h1 (yi_1 11 (by decide) (by omega) (br_f (by decide) (yi_1 11 (by decide) (by omega) (br_f (by decide) (br_f h0 (br_t h1 ⟨rfl, R⟩)))))))
  by_cases h2 : v4 ≤ 20
  · refine br_f h0 (br_f h1 (br_t h2 (xs_set hs ?_)))
    dsimp only
    refine yi_1 11 (by decide) (by omega) (br_f (by decide) (yi_1 11 (by decide) (by omega) (br_f (by decide) (br_f h0 (br_f h1 (br_t h2 (yd_def hs ⟨rfl, rfl, ?_⟩)))))))
    obtain ⟨a, ha, rfl⟩ := nI_of h0
    have h3 : ¬ v4 < 0 := fun z => h1 (Int32.lt_of_lt_of_le z (nI_pos' ha))
    obtain ⟨b, hb, rfl⟩ := nI_of h3
    have h4 : b ≤ 20 := (nI_leI (b := 20) hb (by decide)).mp h2
    have h5 : a ≤ b := by
      rw [nI_ltI hb ha] at h1
      omega
    exact rl_mk (ty_u hT (fun _ _ => rfl) (fun _ _ => rfl) (ty_n ⟨4, by omega, rfl⟩ (fun z => absurd z (by decide)) (fun z => absurd z (by decide)) (fun _ => ⟨rfl, rfl, rfl, o, a, b, ho, rfl, h5, h4, rfl, rfl⟩) (fun z => absurd z (by decide)) (fun z => absurd z (by decide)) (fun z => absurd z (by decide)))) (Or.inl rfl)
  · exact br_f h0 (br_f h1 (br_f h2 (yi_1 11 (by decide) (by omega) (br_f (by decide) (yi_1 11 (by decide) (by omega) (br_f (by decide) (br_f h0 (br_f h1 (br_f h2 ⟨rfl, R⟩)))))))))
theorem i_vc_wrap {k : Nat} {u : SX} {v : SY} (I : i_Rel k u v) (hk : k + 6 ≤ 3072) (v1 : Int32) (v2 : Int32) (v3 : Int32) : wpX_wrap (fun r u' => wpY_wrap (fun r' v' => r' = r ∧ i_Rel (k + 6) u' v') v v1 v2 v3) u v1 v2 v3 := by
  obtain ⟨x_nodeCount, x_bound, x_fault, x_faultPlace, x_mode, x_at, x_tokenStart, x_textCount, x_escaped, x_valueSlot, x_valueName, x_depth, x_outputLength, x_text, x_typeKind, x_typeDetail, x_typeLeast, x_typeMost, x_fieldCount, x_fieldName, x_fieldType, x_fieldNeeded, x_tagType, x_nodeKind, x_nodeValue, x_nodeParent, x_nodeName, x_nodeSlot, x_nodeStart, x_nodeTag, x_completeCount, x_openNode, x_openSlot, x_openNames, x_openNext, x_openComma, x_output, y_parts, y_bad, y_nodes, y_fault, y_depth, y_nextName, y_wantsName, y_wantsTag, y_waiting, y_scaled, y_typeA, y_typeB, y_typeC, y_fields, y_tags, y_begin, y_end, y_inside, y_whole, y_kind, y_value, y_parent, y_name, y_slotOf, y_placeOf, y_complete, y_openNode, y_openType, y_openCount, y_openNames, y_openChoice, y_todo, L, rfl, rfl, hT, hB⟩ := I
  have R : i_Rel (k + 6) (nI L, x_nodeCount, x_bound, x_fault, x_faultPlace, x_mode, x_at, x_tokenStart, x_textCount, x_escaped, x_valueSlot, x_valueName, x_depth, x_outputLength, x_text, x_typeKind, x_typeDetail, x_typeLeast, x_typeMost, x_fieldCount, x_fieldName, x_fieldType, x_fieldNeeded, x_tagType, x_nodeKind, x_nodeValue, x_nodeParent, x_nodeName, x_nodeSlot, x_nodeStart, x_nodeTag, x_completeCount, x_openNode, x_openSlot, x_openNames, x_openNext, x_openComma, x_output) (nI L, y_parts, y_bad, y_nodes, y_fault, x_faultPlace, x_bound, y_depth, y_nextName, y_wantsName, y_wantsTag, x_outputLength, y_waiting, y_scaled, x_typeKind, y_typeA, y_typeB, y_typeC, x_fieldName, x_fieldType, y_fields, y_tags, x_fieldNeeded, x_text, y_begin, y_end, y_inside, y_whole, y_kind, y_value, y_parent, y_name, y_slotOf, y_placeOf, y_complete, y_openNode, y_openType, y_openCount, y_openNames, y_openChoice, x_output, y_todo) := rl_mk hT hB
  unfold wpX_wrap wpY_wrap
  dsimp only
  rcases hh_sl v1 with h | ⟨s, hs, rfl⟩
  · exact xs_0 h (br_t rfl (yi_0 11 (by decide) h (br_t rfl ⟨rfl, R⟩)))
  refine xs_1 hs (br_f (by decide) ?_)
  rcases pk_ix v2 (n := 2) (by decide) with w | w | ⟨c, hc, rfl⟩
  · rcases hh_sl v3 with h | ⟨o, ho, rfl⟩
    · exact xs_0 h (br_t rfl (yi_1 11 (by decide) (by omega) (br_f (by decide) (yi_0 1 (by decide) (Or.inl w) (br_t rfl ⟨rfl, R⟩)))))
    · exact xs_1 ho (br_f (by decide) (br_t w (yi_1 11 (by decide) (by omega) (br_f (by decide) (yi_0 1 (by decide) (Or.inl w) (br_t rfl ⟨rfl, R⟩))))))
  · rcases hh_sl v3 with h | ⟨o, ho, rfl⟩
    · exact xs_0 h (br_t rfl (yi_1 11 (by decide) (by omega) (br_f (by decide) (yi_0 1 (by decide) (Or.inr w) (br_t rfl ⟨rfl, R⟩)))))
    · exact xs_1 ho (br_f (by decide) (br_f (hh_ge0 w (by decide)) (br_f (Int32.not_le.mpr (hh_gt (n := 1) w (by decide))) (yi_1 11 (by decide) (by omega) (br_f (by decide) (yi_0 1 (by decide) (Or.inr w) (br_t rfl ⟨rfl, R⟩)))))))
  · rcases hh_sl v3 with h | ⟨o, ho, rfl⟩
    · exact xs_0 h (br_t rfl (yi_1 11 (by decide) (by omega) (br_f (by decide) (yi_1 1 (by decide) (by omega) (br_f (by decide) (yi_0 11 (by decide) h (br_t rfl ⟨rfl, R⟩)))))))
    · refine xs_1 ho (br_f (by decide) (br_f (nI_pos (by omega)) (br_t (nI_le (b := 1) (by omega) (by decide)) ?_)))
      have hc' : c = 0 ∨ c = 1 := by omega
      rcases hc' with rfl | rfl
      · refine br_t rfl (xs_set hs ?_)
        dsimp only
        refine yi_1 11 (by decide) (by omega) (br_f (by decide) (yi_1 (c := 0) 1 (by decide) (by omega) (br_f (by decide) (yi_1 11 (by decide) (by omega) (br_f (by decide) (yd_def hs (br_f (by decide) ⟨rfl, ?_⟩)))))))
        rw [show (7 : Int32) + nI 0 = 7 from by decide]
        exact rl_mk (ty_u hT (fun _ _ => rfl) (fun _ _ => rfl) (ty_n ⟨7, by omega, rfl⟩ (fun z => absurd z (by decide)) (fun z => absurd z (by decide)) (fun z => absurd z (by decide)) (fun z => absurd z (by decide)) (fun z => absurd z (by decide)) (fun _ => ⟨rfl, o, ho, rfl⟩))) (Or.inl rfl)
      · refine br_f (by decide) (xs_set hs ?_)
        dsimp only
        refine yi_1 11 (by decide) (by omega) (br_f (by decide) (yi_1 (c := 1) 1 (by decide) (by omega) (br_f (by decide) (yi_1 11 (by decide) (by omega) (br_f (by decide) (yd_def hs (br_f (by decide) ⟨rfl, ?_⟩)))))))
        rw [show (7 : Int32) + nI 1 = 8 from by decide]
        exact rl_mk (ty_u hT (fun _ _ => rfl) (fun _ _ => rfl) (ty_n ⟨8, by omega, rfl⟩ (fun z => absurd z (by decide)) (fun z => absurd z (by decide)) (fun z => absurd z (by decide)) (fun z => absurd z (by decide)) (fun z => absurd z (by decide)) (fun _ => ⟨rfl, o, ho, rfl⟩))) (Or.inl rfl)
theorem hh_neg {x : Int32} (h : ¬ x < -1) (h' : ¬ x = -1) : ¬ x < 0 := by
  intro z
  rw [Int32.lt_iff_toInt_lt] at h z
  rw [← Int32.toInt_inj] at h'
  have a : (-1 : Int32).toInt = -1 := by decide
  have b : (0 : Int32).toInt = 0 := by decide
  omega
theorem i_vc_members {k : Nat} {u : SX} {v : SY} (I : i_Rel k u v) (hk : k + 6 ≤ 3072) (v1 : Int32) (v2 : Int32) : wpX_members (fun r u' => wpY_members (fun r' v' => r' = r ∧ i_Rel (k + 6) u' v') v v1 v2) u v1 v2 := by
  obtain ⟨x_nodeCount, x_bound, x_fault, x_faultPlace, x_mode, x_at, x_tokenStart, x_textCount, x_escaped, x_valueSlot, x_valueName, x_depth, x_outputLength, x_text, x_typeKind, x_typeDetail, x_typeLeast, x_typeMost, x_fieldCount, x_fieldName, x_fieldType, x_fieldNeeded, x_tagType, x_nodeKind, x_nodeValue, x_nodeParent, x_nodeName, x_nodeSlot, x_nodeStart, x_nodeTag, x_completeCount, x_openNode, x_openSlot, x_openNames, x_openNext, x_openComma, x_output, y_parts, y_bad, y_nodes, y_fault, y_depth, y_nextName, y_wantsName, y_wantsTag, y_waiting, y_scaled, y_typeA, y_typeB, y_typeC, y_fields, y_tags, y_begin, y_end, y_inside, y_whole, y_kind, y_value, y_parent, y_name, y_slotOf, y_placeOf, y_complete, y_openNode, y_openType, y_openCount, y_openNames, y_openChoice, y_todo, L, rfl, rfl, hT, hB⟩ := I
  have R : i_Rel (k + 6) (nI L, x_nodeCount, x_bound, x_fault, x_faultPlace, x_mode, x_at, x_tokenStart, x_textCount, x_escaped, x_valueSlot, x_valueName, x_depth, x_outputLength, x_text, x_typeKind, x_typeDetail, x_typeLeast, x_typeMost, x_fieldCount, x_fieldName, x_fieldType, x_fieldNeeded, x_tagType, x_nodeKind, x_nodeValue, x_nodeParent, x_nodeName, x_nodeSlot, x_nodeStart, x_nodeTag, x_completeCount, x_openNode, x_openSlot, x_openNames, x_openNext, x_openComma, x_output) (nI L, y_parts, y_bad, y_nodes, y_fault, x_faultPlace, x_bound, y_depth, y_nextName, y_wantsName, y_wantsTag, x_outputLength, y_waiting, y_scaled, x_typeKind, y_typeA, y_typeB, y_typeC, x_fieldName, x_fieldType, y_fields, y_tags, x_fieldNeeded, x_text, y_begin, y_end, y_inside, y_whole, y_kind, y_value, y_parent, y_name, y_slotOf, y_placeOf, y_complete, y_openNode, y_openType, y_openCount, y_openNames, y_openChoice, x_output, y_todo) := rl_mk hT hB
  unfold wpX_members wpY_members
  dsimp only
  rcases hh_sl v1 with h | ⟨s, hs, rfl⟩
  · exact xs_0 h (br_t rfl (yi_0 11 (by decide) h (br_t rfl ⟨rfl, R⟩)))
  refine xs_1 hs (br_f (by decide) ?_)
  have es : (nI s).toNatClampNeg = s := nI_clamp (by omega)
  by_cases h0 : v2 < -1
  · exact br_t h0 (yi_1 11 (by decide) (by omega) (br_f (by decide) (br_t h0 (br_t rfl ⟨rfl, R⟩))))
  by_cases h1 : v2 = -1
  · subst h1
    refine br_f h0 (br_t (by decide) (br_t rfl (xs_set hs ?_)))
    dsimp only
    rw [es]
    refine ⟨vp_in_nI hs (by decide), nm_e ⟨6 + 1, xm_loop hs 6 0 _ rfl ?_⟩⟩
    refine yi_1 11 (by decide) (by omega) (br_f (by decide) (br_f h0 (br_f (by decide) (br_f (by decide) (br_f (by decide) (yd_def hs (br_f (by decide) ⟨rfl, ?_⟩)))))))
    exact rl_mk (ty_u hT (fun _ z => pk_un z) (fun i z => yd_out z) (ty_n ⟨5, by omega, rfl⟩ (fun z => absurd z (by decide)) (fun z => absurd z (by decide)) (fun z => absurd z (by decide)) (fun _ => pk_us) (fun z => absurd z (by decide)) (fun z => absurd z (by decide)))) (Or.inl rfl)
  · have h2 := hh_neg h0 h1
    rcases pk_ix v2 (n := 6) (by decide) with w | w | ⟨c, hc, rfl⟩
    · exact absurd w h2
    · exact br_f h0 (br_f (Int32.not_lt.mpr w) (yi_1 11 (by decide) (by omega) (br_f (by decide) (br_f h0 (br_t (hh_gt (n := 5) w (by decide)) (br_t rfl ⟨rfl, R⟩))))))
    · refine br_f h0 (br_t (nI_lt (b := 6) hc (by decide)) (br_f h1 (xs_set hs ?_)))
      dsimp only
      rw [es]
      refine ⟨vp_in_nI hs (by decide), nm_e ⟨6 + 1, xm_loop hs 6 0 _ rfl ?_⟩⟩
      refine yi_1 11 (by decide) (by omega) (br_f (by decide) (br_f h0 (br_f (nI_nlt (b := c) (a := 5) (by omega) (by omega)) (br_f (by decide) (br_t (nI_pos' (by omega)) (yd_def hs (br_f (by decide) ⟨rfl, ?_⟩)))))))
      exact rl_mk (ty_u hT (fun _ z => pk_un z) (fun i z => yd_out z) (ty_n ⟨6, by omega, rfl⟩ (fun z => absurd z (by decide)) (fun z => absurd z (by decide)) (fun z => absurd z (by decide)) (fun z => absurd z (by decide)) (fun _ => ⟨rfl, ⟨c, hc, rfl⟩, fun i hi => yd_in (by omega) (by omega)⟩) (fun z => absurd z (by decide)))) (Or.inl rfl)
theorem i_vc_tag {k : Nat} {u : SX} {v : SY} (I : i_Rel k u v) (hk : k + 6 ≤ 3072) (v1 : Int32) (v2 : Int32) (v3 : Int32) : wpX_tag (fun r u' => wpY_tag (fun r' v' => r' = r ∧ i_Rel (k + 6) u' v') v v1 v2 v3) u v1 v2 v3 := by
  obtain ⟨x_nodeCount, x_bound, x_fault, x_faultPlace, x_mode, x_at, x_tokenStart, x_textCount, x_escaped, x_valueSlot, x_valueName, x_depth, x_outputLength, x_text, x_typeKind, x_typeDetail, x_typeLeast, x_typeMost, x_fieldCount, x_fieldName, x_fieldType, x_fieldNeeded, x_tagType, x_nodeKind, x_nodeValue, x_nodeParent, x_nodeName, x_nodeSlot, x_nodeStart, x_nodeTag, x_completeCount, x_openNode, x_openSlot, x_openNames, x_openNext, x_openComma, x_output, y_parts, y_bad, y_nodes, y_fault, y_depth, y_nextName, y_wantsName, y_wantsTag, y_waiting, y_scaled, y_typeA, y_typeB, y_typeC, y_fields, y_tags, y_begin, y_end, y_inside, y_whole, y_kind, y_value, y_parent, y_name, y_slotOf, y_placeOf, y_complete, y_openNode, y_openType, y_openCount, y_openNames, y_openChoice, y_todo, L, rfl, rfl, hT, hB⟩ := I
  have R : i_Rel (k + 6) (nI L, x_nodeCount, x_bound, x_fault, x_faultPlace, x_mode, x_at, x_tokenStart, x_textCount, x_escaped, x_valueSlot, x_valueName, x_depth, x_outputLength, x_text, x_typeKind, x_typeDetail, x_typeLeast, x_typeMost, x_fieldCount, x_fieldName, x_fieldType, x_fieldNeeded, x_tagType, x_nodeKind, x_nodeValue, x_nodeParent, x_nodeName, x_nodeSlot, x_nodeStart, x_nodeTag, x_completeCount, x_openNode, x_openSlot, x_openNames, x_openNext, x_openComma, x_output) (nI L, y_parts, y_bad, y_nodes, y_fault, x_faultPlace, x_bound, y_depth, y_nextName, y_wantsName, y_wantsTag, x_outputLength, y_waiting, y_scaled, x_typeKind, y_typeA, y_typeB, y_typeC, x_fieldName, x_fieldType, y_fields, y_tags, x_fieldNeeded, x_text, y_begin, y_end, y_inside, y_whole, y_kind, y_value, y_parent, y_name, y_slotOf, y_placeOf, y_complete, y_openNode, y_openType, y_openCount, y_openNames, y_openChoice, x_output, y_todo) := rl_mk hT hB
  unfold wpX_tag wpY_tag wpY_isSort
  dsimp only
  rcases hh_sl v1 with h | ⟨s, hs, rfl⟩
  · exact xs_0 h (br_t rfl (yi_0 11 (by decide) h (br_t rfl (br_t rfl ⟨rfl, R⟩))))
  refine xs_1 hs (br_f (by decide) ?_)
  have es : (nI s).toNatClampNeg = s := nI_clamp (by omega)
  have iS : vp_in (nI s) 12 := vp_in_nI hs (by decide)
  rw [es]
  by_cases q : x_typeKind s = 6
  · rcases pk_ix v2 (n := 6) (by decide) with w | w | ⟨c, hc, rfl⟩
    · rcases hh_sl v3 with h | ⟨o, ho, rfl⟩
      · exact xs_0 h (br_t rfl (yi_1 11 (by decide) (by omega) (br_f (by decide) ⟨iS, br_t q (br_f (by decide) (yi_0 5 (by decide) (Or.inl w) (br_t rfl ⟨rfl, R⟩)))⟩)))
      · exact xs_1 ho (br_f (by decide) (br_t w (yi_1 11 (by decide) (by omega) (br_f (by decide) ⟨iS, br_t q (br_f (by decide) (yi_0 5 (by decide) (Or.inl w) (br_t rfl ⟨rfl, R⟩)))⟩))))
    · rcases hh_sl v3 with h | ⟨o, ho, rfl⟩
      · exact xs_0 h (br_t rfl (yi_1 11 (by decide) (by omega) (br_f (by decide) ⟨iS, br_t q (br_f (by decide) (yi_0 5 (by decide) (Or.inr w) (br_t rfl ⟨rfl, R⟩)))⟩)))
      · exact xs_1 ho (br_f (by decide) (br_f (hh_ge0 w (by decide)) (br_f (Int32.not_lt.mpr w) (yi_1 11 (by decide) (by omega) (br_f (by decide) ⟨iS, br_t q (br_f (by decide) (yi_0 5 (by decide) (Or.inr w) (br_t rfl ⟨rfl, R⟩)))⟩)))))
    · rcases hh_sl v3 with h | ⟨o, ho, rfl⟩
      · exact xs_0 h (br_t rfl (yi_1 11 (by decide) (by omega) (br_f (by decide) ⟨iS, br_t q (br_f (by decide) (yi_1 5 (by decide) (by omega) (br_f (by decide) (yi_0 11 (by decide) h (br_t rfl ⟨rfl, R⟩)))))⟩)))
      · have e1 : nI s * 6 + nI c = nI (6 * s + c) := by
          show nI s * nI 6 + nI c = _
          rw [pk_mul, nI_add, Nat.mul_comm]
        have e2 : (6 : Int32) * nI s + nI c = nI (6 * s + c) := by
          show nI 6 * nI s + nI c = _
          rw [pk_mul, nI_add]
        have e3 : (nI (6 * s + c)).toNatClampNeg = 6 * s + c := nI_clamp (by omega)
        have iT : vp_in (nI (6 * s + c)) 72 := vp_in_nI (by omega) (by decide)
        rw [e1, e2, e3]
        refine xs_1 ho (br_f (by decide) (br_f (nI_pos (by omega)) (br_t (nI_lt (b := 6) hc (by decide)) ⟨iS, br_t q ⟨iT, nm_e (yi_1 11 (by decide) (by omega) (br_f (by decide) ⟨iS, br_t q (br_f (by decide) (yi_1 5 (by decide) (by omega) (br_f (by decide) (yi_1 11 (by decide) (by omega) (br_f (by decide) ⟨iT, nm_e ⟨rfl, ?_⟩⟩)))))⟩))⟩⟩)))
        refine rl_mk ⟨hT.1, hT.2.1, fun r hr => ?_⟩ (Or.inl rfl)
        by_cases z : r = s
        · subst z
          obtain ⟨h0, h1, h2, h4, h5, h6, h7⟩ := hT.2.2 r hr
          refine ⟨h0, h1, h2, h4, h5, fun y => ?_, h7⟩
          obtain ⟨a1, a2, a3⟩ := h6 y
          refine ⟨a1, a2, fun i hi => ?_⟩
          unfold upd
          by_cases f : 6 * r + i = 6 * r + c
          · rw [if_pos f, if_pos f]; exact ⟨rfl, Or.inr ⟨o, ho, rfl⟩⟩
          · rw [if_neg f, if_neg f]; exact a3 i hi
        · exact ty_c (hT.2.2 r hr) rfl rfl rfl rfl rfl (fun _ _ => rfl) (fun _ _ => rfl) (fun _ _ => rfl) (fun i hi => pk_un (by omega)) rfl rfl rfl rfl (fun i hi => pk_un (by omega))
  · rcases hh_sl v3 with h | ⟨o, ho, rfl⟩
    · exact xs_0 h (br_t rfl (yi_1 11 (by decide) (by omega) (br_f (by decide) ⟨iS, br_f q (br_t rfl ⟨rfl, R⟩)⟩)))
    · refine xs_1 ho (br_f (by decide) ?_)
      rcases pk_ix v2 (n := 6) (by decide) with w | w | ⟨c, hc, rfl⟩
      · exact br_t w (yi_1 11 (by decide) (by omega) (br_f (by decide) ⟨iS, br_f q (br_t rfl ⟨rfl, R⟩)⟩))
      · exact br_f (hh_ge0 w (by decide)) (br_f (Int32.not_lt.mpr w) (yi_1 11 (by decide) (by omega) (br_f (by decide) ⟨iS, br_f q (br_t rfl ⟨rfl, R⟩)⟩)))
      · exact br_f (nI_pos (by omega)) (br_t (nI_lt (b := 6) hc (by decide)) ⟨iS, br_f q (yi_1 11 (by decide) (by omega) (br_f (by decide) ⟨iS, br_f q (br_t rfl ⟨rfl, R⟩)⟩))⟩)
