/-! the bind: tags -/
theorem nd_tag {t so bg en : Nat → Int32} {L N : Nat} {kd vl pa nm sl st tg : Nat → Int32} {dp : Nat → Nat} {op op' : Nat → Prop} (hA : nd_A t so bg en L N kd vl pa nm sl st tg dp op) {n s r i0 K b' : Nat} {ok : Int32} (hn : n < N) (hop : ∀ i, i < N → op i → i = n) (h4 : kd n = 4) (hsl : sl n = nI s) (hs : s < 12) (so6 : so s = 6) (hst : st n = nI b') (hi0 : i0 < 6) (hr : r < 12) (so5 : so r = 5) (hK : K < 96) (hbg : bg K = nI b') (hfirst : ∀ j, j < K → bg j ≠ nI b') (hun : un_Y t bg en (K + 3) 0 ok (nI i0)) : nd_A t so bg en L N kd (upd vl n (nI r)) pa nm sl st (upd tg n (nI i0)) dp op' := by
  refine ⟨hA.1, fun i hi => ?_, hA.2.2⟩
  obtain ⟨k, s1, b1, h1, h2, h3, e4, e5, e6, h7, h8, h9, h10, h11, h12⟩ := hA.2.1 i hi
  have hN := hA.1
  refine ⟨k, s1, b1, h1, h2, h3, e4, e5, e6, h7, h8, h9, h10, ?_, ?_⟩
  · intro k3
    have ne : i ≠ n := by
      rintro rfl
      rw [k3, h4] at e4
      exact absurd e4 (by decide)
    rw [pk_un ne, pk_un ne]
    exact h11 k3
  · intro k4
    by_cases z : i = n
    · subst z
      rw [pk_us, pk_us]
      have es : s1 = s := hh_i (by omega) (by omega) (e5.symm.trans hsl)
      subst es
      have eb : nI b1 = nI b' := e6.symm.trans hst
      refine Or.inr (Or.inr ⟨so6, i0, r, K, ok, hi0, hr, rfl, rfl, so5, hK, ?_, ?_, hun⟩)
      · rw [eb]; exact hbg
      · intro j hj; rw [eb]; exact hfirst j hj
    · rw [pk_un z, pk_un z]
      rcases h12 k4 with w | w | w
      · exact Or.inl w
      · exact absurd (hop i hi w.2.2) z
      · exact Or.inr (Or.inr w)
section
variable {x_length x_nodeCount x_bound x_fault x_faultPlace x_at x_tokenStart x_textCount x_escaped x_valueSlot x_valueName x_depth x_outputLength : Int32} {x_text x_typeKind x_typeDetail x_typeLeast x_typeMost x_fieldCount x_fieldName x_fieldType x_fieldNeeded x_tagType x_nodeKind x_nodeValue x_nodeParent x_nodeName x_nodeSlot x_nodeStart x_nodeTag x_completeCount x_openNode x_openSlot x_openNames x_openNext x_openComma x_output : Nat → Int32} {Q : SX → Prop} {c : Int32} {d : Nat}
theorem en_n (h : Q (x_length, x_nodeCount, x_bound, x_fault, x_faultPlace, xn_m c, x_at, x_at, x_textCount, x_escaped, x_valueSlot, x_valueName, x_depth, x_outputLength, x_text, x_typeKind, x_typeDetail, x_typeLeast, x_typeMost, x_fieldCount, x_fieldName, x_fieldType, x_fieldNeeded, x_tagType, x_nodeKind, x_nodeValue, x_nodeParent, x_nodeName, x_nodeSlot, x_nodeStart, x_nodeTag, x_completeCount, x_openNode, x_openSlot, x_openNames, x_openNext, x_openComma, x_output)) {m0 : Int32} : wpX_enterNumber Q (x_length, x_nodeCount, x_bound, x_fault, x_faultPlace, m0, x_at, x_tokenStart, x_textCount, x_escaped, x_valueSlot, x_valueName, x_depth, x_outputLength, x_text, x_typeKind, x_typeDetail, x_typeLeast, x_typeMost, x_fieldCount, x_fieldName, x_fieldType, x_fieldNeeded, x_tagType, x_nodeKind, x_nodeValue, x_nodeParent, x_nodeName, x_nodeSlot, x_nodeStart, x_nodeTag, x_completeCount, x_openNode, x_openSlot, x_openNames, x_openNext, x_openComma, x_output) c := by
  unfold xn_m at h
  by_cases c17 : c = 17
  · rw [if_pos c17] at h; exact br_t c17 h
  · rw [if_neg c17] at h
    by_cases c0 : c = 0
    · rw [if_pos c0] at h; exact br_f c17 (br_t c0 h)
    · rw [if_neg c0] at h; exact br_f c17 (br_f c0 h)
end
section
variable {x_length x_nodeCount x_bound x_fault x_faultPlace x_mode x_at x_tokenStart x_textCount x_escaped x_valueSlot x_valueName x_outputLength : Int32} {x_text x_typeKind x_typeDetail x_typeLeast x_typeMost x_fieldCount x_fieldName x_fieldType x_fieldNeeded x_tagType x_nodeKind x_nodeValue x_nodeParent x_nodeName x_nodeSlot x_nodeStart x_nodeTag x_completeCount x_openNode x_openSlot x_openNames x_openNext x_openComma x_output : Nat → Int32} {Q : SX → Prop} {c : Int32} {d : Nat}
theorem bv_tag1 (hd : d < 6) (es : x_openSlot d = -1) (hc : sp_B c) (hc0 : ¬ c < 0) (h : Q (x_length, x_nodeCount, x_bound, x_fault, x_faultPlace, xn_m c, x_at, x_at, x_textCount, x_escaped, x_valueSlot, x_valueName, nI (d + 1), x_outputLength, x_text, x_typeKind, x_typeDetail, x_typeLeast, x_typeMost, x_fieldCount, x_fieldName, x_fieldType, x_fieldNeeded, x_tagType, x_nodeKind, x_nodeValue, x_nodeParent, x_nodeName, x_nodeSlot, x_nodeStart, x_nodeTag, x_completeCount, x_openNode, x_openSlot, x_openNames, x_openNext, x_openComma, x_output)) : wpX_beginValue Q (x_length, x_nodeCount, x_bound, x_fault, x_faultPlace, x_mode, x_at, x_tokenStart, x_textCount, x_escaped, x_valueSlot, x_valueName, nI (d + 1), x_outputLength, x_text, x_typeKind, x_typeDetail, x_typeLeast, x_typeMost, x_fieldCount, x_fieldName, x_fieldType, x_fieldNeeded, x_tagType, x_nodeKind, x_nodeValue, x_nodeParent, x_nodeName, x_nodeSlot, x_nodeStart, x_nodeTag, x_completeCount, x_openNode, x_openSlot, x_openNames, x_openNext, x_openComma, x_output) c := by
  have hV : sp_V c := by
    rcases hc with w | w
    · exact Or.inl w
    · exact Or.inr (Or.inr (Or.inr (Or.inr (Or.inl w))))
  unfold wpX_beginValue
  dsimp only
  refine bv_any hV (br_f (by decide) (xt_t hd es (br_f (by decide) ?_)))
  unfold wpX_beginTag
  dsimp only
  exact bv_num hc hc0 (br_f (by decide) (en_n h))
theorem bv_tag0 (hd : d < 6) (es : x_openSlot d = -1) (hV : sp_V c) (hc : ¬ sp_B c) (hc0 : ¬ c < 0) (h : Q (x_length, x_nodeCount, x_bound, 3, x_at, x_mode, x_at, x_tokenStart, x_textCount, x_escaped, x_valueSlot, x_valueName, nI (d + 1), x_outputLength, x_text, x_typeKind, x_typeDetail, x_typeLeast, x_typeMost, x_fieldCount, x_fieldName, x_fieldType, x_fieldNeeded, x_tagType, x_nodeKind, x_nodeValue, x_nodeParent, x_nodeName, x_nodeSlot, x_nodeStart, x_nodeTag, x_completeCount, x_openNode, x_openSlot, x_openNames, x_openNext, x_openComma, x_output)) : wpX_beginValue Q (x_length, x_nodeCount, x_bound, x_fault, x_faultPlace, x_mode, x_at, x_tokenStart, x_textCount, x_escaped, x_valueSlot, x_valueName, nI (d + 1), x_outputLength, x_text, x_typeKind, x_typeDetail, x_typeLeast, x_typeMost, x_fieldCount, x_fieldName, x_fieldType, x_fieldNeeded, x_tagType, x_nodeKind, x_nodeValue, x_nodeParent, x_nodeName, x_nodeSlot, x_nodeStart, x_nodeTag, x_completeCount, x_openNode, x_openSlot, x_openNames, x_openNext, x_openComma, x_output) c := by
  unfold wpX_beginValue
  dsimp only
  refine bv_any hV (br_f (by decide) (xt_t hd es (br_f (by decide) ?_)))
  unfold wpX_beginTag
  dsimp only
  exact bv_nn hc hc0 (br_t rfl h)
end
section
variable {y_length y_parts y_bad y_nodes y_place y_bound y_nextName y_wantsName y_wantsTag y_printed y_waiting y_scaled : Int32} {y_sort y_typeA y_typeB y_typeC y_fieldName y_fieldType y_fields y_tags y_needed y_text y_begin y_end y_inside y_whole y_kind y_value y_parent y_name y_slotOf y_placeOf y_complete y_openNode y_openType y_openCount y_openNames y_openChoice y_output y_todo : Nat → Int32} {Q : SY → Prop} {d k b q s n : Nat} {ok sc : Int32}
theorem yt_in (hd : d < 6) (hk : k < 96) (hb : b < 96) (eb : y_begin k = nI b) (ec : y_openChoice d = nI s) (hc0 : ¬ y_text b < 0)
    (h1 : sp_B (y_text b) → wY_bindTag_53 Q (nI k) (nI d) (nI s) y_length y_parts y_bad y_nodes 0 y_place y_bound (nI (d + 1)) y_nextName y_wantsName y_wantsTag y_printed y_waiting y_scaled y_sort y_typeA y_typeB y_typeC y_fieldName y_fieldType y_fields y_tags y_needed y_text y_begin y_end y_inside y_whole y_kind y_value y_parent y_name y_slotOf y_placeOf y_complete y_openNode y_openType y_openCount y_openNames y_openChoice y_output y_todo) (h0 : ¬ sp_B (y_text b) → Q (y_length, y_parts, y_bad, y_nodes, 3, nI b, y_bound, nI (d + 1), y_nextName, y_wantsName, 0, y_printed, y_waiting, y_scaled, y_sort, y_typeA, y_typeB, y_typeC, y_fieldName, y_fieldType, y_fields, y_tags, y_needed, y_text, y_begin, y_end, y_inside, y_whole, y_kind, y_value, y_parent, y_name, y_slotOf, y_placeOf, y_complete, y_openNode, y_openType, y_openCount, y_openNames, y_openChoice, y_output, y_todo)) : wpY_bindTag Q (y_length, y_parts, y_bad, y_nodes, 0, y_place, y_bound, nI (d + 1), y_nextName, y_wantsName, y_wantsTag, y_printed, y_waiting, y_scaled, y_sort, y_typeA, y_typeB, y_typeC, y_fieldName, y_fieldType, y_fields, y_tags, y_needed, y_text, y_begin, y_end, y_inside, y_whole, y_kind, y_value, y_parent, y_name, y_slotOf, y_placeOf, y_complete, y_openNode, y_openType, y_openCount, y_openNames, y_openChoice, y_output, y_todo) (nI k) := by
  have ek : (nI k).toNatClampNeg = k := nI_clamp (by omega)
  have eB : (nI b).toNatClampNeg = b := nI_clamp (by omega)
  have ed : (nI d).toNatClampNeg = d := nI_clamp (by omega)
  have ik : vp_in (nI k) 96 := vp_in_nI hk (by decide)
  unfold wpY_bindTag
  dsimp only
  rw [ek, eb, eB]
  refine ⟨ik, vp_in_nI hb (by decide), nm_e (nm_r (nI_pred d) ⟨vp_in_nI (by omega) (by decide), ?_⟩)⟩
  rw [ed]
  refine nm_r ec ?_
  by_cases w : sp_B (y_text b)
  · by_cases a : y_text b ≤ 9
    · exact br_t a (h1 w)
    · refine br_f a (br_t ?_ (h1 w))
      rcases w with w | w
      · exact absurd w.2 a
      · exact w
  · refine br_f (fun a => w (Or.inl ⟨Int32.not_lt.mp hc0, a⟩)) (br_f (fun a => w (Or.inr a)) ⟨ik, br_t rfl (h0 w)⟩)
theorem yt_num (hd : d < 6) (hk : k < 96) (ew : y_whole k = 1) (ee : y_end k = nI q) (hs : s < 12) (eo : y_openNode d = nI n) (hn : n < 40) (un : un_Y y_text y_begin y_end k 0 ok sc) (hok : ok = 0 ∨ ok = 1)
    (htg : ∀ i, i < 6 → y_tags (6 * s + i) = -1 ∨ ∃ r, r < 12 ∧ y_tags (6 * s + i) = nI r)
    (h1 : ∀ i r, i < 6 → ok = 1 → sc = nI i → y_tags (6 * s + i) = nI r → r < 12 → y_sort r = 5 → Q (y_length, y_parts, y_bad, y_nodes, 0, y_place, y_bound, nI (d + 1), y_nextName, y_wantsName, 0, y_printed, y_waiting, sc, y_sort, y_typeA, y_typeB, y_typeC, y_fieldName, y_fieldType, y_fields, y_tags, y_needed, y_text, y_begin, y_end, y_inside, y_whole, y_kind, upd y_value n (nI r), y_parent, y_name, y_slotOf, y_placeOf, y_complete, y_openNode, upd y_openType d (nI r), y_openCount, y_openNames, y_openChoice, y_output, y_todo))
    (h0 : (¬ (ok = 1 ∧ 0 ≤ sc ∧ sc ≤ 5) ∨ ∃ i, i < 6 ∧ sc = nI i ∧ (y_tags (6 * s + i) = -1 ∨ ∃ r, r < 12 ∧ y_tags (6 * s + i) = nI r ∧ ¬ y_sort r = 5)) → Q (y_length, y_parts, y_bad, y_nodes, 6, nI q, y_bound, nI (d + 1), y_nextName, y_wantsName, 0, y_printed, y_waiting, sc, y_sort, y_typeA, y_typeB, y_typeC, y_fieldName, y_fieldType, y_fields, y_tags, y_needed, y_text, y_begin, y_end, y_inside, y_whole, y_kind, y_value, y_parent, y_name, y_slotOf, y_placeOf, y_complete, y_openNode, y_openType, y_openCount, y_openNames, y_openChoice, y_output, y_todo)) : wY_bindTag_53 Q (nI k) (nI d) (nI s) y_length y_parts y_bad y_nodes 0 y_place y_bound (nI (d + 1)) y_nextName y_wantsName y_wantsTag y_printed y_waiting y_scaled y_sort y_typeA y_typeB y_typeC y_fieldName y_fieldType y_fields y_tags y_needed y_text y_begin y_end y_inside y_whole y_kind y_value y_parent y_name y_slotOf y_placeOf y_complete y_openNode y_openType y_openCount y_openNames y_openChoice y_output y_todo := by
  have ek : (nI k).toNatClampNeg = k := nI_clamp (by omega)
  have ed : (nI d).toNatClampNeg = d := nI_clamp (by omega)
  have en : (nI n).toNatClampNeg = n := nI_clamp (by omega)
  have ik : vp_in (nI k) 96 := vp_in_nI hk (by decide)
  have i8 : vp_in (nI d) 8 := vp_in_nI (by omega) (by decide)
  have f129 : Q (y_length, y_parts, y_bad, y_nodes, 6, nI q, y_bound, nI (d + 1), y_nextName, y_wantsName, 0, y_printed, y_waiting, sc, y_sort, y_typeA, y_typeB, y_typeC, y_fieldName, y_fieldType, y_fields, y_tags, y_needed, y_text, y_begin, y_end, y_inside, y_whole, y_kind, y_value, y_parent, y_name, y_slotOf, y_placeOf, y_complete, y_openNode, y_openType, y_openCount, y_openNames, y_openChoice, y_output, y_todo) → wY_bindTag_129 Q (nI k) (nI d) (nI s) y_length y_parts y_bad y_nodes 0 y_place y_bound (nI (d + 1)) y_nextName y_wantsName y_wantsTag y_printed y_waiting sc y_sort y_typeA y_typeB y_typeC y_fieldName y_fieldType y_fields y_tags y_needed y_text y_begin y_end y_inside y_whole y_kind y_value y_parent y_name y_slotOf y_placeOf y_complete y_openNode y_openType y_openCount y_openNames y_openChoice y_output y_todo := by
    intro w
    unfold wY_bindTag_129 wY_bindTag_130
    rw [ek, ee]
    exact br_t rfl ⟨ik, br_t rfl w⟩
  unfold wY_bindTag_53
  rw [ek]
  refine ⟨ik, br_f (by rw [ew]; decide) ?_⟩
  refine un y_length y_parts y_bad y_nodes (0) y_place y_bound (nI (d + 1)) y_nextName y_wantsName y_wantsTag y_printed y_waiting y_scaled y_sort y_typeA y_typeB y_typeC y_fieldName y_fieldType y_fields y_tags y_needed y_inside y_whole y_kind y_value y_parent y_name y_slotOf y_placeOf y_complete y_openNode y_openType y_openCount y_openNames y_openChoice y_output y_todo _ ?_
  dsimp only
  rcases hok with rfl | rfl
  · exact br_t rfl (f129 (h0 (Or.inl (fun w => absurd w.1 (by decide)))))
  refine br_f (by decide) ?_
  rcases pk_ix sc (n := 6) (by decide) with w | w | ⟨i, hi, rfl⟩
  · exact yi_0 5 (by decide) (Or.inl w) (br_t rfl (f129 (h0 (Or.inl (fun z => absurd w (Int32.not_lt.mpr z.2.1))))))
  · refine yi_0 5 (by decide) (Or.inr w) (br_t rfl (f129 (h0 (Or.inl (fun z => ?_)))))
    exact absurd (hh_gt (n := 5) w (by decide)) (Int32.not_lt.mpr z.2.2)
  · have e6 : (6 : Int32) * nI s + nI i = nI (6 * s + i) := by
      show nI 6 * nI s + nI i = _
      rw [pk_mul, nI_add]
    have e72 : (nI (6 * s + i)).toNatClampNeg = 6 * s + i := nI_clamp (by omega)
    have i72 : vp_in (nI (6 * s + i)) 72 := vp_in_nI (by omega) (by decide)
    refine yi_1 5 (by decide) (by omega) (br_f (by decide) ?_)
    rw [e6, e72]
    refine ⟨i72, ?_⟩
    rcases htg i hi with t1 | ⟨r, hr, t1⟩
    · rw [t1]
      exact br_t (by decide) (f129 (h0 (Or.inr ⟨i, hi, rfl, Or.inl t1⟩)))
    · have er : (nI r).toNatClampNeg = r := nI_clamp (by omega)
      rw [t1, er]
      refine br_f (nI_pos (by omega)) ⟨i72, vp_in_nI hr (by decide), ?_⟩
      by_cases k5 : y_sort r = 5
      · refine br_t k5 (br_f (by decide) ?_)
        rw [e6, e72, t1, ed, eo]
        refine ⟨i72, i8, nm_e ⟨i8, i8, ?_⟩⟩
        rw [pk_us, en]
        exact ⟨vp_in_nI hn (by decide), nm_e (h1 i r hi rfl rfl t1 hr k5)⟩
      · exact br_f k5 (f129 (h0 (Or.inr ⟨i, hi, rfl, Or.inr ⟨r, hr, t1, k5⟩⟩)))
end
