/-! the bind: names -/
theorem lv_c {so : Nat → Int32} {N d : Nat} {g kd vl pa nm sl tg : Nat → Int32} {dp : Nat → Nat} {on os om on' ot oc om' och g2 on2 os2 om2 on2' ot2 oc2 om2' och2 : Nat → Int32} {l : Nat} (h : lv_F so N d g kd vl pa nm sl tg dp on os om on' ot oc om' och l)
    (e0 : g2 (l + 1) = g (l + 1)) (e1 : on2 l = on l) (e2 : os2 l = os l) (e3 : om2 l = om l) (e4 : on2' l = on' l) (e5 : ot2 l = ot l) (e6 : oc2 l = oc l) (e7 : om2' l = om' l) (e8 : och2 l = och l) : lv_F so N d g2 kd vl pa nm sl tg dp on2 os2 om2 on2' ot2 oc2 om2' och2 l := by
  unfold lv_F at h ⊢
  rw [e0, e1, e2, e3, e4, e5, e6, e7, e8]
  exact h
/-- the name is one letter: j -/
def gd_N (t : Nat → Int32) (b q j : Nat) : Prop := q = b + 2 ∧ j < 6 ∧ t (b + 1) - 21 = nI j
theorem gd_dec (t : Nat → Int32) (b q : Nat) : (∃ j, gd_N t b q j) ∨ (q ≠ b + 2 ∨ t (b + 1) - 21 < 0 ∨ nI 6 ≤ t (b + 1) - 21) := by
  by_cases e : q = b + 2
  · rcases pk_ix (t (b + 1) - 21) (n := 6) (by decide) with h | h | ⟨j, hj, h⟩
    · exact Or.inr (Or.inr (Or.inl h))
    · exact Or.inr (Or.inr (Or.inr h))
    · exact Or.inl ⟨j, e, hj, h⟩
  · exact Or.inr (Or.inl e)
section
variable {x_length x_nodeCount x_bound x_fault x_faultPlace x_textCount x_escaped x_valueSlot x_valueName x_outputLength : Int32} {x_text x_typeKind x_typeDetail x_typeLeast x_typeMost x_fieldCount x_fieldName x_fieldType x_fieldNeeded x_tagType x_nodeKind x_nodeValue x_nodeParent x_nodeName x_nodeSlot x_nodeStart x_nodeTag x_completeCount x_openNode x_openSlot x_openNames x_openNext x_openComma x_output : Nat → Int32} {d b q j n s r m M : Nat} {P : SX → Prop}
theorem en_in (hd : d < 6) (hq : b + 1 ≤ q) (hq2 : q < 96) (h1 : q = b + 2 → wX_endName_45 P (nI d) (x_openSlot d) (x_text (b + 1) - 21) x_length x_nodeCount x_bound x_fault x_faultPlace 6 (nI q) (nI b) x_textCount x_escaped x_valueSlot x_valueName (nI (d + 1)) x_outputLength x_text x_typeKind x_typeDetail x_typeLeast x_typeMost x_fieldCount x_fieldName x_fieldType x_fieldNeeded x_tagType x_nodeKind x_nodeValue x_nodeParent x_nodeName x_nodeSlot x_nodeStart x_nodeTag x_completeCount x_openNode x_openSlot x_openNames x_openNext x_openComma x_output) (h0 : ¬ q = b + 2 → wX_endName_45 P (nI d) (x_openSlot d) (-1) x_length x_nodeCount x_bound x_fault x_faultPlace 6 (nI q) (nI b) x_textCount x_escaped x_valueSlot x_valueName (nI (d + 1)) x_outputLength x_text x_typeKind x_typeDetail x_typeLeast x_typeMost x_fieldCount x_fieldName x_fieldType x_fieldNeeded x_tagType x_nodeKind x_nodeValue x_nodeParent x_nodeName x_nodeSlot x_nodeStart x_nodeTag x_completeCount x_openNode x_openSlot x_openNames x_openNext x_openComma x_output) : wpX_endName P (x_length, x_nodeCount, x_bound, x_fault, x_faultPlace, 6, nI q, nI b, x_textCount, x_escaped, x_valueSlot, x_valueName, nI (d + 1), x_outputLength, x_text, x_typeKind, x_typeDetail, x_typeLeast, x_typeMost, x_fieldCount, x_fieldName, x_fieldType, x_fieldNeeded, x_tagType, x_nodeKind, x_nodeValue, x_nodeParent, x_nodeName, x_nodeSlot, x_nodeStart, x_nodeTag, x_completeCount, x_openNode, x_openSlot, x_openNames, x_openNext, x_openComma, x_output) := by
  have ed : (nI d).toNatClampNeg = d := nI_clamp (by omega)
  refine nm_r (nI_pred d) ⟨vp_in_nI hd (by decide), ?_⟩
  rw [ed]
  refine nm_e ?_
  rw [pk_sub (by omega)]
  by_cases e : q = b + 2
  · subst e
    rw [show b + 2 - b = 2 from by omega]
    refine br_t rfl ?_
    rw [show nI (b + 2) - 1 = nI (b + 1) from nI_pred (b + 1), nI_clamp (by omega)]
    exact ⟨vp_in_nI (by omega) (by decide), h1 rfl⟩
  · refine br_f (fun w => ?_) (h0 e)
    have := hh_i (by omega) (by decide) (m := 2) w
    omega
theorem en_no (hd : d < 6) (hq : b + 1 ≤ q) (hq2 : q < 96) (h : q ≠ b + 2 ∨ x_text (b + 1) - 21 < 0 ∨ nI 6 ≤ x_text (b + 1) - 21) (hp : P (x_length, x_nodeCount, x_bound, 7, nI q, 5, nI q, nI b, x_textCount, x_escaped, x_valueSlot, x_valueName, nI (d + 1), x_outputLength, x_text, x_typeKind, x_typeDetail, x_typeLeast, x_typeMost, x_fieldCount, x_fieldName, x_fieldType, x_fieldNeeded, x_tagType, x_nodeKind, x_nodeValue, x_nodeParent, x_nodeName, x_nodeSlot, x_nodeStart, x_nodeTag, x_completeCount, x_openNode, x_openSlot, x_openNames, x_openNext, x_openComma, x_output)) : wpX_endName P (x_length, x_nodeCount, x_bound, x_fault, x_faultPlace, 6, nI q, nI b, x_textCount, x_escaped, x_valueSlot, x_valueName, nI (d + 1), x_outputLength, x_text, x_typeKind, x_typeDetail, x_typeLeast, x_typeMost, x_fieldCount, x_fieldName, x_fieldType, x_fieldNeeded, x_tagType, x_nodeKind, x_nodeValue, x_nodeParent, x_nodeName, x_nodeSlot, x_nodeStart, x_nodeTag, x_completeCount, x_openNode, x_openSlot, x_openNames, x_openNext, x_openComma, x_output) := by
  refine en_in hd hq hq2 (fun e => ?_) (fun _ => br_t (by decide) hp)
  by_cases z : x_text (b + 1) - 21 < 0
  · exact br_t z hp
  · have h6 := (h.resolve_left (fun w => w e)).resolve_left z
    exact br_f z (br_f (Int32.not_lt.mpr h6) hp)
theorem en_ch (hd : d < 6) (hq2 : q < 96) (hg : gd_N x_text b q j) (eo : x_openNode d = nI n) (hn : n < 40) (esl : x_nodeSlot n = nI s) (hs : s < 12) (es : x_openSlot d = -1) (h1 : nI j = x_typeDetail s → P (x_length, x_nodeCount, x_bound, x_fault, x_faultPlace, 5, nI q, nI b, x_textCount, x_escaped, x_valueSlot, x_valueName, nI (d + 1), x_outputLength, x_text, x_typeKind, x_typeDetail, x_typeLeast, x_typeMost, x_fieldCount, x_fieldName, x_fieldType, x_fieldNeeded, x_tagType, x_nodeKind, x_nodeValue, x_nodeParent, x_nodeName, x_nodeSlot, x_nodeStart, x_nodeTag, x_completeCount, x_openNode, x_openSlot, x_openNames, x_openNext, x_openComma, x_output)) (h0 : ¬ nI j = x_typeDetail s → P (x_length, x_nodeCount, x_bound, 7, nI q, 5, nI q, nI b, x_textCount, x_escaped, x_valueSlot, x_valueName, nI (d + 1), x_outputLength, x_text, x_typeKind, x_typeDetail, x_typeLeast, x_typeMost, x_fieldCount, x_fieldName, x_fieldType, x_fieldNeeded, x_tagType, x_nodeKind, x_nodeValue, x_nodeParent, x_nodeName, x_nodeSlot, x_nodeStart, x_nodeTag, x_completeCount, x_openNode, x_openSlot, x_openNames, x_openNext, x_openComma, x_output)) : wpX_endName P (x_length, x_nodeCount, x_bound, x_fault, x_faultPlace, 6, nI q, nI b, x_textCount, x_escaped, x_valueSlot, x_valueName, nI (d + 1), x_outputLength, x_text, x_typeKind, x_typeDetail, x_typeLeast, x_typeMost, x_fieldCount, x_fieldName, x_fieldType, x_fieldNeeded, x_tagType, x_nodeKind, x_nodeValue, x_nodeParent, x_nodeName, x_nodeSlot, x_nodeStart, x_nodeTag, x_completeCount, x_openNode, x_openSlot, x_openNames, x_openNext, x_openComma, x_output) := by
  obtain ⟨rfl, hj, ej⟩ := hg
  have ed : (nI d).toNatClampNeg = d := nI_clamp (by omega)
  have en : (nI n).toNatClampNeg = n := nI_clamp (by omega)
  have ess : (nI s).toNatClampNeg = s := nI_clamp (by omega)
  refine en_in hd (by omega) hq2 (fun _ => ?_) (fun e => absurd rfl e)
  rw [ej, es]
  refine br_f (nI_pos (by omega)) (br_t (nI_lt (b := 6) hj (by decide)) (br_t rfl ⟨vp_in_nI hd (by decide), ?_⟩))
  rw [ed, eo, en, esl, ess]
  exact ⟨vp_in_nI hn (by decide), vp_in_nI hs (by decide), h1, h0⟩
theorem en_rc (hd : d < 6) (hq2 : q < 96) (hg : gd_N x_text b q j) (hr : r < 12) (es : x_openSlot d = nI r) (hm4 : m ≤ 4) (hm : x_fieldCount r = nI m) (hM : M < 64) (eM : x_openNames d = nI M)
    (h0 : ff_F x_fieldName r (nI j) m 0 = -1 ∨ M.testBit j = true → P (x_length, x_nodeCount, x_bound, 7, nI q, 5, nI q, nI b, x_textCount, x_escaped, x_valueSlot, x_valueName, nI (d + 1), x_outputLength, x_text, x_typeKind, x_typeDetail, x_typeLeast, x_typeMost, x_fieldCount, x_fieldName, x_fieldType, x_fieldNeeded, x_tagType, x_nodeKind, x_nodeValue, x_nodeParent, x_nodeName, x_nodeSlot, x_nodeStart, x_nodeTag, x_completeCount, x_openNode, x_openSlot, x_openNames, x_openNext, x_openComma, x_output))
    (h1 : ∀ i, i < m → ff_F x_fieldName r (nI j) m 0 = nI (4 * r + i) → M.testBit j = false → P (x_length, x_nodeCount, x_bound, x_fault, x_faultPlace, 5, nI q, nI b, x_textCount, x_escaped, x_fieldType (4 * r + i), nI j, nI (d + 1), x_outputLength, x_text, x_typeKind, x_typeDetail, x_typeLeast, x_typeMost, x_fieldCount, x_fieldName, x_fieldType, x_fieldNeeded, x_tagType, x_nodeKind, x_nodeValue, x_nodeParent, x_nodeName, x_nodeSlot, x_nodeStart, x_nodeTag, x_completeCount, x_openNode, x_openSlot, upd x_openNames d (nI (M ||| 2 ^ j)), x_openNext, x_openComma, x_output)) : wpX_endName P (x_length, x_nodeCount, x_bound, x_fault, x_faultPlace, 6, nI q, nI b, x_textCount, x_escaped, x_valueSlot, x_valueName, nI (d + 1), x_outputLength, x_text, x_typeKind, x_typeDetail, x_typeLeast, x_typeMost, x_fieldCount, x_fieldName, x_fieldType, x_fieldNeeded, x_tagType, x_nodeKind, x_nodeValue, x_nodeParent, x_nodeName, x_nodeSlot, x_nodeStart, x_nodeTag, x_completeCount, x_openNode, x_openSlot, x_openNames, x_openNext, x_openComma, x_output) := by
  obtain ⟨rfl, hj, ej⟩ := hg
  have ed : (nI d).toNatClampNeg = d := nI_clamp (by omega)
  have i6 : vp_in (nI d) 6 := vp_in_nI hd (by decide)
  refine en_in hd (by omega) hq2 (fun _ => ?_) (fun e => absurd rfl e)
  rw [ej, es]
  refine br_f (nI_pos (by omega)) (br_t (nI_lt (b := 6) hj (by decide)) (br_f (hh_m1 (by omega)) (xf_find hr hm4 hm ?_)))
  rcases ff_S x_fieldName r (nI j) m 0 with ⟨f1, f2⟩ | ⟨i, -, hi, f1, f2⟩
  · rw [f1]
    exact br_t rfl (h0 (Or.inl f1))
  · have hi' : i < m := by omega
    rw [f1]
    refine br_f (hh_m1 (by omega)) ⟨i6, ?_⟩
    rw [ed, eM]
    by_cases z : M.testBit j = false
    · refine br_t ((bt_x M hM j hj).mpr z) ⟨i6, i6, nm_r ?_ ⟨vp_in_nI (by omega) (by decide), nm_r ?_ (h1 i hi' f1 z)⟩⟩
      · rw [bt_o M hM j hj]
      · rw [nI_clamp (by omega)]
    · have z' : M.testBit j = true := by
        cases w : M.testBit j
        · exact absurd w z
        · rfl
      exact br_f (fun w => z ((bt_x M hM j hj).mp w)) (h0 (Or.inr z'))
end
section
variable {y_length y_parts y_bad y_nodes y_place y_bound y_nextName y_wantsName y_wantsTag y_printed y_waiting y_scaled : Int32} {y_sort y_typeA y_typeB y_typeC y_fieldName y_fieldType y_fields y_tags y_needed y_text y_begin y_end y_inside y_whole y_kind y_value y_parent y_name y_slotOf y_placeOf y_complete y_openNode y_openType y_openCount y_openNames y_openChoice y_output y_todo : Nat → Int32} {d b q j s r m M k : Nat} {Q : SY → Prop}
theorem bn_in (hd : d < 6) (hk : k < 96) (hq : b + 1 ≤ q) (hq2 : q < 96) (ew : y_whole k = 1) (eb : y_begin k = nI b) (ee : y_end k = nI q)
    (h1 : ∀ j, gd_N y_text b q j → wY_bindName_69 Q (nI k) (nI d) (nI j) 1 y_length y_parts y_bad y_nodes 0 y_place y_bound (nI (d + 1)) y_nextName y_wantsName y_wantsTag y_printed y_waiting y_scaled y_sort y_typeA y_typeB y_typeC y_fieldName y_fieldType y_fields y_tags y_needed y_text y_begin y_end y_inside y_whole y_kind y_value y_parent y_name y_slotOf y_placeOf y_complete y_openNode y_openType y_openCount y_openNames y_openChoice y_output y_todo) (h0 : (q ≠ b + 2 ∨ y_text (b + 1) - 21 < 0 ∨ nI 6 ≤ y_text (b + 1) - 21) → wY_bindName_69 Q (nI k) (nI d) (y_text (b + 1) - 21) 0 y_length y_parts y_bad y_nodes 0 y_place y_bound (nI (d + 1)) y_nextName y_wantsName y_wantsTag y_printed y_waiting y_scaled y_sort y_typeA y_typeB y_typeC y_fieldName y_fieldType y_fields y_tags y_needed y_text y_begin y_end y_inside y_whole y_kind y_value y_parent y_name y_slotOf y_placeOf y_complete y_openNode y_openType y_openCount y_openNames y_openChoice y_output y_todo) : wpY_bindName Q (y_length, y_parts, y_bad, y_nodes, 0, y_place, y_bound, nI (d + 1), y_nextName, y_wantsName, y_wantsTag, y_printed, y_waiting, y_scaled, y_sort, y_typeA, y_typeB, y_typeC, y_fieldName, y_fieldType, y_fields, y_tags, y_needed, y_text, y_begin, y_end, y_inside, y_whole, y_kind, y_value, y_parent, y_name, y_slotOf, y_placeOf, y_complete, y_openNode, y_openType, y_openCount, y_openNames, y_openChoice, y_output, y_todo) (nI k) := by
  have ek : (nI k).toNatClampNeg = k := nI_clamp (by omega)
  have ik : vp_in (nI k) 96 := vp_in_nI hk (by decide)
  have e1 : (nI (b + 1)).toNatClampNeg = b + 1 := nI_clamp (by omega)
  have e2 : nI b + 2 = nI (b + 2) := by show nI b + nI 2 = _; rw [nI_add]
  refine And.intro ik ?_
  rw [ek, ew, eb, ee, nI_1, e1, e2]
  refine br_f (by decide) (nm_r (nI_pred d) ⟨ik, vp_in_nI (by omega) (by decide), nm_e (nm_e ⟨ik, ik, ?_⟩)⟩)
  by_cases e : q = b + 2
  · subst e
    refine br_t rfl ?_
    rcases pk_ix (y_text (b + 1) - 21) (n := 6) (by decide) with h | h | ⟨j, hj, h⟩
    · exact yi_0 5 (by decide) (Or.inl h) (br_t rfl (h0 (Or.inr (Or.inl h))))
    · exact yi_0 5 (by decide) (Or.inr h) (br_t rfl (h0 (Or.inr (Or.inr h))))
    · have G := h1 j ⟨rfl, hj, h⟩
      rw [h]
      exact yi_1 5 (by decide) (by omega) (br_f (by decide) G)
  · refine br_f (fun w => e (hh_i (by omega) (by omega) w)) (h0 (Or.inl e))
/-- in a record, or behind the tag -/
theorem bn_rc (hd : d < 6) (hk : k < 96) (hq : b + 1 ≤ q) (hq2 : q < 96) (ew : y_whole k = 1) (eb : y_begin k = nI b) (ee : y_end k = nI q) (hr : r < 12) (es : y_openType d = nI r) (hm4 : m ≤ 4) (hm : y_fields r = nI m) (hM : M < 64) (eM : y_openNames d = nI M)
    (hn : (q ≠ b + 2 ∨ y_text (b + 1) - 21 < 0 ∨ nI 6 ≤ y_text (b + 1) - 21) → Q (y_length, y_parts, y_bad, y_nodes, 7, nI q, y_bound, nI (d + 1), y_text (b + 1) - 21, y_wantsName, y_wantsTag, y_printed, y_waiting, y_scaled, y_sort, y_typeA, y_typeB, y_typeC, y_fieldName, y_fieldType, y_fields, y_tags, y_needed, y_text, y_begin, y_end, y_inside, y_whole, y_kind, y_value, y_parent, y_name, y_slotOf, y_placeOf, y_complete, y_openNode, y_openType, y_openCount, y_openNames, y_openChoice, y_output, y_todo))
    (h0 : ∀ j, gd_N y_text b q j → ff_F y_fieldName r (nI j) m 0 = -1 ∨ M.testBit j = true → Q (y_length, y_parts, y_bad, y_nodes, 7, nI q, y_bound, nI (d + 1), nI j, y_wantsName, y_wantsTag, y_printed, y_waiting, y_scaled, y_sort, y_typeA, y_typeB, y_typeC, y_fieldName, y_fieldType, y_fields, y_tags, y_needed, y_text, y_begin, y_end, y_inside, y_whole, y_kind, y_value, y_parent, y_name, y_slotOf, y_placeOf, y_complete, y_openNode, y_openType, y_openCount, y_openNames, y_openChoice, y_output, y_todo))
    (h1 : ∀ j, gd_N y_text b q j → ∀ i, i < m → ff_F y_fieldName r (nI j) m 0 = nI (4 * r + i) → M.testBit j = false → Q (y_length, y_parts, y_bad, y_nodes, 0, y_place, y_bound, nI (d + 1), nI j, y_wantsName, y_wantsTag, y_printed, y_waiting, y_scaled, y_sort, y_typeA, y_typeB, y_typeC, y_fieldName, y_fieldType, y_fields, y_tags, y_needed, y_text, y_begin, y_end, y_inside, y_whole, y_kind, y_value, y_parent, y_name, y_slotOf, y_placeOf, y_complete, y_openNode, y_openType, y_openCount, upd y_openNames d (nI (M ||| 2 ^ j)), y_openChoice, y_output, y_todo)) : wpY_bindName Q (y_length, y_parts, y_bad, y_nodes, 0, y_place, y_bound, nI (d + 1), y_nextName, y_wantsName, y_wantsTag, y_printed, y_waiting, y_scaled, y_sort, y_typeA, y_typeB, y_typeC, y_fieldName, y_fieldType, y_fields, y_tags, y_needed, y_text, y_begin, y_end, y_inside, y_whole, y_kind, y_value, y_parent, y_name, y_slotOf, y_placeOf, y_complete, y_openNode, y_openType, y_openCount, y_openNames, y_openChoice, y_output, y_todo) (nI k) := by
  have ed : (nI d).toNatClampNeg = d := nI_clamp (by omega)
  have i8 : vp_in (nI d) 8 := vp_in_nI (by omega) (by decide)
  have ek : (nI k).toNatClampNeg = k := nI_clamp (by omega)
  have ik : vp_in (nI k) 96 := vp_in_nI hk (by decide)
  have to128 : ∀ x4 z0 : Int32, wY_bindName_128 Q (nI k) (nI d) x4 z0 y_length y_parts y_bad y_nodes 0 y_place y_bound (nI (d + 1)) y_nextName y_wantsName y_wantsTag y_printed y_waiting y_scaled y_sort y_typeA y_typeB y_typeC y_fieldName y_fieldType y_fields y_tags y_needed y_text y_begin y_end y_inside y_whole y_kind y_value y_parent y_name y_slotOf y_placeOf y_complete y_openNode y_openType y_openCount y_openNames y_openChoice y_output y_todo → wY_bindName_69 Q (nI k) (nI d) x4 z0 y_length y_parts y_bad y_nodes 0 y_place y_bound (nI (d + 1)) y_nextName y_wantsName y_wantsTag y_printed y_waiting y_scaled y_sort y_typeA y_typeB y_typeC y_fieldName y_fieldType y_fields y_tags y_needed y_text y_begin y_end y_inside y_whole y_kind y_value y_parent y_name y_slotOf y_placeOf y_complete y_openNode y_openType y_openCount y_openNames y_openChoice y_output y_todo := by
    intro x4 z0 w
    unfold wY_bindName_69
    rw [ed, es]
    exact ⟨i8, br_c (fun _ => w) (fun _ => ⟨i8, br_t (nI_pos' (by omega)) w⟩)⟩
  have f163 : ∀ x4 : Int32, Q (y_length, y_parts, y_bad, y_nodes, 7, nI q, y_bound, nI (d + 1), x4, y_wantsName, y_wantsTag, y_printed, y_waiting, y_scaled, y_sort, y_typeA, y_typeB, y_typeC, y_fieldName, y_fieldType, y_fields, y_tags, y_needed, y_text, y_begin, y_end, y_inside, y_whole, y_kind, y_value, y_parent, y_name, y_slotOf, y_placeOf, y_complete, y_openNode, y_openType, y_openCount, y_openNames, y_openChoice, y_output, y_todo) → wY_bindName_163 Q (nI k) x4 y_length y_parts y_bad y_nodes 0 y_place y_bound (nI (d + 1)) y_nextName y_wantsName y_wantsTag y_printed y_waiting y_scaled y_sort y_typeA y_typeB y_typeC y_fieldName y_fieldType y_fields y_tags y_needed y_text y_begin y_end y_inside y_whole y_kind y_value y_parent y_name y_slotOf y_placeOf y_complete y_openNode y_openType y_openCount y_openNames y_openChoice y_output y_todo := by
    intro x4 w
    unfold wY_bindName_163
    rw [ek, ee]
    exact ⟨ik, br_t rfl w⟩
  refine bn_in hd hk hq hq2 ew eb ee (fun j hg => to128 _ _ ?_) (fun h => to128 _ _ (br_t rfl (f163 _ (hn h))))
  have hj := hg.2.1
  refine br_f (by decide) ⟨i8, ?_⟩
  rw [ed, es]
  refine yf_find hr hm4 hm ?_
  rcases ff_S y_fieldName r (nI j) m 0 with ⟨f1, f2⟩ | ⟨i, -, hi, f1, f2⟩
  · rw [f1]; exact br_t (by decide) (f163 _ (h0 j hg (Or.inl f1)))
  · rw [f1]
    refine br_f (nI_pos (by omega)) ⟨i8, ?_⟩
    rw [eM]
    by_cases z : M.testBit j = true
    · exact br_t ((bt_y1 M hM j hj).mpr z) (f163 _ (h0 j hg (Or.inr z)))
    · have z' : M.testBit j = false := by
        cases w : M.testBit j
        · rfl
        · exact absurd w z
      refine br_f (fun w => z ((bt_y1 M hM j hj).mp w)) ⟨i8, i8, nm_r ?_ (h1 j hg i (by omega) f1 z')⟩
      rw [bt_o M hM j hj]
/-- a choice's first -/
theorem bn_ch (hd : d < 6) (hk : k < 96) (hq : b + 1 ≤ q) (hq2 : q < 96) (ew : y_whole k = 1) (eb : y_begin k = nI b) (ee : y_end k = nI q) (hs : s < 12) (es : y_openType d = -1) (ec : y_openChoice d = nI s)
    (hn : (q ≠ b + 2 ∨ y_text (b + 1) - 21 < 0 ∨ nI 6 ≤ y_text (b + 1) - 21) → Q (y_length, y_parts, y_bad, y_nodes, 7, nI q, y_bound, nI (d + 1), y_nextName, y_wantsName, 1, y_printed, y_waiting, y_scaled, y_sort, y_typeA, y_typeB, y_typeC, y_fieldName, y_fieldType, y_fields, y_tags, y_needed, y_text, y_begin, y_end, y_inside, y_whole, y_kind, y_value, y_parent, y_name, y_slotOf, y_placeOf, y_complete, y_openNode, y_openType, y_openCount, y_openNames, y_openChoice, y_output, y_todo))
    (h0 : ∀ j, gd_N y_text b q j → ¬ nI j = y_typeA s → Q (y_length, y_parts, y_bad, y_nodes, 7, nI q, y_bound, nI (d + 1), y_nextName, y_wantsName, 1, y_printed, y_waiting, y_scaled, y_sort, y_typeA, y_typeB, y_typeC, y_fieldName, y_fieldType, y_fields, y_tags, y_needed, y_text, y_begin, y_end, y_inside, y_whole, y_kind, y_value, y_parent, y_name, y_slotOf, y_placeOf, y_complete, y_openNode, y_openType, y_openCount, y_openNames, y_openChoice, y_output, y_todo))
    (h1 : ∀ j, gd_N y_text b q j → nI j = y_typeA s → Q (y_length, y_parts, y_bad, y_nodes, 0, y_place, y_bound, nI (d + 1), y_nextName, y_wantsName, 1, y_printed, y_waiting, y_scaled, y_sort, y_typeA, y_typeB, y_typeC, y_fieldName, y_fieldType, y_fields, y_tags, y_needed, y_text, y_begin, y_end, y_inside, y_whole, y_kind, y_value, y_parent, y_name, y_slotOf, y_placeOf, y_complete, y_openNode, y_openType, y_openCount, y_openNames, y_openChoice, y_output, y_todo)) : wpY_bindName Q (y_length, y_parts, y_bad, y_nodes, 0, y_place, y_bound, nI (d + 1), y_nextName, y_wantsName, y_wantsTag, y_printed, y_waiting, y_scaled, y_sort, y_typeA, y_typeB, y_typeC, y_fieldName, y_fieldType, y_fields, y_tags, y_needed, y_text, y_begin, y_end, y_inside, y_whole, y_kind, y_value, y_parent, y_name, y_slotOf, y_placeOf, y_complete, y_openNode, y_openType, y_openCount, y_openNames, y_openChoice, y_output, y_todo) (nI k) := by
  have ed : (nI d).toNatClampNeg = d := nI_clamp (by omega)
  have ess : (nI s).toNatClampNeg = s := nI_clamp (by omega)
  have i8 : vp_in (nI d) 8 := vp_in_nI (by omega) (by decide)
  have ek : (nI k).toNatClampNeg = k := nI_clamp (by omega)
  have ik : vp_in (nI k) 96 := vp_in_nI hk (by decide)
  have f110 : Q (y_length, y_parts, y_bad, y_nodes, 7, nI q, y_bound, nI (d + 1), y_nextName, y_wantsName, 1, y_printed, y_waiting, y_scaled, y_sort, y_typeA, y_typeB, y_typeC, y_fieldName, y_fieldType, y_fields, y_tags, y_needed, y_text, y_begin, y_end, y_inside, y_whole, y_kind, y_value, y_parent, y_name, y_slotOf, y_placeOf, y_complete, y_openNode, y_openType, y_openCount, y_openNames, y_openChoice, y_output, y_todo) → wY_bindName_110 Q (nI k) y_length y_parts y_bad y_nodes 0 y_place y_bound (nI (d + 1)) y_nextName y_wantsName y_wantsTag y_printed y_waiting y_scaled y_sort y_typeA y_typeB y_typeC y_fieldName y_fieldType y_fields y_tags y_needed y_text y_begin y_end y_inside y_whole y_kind y_value y_parent y_name y_slotOf y_placeOf y_complete y_openNode y_openType y_openCount y_openNames y_openChoice y_output y_todo := by
    intro w
    unfold wY_bindName_110
    rw [ek, ee]
    exact ⟨ik, br_t rfl w⟩
  have to : ∀ x4 z0 : Int32, ((z0 = 0 → wY_bindName_110 Q (nI k) y_length y_parts y_bad y_nodes 0 y_place y_bound (nI (d + 1)) y_nextName y_wantsName y_wantsTag y_printed y_waiting y_scaled y_sort y_typeA y_typeB y_typeC y_fieldName y_fieldType y_fields y_tags y_needed y_text y_begin y_end y_inside y_whole y_kind y_value y_parent y_name y_slotOf y_placeOf y_complete y_openNode y_openType y_openCount y_openNames y_openChoice y_output y_todo) ∧ (¬ z0 = 0 → (x4 = y_typeA s → Q (y_length, y_parts, y_bad, y_nodes, 0, y_place, y_bound, nI (d + 1), y_nextName, y_wantsName, 1, y_printed, y_waiting, y_scaled, y_sort, y_typeA, y_typeB, y_typeC, y_fieldName, y_fieldType, y_fields, y_tags, y_needed, y_text, y_begin, y_end, y_inside, y_whole, y_kind, y_value, y_parent, y_name, y_slotOf, y_placeOf, y_complete, y_openNode, y_openType, y_openCount, y_openNames, y_openChoice, y_output, y_todo)) ∧ (¬ x4 = y_typeA s → wY_bindName_110 Q (nI k) y_length y_parts y_bad y_nodes 0 y_place y_bound (nI (d + 1)) y_nextName y_wantsName y_wantsTag y_printed y_waiting y_scaled y_sort y_typeA y_typeB y_typeC y_fieldName y_fieldType y_fields y_tags y_needed y_text y_begin y_end y_inside y_whole y_kind y_value y_parent y_name y_slotOf y_placeOf y_complete y_openNode y_openType y_openCount y_openNames y_openChoice y_output y_todo))) → wY_bindName_69 Q (nI k) (nI d) x4 z0 y_length y_parts y_bad y_nodes 0 y_place y_bound (nI (d + 1)) y_nextName y_wantsName y_wantsTag y_printed y_waiting y_scaled y_sort y_typeA y_typeB y_typeC y_fieldName y_fieldType y_fields y_tags y_needed y_text y_begin y_end y_inside y_whole y_kind y_value y_parent y_name y_slotOf y_placeOf y_complete y_openNode y_openType y_openCount y_openNames y_openChoice y_output y_todo := by
    intro x4 z0 w
    unfold wY_bindName_69
    rw [ed, es, ec, ess]
    exact ⟨i8, br_f (nI_pos (by omega)) ⟨i8, br_f (by decide) ⟨w.1, fun z => ⟨i8, vp_in_nI hs (by decide), w.2 z⟩⟩⟩⟩
  exact bn_in hd hk hq hq2 ew eb ee (fun j hg => to _ _ (br_f (by decide) ⟨h1 j hg, fun z => f110 (h0 j hg z)⟩)) (fun h => to _ _ (br_t rfl (f110 (hn h))))
end
