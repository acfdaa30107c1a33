/-! the bind: the end of a record -/
theorem bt_x : ∀ M, M < 64 → ∀ j, j < 6 → ((nI M &&& ((1 : Int32) <<< (nI j &&& 31))) = 0 ↔ M.testBit j = false) := by decide +kernel
theorem bt_y0 : ∀ M, M < 64 → ∀ j, j < 6 → (((nI M >>> (nI j &&& 31)) &&& 1) = 0 ↔ M.testBit j = false) := by decide +kernel
theorem bt_y1 : ∀ M, M < 64 → ∀ j, j < 6 → (((nI M >>> (nI j &&& 31)) &&& 1) = 1 ↔ M.testBit j = true) := by decide +kernel
theorem bt_o : ∀ M, M < 64 → ∀ j, j < 6 → (nI M ||| ((1 : Int32) <<< (nI j &&& 31))) = nI (M ||| 2 ^ j) := by decide +kernel
theorem bt_l : ∀ M, M < 64 → ∀ j, j < 6 → (M ||| 2 ^ j) < 64 ∧ (M ||| 2 ^ j).testBit j = true := by decide +kernel
theorem bt_k : ∀ M, M < 64 → ∀ j, j < 6 → ∀ i, i < 6 → M.testBit i = true → (M ||| 2 ^ j).testBit i = true := by decide +kernel
theorem bt_1 : ∀ j, j < 6 → ((1 : Int32) <<< (nI j &&& 31)) = nI (2 ^ j) ∧ 2 ^ j < 64 := by decide +kernel
/-- field i of slot r is needed and not there -/
def ms_F (fN fB : Nat → Int32) (r M i : Nat) : Prop := ¬ fB (4 * r + i) = 0 ∧ ∃ j, j < 6 ∧ fN (4 * r + i) = nI j ∧ M.testBit j = false
section
variable {x_length x_nodeCount x_bound x_fault x_faultPlace x_mode x_at x_tokenStart x_textCount x_escaped x_valueSlot x_valueName x_depth x_outputLength : Int32} {x_text x_typeKind x_typeDetail x_typeLeast x_typeMost x_fieldCount x_fieldName x_fieldType x_fieldNeeded x_tagType x_nodeKind x_nodeValue x_nodeParent x_nodeName x_nodeSlot x_nodeStart x_nodeTag x_completeCount x_openNode x_openSlot x_openNames x_openNext x_openComma x_output : Nat → Int32} {d r m M n : Nat} {Q : SX → Prop}
theorem xr_go (hd : d < 6) (hr : r < 12) (hm4 : m ≤ 4) (hm : x_fieldCount r = nI m) (hM : M < 64) (eM : x_openNames d = nI M) (hf : ∀ i, i < m → ∃ j, j < 6 ∧ x_fieldName (4 * r + i) = nI j) : ∀ (q i e : Nat), i + q = e → e ≤ m → (∀ j, i ≤ j → j < e → ¬ ms_F x_fieldName x_fieldNeeded r M j) →
    (∃ f, wX_closeRecord_32 Q (nI d) (nI r) x_length x_nodeCount x_bound x_fault x_faultPlace x_mode x_at x_tokenStart x_textCount x_escaped x_valueSlot x_valueName x_depth x_outputLength x_text x_typeKind x_typeDetail x_typeLeast x_typeMost x_fieldCount x_fieldName x_fieldType x_fieldNeeded x_tagType x_nodeKind x_nodeValue x_nodeParent x_nodeName x_nodeSlot x_nodeStart x_nodeTag x_completeCount x_openNode x_openSlot x_openNames x_openNext x_openComma x_output f (nI e)) → ∃ f, wX_closeRecord_32 Q (nI d) (nI r) x_length x_nodeCount x_bound x_fault x_faultPlace x_mode x_at x_tokenStart x_textCount x_escaped x_valueSlot x_valueName x_depth x_outputLength x_text x_typeKind x_typeDetail x_typeLeast x_typeMost x_fieldCount x_fieldName x_fieldType x_fieldNeeded x_tagType x_nodeKind x_nodeValue x_nodeParent x_nodeName x_nodeSlot x_nodeStart x_nodeTag x_completeCount x_openNode x_openSlot x_openNames x_openNext x_openComma x_output f (nI i) := by
  intro q
  induction q with
  | zero =>
    intro i e h1 h2 h3 h
    have : i = e := by omega
    subst this; exact h
  | succ q ih =>
    intro i e h1 h2 h3 h
    obtain ⟨f, hw⟩ := ih (i + 1) e (by omega) h2 (fun j a b => h3 j (by omega) b) h
    have er : (nI r).toNatClampNeg = r := nI_clamp (by omega)
    have ed : (nI d).toNatClampNeg = d := nI_clamp (by omega)
    have e4 : nI r * 4 + nI i = nI (4 * r + i) := by
      show nI r * nI 4 + nI i = _
      rw [pk_mul, nI_add, Nat.mul_comm]
    have ee : (nI (4 * r + i)).toNatClampNeg = 4 * r + i := nI_clamp (by omega)
    have i48 : vp_in (nI (4 * r + i)) 48 := vp_in_nI (by omega) (by decide)
    refine ⟨f + 1, And.intro (vp_in_nI hr (by decide)) (br_f ?_ (nm_r e4 ⟨i48, ?_⟩))⟩
    · rw [er, hm]; exact nI_ge (by omega) (by omega)
    · rw [ee]
      by_cases z : x_fieldNeeded (4 * r + i) = 0
      · exact br_t z (nm_r (nI_1 i) hw)
      · obtain ⟨j, hj, ej⟩ := hf i (by omega)
        refine br_f z ⟨vp_in_nI hd (by decide), i48, ?_⟩
        rw [ed, eM, ej]
        refine br_f (fun w => ?_) (nm_r (nI_1 i) hw)
        exact h3 i (by omega) (by omega) ⟨z, j, hj, ej, (bt_x M hM j hj).mp w⟩
theorem xr_miss (hd : d < 6) (hr : r < 12) (hm4 : m ≤ 4) (hm : x_fieldCount r = nI m) (hM : M < 64) (eM : x_openNames d = nI M) {i : Nat} (hi : i < m) (h : ms_F x_fieldName x_fieldNeeded r M i) (hq : Q (x_length, x_nodeCount, x_bound, 8, x_at, x_mode, x_at, x_tokenStart, x_textCount, x_escaped, x_valueSlot, x_valueName, x_depth, x_outputLength, x_text, x_typeKind, x_typeDetail, x_typeLeast, x_typeMost, x_fieldCount, x_fieldName, x_fieldType, x_fieldNeeded, x_tagType, x_nodeKind, x_nodeValue, x_nodeParent, x_nodeName, x_nodeSlot, x_nodeStart, x_nodeTag, x_completeCount, x_openNode, x_openSlot, x_openNames, x_openNext, x_openComma, x_output)) : ∃ f, wX_closeRecord_32 Q (nI d) (nI r) x_length x_nodeCount x_bound x_fault x_faultPlace x_mode x_at x_tokenStart x_textCount x_escaped x_valueSlot x_valueName x_depth x_outputLength x_text x_typeKind x_typeDetail x_typeLeast x_typeMost x_fieldCount x_fieldName x_fieldType x_fieldNeeded x_tagType x_nodeKind x_nodeValue x_nodeParent x_nodeName x_nodeSlot x_nodeStart x_nodeTag x_completeCount x_openNode x_openSlot x_openNames x_openNext x_openComma x_output f (nI i) := by
  have er : (nI r).toNatClampNeg = r := nI_clamp (by omega)
  have ed : (nI d).toNatClampNeg = d := nI_clamp (by omega)
  have e4 : nI r * 4 + nI i = nI (4 * r + i) := by
    show nI r * nI 4 + nI i = _
    rw [pk_mul, nI_add, Nat.mul_comm]
  have ee : (nI (4 * r + i)).toNatClampNeg = 4 * r + i := nI_clamp (by omega)
  have i48 : vp_in (nI (4 * r + i)) 48 := vp_in_nI (by omega) (by decide)
  obtain ⟨z, j, hj, ej, hb⟩ := h
  refine ⟨0 + 1, And.intro (vp_in_nI hr (by decide)) (br_f ?_ (nm_r e4 ⟨i48, ?_⟩))⟩
  · rw [er, hm]; exact nI_ge hi (by omega)
  · rw [ee]
    refine br_f z ⟨vp_in_nI hd (by decide), i48, ?_⟩
    rw [ed, eM, ej]
    exact br_t ((bt_x M hM j hj).mpr hb) hq
theorem xr_end (hd : d < 6) (hr : r < 12) (hm4 : m ≤ 4) (hm : x_fieldCount r = nI m) (hn : n < 40) (eo : x_openNode d = nI n) (h1 : x_nodeTag n = -1 → Q (x_length, x_nodeCount, x_bound, x_fault, x_faultPlace, 2, x_at, x_tokenStart, x_textCount, x_escaped, x_valueSlot, x_valueName, nI d, x_outputLength, x_text, x_typeKind, x_typeDetail, x_typeLeast, x_typeMost, x_fieldCount, x_fieldName, x_fieldType, x_fieldNeeded, x_tagType, x_nodeKind, x_nodeValue, x_nodeParent, x_nodeName, x_nodeSlot, x_nodeStart, x_nodeTag, upd x_completeCount r (x_completeCount r + 1), x_openNode, x_openSlot, x_openNames, x_openNext, x_openComma, x_output)) (h0 : ¬ x_nodeTag n = -1 → Q (x_length, x_nodeCount, x_bound, x_fault, x_faultPlace, 2, x_at, x_tokenStart, x_textCount, x_escaped, x_valueSlot, x_valueName, nI d, x_outputLength, x_text, x_typeKind, x_typeDetail, x_typeLeast, x_typeMost, x_fieldCount, x_fieldName, x_fieldType, x_fieldNeeded, x_tagType, x_nodeKind, x_nodeValue, x_nodeParent, x_nodeName, x_nodeSlot, x_nodeStart, x_nodeTag, x_completeCount, x_openNode, x_openSlot, x_openNames, x_openNext, x_openComma, x_output)) : ∃ f, wX_closeRecord_32 Q (nI d) (nI r) x_length x_nodeCount x_bound x_fault x_faultPlace x_mode x_at x_tokenStart x_textCount x_escaped x_valueSlot x_valueName x_depth x_outputLength x_text x_typeKind x_typeDetail x_typeLeast x_typeMost x_fieldCount x_fieldName x_fieldType x_fieldNeeded x_tagType x_nodeKind x_nodeValue x_nodeParent x_nodeName x_nodeSlot x_nodeStart x_nodeTag x_completeCount x_openNode x_openSlot x_openNames x_openNext x_openComma x_output f (nI m) := by
  have er : (nI r).toNatClampNeg = r := nI_clamp (by omega)
  have ed : (nI d).toNatClampNeg = d := nI_clamp (by omega)
  have en : (nI n).toNatClampNeg = n := nI_clamp (by omega)
  have ir : vp_in (nI r) 12 := vp_in_nI hr (by decide)
  refine ⟨0 + 1, And.intro ir (br_t ?_ ⟨vp_in_nI hd (by decide), ?_⟩)⟩
  · rw [er, hm]; exact nI_le (Nat.le_refl _) (by omega)
  · rw [ed, eo, en, er]
    exact ⟨vp_in_nI hn (by decide), fun z => ⟨ir, ir, nm_e (h1 z)⟩, h0⟩
end
section
variable {y_length y_parts y_bad y_nodes y_fault y_place y_bound y_nextName y_wantsName y_wantsTag y_printed y_waiting y_scaled : Int32} {y_sort y_typeA y_typeB y_typeC y_fieldName y_fieldType y_fields y_tags y_needed y_text y_begin y_end y_inside y_whole y_kind y_value y_parent y_name y_slotOf y_placeOf y_complete y_openNode y_openType y_openCount y_openNames y_openChoice y_output y_todo : Nat → Int32} {d r m M k : Nat} {Q : SY → Prop}
theorem yr_go (hd : d < 6) (hr : r < 12) (hm4 : m ≤ 4) (hm : y_fields r = nI m) (hM : M < 64) (eM : y_openNames d = nI M) (hf : ∀ i, i < m → ∃ j, j < 6 ∧ y_fieldName (4 * r + i) = nI j) : ∀ (q i e : Nat), i + q = e → e ≤ m → (∀ j, i ≤ j → j < e → ¬ ms_F y_fieldName y_needed r M j) →
    (∃ f, wY_closeRecord_36 Q (nI k) (nI d) (nI r) f (nI (4 * r + e)) y_length y_parts y_bad y_nodes y_fault y_place y_bound (nI (d + 1)) y_nextName y_wantsName y_wantsTag y_printed y_waiting y_scaled y_sort y_typeA y_typeB y_typeC y_fieldName y_fieldType y_fields y_tags y_needed y_text y_begin y_end y_inside y_whole y_kind y_value y_parent y_name y_slotOf y_placeOf y_complete y_openNode y_openType y_openCount y_openNames y_openChoice y_output y_todo) → ∃ f, wY_closeRecord_36 Q (nI k) (nI d) (nI r) f (nI (4 * r + i)) y_length y_parts y_bad y_nodes y_fault y_place y_bound (nI (d + 1)) y_nextName y_wantsName y_wantsTag y_printed y_waiting y_scaled y_sort y_typeA y_typeB y_typeC y_fieldName y_fieldType y_fields y_tags y_needed y_text y_begin y_end y_inside y_whole y_kind y_value y_parent y_name y_slotOf y_placeOf y_complete y_openNode y_openType y_openCount y_openNames y_openChoice y_output y_todo := by
  intro q
  induction q with
  | zero =>
    intro i e h1 h2 h3 h
    have : i = e := by omega
    subst this; exact h
  | succ q ih =>
    intro i e h1 h2 h3 h
    obtain ⟨f, hw⟩ := ih (i + 1) e (by omega) h2 (fun j a b => h3 j (by omega) b) h
    have er : (nI r).toNatClampNeg = r := nI_clamp (by omega)
    have ed : (nI d).toNatClampNeg = d := nI_clamp (by omega)
    have e4 : (4 : Int32) * nI r + nI m = nI (4 * r + m) := by
      show nI 4 * nI r + nI m = _
      rw [pk_mul, nI_add]
    have ee : (nI (4 * r + i)).toNatClampNeg = 4 * r + i := nI_clamp (by omega)
    have i48 : vp_in (nI (4 * r + i)) 48 := vp_in_nI (by omega) (by decide)
    refine ⟨f + 1, And.intro (vp_in_nI hr (by decide)) (br_f ?_ ⟨i48, ?_⟩)⟩
    · rw [er, hm, e4]; exact nI_ge (by omega) (by omega)
    · rw [ee]
      by_cases z : y_needed (4 * r + i) = 0
      · exact br_t z (nm_r (nI_1 _) hw)
      · obtain ⟨j, hj, ej⟩ := hf i (by omega)
        refine br_f z ⟨vp_in_nI (by omega) (by decide), i48, ?_⟩
        rw [ed, eM, ej]
        refine br_f (fun w => ?_) (nm_r (nI_1 _) hw)
        exact h3 i (by omega) (by omega) ⟨z, j, hj, ej, (bt_y0 M hM j hj).mp w⟩
theorem yr_end (hd : d < 6) (hr : r < 12) (hm4 : m ≤ 4) (hm : y_fields r = nI m) (h1 : ¬ 0 ≤ y_openChoice d → Q (y_length, y_parts, y_bad, y_nodes, y_fault, y_place, y_bound, nI d, y_nextName, y_wantsName, y_wantsTag, y_printed, y_waiting, y_scaled, y_sort, y_typeA, y_typeB, y_typeC, y_fieldName, y_fieldType, y_fields, y_tags, y_needed, y_text, y_begin, y_end, y_inside, y_whole, y_kind, y_value, y_parent, y_name, y_slotOf, y_placeOf, upd y_complete r (y_complete r + 1), y_openNode, y_openType, y_openCount, y_openNames, y_openChoice, y_output, y_todo)) (h0 : 0 ≤ y_openChoice d → Q (y_length, y_parts, y_bad, y_nodes, y_fault, y_place, y_bound, nI d, y_nextName, y_wantsName, y_wantsTag, y_printed, y_waiting, y_scaled, y_sort, y_typeA, y_typeB, y_typeC, y_fieldName, y_fieldType, y_fields, y_tags, y_needed, y_text, y_begin, y_end, y_inside, y_whole, y_kind, y_value, y_parent, y_name, y_slotOf, y_placeOf, y_complete, y_openNode, y_openType, y_openCount, y_openNames, y_openChoice, y_output, y_todo)) : ∃ f, wY_closeRecord_36 Q (nI k) (nI d) (nI r) f (nI (4 * r + m)) y_length y_parts y_bad y_nodes y_fault y_place y_bound (nI (d + 1)) y_nextName y_wantsName y_wantsTag y_printed y_waiting y_scaled y_sort y_typeA y_typeB y_typeC y_fieldName y_fieldType y_fields y_tags y_needed y_text y_begin y_end y_inside y_whole y_kind y_value y_parent y_name y_slotOf y_placeOf y_complete y_openNode y_openType y_openCount y_openNames y_openChoice y_output y_todo := by
  have er : (nI r).toNatClampNeg = r := nI_clamp (by omega)
  have ed : (nI d).toNatClampNeg = d := nI_clamp (by omega)
  have ir : vp_in (nI r) 12 := vp_in_nI hr (by decide)
  have e4 : (4 : Int32) * nI r + nI m = nI (4 * r + m) := by
    show nI 4 * nI r + nI m = _
    rw [pk_mul, nI_add]
  refine ⟨0 + 1, And.intro ir (br_t ?_ ⟨vp_in_nI (by omega) (by decide), ?_⟩)⟩
  · rw [er, hm, e4]; exact nI_le (Nat.le_refl _) (by omega)
  · rw [ed, er]
    exact ⟨fun z => nm_r (nI_pred d) (h0 z), fun z => ⟨ir, ir, nm_e (nm_r (nI_pred d) (h1 z))⟩⟩
/-- with a fault already -/
theorem yr_f (hd : d < 6) (hr : r < 12) (hm4 : m ≤ 4) (hk : k < 96) (hm : y_fields r = nI m) (hF : ¬ y_fault = 0) : ∀ (q i : Nat), i + q = m → (∃ f, wY_closeRecord_36 Q (nI k) (nI d) (nI r) f (nI (4 * r + m)) y_length y_parts y_bad y_nodes y_fault y_place y_bound (nI (d + 1)) y_nextName y_wantsName y_wantsTag y_printed y_waiting y_scaled y_sort y_typeA y_typeB y_typeC y_fieldName y_fieldType y_fields y_tags y_needed y_text y_begin y_end y_inside y_whole y_kind y_value y_parent y_name y_slotOf y_placeOf y_complete y_openNode y_openType y_openCount y_openNames y_openChoice y_output y_todo) → ∃ f, wY_closeRecord_36 Q (nI k) (nI d) (nI r) f (nI (4 * r + i)) y_length y_parts y_bad y_nodes y_fault y_place y_bound (nI (d + 1)) y_nextName y_wantsName y_wantsTag y_printed y_waiting y_scaled y_sort y_typeA y_typeB y_typeC y_fieldName y_fieldType y_fields y_tags y_needed y_text y_begin y_end y_inside y_whole y_kind y_value y_parent y_name y_slotOf y_placeOf y_complete y_openNode y_openType y_openCount y_openNames y_openChoice y_output y_todo := by
  intro q
  induction q with
  | zero =>
    intro i h1 h
    have : i = m := by omega
    subst this; exact h
  | succ q ih =>
    intro i h1 h
    obtain ⟨f, hw⟩ := ih (i + 1) (by omega) h
    have er : (nI r).toNatClampNeg = r := nI_clamp (by omega)
    have e4 : (4 : Int32) * nI r + nI m = nI (4 * r + m) := by
      show nI 4 * nI r + nI m = _
      rw [pk_mul, nI_add]
    have ee : (nI (4 * r + i)).toNatClampNeg = 4 * r + i := nI_clamp (by omega)
    have i48 : vp_in (nI (4 * r + i)) 48 := vp_in_nI (by omega) (by decide)
    refine ⟨f + 1, And.intro (vp_in_nI hr (by decide)) (br_f ?_ ⟨i48, br_c (fun _ => nm_r (nI_1 _) hw) (fun _ => ⟨vp_in_nI (by omega) (by decide), i48, br_c (fun _ => ⟨vp_in_nI hk (by decide), br_f hF (nm_r (nI_1 _) hw)⟩) (fun _ => nm_r (nI_1 _) hw)⟩)⟩)⟩
    rw [er, hm, e4]; exact nI_ge (by omega) (by omega)
end
section
variable {y_length y_parts y_bad y_nodes y_place y_bound y_nextName y_wantsName y_wantsTag y_printed y_waiting y_scaled : Int32} {y_sort y_typeA y_typeB y_typeC y_fieldName y_fieldType y_fields y_tags y_needed y_text y_begin y_end y_inside y_whole y_kind y_value y_parent y_name y_slotOf y_placeOf y_complete y_openNode y_openType y_openCount y_openNames y_openChoice y_output y_todo : Nat → Int32} {d r m M k b : Nat} {Q : SY → Prop}
theorem yr_miss (hd : d < 6) (hr : r < 12) (hm4 : m ≤ 4) (hk : k < 96) (hm : y_fields r = nI m) (hM : M < 64) (eM : y_openNames d = nI M) (eb : y_begin k = nI b) {i : Nat} (hi : i < m) (h : ms_F y_fieldName y_needed r M i) (h1 : ¬ 0 ≤ y_openChoice d → Q (y_length, y_parts, y_bad, y_nodes, 8, nI b, y_bound, nI d, y_nextName, y_wantsName, y_wantsTag, y_printed, y_waiting, y_scaled, y_sort, y_typeA, y_typeB, y_typeC, y_fieldName, y_fieldType, y_fields, y_tags, y_needed, y_text, y_begin, y_end, y_inside, y_whole, y_kind, y_value, y_parent, y_name, y_slotOf, y_placeOf, upd y_complete r (y_complete r + 1), y_openNode, y_openType, y_openCount, y_openNames, y_openChoice, y_output, y_todo)) (h0 : 0 ≤ y_openChoice d → Q (y_length, y_parts, y_bad, y_nodes, 8, nI b, y_bound, nI d, y_nextName, y_wantsName, y_wantsTag, y_printed, y_waiting, y_scaled, y_sort, y_typeA, y_typeB, y_typeC, y_fieldName, y_fieldType, y_fields, y_tags, y_needed, y_text, y_begin, y_end, y_inside, y_whole, y_kind, y_value, y_parent, y_name, y_slotOf, y_placeOf, y_complete, y_openNode, y_openType, y_openCount, y_openNames, y_openChoice, y_output, y_todo)) : ∃ f, wY_closeRecord_36 Q (nI k) (nI d) (nI r) f (nI (4 * r + i)) y_length y_parts y_bad y_nodes 0 y_place y_bound (nI (d + 1)) y_nextName y_wantsName y_wantsTag y_printed y_waiting y_scaled y_sort y_typeA y_typeB y_typeC y_fieldName y_fieldType y_fields y_tags y_needed y_text y_begin y_end y_inside y_whole y_kind y_value y_parent y_name y_slotOf y_placeOf y_complete y_openNode y_openType y_openCount y_openNames y_openChoice y_output y_todo := by
  have er : (nI r).toNatClampNeg = r := nI_clamp (by omega)
  have ed : (nI d).toNatClampNeg = d := nI_clamp (by omega)
  have ek : (nI k).toNatClampNeg = k := nI_clamp (by omega)
  have e4 : (4 : Int32) * nI r + nI m = nI (4 * r + m) := by
    show nI 4 * nI r + nI m = _
    rw [pk_mul, nI_add]
  have ee : (nI (4 * r + i)).toNatClampNeg = 4 * r + i := nI_clamp (by omega)
  have i48 : vp_in (nI (4 * r + i)) 48 := vp_in_nI (by omega) (by decide)
  obtain ⟨z, j, hj, ej, hb⟩ := h
  obtain ⟨f, hw⟩ := yr_f (k := k) (Q := Q) (y_length := y_length) (y_parts := y_parts) (y_bad := y_bad) (y_nodes := y_nodes) (y_fault := 8) (y_place := nI b) (y_bound := y_bound) (y_nextName := y_nextName) (y_wantsName := y_wantsName) (y_wantsTag := y_wantsTag) (y_printed := y_printed) (y_waiting := y_waiting) (y_scaled := y_scaled) (y_sort := y_sort) (y_typeA := y_typeA) (y_typeB := y_typeB) (y_typeC := y_typeC) (y_fieldName := y_fieldName) (y_fieldType := y_fieldType) (y_fields := y_fields) (y_tags := y_tags) (y_needed := y_needed) (y_text := y_text) (y_begin := y_begin) (y_end := y_end) (y_inside := y_inside) (y_whole := y_whole) (y_kind := y_kind) (y_value := y_value) (y_parent := y_parent) (y_name := y_name) (y_slotOf := y_slotOf) (y_placeOf := y_placeOf) (y_complete := y_complete) (y_openNode := y_openNode) (y_openType := y_openType) (y_openCount := y_openCount) (y_openNames := y_openNames) (y_openChoice := y_openChoice) (y_output := y_output) (y_todo := y_todo) hd hr hm4 hk hm (by decide) (m - (i + 1)) (i + 1) (by omega) (yr_end hd hr hm4 hm h1 h0)
  refine ⟨f + 1, And.intro (vp_in_nI hr (by decide)) (br_f ?_ ⟨i48, ?_⟩)⟩
  · rw [er, hm, e4]; exact nI_ge (by omega) (by omega)
  · rw [ee]
    refine br_f z ⟨vp_in_nI (by omega) (by decide), i48, ?_⟩
    rw [ed, eM, ej]
    refine br_t ((bt_y0 M hM j hj).mpr hb) ⟨vp_in_nI hk (by decide), br_t rfl ?_⟩
    rw [ek, eb]
    exact nm_r (nI_1 _) hw
end
section
variable {x_bound x_at x_tokenStart x_textCount x_escaped x_valueSlot x_valueName x_outputLength : Int32} {x_text x_typeKind x_typeDetail x_typeLeast x_typeMost x_fieldCount x_fieldName x_fieldType x_fieldNeeded x_tagType x_nodeKind x_nodeValue x_nodeParent x_nodeName x_nodeSlot x_nodeStart x_nodeTag x_completeCount x_openNode x_openSlot x_openNames x_openNext x_openComma x_output : Nat → Int32} {y_bad y_nextName y_wantsName y_wantsTag y_waiting y_scaled : Int32} {y_typeA y_typeB y_typeC y_fields y_tags y_begin y_end y_inside y_whole y_kind y_value y_parent y_name y_slotOf y_placeOf y_complete y_openNode y_openType y_openCount y_openNames y_openChoice y_todo : Nat → Int32} {L P k p x d N : Nat} {g : Nat → Int32} {dp : Nat → Nat} {slot : Int32}
theorem st_cr (hT : rl_T L x_text x_typeKind x_typeDetail x_typeLeast x_typeMost x_fieldCount x_fieldName x_fieldType x_fieldNeeded x_tagType y_typeA y_typeB y_typeC y_fields y_tags) (hx25 : x = 2 ∨ x = 5) (F : br_F slot L k p x (d + 1) N g x_text x_typeKind x_fieldCount x_fieldName x_fieldType y_begin y_end x_nodeKind x_nodeValue x_nodeParent x_nodeName x_nodeSlot x_nodeStart x_nodeTag x_completeCount x_openNode x_openSlot x_openNames x_valueSlot x_valueName dp y_kind y_value y_parent y_name y_slotOf y_placeOf y_complete y_openNode y_openType y_openCount y_openNames y_openChoice y_nextName y_wantsName y_wantsTag) (hk : k < P) (hP : P ≤ 96) {b : Nat} (hb : sp_S x_text p b) (hbL : b < L) (hpL : p ≤ L) (eb : y_begin k = nI b) (c : x_text b = 11) (hg : g (d + 1) = 10)
    (H : ∀ (a : Int32) (cc cy : Nat → Int32), br_F slot L (k + 1) (b + 1) 5 d N g x_text x_typeKind x_fieldCount x_fieldName x_fieldType y_begin y_end x_nodeKind x_nodeValue x_nodeParent x_nodeName x_nodeSlot x_nodeStart x_nodeTag cc x_openNode x_openSlot x_openNames x_valueSlot x_valueName dp y_kind y_value y_parent y_name y_slotOf y_placeOf cy y_openNode y_openType y_openCount y_openNames y_openChoice y_nextName y_wantsName y_wantsTag → bo_O slot (b + 1) (k + 1) (nI L, nI N, x_bound, 0, -1, md_x 5, a, x_tokenStart, x_textCount, x_escaped, x_valueSlot, x_valueName, nI d, x_outputLength, x_text, x_typeKind, x_typeDetail, x_typeLeast, x_typeMost, x_fieldCount, x_fieldName, x_fieldType, x_fieldNeeded, x_tagType, x_nodeKind, x_nodeValue, x_nodeParent, x_nodeName, x_nodeSlot, x_nodeStart, x_nodeTag, cc, x_openNode, x_openSlot, x_openNames, x_openNext, x_openComma, x_output) (nI L, nI P, y_bad, nI N, 0, -1, 0, nI d, y_nextName, y_wantsName, y_wantsTag, x_outputLength, y_waiting, y_scaled, x_typeKind, y_typeA, y_typeB, y_typeC, x_fieldName, x_fieldType, y_fields, y_tags, x_fieldNeeded, x_text, y_begin, y_end, y_inside, y_whole, y_kind, y_value, y_parent, y_name, y_slotOf, y_placeOf, cy, y_openNode, y_openType, y_openCount, y_openNames, y_openChoice, x_output, y_todo)) : bo_O slot p k (nI L, nI N, x_bound, 0, -1, md_x x, x_at, x_tokenStart, x_textCount, x_escaped, x_valueSlot, x_valueName, nI (d + 1), x_outputLength, x_text, x_typeKind, x_typeDetail, x_typeLeast, x_typeMost, x_fieldCount, x_fieldName, x_fieldType, x_fieldNeeded, x_tagType, x_nodeKind, x_nodeValue, x_nodeParent, x_nodeName, x_nodeSlot, x_nodeStart, x_nodeTag, x_completeCount, x_openNode, x_openSlot, x_openNames, x_openNext, x_openComma, x_output) (nI L, nI P, y_bad, nI N, 0, -1, 0, nI (d + 1), y_nextName, y_wantsName, y_wantsTag, x_outputLength, y_waiting, y_scaled, x_typeKind, y_typeA, y_typeB, y_typeC, x_fieldName, x_fieldType, y_fields, y_tags, x_fieldNeeded, x_text, y_begin, y_end, y_inside, y_whole, y_kind, y_value, y_parent, y_name, y_slotOf, y_placeOf, y_complete, y_openNode, y_openType, y_openCount, y_openNames, y_openChoice, x_output, y_todo) := by
  have hL := hT.1
  obtain ⟨⟨e1, e2, e3, e4, e5, e6⟩, hA, hd6, hlv, hc, hbg, hx⟩ := F
  have hN := hA.1
  have bg' := bg_s hbg (by omega) hb.1 (by omega : b < b + 1) (by omega) eb
  have ed : (nI d).toNatClampNeg = d := nI_clamp (by omega)
  have ek : (nI k).toNatClampNeg = k := nI_clamp (by omega)
  obtain ⟨n, s, hn, hs, eo, eo', -, et, -, K⟩ := hlv d (by omega)
  rcases K with ⟨g1, -⟩ | ⟨g1, k1, eM', ⟨M, hM, eM, -⟩, K⟩
  · rw [hg] at g1; exact absurd g1 (by decide)
  have wt0 : y_wantsTag = 0 := by
    rcases hx with w | w | w | w | w | w | w | w | w | w
    all_goals first | exact (w.2.2 (by omega)).1 | exact w.2.2.2.2.1 | (have := w.1; omega)
  have X1 : ∀ Q : SX → Prop, wpX_closeRecord Q (nI L, nI N, x_bound, 0, -1, md_x x, nI b, x_tokenStart, x_textCount, x_escaped, x_valueSlot, x_valueName, nI (d + 1), x_outputLength, x_text, x_typeKind, x_typeDetail, x_typeLeast, x_typeMost, x_fieldCount, x_fieldName, x_fieldType, x_fieldNeeded, x_tagType, x_nodeKind, x_nodeValue, x_nodeParent, x_nodeName, x_nodeSlot, x_nodeStart, x_nodeTag, x_completeCount, x_openNode, x_openSlot, x_openNames, x_openNext, x_openComma, x_output) → wpX_readCharacter Q (nI L, nI N, x_bound, 0, -1, md_x x, nI b, x_tokenStart, x_textCount, x_escaped, x_valueSlot, x_valueName, nI (d + 1), x_outputLength, x_text, x_typeKind, x_typeDetail, x_typeLeast, x_typeMost, x_fieldCount, x_fieldName, x_fieldType, x_fieldNeeded, x_tagType, x_nodeKind, x_nodeValue, x_nodeParent, x_nodeName, x_nodeSlot, x_nodeStart, x_nodeTag, x_completeCount, x_openNode, x_openSlot, x_openNames, x_openNext, x_openComma, x_output) (x_text b) := by
    intro Q q
    rw [c]
    rcases hx25 with rfl | rfl
    · exact rc_cr3 q
    · exact rc_bm (by decide) (nI_nle (by omega) (by omega)) (bm_rr (by omega) (by omega) eo (by rw [k1]; decide) q)
  have Y1 : ∀ Q : SY → Prop, wpY_closeRecord Q (nI L, nI P, y_bad, nI N, 0, -1, 0, nI (d + 1), y_nextName, y_wantsName, y_wantsTag, x_outputLength, y_waiting, y_scaled, x_typeKind, y_typeA, y_typeB, y_typeC, x_fieldName, x_fieldType, y_fields, y_tags, x_fieldNeeded, x_text, y_begin, y_end, y_inside, y_whole, y_kind, y_value, y_parent, y_name, y_slotOf, y_placeOf, y_complete, y_openNode, y_openType, y_openCount, y_openNames, y_openChoice, x_output, y_todo) (nI k) → wpY_part Q (nI L, nI P, y_bad, nI N, 0, -1, 0, nI (d + 1), y_nextName, y_wantsName, y_wantsTag, x_outputLength, y_waiting, y_scaled, x_typeKind, y_typeA, y_typeB, y_typeC, x_fieldName, x_fieldType, y_fields, y_tags, x_fieldNeeded, x_text, y_begin, y_end, y_inside, y_whole, y_kind, y_value, y_parent, y_name, y_slotOf, y_placeOf, y_complete, y_openNode, y_openType, y_openCount, y_openNames, y_openChoice, x_output, y_todo) (nI k) slot := by
    intro Q q
    refine yp_in (d := d + 1) (by omega) (by omega) eb ?_
    refine br_f (nI_ne0 (by omega) (by omega)) ?_
    rw [c]
    exact br_f (by decide) (br_t rfl q)
  -- the record whose fields stand
  have main : ∀ r, r < 12 → x_openSlot d = nI r → x_typeKind r = 5 → (x_nodeTag n = -1 ↔ ¬ 0 ≤ y_openChoice d) → bo_O slot p k (nI L, nI N, x_bound, 0, -1, md_x x, x_at, x_tokenStart, x_textCount, x_escaped, x_valueSlot, x_valueName, nI (d + 1), x_outputLength, x_text, x_typeKind, x_typeDetail, x_typeLeast, x_typeMost, x_fieldCount, x_fieldName, x_fieldType, x_fieldNeeded, x_tagType, x_nodeKind, x_nodeValue, x_nodeParent, x_nodeName, x_nodeSlot, x_nodeStart, x_nodeTag, x_completeCount, x_openNode, x_openSlot, x_openNames, x_openNext, x_openComma, x_output) (nI L, nI P, y_bad, nI N, 0, -1, 0, nI (d + 1), y_nextName, y_wantsName, y_wantsTag, x_outputLength, y_waiting, y_scaled, x_typeKind, y_typeA, y_typeB, y_typeC, x_fieldName, x_fieldType, y_fields, y_tags, x_fieldNeeded, x_text, y_begin, y_end, y_inside, y_whole, y_kind, y_value, y_parent, y_name, y_slotOf, y_placeOf, y_complete, y_openNode, y_openType, y_openCount, y_openNames, y_openChoice, x_output, y_todo) := by
    intro r hr er so5 tgs
    have erc : (nI r).toNatClampNeg = r := nI_clamp (by omega)
    obtain ⟨eF, m, hm4, hm, hfs, -⟩ := (hT.2.2 r hr).2.2.2.2.1 so5
    have hmY : y_fields r = nI m := eF.trans hm
    have hf : ∀ i, i < m → ∃ j, j < 6 ∧ x_fieldName (4 * r + i) = nI j := fun i hi => by
      obtain ⟨a, b', c', h1, h2, h3, h4, h5, h6⟩ := hfs i hi
      exact ⟨a, h1, h4⟩
    have X2 : ∀ Q : SX → Prop, (∃ f, wX_closeRecord_32 Q (nI d) (nI r) (nI L) (nI N) x_bound 0 (-1) (md_x x) (nI b) x_tokenStart x_textCount x_escaped x_valueSlot x_valueName (nI (d + 1)) x_outputLength x_text x_typeKind x_typeDetail x_typeLeast x_typeMost x_fieldCount x_fieldName x_fieldType x_fieldNeeded x_tagType x_nodeKind x_nodeValue x_nodeParent x_nodeName x_nodeSlot x_nodeStart x_nodeTag x_completeCount x_openNode x_openSlot x_openNames x_openNext x_openComma x_output f (nI 0)) → wpX_closeRecord Q (nI L, nI N, x_bound, 0, -1, md_x x, nI b, x_tokenStart, x_textCount, x_escaped, x_valueSlot, x_valueName, nI (d + 1), x_outputLength, x_text, x_typeKind, x_typeDetail, x_typeLeast, x_typeMost, x_fieldCount, x_fieldName, x_fieldType, x_fieldNeeded, x_tagType, x_nodeKind, x_nodeValue, x_nodeParent, x_nodeName, x_nodeSlot, x_nodeStart, x_nodeTag, x_completeCount, x_openNode, x_openSlot, x_openNames, x_openNext, x_openComma, x_output) := by
      intro Q q
      refine nm_r (nI_pred d) ⟨vp_in_nI (by omega) (by decide), ?_⟩
      rw [ed]
      exact nm_r er (br_f (hh_m1 (by omega)) q)
    have Y2 : ∀ Q : SY → Prop, (∃ f, wY_closeRecord_36 Q (nI k) (nI d) (nI r) f (nI (4 * r + 0)) (nI L) (nI P) y_bad (nI N) 0 (-1) 0 (nI (d + 1)) y_nextName y_wantsName y_wantsTag x_outputLength y_waiting y_scaled x_typeKind y_typeA y_typeB y_typeC x_fieldName x_fieldType y_fields y_tags x_fieldNeeded x_text y_begin y_end y_inside y_whole y_kind y_value y_parent y_name y_slotOf y_placeOf y_complete y_openNode y_openType y_openCount y_openNames y_openChoice x_output y_todo) → wpY_closeRecord Q (nI L, nI P, y_bad, nI N, 0, -1, 0, nI (d + 1), y_nextName, y_wantsName, y_wantsTag, x_outputLength, y_waiting, y_scaled, x_typeKind, y_typeA, y_typeB, y_typeC, x_fieldName, x_fieldType, y_fields, y_tags, x_fieldNeeded, x_text, y_begin, y_end, y_inside, y_whole, y_kind, y_value, y_parent, y_name, y_slotOf, y_placeOf, y_complete, y_openNode, y_openType, y_openCount, y_openNames, y_openChoice, x_output, y_todo) (nI k) := by
      intro Q q
      refine nm_r (nI_pred d) ⟨vp_in_nI (by omega) (by decide), ?_⟩
      rw [ed]
      refine nm_r (et.trans er) (br_t (nI_pos' (by omega)) (nm_r ?_ q))
      show nI 4 * nI r = _
      rw [pk_mul]; rfl
    have nos : ¬ x_openSlot d = -1 := by rw [er]; exact hh_m1 (by omega)
    by_cases ms : ∃ i, i < m ∧ ms_F x_fieldName x_fieldNeeded r M i
    · obtain ⟨i, ⟨hi, hmi⟩, hfirst⟩ := pk_least _ ms
      have nom : ∀ j, 0 ≤ j → j < i → ¬ ms_F x_fieldName x_fieldNeeded r M j := fun j _ hj w => hfirst j hj ⟨by omega, w⟩
      by_cases z0 : 0 ≤ y_openChoice d
      · exact st_1f (d := d + 1) hT hk hP hb hbL (f := 8) (z := nI b) (by decide) (fun Q q => X1 Q (X2 Q (xr_go (by omega) hr hm4 hm hM eM hf i 0 i (by omega) (by omega) nom (xr_miss (by omega) hr hm4 hm hM eM hi hmi q)))) (fun Q q => Y1 Q (Y2 Q (yr_go (by omega) hr hm4 hmY hM (eM'.trans eM) hf i 0 i (by omega) (by omega) nom (yr_miss (by omega) hr hm4 (by omega) hmY hM (eM'.trans eM) eb hi hmi (fun z => absurd z0 z) (fun _ => q)))))
      · exact st_1f (d := d + 1) hT hk hP hb hbL (f := 8) (z := nI b) (by decide) (fun Q q => X1 Q (X2 Q (xr_go (by omega) hr hm4 hm hM eM hf i 0 i (by omega) (by omega) nom (xr_miss (by omega) hr hm4 hm hM eM hi hmi q)))) (fun Q q => Y1 Q (Y2 Q (yr_go (by omega) hr hm4 hmY hM (eM'.trans eM) hf i 0 i (by omega) (by omega) nom (yr_miss (by omega) hr hm4 (by omega) hmY hM (eM'.trans eM) eb hi hmi (fun _ => q) (fun z => absurd z z0)))))
    · have nom : ∀ j, 0 ≤ j → j < m → ¬ ms_F x_fieldName x_fieldNeeded r M j := fun j _ hj w => ms ⟨j, hj, w⟩
      have Fx : ∀ cc cy : Nat → Int32, cm_F x_typeKind cc cy (k + 1) → br_F slot L (k + 1) (b + 1) 5 d N g x_text x_typeKind x_fieldCount x_fieldName x_fieldType y_begin y_end x_nodeKind x_nodeValue x_nodeParent x_nodeName x_nodeSlot x_nodeStart x_nodeTag cc x_openNode x_openSlot x_openNames x_valueSlot x_valueName dp y_kind y_value y_parent y_name y_slotOf y_placeOf cy y_openNode y_openType y_openCount y_openNames y_openChoice y_nextName y_wantsName y_wantsTag := by
        intro cc cy hcm
        refine ⟨⟨e1, e2, e3, e4, e5, e6⟩, nd_op hA (fun i z => absurd z.2.2 nos), by omega, fun l hl => lv_up (hlv l (by omega)) (lv_ne (hlv l (by omega)) (by omega)) d, hcm, bg', ?_⟩
        exact Or.inr (Or.inr (Or.inr (Or.inr (Or.inr (Or.inr (Or.inr (Or.inr (Or.inr ⟨rfl, by omega, fun hd0 => ⟨wt0, lv_ne (hlv (d - 1) (by omega)) (by omega)⟩⟩))))))))
      by_cases tg : x_nodeTag n = -1
      · have cmn : cm_F x_typeKind (upd x_completeCount r (x_completeCount r + 1)) (upd y_complete r (y_complete r + 1)) (k + 1) := by
          intro s' hs'
          obtain ⟨a1, ⟨c1, h1, h2⟩, a2⟩ := hc s' hs'
          by_cases z : s' = r
          · subst z
            rw [pk_us, pk_us]
            exact ⟨by rw [a1], ⟨c1 + 1, by omega, by rw [h2, nI_1]⟩, fun w => absurd so5 w⟩
          · rw [pk_un z, pk_un z]
            exact ⟨a1, ⟨c1, by omega, h2⟩, a2⟩
        exact st_1 (d := d + 1) hL hk hP hb hbL (u' := (nI L, nI N, x_bound, 0, -1, md_x 5, nI b, x_tokenStart, x_textCount, x_escaped, x_valueSlot, x_valueName, nI d, x_outputLength, x_text, x_typeKind, x_typeDetail, x_typeLeast, x_typeMost, x_fieldCount, x_fieldName, x_fieldType, x_fieldNeeded, x_tagType, x_nodeKind, x_nodeValue, x_nodeParent, x_nodeName, x_nodeSlot, x_nodeStart, x_nodeTag, upd x_completeCount r (x_completeCount r + 1), x_openNode, x_openSlot, x_openNames, x_openNext, x_openComma, x_output)) (v' := (nI L, nI P, y_bad, nI N, 0, -1, 0, nI d, y_nextName, y_wantsName, y_wantsTag, x_outputLength, y_waiting, y_scaled, x_typeKind, y_typeA, y_typeB, y_typeC, x_fieldName, x_fieldType, y_fields, y_tags, x_fieldNeeded, x_text, y_begin, y_end, y_inside, y_whole, y_kind, y_value, y_parent, y_name, y_slotOf, y_placeOf, upd y_complete r (y_complete r + 1), y_openNode, y_openType, y_openCount, y_openNames, y_openChoice, x_output, y_todo)) (fun Q q => X1 Q (X2 Q (xr_go (by omega) hr hm4 hm hM eM hf m 0 m (by omega) (by omega) nom (xr_end (by omega) hr hm4 hm (by omega) eo (fun _ => q) (fun z => absurd tg z))))) (fun Q q => Y1 Q (Y2 Q (yr_go (by omega) hr hm4 hmY hM (eM'.trans eM) hf m 0 m (by omega) (by omega) nom (yr_end (by omega) hr hm4 hmY (fun _ => q) (fun z => absurd z (tgs.mp tg)))))) (H _ _ _ (Fx _ _ cmn))
      · exact st_1 (d := d + 1) hL hk hP hb hbL (u' := (nI L, nI N, x_bound, 0, -1, md_x 5, nI b, x_tokenStart, x_textCount, x_escaped, x_valueSlot, x_valueName, nI d, x_outputLength, x_text, x_typeKind, x_typeDetail, x_typeLeast, x_typeMost, x_fieldCount, x_fieldName, x_fieldType, x_fieldNeeded, x_tagType, x_nodeKind, x_nodeValue, x_nodeParent, x_nodeName, x_nodeSlot, x_nodeStart, x_nodeTag, x_completeCount, x_openNode, x_openSlot, x_openNames, x_openNext, x_openComma, x_output)) (v' := (nI L, nI P, y_bad, nI N, 0, -1, 0, nI d, y_nextName, y_wantsName, y_wantsTag, x_outputLength, y_waiting, y_scaled, x_typeKind, y_typeA, y_typeB, y_typeC, x_fieldName, x_fieldType, y_fields, y_tags, x_fieldNeeded, x_text, y_begin, y_end, y_inside, y_whole, y_kind, y_value, y_parent, y_name, y_slotOf, y_placeOf, y_complete, y_openNode, y_openType, y_openCount, y_openNames, y_openChoice, x_output, y_todo)) (fun Q q => X1 Q (X2 Q (xr_go (by omega) hr hm4 hm hM eM hf m 0 m (by omega) (by omega) nom (xr_end (by omega) hr hm4 hm (by omega) eo (fun z => absurd z tg) (fun _ => q))))) (fun Q q => Y1 Q (Y2 Q (yr_go (by omega) hr hm4 hmY hM (eM'.trans eM) hf m 0 m (by omega) (by omega) nom (yr_end (by omega) hr hm4 hmY (fun z => absurd (tgs.mpr z) tg) (fun _ => q))))) (H _ _ _ (Fx _ _ (cm_s hc)))
  rcases K with ⟨so5, es, ech, etg⟩ | ⟨so6, ech, es, etg, -⟩ | ⟨so6, ech, r, q, hr, so5, es, hq, etg⟩
  · exact main s hs es so5 ⟨fun _ => by rw [ech]; decide, fun _ => etg⟩
  · have hx7 : ∀ Q : SX → Prop, Q (nI L, nI N, x_bound, 7, nI b, md_x x, nI b, x_tokenStart, x_textCount, x_escaped, x_valueSlot, x_valueName, nI (d + 1), x_outputLength, x_text, x_typeKind, x_typeDetail, x_typeLeast, x_typeMost, x_fieldCount, x_fieldName, x_fieldType, x_fieldNeeded, x_tagType, x_nodeKind, x_nodeValue, x_nodeParent, x_nodeName, x_nodeSlot, x_nodeStart, x_nodeTag, x_completeCount, x_openNode, x_openSlot, x_openNames, x_openNext, x_openComma, x_output) → wpX_closeRecord Q (nI L, nI N, x_bound, 0, -1, md_x x, nI b, x_tokenStart, x_textCount, x_escaped, x_valueSlot, x_valueName, nI (d + 1), x_outputLength, x_text, x_typeKind, x_typeDetail, x_typeLeast, x_typeMost, x_fieldCount, x_fieldName, x_fieldType, x_fieldNeeded, x_tagType, x_nodeKind, x_nodeValue, x_nodeParent, x_nodeName, x_nodeSlot, x_nodeStart, x_nodeTag, x_completeCount, x_openNode, x_openSlot, x_openNames, x_openNext, x_openComma, x_output) := by
      intro Q q
      refine nm_r (nI_pred d) ⟨vp_in_nI (by omega) (by decide), ?_⟩
      rw [ed]; exact nm_r es (br_t rfl q)
    have hy7 : ∀ Q : SY → Prop, Q (nI L, nI P, y_bad, nI N, 7, nI b, 0, nI (d + 1), y_nextName, y_wantsName, y_wantsTag, x_outputLength, y_waiting, y_scaled, x_typeKind, y_typeA, y_typeB, y_typeC, x_fieldName, x_fieldType, y_fields, y_tags, x_fieldNeeded, x_text, y_begin, y_end, y_inside, y_whole, y_kind, y_value, y_parent, y_name, y_slotOf, y_placeOf, y_complete, y_openNode, y_openType, y_openCount, y_openNames, y_openChoice, x_output, y_todo) → wpY_closeRecord Q (nI L, nI P, y_bad, nI N, 0, -1, 0, nI (d + 1), y_nextName, y_wantsName, y_wantsTag, x_outputLength, y_waiting, y_scaled, x_typeKind, y_typeA, y_typeB, y_typeC, x_fieldName, x_fieldType, y_fields, y_tags, x_fieldNeeded, x_text, y_begin, y_end, y_inside, y_whole, y_kind, y_value, y_parent, y_name, y_slotOf, y_placeOf, y_complete, y_openNode, y_openType, y_openCount, y_openNames, y_openChoice, x_output, y_todo) (nI k) := by
      intro Q q
      refine nm_r (nI_pred d) ⟨vp_in_nI (by omega) (by decide), ?_⟩
      rw [ed]
      refine nm_r (et.trans es) (br_f (by decide) ⟨vp_in_nI (by omega) (by decide), ?_⟩)
      rw [ek, eb]
      exact br_t rfl q
    exact st_1f (d := d + 1) hT hk hP hb hbL (f := 7) (z := nI b) (by decide) (fun Q q => X1 Q (hx7 Q q)) (fun Q q => Y1 Q (hy7 Q q))
  · refine main r hr es so5 ⟨fun w => ?_, fun w => absurd (by rw [ech]; exact nI_pos' (by omega)) w⟩
    rw [etg] at w; exact absurd w (hh_m1 (by omega))
end
