/-! printing: characters written, as lists -/
def ow_1 (o : Nat → Int32) (m : Nat) (c : Int32) : Nat → Int32 := if m < 192 then upd o m c else o
def ow_L (o : Nat → Int32) (m : Nat) : List Int32 → Nat → Int32
  | [] => o
  | c :: l => ow_L (ow_1 o m c) (m + 1) l
theorem ow_app (l2 : List Int32) : ∀ (l1 : List Int32) (o : Nat → Int32) (m : Nat), ow_L o m (l1 ++ l2) = ow_L (ow_L o m l1) (m + l1.length) l2
  | [], o, m => rfl
  | c :: l, o, m => by
    show ow_L (ow_1 o m c) (m + 1) (l ++ l2) = _
    rw [ow_app l2 l, List.length_cons, show m + (l.length + 1) = m + 1 + l.length from by omega]
    rfl
section
variable {x_length x_nodeCount x_bound x_fault x_faultPlace x_mode x_at x_tokenStart x_textCount x_escaped x_valueSlot x_valueName x_depth : Int32} {x_text x_typeKind x_typeDetail x_typeLeast x_typeMost x_fieldCount x_fieldName x_fieldType x_fieldNeeded x_tagType x_nodeKind x_nodeValue x_nodeParent x_nodeName x_nodeSlot x_nodeStart x_nodeTag x_completeCount x_openNode x_openSlot x_openNames x_openNext x_openComma x_output : Nat → Int32} {m : Nat} {c : Int32}
theorem wr_x {Q : SX → Prop} (hm : m < 1000000) (h : Q (x_length, x_nodeCount, x_bound, x_fault, x_faultPlace, x_mode, x_at, x_tokenStart, x_textCount, x_escaped, x_valueSlot, x_valueName, x_depth, nI (m + 1), x_text, x_typeKind, x_typeDetail, x_typeLeast, x_typeMost, x_fieldCount, x_fieldName, x_fieldType, x_fieldNeeded, x_tagType, x_nodeKind, x_nodeValue, x_nodeParent, x_nodeName, x_nodeSlot, x_nodeStart, x_nodeTag, x_completeCount, x_openNode, x_openSlot, x_openNames, x_openNext, x_openComma, ow_1 x_output m c)) : wpX_write Q (x_length, x_nodeCount, x_bound, x_fault, x_faultPlace, x_mode, x_at, x_tokenStart, x_textCount, x_escaped, x_valueSlot, x_valueName, x_depth, nI m, x_text, x_typeKind, x_typeDetail, x_typeLeast, x_typeMost, x_fieldCount, x_fieldName, x_fieldType, x_fieldNeeded, x_tagType, x_nodeKind, x_nodeValue, x_nodeParent, x_nodeName, x_nodeSlot, x_nodeStart, x_nodeTag, x_completeCount, x_openNode, x_openSlot, x_openNames, x_openNext, x_openComma, x_output) c := by
  unfold ow_1 at h
  rcases Nat.lt_or_ge m 192 with w | w
  · rw [if_pos w] at h
    refine br_f (nI_ge (b := 192) w (by decide)) ⟨vp_in_nI w (by decide), ?_⟩
    rw [nI_clamp (by omega)]
    exact nm_e (nm_r (nI_1 m) h)
  · rw [if_neg (by omega)] at h
    exact br_t (nI_le (a := 192) w (by omega)) (nm_r (nI_1 m) h)
end
section
variable {y_length y_parts y_bad y_nodes y_fault y_place y_bound y_depth y_nextName y_wantsName y_wantsTag y_waiting y_scaled : Int32} {y_sort y_typeA y_typeB y_typeC y_fieldName y_fieldType y_fields y_tags y_needed y_text y_begin y_end y_inside y_whole y_kind y_value y_parent y_name y_slotOf y_placeOf y_complete y_openNode y_openType y_openCount y_openNames y_openChoice y_output y_todo : Nat → Int32} {m : Nat} {c : Int32}
theorem ou_y {Q : SY → Prop} (hm : m < 1000000) (h : Q (y_length, y_parts, y_bad, y_nodes, y_fault, y_place, y_bound, y_depth, y_nextName, y_wantsName, y_wantsTag, nI (m + 1), y_waiting, y_scaled, y_sort, y_typeA, y_typeB, y_typeC, y_fieldName, y_fieldType, y_fields, y_tags, y_needed, y_text, y_begin, y_end, y_inside, y_whole, y_kind, y_value, y_parent, y_name, y_slotOf, y_placeOf, y_complete, y_openNode, y_openType, y_openCount, y_openNames, y_openChoice, ow_1 y_output m c, y_todo)) : wpY_out Q (y_length, y_parts, y_bad, y_nodes, y_fault, y_place, y_bound, y_depth, y_nextName, y_wantsName, y_wantsTag, nI m, y_waiting, y_scaled, y_sort, y_typeA, y_typeB, y_typeC, y_fieldName, y_fieldType, y_fields, y_tags, y_needed, y_text, y_begin, y_end, y_inside, y_whole, y_kind, y_value, y_parent, y_name, y_slotOf, y_placeOf, y_complete, y_openNode, y_openType, y_openCount, y_openNames, y_openChoice, y_output, y_todo) c := by
  unfold ow_1 at h
  rcases Nat.lt_or_ge m 192 with w | w
  · rw [if_pos w] at h
    refine br_f (nI_ge (b := 192) w (by decide)) ⟨vp_in_nI w (by decide), ?_⟩
    rw [nI_clamp (by omega)]
    exact nm_e (nm_r (nI_1 m) h)
  · rw [if_neg (by omega)] at h
    exact br_t (nI_le (a := 192) w (by omega)) (nm_r (nI_1 m) h)
end
