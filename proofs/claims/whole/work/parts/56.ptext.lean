/-! printing: texts on both sides -/
def rg_L (t : Nat → Int32) (i : Nat) : Nat → List Int32
  | 0 => []
  | k + 1 => t i :: rg_L t (i + 1) k
theorem rg_len (t : Nat → Int32) : ∀ k i, (rg_L t i k).length = k
  | 0, _ => rfl
  | k + 1, i => by
    show (rg_L t (i + 1) k).length + 1 = k + 1
    rw [rg_len t k (i + 1)]
section
variable {x_nodeCount x_bound x_fault x_faultPlace x_mode x_at x_tokenStart x_textCount x_escaped x_valueSlot x_valueName x_depth : Int32} {x_text x_typeKind x_typeDetail x_typeLeast x_typeMost x_fieldCount x_fieldName x_fieldType x_fieldNeeded x_tagType x_nodeKind x_nodeValue x_nodeParent x_nodeName x_nodeSlot x_nodeStart x_nodeTag x_completeCount x_openNode x_openSlot x_openNames x_openNext x_openComma : Nat → Int32} {L q : Nat} {Q : SX → Prop}
theorem ws_one (hL : L ≤ 96) {i m n : Nat} {o : Nat → Int32} {bh : Int32} (hi : i < L) (hm : m < 90000) (h : (x_text i = 16 → bh = 0 → Q (nI L, x_nodeCount, x_bound, x_fault, x_faultPlace, x_mode, x_at, x_tokenStart, x_textCount, x_escaped, x_valueSlot, x_valueName, x_depth, nI (m + 1), x_text, x_typeKind, x_typeDetail, x_typeLeast, x_typeMost, x_fieldCount, x_fieldName, x_fieldType, x_fieldNeeded, x_tagType, x_nodeKind, x_nodeValue, x_nodeParent, x_nodeName, x_nodeSlot, x_nodeStart, x_nodeTag, x_completeCount, x_openNode, x_openSlot, x_openNames, x_openNext, x_openComma, ow_1 o m (x_text i))) ∧ (¬ (x_text i = 16 ∧ bh = 0) → (x_text i = 30 ∧ bh = 0 → wX_writeString_12 Q n 1 (nI (i + 1)) (nI L) x_nodeCount x_bound x_fault x_faultPlace x_mode x_at x_tokenStart x_textCount x_escaped x_valueSlot x_valueName x_depth (nI (m + 1)) x_text x_typeKind x_typeDetail x_typeLeast x_typeMost x_fieldCount x_fieldName x_fieldType x_fieldNeeded x_tagType x_nodeKind x_nodeValue x_nodeParent x_nodeName x_nodeSlot x_nodeStart x_nodeTag x_completeCount x_openNode x_openSlot x_openNames x_openNext x_openComma ((ow_1 o m (x_text i)))) ∧ (¬ (x_text i = 30 ∧ bh = 0) → wX_writeString_12 Q n 0 (nI (i + 1)) (nI L) x_nodeCount x_bound x_fault x_faultPlace x_mode x_at x_tokenStart x_textCount x_escaped x_valueSlot x_valueName x_depth (nI (m + 1)) x_text x_typeKind x_typeDetail x_typeLeast x_typeMost x_fieldCount x_fieldName x_fieldType x_fieldNeeded x_tagType x_nodeKind x_nodeValue x_nodeParent x_nodeName x_nodeSlot x_nodeStart x_nodeTag x_completeCount x_openNode x_openSlot x_openNames x_openNext x_openComma ((ow_1 o m (x_text i)))))) : wX_writeString_12 Q (n + 1) bh (nI i) (nI L) x_nodeCount x_bound x_fault x_faultPlace x_mode x_at x_tokenStart x_textCount x_escaped x_valueSlot x_valueName x_depth (nI m) x_text x_typeKind x_typeDetail x_typeLeast x_typeMost x_fieldCount x_fieldName x_fieldType x_fieldNeeded x_tagType x_nodeKind x_nodeValue x_nodeParent x_nodeName x_nodeSlot x_nodeStart x_nodeTag x_completeCount x_openNode x_openSlot x_openNames x_openNext x_openComma o := by
  refine br_f (nI_ge hi (by omega)) ⟨vp_in_nI (by omega) (by decide), ?_⟩
  rw [nI_clamp (by omega)]
  refine nm_e (wr_x (by omega) ?_)
  have t46 : ¬ (x_text i = 16 ∧ bh = 0) → wX_writeString_46 Q (wX_writeString_12 Q n) bh (nI i) (x_text i) (nI L) x_nodeCount x_bound x_fault x_faultPlace x_mode x_at x_tokenStart x_textCount x_escaped x_valueSlot x_valueName x_depth (nI (m + 1)) x_text x_typeKind x_typeDetail x_typeLeast x_typeMost x_fieldCount x_fieldName x_fieldType x_fieldNeeded x_tagType x_nodeKind x_nodeValue x_nodeParent x_nodeName x_nodeSlot x_nodeStart x_nodeTag x_completeCount x_openNode x_openSlot x_openNames x_openNext x_openComma ((ow_1 o m (x_text i))) := by
    intro z
    refine br_c (fun c30 => br_c (fun b0 => nm_r (nI_1 i) ((h.2 z).1 ⟨c30, b0⟩)) (fun b0 => nm_r (nI_1 i) ((h.2 z).2 (fun y => b0 y.2)))) (fun c30 => nm_r (nI_1 i) ((h.2 z).2 (fun y => c30 y.1)))
  exact br_c (fun c16 => br_c (fun b0 => h.1 c16 b0) (fun b0 => t46 (fun y => b0 y.2))) (fun c16 => t46 (fun y => c16 y.1))
theorem ws_run (hL : L ≤ 96) (hq : q < L) (q16 : x_text q = 16) : ∀ (mu i m : Nat) (o : Nat → Int32), ss_R x_text L mu i q → m + (q - i) < 80000 → Q (nI L, x_nodeCount, x_bound, x_fault, x_faultPlace, x_mode, x_at, x_tokenStart, x_textCount, x_escaped, x_valueSlot, x_valueName, x_depth, nI (m + (q + 1 - i)), x_text, x_typeKind, x_typeDetail, x_typeLeast, x_typeMost, x_fieldCount, x_fieldName, x_fieldType, x_fieldNeeded, x_tagType, x_nodeKind, x_nodeValue, x_nodeParent, x_nodeName, x_nodeSlot, x_nodeStart, x_nodeTag, x_completeCount, x_openNode, x_openSlot, x_openNames, x_openNext, x_openComma, ow_L o m (rg_L x_text i (q + 1 - i))) → ∃ n, wX_writeString_12 Q n 0 (nI i) (nI L) x_nodeCount x_bound x_fault x_faultPlace x_mode x_at x_tokenStart x_textCount x_escaped x_valueSlot x_valueName x_depth (nI m) x_text x_typeKind x_typeDetail x_typeLeast x_typeMost x_fieldCount x_fieldName x_fieldType x_fieldNeeded x_tagType x_nodeKind x_nodeValue x_nodeParent x_nodeName x_nodeSlot x_nodeStart x_nodeTag x_completeCount x_openNode x_openSlot x_openNames x_openNext x_openComma o := by
  intro mu
  induction mu with
  | zero =>
    intro i m o hR hm h
    have e : i = q := hR
    subst e
    rw [show i + 1 - i = 1 from by omega] at h
    exact ⟨0 + 1, ws_one hL hq (by omega) ⟨fun _ _ => h, fun z => absurd ⟨q16, rfl⟩ z⟩⟩
  | succ mu ih =>
    intro i m o hR hm h
    obtain ⟨j, hG, hR'⟩ := hR
    have hjq := ss_R_le hR'
    rcases hG with ⟨g1, g2, g3, rfl⟩ | ⟨g1, g2, g3, rfl⟩
    · obtain ⟨n, hn⟩ := ih (i + 1) (m + 1) (ow_1 o m (x_text i)) hR' (by omega) (by
        rw [show q + 1 - i = (q + 1 - (i + 1)) + 1 from by omega, show m + (q + 1 - (i + 1) + 1) = m + 1 + (q + 1 - (i + 1)) from by omega] at h
        exact h)
      exact ⟨n + 1, ws_one hL g1 (by omega) ⟨fun z => absurd z g2, fun _ => ⟨fun z => absurd z.1 g3, fun _ => hn⟩⟩⟩
    · obtain ⟨n, hn⟩ := ih (i + 2) (m + 1 + 1) (ow_1 (ow_1 o m (x_text i)) (m + 1) (x_text (i + 1))) hR' (by omega) (by
        rw [show q + 1 - i = (q + 1 - (i + 2)) + 1 + 1 from by omega, show m + (q + 1 - (i + 2) + 1 + 1) = m + 1 + 1 + (q + 1 - (i + 2)) from by omega] at h
        exact h)
      refine ⟨n + 1 + 1, ws_one hL (by omega) (by omega) ⟨fun z => by rw [g2] at z; exact absurd z (by decide), fun _ => ⟨fun _ => ?_, fun z => absurd ⟨g2, rfl⟩ z⟩⟩⟩
      exact ws_one hL g1 (by omega) ⟨fun _ z => absurd z (by decide), fun _ => ⟨fun z => absurd z.2 (by decide), fun _ => hn⟩⟩
end
section
variable {y_length y_parts y_bad y_nodes y_fault y_place y_bound y_depth y_nextName y_wantsName y_wantsTag y_waiting y_scaled : Int32} {y_sort y_typeA y_typeB y_typeC y_fieldName y_fieldType y_fields y_tags y_needed y_text y_begin y_end y_inside y_whole y_kind y_value y_parent y_name y_slotOf y_placeOf y_complete y_openNode y_openType y_openCount y_openNames y_openChoice y_todo : Nat → Int32} {L q : Nat} {Q : SY → Prop}
theorem st_run (hL : L ≤ 96) (hq : q < L) (q16 : y_text q = 16) : ∀ (mu p m : Nat) (o : Nat → Int32), ss_R y_text L mu (p + 1) q → m + (q - p) < 80000 → Q (y_length, y_parts, y_bad, y_nodes, y_fault, y_place, y_bound, y_depth, y_nextName, y_wantsName, y_wantsTag, nI (m + (q - p)), y_waiting, y_scaled, y_sort, y_typeA, y_typeB, y_typeC, y_fieldName, y_fieldType, y_fields, y_tags, y_needed, y_text, y_begin, y_end, y_inside, y_whole, y_kind, y_value, y_parent, y_name, y_slotOf, y_placeOf, y_complete, y_openNode, y_openType, y_openCount, y_openNames, y_openChoice, ow_L o m (rg_L y_text (p + 1) (q - p)), y_todo) → ∃ n, wY_showText_36 Q (wY_showText_2 Q n) (nI p) y_length y_parts y_bad y_nodes y_fault y_place y_bound y_depth y_nextName y_wantsName y_wantsTag (nI m) y_waiting y_scaled y_sort y_typeA y_typeB y_typeC y_fieldName y_fieldType y_fields y_tags y_needed y_text y_begin y_end y_inside y_whole y_kind y_value y_parent y_name y_slotOf y_placeOf y_complete y_openNode y_openType y_openCount y_openNames y_openChoice o y_todo := by
  intro mu
  induction mu with
  | zero =>
    intro p m o hR hm h
    have e : p + 1 = q := hR
    subst e
    rw [show p + 1 - p = 1 from by omega] at h
    refine ⟨0, nm_r (nI_1 p) ⟨vp_in_nI (by omega) (by decide), ?_⟩⟩
    rw [nI_clamp (by omega)]
    refine br_t q16 (ou_y (by omega) ?_)
    have h' : Q (y_length, y_parts, y_bad, y_nodes, y_fault, y_place, y_bound, y_depth, y_nextName, y_wantsName, y_wantsTag, nI (m + 1), y_waiting, y_scaled, y_sort, y_typeA, y_typeB, y_typeC, y_fieldName, y_fieldType, y_fields, y_tags, y_needed, y_text, y_begin, y_end, y_inside, y_whole, y_kind, y_value, y_parent, y_name, y_slotOf, y_placeOf, y_complete, y_openNode, y_openType, y_openCount, y_openNames, y_openChoice, ow_1 o m (y_text (p + 1)), y_todo) := h
    rw [q16] at h'; exact h'
  | succ mu ih =>
    intro p m o hR hm h
    obtain ⟨j, hG, hR'⟩ := hR
    have hjq := ss_R_le hR'
    have hlt := ss_G_lt hG
    have n16 : ¬ y_text (p + 1) = 16 := by
      rcases hG with g | g
      · exact g.2.1
      · rw [g.2.1]; decide
    have ec : (nI (p + 1)).toNatClampNeg = p + 1 := nI_clamp (by omega)
    rcases hG with ⟨g1, g2, g3, rfl⟩ | ⟨g1, g2, g3, rfl⟩
    · obtain ⟨n, hn⟩ := ih (p + 1) (m + 1) (ow_1 o m (y_text (p + 1))) hR' (by omega) (by
        rw [show q - p = (q - (p + 1)) + 1 from by omega, show m + (q - (p + 1) + 1) = m + 1 + (q - (p + 1)) from by omega] at h
        exact h)
      refine ⟨n + 1, nm_r (nI_1 p) ⟨vp_in_nI (by omega) (by decide), ?_⟩⟩
      rw [ec]
      refine br_f n16 (And.intro (vp_in_nI (by omega) (by decide)) ?_)
      rw [ec]
      exact ou_y (by omega) ⟨vp_in_nI (by omega) (by decide), br_f g3 hn⟩
    · obtain ⟨n, hn⟩ := ih (p + 2) (m + 1 + 1) (ow_1 (ow_1 o m (y_text (p + 1))) (m + 1) (y_text (p + 2))) hR' (by omega) (by
        rw [show q - p = (q - (p + 2)) + 1 + 1 from by omega, show m + (q - (p + 2) + 1 + 1) = m + 1 + 1 + (q - (p + 2)) from by omega] at h
        exact h)
      refine ⟨n + 1, nm_r (nI_1 p) ⟨vp_in_nI (by omega) (by decide), ?_⟩⟩
      rw [ec]
      refine br_f n16 (And.intro (vp_in_nI (by omega) (by decide)) ?_)
      rw [ec]
      refine ou_y (by omega) ⟨vp_in_nI (by omega) (by decide), br_t g2 (nm_r (nI_1 (p + 1)) ⟨vp_in_nI (by omega) (by decide), ?_⟩)⟩
      rw [nI_clamp (by omega)]
      exact ou_y (by omega) hn
end
theorem pr_txt {t : Nat → Int32} {L b q : Nat} (hL : L ≤ 96) (hbL : b < L) (b16 : t b = 16) (hW : ss_W t L (b + 1) q) : ∃ l : List Int32, l.length ≤ 100 ∧
    (∀ {x_nodeCount x_bound x_fault x_faultPlace x_mode x_at x_tokenStart x_textCount x_escaped x_valueSlot x_valueName x_depth : Int32} {x_typeKind x_typeDetail x_typeLeast x_typeMost x_fieldCount x_fieldName x_fieldType x_fieldNeeded x_tagType x_nodeKind x_nodeValue x_nodeParent x_nodeName x_nodeSlot x_nodeStart x_nodeTag x_completeCount x_openNode x_openSlot x_openNames x_openNext x_openComma : Nat → Int32} (Q : SX → Prop) (m : Nat) (o : Nat → Int32), m < 70000 → Q (nI L, x_nodeCount, x_bound, x_fault, x_faultPlace, x_mode, x_at, x_tokenStart, x_textCount, x_escaped, x_valueSlot, x_valueName, x_depth, nI (m + l.length), t, x_typeKind, x_typeDetail, x_typeLeast, x_typeMost, x_fieldCount, x_fieldName, x_fieldType, x_fieldNeeded, x_tagType, x_nodeKind, x_nodeValue, x_nodeParent, x_nodeName, x_nodeSlot, x_nodeStart, x_nodeTag, x_completeCount, x_openNode, x_openSlot, x_openNames, x_openNext, x_openComma, ow_L o m l) → wpX_writeString Q (nI L, x_nodeCount, x_bound, x_fault, x_faultPlace, x_mode, x_at, x_tokenStart, x_textCount, x_escaped, x_valueSlot, x_valueName, x_depth, nI m, t, x_typeKind, x_typeDetail, x_typeLeast, x_typeMost, x_fieldCount, x_fieldName, x_fieldType, x_fieldNeeded, x_tagType, x_nodeKind, x_nodeValue, x_nodeParent, x_nodeName, x_nodeSlot, x_nodeStart, x_nodeTag, x_completeCount, x_openNode, x_openSlot, x_openNames, x_openNext, x_openComma, o) (nI b)) ∧
    (∀ {y_length y_parts y_bad y_nodes y_fault y_place y_bound y_depth y_nextName y_wantsName y_wantsTag y_waiting y_scaled : Int32} {y_sort y_typeA y_typeB y_typeC y_fieldName y_fieldType y_fields y_tags y_needed y_begin y_end y_inside y_whole y_kind y_value y_parent y_name y_slotOf y_placeOf y_complete y_openNode y_openType y_openCount y_openNames y_openChoice y_todo : Nat → Int32} (Q : SY → Prop) (m : Nat) (o : Nat → Int32), m < 70000 → Q (y_length, y_parts, y_bad, y_nodes, y_fault, y_place, y_bound, y_depth, y_nextName, y_wantsName, y_wantsTag, nI (m + l.length), y_waiting, y_scaled, y_sort, y_typeA, y_typeB, y_typeC, y_fieldName, y_fieldType, y_fields, y_tags, y_needed, t, y_begin, y_end, y_inside, y_whole, y_kind, y_value, y_parent, y_name, y_slotOf, y_placeOf, y_complete, y_openNode, y_openType, y_openCount, y_openNames, y_openChoice, ow_L o m l, y_todo) → wpY_showText Q (y_length, y_parts, y_bad, y_nodes, y_fault, y_place, y_bound, y_depth, y_nextName, y_wantsName, y_wantsTag, nI m, y_waiting, y_scaled, y_sort, y_typeA, y_typeB, y_typeC, y_fieldName, y_fieldType, y_fields, y_tags, y_needed, t, y_begin, y_end, y_inside, y_whole, y_kind, y_value, y_parent, y_name, y_slotOf, y_placeOf, y_complete, y_openNode, y_openType, y_openCount, y_openNames, y_openChoice, o, y_todo) (nI b)) := by
  obtain ⟨hq, q16, mu, hmu⟩ := hW
  have hbq := ss_R_le hmu
  have hlen : (rg_L t (b + 1) (q - b)).length = q - b := rg_len _ _ _
  refine ⟨16 :: rg_L t (b + 1) (q - b), by rw [List.length_cons, hlen]; omega, fun Q m o hm hq2 => ?_, ?_⟩
  · rw [List.length_cons, hlen, show m + (q - b + 1) = m + 1 + (q - b) from by omega] at hq2
    unfold wpX_writeString
    dsimp only
    refine wr_x (by omega) (nm_r (nI_1 b) (ws_run hL hq q16 mu (b + 1) (m + 1) _ hmu (by omega) ?_))
    rw [show q + 1 - (b + 1) = q - b from by omega]
    exact hq2
  · intro y_length y_parts y_bad y_nodes y_fault y_place y_bound y_depth y_nextName y_wantsName y_wantsTag y_waiting y_scaled y_sort y_typeA y_typeB y_typeC y_fieldName y_fieldType y_fields y_tags y_needed y_begin y_end y_inside y_whole y_kind y_value y_parent y_name y_slotOf y_placeOf y_complete y_openNode y_openType y_openCount y_openNames y_openChoice y_todo Q m o hm hq2
    rw [List.length_cons, hlen, show m + (q - b + 1) = m + 1 + (q - b) from by omega] at hq2
    obtain ⟨n, hn⟩ := st_run (y_text := t) (Q := Q) (y_length := y_length) (y_parts := y_parts) (y_bad := y_bad) (y_nodes := y_nodes) (y_fault := y_fault) (y_place := y_place) (y_bound := y_bound) (y_depth := y_depth) (y_nextName := y_nextName) (y_wantsName := y_wantsName) (y_wantsTag := y_wantsTag) (y_waiting := y_waiting) (y_scaled := y_scaled) (y_sort := y_sort) (y_typeA := y_typeA) (y_typeB := y_typeB) (y_typeC := y_typeC) (y_fieldName := y_fieldName) (y_fieldType := y_fieldType) (y_fields := y_fields) (y_tags := y_tags) (y_needed := y_needed) (y_begin := y_begin) (y_end := y_end) (y_inside := y_inside) (y_whole := y_whole) (y_kind := y_kind) (y_value := y_value) (y_parent := y_parent) (y_name := y_name) (y_slotOf := y_slotOf) (y_placeOf := y_placeOf) (y_complete := y_complete) (y_openNode := y_openNode) (y_openType := y_openType) (y_openCount := y_openCount) (y_openNames := y_openNames) (y_openChoice := y_openChoice) (y_todo := y_todo) hL hq q16 mu b (m + 1) (ow_1 o m 16) hmu (by omega) hq2
    refine ⟨n + 1, And.intro (vp_in_nI (by omega) (by decide)) ?_⟩
    rw [nI_clamp (by omega)]
    refine ou_y (by omega) ⟨vp_in_nI (by omega) (by decide), br_f (by rw [b16]; decide) ?_⟩
    rw [b16]; exact hn
