/-! the bind: a tag's step -/
theorem sv_ne {c : Int32} (h : sp_V c) : ¬ c = 13 ∧ ¬ c = 11 ∧ ¬ c = 15 ∧ ¬ c = 14 ∧ ¬ c = 20 := by
  rcases h with w | rfl | rfl | rfl | rfl | rfl | rfl | rfl
  · exact ⟨hh_9 (n := 13) w.2 (by decide) (by decide), hh_9 (n := 11) w.2 (by decide) (by decide), hh_9 (n := 15) w.2 (by decide) (by decide), hh_9 (n := 14) w.2 (by decide) (by decide), hh_9 (n := 20) w.2 (by decide) (by decide)⟩
  all_goals decide
theorem sb_v {c : Int32} (h : sp_B c) : sp_V c := by
  rcases h with w | w
  · exact Or.inl w
  · exact Or.inr (Or.inr (Or.inr (Or.inr (Or.inl w))))
theorem nu_ok {xu : Int64} {ok sc : Int32} (h : nu_R xu ok sc) : ok = 0 ∨ ok = 1 := by
  rcases h with h | h
  · exact Or.inr h.1
  · exact Or.inl h.1
section
variable {x_bound x_at x_tokenStart x_textCount x_escaped x_valueSlot x_valueName x_outputLength : Int32} {x_text x_typeKind x_typeDetail x_typeLeast x_typeMost x_fieldCount x_fieldName x_fieldType x_fieldNeeded x_tagType x_nodeKind x_nodeValue x_nodeParent x_nodeName x_nodeSlot x_nodeStart x_nodeTag x_completeCount x_openNode x_openSlot x_openNames x_openNext x_openComma x_output : Nat → Int32} {y_bad y_nextName y_wantsName y_wantsTag y_waiting y_scaled : Int32} {y_typeA y_typeB y_typeC y_fields y_tags y_begin y_end y_inside y_whole y_kind y_value y_parent y_name y_slotOf y_placeOf y_complete y_openNode y_openType y_openCount y_openNames y_openChoice y_todo : Nat → Int32} {L P k p x d N : Nat} {g : Nat → Int32} {dp : Nat → Nat} {slot : Int32}
/-- what holds at a tag -/
theorem tg_F (F : br_F slot L k p 0 (d + 1) N g x_text x_typeKind x_fieldCount x_fieldName x_fieldType y_begin y_end x_nodeKind x_nodeValue x_nodeParent x_nodeName x_nodeSlot x_nodeStart x_nodeTag x_completeCount x_openNode x_openSlot x_openNames x_valueSlot x_valueName dp y_kind y_value y_parent y_name y_slotOf y_placeOf y_complete y_openNode y_openType y_openCount y_openNames y_openChoice y_nextName y_wantsName y_wantsTag) (es : x_openSlot d = -1) : ∃ n s, n < N ∧ s < 12 ∧ x_openNode d = nI n ∧ y_openNode d = nI n ∧ dp n = d ∧ y_openType d = x_openSlot d ∧ x_nodeSlot n = nI s ∧ g (d + 1) = 10 ∧ x_nodeKind n = 4 ∧ x_typeKind s = 6 ∧ y_openChoice d = nI s ∧ y_wantsName = 0 ∧ y_wantsTag = 1 ∧ ph_F (d + 1) k 3 x_openNode x_nodeStart y_begin := by
  obtain ⟨-, hA, hd6, hlv, -, -, hx⟩ := F
  obtain ⟨n, s, hn, hs, eo, eo', edp, et, esl, K⟩ := hlv d (by omega)
  rcases K with ⟨-, -, -, e, -⟩ | ⟨g1, k1, -, -, K⟩
  · rw [es] at e; exact absurd e (hh_m1' (by omega))
  rcases K with ⟨-, e, -⟩ | ⟨so6, ech, -⟩ | ⟨-, -, r, q, hr, -, e, -⟩
  · rw [es] at e; exact absurd e (hh_m1' (by omega))
  · refine ⟨n, s, hn, hs, eo, eo', edp, et, esl, g1, k1, so6, ech, ?_⟩
    rcases hx with w | w | w | w | w | w | w | w | w | w
    all_goals try (have := w.1; omega)
    · rw [g1] at w; exact absurd w.2.2.1 (by decide)
    · exact ⟨w.2.2.2.1, w.2.2.2.2.2.1, w.2.2.2.2.2.2⟩
    · exact absurd es w.2.2.2.2.1
  · rw [es] at e; exact absurd e (hh_m1' (by omega))
/-- the reference's way to the tag -/
theorem tg_Y {b n s : Nat} (hk : k < P) (hP : P ≤ 96) (hb : b < 96) (eb : y_begin k = nI b) (hd : d < 6) (hn : n < 40) (eo' : y_openNode d = nI n) (yk : y_kind n = 4) (wn : y_wantsName = 0) (wt : y_wantsTag = 1) (hV : sp_V (x_text b)) {v' : SY} (h : ∀ Q : SY → Prop, Q v' → wpY_bindTag Q (nI L, nI P, y_bad, nI N, 0, -1, 0, nI (d + 1), y_nextName, y_wantsName, y_wantsTag, x_outputLength, y_waiting, y_scaled, x_typeKind, y_typeA, y_typeB, y_typeC, x_fieldName, x_fieldType, y_fields, y_tags, x_fieldNeeded, x_text, y_begin, y_end, y_inside, y_whole, y_kind, y_value, y_parent, y_name, y_slotOf, y_placeOf, y_complete, y_openNode, y_openType, y_openCount, y_openNames, y_openChoice, x_output, y_todo) (nI k)) : by_R slot k (nI L, nI P, y_bad, nI N, 0, -1, 0, nI (d + 1), y_nextName, y_wantsName, y_wantsTag, x_outputLength, y_waiting, y_scaled, x_typeKind, y_typeA, y_typeB, y_typeC, x_fieldName, x_fieldType, y_fields, y_tags, x_fieldNeeded, x_text, y_begin, y_end, y_inside, y_whole, y_kind, y_value, y_parent, y_name, y_slotOf, y_placeOf, y_complete, y_openNode, y_openType, y_openCount, y_openNames, y_openChoice, x_output, y_todo) (k + 1) v' := by
  have ed : (nI d).toNatClampNeg = d := nI_clamp (by omega)
  have en : (nI n).toNatClampNeg = n := nI_clamp (by omega)
  obtain ⟨n13, n11, n15, n14, -⟩ := sv_ne hV
  refine by_1 hk hP v' (fun Q w => yp_in (d := d + 1) (by omega) hb eb ?_)
  rw [nI_pred, ed, eo', en, yk]
  exact br_f (nI_ne0 (by omega) (by omega)) (br_f n13 (br_f n11 (br_f n15 (br_f n14 ⟨vp_in_nI (by omega) (by decide), vp_in_nI (by omega) (by decide), br_f (by decide) (br_t wn (br_f (by rw [wt]; decide) (h Q w)))⟩))))
theorem st_tagT (hT : rl_T L x_text x_typeKind x_typeDetail x_typeLeast x_typeMost x_fieldCount x_fieldName x_fieldType x_fieldNeeded x_tagType y_typeA y_typeB y_typeC y_fields y_tags) (F : br_F slot L k p 0 (d + 1) N g x_text x_typeKind x_fieldCount x_fieldName x_fieldType y_begin y_end x_nodeKind x_nodeValue x_nodeParent x_nodeName x_nodeSlot x_nodeStart x_nodeTag x_completeCount x_openNode x_openSlot x_openNames x_valueSlot x_valueName dp y_kind y_value y_parent y_name y_slotOf y_placeOf y_complete y_openNode y_openType y_openCount y_openNames y_openChoice y_nextName y_wantsName y_wantsTag) (es : x_openSlot d = -1) (hk : k < P) (hP : P ≤ 96) {b : Nat} (hb : sp_S x_text p b) (hbL : b < L) (eb : y_begin k = nI b) (hV : sp_V (x_text b)) (hB : ¬ sp_B (x_text b)) : bo_O slot p k (nI L, nI N, x_bound, 0, -1, md_x 0, x_at, x_tokenStart, x_textCount, x_escaped, x_valueSlot, x_valueName, nI (d + 1), x_outputLength, x_text, x_typeKind, x_typeDetail, x_typeLeast, x_typeMost, x_fieldCount, x_fieldName, x_fieldType, x_fieldNeeded, x_tagType, x_nodeKind, x_nodeValue, x_nodeParent, x_nodeName, x_nodeSlot, x_nodeStart, x_nodeTag, x_completeCount, x_openNode, x_openSlot, x_openNames, x_openNext, x_openComma, x_output) (nI L, nI P, y_bad, nI N, 0, -1, 0, nI (d + 1), y_nextName, y_wantsName, y_wantsTag, x_outputLength, y_waiting, y_scaled, x_typeKind, y_typeA, y_typeB, y_typeC, x_fieldName, x_fieldType, y_fields, y_tags, x_fieldNeeded, x_text, y_begin, y_end, y_inside, y_whole, y_kind, y_value, y_parent, y_name, y_slotOf, y_placeOf, y_complete, y_openNode, y_openType, y_openCount, y_openNames, y_openChoice, x_output, y_todo) := by
  have hL := hT.1
  obtain ⟨n, s, hn, hs, eo, eo', edp, et, esl, g1, k1, so6, ech, wn, wt, ph⟩ := tg_F F es
  have hN := F.2.1.1
  have hd6 := F.2.2.1
  have yk := (F.1.1 n hn).trans k1
  have c0 := tt_lo hT.2.1 b
  obtain ⟨a0, ha0⟩ : ∃ a, bx_R p (nI L, nI N, x_bound, 0, -1, md_x 0, x_at, x_tokenStart, x_textCount, x_escaped, x_valueSlot, x_valueName, nI (d + 1), x_outputLength, x_text, x_typeKind, x_typeDetail, x_typeLeast, x_typeMost, x_fieldCount, x_fieldName, x_fieldType, x_fieldNeeded, x_tagType, x_nodeKind, x_nodeValue, x_nodeParent, x_nodeName, x_nodeSlot, x_nodeStart, x_nodeTag, x_completeCount, x_openNode, x_openSlot, x_openNames, x_openNext, x_openComma, x_output) b (nI L, nI N, x_bound, 0, -1, md_x 0, a, x_tokenStart, x_textCount, x_escaped, x_valueSlot, x_valueName, nI (d + 1), x_outputLength, x_text, x_typeKind, x_typeDetail, x_typeLeast, x_typeMost, x_fieldCount, x_fieldName, x_fieldType, x_fieldNeeded, x_tagType, x_nodeKind, x_nodeValue, x_nodeParent, x_nodeName, x_nodeSlot, x_nodeStart, x_nodeTag, x_completeCount, x_openNode, x_openSlot, x_openNames, x_openNext, x_openComma, x_output) := bx_at (x := 0) (d := d + 1) hL hb (by omega)
  have hx : bx_R b (nI L, nI N, x_bound, 0, -1, md_x 0, a0, x_tokenStart, x_textCount, x_escaped, x_valueSlot, x_valueName, nI (d + 1), x_outputLength, x_text, x_typeKind, x_typeDetail, x_typeLeast, x_typeMost, x_fieldCount, x_fieldName, x_fieldType, x_fieldNeeded, x_tagType, x_nodeKind, x_nodeValue, x_nodeParent, x_nodeName, x_nodeSlot, x_nodeStart, x_nodeTag, x_completeCount, x_openNode, x_openSlot, x_openNames, x_openNext, x_openComma, x_output) (b + 1) (nI L, nI N, x_bound, 3, nI b, md_x 0, nI b, x_tokenStart, x_textCount, x_escaped, x_valueSlot, x_valueName, nI (d + 1), x_outputLength, x_text, x_typeKind, x_typeDetail, x_typeLeast, x_typeMost, x_fieldCount, x_fieldName, x_fieldType, x_fieldNeeded, x_tagType, x_nodeKind, x_nodeValue, x_nodeParent, x_nodeName, x_nodeSlot, x_nodeStart, x_nodeTag, x_completeCount, x_openNode, x_openSlot, x_openNames, x_openNext, x_openComma, x_output) :=
    bx_1 hbL hL _ (fun Q w => rc_val (sv_ne hV).2.2.2.2 (Or.inl rfl) (bv_tag0 (by omega) es hV hB c0 w))
  have hy : by_R slot k (nI L, nI P, y_bad, nI N, 0, -1, 0, nI (d + 1), y_nextName, y_wantsName, y_wantsTag, x_outputLength, y_waiting, y_scaled, x_typeKind, y_typeA, y_typeB, y_typeC, x_fieldName, x_fieldType, y_fields, y_tags, x_fieldNeeded, x_text, y_begin, y_end, y_inside, y_whole, y_kind, y_value, y_parent, y_name, y_slotOf, y_placeOf, y_complete, y_openNode, y_openType, y_openCount, y_openNames, y_openChoice, x_output, y_todo) (k + 1) (nI L, nI P, y_bad, nI N, 3, nI b, 0, nI (d + 1), y_nextName, y_wantsName, 0, x_outputLength, y_waiting, y_scaled, x_typeKind, y_typeA, y_typeB, y_typeC, x_fieldName, x_fieldType, y_fields, y_tags, x_fieldNeeded, x_text, y_begin, y_end, y_inside, y_whole, y_kind, y_value, y_parent, y_name, y_slotOf, y_placeOf, y_complete, y_openNode, y_openType, y_openCount, y_openNames, y_openChoice, x_output, y_todo) :=
    tg_Y (s := s) hk hP (by omega) eb (by omega) (by omega) eo' yk wn wt hV (fun Q w => yt_in (by omega) (by omega) (by omega) eb ech c0 (fun z => absurd z hB) (fun _ => w))
  exact bo_fault hT (f := 3) (z := nI b) (by decide) (bx_T ha0 hx) hy
/-- the component up to the tag's end -/
theorem tg_X (hT : rl_T L x_text x_typeKind x_typeDetail x_typeLeast x_typeMost x_fieldCount x_fieldName x_fieldType x_fieldNeeded x_tagType y_typeA y_typeB y_typeC y_fields y_tags) (es : x_openSlot d = -1) (hd : d < 6) {b : Nat} (hb : sp_S x_text p b) (hbL : b < L) (hB : sp_B (x_text b)) : bx_R p (nI L, nI N, x_bound, 0, -1, md_x 0, x_at, x_tokenStart, x_textCount, x_escaped, x_valueSlot, x_valueName, nI (d + 1), x_outputLength, x_text, x_typeKind, x_typeDetail, x_typeLeast, x_typeMost, x_fieldCount, x_fieldName, x_fieldType, x_fieldNeeded, x_tagType, x_nodeKind, x_nodeValue, x_nodeParent, x_nodeName, x_nodeSlot, x_nodeStart, x_nodeTag, x_completeCount, x_openNode, x_openSlot, x_openNames, x_openNext, x_openComma, x_output) (b + 1) (nI L, nI N, x_bound, 0, -1, xn_m (x_text b), nI b, nI b, x_textCount, x_escaped, x_valueSlot, x_valueName, nI (d + 1), x_outputLength, x_text, x_typeKind, x_typeDetail, x_typeLeast, x_typeMost, x_fieldCount, x_fieldName, x_fieldType, x_fieldNeeded, x_tagType, x_nodeKind, x_nodeValue, x_nodeParent, x_nodeName, x_nodeSlot, x_nodeStart, x_nodeTag, x_completeCount, x_openNode, x_openSlot, x_openNames, x_openNext, x_openComma, x_output) := by
  have hL := hT.1
  have c0 := tt_lo hT.2.1 b
  obtain ⟨a0, ha0⟩ : ∃ a, bx_R p (nI L, nI N, x_bound, 0, -1, md_x 0, x_at, x_tokenStart, x_textCount, x_escaped, x_valueSlot, x_valueName, nI (d + 1), x_outputLength, x_text, x_typeKind, x_typeDetail, x_typeLeast, x_typeMost, x_fieldCount, x_fieldName, x_fieldType, x_fieldNeeded, x_tagType, x_nodeKind, x_nodeValue, x_nodeParent, x_nodeName, x_nodeSlot, x_nodeStart, x_nodeTag, x_completeCount, x_openNode, x_openSlot, x_openNames, x_openNext, x_openComma, x_output) b (nI L, nI N, x_bound, 0, -1, md_x 0, a, x_tokenStart, x_textCount, x_escaped, x_valueSlot, x_valueName, nI (d + 1), x_outputLength, x_text, x_typeKind, x_typeDetail, x_typeLeast, x_typeMost, x_fieldCount, x_fieldName, x_fieldType, x_fieldNeeded, x_tagType, x_nodeKind, x_nodeValue, x_nodeParent, x_nodeName, x_nodeSlot, x_nodeStart, x_nodeTag, x_completeCount, x_openNode, x_openSlot, x_openNames, x_openNext, x_openComma, x_output) := bx_at (x := 0) (d := d + 1) hL hb (by omega)
  exact bx_T ha0 (bx_1 hbL hL _ (fun Q w => rc_val (sv_ne (sb_v hB)).2.2.2.2 (Or.inl rfl) (bv_tag1 hd es hB c0 w)))
theorem st_tagX (hT : rl_T L x_text x_typeKind x_typeDetail x_typeLeast x_typeMost x_fieldCount x_fieldName x_fieldType x_fieldNeeded x_tagType y_typeA y_typeB y_typeC y_fields y_tags) (F : br_F slot L k p 0 (d + 1) N g x_text x_typeKind x_fieldCount x_fieldName x_fieldType y_begin y_end x_nodeKind x_nodeValue x_nodeParent x_nodeName x_nodeSlot x_nodeStart x_nodeTag x_completeCount x_openNode x_openSlot x_openNames x_valueSlot x_valueName dp y_kind y_value y_parent y_name y_slotOf y_placeOf y_complete y_openNode y_openType y_openCount y_openNames y_openChoice y_nextName y_wantsName y_wantsTag) (es : x_openSlot d = -1) (hk : k + 1 = P) (hP : P ≤ 96) {b z : Nat} (hb : sp_S x_text p b) (hbL : b < L) (eb : y_begin k = nI b) (ew : y_whole k = 0) (hB : sp_B (x_text b)) (hX : ns_X x_text L b z) : bo_O slot p k (nI L, nI N, x_bound, 0, -1, md_x 0, x_at, x_tokenStart, x_textCount, x_escaped, x_valueSlot, x_valueName, nI (d + 1), x_outputLength, x_text, x_typeKind, x_typeDetail, x_typeLeast, x_typeMost, x_fieldCount, x_fieldName, x_fieldType, x_fieldNeeded, x_tagType, x_nodeKind, x_nodeValue, x_nodeParent, x_nodeName, x_nodeSlot, x_nodeStart, x_nodeTag, x_completeCount, x_openNode, x_openSlot, x_openNames, x_openNext, x_openComma, x_output) (nI L, nI P, nI z, nI N, 0, -1, 0, nI (d + 1), y_nextName, y_wantsName, y_wantsTag, x_outputLength, y_waiting, y_scaled, x_typeKind, y_typeA, y_typeB, y_typeC, x_fieldName, x_fieldType, y_fields, y_tags, x_fieldNeeded, x_text, y_begin, y_end, y_inside, y_whole, y_kind, y_value, y_parent, y_name, y_slotOf, y_placeOf, y_complete, y_openNode, y_openType, y_openCount, y_openNames, y_openChoice, x_output, y_todo) := by
  have hL := hT.1
  obtain ⟨n, s, hn, hs, eo, eo', edp, et, esl, g1, k1, so6, ech, wn, wt, ph⟩ := tg_F F es
  have hN := F.2.1.1
  have hd6 := F.2.2.1
  have yk := (F.1.1 n hn).trans k1
  have c0 := tt_lo hT.2.1 b
  have hz := ns_X_le hbL hX
  have ek : (nI k).toNatClampNeg = k := nI_clamp (by omega)
  have h1 := tg_X (y_typeA := y_typeA) (y_typeB := y_typeB) (y_typeC := y_typeC) (y_fields := y_fields) (y_tags := y_tags) (x_bound := x_bound) (x_at := x_at) (x_tokenStart := x_tokenStart) (x_textCount := x_textCount) (x_escaped := x_escaped) (x_valueSlot := x_valueSlot) (x_valueName := x_valueName) (x_outputLength := x_outputLength) (x_text := x_text) (x_typeKind := x_typeKind) (x_typeDetail := x_typeDetail) (x_typeLeast := x_typeLeast) (x_typeMost := x_typeMost) (x_fieldCount := x_fieldCount) (x_fieldName := x_fieldName) (x_fieldType := x_fieldType) (x_fieldNeeded := x_fieldNeeded) (x_tagType := x_tagType) (x_nodeKind := x_nodeKind) (x_nodeValue := x_nodeValue) (x_nodeParent := x_nodeParent) (x_nodeName := x_nodeName) (x_nodeSlot := x_nodeSlot) (x_nodeStart := x_nodeStart) (x_nodeTag := x_nodeTag) (x_completeCount := x_completeCount) (x_openNode := x_openNode) (x_openSlot := x_openSlot) (x_openNames := x_openNames) (x_openNext := x_openNext) (x_openComma := x_openComma) (x_output := x_output) (N := N) hT es (by omega) hb hbL hB
  obtain ⟨M, a', hM, hn2, hw⟩ : ∃ M a', (M = 8 ∨ M = 11 ∨ M = 13 ∨ M = 14) ∧ (z < L → nn_S M (x_text z)) ∧ bx_R (b + 1) (nI L, nI N, x_bound, 0, -1, xn_m (x_text b), nI b, nI b, x_textCount, x_escaped, x_valueSlot, x_valueName, nI (d + 1), x_outputLength, x_text, x_typeKind, x_typeDetail, x_typeLeast, x_typeMost, x_fieldCount, x_fieldName, x_fieldType, x_fieldNeeded, x_tagType, x_nodeKind, x_nodeValue, x_nodeParent, x_nodeName, x_nodeSlot, x_nodeStart, x_nodeTag, x_completeCount, x_openNode, x_openSlot, x_openNames, x_openNext, x_openComma, x_output) z (nI L, nI N, x_bound, 0, -1, M, a', nI b, x_textCount, x_escaped, x_valueSlot, x_valueName, nI (d + 1), x_outputLength, x_text, x_typeKind, x_typeDetail, x_typeLeast, x_typeMost, x_fieldCount, x_fieldName, x_fieldType, x_fieldNeeded, x_tagType, x_nodeKind, x_nodeValue, x_nodeParent, x_nodeName, x_nodeSlot, x_nodeStart, x_nodeTag, x_completeCount, x_openNode, x_openSlot, x_openNames, x_openNext, x_openComma, x_output) := xw_X hL hX (nI b)
  have h8 : ¬ M < 8 := by rcases hM with rfl | rfl | rfl | rfl <;> decide
  have hy : by_R slot k (nI L, nI P, nI z, nI N, 0, -1, 0, nI (d + 1), y_nextName, y_wantsName, y_wantsTag, x_outputLength, y_waiting, y_scaled, x_typeKind, y_typeA, y_typeB, y_typeC, x_fieldName, x_fieldType, y_fields, y_tags, x_fieldNeeded, x_text, y_begin, y_end, y_inside, y_whole, y_kind, y_value, y_parent, y_name, y_slotOf, y_placeOf, y_complete, y_openNode, y_openType, y_openCount, y_openNames, y_openChoice, x_output, y_todo) P (nI L, nI P, nI z, nI N, 0, -1, 0, nI (d + 1), y_nextName, y_wantsName, 0, x_outputLength, y_waiting, y_scaled, x_typeKind, y_typeA, y_typeB, y_typeC, x_fieldName, x_fieldType, y_fields, y_tags, x_fieldNeeded, x_text, y_begin, y_end, y_inside, y_whole, y_kind, y_value, y_parent, y_name, y_slotOf, y_placeOf, y_complete, y_openNode, y_openType, y_openCount, y_openNames, y_openChoice, x_output, y_todo) := by
    subst hk
    refine tg_Y (s := s) (by omega) hP (by omega) eb (by omega) (by omega) eo' yk wn wt (sb_v hB) (fun Q w => yt_in (by omega) (by omega) (by omega) eb ech c0 (fun _ => ?_) (fun q => absurd hB q))
    unfold wY_bindTag_53
    rw [ek]
    exact ⟨vp_in_nI (by omega) (by decide), br_t ew w⟩
  exact bo_cut hT hP (by omega) (fun post w => h1 post (hw post (bx_Nf hL hz.2 h8 hn2 (by decide) (fun Q q => ed_rej hM q) w))) hy
theorem st_tag (hT : rl_T L x_text x_typeKind x_typeDetail x_typeLeast x_typeMost x_fieldCount x_fieldName x_fieldType x_fieldNeeded x_tagType y_typeA y_typeB y_typeC y_fields y_tags) (F : br_F slot L k p 0 (d + 1) N g x_text x_typeKind x_fieldCount x_fieldName x_fieldType y_begin y_end x_nodeKind x_nodeValue x_nodeParent x_nodeName x_nodeSlot x_nodeStart x_nodeTag x_completeCount x_openNode x_openSlot x_openNames x_valueSlot x_valueName dp y_kind y_value y_parent y_name y_slotOf y_placeOf y_complete y_openNode y_openType y_openCount y_openNames y_openChoice y_nextName y_wantsName y_wantsTag) (es : x_openSlot d = -1) (hk : k < P) (hP : P ≤ 96) {b q : Nat} (hb : sp_S x_text p b) (hbL : b < L) (hpL : p ≤ L) (eb : y_begin k = nI b) (ee : y_end k = nI q) (ew : y_whole k = 1) (hB : sp_B (x_text b)) (hW : ns_W x_text L b (q + 1))
    (H : ∀ (a sc : Int32) (os vl tg ot vl1 : Nat → Int32), br_F slot L (k + 1) (q + 1) 5 (d + 1) N g x_text x_typeKind x_fieldCount x_fieldName x_fieldType y_begin y_end x_nodeKind vl x_nodeParent x_nodeName x_nodeSlot x_nodeStart tg x_completeCount x_openNode os x_openNames x_valueSlot x_valueName dp y_kind vl1 y_parent y_name y_slotOf y_placeOf y_complete y_openNode ot y_openCount y_openNames y_openChoice y_nextName y_wantsName 0 → bo_O slot (q + 1) (k + 1) (nI L, nI N, x_bound, 0, -1, md_x 5, a, nI b, x_textCount, x_escaped, x_valueSlot, x_valueName, nI (d + 1), x_outputLength, x_text, x_typeKind, x_typeDetail, x_typeLeast, x_typeMost, x_fieldCount, x_fieldName, x_fieldType, x_fieldNeeded, x_tagType, x_nodeKind, vl, x_nodeParent, x_nodeName, x_nodeSlot, x_nodeStart, tg, x_completeCount, x_openNode, os, x_openNames, x_openNext, x_openComma, x_output) (nI L, nI P, y_bad, nI N, 0, -1, 0, nI (d + 1), y_nextName, y_wantsName, 0, x_outputLength, y_waiting, sc, x_typeKind, y_typeA, y_typeB, y_typeC, x_fieldName, x_fieldType, y_fields, y_tags, x_fieldNeeded, x_text, y_begin, y_end, y_inside, y_whole, y_kind, vl1, y_parent, y_name, y_slotOf, y_placeOf, y_complete, y_openNode, ot, y_openCount, y_openNames, y_openChoice, x_output, y_todo)) : bo_O slot p k (nI L, nI N, x_bound, 0, -1, md_x 0, x_at, x_tokenStart, x_textCount, x_escaped, x_valueSlot, x_valueName, nI (d + 1), x_outputLength, x_text, x_typeKind, x_typeDetail, x_typeLeast, x_typeMost, x_fieldCount, x_fieldName, x_fieldType, x_fieldNeeded, x_tagType, x_nodeKind, x_nodeValue, x_nodeParent, x_nodeName, x_nodeSlot, x_nodeStart, x_nodeTag, x_completeCount, x_openNode, x_openSlot, x_openNames, x_openNext, x_openComma, x_output) (nI L, nI P, y_bad, nI N, 0, -1, 0, nI (d + 1), y_nextName, y_wantsName, y_wantsTag, x_outputLength, y_waiting, y_scaled, x_typeKind, y_typeA, y_typeB, y_typeC, x_fieldName, x_fieldType, y_fields, y_tags, x_fieldNeeded, x_text, y_begin, y_end, y_inside, y_whole, y_kind, y_value, y_parent, y_name, y_slotOf, y_placeOf, y_complete, y_openNode, y_openType, y_openCount, y_openNames, y_openChoice, x_output, y_todo) := by
  have hL := hT.1
  obtain ⟨n, s, hn, hs, eo, eo', edp, et, esl, g1, k1, so6, ech, wn, wt, ph⟩ := tg_F F es
  obtain ⟨⟨e1, e2, e3, e4, e5, e6⟩, hA, hd6, hlv, hc, hbg, hx⟩ := F
  have hN := hA.1
  have yk := (e1 n hn).trans k1
  have c0 := tt_lo hT.2.1 b
  have hq := ns_W_le hW
  have bg' := bg_s hbg (by omega) hb.1 (by omega : b < q + 1) (by omega) eb
  have TS := (hT.2.2 s hs).2.2.2.2.2.1 so6
  have h1 := tg_X (y_typeA := y_typeA) (y_typeB := y_typeB) (y_typeC := y_typeC) (y_fields := y_fields) (y_tags := y_tags) (x_bound := x_bound) (x_at := x_at) (x_tokenStart := x_tokenStart) (x_textCount := x_textCount) (x_escaped := x_escaped) (x_valueSlot := x_valueSlot) (x_valueName := x_valueName) (x_outputLength := x_outputLength) (x_text := x_text) (x_typeKind := x_typeKind) (x_typeDetail := x_typeDetail) (x_typeLeast := x_typeLeast) (x_typeMost := x_typeMost) (x_fieldCount := x_fieldCount) (x_fieldName := x_fieldName) (x_fieldType := x_fieldType) (x_fieldNeeded := x_fieldNeeded) (x_tagType := x_tagType) (x_nodeKind := x_nodeKind) (x_nodeValue := x_nodeValue) (x_nodeParent := x_nodeParent) (x_nodeName := x_nodeName) (x_nodeSlot := x_nodeSlot) (x_nodeStart := x_nodeStart) (x_nodeTag := x_nodeTag) (x_completeCount := x_completeCount) (x_openNode := x_openNode) (x_openSlot := x_openSlot) (x_openNames := x_openNames) (x_openNext := x_openNext) (x_openComma := x_openComma) (x_output := x_output) (N := N) hT es (by omega) hb hbL hB
  obtain ⟨M, a', hM, hn2, hw⟩ : ∃ M a', (M = 9 ∨ M = 10 ∨ M = 12 ∨ M = 15) ∧ (q + 1 < L → nn_S M (x_text (q + 1))) ∧ bx_R (b + 1) (nI L, nI N, x_bound, 0, -1, xn_m (x_text b), nI b, nI b, x_textCount, x_escaped, x_valueSlot, x_valueName, nI (d + 1), x_outputLength, x_text, x_typeKind, x_typeDetail, x_typeLeast, x_typeMost, x_fieldCount, x_fieldName, x_fieldType, x_fieldNeeded, x_tagType, x_nodeKind, x_nodeValue, x_nodeParent, x_nodeName, x_nodeSlot, x_nodeStart, x_nodeTag, x_completeCount, x_openNode, x_openSlot, x_openNames, x_openNext, x_openComma, x_output) (q + 1) (nI L, nI N, x_bound, 0, -1, M, a', nI b, x_textCount, x_escaped, x_valueSlot, x_valueName, nI (d + 1), x_outputLength, x_text, x_typeKind, x_typeDetail, x_typeLeast, x_typeMost, x_fieldCount, x_fieldName, x_fieldType, x_fieldNeeded, x_tagType, x_nodeKind, x_nodeValue, x_nodeParent, x_nodeName, x_nodeSlot, x_nodeStart, x_nodeTag, x_completeCount, x_openNode, x_openSlot, x_openNames, x_openNext, x_openComma, x_output) := xw_W hL hW (nI b)
  have h8 : ¬ M < 8 := by rcases hM with rfl | rfl | rfl | rfl <;> decide
  obtain ⟨xu, ok, sc, hR, hX, hY⟩ : ∃ (xu : Int64) (ok sc : Int32), nu_R xu ok sc ∧ (∀ postX : Int64 → Prop, postX xu → wpX_readUnits postX (nI L, nI N, x_bound, 0, -1, 2, nI (q + 1), nI b, x_textCount, x_escaped, x_valueSlot, x_valueName, nI (d + 1), x_outputLength, x_text, x_typeKind, x_typeDetail, x_typeLeast, x_typeMost, x_fieldCount, x_fieldName, x_fieldType, x_fieldNeeded, x_tagType, x_nodeKind, x_nodeValue, x_nodeParent, x_nodeName, x_nodeSlot, x_nodeStart, x_nodeTag, x_completeCount, x_openNode, x_openSlot, x_openNames, x_openNext, x_openComma, x_output) (nI 0)) ∧ un_Y x_text y_begin y_end k (nI 0) ok sc := nu_units hL hT.2.1 hW (by omega) eb ee (by omega)
  obtain ⟨rg1, rg2⟩ := nu_rg hR 0 5
  have hok := nu_ok hR
  have htg : ∀ i, i < 6 → x_tagType (6 * s + i) = -1 ∨ ∃ r, r < 12 ∧ x_tagType (6 * s + i) = nI r := fun i hi => (TS.2.2 i hi).2
  have htg' : ∀ i, i < 6 → y_tags (6 * s + i) = -1 ∨ ∃ r, r < 12 ∧ y_tags (6 * s + i) = nI r := fun i hi => by rw [(TS.2.2 i hi).1]; exact htg i hi
  have hsc : ((0 : Int32).toInt64 ≤ xu ∧ xu ≤ (5 : Int32).toInt64) → ∃ i, i < 6 ∧ xu.toInt32 = nI i := by
    intro w
    obtain ⟨a1, a2, a3⟩ := rg1.mp w
    rw [rg2 a1]
    obtain ⟨i, hi, e⟩ := nI_of2 (n := 5) (M := 5) (by decide) (Int32.not_lt.mpr a2) a3
    exact ⟨i, by omega, e⟩
  have at1 : nI (q + 1) - 1 = nI q := nI_pred q
  by_cases good : ∃ i r, i < 6 ∧ ok = 1 ∧ sc = nI i ∧ x_tagType (6 * s + i) = nI r ∧ r < 12 ∧ x_typeKind r = 5
  · obtain ⟨i, r, hi, ok1, esc, t1, hr, so5⟩ := good
    have hx1 : ∀ Q : SX → Prop, Q (nI L, nI N, x_bound, 0, -1, 2, nI (q + 1), nI b, x_textCount, x_escaped, x_valueSlot, x_valueName, nI (d + 1), x_outputLength, x_text, x_typeKind, x_typeDetail, x_typeLeast, x_typeMost, x_fieldCount, x_fieldName, x_fieldType, x_fieldNeeded, x_tagType, x_nodeKind, upd x_nodeValue n (nI r), x_nodeParent, x_nodeName, x_nodeSlot, x_nodeStart, upd x_nodeTag n (nI i), x_completeCount, x_openNode, upd x_openSlot d (nI r), x_openNames, x_openNext, x_openComma, x_output) → wpX_endNumber Q (nI L, nI N, x_bound, 0, -1, M, nI (q + 1), nI b, x_textCount, x_escaped, x_valueSlot, x_valueName, nI (d + 1), x_outputLength, x_text, x_typeKind, x_typeDetail, x_typeLeast, x_typeMost, x_fieldCount, x_fieldName, x_fieldType, x_fieldNeeded, x_tagType, x_nodeKind, x_nodeValue, x_nodeParent, x_nodeName, x_nodeSlot, x_nodeStart, x_nodeTag, x_completeCount, x_openNode, x_openSlot, x_openNames, x_openNext, x_openComma, x_output) := by
      intro Q w
      refine ed_tag hM (by omega) es eo (by omega) esl hs hX (fun i' r' hi' ei' _ t1' hr' _ => ?_) htg hsc (fun z => ?_)
      · have e1 : i' = i := hh_i (by omega) (by omega) (ei'.symm.trans ((rg2 ok1).trans esc))
        subst e1
        have e2 : r' = r := hh_i (by omega) (by omega) (t1'.symm.trans t1)
        subst e2
        exact w
      · exfalso
        rcases z with z | ⟨i', hi', ei', z⟩
        · refine z (rg1.mpr ⟨ok1, ?_, ?_⟩)
          · rw [esc]; exact nI_pos' (by omega)
          · rw [esc]; exact nI_le (b := 5) (by omega) (by decide)
        · have e1 : i' = i := hh_i (by omega) (by omega) (ei'.symm.trans ((rg2 ok1).trans esc))
          subst e1
          rcases z with z | ⟨r', hr', z1, z2⟩
          · rw [t1] at z; exact hh_m1 (by omega) z
          · have e2 : r' = r := hh_i (by omega) (by omega) (z1.symm.trans t1)
            subst e2; exact z2 so5
    have hy1 : by_R slot k (nI L, nI P, y_bad, nI N, 0, -1, 0, nI (d + 1), y_nextName, y_wantsName, y_wantsTag, x_outputLength, y_waiting, y_scaled, x_typeKind, y_typeA, y_typeB, y_typeC, x_fieldName, x_fieldType, y_fields, y_tags, x_fieldNeeded, x_text, y_begin, y_end, y_inside, y_whole, y_kind, y_value, y_parent, y_name, y_slotOf, y_placeOf, y_complete, y_openNode, y_openType, y_openCount, y_openNames, y_openChoice, x_output, y_todo) (k + 1) (nI L, nI P, y_bad, nI N, 0, -1, 0, nI (d + 1), y_nextName, y_wantsName, 0, x_outputLength, y_waiting, sc, x_typeKind, y_typeA, y_typeB, y_typeC, x_fieldName, x_fieldType, y_fields, y_tags, x_fieldNeeded, x_text, y_begin, y_end, y_inside, y_whole, y_kind, upd y_value n (nI r), y_parent, y_name, y_slotOf, y_placeOf, y_complete, y_openNode, upd y_openType d (nI r), y_openCount, y_openNames, y_openChoice, x_output, y_todo) := by
      refine tg_Y (s := s) hk hP (by omega) eb (by omega) (by omega) eo' yk wn wt (sb_v hB) (fun Q w => yt_in (by omega) (by omega) (by omega) eb ech c0 (fun _ => yt_num (by omega) (by omega) ew ee hs eo' (by omega) hY hok htg' (fun i' r' hi' _ ei' t1' hr' _ => ?_) (fun z => ?_)) (fun z => absurd hB z))
      · have e1 : i' = i := hh_i (by omega) (by omega) (ei'.symm.trans esc)
        subst e1
        rw [(TS.2.2 i' hi').1] at t1'
        have e2 : r' = r := hh_i (by omega) (by omega) (t1'.symm.trans t1)
        subst e2
        exact w
      · exfalso
        rcases z with z | ⟨i', hi', ei', z⟩
        · refine z ⟨ok1, ?_, ?_⟩
          · rw [esc]; exact nI_pos' (by omega)
          · rw [esc]; exact nI_le (b := 5) (by omega) (by decide)
        · have e1 : i' = i := hh_i (by omega) (by omega) (ei'.symm.trans esc)
          subst e1
          rw [(TS.2.2 i' hi').1] at z
          rcases z with z | ⟨r', hr', z1, z2⟩
          · rw [t1] at z; exact hh_m1 (by omega) z
          · have e2 : r' = r := hh_i (by omega) (by omega) (z1.symm.trans t1)
            subst e2; exact z2 so5
    refine bo_step (bx_T h1 (bx_T hw (bx_N hL hq.2 h8 hn2 hx1))) hy1 (H _ _ _ _ _ _ _ ?_)
    obtain ⟨n', K, b', p1, p2, p3, p4, p5⟩ := ph
    have en' : n' = n := hh_i (by omega) (by omega) (p1.symm.trans eo)
    subst en'
    refine ⟨⟨e1, pe_u e2, e3, e4, e5, e6⟩, ?_, hd6, fun l hl => ?_, cm_s hc, bg', ?_⟩
    · exact nd_tag hA (ok := ok) hn (fun i' hi' w => hh_i (by omega) (by omega) (w.2.1.symm.trans eo)) k1 esl hs so6 p5 hi hr so5 (by omega) p4 (fun j hj => by rw [← p4]; exact hbg.2 j K hj (by omega)) (by rw [p3, ← esc]; exact hY)
    · by_cases z : l = d
      · subst z
        refine ⟨n', s, hn, hs, eo, eo', edp, by rw [pk_us, pk_us], esl, ?_⟩
        obtain ⟨n2, s2, hn2', hs2, eo2, eo2', edp2, et2, esl2, K2⟩ := hlv l (by omega)
        have : n2 = n' := hh_i (by omega) (by omega) (eo2.symm.trans eo)
        subst this
        rcases K2 with ⟨g2, -⟩ | ⟨-, k2, om2, mm, -⟩
        · rw [g1] at g2; exact absurd g2 (by decide)
        · exact Or.inr ⟨g1, k1, om2, mm, Or.inr (Or.inr ⟨so6, ech, r, i, hr, so5, pk_us, hi, pk_us⟩)⟩
      · obtain ⟨n2, s2, hn2', hs2, eo2, eo2', edp2, et2, esl2, K2⟩ := hlv l hl
        have nn : n2 ≠ n' := by rintro rfl; omega
        refine ⟨n2, s2, hn2', hs2, eo2, eo2', edp2, by rw [pk_un z, pk_un z]; exact et2, esl2, ?_⟩
        rw [pk_un z, pk_un nn, pk_un nn]
        exact K2
    · refine Or.inr (Or.inr (Or.inr (Or.inr (Or.inr (Or.inr (Or.inr (Or.inr (Or.inr ⟨rfl, by omega, fun _ => ⟨rfl, ?_⟩⟩))))))))
      show ¬ upd x_openSlot d (nI r) d = -1
      rw [pk_us]; exact hh_m1 (by omega)
  · have hx1 : ∀ Q : SX → Prop, Q (nI L, nI N, x_bound, 6, nI q, 2, nI (q + 1), nI b, x_textCount, x_escaped, x_valueSlot, x_valueName, nI (d + 1), x_outputLength, x_text, x_typeKind, x_typeDetail, x_typeLeast, x_typeMost, x_fieldCount, x_fieldName, x_fieldType, x_fieldNeeded, x_tagType, x_nodeKind, x_nodeValue, x_nodeParent, x_nodeName, x_nodeSlot, x_nodeStart, x_nodeTag, x_completeCount, x_openNode, x_openSlot, x_openNames, x_openNext, x_openComma, x_output) → wpX_endNumber Q (nI L, nI N, x_bound, 0, -1, M, nI (q + 1), nI b, x_textCount, x_escaped, x_valueSlot, x_valueName, nI (d + 1), x_outputLength, x_text, x_typeKind, x_typeDetail, x_typeLeast, x_typeMost, x_fieldCount, x_fieldName, x_fieldType, x_fieldNeeded, x_tagType, x_nodeKind, x_nodeValue, x_nodeParent, x_nodeName, x_nodeSlot, x_nodeStart, x_nodeTag, x_completeCount, x_openNode, x_openSlot, x_openNames, x_openNext, x_openComma, x_output) := by
      intro Q w
      refine ed_tag hM (by omega) es eo (by omega) esl hs hX (fun i' r' hi' ei' rg t1' hr' so5' => ?_) htg hsc (fun z => ?_)
      · exfalso
        obtain ⟨a1, -, -⟩ := rg1.mp rg
        exact good ⟨i', r', hi', a1, (rg2 a1).symm.trans ei', t1', hr', so5'⟩
      · rw [at1]; exact w
    have hy1 : by_R slot k (nI L, nI P, y_bad, nI N, 0, -1, 0, nI (d + 1), y_nextName, y_wantsName, y_wantsTag, x_outputLength, y_waiting, y_scaled, x_typeKind, y_typeA, y_typeB, y_typeC, x_fieldName, x_fieldType, y_fields, y_tags, x_fieldNeeded, x_text, y_begin, y_end, y_inside, y_whole, y_kind, y_value, y_parent, y_name, y_slotOf, y_placeOf, y_complete, y_openNode, y_openType, y_openCount, y_openNames, y_openChoice, x_output, y_todo) (k + 1) (nI L, nI P, y_bad, nI N, 6, nI q, 0, nI (d + 1), y_nextName, y_wantsName, 0, x_outputLength, y_waiting, sc, x_typeKind, y_typeA, y_typeB, y_typeC, x_fieldName, x_fieldType, y_fields, y_tags, x_fieldNeeded, x_text, y_begin, y_end, y_inside, y_whole, y_kind, y_value, y_parent, y_name, y_slotOf, y_placeOf, y_complete, y_openNode, y_openType, y_openCount, y_openNames, y_openChoice, x_output, y_todo) := by
      refine tg_Y (s := s) hk hP (by omega) eb (by omega) (by omega) eo' yk wn wt (sb_v hB) (fun Q w => yt_in (by omega) (by omega) (by omega) eb ech c0 (fun _ => yt_num (by omega) (by omega) ew ee hs eo' (by omega) hY hok htg' (fun i' r' hi' a1 ei' t1' hr' so5' => ?_) (fun _ => w)) (fun z => absurd hB z))
      exfalso
      rw [(TS.2.2 i' hi').1] at t1'
      exact good ⟨i', r', hi', a1, ei', t1', hr', so5'⟩
    exact ⟨6, _, _, fun post w => h1 post (hw post (bx_Nf hL hq.2 h8 hn2 (by decide) hx1 w)), fun post w => hy1 post (by_F (by decide) w), rl_mk hT (Or.inl rfl)⟩
end
