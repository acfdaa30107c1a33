/-! the component inside strings and numbers -/
theorem up_up (f : Nat → Int32) (k : Nat) (a b : Int32) : upd (upd f k a) k b = upd f k b := by
  funext j; unfold upd
  by_cases z : j = k
  · rw [if_pos z, if_pos z]
  · rw [if_neg z, if_neg z, if_neg z]
section
variable {x_length x_nodeCount x_bound x_fault x_faultPlace x_mode x_at x_tokenStart x_textCount x_escaped x_valueSlot x_valueName x_depth x_outputLength : Int32} {x_text x_typeKind x_typeDetail x_typeLeast x_typeMost x_fieldCount x_fieldName x_fieldType x_fieldNeeded x_tagType x_nodeKind x_nodeValue x_nodeParent x_nodeName x_nodeSlot x_nodeStart x_nodeTag x_completeCount x_openNode x_openSlot x_openNames x_openNext x_openComma x_output : Nat → Int32} {P : SX → Prop} {c : Int32}
theorem sc_n (h30 : ¬ c = 30) (h16 : ¬ c = 16) (h : P (x_length, x_nodeCount, x_bound, x_fault, x_faultPlace, 6, x_at, x_tokenStart, x_textCount, 0, x_valueSlot, x_valueName, x_depth, x_outputLength, x_text, x_typeKind, x_typeDetail, x_typeLeast, x_typeMost, x_fieldCount, x_fieldName, x_fieldType, x_fieldNeeded, x_tagType, x_nodeKind, x_nodeValue, x_nodeParent, x_nodeName, x_nodeSlot, x_nodeStart, x_nodeTag, x_completeCount, x_openNode, x_openSlot, x_openNames, x_openNext, x_openComma, x_output)) : wpX_readStringCharacter P (x_length, x_nodeCount, x_bound, x_fault, x_faultPlace, 6, x_at, x_tokenStart, x_textCount, 0, x_valueSlot, x_valueName, x_depth, x_outputLength, x_text, x_typeKind, x_typeDetail, x_typeLeast, x_typeMost, x_fieldCount, x_fieldName, x_fieldType, x_fieldNeeded, x_tagType, x_nodeKind, x_nodeValue, x_nodeParent, x_nodeName, x_nodeSlot, x_nodeStart, x_nodeTag, x_completeCount, x_openNode, x_openSlot, x_openNames, x_openNext, x_openComma, x_output) c :=
  br_t rfl (br_f h30 (br_t rfl (br_f h16 (br_t rfl (br_f h16 (br_t rfl (br_f (by decide) h)))))))
theorem sc_e (h : P (x_length, x_nodeCount, x_bound, x_fault, x_faultPlace, x_mode, x_at, x_tokenStart, x_textCount, 1, x_valueSlot, x_valueName, x_depth, x_outputLength, x_text, x_typeKind, x_typeDetail, x_typeLeast, x_typeMost, x_fieldCount, x_fieldName, x_fieldType, x_fieldNeeded, x_tagType, x_nodeKind, x_nodeValue, x_nodeParent, x_nodeName, x_nodeSlot, x_nodeStart, x_nodeTag, x_completeCount, x_openNode, x_openSlot, x_openNames, x_openNext, x_openComma, x_output)) : wpX_readStringCharacter P (x_length, x_nodeCount, x_bound, x_fault, x_faultPlace, x_mode, x_at, x_tokenStart, x_textCount, 0, x_valueSlot, x_valueName, x_depth, x_outputLength, x_text, x_typeKind, x_typeDetail, x_typeLeast, x_typeMost, x_fieldCount, x_fieldName, x_fieldType, x_fieldNeeded, x_tagType, x_nodeKind, x_nodeValue, x_nodeParent, x_nodeName, x_nodeSlot, x_nodeStart, x_nodeTag, x_completeCount, x_openNode, x_openSlot, x_openNames, x_openNext, x_openComma, x_output) 30 :=
  br_t rfl (br_t rfl h)
theorem sc_x6 (hc : c = 16 ∨ c = 30) (h : P (x_length, x_nodeCount, x_bound, x_fault, x_faultPlace, 6, x_at, x_tokenStart, x_textCount, 0, x_valueSlot, x_valueName, x_depth, x_outputLength, x_text, x_typeKind, x_typeDetail, x_typeLeast, x_typeMost, x_fieldCount, x_fieldName, x_fieldType, x_fieldNeeded, x_tagType, x_nodeKind, x_nodeValue, x_nodeParent, x_nodeName, x_nodeSlot, x_nodeStart, x_nodeTag, x_completeCount, x_openNode, x_openSlot, x_openNames, x_openNext, x_openComma, x_output)) : wpX_readStringCharacter P (x_length, x_nodeCount, x_bound, x_fault, x_faultPlace, 6, x_at, x_tokenStart, x_textCount, 1, x_valueSlot, x_valueName, x_depth, x_outputLength, x_text, x_typeKind, x_typeDetail, x_typeLeast, x_typeMost, x_fieldCount, x_fieldName, x_fieldType, x_fieldNeeded, x_tagType, x_nodeKind, x_nodeValue, x_nodeParent, x_nodeName, x_nodeSlot, x_nodeStart, x_nodeTag, x_completeCount, x_openNode, x_openSlot, x_openNames, x_openNext, x_openComma, x_output) c := by
  have e : ¬ (1 : Int32) = 0 := by decide
  refine br_f e (br_f e (br_f e (br_f e ?_)))
  by_cases z : c = 16
  · exact br_t z (br_f (by decide) h)
  · exact br_f z (br_t (hc.resolve_left z) (br_f (by decide) h))
theorem sc_t (h30 : ¬ c = 30) (h16 : ¬ c = 16) (h : wpX_addTextCharacter P (x_length, x_nodeCount, x_bound, x_fault, x_faultPlace, 7, x_at, x_tokenStart, x_textCount, 0, x_valueSlot, x_valueName, x_depth, x_outputLength, x_text, x_typeKind, x_typeDetail, x_typeLeast, x_typeMost, x_fieldCount, x_fieldName, x_fieldType, x_fieldNeeded, x_tagType, x_nodeKind, x_nodeValue, x_nodeParent, x_nodeName, x_nodeSlot, x_nodeStart, x_nodeTag, x_completeCount, x_openNode, x_openSlot, x_openNames, x_openNext, x_openComma, x_output) c) : wpX_readStringCharacter P (x_length, x_nodeCount, x_bound, x_fault, x_faultPlace, 7, x_at, x_tokenStart, x_textCount, 0, x_valueSlot, x_valueName, x_depth, x_outputLength, x_text, x_typeKind, x_typeDetail, x_typeLeast, x_typeMost, x_fieldCount, x_fieldName, x_fieldType, x_fieldNeeded, x_tagType, x_nodeKind, x_nodeValue, x_nodeParent, x_nodeName, x_nodeSlot, x_nodeStart, x_nodeTag, x_completeCount, x_openNode, x_openSlot, x_openNames, x_openNext, x_openComma, x_output) c :=
  br_t rfl (br_f h30 (br_t rfl (br_f h16 (br_t rfl (br_f h16 (br_t rfl (br_t rfl h)))))))
theorem sc_x7 (hc : c = 16 ∨ c = 30) (h : wpX_addTextCharacter P (x_length, x_nodeCount, x_bound, x_fault, x_faultPlace, 7, x_at, x_tokenStart, x_textCount, 0, x_valueSlot, x_valueName, x_depth, x_outputLength, x_text, x_typeKind, x_typeDetail, x_typeLeast, x_typeMost, x_fieldCount, x_fieldName, x_fieldType, x_fieldNeeded, x_tagType, x_nodeKind, x_nodeValue, x_nodeParent, x_nodeName, x_nodeSlot, x_nodeStart, x_nodeTag, x_completeCount, x_openNode, x_openSlot, x_openNames, x_openNext, x_openComma, x_output) c) : wpX_readStringCharacter P (x_length, x_nodeCount, x_bound, x_fault, x_faultPlace, 7, x_at, x_tokenStart, x_textCount, 1, x_valueSlot, x_valueName, x_depth, x_outputLength, x_text, x_typeKind, x_typeDetail, x_typeLeast, x_typeMost, x_fieldCount, x_fieldName, x_fieldType, x_fieldNeeded, x_tagType, x_nodeKind, x_nodeValue, x_nodeParent, x_nodeName, x_nodeSlot, x_nodeStart, x_nodeTag, x_completeCount, x_openNode, x_openSlot, x_openNames, x_openNext, x_openComma, x_output) c := by
  have e : ¬ (1 : Int32) = 0 := by decide
  refine br_f e (br_f e (br_f e (br_f e ?_)))
  by_cases z : c = 16
  · exact br_t z (br_t rfl h)
  · exact br_f z (br_t (hc.resolve_left z) (br_t rfl h))
theorem sc_bad (h30 : ¬ c = 30) (h16 : ¬ c = 16) (h : P (x_length, x_nodeCount, x_bound, 1, x_at, x_mode, x_at, x_tokenStart, x_textCount, 1, x_valueSlot, x_valueName, x_depth, x_outputLength, x_text, x_typeKind, x_typeDetail, x_typeLeast, x_typeMost, x_fieldCount, x_fieldName, x_fieldType, x_fieldNeeded, x_tagType, x_nodeKind, x_nodeValue, x_nodeParent, x_nodeName, x_nodeSlot, x_nodeStart, x_nodeTag, x_completeCount, x_openNode, x_openSlot, x_openNames, x_openNext, x_openComma, x_output)) : wpX_readStringCharacter P (x_length, x_nodeCount, x_bound, x_fault, x_faultPlace, x_mode, x_at, x_tokenStart, x_textCount, 1, x_valueSlot, x_valueName, x_depth, x_outputLength, x_text, x_typeKind, x_typeDetail, x_typeLeast, x_typeMost, x_fieldCount, x_fieldName, x_fieldType, x_fieldNeeded, x_tagType, x_nodeKind, x_nodeValue, x_nodeParent, x_nodeName, x_nodeSlot, x_nodeStart, x_nodeTag, x_completeCount, x_openNode, x_openSlot, x_openNames, x_openNext, x_openComma, x_output) c := by
  have e : ¬ (1 : Int32) = 0 := by decide
  exact br_f e (br_f e (br_f e (br_f e (br_f h16 (br_f h30 h)))))
theorem sc_q7 (h : P (x_length, x_nodeCount, x_bound, x_fault, x_faultPlace, 2, x_at, x_tokenStart, x_textCount, 0, x_valueSlot, x_valueName, x_depth, x_outputLength, x_text, x_typeKind, x_typeDetail, x_typeLeast, x_typeMost, x_fieldCount, x_fieldName, x_fieldType, x_fieldNeeded, x_tagType, x_nodeKind, x_nodeValue, x_nodeParent, x_nodeName, x_nodeSlot, x_nodeStart, x_nodeTag, x_completeCount, x_openNode, x_openSlot, x_openNames, x_openNext, x_openComma, x_output)) : wpX_readStringCharacter P (x_length, x_nodeCount, x_bound, x_fault, x_faultPlace, 7, x_at, x_tokenStart, x_textCount, 0, x_valueSlot, x_valueName, x_depth, x_outputLength, x_text, x_typeKind, x_typeDetail, x_typeLeast, x_typeMost, x_fieldCount, x_fieldName, x_fieldType, x_fieldNeeded, x_tagType, x_nodeKind, x_nodeValue, x_nodeParent, x_nodeName, x_nodeSlot, x_nodeStart, x_nodeTag, x_completeCount, x_openNode, x_openSlot, x_openNames, x_openNext, x_openComma, x_output) 16 :=
  br_t rfl (br_f (by decide) (br_t rfl (br_t rfl (br_t rfl h))))
theorem sc_q6 (h : wpX_endName P (x_length, x_nodeCount, x_bound, x_fault, x_faultPlace, 6, x_at, x_tokenStart, x_textCount, 0, x_valueSlot, x_valueName, x_depth, x_outputLength, x_text, x_typeKind, x_typeDetail, x_typeLeast, x_typeMost, x_fieldCount, x_fieldName, x_fieldType, x_fieldNeeded, x_tagType, x_nodeKind, x_nodeValue, x_nodeParent, x_nodeName, x_nodeSlot, x_nodeStart, x_nodeTag, x_completeCount, x_openNode, x_openSlot, x_openNames, x_openNext, x_openComma, x_output)) : wpX_readStringCharacter P (x_length, x_nodeCount, x_bound, x_fault, x_faultPlace, 6, x_at, x_tokenStart, x_textCount, 0, x_valueSlot, x_valueName, x_depth, x_outputLength, x_text, x_typeKind, x_typeDetail, x_typeLeast, x_typeMost, x_fieldCount, x_fieldName, x_fieldType, x_fieldNeeded, x_tagType, x_nodeKind, x_nodeValue, x_nodeParent, x_nodeName, x_nodeSlot, x_nodeStart, x_nodeTag, x_completeCount, x_openNode, x_openSlot, x_openNames, x_openNext, x_openComma, x_output) 16 :=
  br_t rfl (br_f (by decide) (br_t rfl (br_t rfl (br_f (by decide) (br_t rfl (br_t rfl h))))))
theorem at_ok {N s D j : Nat} {h : Int32} (hN : N < 40) (hs : s < 12) (hD : D ≤ 40) (eS : x_nodeSlot N = nI s) (eD : x_typeDetail s = nI D) (hj : j < D) (hp : P (x_length, nI (N + 1), x_bound, x_fault, x_faultPlace, x_mode, x_at, x_tokenStart, nI (j + 1), x_escaped, x_valueSlot, x_valueName, x_depth, x_outputLength, x_text, x_typeKind, x_typeDetail, x_typeLeast, x_typeMost, x_fieldCount, x_fieldName, x_fieldType, x_fieldNeeded, x_tagType, x_nodeKind, upd x_nodeValue N (32 * h + c), x_nodeParent, x_nodeName, x_nodeSlot, x_nodeStart, x_nodeTag, x_completeCount, x_openNode, x_openSlot, x_openNames, x_openNext, x_openComma, x_output)) : wpX_addTextCharacter P (x_length, nI (N + 1), x_bound, x_fault, x_faultPlace, x_mode, x_at, x_tokenStart, nI j, x_escaped, x_valueSlot, x_valueName, x_depth, x_outputLength, x_text, x_typeKind, x_typeDetail, x_typeLeast, x_typeMost, x_fieldCount, x_fieldName, x_fieldType, x_fieldNeeded, x_tagType, x_nodeKind, upd x_nodeValue N h, x_nodeParent, x_nodeName, x_nodeSlot, x_nodeStart, x_nodeTag, x_completeCount, x_openNode, x_openSlot, x_openNames, x_openNext, x_openComma, x_output) c := by
  have eN : (nI N).toNatClampNeg = N := nI_clamp (by omega)
  have es : (nI s).toNatClampNeg = s := nI_clamp (by omega)
  have iN : vp_in (nI N) 40 := vp_in_nI hN (by decide)
  refine nm_r (nI_pred N) ⟨iN, ?_⟩
  rw [eN, eS, es, eD]
  refine ⟨vp_in_nI hs (by decide), br_t (nI_lt hj (by omega)) (nm_r (nI_1 j) ⟨iN, iN, nm_e ?_⟩)⟩
  rw [up_up, pk_us]
  exact hp
theorem at_no {N s D j : Nat} {h : Int32} (hN : N < 40) (hs : s < 12) (hD : D ≤ 40) (eS : x_nodeSlot N = nI s) (eD : x_typeDetail s = nI D) (hj : D ≤ j) (hj2 : j < 1000) (hp : P (x_length, nI (N + 1), x_bound, 6, x_at, x_mode, x_at, x_tokenStart, nI j, x_escaped, x_valueSlot, x_valueName, x_depth, x_outputLength, x_text, x_typeKind, x_typeDetail, x_typeLeast, x_typeMost, x_fieldCount, x_fieldName, x_fieldType, x_fieldNeeded, x_tagType, x_nodeKind, upd x_nodeValue N h, x_nodeParent, x_nodeName, x_nodeSlot, x_nodeStart, x_nodeTag, x_completeCount, x_openNode, x_openSlot, x_openNames, x_openNext, x_openComma, x_output)) : wpX_addTextCharacter P (x_length, nI (N + 1), x_bound, x_fault, x_faultPlace, x_mode, x_at, x_tokenStart, nI j, x_escaped, x_valueSlot, x_valueName, x_depth, x_outputLength, x_text, x_typeKind, x_typeDetail, x_typeLeast, x_typeMost, x_fieldCount, x_fieldName, x_fieldType, x_fieldNeeded, x_tagType, x_nodeKind, upd x_nodeValue N h, x_nodeParent, x_nodeName, x_nodeSlot, x_nodeStart, x_nodeTag, x_completeCount, x_openNode, x_openSlot, x_openNames, x_openNext, x_openComma, x_output) c := by
  have eN : (nI N).toNatClampNeg = N := nI_clamp (by omega)
  have es : (nI s).toNatClampNeg = s := nI_clamp (by omega)
  have iN : vp_in (nI N) 40 := vp_in_nI hN (by decide)
  refine nm_r (nI_pred N) ⟨iN, ?_⟩
  rw [eN, eS, es, eD]
  exact ⟨vp_in_nI hs (by decide), br_f (nI_nlt hj (by omega)) hp⟩
end
section
variable {x_length x_nodeCount x_bound x_fault x_faultPlace x_mode x_at x_tokenStart x_textCount x_escaped x_valueSlot x_valueName x_depth x_outputLength : Int32} {x_text x_typeKind x_typeDetail x_typeLeast x_typeMost x_fieldCount x_fieldName x_fieldType x_fieldNeeded x_tagType x_nodeKind x_nodeValue x_nodeParent x_nodeName x_nodeSlot x_nodeStart x_nodeTag x_completeCount x_openNode x_openSlot x_openNames x_openNext x_openComma x_output : Nat → Int32} {L : Nat}
/-- the units of a name go by -/
theorem bx_nu (hL : L ≤ 96) : ∀ (m i q : Nat) (a : Int32), ss_R x_text L m i q → ∃ a', bx_R i (nI L, x_nodeCount, x_bound, 0, x_faultPlace, 6, a, x_tokenStart, x_textCount, 0, x_valueSlot, x_valueName, x_depth, x_outputLength, x_text, x_typeKind, x_typeDetail, x_typeLeast, x_typeMost, x_fieldCount, x_fieldName, x_fieldType, x_fieldNeeded, x_tagType, x_nodeKind, x_nodeValue, x_nodeParent, x_nodeName, x_nodeSlot, x_nodeStart, x_nodeTag, x_completeCount, x_openNode, x_openSlot, x_openNames, x_openNext, x_openComma, x_output) q (nI L, x_nodeCount, x_bound, 0, x_faultPlace, 6, a', x_tokenStart, x_textCount, 0, x_valueSlot, x_valueName, x_depth, x_outputLength, x_text, x_typeKind, x_typeDetail, x_typeLeast, x_typeMost, x_fieldCount, x_fieldName, x_fieldType, x_fieldNeeded, x_tagType, x_nodeKind, x_nodeValue, x_nodeParent, x_nodeName, x_nodeSlot, x_nodeStart, x_nodeTag, x_completeCount, x_openNode, x_openSlot, x_openNames, x_openNext, x_openComma, x_output) := by
  intro m
  induction m with
  | zero =>
    intro i q a h
    cases h
    exact ⟨a, bx_0 _ _⟩
  | succ m ih =>
    intro i q a ⟨j, hG, hR⟩
    rcases hG with ⟨h1, h2, h3, rfl⟩ | ⟨h1, h2, h3, rfl⟩
    · obtain ⟨a', h'⟩ := ih (i + 1) q (nI i) hR
      exact ⟨a', bx_T (bx_1 h1 hL _ (fun P hP => rc_str (Or.inl rfl) (sc_n h3 h2 hP))) h'⟩
    · obtain ⟨a', h'⟩ := ih (i + 2) q (nI (i + 1)) hR
      refine ⟨a', bx_T (bx_1 (by omega) hL (nI L, x_nodeCount, x_bound, 0, x_faultPlace, 6, nI i, x_tokenStart, x_textCount, 1, x_valueSlot, x_valueName, x_depth, x_outputLength, x_text, x_typeKind, x_typeDetail, x_typeLeast, x_typeMost, x_fieldCount, x_fieldName, x_fieldType, x_fieldNeeded, x_tagType, x_nodeKind, x_nodeValue, x_nodeParent, x_nodeName, x_nodeSlot, x_nodeStart, x_nodeTag, x_completeCount, x_openNode, x_openSlot, x_openNames, x_openNext, x_openComma, x_output) (fun P hP => ?_)) (bx_T (bx_1 h1 hL _ (fun P hP => rc_str (Or.inl rfl) (sc_x6 h3 hP))) h')⟩
      rw [h2]; exact rc_str (Or.inl rfl) (sc_e hP)
/-! numbers -/
theorem nn_d {post : Int32 → Prop} {M c : Int32} (hM : M = 10 ∨ M = 12 ∨ M = 15) (hc : ¬ 9 < c) (h : post M) : wpX_nextNumberMode post M c := by
  rcases hM with rfl | rfl | rfl
  · exact br_f hc (br_f (by decide) (br_f (by decide) (br_f (by decide) (br_f (by decide) (br_t rfl (br_f (by decide) (br_t rfl h)))))))
  · exact br_f hc (br_f (by decide) (br_f (by decide) (br_f (by decide) (br_f (by decide) (br_f (by decide) (br_f (by decide) (br_t rfl (br_f (by decide) h))))))))
  · exact br_f hc (br_f (by decide) (br_t (by decide) (br_f (by decide) h)))
theorem nn_8 {post : Int32 → Prop} {c : Int32} (hc : ¬ 9 < c) (h0 : c = 0 → post 9) (h1 : ¬ c = 0 → post 10) : wpX_nextNumberMode post 8 c :=
  br_f hc (br_f (by decide) (br_f (by decide) (br_t rfl (br_f (by decide) ⟨h0, h1⟩))))
theorem nn_p {post : Int32 → Prop} {M : Int32} (hM : M = 9 ∨ M = 10) (h : post 11) : wpX_nextNumberMode post M 18 := by
  rcases hM with rfl | rfl
  · exact br_t (by decide) (br_f (by decide) (br_f (by decide) (br_f (by decide) (br_t rfl (br_t rfl (br_t rfl h))))))
  · exact br_t (by decide) (br_f (by decide) (br_f (by decide) (br_f (by decide) (br_f (by decide) (br_t rfl (br_t rfl (br_t rfl h)))))))
theorem nn_e {post : Int32 → Prop} {M : Int32} (hM : M = 9 ∨ M = 10 ∨ M = 12) (h : post 13) : wpX_nextNumberMode post M 19 := by
  rcases hM with rfl | rfl | rfl
  · exact br_t (by decide) (br_f (by decide) (br_f (by decide) (br_f (by decide) (br_t rfl (br_t rfl (br_f (by decide) (br_t rfl h)))))))
  · exact br_t (by decide) (br_f (by decide) (br_f (by decide) (br_f (by decide) (br_f (by decide) (br_t rfl (br_t rfl (br_f (by decide) (br_t rfl h))))))))
  · exact br_t (by decide) (br_f (by decide) (br_f (by decide) (br_f (by decide) (br_f (by decide) (br_f (by decide) (br_f (by decide) (br_t rfl (br_t rfl (br_t rfl h)))))))))
theorem nn_11 {post : Int32 → Prop} {c : Int32} (hc : ¬ 9 < c) (h : post 12) : wpX_nextNumberMode post 11 c :=
  br_f hc (br_f (by decide) (br_f (by decide) (br_f (by decide) (br_f (by decide) (br_f (by decide) (br_t rfl (br_f (by decide) h)))))))
theorem nn_13s {post : Int32 → Prop} {c : Int32} (hc : c = 17 ∨ c = 31) (h : post 14) : wpX_nextNumberMode post 13 c := by
  rcases hc with rfl | rfl
  · exact br_t (by decide) (br_f (by decide) (br_f (by decide) (br_f (by decide) (br_f (by decide) (br_f (by decide) (br_f (by decide) (br_f (by decide) (br_t rfl (br_t rfl h)))))))))
  · exact br_t (by decide) (br_f (by decide) (br_f (by decide) (br_f (by decide) (br_f (by decide) (br_f (by decide) (br_f (by decide) (br_f (by decide) (br_t rfl (br_f (by decide) (br_t rfl h))))))))))
theorem nn_13d {post : Int32 → Prop} {c : Int32} (hc : ¬ 9 < c) (h : post 15) : wpX_nextNumberMode post 13 c := by
  have a : ¬ c = 17 := by rintro rfl; exact hc (by decide)
  have b : ¬ c = 31 := by rintro rfl; exact hc (by decide)
  exact br_f hc (br_f (by decide) (br_f (by decide) (br_f (by decide) (br_f (by decide) (br_f (by decide) (br_f (by decide) (br_f (by decide) (br_t rfl (br_f a (br_f b (br_f (by decide) h)))))))))))
theorem nn_14 {post : Int32 → Prop} {c : Int32} (hc : ¬ 9 < c) (h : post 15) : wpX_nextNumberMode post 14 c :=
  br_f hc (br_f (by decide) (br_t (by decide) (br_f (by decide) h)))
/-- no way on from mode M with c -/
def nn_S (M c : Int32) : Prop :=
  (M = 8 ∧ 9 < c) ∨ (M = 9 ∧ ¬ c = 18 ∧ ¬ c = 19) ∨ (M = 10 ∧ 9 < c ∧ ¬ c = 18 ∧ ¬ c = 19) ∨ (M = 11 ∧ 9 < c) ∨ (M = 12 ∧ 9 < c ∧ ¬ c = 19) ∨ (M = 13 ∧ 9 < c ∧ ¬ c = 17 ∧ ¬ c = 31) ∨ (M = 14 ∧ 9 < c) ∨ (M = 15 ∧ 9 < c)
theorem nn_no {post : Int32 → Prop} {M c : Int32} (hs : nn_S M c) (h : post (-1)) : wpX_nextNumberMode post M c := by
  rcases hs with ⟨rfl, a⟩ | ⟨rfl, a, b⟩ | ⟨rfl, a, b, d⟩ | ⟨rfl, a⟩ | ⟨rfl, a, b⟩ | ⟨rfl, a, b, d⟩ | ⟨rfl, a⟩ | ⟨rfl, a⟩
  · exact br_t a (br_f (by decide) (br_f (by decide) (br_t rfl (br_t rfl h))))
  · by_cases z : 9 < c
    · exact br_t z (br_f (by decide) (br_f (by decide) (br_f (by decide) (br_t rfl (br_t rfl (br_f a (br_f b h)))))))
    · exact br_f z (br_f (by decide) (br_f (by decide) (br_f (by decide) (br_t rfl (br_f (by decide) (br_f (by decide) h))))))
  · exact br_t a (br_f (by decide) (br_f (by decide) (br_f (by decide) (br_f (by decide) (br_t rfl (br_t rfl (br_f b (br_f d h))))))))
  · exact br_t a (br_f (by decide) (br_f (by decide) (br_f (by decide) (br_f (by decide) (br_f (by decide) (br_t rfl (br_t rfl h)))))))
  · exact br_t a (br_f (by decide) (br_f (by decide) (br_f (by decide) (br_f (by decide) (br_f (by decide) (br_f (by decide) (br_t rfl (br_t rfl (br_f b h)))))))))
  · exact br_t a (br_f (by decide) (br_f (by decide) (br_f (by decide) (br_f (by decide) (br_f (by decide) (br_f (by decide) (br_f (by decide) (br_t rfl (br_f b (br_f d (br_t rfl h)))))))))))
  · exact br_t a (br_f (by decide) (br_t (by decide) (br_t rfl h)))
  · exact br_t a (br_f (by decide) (br_t (by decide) (br_t rfl h)))
theorem rc_num {P : SX → Prop} {c M : Int32} (h8 : ¬ x_mode < 8) (hM : ¬ M = -1) (hn : ∀ Q : Int32 → Prop, Q M → wpX_nextNumberMode Q x_mode c) (h : P (x_length, x_nodeCount, x_bound, x_fault, x_faultPlace, M, x_at, x_tokenStart, x_textCount, x_escaped, x_valueSlot, x_valueName, x_depth, x_outputLength, x_text, x_typeKind, x_typeDetail, x_typeLeast, x_typeMost, x_fieldCount, x_fieldName, x_fieldType, x_fieldNeeded, x_tagType, x_nodeKind, x_nodeValue, x_nodeParent, x_nodeName, x_nodeSlot, x_nodeStart, x_nodeTag, x_completeCount, x_openNode, x_openSlot, x_openNames, x_openNext, x_openComma, x_output)) : wpX_readCharacter P (x_length, x_nodeCount, x_bound, x_fault, x_faultPlace, x_mode, x_at, x_tokenStart, x_textCount, x_escaped, x_valueSlot, x_valueName, x_depth, x_outputLength, x_text, x_typeKind, x_typeDetail, x_typeLeast, x_typeMost, x_fieldCount, x_fieldName, x_fieldType, x_fieldNeeded, x_tagType, x_nodeKind, x_nodeValue, x_nodeParent, x_nodeName, x_nodeSlot, x_nodeStart, x_nodeTag, x_completeCount, x_openNode, x_openSlot, x_openNames, x_openNext, x_openComma, x_output) c :=
  br_f h8 (hn _ (br_f hM h))
/-- digits go by -/
theorem bx_dg (hL : L ≤ 96) {M : Int32} (hM : M = 10 ∨ M = 12 ∨ M = 15) : ∀ (m i j : Nat) (a : Int32), i + m = j → j ≤ L → (∀ k, i ≤ k → k < j → x_text k ≤ 9) → ∃ a', bx_R i (nI L, x_nodeCount, x_bound, 0, x_faultPlace, M, a, x_tokenStart, x_textCount, x_escaped, x_valueSlot, x_valueName, x_depth, x_outputLength, x_text, x_typeKind, x_typeDetail, x_typeLeast, x_typeMost, x_fieldCount, x_fieldName, x_fieldType, x_fieldNeeded, x_tagType, x_nodeKind, x_nodeValue, x_nodeParent, x_nodeName, x_nodeSlot, x_nodeStart, x_nodeTag, x_completeCount, x_openNode, x_openSlot, x_openNames, x_openNext, x_openComma, x_output) j (nI L, x_nodeCount, x_bound, 0, x_faultPlace, M, a', x_tokenStart, x_textCount, x_escaped, x_valueSlot, x_valueName, x_depth, x_outputLength, x_text, x_typeKind, x_typeDetail, x_typeLeast, x_typeMost, x_fieldCount, x_fieldName, x_fieldType, x_fieldNeeded, x_tagType, x_nodeKind, x_nodeValue, x_nodeParent, x_nodeName, x_nodeSlot, x_nodeStart, x_nodeTag, x_completeCount, x_openNode, x_openSlot, x_openNames, x_openNext, x_openComma, x_output) := by
  have h8 : ¬ M < 8 := by rcases hM with rfl | rfl | rfl <;> decide
  have hm : ¬ M = -1 := by rcases hM with rfl | rfl | rfl <;> decide
  intro m
  induction m with
  | zero =>
    intro i j a h1 h2 h3
    have : i = j := by omega
    subst this
    exact ⟨a, bx_0 _ _⟩
  | succ m ih =>
    intro i j a h1 h2 h3
    obtain ⟨a', h'⟩ := ih (i + 1) j (nI i) (by omega) h2 (fun k b d => h3 k (by omega) d)
    exact ⟨a', bx_T (bx_1 (by omega) hL _ (fun P hP => rc_num h8 hm (fun Q hQ => nn_d hM (Int32.not_lt.mpr (h3 i (by omega) (by omega))) hQ) hP)) h'⟩
end
