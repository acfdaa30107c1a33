/-! the component's walk over a number -/
def xn_m (c : Int32) : Int32 := if c = 17 then 8 else if c = 0 then 9 else 10
/-- the mode M behind the whole part or the fraction that ends at e -/
def xn_M (t : Nat → Int32) (L e : Nat) (M : Int32) : Prop :=
  (M = 9 ∨ M = 10 ∨ M = 12) ∧ (M = 10 ∨ M = 12 → ns_N t L e) ∧ (e < L → M = 9 ∨ M = 10 → ¬ t e = 18)
section
variable {x_length x_nodeCount x_bound x_fault x_faultPlace x_mode x_at x_tokenStart x_textCount x_escaped x_valueSlot x_valueName x_depth x_outputLength : Int32} {x_text x_typeKind x_typeDetail x_typeLeast x_typeMost x_fieldCount x_fieldName x_fieldType x_fieldNeeded x_tagType x_nodeKind x_nodeValue x_nodeParent x_nodeName x_nodeSlot x_nodeStart x_nodeTag x_completeCount x_openNode x_openSlot x_openNames x_openNext x_openComma x_output : Nat → Int32} {L : Nat}
theorem xw_I (hL : L ≤ 96) {b i a : Nat} (hI : ns_I x_text L b i a) (a0 : Int32) : ∃ M a', (M = 9 ∨ M = 10 ∧ ns_N x_text L a) ∧ bx_R (b + 1) (nI L, x_nodeCount, x_bound, 0, x_faultPlace, xn_m (x_text b), a0, x_tokenStart, x_textCount, x_escaped, x_valueSlot, x_valueName, x_depth, x_outputLength, x_text, x_typeKind, x_typeDetail, x_typeLeast, x_typeMost, x_fieldCount, x_fieldName, x_fieldType, x_fieldNeeded, x_tagType, x_nodeKind, x_nodeValue, x_nodeParent, x_nodeName, x_nodeSlot, x_nodeStart, x_nodeTag, x_completeCount, x_openNode, x_openSlot, x_openNames, x_openNext, x_openComma, x_output) a (nI L, x_nodeCount, x_bound, 0, x_faultPlace, M, a', x_tokenStart, x_textCount, x_escaped, x_valueSlot, x_valueName, x_depth, x_outputLength, x_text, x_typeKind, x_typeDetail, x_typeLeast, x_typeMost, x_fieldCount, x_fieldName, x_fieldType, x_fieldNeeded, x_tagType, x_nodeKind, x_nodeValue, x_nodeParent, x_nodeName, x_nodeSlot, x_nodeStart, x_nodeTag, x_completeCount, x_openNode, x_openSlot, x_openNames, x_openNext, x_openComma, x_output) := by
  obtain ⟨h1, h2, h3, h4⟩ := hI
  have h3' : ¬ 9 < x_text i := Int32.not_lt.mpr h3
  rcases h1 with ⟨h1, rfl⟩ | ⟨h1, rfl⟩
  · have e0 : xn_m (x_text b) = 8 := by rw [h1]; rfl
    rw [e0]
    rcases h4 with ⟨z, rfl⟩ | ⟨z, l1, l2, l3⟩
    · exact ⟨9, nI (b + 1), Or.inl rfl, bx_1 h2 hL _ (fun P hP => rc_num (by decide) (by decide) (fun Q hQ => nn_8 h3' (fun _ => hQ) (fun w => absurd z w)) hP)⟩
    · obtain ⟨a', h'⟩ := bx_dg hL (Or.inl rfl) (a - (b + 1 + 1)) (b + 1 + 1) a (nI (b + 1)) (by omega) l2.2.1 (fun k p q => l2.2.2 k (by omega) q)
      exact ⟨10, a', Or.inr ⟨rfl, l3⟩, bx_T (bx_1 h2 hL _ (fun P hP => rc_num (by decide) (by decide) (fun Q hQ => nn_8 h3' (fun w => absurd w z) (fun _ => hQ)) hP)) h'⟩
  · have n17 : ¬ x_text i = 17 := by intro e; rw [e] at h1; exact absurd h1 (by decide)
    rcases h4 with ⟨z, rfl⟩ | ⟨z, l1, l2, l3⟩
    · have e0 : xn_m (x_text i) = 9 := by rw [z]; rfl
      rw [e0]
      exact ⟨9, a0, Or.inl rfl, bx_0 _ _⟩
    · have e0 : xn_m (x_text i) = 10 := by unfold xn_m; rw [if_neg n17, if_neg z]
      rw [e0]
      obtain ⟨a', h'⟩ := bx_dg hL (Or.inl rfl) (a - (i + 1)) (i + 1) a a0 (by omega) l2.2.1 (fun k p q => l2.2.2 k (by omega) q)
      exact ⟨10, a', Or.inr ⟨rfl, l3⟩, h'⟩
theorem xw_F (hL : L ≤ 96) {a e : Nat} {M : Int32} (hM : M = 9 ∨ M = 10 ∧ ns_N x_text L a) (hF : ns_F x_text L a e) (a0 : Int32) : ∃ M' a', xn_M x_text L e M' ∧ bx_R a (nI L, x_nodeCount, x_bound, 0, x_faultPlace, M, a0, x_tokenStart, x_textCount, x_escaped, x_valueSlot, x_valueName, x_depth, x_outputLength, x_text, x_typeKind, x_typeDetail, x_typeLeast, x_typeMost, x_fieldCount, x_fieldName, x_fieldType, x_fieldNeeded, x_tagType, x_nodeKind, x_nodeValue, x_nodeParent, x_nodeName, x_nodeSlot, x_nodeStart, x_nodeTag, x_completeCount, x_openNode, x_openSlot, x_openNames, x_openNext, x_openComma, x_output) e (nI L, x_nodeCount, x_bound, 0, x_faultPlace, M', a', x_tokenStart, x_textCount, x_escaped, x_valueSlot, x_valueName, x_depth, x_outputLength, x_text, x_typeKind, x_typeDetail, x_typeLeast, x_typeMost, x_fieldCount, x_fieldName, x_fieldType, x_fieldNeeded, x_tagType, x_nodeKind, x_nodeValue, x_nodeParent, x_nodeName, x_nodeSlot, x_nodeStart, x_nodeTag, x_completeCount, x_openNode, x_openSlot, x_openNames, x_openNext, x_openComma, x_output) := by
  rcases hF with ⟨h1, rfl⟩ | ⟨h1, h2, h3, h4, h5⟩
  · refine ⟨M, a0, ⟨by rcases hM with h | h; exact Or.inl h; exact Or.inr (Or.inl h.1), fun w => ?_, fun w _ q => h1 ⟨w, q⟩⟩, bx_0 _ _⟩
    rcases hM with h | h
    · rw [h] at w; exact absurd w (by decide)
    · exact h.2
  · have hM' : M = 9 ∨ M = 10 := by rcases hM with h | h; exact Or.inl h; exact Or.inr h.1
    have h8 : ¬ M < 8 := by rcases hM' with rfl | rfl <;> decide
    obtain ⟨a', h'⟩ := bx_dg hL (M := 12) (Or.inr (Or.inl rfl)) (e - (a + 1 + 1)) (a + 1 + 1) e (nI (a + 1)) (by omega) h4.2.1 (fun k p q => h4.2.2 k (by omega) q)
    refine ⟨12, a', ⟨Or.inr (Or.inr rfl), fun _ => h5, fun _ w => absurd w (by decide)⟩, ?_⟩
    refine bx_T (bx_1 h1 hL (nI L, x_nodeCount, x_bound, 0, x_faultPlace, 11, nI a, x_tokenStart, x_textCount, x_escaped, x_valueSlot, x_valueName, x_depth, x_outputLength, x_text, x_typeKind, x_typeDetail, x_typeLeast, x_typeMost, x_fieldCount, x_fieldName, x_fieldType, x_fieldNeeded, x_tagType, x_nodeKind, x_nodeValue, x_nodeParent, x_nodeName, x_nodeSlot, x_nodeStart, x_nodeTag, x_completeCount, x_openNode, x_openSlot, x_openNames, x_openNext, x_openComma, x_output) (fun P hP => ?_)) (bx_T (bx_1 (by omega) hL _ (fun P hP => rc_num (by decide) (by decide) (fun Q hQ => nn_11 (Int32.not_lt.mpr (h4.2.2 (a + 1) (by omega) (by omega))) hQ) hP)) h')
    rw [h2]
    exact rc_num h8 (by decide) (fun Q hQ => nn_p hM' hQ) hP
/-- to the power's digits -/
theorem xw_S (hL : L ≤ 96) {e s : Nat} {M : Int32} (hM : M = 9 ∨ M = 10 ∨ M = 12) (h1 : e < L) (h2 : x_text e = 19) (hS : ns_S x_text L e s) (a0 : Int32) : ∃ M' a', (M' = 13 ∧ s = e + 1 ∧ ¬ (e + 1 < L ∧ (x_text (e + 1) = 17 ∨ x_text (e + 1) = 31)) ∨ M' = 14) ∧ bx_R e (nI L, x_nodeCount, x_bound, 0, x_faultPlace, M, a0, x_tokenStart, x_textCount, x_escaped, x_valueSlot, x_valueName, x_depth, x_outputLength, x_text, x_typeKind, x_typeDetail, x_typeLeast, x_typeMost, x_fieldCount, x_fieldName, x_fieldType, x_fieldNeeded, x_tagType, x_nodeKind, x_nodeValue, x_nodeParent, x_nodeName, x_nodeSlot, x_nodeStart, x_nodeTag, x_completeCount, x_openNode, x_openSlot, x_openNames, x_openNext, x_openComma, x_output) s (nI L, x_nodeCount, x_bound, 0, x_faultPlace, M', a', x_tokenStart, x_textCount, x_escaped, x_valueSlot, x_valueName, x_depth, x_outputLength, x_text, x_typeKind, x_typeDetail, x_typeLeast, x_typeMost, x_fieldCount, x_fieldName, x_fieldType, x_fieldNeeded, x_tagType, x_nodeKind, x_nodeValue, x_nodeParent, x_nodeName, x_nodeSlot, x_nodeStart, x_nodeTag, x_completeCount, x_openNode, x_openSlot, x_openNames, x_openNext, x_openComma, x_output) := by
  have h8 : ¬ M < 8 := by rcases hM with rfl | rfl | rfl <;> decide
  have st : bx_R e (nI L, x_nodeCount, x_bound, 0, x_faultPlace, M, a0, x_tokenStart, x_textCount, x_escaped, x_valueSlot, x_valueName, x_depth, x_outputLength, x_text, x_typeKind, x_typeDetail, x_typeLeast, x_typeMost, x_fieldCount, x_fieldName, x_fieldType, x_fieldNeeded, x_tagType, x_nodeKind, x_nodeValue, x_nodeParent, x_nodeName, x_nodeSlot, x_nodeStart, x_nodeTag, x_completeCount, x_openNode, x_openSlot, x_openNames, x_openNext, x_openComma, x_output) (e + 1) (nI L, x_nodeCount, x_bound, 0, x_faultPlace, 13, nI e, x_tokenStart, x_textCount, x_escaped, x_valueSlot, x_valueName, x_depth, x_outputLength, x_text, x_typeKind, x_typeDetail, x_typeLeast, x_typeMost, x_fieldCount, x_fieldName, x_fieldType, x_fieldNeeded, x_tagType, x_nodeKind, x_nodeValue, x_nodeParent, x_nodeName, x_nodeSlot, x_nodeStart, x_nodeTag, x_completeCount, x_openNode, x_openSlot, x_openNames, x_openNext, x_openComma, x_output) := bx_1 h1 hL _ (fun P hP => by rw [h2]; exact rc_num h8 (by decide) (fun Q hQ => nn_e hM hQ) hP)
  rcases hS with ⟨rfl, g⟩ | ⟨rfl, g1, g2⟩
  · exact ⟨13, nI e, Or.inl ⟨rfl, rfl, g⟩, st⟩
  · exact ⟨14, nI (e + 1), Or.inr rfl, bx_T st (bx_1 g1 hL _ (fun P hP => rc_num (by decide) (by decide) (fun Q hQ => nn_13s g2 hQ) hP))⟩
theorem xw_E (hL : L ≤ 96) {e s q : Nat} {M : Int32} (hM : xn_M x_text L e M) (hE : ns_E x_text L e s q) (a0 : Int32) : ∃ M' a', (M' = 9 ∨ M' = 10 ∨ M' = 12 ∨ M' = 15) ∧ (q < L → nn_S M' (x_text q)) ∧ bx_R e (nI L, x_nodeCount, x_bound, 0, x_faultPlace, M, a0, x_tokenStart, x_textCount, x_escaped, x_valueSlot, x_valueName, x_depth, x_outputLength, x_text, x_typeKind, x_typeDetail, x_typeLeast, x_typeMost, x_fieldCount, x_fieldName, x_fieldType, x_fieldNeeded, x_tagType, x_nodeKind, x_nodeValue, x_nodeParent, x_nodeName, x_nodeSlot, x_nodeStart, x_nodeTag, x_completeCount, x_openNode, x_openSlot, x_openNames, x_openNext, x_openComma, x_output) q (nI L, x_nodeCount, x_bound, 0, x_faultPlace, M', a', x_tokenStart, x_textCount, x_escaped, x_valueSlot, x_valueName, x_depth, x_outputLength, x_text, x_typeKind, x_typeDetail, x_typeLeast, x_typeMost, x_fieldCount, x_fieldName, x_fieldType, x_fieldNeeded, x_tagType, x_nodeKind, x_nodeValue, x_nodeParent, x_nodeName, x_nodeSlot, x_nodeStart, x_nodeTag, x_completeCount, x_openNode, x_openSlot, x_openNames, x_openNext, x_openComma, x_output) := by
  obtain ⟨m1, m2, m3⟩ := hM
  rcases hE with ⟨h1, rfl⟩ | ⟨h1, h2, h3, h4, h5, h6⟩
  · refine ⟨M, a0, by rcases m1 with h | h | h <;> simp [h], fun w => ?_, bx_0 _ _⟩
    have n19 : ¬ x_text q = 19 := fun e => h1 ⟨w, e⟩
    have dg : M = 10 ∨ M = 12 → 9 < x_text q := fun z => (m2 z).resolve_left (by omega)
    rcases m1 with h | h | h
    · exact Or.inr (Or.inl ⟨h, m3 w (Or.inl h), n19⟩)
    · exact Or.inr (Or.inr (Or.inl ⟨h, dg (Or.inl h), m3 w (Or.inr h), n19⟩))
    · exact Or.inr (Or.inr (Or.inr (Or.inr (Or.inl ⟨h, dg (Or.inr h), n19⟩))))
  · obtain ⟨M', a', hM', st⟩ := xw_S hL m1 h1 h2 h3 a0
    have hs : s < L := by have := h5.2.1; omega
    have hd : ¬ 9 < x_text s := Int32.not_lt.mpr (h5.2.2 s (by omega) h4)
    have st2 : bx_R s (nI L, x_nodeCount, x_bound, 0, x_faultPlace, M', a', x_tokenStart, x_textCount, x_escaped, x_valueSlot, x_valueName, x_depth, x_outputLength, x_text, x_typeKind, x_typeDetail, x_typeLeast, x_typeMost, x_fieldCount, x_fieldName, x_fieldType, x_fieldNeeded, x_tagType, x_nodeKind, x_nodeValue, x_nodeParent, x_nodeName, x_nodeSlot, x_nodeStart, x_nodeTag, x_completeCount, x_openNode, x_openSlot, x_openNames, x_openNext, x_openComma, x_output) (s + 1) (nI L, x_nodeCount, x_bound, 0, x_faultPlace, 15, nI s, x_tokenStart, x_textCount, x_escaped, x_valueSlot, x_valueName, x_depth, x_outputLength, x_text, x_typeKind, x_typeDetail, x_typeLeast, x_typeMost, x_fieldCount, x_fieldName, x_fieldType, x_fieldNeeded, x_tagType, x_nodeKind, x_nodeValue, x_nodeParent, x_nodeName, x_nodeSlot, x_nodeStart, x_nodeTag, x_completeCount, x_openNode, x_openSlot, x_openNames, x_openNext, x_openComma, x_output) := by
      refine bx_1 hs hL _ (fun P hP => ?_)
      rcases hM' with ⟨rfl, -, -⟩ | rfl
      · exact rc_num (by decide) (by decide) (fun Q hQ => nn_13d hd hQ) hP
      · exact rc_num (by decide) (by decide) (fun Q hQ => nn_14 hd hQ) hP
    obtain ⟨a'', h''⟩ := bx_dg hL (M := 15) (Or.inr (Or.inr rfl)) (q - (s + 1)) (s + 1) q (nI s) (by omega) h5.2.1 (fun k p r => h5.2.2 k (by omega) r)
    exact ⟨15, a'', by simp, fun w => Or.inr (Or.inr (Or.inr (Or.inr (Or.inr (Or.inr (Or.inr ⟨rfl, h6.resolve_left (by omega)⟩)))))), bx_T st (bx_T st2 h'')⟩
theorem xw_W (hL : L ≤ 96) {b q : Nat} (hW : ns_W x_text L b q) (a0 : Int32) : ∃ M a', (M = 9 ∨ M = 10 ∨ M = 12 ∨ M = 15) ∧ (q < L → nn_S M (x_text q)) ∧ bx_R (b + 1) (nI L, x_nodeCount, x_bound, 0, x_faultPlace, xn_m (x_text b), a0, x_tokenStart, x_textCount, x_escaped, x_valueSlot, x_valueName, x_depth, x_outputLength, x_text, x_typeKind, x_typeDetail, x_typeLeast, x_typeMost, x_fieldCount, x_fieldName, x_fieldType, x_fieldNeeded, x_tagType, x_nodeKind, x_nodeValue, x_nodeParent, x_nodeName, x_nodeSlot, x_nodeStart, x_nodeTag, x_completeCount, x_openNode, x_openSlot, x_openNames, x_openNext, x_openComma, x_output) q (nI L, x_nodeCount, x_bound, 0, x_faultPlace, M, a', x_tokenStart, x_textCount, x_escaped, x_valueSlot, x_valueName, x_depth, x_outputLength, x_text, x_typeKind, x_typeDetail, x_typeLeast, x_typeMost, x_fieldCount, x_fieldName, x_fieldType, x_fieldNeeded, x_tagType, x_nodeKind, x_nodeValue, x_nodeParent, x_nodeName, x_nodeSlot, x_nodeStart, x_nodeTag, x_completeCount, x_openNode, x_openSlot, x_openNames, x_openNext, x_openComma, x_output) := by
  obtain ⟨i, a, e, s, h1, h2, h3⟩ := hW
  obtain ⟨M1, a1, w1, r1⟩ := xw_I hL h1 a0
  obtain ⟨M2, a2, w2, r2⟩ := xw_F hL w1 h2 a1
  obtain ⟨M3, a3, w3, w4, r3⟩ := xw_E hL w2 h3 a2
  exact ⟨M3, a3, w3, w4, bx_T r1 (bx_T r2 r3)⟩
theorem xw_X (hL : L ≤ 96) {b z : Nat} (hX : ns_X x_text L b z) (a0 : Int32) : ∃ M a', (M = 8 ∨ M = 11 ∨ M = 13 ∨ M = 14) ∧ (z < L → nn_S M (x_text z)) ∧ bx_R (b + 1) (nI L, x_nodeCount, x_bound, 0, x_faultPlace, xn_m (x_text b), a0, x_tokenStart, x_textCount, x_escaped, x_valueSlot, x_valueName, x_depth, x_outputLength, x_text, x_typeKind, x_typeDetail, x_typeLeast, x_typeMost, x_fieldCount, x_fieldName, x_fieldType, x_fieldNeeded, x_tagType, x_nodeKind, x_nodeValue, x_nodeParent, x_nodeName, x_nodeSlot, x_nodeStart, x_nodeTag, x_completeCount, x_openNode, x_openSlot, x_openNames, x_openNext, x_openComma, x_output) z (nI L, x_nodeCount, x_bound, 0, x_faultPlace, M, a', x_tokenStart, x_textCount, x_escaped, x_valueSlot, x_valueName, x_depth, x_outputLength, x_text, x_typeKind, x_typeDetail, x_typeLeast, x_typeMost, x_fieldCount, x_fieldName, x_fieldType, x_fieldNeeded, x_tagType, x_nodeKind, x_nodeValue, x_nodeParent, x_nodeName, x_nodeSlot, x_nodeStart, x_nodeTag, x_completeCount, x_openNode, x_openSlot, x_openNames, x_openNext, x_openComma, x_output) := by
  rcases hX with ⟨h1, rfl, h2⟩ | ⟨i, a, h1, h2, h3, rfl, h4⟩ | ⟨i, a, e, h1, h2, h3, h4, h5, h6⟩
  · have e0 : xn_m (x_text b) = 8 := by rw [h1]; rfl
    rw [e0]
    exact ⟨8, a0, Or.inl rfl, fun w => Or.inl ⟨rfl, h2.resolve_left (by omega)⟩, bx_0 _ _⟩
  · obtain ⟨M1, a1, w1, r1⟩ := xw_I hL h1 a0
    have hM' : M1 = 9 ∨ M1 = 10 := by rcases w1 with h | h; exact Or.inl h; exact Or.inr h.1
    have h8 : ¬ M1 < 8 := by rcases hM' with rfl | rfl <;> decide
    refine ⟨11, nI a, by simp, fun w => Or.inr (Or.inr (Or.inr (Or.inl ⟨rfl, h4.resolve_left (by omega)⟩))), bx_T r1 (bx_1 h2 hL _ (fun P hP => ?_))⟩
    rw [h3]; exact rc_num h8 (by decide) (fun Q hQ => nn_p hM' hQ) hP
  · obtain ⟨M1, a1, w1, r1⟩ := xw_I hL h1 a0
    obtain ⟨M2, a2, w2, r2⟩ := xw_F hL w1 h2 a1
    obtain ⟨M3, a3, w3, r3⟩ := xw_S hL w2.1 h3 h4 h5 a2
    refine ⟨M3, a3, by rcases w3 with h | h; simp [h.1]; simp [h], fun w => ?_, bx_T r1 (bx_T r2 r3)⟩
    have d9 := h6.resolve_left (by omega : ¬ L ≤ z)
    rcases w3 with ⟨rfl, rfl, g⟩ | rfl
    · exact Or.inr (Or.inr (Or.inr (Or.inr (Or.inr (Or.inl ⟨rfl, d9, fun c => g ⟨w, Or.inl c⟩, fun c => g ⟨w, Or.inr c⟩⟩)))))
    · exact Or.inr (Or.inr (Or.inr (Or.inr (Or.inr (Or.inr (Or.inl ⟨rfl, d9⟩))))))
end
