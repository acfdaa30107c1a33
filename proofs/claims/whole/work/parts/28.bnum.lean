/-! the bind: a number's end -/
theorem nu_rg {xu : Int64} {ok sc : Int32} (h : nu_R xu ok sc) (lo hi : Int32) : ((lo.toInt64 ≤ xu ∧ xu ≤ hi.toInt64) ↔ (ok = 1 ∧ lo ≤ sc ∧ sc ≤ hi)) ∧ (ok = 1 → xu.toInt32 = sc) := by
  rcases h with ⟨rfl, rfl⟩ | ⟨rfl, h⟩
  · refine ⟨⟨fun w => ⟨rfl, ?_, ?_⟩, fun w => ⟨?_, ?_⟩⟩, fun _ => lg_l2i_i2l sc⟩
    · have := w.1; rw [Int64.le_iff_toInt_le, Int32.toInt_toInt64, Int32.toInt_toInt64] at this; exact Int32.le_iff_toInt_le.mpr this
    · have := w.2; rw [Int64.le_iff_toInt_le, Int32.toInt_toInt64, Int32.toInt_toInt64] at this; exact Int32.le_iff_toInt_le.mpr this
    · rw [Int64.le_iff_toInt_le, Int32.toInt_toInt64, Int32.toInt_toInt64]; exact Int32.le_iff_toInt_le.mp w.2.1
    · rw [Int64.le_iff_toInt_le, Int32.toInt_toInt64, Int32.toInt_toInt64]; exact Int32.le_iff_toInt_le.mp w.2.2
  · refine ⟨⟨fun w => ?_, fun w => absurd w.1 (by decide)⟩, fun w => absurd w (by decide)⟩
    exfalso
    have a := w.1; have b := w.2
    rw [Int64.le_iff_toInt_le, Int32.toInt_toInt64] at a b
    have c := Int32.le_toInt lo; have d := Int32.toInt_lt hi
    omega
section
variable {x_nodeCount x_bound x_faultPlace x_at x_tokenStart x_textCount x_escaped x_valueSlot x_valueName x_depth x_outputLength : Int32} {x_text x_typeKind x_typeDetail x_typeLeast x_typeMost x_fieldCount x_fieldName x_fieldType x_fieldNeeded x_tagType x_nodeKind x_nodeValue x_nodeParent x_nodeName x_nodeSlot x_nodeStart x_nodeTag x_completeCount x_openNode x_openSlot x_openNames x_openNext x_openComma x_output : Nat → Int32} {L q : Nat} {M : Int32}
theorem bx_N (hL : L ≤ 96) (hq : q ≤ L) (h8 : ¬ M < 8) (hn : q < L → nn_S M (x_text q)) {vl tg os : Nat → Int32} (he : ∀ Q : SX → Prop, Q (nI L, x_nodeCount, x_bound, 0, x_faultPlace, 2, nI q, x_tokenStart, x_textCount, x_escaped, x_valueSlot, x_valueName, x_depth, x_outputLength, x_text, x_typeKind, x_typeDetail, x_typeLeast, x_typeMost, x_fieldCount, x_fieldName, x_fieldType, x_fieldNeeded, x_tagType, x_nodeKind, vl, x_nodeParent, x_nodeName, x_nodeSlot, x_nodeStart, tg, x_completeCount, x_openNode, os, x_openNames, x_openNext, x_openComma, x_output) → wpX_endNumber Q (nI L, x_nodeCount, x_bound, 0, x_faultPlace, M, nI q, x_tokenStart, x_textCount, x_escaped, x_valueSlot, x_valueName, x_depth, x_outputLength, x_text, x_typeKind, x_typeDetail, x_typeLeast, x_typeMost, x_fieldCount, x_fieldName, x_fieldType, x_fieldNeeded, x_tagType, x_nodeKind, x_nodeValue, x_nodeParent, x_nodeName, x_nodeSlot, x_nodeStart, x_nodeTag, x_completeCount, x_openNode, x_openSlot, x_openNames, x_openNext, x_openComma, x_output)) : bx_R q (nI L, x_nodeCount, x_bound, 0, x_faultPlace, M, x_at, x_tokenStart, x_textCount, x_escaped, x_valueSlot, x_valueName, x_depth, x_outputLength, x_text, x_typeKind, x_typeDetail, x_typeLeast, x_typeMost, x_fieldCount, x_fieldName, x_fieldType, x_fieldNeeded, x_tagType, x_nodeKind, x_nodeValue, x_nodeParent, x_nodeName, x_nodeSlot, x_nodeStart, x_nodeTag, x_completeCount, x_openNode, x_openSlot, x_openNames, x_openNext, x_openComma, x_output) q (nI L, x_nodeCount, x_bound, 0, x_faultPlace, 2, nI q, x_tokenStart, x_textCount, x_escaped, x_valueSlot, x_valueName, x_depth, x_outputLength, x_text, x_typeKind, x_typeDetail, x_typeLeast, x_typeMost, x_fieldCount, x_fieldName, x_fieldType, x_fieldNeeded, x_tagType, x_nodeKind, vl, x_nodeParent, x_nodeName, x_nodeSlot, x_nodeStart, tg, x_completeCount, x_openNode, os, x_openNames, x_openNext, x_openComma, x_output) := by
  intro post hb
  obtain ⟨n, hb⟩ := hb
  cases n with
  | zero => exact hb.elim
  | succ n =>
    rcases Nat.lt_or_ge q L with w | w
    · have h1 := ((hb.2 (nI_ge w (by omega))).1 rfl).2
      refine ⟨n + 1, br_f (nI_ge w (by omega)) (br_t rfl ⟨vp_in_nI (by omega) (by decide), ?_⟩)⟩
      rw [nI_clamp (by omega)] at h1 ⊢
      exact br_f h8 (nn_no (hn w) (br_t rfl (he _ (h1.1 (by decide)))))
    · have e : q = L := by omega
      subst e
      have h1 := (hb.1 (nI_le (Nat.le_refl _) (by omega))).1 rfl
      exact ⟨1, br_t (nI_le (Nat.le_refl _) (by omega)) (br_t rfl (br_f h8 (he _ (h1.1 (by decide)))))⟩
theorem bx_Nf (hL : L ≤ 96) (hq : q ≤ L) (h8 : ¬ M < 8) (hn : q < L → nn_S M (x_text q)) {f z M' : Int32} (hf : ¬ f = 0) (he : ∀ Q : SX → Prop, Q (nI L, x_nodeCount, x_bound, f, z, M', nI q, x_tokenStart, x_textCount, x_escaped, x_valueSlot, x_valueName, x_depth, x_outputLength, x_text, x_typeKind, x_typeDetail, x_typeLeast, x_typeMost, x_fieldCount, x_fieldName, x_fieldType, x_fieldNeeded, x_tagType, x_nodeKind, x_nodeValue, x_nodeParent, x_nodeName, x_nodeSlot, x_nodeStart, x_nodeTag, x_completeCount, x_openNode, x_openSlot, x_openNames, x_openNext, x_openComma, x_output) → wpX_endNumber Q (nI L, x_nodeCount, x_bound, 0, x_faultPlace, M, nI q, x_tokenStart, x_textCount, x_escaped, x_valueSlot, x_valueName, x_depth, x_outputLength, x_text, x_typeKind, x_typeDetail, x_typeLeast, x_typeMost, x_fieldCount, x_fieldName, x_fieldType, x_fieldNeeded, x_tagType, x_nodeKind, x_nodeValue, x_nodeParent, x_nodeName, x_nodeSlot, x_nodeStart, x_nodeTag, x_completeCount, x_openNode, x_openSlot, x_openNames, x_openNext, x_openComma, x_output)) {post : Int32 → SX → Prop} (hp : post f (nI L, x_nodeCount, 0, f, z, M', nI q, x_tokenStart, x_textCount, x_escaped, x_valueSlot, x_valueName, x_depth, x_outputLength, x_text, x_typeKind, x_typeDetail, x_typeLeast, x_typeMost, x_fieldCount, x_fieldName, x_fieldType, x_fieldNeeded, x_tagType, x_nodeKind, x_nodeValue, x_nodeParent, x_nodeName, x_nodeSlot, x_nodeStart, x_nodeTag, x_completeCount, x_openNode, x_openSlot, x_openNames, x_openNext, x_openComma, x_output)) : bx_L post q (nI L, x_nodeCount, x_bound, 0, x_faultPlace, M, x_at, x_tokenStart, x_textCount, x_escaped, x_valueSlot, x_valueName, x_depth, x_outputLength, x_text, x_typeKind, x_typeDetail, x_typeLeast, x_typeMost, x_fieldCount, x_fieldName, x_fieldType, x_fieldNeeded, x_tagType, x_nodeKind, x_nodeValue, x_nodeParent, x_nodeName, x_nodeSlot, x_nodeStart, x_nodeTag, x_completeCount, x_openNode, x_openSlot, x_openNames, x_openNext, x_openComma, x_output) := by
  rcases Nat.lt_or_ge q L with w | w
  · refine ⟨1 + 1, br_f (nI_ge w (by omega)) (br_t rfl ⟨vp_in_nI (by omega) (by decide), ?_⟩)⟩
    rw [nI_clamp (by omega)]
    exact br_f h8 (nn_no (hn w) (br_t rfl (he _ (br_f hf (nm_e (br_c (fun _ => br_f hf (br_f hf hp)) (fun _ => br_f hf (br_f hf (br_f hf hp)))))))))
  · have e : q = L := by omega
    subst e
    exact ⟨1, br_t (nI_le (Nat.le_refl _) (by omega)) (br_t rfl (br_f h8 (he _ (br_f hf (br_f hf hp)))))⟩
end
section
variable {x_length x_nodeCount x_bound x_fault x_faultPlace x_at x_tokenStart x_textCount x_escaped x_valueSlot x_valueName x_depth x_outputLength : Int32} {x_text x_typeKind x_typeDetail x_typeLeast x_typeMost x_fieldCount x_fieldName x_fieldType x_fieldNeeded x_tagType x_nodeKind x_nodeValue x_nodeParent x_nodeName x_nodeSlot x_nodeStart x_nodeTag x_completeCount x_openNode x_openSlot x_openNames x_openNext x_openComma x_output : Nat → Int32} {Q : SX → Prop} {M : Int32}
theorem ed_rej (hM : M = 8 ∨ M = 11 ∨ M = 13 ∨ M = 14) (h : Q (x_length, x_nodeCount, x_bound, 1, x_at, M, x_at, x_tokenStart, x_textCount, x_escaped, x_valueSlot, x_valueName, x_depth, x_outputLength, x_text, x_typeKind, x_typeDetail, x_typeLeast, x_typeMost, x_fieldCount, x_fieldName, x_fieldType, x_fieldNeeded, x_tagType, x_nodeKind, x_nodeValue, x_nodeParent, x_nodeName, x_nodeSlot, x_nodeStart, x_nodeTag, x_completeCount, x_openNode, x_openSlot, x_openNames, x_openNext, x_openComma, x_output)) : wpX_endNumber Q (x_length, x_nodeCount, x_bound, x_fault, x_faultPlace, M, x_at, x_tokenStart, x_textCount, x_escaped, x_valueSlot, x_valueName, x_depth, x_outputLength, x_text, x_typeKind, x_typeDetail, x_typeLeast, x_typeMost, x_fieldCount, x_fieldName, x_fieldType, x_fieldNeeded, x_tagType, x_nodeKind, x_nodeValue, x_nodeParent, x_nodeName, x_nodeSlot, x_nodeStart, x_nodeTag, x_completeCount, x_openNode, x_openSlot, x_openNames, x_openNext, x_openComma, x_output) := by
  rcases hM with rfl | rfl | rfl | rfl
  all_goals exact br_f (by decide) (br_f (by decide) (br_f (by decide) (br_f (by decide) h)))
theorem ed_acc (hM : M = 9 ∨ M = 10 ∨ M = 12 ∨ M = 15) (h : wX_endNumber_46 Q x_length x_nodeCount x_bound x_fault x_faultPlace M x_at x_tokenStart x_textCount x_escaped x_valueSlot x_valueName x_depth x_outputLength x_text x_typeKind x_typeDetail x_typeLeast x_typeMost x_fieldCount x_fieldName x_fieldType x_fieldNeeded x_tagType x_nodeKind x_nodeValue x_nodeParent x_nodeName x_nodeSlot x_nodeStart x_nodeTag x_completeCount x_openNode x_openSlot x_openNames x_openNext x_openComma x_output) : wpX_endNumber Q (x_length, x_nodeCount, x_bound, x_fault, x_faultPlace, M, x_at, x_tokenStart, x_textCount, x_escaped, x_valueSlot, x_valueName, x_depth, x_outputLength, x_text, x_typeKind, x_typeDetail, x_typeLeast, x_typeMost, x_fieldCount, x_fieldName, x_fieldType, x_fieldNeeded, x_tagType, x_nodeKind, x_nodeValue, x_nodeParent, x_nodeName, x_nodeSlot, x_nodeStart, x_nodeTag, x_completeCount, x_openNode, x_openSlot, x_openNames, x_openNext, x_openComma, x_output) := by
  rcases hM with rfl | rfl | rfl | rfl
  · exact br_t rfl h
  · exact br_f (by decide) (br_t rfl h)
  · exact br_f (by decide) (br_f (by decide) (br_t rfl h))
  · exact br_f (by decide) (br_f (by decide) (br_f (by decide) (br_t rfl h)))
end
section
variable {x_length x_bound x_fault x_faultPlace x_at x_tokenStart x_textCount x_escaped x_valueSlot x_valueName x_outputLength : Int32} {x_text x_typeKind x_typeDetail x_typeLeast x_typeMost x_fieldCount x_fieldName x_fieldType x_fieldNeeded x_tagType x_nodeKind x_nodeValue x_nodeParent x_nodeName x_nodeSlot x_nodeStart x_nodeTag x_completeCount x_openNode x_openSlot x_openNames x_openNext x_openComma x_output : Nat → Int32} {Q : SX → Prop} {M : Int32} {d N s dd b q n : Nat} {xu : Int64}
theorem tk_units (hN : N < 40) (hs : s < 12) (eS : x_nodeSlot N = nI s) (lo hi : Int32) (hlh : x_nodeKind N = 6 ∧ lo = 0 ∧ hi = x_completeCount s - 1 ∨ ¬ x_nodeKind N = 6 ∧ lo = x_typeLeast s ∧ hi = x_typeMost s)
    (h1 : lo.toInt64 ≤ xu ∧ xu ≤ hi.toInt64 → Q (x_length, nI (N + 1), x_bound, x_fault, x_faultPlace, 2, x_at, x_tokenStart, x_textCount, x_escaped, x_valueSlot, x_valueName, nI d, x_outputLength, x_text, x_typeKind, x_typeDetail, x_typeLeast, x_typeMost, x_fieldCount, x_fieldName, x_fieldType, x_fieldNeeded, x_tagType, x_nodeKind, upd x_nodeValue N xu.toInt32, x_nodeParent, x_nodeName, x_nodeSlot, x_nodeStart, x_nodeTag, x_completeCount, x_openNode, x_openSlot, x_openNames, x_openNext, x_openComma, x_output)) (h0 : ¬ (lo.toInt64 ≤ xu ∧ xu ≤ hi.toInt64) → Q (x_length, nI (N + 1), x_bound, 6, x_at - 1, 2, x_at, x_tokenStart, x_textCount, x_escaped, x_valueSlot, x_valueName, nI d, x_outputLength, x_text, x_typeKind, x_typeDetail, x_typeLeast, x_typeMost, x_fieldCount, x_fieldName, x_fieldType, x_fieldNeeded, x_tagType, x_nodeKind, x_nodeValue, x_nodeParent, x_nodeName, x_nodeSlot, x_nodeStart, x_nodeTag, x_completeCount, x_openNode, x_openSlot, x_openNames, x_openNext, x_openComma, x_output)) : wpX_takeUnits Q (x_length, nI (N + 1), x_bound, x_fault, x_faultPlace, 2, x_at, x_tokenStart, x_textCount, x_escaped, x_valueSlot, x_valueName, nI d, x_outputLength, x_text, x_typeKind, x_typeDetail, x_typeLeast, x_typeMost, x_fieldCount, x_fieldName, x_fieldType, x_fieldNeeded, x_tagType, x_nodeKind, x_nodeValue, x_nodeParent, x_nodeName, x_nodeSlot, x_nodeStart, x_nodeTag, x_completeCount, x_openNode, x_openSlot, x_openNames, x_openNext, x_openComma, x_output) xu := by
  have eN : (nI N).toNatClampNeg = N := nI_clamp (by omega)
  have ess : (nI s).toNatClampNeg = s := nI_clamp (by omega)
  have iN : vp_in (nI N) 40 := vp_in_nI hN (by decide)
  have is : vp_in (nI s) 12 := vp_in_nI hs (by decide)
  have fin : wX_takeUnits_75 Q xu (nI N) lo hi x_length (nI (N + 1)) x_bound x_fault x_faultPlace 2 x_at x_tokenStart x_textCount x_escaped x_valueSlot x_valueName (nI d) x_outputLength x_text x_typeKind x_typeDetail x_typeLeast x_typeMost x_fieldCount x_fieldName x_fieldType x_fieldNeeded x_tagType x_nodeKind x_nodeValue x_nodeParent x_nodeName x_nodeSlot x_nodeStart x_nodeTag x_completeCount x_openNode x_openSlot x_openNames x_openNext x_openComma x_output := by
    by_cases a : xu < lo.toInt64
    · exact br_t a (h0 (fun w => absurd a (Int64.not_lt.mpr w.1)))
    · refine br_f a ?_
      by_cases b : xu ≤ hi.toInt64
      · refine br_t b ⟨iN, ?_⟩
        rw [eN]; exact nm_e (h1 ⟨Int64.not_lt.mp a, b⟩)
      · exact br_f b (h0 (fun w => b w.2))
  refine nm_r (nI_pred N) ⟨iN, ?_⟩
  rw [eN]
  refine nm_r eS ⟨iN, ?_⟩
  rcases hlh with ⟨k6, rfl, rfl⟩ | ⟨k6, rfl, rfl⟩
  · refine br_t k6 (br_f (by decide) (br_f (by decide) ⟨is, ?_⟩))
    rw [ess]; exact fin
  · refine br_f k6 (br_t rfl ⟨is, br_t rfl ⟨is, ?_⟩⟩)
    rw [ess]; exact fin
/-- a value's number -/
theorem ed_val (hM : M = 9 ∨ M = 10 ∨ M = 12 ∨ M = 15) (hd6 : d ≤ 6) (hat : 0 < d → ¬ x_openSlot (d - 1) = -1) (hN : N < 40) (hs : s < 12) (eS : x_nodeSlot N = nI s) (hdd : x_nodeKind N = 0 ∧ x_typeDetail s = nI dd ∨ ¬ x_nodeKind N = 0 ∧ dd = 0)
    (hu : ∀ R : Int64 → Prop, R xu → wpX_readUnits R (x_length, nI (N + 1), x_bound, x_fault, x_faultPlace, 2, x_at, x_tokenStart, x_textCount, x_escaped, x_valueSlot, x_valueName, nI d, x_outputLength, x_text, x_typeKind, x_typeDetail, x_typeLeast, x_typeMost, x_fieldCount, x_fieldName, x_fieldType, x_fieldNeeded, x_tagType, x_nodeKind, x_nodeValue, x_nodeParent, x_nodeName, x_nodeSlot, x_nodeStart, x_nodeTag, x_completeCount, x_openNode, x_openSlot, x_openNames, x_openNext, x_openComma, x_output) (nI dd)) (h : wpX_takeUnits Q (x_length, nI (N + 1), x_bound, x_fault, x_faultPlace, 2, x_at, x_tokenStart, x_textCount, x_escaped, x_valueSlot, x_valueName, nI d, x_outputLength, x_text, x_typeKind, x_typeDetail, x_typeLeast, x_typeMost, x_fieldCount, x_fieldName, x_fieldType, x_fieldNeeded, x_tagType, x_nodeKind, x_nodeValue, x_nodeParent, x_nodeName, x_nodeSlot, x_nodeStart, x_nodeTag, x_completeCount, x_openNode, x_openSlot, x_openNames, x_openNext, x_openComma, x_output) xu) : wpX_endNumber Q (x_length, nI (N + 1), x_bound, x_fault, x_faultPlace, M, x_at, x_tokenStart, x_textCount, x_escaped, x_valueSlot, x_valueName, nI d, x_outputLength, x_text, x_typeKind, x_typeDetail, x_typeLeast, x_typeMost, x_fieldCount, x_fieldName, x_fieldType, x_fieldNeeded, x_tagType, x_nodeKind, x_nodeValue, x_nodeParent, x_nodeName, x_nodeSlot, x_nodeStart, x_nodeTag, x_completeCount, x_openNode, x_openSlot, x_openNames, x_openNext, x_openComma, x_output) := by
  have eN : (nI N).toNatClampNeg = N := nI_clamp (by omega)
  have ess : (nI s).toNatClampNeg = s := nI_clamp (by omega)
  have iN : vp_in (nI N) 40 := vp_in_nI hN (by decide)
  have at0 : ∀ R : Int32 → Prop, R 0 → wpX_isAtTag R (x_length, nI (N + 1), x_bound, x_fault, x_faultPlace, 2, x_at, x_tokenStart, x_textCount, x_escaped, x_valueSlot, x_valueName, nI d, x_outputLength, x_text, x_typeKind, x_typeDetail, x_typeLeast, x_typeMost, x_fieldCount, x_fieldName, x_fieldType, x_fieldNeeded, x_tagType, x_nodeKind, x_nodeValue, x_nodeParent, x_nodeName, x_nodeSlot, x_nodeStart, x_nodeTag, x_completeCount, x_openNode, x_openSlot, x_openNames, x_openNext, x_openComma, x_output) := by
    intro R r
    cases d with
    | zero => exact xt_0 r
    | succ d => exact xt_f (by omega) (hat (by omega)) r
  have e102 : ∀ z0 : Int32, z0 = nI dd → wX_endNumber_102 Q z0 x_length (nI (N + 1)) x_bound x_fault x_faultPlace 2 x_at x_tokenStart x_textCount x_escaped x_valueSlot x_valueName (nI d) x_outputLength x_text x_typeKind x_typeDetail x_typeLeast x_typeMost x_fieldCount x_fieldName x_fieldType x_fieldNeeded x_tagType x_nodeKind x_nodeValue x_nodeParent x_nodeName x_nodeSlot x_nodeStart x_nodeTag x_completeCount x_openNode x_openSlot x_openNames x_openNext x_openComma x_output := by
    rintro z0 rfl
    unfold wX_endNumber_102
    refine hu _ (at0 _ (br_t rfl h))
  refine ed_acc hM ?_
  unfold wX_endNumber_46
  refine at0 _ (br_t rfl ?_)
  rw [nI_pred, eN]
  refine ⟨iN, ?_⟩
  rcases hdd with ⟨k0, eD⟩ | ⟨k0, rfl⟩
  · refine br_t k0 (br_f (by decide) ?_)
    rw [nI_pred, eN, eS, ess]
    exact ⟨iN, vp_in_nI hs (by decide), e102 _ eD⟩
  · exact br_f k0 (br_t rfl (e102 _ rfl))
end
section
variable {x_length x_nodeCount x_bound x_fault x_faultPlace x_at x_tokenStart x_textCount x_escaped x_valueSlot x_valueName x_outputLength : Int32} {x_text x_typeKind x_typeDetail x_typeLeast x_typeMost x_fieldCount x_fieldName x_fieldType x_fieldNeeded x_tagType x_nodeKind x_nodeValue x_nodeParent x_nodeName x_nodeSlot x_nodeStart x_nodeTag x_completeCount x_openNode x_openSlot x_openNames x_openNext x_openComma x_output : Nat → Int32} {Q : SX → Prop} {M : Int32} {d s n : Nat} {xu : Int64}
/-- a tag's number -/
theorem ed_tag (hM : M = 9 ∨ M = 10 ∨ M = 12 ∨ M = 15) (hd6 : d < 6) (es : x_openSlot d = -1) (eo : x_openNode d = nI n) (hn : n < 40) (esl : x_nodeSlot n = nI s) (hs : s < 12)
    (hu : ∀ R : Int64 → Prop, R xu → wpX_readUnits R (x_length, x_nodeCount, x_bound, x_fault, x_faultPlace, 2, x_at, x_tokenStart, x_textCount, x_escaped, x_valueSlot, x_valueName, nI (d + 1), x_outputLength, x_text, x_typeKind, x_typeDetail, x_typeLeast, x_typeMost, x_fieldCount, x_fieldName, x_fieldType, x_fieldNeeded, x_tagType, x_nodeKind, x_nodeValue, x_nodeParent, x_nodeName, x_nodeSlot, x_nodeStart, x_nodeTag, x_completeCount, x_openNode, x_openSlot, x_openNames, x_openNext, x_openComma, x_output) 0)
    (h1 : ∀ i r, i < 6 → xu.toInt32 = nI i → ((0 : Int32).toInt64 ≤ xu ∧ xu ≤ (5 : Int32).toInt64) → x_tagType (6 * s + i) = nI r → r < 12 → x_typeKind r = 5 → Q (x_length, x_nodeCount, x_bound, x_fault, x_faultPlace, 2, x_at, x_tokenStart, x_textCount, x_escaped, x_valueSlot, x_valueName, nI (d + 1), x_outputLength, x_text, x_typeKind, x_typeDetail, x_typeLeast, x_typeMost, x_fieldCount, x_fieldName, x_fieldType, x_fieldNeeded, x_tagType, x_nodeKind, upd x_nodeValue n (nI r), x_nodeParent, x_nodeName, x_nodeSlot, x_nodeStart, upd x_nodeTag n (nI i), x_completeCount, x_openNode, upd x_openSlot d (nI r), x_openNames, x_openNext, x_openComma, x_output))
    (htg : ∀ i, i < 6 → x_tagType (6 * s + i) = -1 ∨ ∃ r, r < 12 ∧ x_tagType (6 * s + i) = nI r)
    (hsc : ((0 : Int32).toInt64 ≤ xu ∧ xu ≤ (5 : Int32).toInt64) → ∃ i, i < 6 ∧ xu.toInt32 = nI i)
    (h0 : (¬ ((0 : Int32).toInt64 ≤ xu ∧ xu ≤ (5 : Int32).toInt64) ∨ ∃ i, i < 6 ∧ xu.toInt32 = nI i ∧ (x_tagType (6 * s + i) = -1 ∨ ∃ r, r < 12 ∧ x_tagType (6 * s + i) = nI r ∧ ¬ x_typeKind r = 5)) → Q (x_length, x_nodeCount, x_bound, 6, x_at - 1, 2, x_at, x_tokenStart, x_textCount, x_escaped, x_valueSlot, x_valueName, nI (d + 1), x_outputLength, x_text, x_typeKind, x_typeDetail, x_typeLeast, x_typeMost, x_fieldCount, x_fieldName, x_fieldType, x_fieldNeeded, x_tagType, x_nodeKind, x_nodeValue, x_nodeParent, x_nodeName, x_nodeSlot, x_nodeStart, x_nodeTag, x_completeCount, x_openNode, x_openSlot, x_openNames, x_openNext, x_openComma, x_output)) : wpX_endNumber Q (x_length, x_nodeCount, x_bound, x_fault, x_faultPlace, M, x_at, x_tokenStart, x_textCount, x_escaped, x_valueSlot, x_valueName, nI (d + 1), x_outputLength, x_text, x_typeKind, x_typeDetail, x_typeLeast, x_typeMost, x_fieldCount, x_fieldName, x_fieldType, x_fieldNeeded, x_tagType, x_nodeKind, x_nodeValue, x_nodeParent, x_nodeName, x_nodeSlot, x_nodeStart, x_nodeTag, x_completeCount, x_openNode, x_openSlot, x_openNames, x_openNext, x_openComma, x_output) := by
  have ed : (nI d).toNatClampNeg = d := nI_clamp (by omega)
  have en : (nI n).toNatClampNeg = n := nI_clamp (by omega)
  have i6 : vp_in (nI d) 6 := vp_in_nI hd6 (by decide)
  have i40 : vp_in (nI n) 40 := vp_in_nI hn (by decide)
  have tk : wpX_takeTag Q (x_length, x_nodeCount, x_bound, x_fault, x_faultPlace, 2, x_at, x_tokenStart, x_textCount, x_escaped, x_valueSlot, x_valueName, nI (d + 1), x_outputLength, x_text, x_typeKind, x_typeDetail, x_typeLeast, x_typeMost, x_fieldCount, x_fieldName, x_fieldType, x_fieldNeeded, x_tagType, x_nodeKind, x_nodeValue, x_nodeParent, x_nodeName, x_nodeSlot, x_nodeStart, x_nodeTag, x_completeCount, x_openNode, x_openSlot, x_openNames, x_openNext, x_openComma, x_output) xu := by
    refine nm_r (nI_pred d) ⟨i6, ?_⟩
    rw [ed]
    refine nm_r eo ?_
    rw [en, esl]
    have no : ¬ ((0 : Int32).toInt64 ≤ xu ∧ xu ≤ (5 : Int32).toInt64) → wX_takeTag_52 Q xu (nI d) (nI n) (-1) x_length x_nodeCount x_bound x_fault x_faultPlace 2 x_at x_tokenStart x_textCount x_escaped x_valueSlot x_valueName (nI (d + 1)) x_outputLength x_text x_typeKind x_typeDetail x_typeLeast x_typeMost x_fieldCount x_fieldName x_fieldType x_fieldNeeded x_tagType x_nodeKind x_nodeValue x_nodeParent x_nodeName x_nodeSlot x_nodeStart x_nodeTag x_completeCount x_openNode x_openSlot x_openNames x_openNext x_openComma x_output := fun w => br_t rfl (h0 (Or.inl w))
    by_cases a : xu < 0
    · refine br_t a (no (fun w => ?_))
      have := w.1
      rw [Int64.le_iff_toInt_le] at this
      rw [Int64.lt_iff_toInt_lt] at a
      have e1 : (0 : Int32).toInt64.toInt = 0 := by decide
      have e2 : (0 : Int64).toInt = 0 := by decide
      omega
    refine br_f a ?_
    by_cases b : 6 ≤ xu
    · refine br_t b (no (fun w => ?_))
      have := w.2
      rw [Int64.le_iff_toInt_le] at this b
      have e1 : (5 : Int32).toInt64.toInt = 5 := by decide
      have e2 : (6 : Int64).toInt = 6 := by decide
      omega
    have rg : (0 : Int32).toInt64 ≤ xu ∧ xu ≤ (5 : Int32).toInt64 := by
      rw [Int64.le_iff_toInt_le, Int64.le_iff_toInt_le]
      rw [Int64.lt_iff_toInt_lt] at a
      rw [Int64.le_iff_toInt_le] at b
      have e1 : (0 : Int32).toInt64.toInt = 0 := by decide
      have e2 : (5 : Int32).toInt64.toInt = 5 := by decide
      have e3 : (0 : Int64).toInt = 0 := by decide
      have e4 : (6 : Int64).toInt = 6 := by decide
      omega
    obtain ⟨i, hi, ei⟩ := hsc rg
    have e6 : nI s * 6 + nI i = nI (6 * s + i) := by
      show nI s * nI 6 + nI i = _
      rw [pk_mul, nI_add, Nat.mul_comm]
    rw [ei, e6, nI_clamp (by omega)]
    refine br_f b ⟨i40, vp_in_nI (by omega) (by decide), nm_e ?_⟩
    rcases htg i hi with t1 | ⟨r, hr, t1⟩
    · rw [t1]
      exact br_t rfl (h0 (Or.inr ⟨i, hi, ei, Or.inl t1⟩))
    · rw [t1]
      refine br_f (hh_m1 (by omega)) ⟨vp_in_nI hr (by decide), ?_⟩
      rw [nI_clamp (by omega)]
      by_cases k5 : x_typeKind r = 5
      · refine br_t k5 ⟨i6, ?_⟩
        rw [ed, en, ei]
        exact nm_e ⟨i40, nm_e ⟨i40, nm_e (h1 i r hi ei rg t1 hr k5)⟩⟩
      · exact br_f k5 (h0 (Or.inr ⟨i, hi, ei, Or.inr ⟨r, hr, t1, k5⟩⟩))
  refine ed_acc hM ?_
  unfold wX_endNumber_46
  refine xt_t hd6 es (br_f (by decide) (br_t rfl ?_))
  unfold wX_endNumber_102
  exact hu _ (xt_t hd6 es (br_f (by decide) tk))
end
