/-! the bind: a value's faults, and the way on -/
theorem kc_c {qa S c : Int32} {K : Nat} (h : kc_R qa S c K) : (c = 10 ∨ c = 12) ↔ (K = 3 ∨ K = 4) := by
  have nb : sp_B c → ¬ (c = 10 ∨ c = 12) := by
    rintro (q | q) (rfl | rfl)
    · exact absurd q.2 (by decide)
    · exact absurd q.2 (by decide)
    · exact absurd q (by decide)
    · exact absurd q (by decide)
  rcases h with ⟨rfl, hB, -⟩ | ⟨rfl, rfl, -⟩ | ⟨rfl, hc, -⟩ | ⟨rfl, rfl, -⟩ | ⟨rfl, rfl, -⟩ | ⟨rfl, rfl, -⟩ | ⟨rfl, hB, -⟩
  · exact ⟨fun z => absurd z (nb hB), fun z => absurd z (by decide)⟩
  · exact ⟨fun z => absurd z (by decide), fun z => absurd z (by decide)⟩
  · refine ⟨fun z => ?_, fun z => absurd z (by decide)⟩
    rcases hc with rfl | rfl <;> exact absurd z (by decide)
  · exact ⟨fun _ => Or.inl rfl, fun _ => Or.inr rfl⟩
  · exact ⟨fun _ => Or.inr rfl, fun _ => Or.inl rfl⟩
  · exact ⟨fun z => absurd z (by decide), fun z => absurd z (by decide)⟩
  · exact ⟨fun z => absurd z (nb hB), fun z => absurd z (by decide)⟩
section
variable {x_bound x_at x_tokenStart x_textCount x_escaped x_valueSlot x_valueName x_outputLength : Int32} {x_text x_typeKind x_typeDetail x_typeLeast x_typeMost x_fieldCount x_fieldName x_fieldType x_fieldNeeded x_tagType x_nodeKind x_nodeValue x_nodeParent x_nodeName x_nodeSlot x_nodeStart x_nodeTag x_completeCount x_openNode x_openSlot x_openNames x_openNext x_openComma x_output : Nat → Int32} {y_bad y_nextName y_wantsName y_wantsTag y_waiting y_scaled : Int32} {y_typeA y_typeB y_typeC y_fields y_tags y_begin y_end y_inside y_whole y_kind y_value y_parent y_name y_slotOf y_placeOf y_complete y_openNode y_openType y_openCount y_openNames y_openChoice y_todo : Nat → Int32} {L P k p x d N : Nat} {g : Nat → Int32} {dp : Nat → Nat} {slot : Int32}
theorem st_val (hT : rl_T L x_text x_typeKind x_typeDetail x_typeLeast x_typeMost x_fieldCount x_fieldName x_fieldType x_fieldNeeded x_tagType y_typeA y_typeB y_typeC y_fields y_tags) (F : br_F slot L k p x d N g x_text x_typeKind x_fieldCount x_fieldName x_fieldType y_begin y_end x_nodeKind x_nodeValue x_nodeParent x_nodeName x_nodeSlot x_nodeStart x_nodeTag x_completeCount x_openNode x_openSlot x_openNames x_valueSlot x_valueName dp y_kind y_value y_parent y_name y_slotOf y_placeOf y_complete y_openNode y_openType y_openCount y_openNames y_openChoice y_nextName y_wantsName y_wantsTag) (hx01 : x < 2) (hnt : 0 < d → ¬ x_openSlot (d - 1) = -1) (hslot : ∃ a, a < 12 ∧ slot = nI a) (hk : k < P) (hP : P ≤ 96) {b : Nat} (hb : sp_S x_text p b) (hbL : b < L) (eb : y_begin k = nI b) (hV : sp_V (x_text b))
    (HO : ∀ (a w K : Nat) (x3 x4 x9 x10 x11 : Int32) (oc1 vl1 : Nat → Int32), kc_I x_typeKind x_typeDetail a w → K ≤ 6 → pr_F d N g x_nodeKind x_nodeValue x_nodeParent x_nodeName x_openNode x_openNames y_openCount x3 x4 vl1 oc1 → vg_F (x_typeKind a) (x_text b) x9 x10 x11 → kc_D (x_typeKind a) (x_typeKind w) → kc_R (x_typeKind a) (x_typeKind w) (x_text b) K → ¬ (d = 6 ∧ (K = 3 ∨ K = 4)) → N < 40 → (0 < d → y_wantsTag = 0) →
      (∀ u2 : SX, (∀ R : SX → Prop, R u2 → wpX_enterValue R (nI L, nI (N + 1), x_bound, 0, -1, md_x x, nI b, x_tokenStart, x_textCount, x_escaped, nI a, x4, nI d, x_outputLength, x_text, x_typeKind, x_typeDetail, x_typeLeast, x_typeMost, x_fieldCount, x_fieldName, x_fieldType, x_fieldNeeded, x_tagType, upd x_nodeKind N (nI K), upd vl1 N 0, upd x_nodeParent N x3, upd x_nodeName N x4, upd x_nodeSlot N (nI w), upd x_nodeStart N (nI b), upd x_nodeTag N (-1), x_completeCount, x_openNode, x_openSlot, x_openNames, x_openNext, x_openComma, x_output) (nI K) (x_text b)) → bx_R p (nI L, nI N, x_bound, 0, -1, md_x x, x_at, x_tokenStart, x_textCount, x_escaped, x_valueSlot, x_valueName, nI d, x_outputLength, x_text, x_typeKind, x_typeDetail, x_typeLeast, x_typeMost, x_fieldCount, x_fieldName, x_fieldType, x_fieldNeeded, x_tagType, x_nodeKind, x_nodeValue, x_nodeParent, x_nodeName, x_nodeSlot, x_nodeStart, x_nodeTag, x_completeCount, x_openNode, x_openSlot, x_openNames, x_openNext, x_openComma, x_output) (b + 1) u2) →
      (∀ v2 : SY, (∀ R : SY → Prop, R v2 → wY_bindValue_359 R (nI k) x3 x4 (nI b) (x_text b) (nI w) (x_typeKind w) x10 x11 (nI L) (nI P) y_bad (nI N) 0 (-1) 0 (nI d) y_nextName y_wantsName y_wantsTag x_outputLength y_waiting y_scaled x_typeKind y_typeA y_typeB y_typeC x_fieldName x_fieldType y_fields y_tags x_fieldNeeded x_text y_begin y_end y_inside y_whole y_kind y_value y_parent y_name y_slotOf y_placeOf y_complete y_openNode y_openType oc1 y_openNames y_openChoice x_output y_todo) → by_R slot k (nI L, nI P, y_bad, nI N, 0, -1, 0, nI d, y_nextName, y_wantsName, y_wantsTag, x_outputLength, y_waiting, y_scaled, x_typeKind, y_typeA, y_typeB, y_typeC, x_fieldName, x_fieldType, y_fields, y_tags, x_fieldNeeded, x_text, y_begin, y_end, y_inside, y_whole, y_kind, y_value, y_parent, y_name, y_slotOf, y_placeOf, y_complete, y_openNode, y_openType, y_openCount, y_openNames, y_openChoice, x_output, y_todo) (k + 1) v2) → bo_O slot p k (nI L, nI N, x_bound, 0, -1, md_x x, x_at, x_tokenStart, x_textCount, x_escaped, x_valueSlot, x_valueName, nI d, x_outputLength, x_text, x_typeKind, x_typeDetail, x_typeLeast, x_typeMost, x_fieldCount, x_fieldName, x_fieldType, x_fieldNeeded, x_tagType, x_nodeKind, x_nodeValue, x_nodeParent, x_nodeName, x_nodeSlot, x_nodeStart, x_nodeTag, x_completeCount, x_openNode, x_openSlot, x_openNames, x_openNext, x_openComma, x_output) (nI L, nI P, y_bad, nI N, 0, -1, 0, nI d, y_nextName, y_wantsName, y_wantsTag, x_outputLength, y_waiting, y_scaled, x_typeKind, y_typeA, y_typeB, y_typeC, x_fieldName, x_fieldType, y_fields, y_tags, x_fieldNeeded, x_text, y_begin, y_end, y_inside, y_whole, y_kind, y_value, y_parent, y_name, y_slotOf, y_placeOf, y_complete, y_openNode, y_openType, y_openCount, y_openNames, y_openChoice, x_output, y_todo)) : bo_O slot p k (nI L, nI N, x_bound, 0, -1, md_x x, x_at, x_tokenStart, x_textCount, x_escaped, x_valueSlot, x_valueName, nI d, x_outputLength, x_text, x_typeKind, x_typeDetail, x_typeLeast, x_typeMost, x_fieldCount, x_fieldName, x_fieldType, x_fieldNeeded, x_tagType, x_nodeKind, x_nodeValue, x_nodeParent, x_nodeName, x_nodeSlot, x_nodeStart, x_nodeTag, x_completeCount, x_openNode, x_openSlot, x_openNames, x_openNext, x_openComma, x_output) (nI L, nI P, y_bad, nI N, 0, -1, 0, nI d, y_nextName, y_wantsName, y_wantsTag, x_outputLength, y_waiting, y_scaled, x_typeKind, y_typeA, y_typeB, y_typeC, x_fieldName, x_fieldType, y_fields, y_tags, x_fieldNeeded, x_text, y_begin, y_end, y_inside, y_whole, y_kind, y_value, y_parent, y_name, y_slotOf, y_placeOf, y_complete, y_openNode, y_openType, y_openCount, y_openNames, y_openChoice, x_output, y_todo) := by
  have hL := hT.1
  obtain ⟨a, n, s, x3, x4, oc1, ha, hn40, hpX, hpY, hX1, hY1, hfl, hpr, wt0⟩ := vs_reach hT F hx01 hnt hslot hk hP hbL eb hV
  have hA := F.2.1
  have hd6 := F.2.2.1
  have hN := hA.1
  have c0 := tt_lo hT.2.1 b
  obtain ⟨w, hI, hI'⟩ := kc_mk hT ha
  obtain ⟨r, hr, spec⟩ : ∃ r : Int32, (∀ post : Int32 → Prop, post r → wpX_kindBegun post (nI L, nI N, x_bound, 0, -1, md_x x, nI b, x_tokenStart, x_textCount, x_escaped, nI a, x4, nI d, x_outputLength, x_text, x_typeKind, x_typeDetail, x_typeLeast, x_typeMost, x_fieldCount, x_fieldName, x_fieldType, x_fieldNeeded, x_tagType, x_nodeKind, x_nodeValue, x_nodeParent, x_nodeName, x_nodeSlot, x_nodeStart, x_nodeTag, x_completeCount, x_openNode, x_openSlot, x_openNames, x_openNext, x_openComma, x_output) (nI a) (x_text b)) ∧ (kc_D (x_typeKind a) (x_typeKind w) → (∃ K, K ≤ 6 ∧ r = nI K ∧ kc_R (x_typeKind a) (x_typeKind w) (x_text b) K) ∨ (r = -1 ∧ ¬ ∃ K, kc_R (x_typeKind a) (x_typeKind w) (x_text b) K)) := kb_x hI c0
  obtain ⟨a0, ha0⟩ : ∃ a, bx_R p (nI L, nI N, x_bound, 0, -1, md_x x, x_at, x_tokenStart, x_textCount, x_escaped, x_valueSlot, x_valueName, nI d, x_outputLength, x_text, x_typeKind, x_typeDetail, x_typeLeast, x_typeMost, x_fieldCount, x_fieldName, x_fieldType, x_fieldNeeded, x_tagType, x_nodeKind, x_nodeValue, x_nodeParent, x_nodeName, x_nodeSlot, x_nodeStart, x_nodeTag, x_completeCount, x_openNode, x_openSlot, x_openNames, x_openNext, x_openComma, x_output) b (nI L, nI N, x_bound, 0, -1, md_x x, a, x_tokenStart, x_textCount, x_escaped, x_valueSlot, x_valueName, nI d, x_outputLength, x_text, x_typeKind, x_typeDetail, x_typeLeast, x_typeMost, x_fieldCount, x_fieldName, x_fieldType, x_fieldNeeded, x_tagType, x_nodeKind, x_nodeValue, x_nodeParent, x_nodeName, x_nodeSlot, x_nodeStart, x_nodeTag, x_completeCount, x_openNode, x_openSlot, x_openNames, x_openNext, x_openComma, x_output) := bx_at hL hb (by omega)
  have fault : ∀ f : Int32, ¬ f = 0 → (∀ post : Int32 → Prop, post f → wpX_faultAtBeginning post (nI L, nI N, x_bound, 0, -1, md_x x, nI b, x_tokenStart, x_textCount, x_escaped, nI a, x4, nI d, x_outputLength, x_text, x_typeKind, x_typeDetail, x_typeLeast, x_typeMost, x_fieldCount, x_fieldName, x_fieldType, x_fieldNeeded, x_tagType, x_nodeKind, x_nodeValue, x_nodeParent, x_nodeName, x_nodeSlot, x_nodeStart, x_nodeTag, x_completeCount, x_openNode, x_openSlot, x_openNames, x_openNext, x_openComma, x_output) r) → (∀ Q : SY → Prop, Q (nI L, nI P, y_bad, nI N, f, nI b, 0, nI d, y_nextName, y_wantsName, y_wantsTag, x_outputLength, y_waiting, y_scaled, x_typeKind, y_typeA, y_typeB, y_typeC, x_fieldName, x_fieldType, y_fields, y_tags, x_fieldNeeded, x_text, y_begin, y_end, y_inside, y_whole, y_kind, y_value, y_parent, y_name, y_slotOf, y_placeOf, y_complete, y_openNode, y_openType, oc1, y_openNames, y_openChoice, x_output, y_todo) → wpY_bindValue Q (nI L, nI P, y_bad, nI N, 0, -1, 0, nI d, y_nextName, y_wantsName, y_wantsTag, x_outputLength, y_waiting, y_scaled, x_typeKind, y_typeA, y_typeB, y_typeC, x_fieldName, x_fieldType, y_fields, y_tags, x_fieldNeeded, x_text, y_begin, y_end, y_inside, y_whole, y_kind, y_value, y_parent, y_name, y_slotOf, y_placeOf, y_complete, y_openNode, y_openType, oc1, y_openNames, y_openChoice, x_output, y_todo) (nI k) (nI a) x3 x4) → bo_O slot p k (nI L, nI N, x_bound, 0, -1, md_x x, x_at, x_tokenStart, x_textCount, x_escaped, x_valueSlot, x_valueName, nI d, x_outputLength, x_text, x_typeKind, x_typeDetail, x_typeLeast, x_typeMost, x_fieldCount, x_fieldName, x_fieldType, x_fieldNeeded, x_tagType, x_nodeKind, x_nodeValue, x_nodeParent, x_nodeName, x_nodeSlot, x_nodeStart, x_nodeTag, x_completeCount, x_openNode, x_openSlot, x_openNames, x_openNext, x_openComma, x_output) (nI L, nI P, y_bad, nI N, 0, -1, 0, nI d, y_nextName, y_wantsName, y_wantsTag, x_outputLength, y_waiting, y_scaled, x_typeKind, y_typeA, y_typeB, y_typeC, x_fieldName, x_fieldType, y_fields, y_tags, x_fieldNeeded, x_text, y_begin, y_end, y_inside, y_whole, y_kind, y_value, y_parent, y_name, y_slotOf, y_placeOf, y_complete, y_openNode, y_openType, y_openCount, y_openNames, y_openChoice, x_output, y_todo) := by
    intro f hf hfa hy
    have hx : bx_R b (nI L, nI N, x_bound, 0, -1, md_x x, a0, x_tokenStart, x_textCount, x_escaped, x_valueSlot, x_valueName, nI d, x_outputLength, x_text, x_typeKind, x_typeDetail, x_typeLeast, x_typeMost, x_fieldCount, x_fieldName, x_fieldType, x_fieldNeeded, x_tagType, x_nodeKind, x_nodeValue, x_nodeParent, x_nodeName, x_nodeSlot, x_nodeStart, x_nodeTag, x_completeCount, x_openNode, x_openSlot, x_openNames, x_openNext, x_openComma, x_output) (b + 1) (nI L, nI N, x_bound, f, nI b, md_x x, nI b, x_tokenStart, x_textCount, x_escaped, nI a, x4, nI d, x_outputLength, x_text, x_typeKind, x_typeDetail, x_typeLeast, x_typeMost, x_fieldCount, x_fieldName, x_fieldType, x_fieldNeeded, x_tagType, x_nodeKind, x_nodeValue, x_nodeParent, x_nodeName, x_nodeSlot, x_nodeStart, x_nodeTag, x_completeCount, x_openNode, x_openSlot, x_openNames, x_openNext, x_openComma, x_output) := bx_1 hbL hL _ (fun Q q => hX1 Q (vx_f hf hr hfa q))
    have hy' : by_R slot k (nI L, nI P, y_bad, nI N, 0, -1, 0, nI d, y_nextName, y_wantsName, y_wantsTag, x_outputLength, y_waiting, y_scaled, x_typeKind, y_typeA, y_typeB, y_typeC, x_fieldName, x_fieldType, y_fields, y_tags, x_fieldNeeded, x_text, y_begin, y_end, y_inside, y_whole, y_kind, y_value, y_parent, y_name, y_slotOf, y_placeOf, y_complete, y_openNode, y_openType, y_openCount, y_openNames, y_openChoice, x_output, y_todo) (k + 1) (nI L, nI P, y_bad, nI N, f, nI b, 0, nI d, y_nextName, y_wantsName, y_wantsTag, x_outputLength, y_waiting, y_scaled, x_typeKind, y_typeA, y_typeB, y_typeC, x_fieldName, x_fieldType, y_fields, y_tags, x_fieldNeeded, x_text, y_begin, y_end, y_inside, y_whole, y_kind, y_value, y_parent, y_name, y_slotOf, y_placeOf, y_complete, y_openNode, y_openType, oc1, y_openNames, y_openChoice, x_output, y_todo) := by_1 hk hP _ (fun Q q => hY1 Q (hy Q q))
    exact bo_fault hT hf (bx_T ha0 hx) hy'
  by_cases D : kc_D (x_typeKind a) (x_typeKind w)
  case neg =>
    refine fault 2 (by decide) (fun post q => fb_x hd6 hI (fun _ => q) (fun z => absurd z D) (fun z => absurd z D) (fun z => absurd z D)) (fun Q q => yv_top (by omega) (by omega) eb rfl hV c0 hI' hn40 hpY (fun _ => q) (fun z => absurd z D) (fun _ _ _ _ z => absurd z D))
  rcases spec D with ⟨K, hK, rfl, hR⟩ | ⟨rfl, nK⟩
  case inr =>
    refine fault 3 (by decide) (fun post q => fb_x hd6 hI (fun z => absurd D z) (fun _ _ => q) (fun _ z => absurd rfl z) (fun _ z => absurd rfl z)) (fun Q q => yv_top (by omega) (by omega) eb rfl hV c0 hI' hn40 hpY (fun z => absurd D z) (fun _ _ => q) (fun _ _ _ _ _ z => absurd z nK))
  have rm1 : ¬ nI K = -1 := hh_m1 (by omega)
  have r34 : (nI K = 3 ∨ nI K = 4) ↔ (K = 3 ∨ K = 4) := by
    constructor
    · rintro (z | z)
      · exact Or.inl (hh_i (by omega) (by decide) (m := 3) z)
      · exact Or.inr (hh_i (by omega) (by decide) (m := 4) z)
    · rintro (rfl | rfl)
      · exact Or.inl rfl
      · exact Or.inr rfl
  have cK := kc_c hR
  by_cases dp6 : d = 6 ∧ (K = 3 ∨ K = 4)
  · refine fault 4 (by decide) (fun post q => fb_x hd6 hI (fun z => absurd D z) (fun _ z => absurd z rm1) (fun _ _ _ _ => q) (fun _ _ z => absurd ⟨dp6.1, r34.mpr dp6.2⟩ z)) (fun Q q => yv_top (by omega) (by omega) eb rfl hV c0 hI' hn40 hpY (fun z => absurd D z) (fun _ z => absurd ⟨K, hR⟩ z) (fun x9 x10 x11 _ _ _ => yv_271 hn40 hpY hd6 hN (fun _ _ => q) (fun z => absurd ⟨cK.mpr dp6.2, dp6.1⟩ z) (fun z => absurd ⟨cK.mpr dp6.2, dp6.1⟩ z) (fun z => absurd ⟨cK.mpr dp6.2, dp6.1⟩ z)))
  have nd : ¬ ((x_text b = 10 ∨ x_text b = 12) ∧ d = 6) := fun z => dp6 ⟨z.2, cK.mp z.1⟩
  rcases Nat.lt_or_ge N 40 with N40 | N40
  case inr =>
    refine fault 5 (by decide) (fun post q => fb_x hd6 hI (fun z => absurd D z) (fun _ z => absurd z rm1) (fun _ _ z1 z2 => absurd ⟨z1, r34.mp z2⟩ dp6) (fun _ _ _ => fb_41 hpX hN (fun _ => q) (fun z => absurd z (by omega)) (fun z => absurd z (by omega)))) (fun Q q => yv_top (by omega) (by omega) eb rfl hV c0 hI' hn40 hpY (fun z => absurd D z) (fun _ z => absurd ⟨K, hR⟩ z) (fun x9 x10 x11 _ _ _ => yv_271 hn40 hpY hd6 hN (fun z1 z2 => absurd ⟨z1, z2⟩ nd) (fun _ _ => q) (fun _ z => absurd z (by omega)) (fun _ z => absurd z (by omega))))
  by_cases fl : 0 < d ∧ x_nodeKind n = 3 ∧ ¬ x4 < x_typeMost s
  · refine fault 6 (by decide) (fun post q => fb_x hd6 hI (fun z => absurd D z) (fun _ z => absurd z rm1) (fun _ _ z1 z2 => absurd ⟨z1, r34.mp z2⟩ dp6) (fun _ _ _ => fb_41 hpX hN (fun z => absurd z (by omega)) (fun _ _ _ _ => q) (fun _ z => absurd fl z))) (fun Q q => yv_top (by omega) (by omega) eb rfl hV c0 hI' hn40 hpY (fun z => absurd D z) (fun _ z => absurd ⟨K, hR⟩ z) (fun x9 x10 x11 _ _ _ => yv_271 hn40 hpY hd6 hN (fun z1 z2 => absurd ⟨z1, z2⟩ nd) (fun _ z => absurd z (by omega)) (fun _ _ _ => q) (fun _ _ z => absurd (hfl.mp fl) z)))
  obtain ⟨vl1, hpr, hpar⟩ := hpr.resolve_left fl
  have hfa : ∀ post : Int32 → Prop, post 0 → wpX_faultAtBeginning post (nI L, nI N, x_bound, 0, -1, md_x x, nI b, x_tokenStart, x_textCount, x_escaped, nI a, x4, nI d, x_outputLength, x_text, x_typeKind, x_typeDetail, x_typeLeast, x_typeMost, x_fieldCount, x_fieldName, x_fieldType, x_fieldNeeded, x_tagType, x_nodeKind, x_nodeValue, x_nodeParent, x_nodeName, x_nodeSlot, x_nodeStart, x_nodeTag, x_completeCount, x_openNode, x_openSlot, x_openNames, x_openNext, x_openComma, x_output) (nI K) := fun post q => fb_x hd6 hI (fun z => absurd D z) (fun _ z => absurd z rm1) (fun _ _ z1 z2 => absurd ⟨z1, r34.mp z2⟩ dp6) (fun _ _ _ => fb_41 hpX hN (fun z => absurd z (by omega)) (fun _ z1 z2 z3 => absurd ⟨z1, z2, z3⟩ fl) (fun _ _ => q))
  -- which flags
  obtain ⟨x9, g9⟩ : ∃ x9 : Int32, x9 = 1 ∧ x_typeKind a = 7 ∨ x9 = 0 ∧ ¬ x_typeKind a = 7 := by
    by_cases z : x_typeKind a = 7
    · exact ⟨1, Or.inl ⟨rfl, z⟩⟩
    · exact ⟨0, Or.inr ⟨rfl, z⟩⟩
  obtain ⟨x10, g10⟩ : ∃ x10 : Int32, x10 = 1 ∧ x_typeKind a = 8 ∨ x10 = 0 ∧ ¬ x_typeKind a = 8 := by
    by_cases z : x_typeKind a = 8
    · exact ⟨1, Or.inl ⟨rfl, z⟩⟩
    · exact ⟨0, Or.inr ⟨rfl, z⟩⟩
  obtain ⟨x11, g11⟩ : ∃ x11 : Int32, x11 = 1 ∧ sp_B (x_text b) ∨ x11 = 0 ∧ ¬ sp_B (x_text b) := by
    by_cases z : sp_B (x_text b)
    · exact ⟨1, Or.inl ⟨rfl, z⟩⟩
    · exact ⟨0, Or.inr ⟨rfl, z⟩⟩
  refine HO a w K x3 x4 x9 x10 x11 oc1 vl1 hI hK hpr ⟨g9, g10, g11⟩ D hR dp6 N40 wt0 (fun u2 he => ?_) (fun v2 hv => ?_)
  · refine bx_T ha0 (bx_1 hbL hL u2 (fun Q q => hX1 Q (vx_o (u1 := (nI L, nI (N + 1), x_bound, 0, -1, md_x x, nI b, x_tokenStart, x_textCount, x_escaped, nI a, x4, nI d, x_outputLength, x_text, x_typeKind, x_typeDetail, x_typeLeast, x_typeMost, x_fieldCount, x_fieldName, x_fieldType, x_fieldNeeded, x_tagType, upd x_nodeKind N (nI K), upd vl1 N 0, upd x_nodeParent N x3, upd x_nodeName N x4, upd x_nodeSlot N (nI w), upd x_nodeStart N (nI b), upd x_nodeTag N (-1), x_completeCount, x_openNode, x_openSlot, x_openNames, x_openNext, x_openComma, x_output)) hr hfa (fun R rr => an_x (n := n) N40 hI (par := x3) (vl1 := vl1) ?_ rr) he q)))
    rcases hpar with ⟨p1, p2, p3⟩ | hpar
    · exact Or.inl ⟨p1, p2, p3⟩
    · exact Or.inr hpar
  · refine by_1 hk hP v2 (fun Q q => hY1 Q (yv_top (by omega) (by omega) eb rfl hV c0 hI' hn40 hpY (fun z => absurd D z) (fun _ z => absurd ⟨K, hR⟩ z) (fun y9 y10 y11 hg _ _ => yv_271 hn40 hpY hd6 hN (fun z1 z2 => absurd ⟨z1, z2⟩ nd) (fun _ z => absurd z (by omega)) (fun _ _ z => absurd (hfl.mpr z) fl) (fun _ _ _ => ?_))))
    have h10 : y10 = x10 := by
      rcases hg.2.1 with ⟨z1, z2⟩ | ⟨z1, z2⟩ <;> rcases g10 with ⟨q1, q2⟩ | ⟨q1, q2⟩
      · rw [z1, q1]
      · exact absurd z2 q2
      · exact absurd q2 z2
      · rw [z1, q1]
    have h11 : y11 = x11 := by
      rcases hg.2.2 with ⟨z1, z2⟩ | ⟨z1, z2⟩ <;> rcases g11 with ⟨q1, q2⟩ | ⟨q1, q2⟩
      · rw [z1, q1]
      · exact absurd z2 q2
      · exact absurd q2 z2
      · rw [z1, q1]
    rw [h10, h11]
    exact hv Q q
end
