/-! the bind: a text that is cut off -/
section
variable {x_bound x_at x_tokenStart x_textCount x_escaped x_valueSlot x_valueName x_outputLength : Int32} {x_text x_typeKind x_typeDetail x_typeLeast x_typeMost x_fieldCount x_fieldName x_fieldType x_fieldNeeded x_tagType x_nodeKind x_nodeValue x_nodeParent x_nodeName x_nodeSlot x_nodeStart x_nodeTag x_completeCount x_openNode x_openSlot x_openNames x_openNext x_openComma x_output : Nat → Int32} {y_bad y_nextName y_wantsName y_wantsTag y_waiting y_scaled : Int32} {y_typeA y_typeB y_typeC y_fields y_tags y_begin y_end y_inside y_whole y_kind y_value y_parent y_name y_slotOf y_placeOf y_complete y_openNode y_openType y_openCount y_openNames y_openChoice y_todo : Nat → Int32} {L P k p x d N : Nat} {g : Nat → Int32} {dp : Nat → Nat} {slot : Int32}
theorem st_txtX (hT : rl_T L x_text x_typeKind x_typeDetail x_typeLeast x_typeMost x_fieldCount x_fieldName x_fieldType x_fieldNeeded x_tagType y_typeA y_typeB y_typeC y_fields y_tags) (F : br_F slot L k p x d N g x_text x_typeKind x_fieldCount x_fieldName x_fieldType y_begin y_end x_nodeKind x_nodeValue x_nodeParent x_nodeName x_nodeSlot x_nodeStart x_nodeTag x_completeCount x_openNode x_openSlot x_openNames x_valueSlot x_valueName dp y_kind y_value y_parent y_name y_slotOf y_placeOf y_complete y_openNode y_openType y_openCount y_openNames y_openChoice y_nextName y_wantsName y_wantsTag) (hx01 : x < 2) (hnt : 0 < d → ¬ x_openSlot (d - 1) = -1) (hslot : ∃ a, a < 12 ∧ slot = nI a) (hk : k + 1 = P) (hP : P ≤ 96) {b q e zz : Nat} (hb : sp_S x_text p b) (hbL : b < L) (eb : y_begin k = nI b) (ee : y_end k = nI e) (ew : y_whole k = 0) (c : x_text b = 16) (hX : ss_X x_text L (b + 1) q e zz) (ebad : y_bad = nI zz) : bo_O slot p k (nI L, nI N, x_bound, 0, -1, md_x x, x_at, x_tokenStart, x_textCount, x_escaped, x_valueSlot, x_valueName, nI d, x_outputLength, x_text, x_typeKind, x_typeDetail, x_typeLeast, x_typeMost, x_fieldCount, x_fieldName, x_fieldType, x_fieldNeeded, x_tagType, x_nodeKind, x_nodeValue, x_nodeParent, x_nodeName, x_nodeSlot, x_nodeStart, x_nodeTag, x_completeCount, x_openNode, x_openSlot, x_openNames, x_openNext, x_openComma, x_output) (nI L, nI P, y_bad, nI N, 0, -1, 0, nI d, y_nextName, y_wantsName, y_wantsTag, x_outputLength, y_waiting, y_scaled, x_typeKind, y_typeA, y_typeB, y_typeC, x_fieldName, x_fieldType, y_fields, y_tags, x_fieldNeeded, x_text, y_begin, y_end, y_inside, y_whole, y_kind, y_value, y_parent, y_name, y_slotOf, y_placeOf, y_complete, y_openNode, y_openType, y_openCount, y_openNames, y_openChoice, x_output, y_todo) := by
  have hL := hT.1
  have hV : sp_V (x_text b) := Or.inr (Or.inr (Or.inr (Or.inl c)))
  refine st_val hT F hx01 hnt hslot (by omega) hP hb hbL eb hV (fun a w K x3 x4 x9 x10 x11 oc1 vl1 hI hK hp hg hD hR hdeep hN wt0 X2 Y2 => ?_)
  have hw := hI.2.1
  obtain ⟨rfl, s2⟩ := kt_K c hR
  obtain ⟨mu, hmu⟩ := hX.1
  have hbq := ss_R_le hmu
  have hze := ss_X_e hX
  have hqe : q ≤ e + 1 := by
    rcases hX.2 with y | y | y <;> omega
  have x0 : x11 = 0 := by
    rcases hg.2.2 with z | z
    · exfalso
      rw [c] at z
      rcases z.2 with y | y
      · exact absurd y.2 (by decide)
      · exact absurd y (by decide)
    · exact z.1
  have hv0 : v0_F (x_typeKind w) (x_text b) (y_complete w) = 0 := by
    unfold v0_F
    rw [c, if_neg (fun z => absurd z.2 (by decide)), if_neg (by decide)]
  have h1 : bx_R p (nI L, nI N, x_bound, 0, -1, md_x x, x_at, x_tokenStart, x_textCount, x_escaped, x_valueSlot, x_valueName, nI d, x_outputLength, x_text, x_typeKind, x_typeDetail, x_typeLeast, x_typeMost, x_fieldCount, x_fieldName, x_fieldType, x_fieldNeeded, x_tagType, x_nodeKind, x_nodeValue, x_nodeParent, x_nodeName, x_nodeSlot, x_nodeStart, x_nodeTag, x_completeCount, x_openNode, x_openSlot, x_openNames, x_openNext, x_openComma, x_output) (b + 1) (nI L, nI (N + 1), x_bound, 0, -1, 7, nI b, nI b, nI 0, 0, nI a, x4, nI d, x_outputLength, x_text, x_typeKind, x_typeDetail, x_typeLeast, x_typeMost, x_fieldCount, x_fieldName, x_fieldType, x_fieldNeeded, x_tagType, upd x_nodeKind N (nI 1), upd vl1 N 0, upd x_nodeParent N x3, upd x_nodeName N x4, upd x_nodeSlot N (nI w), upd x_nodeStart N (nI b), upd x_nodeTag N (-1), x_completeCount, x_openNode, x_openSlot, x_openNames, x_openNext, x_openComma, x_output) := X2 _ (fun R r => ev_txt r)
  have eN : (nI N).toNatClampNeg = N := nI_clamp (by omega)
  have iN : vp_in (nI N) 40 := vp_in_nI hN (by decide)
  rcases tx_both (y_whole := y_whole) (y_inside := y_inside) (y_begin := y_begin) (y_end := y_end) (y_bad := y_bad) (y_nextName := y_nextName) (y_wantsName := y_wantsName) (y_wantsTag := y_wantsTag) (y_waiting := y_waiting) (y_scaled := y_scaled) (y_kind := y_kind) (y_value := y_value) (y_parent := y_parent) (y_name := y_name) (y_slotOf := y_slotOf) (y_placeOf := y_placeOf) (y_complete := y_complete) (y_openNode := y_openNode) (y_openType := y_openType) (y_openNames := y_openNames) (y_openChoice := y_openChoice) (y_todo := y_todo) (P := P) (d := d) (x_bound := x_bound) (x_outputLength := x_outputLength) (x_nodeKind := x_nodeKind) (x_nodeParent := x_nodeParent) (x_nodeName := x_nodeName) (x_nodeSlot := x_nodeSlot) (x_nodeStart := x_nodeStart) (x_nodeTag := x_nodeTag) (x_completeCount := x_completeCount) (x_openNode := x_openNode) (x_openSlot := x_openSlot) (x_openNames := x_openNames) (x_openNext := x_openNext) (x_openComma := x_openComma) (x_output := x_output) (a := a) (x3 := x3) (x4 := x4) (oc1 := oc1) (vl1 := vl1) hT hN hw s2 hbL hmu hqe (by omega) with ⟨j', h', a', hx2, hy2⟩ | ⟨z, p', j', h', a', hv, hx2, hy2⟩
  · obtain ⟨e', a2, hcut⟩ : ∃ e' a2, ∀ post : Int32 → SX → Prop, post 1 (nI L, nI (N + 1), 0, 1, nI zz, 7, a2, nI b, nI j', e', nI a, x4, nI d, x_outputLength, x_text, x_typeKind, x_typeDetail, x_typeLeast, x_typeMost, x_fieldCount, x_fieldName, x_fieldType, x_fieldNeeded, x_tagType, upd x_nodeKind N (nI 1), upd vl1 N h', upd x_nodeParent N x3, upd x_nodeName N x4, upd x_nodeSlot N (nI w), upd x_nodeStart N (nI b), upd x_nodeTag N (-1), x_completeCount, x_openNode, x_openSlot, x_openNames, x_openNext, x_openComma, x_output) → bx_L post q (nI L, nI (N + 1), x_bound, 0, -1, 7, a', nI b, nI j', 0, nI a, x4, nI d, x_outputLength, x_text, x_typeKind, x_typeDetail, x_typeLeast, x_typeMost, x_fieldCount, x_fieldName, x_fieldType, x_fieldNeeded, x_tagType, upd x_nodeKind N (nI 1), upd vl1 N h', upd x_nodeParent N x3, upd x_nodeName N x4, upd x_nodeSlot N (nI w), upd x_nodeStart N (nI b), upd x_nodeTag N (-1), x_completeCount, x_openNode, x_openSlot, x_openNames, x_openNext, x_openComma, x_output) := bx_cut hL (Or.inr rfl) hX
    have fin2 : ∃ VF, by_R slot k (nI L, nI P, y_bad, nI N, 0, -1, 0, nI d, y_nextName, y_wantsName, y_wantsTag, x_outputLength, y_waiting, y_scaled, x_typeKind, y_typeA, y_typeB, y_typeC, x_fieldName, x_fieldType, y_fields, y_tags, x_fieldNeeded, x_text, y_begin, y_end, y_inside, y_whole, y_kind, y_value, y_parent, y_name, y_slotOf, y_placeOf, y_complete, y_openNode, y_openType, y_openCount, y_openNames, y_openChoice, x_output, y_todo) P (nI L, nI P, nI zz, nI (N + 1), 0, -1, 0, nI d, y_nextName, y_wantsName, y_wantsTag, x_outputLength, y_waiting, y_scaled, x_typeKind, y_typeA, y_typeB, y_typeC, x_fieldName, x_fieldType, y_fields, y_tags, x_fieldNeeded, x_text, y_begin, y_end, y_inside, y_whole, upd y_kind N (nI 1), VF, upd y_parent N x3, upd y_name N x4, upd y_slotOf N (nI w), upd y_placeOf N (nI b), y_complete, y_openNode, y_openType, oc1, y_openNames, y_openChoice, x_output, y_todo) := by
      rw [← ebad]
      by_cases full : q = e + 1
      · obtain ⟨VF, pe, fin⟩ := yv_fin (K := 1) (v := h') hN hp F.1.1 F.1.2.1
        refine ⟨VF, ?_⟩
        subst hk
        refine Y2 _ (fun R r => yv_359 hN hw hg hD hR ⟨fun _ => ⟨fun _ => yt_txt (last := e + 1) (by omega) eb ee (Or.inr ⟨ew, rfl⟩) ?_, fun z => absurd c z⟩, fun z => absurd x0 z⟩)
        rw [hv0]
        refine hy2 _ ⟨1, br_t (nI_le (by omega) (by omega)) ⟨iN, ?_⟩⟩
        rw [eN]
        refine nm_r (up_up _ _ _ _) (fin R r)
      · obtain ⟨VF, pe, fin⟩ := yv_fin (K := 1) (v := 0) hN hp F.1.1 F.1.2.1
        have q30 : x_text q = 30 ∧ e = q := by
          rcases hX.2 with y | y | y
          · omega
          · exact ⟨y.2.1, y.2.2.1⟩
          · exact ⟨y.2.1, y.2.2.2.2.1⟩
        refine ⟨VF, ?_⟩
        subst hk
        refine Y2 _ (fun R r => yv_359 hN hw hg hD hR ⟨fun _ => ⟨fun _ => yt_txt (last := e + 1) (by omega) eb ee (Or.inr ⟨ew, rfl⟩) ?_, fun z => absurd c z⟩, fun z => absurd x0 z⟩)
        rw [hv0]
        refine hy2 _ ⟨0 + 1, br_f (nI_ge (by omega) (by omega)) (br_t rfl ⟨vp_in_nI (by omega) (by decide), ?_⟩)⟩
        rw [nI_clamp (by omega)]
        refine br_t q30.1 (nm_r (nI_1 q) (br_f (nI_nlt (by omega) (by omega)) (fin R r)))
    obtain ⟨VF, hy⟩ := fin2
    exact bo_cut hT hP (by omega) (fun post y => h1 post (hx2 post (hcut post y))) hy
  · obtain ⟨VF, pe, fin⟩ := yv_fin (K := 1) (v := hv) hN hp F.1.1 F.1.2.1
    have hy : by_R slot k (nI L, nI P, y_bad, nI N, 0, -1, 0, nI d, y_nextName, y_wantsName, y_wantsTag, x_outputLength, y_waiting, y_scaled, x_typeKind, y_typeA, y_typeB, y_typeC, x_fieldName, x_fieldType, y_fields, y_tags, x_fieldNeeded, x_text, y_begin, y_end, y_inside, y_whole, y_kind, y_value, y_parent, y_name, y_slotOf, y_placeOf, y_complete, y_openNode, y_openType, y_openCount, y_openNames, y_openChoice, x_output, y_todo) (k + 1) (nI L, nI P, y_bad, nI (N + 1), 6, nI z, 0, nI d, y_nextName, y_wantsName, y_wantsTag, x_outputLength, y_waiting, y_scaled, x_typeKind, y_typeA, y_typeB, y_typeC, x_fieldName, x_fieldType, y_fields, y_tags, x_fieldNeeded, x_text, y_begin, y_end, y_inside, y_whole, upd y_kind N (nI 1), VF, upd y_parent N x3, upd y_name N x4, upd y_slotOf N (nI w), upd y_placeOf N (nI b), y_complete, y_openNode, y_openType, oc1, y_openNames, y_openChoice, x_output, y_todo) := by
      refine Y2 _ (fun R r => yv_359 hN hw hg hD hR ⟨fun _ => ⟨fun _ => yt_txt (last := e + 1) (by omega) eb ee (Or.inr ⟨ew, rfl⟩) ?_, fun z => absurd c z⟩, fun z => absurd x0 z⟩)
      rw [hv0]
      exact hy2 _ (fin R r)
    exact bo_fault hT (f := 6) (z := nI z) (by decide) (bx_T h1 hx2) hy
end
