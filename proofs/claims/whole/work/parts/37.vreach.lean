/-! the bind: both come to a value -/
section
variable {x_bound x_at x_tokenStart x_textCount x_escaped x_valueSlot x_valueName x_outputLength : Int32} {x_text x_typeKind x_typeDetail x_typeLeast x_typeMost x_fieldCount x_fieldName x_fieldType x_fieldNeeded x_tagType x_nodeKind x_nodeValue x_nodeParent x_nodeName x_nodeSlot x_nodeStart x_nodeTag x_completeCount x_openNode x_openSlot x_openNames x_openNext x_openComma x_output : Nat → Int32} {y_bad y_nextName y_wantsName y_wantsTag y_waiting y_scaled : Int32} {y_typeA y_typeB y_typeC y_fields y_tags y_begin y_end y_inside y_whole y_kind y_value y_parent y_name y_slotOf y_placeOf y_complete y_openNode y_openType y_openCount y_openNames y_openChoice y_todo : Nat → Int32} {L P k p x d N : Nat} {g : Nat → Int32} {dp : Nat → Nat} {slot : Int32}
theorem kc_mk (hT : rl_T L x_text x_typeKind x_typeDetail x_typeLeast x_typeMost x_fieldCount x_fieldName x_fieldType x_fieldNeeded x_tagType y_typeA y_typeB y_typeC y_fields y_tags) {a : Nat} (ha : a < 12) : ∃ w, kc_I x_typeKind x_typeDetail a w ∧ kc_I x_typeKind y_typeA a w := by
  obtain ⟨⟨j, hj, ej⟩, -, -, -, -, -, h7⟩ := hT.2.2 a ha
  by_cases z : x_typeKind a < 7
  · exact ⟨a, ⟨ha, ha, Or.inl ⟨z, rfl⟩, ⟨j, hj, ej⟩, ⟨j, hj, ej⟩⟩, ⟨ha, ha, Or.inl ⟨z, rfl⟩, ⟨j, hj, ej⟩, ⟨j, hj, ej⟩⟩⟩
  · have h78 : x_typeKind a = 7 ∨ x_typeKind a = 8 := by
      rw [ej] at z ⊢
      have : ¬ j < 7 := fun q => z (nI_lt (b := 7) q (by decide))
      have hj' : j = 7 ∨ j = 8 := by omega
      rcases hj' with rfl | rfl
      · exact Or.inl rfl
      · exact Or.inr rfl
    obtain ⟨e, w, hw, ew⟩ := h7 h78
    obtain ⟨⟨j', hj', ej'⟩, -⟩ := hT.2.2 w hw
    exact ⟨w, ⟨ha, hw, Or.inr ⟨z, ew⟩, ⟨j', hj', ej'⟩, ⟨j, hj, ej⟩⟩, ⟨ha, hw, Or.inr ⟨z, e.trans ew⟩, ⟨j', hj', ej'⟩, ⟨j, hj, ej⟩⟩⟩
/-- up to the value's own slot, its parent and its name -/
theorem vs_reach (hT : rl_T L x_text x_typeKind x_typeDetail x_typeLeast x_typeMost x_fieldCount x_fieldName x_fieldType x_fieldNeeded x_tagType y_typeA y_typeB y_typeC y_fields y_tags) (F : br_F slot L k p x d N g x_text x_typeKind x_fieldCount x_fieldName x_fieldType y_begin y_end x_nodeKind x_nodeValue x_nodeParent x_nodeName x_nodeSlot x_nodeStart x_nodeTag x_completeCount x_openNode x_openSlot x_openNames x_valueSlot x_valueName dp y_kind y_value y_parent y_name y_slotOf y_placeOf y_complete y_openNode y_openType y_openCount y_openNames y_openChoice y_nextName y_wantsName y_wantsTag) (hx01 : x < 2) (hnt : 0 < d → ¬ x_openSlot (d - 1) = -1) (hslot : ∃ a, a < 12 ∧ slot = nI a) (hk : k < P) (hP : P ≤ 96) {b : Nat} (hbL : b < L) (eb : y_begin k = nI b) (hV : sp_V (x_text b)) :
    ∃ (a n s : Nat) (x3 x4 : Int32) (oc1 : Nat → Int32), a < 12 ∧ n < 40 ∧ pc_X d x_nodeKind x_openNode x_openSlot n s ∧ pc_Y d y_kind y_openType x3 n s ∧
      (∀ Q : SX → Prop, wX_beginValue_45 Q (x_text b) (nI L) (nI N) x_bound 0 (-1) (md_x x) (nI b) x_tokenStart x_textCount x_escaped (nI a) x4 (nI d) x_outputLength x_text x_typeKind x_typeDetail x_typeLeast x_typeMost x_fieldCount x_fieldName x_fieldType x_fieldNeeded x_tagType x_nodeKind x_nodeValue x_nodeParent x_nodeName x_nodeSlot x_nodeStart x_nodeTag x_completeCount x_openNode x_openSlot x_openNames x_openNext x_openComma x_output → wpX_readCharacter Q (nI L, nI N, x_bound, 0, -1, md_x x, nI b, x_tokenStart, x_textCount, x_escaped, x_valueSlot, x_valueName, nI d, x_outputLength, x_text, x_typeKind, x_typeDetail, x_typeLeast, x_typeMost, x_fieldCount, x_fieldName, x_fieldType, x_fieldNeeded, x_tagType, x_nodeKind, x_nodeValue, x_nodeParent, x_nodeName, x_nodeSlot, x_nodeStart, x_nodeTag, x_completeCount, x_openNode, x_openSlot, x_openNames, x_openNext, x_openComma, x_output) (x_text b)) ∧
      (∀ Q : SY → Prop, wpY_bindValue Q (nI L, nI P, y_bad, nI N, 0, -1, 0, nI d, y_nextName, y_wantsName, y_wantsTag, x_outputLength, y_waiting, y_scaled, x_typeKind, y_typeA, y_typeB, y_typeC, x_fieldName, x_fieldType, y_fields, y_tags, x_fieldNeeded, x_text, y_begin, y_end, y_inside, y_whole, y_kind, y_value, y_parent, y_name, y_slotOf, y_placeOf, y_complete, y_openNode, y_openType, oc1, y_openNames, y_openChoice, x_output, y_todo) (nI k) (nI a) x3 x4 → wpY_part Q (nI L, nI P, y_bad, nI N, 0, -1, 0, nI d, y_nextName, y_wantsName, y_wantsTag, x_outputLength, y_waiting, y_scaled, x_typeKind, y_typeA, y_typeB, y_typeC, x_fieldName, x_fieldType, y_fields, y_tags, x_fieldNeeded, x_text, y_begin, y_end, y_inside, y_whole, y_kind, y_value, y_parent, y_name, y_slotOf, y_placeOf, y_complete, y_openNode, y_openType, y_openCount, y_openNames, y_openChoice, x_output, y_todo) (nI k) slot) ∧
      ((0 < d ∧ x_nodeKind n = 3 ∧ ¬ x4 < x_typeMost s) ↔ (x3 = nI n ∧ y_kind n = 3 ∧ ¬ x4 < y_typeC s)) ∧
      ((0 < d ∧ x_nodeKind n = 3 ∧ ¬ x4 < x_typeMost s) ∨ ∃ vl1, pr_F d N g x_nodeKind x_nodeValue x_nodeParent x_nodeName x_openNode x_openNames y_openCount x3 x4 vl1 oc1 ∧ ((d = 0 ∧ x3 = -1 ∧ vl1 = x_nodeValue) ∨ ∃ d', d = d' + 1 ∧ d' < 6 ∧ n < 40 ∧ x_openNode d' = nI n ∧ x3 = nI n ∧ (x_nodeKind n = 3 ∧ vl1 = upd x_nodeValue n (x_nodeValue n + 1) ∨ ¬ x_nodeKind n = 3 ∧ vl1 = x_nodeValue))) ∧
      (0 < d → y_wantsTag = 0) := by
  have hL := hT.1
  obtain ⟨⟨e1, e2, e3, e4, e5, e6⟩, hA, hd6, hlv, hc, hbg, hx⟩ := F
  have hN := hA.1
  obtain ⟨n13, n11, n15, n14, n20⟩ := sv_ne hV
  have rcv : ∀ Q : SX → Prop, wpX_beginValue Q (nI L, nI N, x_bound, 0, -1, md_x x, nI b, x_tokenStart, x_textCount, x_escaped, x_valueSlot, x_valueName, nI d, x_outputLength, x_text, x_typeKind, x_typeDetail, x_typeLeast, x_typeMost, x_fieldCount, x_fieldName, x_fieldType, x_fieldNeeded, x_tagType, x_nodeKind, x_nodeValue, x_nodeParent, x_nodeName, x_nodeSlot, x_nodeStart, x_nodeTag, x_completeCount, x_openNode, x_openSlot, x_openNames, x_openNext, x_openComma, x_output) (x_text b) → wpX_readCharacter Q (nI L, nI N, x_bound, 0, -1, md_x x, nI b, x_tokenStart, x_textCount, x_escaped, x_valueSlot, x_valueName, nI d, x_outputLength, x_text, x_typeKind, x_typeDetail, x_typeLeast, x_typeMost, x_fieldCount, x_fieldName, x_fieldType, x_fieldNeeded, x_tagType, x_nodeKind, x_nodeValue, x_nodeParent, x_nodeName, x_nodeSlot, x_nodeStart, x_nodeTag, x_completeCount, x_openNode, x_openSlot, x_openNames, x_openNext, x_openComma, x_output) (x_text b) := by
    intro Q q
    refine rc_val n20 ?_ q
    have hx' : x = 0 ∨ x = 1 := by omega
    rcases hx' with rfl | rfl
    · exact Or.inl rfl
    · exact Or.inr ⟨rfl, n13⟩
  cases d with
  | zero =>
    obtain ⟨a, ha, es⟩ := hslot
    have r0 : N = 0 ∧ x_valueSlot = slot ∧ x_valueName = -1 := by
      rcases hx with w | w | w | w | w | w | w | w | w | w
      all_goals first | exact w.2.2 | (have := w.1; omega) | (have := w.2.1; omega)
    obtain ⟨rfl, evs, evn⟩ := r0
    refine ⟨a, 0, 0, -1, -1, y_openCount, ha, by omega, Or.inl rfl, Or.inl rfl, fun Q q => rcv Q ?_, fun Q q => yp_in (d := 0) (by omega) (by omega) eb (br_t rfl ?_), ⟨fun z => absurd z.1 (by omega), fun z => absurd z.1 (hh_m1' (by decide))⟩, Or.inr ⟨x_nodeValue, Or.inl ⟨rfl, rfl, rfl, rfl, rfl, rfl⟩, Or.inl ⟨rfl, rfl, rfl⟩⟩, fun z => absurd z (by omega)⟩
    · unfold wpX_beginValue
      dsimp only
      rw [evs, evn, es]
      exact bv_any hV (br_f (by decide) (xt_0 (br_t rfl (xi_0 (br_t rfl q)))))
    · rw [es]; exact q
  | succ d =>
    have hos : ¬ x_openSlot d = -1 := hnt (by omega)
    have ed : (nI d).toNatClampNeg = d := nI_clamp (by omega)
    obtain ⟨n, s, hn, hs, eo, eo', edp, et, esl, K⟩ := hlv d (by omega)
    have en : (nI n).toNatClampNeg = n := nI_clamp (by omega)
    have i8 : vp_in (nI d) 8 := vp_in_nI (by omega) (by decide)
    have i40 : vp_in (nI n) 40 := vp_in_nI (by omega) (by decide)
    have yk := e1 n hn
    rcases K with ⟨g1, k3, so4, es, eoc⟩ | ⟨g1, k4, eM', ⟨M, hM, eM, hch⟩, K⟩
    · -- in a list
      obtain ⟨tA, tB, tC, dd, lo, B, hdd, edd, hlB, hB, elo, eB⟩ := (hT.2.2 s hs).2.2.2.1 so4
      have ess : (nI s).toNatClampNeg = s := nI_clamp (by omega)
      have wt0 : y_wantsTag = 0 := by
        rcases hx with w | w | w | w | w | w | w | w | w | w
        all_goals try (have := w.1; omega)
        · exact w.2.2.2
        · rw [g1] at w; exact absurd w.2.2.1 (by decide)
        · rw [g1] at w; exact absurd w.2.2.1 (by decide)
        · exact w.2.2.2
      obtain ⟨kk, s1, b1, f1, f2, f3, f4, f5, f6, f7, f8, f9, f10, f11, f12⟩ := hA.2.1 n hn
      have hk3 : kk = 3 := hh_i (by omega) (by decide) (m := 3) (f4.symm.trans k3)
      obtain ⟨-, -, j, hj, evj, -, -⟩ := f11 hk3
      have eocj : y_openCount d + 1 = nI (j + 1) := by rw [eoc, evj, nI_1]
      refine ⟨dd, n, s, nI n, nI j, upd y_openCount d (nI (j + 1)), hdd, by omega, Or.inr ⟨d, rfl, by omega, eo, by omega, fun _ => ⟨es, hs⟩⟩, Or.inr ⟨rfl, by omega, d, rfl, by omega, fun _ => ⟨et.trans es, hs⟩⟩, fun Q q => rcv Q ?_, fun Q q => yp_in (d := d + 1) (by omega) (by omega) eb ?_, ?_, ?_, fun _ => wt0⟩
      · unfold wpX_beginValue
        dsimp only
        refine bv_any hV (br_f (by decide) (xt_f (by omega) hos (br_t rfl (xi_l (by omega) (by omega) eo k3 (br_f (by decide) ?_)))))
        unfold wpX_expectElement
        dsimp only
        rw [nI_pred, ed, es, ess, eo, en]
        exact ⟨vp_in_nI (by omega) (by decide), vp_in_nI hs (by decide), nm_r edd ⟨vp_in_nI (by omega) (by decide), i40, nm_r evj q⟩⟩
      · rw [nI_pred, ed, eo', en, yk, k3, et, es, ess, tA, edd, eocj, eoc, evj]
        exact br_f (nI_ne0 (by omega) (by omega)) (br_f n13 (br_f n11 (br_f n15 (br_f n14 ⟨i8, i40, br_t rfl ⟨i8, i8, i8, i8, vp_in_nI hs (by decide), i8, q⟩⟩))))
      · rw [yk, k3, tC]
        exact ⟨fun z => ⟨rfl, rfl, z.2.2⟩, fun z => ⟨by omega, rfl, z.2.2⟩⟩
      · by_cases fl : nI j < x_typeMost s
        · have hjB : j < 20 := by
            rw [eB, nI_ltI (by omega) (by omega)] at fl; omega
          refine Or.inr ⟨upd x_nodeValue n (nI (j + 1)), Or.inr (Or.inl ⟨d, n, j, rfl, hn, eo, g1, rfl, rfl, hjB, evj, k3, rfl, rfl⟩), Or.inr ⟨d, rfl, by omega, by omega, eo, rfl, Or.inl ⟨k3, ?_⟩⟩⟩
          rw [evj, nI_1]
        · exact Or.inl ⟨by omega, k3, fl⟩
    · -- a field
      have pd : y_wantsName = 0 ∧ y_wantsTag = 0 ∧ pd_F N (d + 1) x_fieldCount x_fieldName x_fieldType x_nodeParent x_nodeName x_openNode x_openSlot x_openNames x_valueSlot x_valueName y_nextName := by
        rcases hx with w | w | w | w | w | w | w | w | w | w
        all_goals try (have := w.1; omega)
        · rw [g1] at w; exact absurd w.2.2.1 (by decide)
        · exact absurd w.2.2.2.2.1 hos
        · exact ⟨w.2.2.2.1, w.2.2.2.2.2.1, w.2.2.2.2.2.2⟩
        · rw [g1] at w; exact absurd w.2.2.1 (by decide)
      obtain ⟨wn0, wt0, n', r, m, i, j, M', p1, p2, p3, p4, p5, p6, p7, p8, p9, p10, p11, p12, p13, p14, p15, p16⟩ := pd
      have en' : n' = n := hh_i (by omega) (by omega) (p1.symm.trans eo)
      subst en'
      have p3' : x_openSlot d = nI r := p3
      have so5 : x_typeKind r = 5 := by
        rcases K with ⟨q1, q2, -⟩ | ⟨-, -, q, -⟩ | ⟨-, -, r', q', q1, q2, q3, -⟩
        · have : s = r := hh_i (by omega) (by omega) (q2.symm.trans p3'); subst this; exact q1
        · exact absurd q hos
        · have : r' = r := hh_i (by omega) (by omega) (q3.symm.trans p3'); subst this; exact q2
      obtain ⟨eF, m2, hm2, em2, hfs, hdis⟩ := (hT.2.2 r p4).2.2.2.2.1 so5
      have em : m2 = m := hh_i (by omega) (by omega) (em2.symm.trans p5)
      subst em
      obtain ⟨a1, a2, a3, h1, h2, h3, h4, h5, h6⟩ := hfs i p7
      have ffe : ff_F x_fieldName r (nI j) m2 0 = nI (4 * r + i) := by
        rcases ff_S x_fieldName r (nI j) m2 0 with ⟨-, q⟩ | ⟨i', -, hi', q1, q2⟩
        · exact absurd p9 (q i (by omega) (by omega))
        · have : i' = i := hdis i' i (by omega) p7 (q2.trans p9.symm)
          rw [q1, this]
      have k43 : ¬ x_nodeKind n' = 3 := by rw [k4]; decide
      refine ⟨a2, n', 0, nI n', nI j, y_openCount, h2, by omega, Or.inr ⟨d, rfl, by omega, eo, by omega, fun z => absurd z k43⟩, Or.inr ⟨rfl, by omega, d, rfl, by omega, fun z => absurd (yk.symm.trans z) k43⟩, fun Q q => rcv Q ?_, fun Q q => yp_in (d := d + 1) (by omega) (by omega) eb ?_, ?_, Or.inr ⟨x_nodeValue, Or.inr (Or.inr ⟨d, n', j, M', rfl, hn, eo, g1, rfl, rfl, p8, k4, p13, p14, p15, p16, rfl, rfl⟩), Or.inr ⟨d, rfl, by omega, by omega, eo, rfl, Or.inr ⟨k43, rfl⟩⟩⟩, fun _ => wt0⟩
      · unfold wpX_beginValue
        dsimp only
        rw [p10, p11, h5]
        exact bv_any hV (br_f (by decide) (xt_f (by omega) hos (br_t rfl (xi_r (by omega) (by omega) eo k43 (br_t rfl q)))))
      · rw [p12] at q
        rw [nI_pred, ed, eo', en, yk, k4, et, p3', p12]
        refine br_f (nI_ne0 (by omega) (by omega)) (br_f n13 (br_f n11 (br_f n15 (br_f n14 ⟨i8, i40, br_f (by decide) (br_t wn0 (br_t wt0 ⟨i8, yf_find p4 hm2 (eF.trans em2) ?_⟩))⟩))))
        rw [ffe, nI_clamp (by omega), h5]
        exact ⟨vp_in_nI (by omega) (by decide), i8, q⟩
      · refine ⟨fun z => absurd z.2.1 k43, fun z => absurd (yk.symm.trans z.2.1) k43⟩
end
