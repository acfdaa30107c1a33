/-! the bind: a name's step; strings cut off -/
section
variable {x_bound x_at x_tokenStart x_textCount x_escaped x_valueSlot x_valueName x_outputLength : Int32} {x_text x_typeKind x_typeDetail x_typeLeast x_typeMost x_fieldCount x_fieldName x_fieldType x_fieldNeeded x_tagType x_nodeKind x_nodeValue x_nodeParent x_nodeName x_nodeSlot x_nodeStart x_nodeTag x_completeCount x_openNode x_openSlot x_openNames x_openNext x_openComma x_output : Nat → Int32} {y_bad y_nextName y_wantsName y_wantsTag y_waiting y_scaled : Int32} {y_typeA y_typeB y_typeC y_fields y_tags y_begin y_end y_inside y_whole y_kind y_value y_parent y_name y_slotOf y_placeOf y_complete y_openNode y_openType y_openCount y_openNames y_openChoice y_todo : Nat → Int32} {L P k p x d N : Nat} {g : Nat → Int32} {dp : Nat → Nat} {slot : Int32}
theorem st_name (hT : rl_T L x_text x_typeKind x_typeDetail x_typeLeast x_typeMost x_fieldCount x_fieldName x_fieldType x_fieldNeeded x_tagType y_typeA y_typeB y_typeC y_fields y_tags) (hx23 : x = 2 ∨ x = 3) (F : br_F slot L k p x (d + 1) N g x_text x_typeKind x_fieldCount x_fieldName x_fieldType y_begin y_end x_nodeKind x_nodeValue x_nodeParent x_nodeName x_nodeSlot x_nodeStart x_nodeTag x_completeCount x_openNode x_openSlot x_openNames x_valueSlot x_valueName dp y_kind y_value y_parent y_name y_slotOf y_placeOf y_complete y_openNode y_openType y_openCount y_openNames y_openChoice y_nextName y_wantsName y_wantsTag) (hk : k < P) (hP : P ≤ 96) {b q : Nat} (hb : sp_S x_text p b) (hbL : b < L) (hpL : p ≤ L) (eb : y_begin k = nI b) (ee : y_end k = nI q) (ew : y_whole k = 1) (c : x_text b = 16) (hW : ss_W x_text L (b + 1) q)
    (H : ∀ (a nx wt vs vn : Int32) (om om1 : Nat → Int32), br_F slot L (k + 1) (q + 1) 4 (d + 1) N g x_text x_typeKind x_fieldCount x_fieldName x_fieldType y_begin y_end x_nodeKind x_nodeValue x_nodeParent x_nodeName x_nodeSlot x_nodeStart x_nodeTag x_completeCount x_openNode x_openSlot om vs vn dp y_kind y_value y_parent y_name y_slotOf y_placeOf y_complete y_openNode y_openType y_openCount om1 y_openChoice nx y_wantsName wt → bo_O slot (q + 1) (k + 1) (nI L, nI N, x_bound, 0, -1, md_x 4, a, nI b, 0, 0, vs, vn, nI (d + 1), x_outputLength, x_text, x_typeKind, x_typeDetail, x_typeLeast, x_typeMost, x_fieldCount, x_fieldName, x_fieldType, x_fieldNeeded, x_tagType, x_nodeKind, x_nodeValue, x_nodeParent, x_nodeName, x_nodeSlot, x_nodeStart, x_nodeTag, x_completeCount, x_openNode, x_openSlot, om, x_openNext, x_openComma, x_output) (nI L, nI P, y_bad, nI N, 0, -1, 0, nI (d + 1), nx, y_wantsName, wt, x_outputLength, y_waiting, y_scaled, x_typeKind, y_typeA, y_typeB, y_typeC, x_fieldName, x_fieldType, y_fields, y_tags, x_fieldNeeded, x_text, y_begin, y_end, y_inside, y_whole, y_kind, y_value, y_parent, y_name, y_slotOf, y_placeOf, y_complete, y_openNode, y_openType, y_openCount, om1, y_openChoice, x_output, y_todo)) : bo_O slot p k (nI L, nI N, x_bound, 0, -1, md_x x, x_at, x_tokenStart, x_textCount, x_escaped, x_valueSlot, x_valueName, nI (d + 1), x_outputLength, x_text, x_typeKind, x_typeDetail, x_typeLeast, x_typeMost, x_fieldCount, x_fieldName, x_fieldType, x_fieldNeeded, x_tagType, x_nodeKind, x_nodeValue, x_nodeParent, x_nodeName, x_nodeSlot, x_nodeStart, x_nodeTag, x_completeCount, x_openNode, x_openSlot, x_openNames, x_openNext, x_openComma, x_output) (nI L, nI P, y_bad, nI N, 0, -1, 0, nI (d + 1), y_nextName, y_wantsName, y_wantsTag, x_outputLength, y_waiting, y_scaled, x_typeKind, y_typeA, y_typeB, y_typeC, x_fieldName, x_fieldType, y_fields, y_tags, x_fieldNeeded, x_text, y_begin, y_end, y_inside, y_whole, y_kind, y_value, y_parent, y_name, y_slotOf, y_placeOf, y_complete, y_openNode, y_openType, y_openCount, y_openNames, y_openChoice, x_output, y_todo) := by
  have hL := hT.1
  obtain ⟨⟨e1, e2, e3, e4, e5, e6⟩, hA, hd6, hlv, hc, hbg, hx⟩ := F
  have hN := hA.1
  obtain ⟨hqL, q16, mu, hmu⟩ := hW
  have hbq : b + 1 ≤ q := ss_R_le hmu
  have bg' := bg_s hbg (by omega) hb.1 (by omega : b < q + 1) (by omega) eb
  have ed : (nI d).toNatClampNeg = d := nI_clamp (by omega)
  obtain ⟨n, s, hn, hs, eo, eo', edp, et, esl, K⟩ := hlv d (by omega)
  have en : (nI n).toNatClampNeg = n := nI_clamp (by omega)
  have hg : g (d + 1) = 10 := by
    rcases hx with w | w | w | w | w | w | w | w | w | w
    all_goals first | exact w.2.2.1 | (have := w.1; omega)
  have wn1 : y_wantsName = 1 := by
    rcases hx with w | w | w | w | w | w | w | w | w | w
    all_goals first | exact w.2.2.2.1 | (have := w.1; omega)
  have wt0 : y_wantsTag = 0 := by
    rcases hx with w | w | w | w | w | w | w | w | w | w
    all_goals first | exact w.2.2.2.2.1 | (have := w.1; omega)
  rcases K with ⟨g1, -⟩ | ⟨g1, k1, eM', ⟨M, hM, eM, hch⟩, K⟩
  · rw [hg] at g1; exact absurd g1 (by decide)
  -- the component up to the last quote
  obtain ⟨a0, ha0⟩ : ∃ a, bx_R p (nI L, nI N, x_bound, 0, -1, md_x x, x_at, x_tokenStart, x_textCount, x_escaped, x_valueSlot, x_valueName, nI (d + 1), x_outputLength, x_text, x_typeKind, x_typeDetail, x_typeLeast, x_typeMost, x_fieldCount, x_fieldName, x_fieldType, x_fieldNeeded, x_tagType, x_nodeKind, x_nodeValue, x_nodeParent, x_nodeName, x_nodeSlot, x_nodeStart, x_nodeTag, x_completeCount, x_openNode, x_openSlot, x_openNames, x_openNext, x_openComma, x_output) b (nI L, nI N, x_bound, 0, -1, md_x x, a, x_tokenStart, x_textCount, x_escaped, x_valueSlot, x_valueName, nI (d + 1), x_outputLength, x_text, x_typeKind, x_typeDetail, x_typeLeast, x_typeMost, x_fieldCount, x_fieldName, x_fieldType, x_fieldNeeded, x_tagType, x_nodeKind, x_nodeValue, x_nodeParent, x_nodeName, x_nodeSlot, x_nodeStart, x_nodeTag, x_completeCount, x_openNode, x_openSlot, x_openNames, x_openNext, x_openComma, x_output) := bx_at (d := d + 1) hL hb (by omega)
  have hx1 : bx_R b (nI L, nI N, x_bound, 0, -1, md_x x, a0, x_tokenStart, x_textCount, x_escaped, x_valueSlot, x_valueName, nI (d + 1), x_outputLength, x_text, x_typeKind, x_typeDetail, x_typeLeast, x_typeMost, x_fieldCount, x_fieldName, x_fieldType, x_fieldNeeded, x_tagType, x_nodeKind, x_nodeValue, x_nodeParent, x_nodeName, x_nodeSlot, x_nodeStart, x_nodeTag, x_completeCount, x_openNode, x_openSlot, x_openNames, x_openNext, x_openComma, x_output) (b + 1) (nI L, nI N, x_bound, 0, -1, 6, nI b, nI b, 0, 0, x_valueSlot, x_valueName, nI (d + 1), x_outputLength, x_text, x_typeKind, x_typeDetail, x_typeLeast, x_typeMost, x_fieldCount, x_fieldName, x_fieldType, x_fieldNeeded, x_tagType, x_nodeKind, x_nodeValue, x_nodeParent, x_nodeName, x_nodeSlot, x_nodeStart, x_nodeTag, x_completeCount, x_openNode, x_openSlot, x_openNames, x_openNext, x_openComma, x_output) := by
    refine bx_1 hbL hL _ (fun Q q => ?_)
    rw [c]
    refine rc_nm ?_ q
    rcases hx23 with rfl | rfl
    · exact Or.inl rfl
    · exact Or.inr rfl
  obtain ⟨a1, ha1⟩ : ∃ a, bx_R (b + 1) (nI L, nI N, x_bound, 0, -1, 6, nI b, nI b, 0, 0, x_valueSlot, x_valueName, nI (d + 1), x_outputLength, x_text, x_typeKind, x_typeDetail, x_typeLeast, x_typeMost, x_fieldCount, x_fieldName, x_fieldType, x_fieldNeeded, x_tagType, x_nodeKind, x_nodeValue, x_nodeParent, x_nodeName, x_nodeSlot, x_nodeStart, x_nodeTag, x_completeCount, x_openNode, x_openSlot, x_openNames, x_openNext, x_openComma, x_output) q (nI L, nI N, x_bound, 0, -1, 6, a, nI b, 0, 0, x_valueSlot, x_valueName, nI (d + 1), x_outputLength, x_text, x_typeKind, x_typeDetail, x_typeLeast, x_typeMost, x_fieldCount, x_fieldName, x_fieldType, x_fieldNeeded, x_tagType, x_nodeKind, x_nodeValue, x_nodeParent, x_nodeName, x_nodeSlot, x_nodeStart, x_nodeTag, x_completeCount, x_openNode, x_openSlot, x_openNames, x_openNext, x_openComma, x_output) := bx_nu hL mu (b + 1) q (nI b) hmu
  have X1 : ∀ u' : SX, (∀ Q : SX → Prop, Q u' → wpX_endName Q (nI L, nI N, x_bound, 0, -1, 6, nI q, nI b, 0, 0, x_valueSlot, x_valueName, nI (d + 1), x_outputLength, x_text, x_typeKind, x_typeDetail, x_typeLeast, x_typeMost, x_fieldCount, x_fieldName, x_fieldType, x_fieldNeeded, x_tagType, x_nodeKind, x_nodeValue, x_nodeParent, x_nodeName, x_nodeSlot, x_nodeStart, x_nodeTag, x_completeCount, x_openNode, x_openSlot, x_openNames, x_openNext, x_openComma, x_output)) → bx_R p (nI L, nI N, x_bound, 0, -1, md_x x, x_at, x_tokenStart, x_textCount, x_escaped, x_valueSlot, x_valueName, nI (d + 1), x_outputLength, x_text, x_typeKind, x_typeDetail, x_typeLeast, x_typeMost, x_fieldCount, x_fieldName, x_fieldType, x_fieldNeeded, x_tagType, x_nodeKind, x_nodeValue, x_nodeParent, x_nodeName, x_nodeSlot, x_nodeStart, x_nodeTag, x_completeCount, x_openNode, x_openSlot, x_openNames, x_openNext, x_openComma, x_output) (q + 1) u' := by
    intro u' h
    refine bx_T ha0 (bx_T hx1 (bx_T ha1 (bx_1 hqL hL u' (fun Q w => ?_))))
    rw [q16]
    exact rc_str (Or.inl rfl) (sc_q6 (h Q w))
  have Y1 : ∀ v' : SY, (∀ Q : SY → Prop, Q v' → wpY_bindName Q (nI L, nI P, y_bad, nI N, 0, -1, 0, nI (d + 1), y_nextName, y_wantsName, y_wantsTag, x_outputLength, y_waiting, y_scaled, x_typeKind, y_typeA, y_typeB, y_typeC, x_fieldName, x_fieldType, y_fields, y_tags, x_fieldNeeded, x_text, y_begin, y_end, y_inside, y_whole, y_kind, y_value, y_parent, y_name, y_slotOf, y_placeOf, y_complete, y_openNode, y_openType, y_openCount, y_openNames, y_openChoice, x_output, y_todo) (nI k)) → by_R slot k (nI L, nI P, y_bad, nI N, 0, -1, 0, nI (d + 1), y_nextName, y_wantsName, y_wantsTag, x_outputLength, y_waiting, y_scaled, x_typeKind, y_typeA, y_typeB, y_typeC, x_fieldName, x_fieldType, y_fields, y_tags, x_fieldNeeded, x_text, y_begin, y_end, y_inside, y_whole, y_kind, y_value, y_parent, y_name, y_slotOf, y_placeOf, y_complete, y_openNode, y_openType, y_openCount, y_openNames, y_openChoice, x_output, y_todo) (k + 1) v' := by
    intro v' h
    refine by_1 hk hP v' (fun Q w => yp_in (d := d + 1) (by omega) (by omega) eb ?_)
    have yk := e1 n hn
    rw [c, nI_pred, ed, eo', en, yk, k1]
    exact br_f (nI_ne0 (by omega) (by omega)) (br_f (by decide) (br_f (by decide) (br_f (by decide) (br_f (by decide) ⟨vp_in_nI (by omega) (by decide), vp_in_nI (by omega) (by decide), br_f (by decide) (br_f (by rw [wn1]; decide) (h Q w))⟩))))
  -- a record's fields
  have main : ∀ r, r < 12 → x_openSlot d = nI r → x_typeKind r = 5 → bo_O slot p k (nI L, nI N, x_bound, 0, -1, md_x x, x_at, x_tokenStart, x_textCount, x_escaped, x_valueSlot, x_valueName, nI (d + 1), x_outputLength, x_text, x_typeKind, x_typeDetail, x_typeLeast, x_typeMost, x_fieldCount, x_fieldName, x_fieldType, x_fieldNeeded, x_tagType, x_nodeKind, x_nodeValue, x_nodeParent, x_nodeName, x_nodeSlot, x_nodeStart, x_nodeTag, x_completeCount, x_openNode, x_openSlot, x_openNames, x_openNext, x_openComma, x_output) (nI L, nI P, y_bad, nI N, 0, -1, 0, nI (d + 1), y_nextName, y_wantsName, y_wantsTag, x_outputLength, y_waiting, y_scaled, x_typeKind, y_typeA, y_typeB, y_typeC, x_fieldName, x_fieldType, y_fields, y_tags, x_fieldNeeded, x_text, y_begin, y_end, y_inside, y_whole, y_kind, y_value, y_parent, y_name, y_slotOf, y_placeOf, y_complete, y_openNode, y_openType, y_openCount, y_openNames, y_openChoice, x_output, y_todo) := by
    intro r hr er so5
    obtain ⟨eF, m, hm4, hm, hfs, hdis⟩ := (hT.2.2 r hr).2.2.2.2.1 so5
    have hmY : y_fields r = nI m := eF.trans hm
    rcases gd_dec x_text b q with ⟨j, hgd⟩ | hng
    · have uniq : ∀ j', gd_N x_text b q j' → j' = j := fun j' h' => hh_i (by have := h'.2.1; omega) (by have := hgd.2.1; omega) (h'.2.2.symm.trans hgd.2.2)
      by_cases bad : ff_F x_fieldName r (nI j) m 0 = -1 ∨ M.testBit j = true
      · refine bo_fault hT (f := 7) (z := nI q) (by decide) (X1 (nI L, nI N, x_bound, 7, nI q, 5, nI q, nI b, 0, 0, x_valueSlot, x_valueName, nI (d + 1), x_outputLength, x_text, x_typeKind, x_typeDetail, x_typeLeast, x_typeMost, x_fieldCount, x_fieldName, x_fieldType, x_fieldNeeded, x_tagType, x_nodeKind, x_nodeValue, x_nodeParent, x_nodeName, x_nodeSlot, x_nodeStart, x_nodeTag, x_completeCount, x_openNode, x_openSlot, x_openNames, x_openNext, x_openComma, x_output) (fun Q w => en_rc (by omega) (by omega) hgd hr er hm4 hm hM eM (fun _ => w) (fun i hi f1 z => ?_))) (Y1 (nI L, nI P, y_bad, nI N, 7, nI q, 0, nI (d + 1), nI j, y_wantsName, y_wantsTag, x_outputLength, y_waiting, y_scaled, x_typeKind, y_typeA, y_typeB, y_typeC, x_fieldName, x_fieldType, y_fields, y_tags, x_fieldNeeded, x_text, y_begin, y_end, y_inside, y_whole, y_kind, y_value, y_parent, y_name, y_slotOf, y_placeOf, y_complete, y_openNode, y_openType, y_openCount, y_openNames, y_openChoice, x_output, y_todo) (fun Q w => bn_rc (by omega) (by omega) hbq (by omega) ew eb ee hr (et.trans er) hm4 hmY hM (eM'.trans eM) (fun z => ?_) (fun j' h' _ => ?_) (fun j' h' i hi f1 z => ?_)))
        · exfalso
          rcases bad with w1 | w1
          · rw [w1] at f1; exact hh_m1' (by omega) f1
          · rw [w1] at z; exact absurd z (by decide)
        · exfalso
          rcases z with z | z | z
          · exact z hgd.1
          · rw [hgd.2.2] at z; exact nI_pos (by have := hgd.2.1; omega) z
          · rw [hgd.2.2] at z; exact nI_ge hgd.2.1 (by decide) z
        · rw [uniq j' h']; exact w
        · exfalso
          have := uniq j' h'; subst this
          rcases bad with w1 | w1
          · rw [w1] at f1; exact hh_m1' (by omega) f1
          · rw [w1] at z; exact absurd z (by decide)
      · have nb : M.testBit j = false := by
          cases w : M.testBit j
          · rfl
          · exact absurd (Or.inr w) bad
        rcases ff_S x_fieldName r (nI j) m 0 with ⟨f1, -⟩ | ⟨i, -, hi, f1, f2⟩
        · exact absurd (Or.inl f1) bad
        have hi' : i < m := by omega
        have hj := hgd.2.1
        refine bo_step (X1 (nI L, nI N, x_bound, 0, -1, md_x 4, nI q, nI b, 0, 0, x_fieldType (4 * r + i), nI j, nI (d + 1), x_outputLength, x_text, x_typeKind, x_typeDetail, x_typeLeast, x_typeMost, x_fieldCount, x_fieldName, x_fieldType, x_fieldNeeded, x_tagType, x_nodeKind, x_nodeValue, x_nodeParent, x_nodeName, x_nodeSlot, x_nodeStart, x_nodeTag, x_completeCount, x_openNode, x_openSlot, upd x_openNames d (nI (M ||| 2 ^ j)), x_openNext, x_openComma, x_output) (fun Q w => en_rc (by omega) (by omega) hgd hr er hm4 hm hM eM (fun z => absurd z bad) (fun i' hi2 f1' _ => ?_))) (Y1 (nI L, nI P, y_bad, nI N, 0, -1, 0, nI (d + 1), nI j, y_wantsName, y_wantsTag, x_outputLength, y_waiting, y_scaled, x_typeKind, y_typeA, y_typeB, y_typeC, x_fieldName, x_fieldType, y_fields, y_tags, x_fieldNeeded, x_text, y_begin, y_end, y_inside, y_whole, y_kind, y_value, y_parent, y_name, y_slotOf, y_placeOf, y_complete, y_openNode, y_openType, y_openCount, upd y_openNames d (nI (M ||| 2 ^ j)), y_openChoice, x_output, y_todo) (fun Q w => bn_rc (by omega) (by omega) hbq (by omega) ew eb ee hr (et.trans er) hm4 hmY hM (eM'.trans eM) (fun z => ?_) (fun j' h' z => ?_) (fun j' h' i' hi2 f1' z => ?_))) (H _ _ _ _ _ _ _ ?_)
        · have : 4 * r + i' = 4 * r + i := hh_i (by omega) (by omega) (f1'.symm.trans f1)
          rw [this]; exact w
        · exfalso
          rcases z with z | z | z
          · exact z hgd.1
          · rw [hgd.2.2] at z; exact nI_pos (by omega) z
          · rw [hgd.2.2] at z; exact nI_ge hj (by decide) z
        · exfalso; have := uniq j' h'; subst this; exact bad z
        · have := uniq j' h'; subst this; exact w
        · refine ⟨⟨e1, e2, e3, e4, e5, e6⟩, hA, hd6, fun l hl => ?_, cm_s hc, bg', ?_⟩
          · by_cases z : l = d
            · subst z
              refine ⟨n, s, hn, hs, eo, eo', edp, et, esl, Or.inr ⟨g1, k1, ?_, ⟨M ||| 2 ^ j, (bt_l M hM j hj).1, pk_us, fun c' hc' pc => ?_⟩, K⟩⟩
              · rw [pk_us, pk_us]
              · obtain ⟨i2, h1, h2, h3⟩ := hch c' hc' pc
                exact ⟨i2, h1, h2, bt_k M hM j hj i2 h1 h3⟩
            · exact lv_c (hlv l hl) rfl rfl rfl (pk_un z) rfl rfl rfl (pk_un z) rfl
          · refine Or.inr (Or.inr (Or.inr (Or.inr (Or.inr (Or.inr (Or.inr (Or.inr (Or.inl ⟨rfl, by omega, hg, ?_, wt0, n, r, m, i, j, M ||| 2 ^ j, eo, hn, er, hr, hm, hm4, hi', hj, f2, rfl, rfl, rfl, pk_us, (bt_l M hM j hj).1, (bt_l M hM j hj).2, fun c' hc' pc w => ?_⟩))))))))
            · show ¬ x_openSlot d = -1
              rw [er]; exact hh_m1 (by omega)
            · obtain ⟨i2, h1, h2, h3⟩ := hch c' hc' pc
              have : i2 = j := hh_i (by omega) (by omega) (h2.symm.trans w)
              subst this
              rw [nb] at h3; exact absurd h3 (by decide)
    · refine bo_fault hT (f := 7) (z := nI q) (by decide) (X1 (nI L, nI N, x_bound, 7, nI q, 5, nI q, nI b, 0, 0, x_valueSlot, x_valueName, nI (d + 1), x_outputLength, x_text, x_typeKind, x_typeDetail, x_typeLeast, x_typeMost, x_fieldCount, x_fieldName, x_fieldType, x_fieldNeeded, x_tagType, x_nodeKind, x_nodeValue, x_nodeParent, x_nodeName, x_nodeSlot, x_nodeStart, x_nodeTag, x_completeCount, x_openNode, x_openSlot, x_openNames, x_openNext, x_openComma, x_output) (fun Q w => en_no (by omega) hbq (by omega) hng w)) (Y1 (nI L, nI P, y_bad, nI N, 7, nI q, 0, nI (d + 1), x_text (b + 1) - 21, y_wantsName, y_wantsTag, x_outputLength, y_waiting, y_scaled, x_typeKind, y_typeA, y_typeB, y_typeC, x_fieldName, x_fieldType, y_fields, y_tags, x_fieldNeeded, x_text, y_begin, y_end, y_inside, y_whole, y_kind, y_value, y_parent, y_name, y_slotOf, y_placeOf, y_complete, y_openNode, y_openType, y_openCount, y_openNames, y_openChoice, x_output, y_todo) (fun Q w => bn_rc (by omega) (by omega) hbq (by omega) ew eb ee hr (et.trans er) hm4 hmY hM (eM'.trans eM) (fun _ => w) (fun j' h' _ => ?_) (fun j' h' i hi f1 z => ?_)))
      all_goals
        exfalso
        rcases hng with z1 | z1 | z1
        · exact z1 h'.1
        · rw [h'.2.2] at z1; exact nI_pos (by have := h'.2.1; omega) z1
        · rw [h'.2.2] at z1; exact nI_ge h'.2.1 (by decide) z1
  rcases K with ⟨so5, es, ech, etg⟩ | ⟨so6, ech, es, etg, -⟩ | ⟨so6, ech, r, q', hr, so5, es, hq', etg⟩
  · exact main s hs es so5
  · have TA := ((hT.2.2 s hs).2.2.2.2.2.1 so6).1
    have ph : ph_F (d + 1) k 1 x_openNode x_nodeStart y_begin := by
      rcases hx with w | w | w | w | w | w | w | w | w | w
      all_goals first | exact w.2.2.2.2.2 es | exact absurd es w.2.2.2.2.2 | (have := w.1; omega)
    rcases gd_dec x_text b q with ⟨j, hgd⟩ | hng
    · have uniq : ∀ j', gd_N x_text b q j' → j' = j := fun j' h' => hh_i (by have := h'.2.1; omega) (by have := hgd.2.1; omega) (h'.2.2.symm.trans hgd.2.2)
      have nng : (q ≠ b + 2 ∨ x_text (b + 1) - 21 < 0 ∨ nI 6 ≤ x_text (b + 1) - 21) → False := by
        intro z
        rcases z with z | z | z
        · exact z hgd.1
        · rw [hgd.2.2] at z; exact nI_pos (by have := hgd.2.1; omega) z
        · rw [hgd.2.2] at z; exact nI_ge hgd.2.1 (by decide) z
      by_cases ok : nI j = x_typeDetail s
      · refine bo_step (X1 (nI L, nI N, x_bound, 0, -1, md_x 4, nI q, nI b, 0, 0, x_valueSlot, x_valueName, nI (d + 1), x_outputLength, x_text, x_typeKind, x_typeDetail, x_typeLeast, x_typeMost, x_fieldCount, x_fieldName, x_fieldType, x_fieldNeeded, x_tagType, x_nodeKind, x_nodeValue, x_nodeParent, x_nodeName, x_nodeSlot, x_nodeStart, x_nodeTag, x_completeCount, x_openNode, x_openSlot, x_openNames, x_openNext, x_openComma, x_output) (fun Q w => en_ch (by omega) (by omega) hgd eo (by omega) esl hs es (fun _ => w) (fun z => absurd ok z))) (Y1 (nI L, nI P, y_bad, nI N, 0, -1, 0, nI (d + 1), y_nextName, y_wantsName, 1, x_outputLength, y_waiting, y_scaled, x_typeKind, y_typeA, y_typeB, y_typeC, x_fieldName, x_fieldType, y_fields, y_tags, x_fieldNeeded, x_text, y_begin, y_end, y_inside, y_whole, y_kind, y_value, y_parent, y_name, y_slotOf, y_placeOf, y_complete, y_openNode, y_openType, y_openCount, y_openNames, y_openChoice, x_output, y_todo) (fun Q w => bn_ch (by omega) (by omega) hbq (by omega) ew eb ee hs (et.trans es) ech (fun z => (nng z).elim) (fun j' h' z => ?_) (fun j' h' _ => w))) (H _ _ _ _ _ _ _ ?_)
        · exfalso; rw [uniq j' h', TA] at z; exact z ok
        · obtain ⟨n', K', b', p1, p2, p3, p4, p5⟩ := ph
          exact ⟨⟨e1, e2, e3, e4, e5, e6⟩, hA, hd6, hlv, cm_s hc, bg', Or.inr (Or.inr (Or.inr (Or.inr (Or.inr (Or.inr (Or.inr (Or.inl ⟨rfl, by omega, hg, es, rfl, n', K', b', p1, p2, by omega, p4, p5⟩)))))))⟩
      · refine bo_fault hT (f := 7) (z := nI q) (by decide) (X1 (nI L, nI N, x_bound, 7, nI q, 5, nI q, nI b, 0, 0, x_valueSlot, x_valueName, nI (d + 1), x_outputLength, x_text, x_typeKind, x_typeDetail, x_typeLeast, x_typeMost, x_fieldCount, x_fieldName, x_fieldType, x_fieldNeeded, x_tagType, x_nodeKind, x_nodeValue, x_nodeParent, x_nodeName, x_nodeSlot, x_nodeStart, x_nodeTag, x_completeCount, x_openNode, x_openSlot, x_openNames, x_openNext, x_openComma, x_output) (fun Q w => en_ch (by omega) (by omega) hgd eo (by omega) esl hs es (fun z => absurd z ok) (fun _ => w))) (Y1 (nI L, nI P, y_bad, nI N, 7, nI q, 0, nI (d + 1), y_nextName, y_wantsName, 1, x_outputLength, y_waiting, y_scaled, x_typeKind, y_typeA, y_typeB, y_typeC, x_fieldName, x_fieldType, y_fields, y_tags, x_fieldNeeded, x_text, y_begin, y_end, y_inside, y_whole, y_kind, y_value, y_parent, y_name, y_slotOf, y_placeOf, y_complete, y_openNode, y_openType, y_openCount, y_openNames, y_openChoice, x_output, y_todo) (fun Q w => bn_ch (by omega) (by omega) hbq (by omega) ew eb ee hs (et.trans es) ech (fun z => (nng z).elim) (fun j' h' z => w) (fun j' h' z => ?_)))
        exfalso; rw [uniq j' h', TA] at z; exact ok z
    · refine bo_fault hT (f := 7) (z := nI q) (by decide) (X1 (nI L, nI N, x_bound, 7, nI q, 5, nI q, nI b, 0, 0, x_valueSlot, x_valueName, nI (d + 1), x_outputLength, x_text, x_typeKind, x_typeDetail, x_typeLeast, x_typeMost, x_fieldCount, x_fieldName, x_fieldType, x_fieldNeeded, x_tagType, x_nodeKind, x_nodeValue, x_nodeParent, x_nodeName, x_nodeSlot, x_nodeStart, x_nodeTag, x_completeCount, x_openNode, x_openSlot, x_openNames, x_openNext, x_openComma, x_output) (fun Q w => en_no (by omega) hbq (by omega) hng w)) (Y1 (nI L, nI P, y_bad, nI N, 7, nI q, 0, nI (d + 1), y_nextName, y_wantsName, 1, x_outputLength, y_waiting, y_scaled, x_typeKind, y_typeA, y_typeB, y_typeC, x_fieldName, x_fieldType, y_fields, y_tags, x_fieldNeeded, x_text, y_begin, y_end, y_inside, y_whole, y_kind, y_value, y_parent, y_name, y_slotOf, y_placeOf, y_complete, y_openNode, y_openType, y_openCount, y_openNames, y_openChoice, x_output, y_todo) (fun Q w => bn_ch (by omega) (by omega) hbq (by omega) ew eb ee hs (et.trans es) ech (fun _ => w) (fun j' h' z => w) (fun j' h' z => ?_)))
      exfalso
      rcases hng with z1 | z1 | z1
      · exact z1 h'.1
      · rw [h'.2.2] at z1; exact nI_pos (by have := h'.2.1; omega) z1
      · rw [h'.2.2] at z1; exact nI_ge h'.2.1 (by decide) z1
  · exact main r hr es so5
end
