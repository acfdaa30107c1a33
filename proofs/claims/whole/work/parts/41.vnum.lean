/-! the bind: numbers as values -/
section
variable {x_bound x_at x_tokenStart x_textCount x_escaped x_valueSlot x_valueName x_outputLength : Int32} {x_text x_typeKind x_typeDetail x_typeLeast x_typeMost x_fieldCount x_fieldName x_fieldType x_fieldNeeded x_tagType x_nodeKind x_nodeValue x_nodeParent x_nodeName x_nodeSlot x_nodeStart x_nodeTag x_completeCount x_openNode x_openSlot x_openNames x_openNext x_openComma x_output : Nat → Int32} {y_bad y_nextName y_wantsName y_wantsTag y_waiting y_scaled : Int32} {y_typeA y_typeB y_typeC y_fields y_tags y_begin y_end y_inside y_whole y_kind y_value y_parent y_name y_slotOf y_placeOf y_complete y_openNode y_openType y_openCount y_openNames y_openChoice y_todo : Nat → Int32} {L P k p x d N : Nat} {g : Nat → Int32} {dp : Nat → Nat} {slot : Int32}
theorem kn_K {qa S c : Int32} {K : Nat} (hB : sp_B c) (h : kc_R qa S c K) : (K = 0 ∧ S = 1 ∧ ¬ qa = 8) ∨ (K = 6 ∧ qa = 8) := by
  have no : ∀ e : Nat, 9 < e → e < 1000 → ¬ e = 17 → ¬ c = nI e := by
    intro e h1 h2 h3 z
    rcases hB with q | q
    · exact hh_9 q.2 h1 h2 z
    · rw [q] at z
      exact h3 (hh_i (by omega) (by decide) (m := 17) z.symm)
  rcases h with q | q | q | q | q | q | q
  · exact Or.inl ⟨q.1, q.2.2⟩
  · exact absurd q.2.1 (no 16 (by decide) (by decide) (by decide))
  · exact absurd q.2.1 (fun z => z.elim (no 28 (by decide) (by decide) (by decide)) (no 29 (by decide) (by decide) (by decide)))
  · exact absurd q.2.1 (no 12 (by decide) (by decide) (by decide))
  · exact absurd q.2.1 (no 10 (by decide) (by decide) (by decide))
  · exact absurd q.2.1 (no 27 (by decide) (by decide) (by decide))
  · exact Or.inr ⟨q.1, q.2.2⟩
theorem st_num (hT : rl_T L x_text x_typeKind x_typeDetail x_typeLeast x_typeMost x_fieldCount x_fieldName x_fieldType x_fieldNeeded x_tagType y_typeA y_typeB y_typeC y_fields y_tags) (F : br_F slot L k p x d N g x_text x_typeKind x_fieldCount x_fieldName x_fieldType y_begin y_end x_nodeKind x_nodeValue x_nodeParent x_nodeName x_nodeSlot x_nodeStart x_nodeTag x_completeCount x_openNode x_openSlot x_openNames x_valueSlot x_valueName dp y_kind y_value y_parent y_name y_slotOf y_placeOf y_complete y_openNode y_openType y_openCount y_openNames y_openChoice y_nextName y_wantsName y_wantsTag) (hx01 : x < 2) (hnt : 0 < d → ¬ x_openSlot (d - 1) = -1) (hslot : ∃ a, a < 12 ∧ slot = nI a) (hk : k < P) (hP : P ≤ 96) {b q : Nat} (hb : sp_S x_text p b) (hbL : b < L) (hpL : p ≤ L) (eb : y_begin k = nI b) (ee : y_end k = nI q) (ew : y_whole k = 1) (hB : sp_B (x_text b)) (hW : ns_W x_text L b (q + 1))
    (H : ∀ {qN : Nat} {qdp : Nat → Nat} {qs1 qs2 qs3 qs4 qs5 qs6 qw1 qw2 qw3 qw4 : Int32} {qf1 qf2 qf3 qf4 qf5 qf6 qf7 qf8 qf9 qf10 qf11 qh1 qh2 qh3 qh4 qh5 qh6 qh7 qh8 qh9 qh10 qh11 qh12 : Nat → Int32}, br_F slot L (k + 1) (q + 1) 5 d qN g x_text x_typeKind x_fieldCount x_fieldName x_fieldType y_begin y_end qf1 qf2 qf3 qf4 qf5 qf6 qf7 qf8 qf9 qf10 qf11 qs5 qs6 qdp qh1 qh2 qh3 qh4 qh5 qh6 qh7 qh8 qh9 qh10 qh11 qh12 qw1 qw2 qw3 → bo_O slot (q + 1) (k + 1) (nI L, nI qN, x_bound, 0, -1, md_x (5), qs1, qs2, qs3, qs4, qs5, qs6, nI (d), x_outputLength, x_text, x_typeKind, x_typeDetail, x_typeLeast, x_typeMost, x_fieldCount, x_fieldName, x_fieldType, x_fieldNeeded, x_tagType, qf1, qf2, qf3, qf4, qf5, qf6, qf7, qf8, qf9, qf10, qf11, x_openNext, x_openComma, x_output) (nI L, nI P, y_bad, nI qN, 0, -1, 0, nI (d), qw1, qw2, qw3, x_outputLength, y_waiting, qw4, x_typeKind, y_typeA, y_typeB, y_typeC, x_fieldName, x_fieldType, y_fields, y_tags, x_fieldNeeded, x_text, y_begin, y_end, y_inside, y_whole, qh1, qh2, qh3, qh4, qh5, qh6, qh7, qh8, qh9, qh10, qh11, qh12, x_output, y_todo)) : bo_O slot p k (nI L, nI N, x_bound, 0, -1, md_x x, x_at, x_tokenStart, x_textCount, x_escaped, x_valueSlot, x_valueName, nI d, x_outputLength, x_text, x_typeKind, x_typeDetail, x_typeLeast, x_typeMost, x_fieldCount, x_fieldName, x_fieldType, x_fieldNeeded, x_tagType, x_nodeKind, x_nodeValue, x_nodeParent, x_nodeName, x_nodeSlot, x_nodeStart, x_nodeTag, x_completeCount, x_openNode, x_openSlot, x_openNames, x_openNext, x_openComma, x_output) (nI L, nI P, y_bad, nI N, 0, -1, 0, nI d, y_nextName, y_wantsName, y_wantsTag, x_outputLength, y_waiting, y_scaled, x_typeKind, y_typeA, y_typeB, y_typeC, x_fieldName, x_fieldType, y_fields, y_tags, x_fieldNeeded, x_text, y_begin, y_end, y_inside, y_whole, y_kind, y_value, y_parent, y_name, y_slotOf, y_placeOf, y_complete, y_openNode, y_openType, y_openCount, y_openNames, y_openChoice, x_output, y_todo) := by
  have hL := hT.1
  refine st_val hT F hx01 hnt hslot hk hP hb hbL eb (sb_v hB) (fun a w K x3 x4 x9 x10 x11 oc1 vl1 hI hK hp hg hD hR hdeep hN wt0 X2 Y2 => ?_)
  have hq := ns_W_le hW
  have hw := hI.2.1
  have cmw := F.2.2.2.2.1 w hw
  have hd6 := F.2.2.1
  have x1 : ¬ x11 = 0 := by
    rcases hg.2.2 with z | z
    · rw [z.1]; decide
    · exact absurd hB z.2
  -- decimals and bounds
  obtain ⟨dd, lo, hi, hdd4, hddX, hlhX, hzY⟩ : ∃ (dd : Nat) (lo hi : Int32), dd ≤ 4 ∧ (K = 0 ∧ x_typeDetail w = nI dd ∨ K = 6 ∧ dd = 0) ∧ (K = 6 ∧ lo = 0 ∧ hi = x_completeCount w - 1 ∨ K = 0 ∧ lo = x_typeLeast w ∧ hi = x_typeMost w) ∧ (x10 = 0 ∧ nI dd = y_typeA w ∧ lo = y_typeB w ∧ hi = y_typeC w ∨ ¬ x10 = 0 ∧ nI dd = 0 ∧ lo = 0 ∧ hi = y_complete w - 1) := by
    rcases kn_K hB hR with ⟨k0, s1, q8⟩ | ⟨k6, q8⟩
    · obtain ⟨t1, t2, t3, dd, hdd, edd⟩ := (hT.2.2 w hw).2.1 s1
      refine ⟨dd, x_typeLeast w, x_typeMost w, hdd, Or.inl ⟨k0, edd⟩, Or.inr ⟨k0, rfl, rfl⟩, Or.inl ⟨?_, (t1.trans edd).symm, t2.symm, t3.symm⟩⟩
      rcases hg.2.1 with z | z
      · exact absurd z.2 q8
      · exact z.1
    · refine ⟨0, 0, x_completeCount w - 1, by omega, Or.inr ⟨k6, rfl⟩, Or.inl ⟨k6, rfl, rfl⟩, Or.inr ⟨?_, rfl, rfl, ?_⟩⟩
      · rcases hg.2.1 with z | z
        · rw [z.1]; decide
        · exact absurd q8 z.2
      · rw [cmw.1]
  have K06 : K = 0 ∨ K = 6 := by
    rcases hddX with z | z
    · exact Or.inl z.1
    · exact Or.inr z.1
  have h1 : bx_R p (nI L, nI N, x_bound, 0, -1, md_x x, x_at, x_tokenStart, x_textCount, x_escaped, x_valueSlot, x_valueName, nI d, x_outputLength, x_text, x_typeKind, x_typeDetail, x_typeLeast, x_typeMost, x_fieldCount, x_fieldName, x_fieldType, x_fieldNeeded, x_tagType, x_nodeKind, x_nodeValue, x_nodeParent, x_nodeName, x_nodeSlot, x_nodeStart, x_nodeTag, x_completeCount, x_openNode, x_openSlot, x_openNames, x_openNext, x_openComma, x_output) (b + 1) (nI L, nI (N + 1), x_bound, 0, -1, xn_m (x_text b), nI b, nI b, x_textCount, x_escaped, nI a, x4, nI d, x_outputLength, x_text, x_typeKind, x_typeDetail, x_typeLeast, x_typeMost, x_fieldCount, x_fieldName, x_fieldType, x_fieldNeeded, x_tagType, upd x_nodeKind N (nI K), upd vl1 N 0, upd x_nodeParent N x3, upd x_nodeName N x4, upd x_nodeSlot N (nI w), upd x_nodeStart N (nI b), upd x_nodeTag N (-1), x_completeCount, x_openNode, x_openSlot, x_openNames, x_openNext, x_openComma, x_output) := by
    refine X2 _ (fun R r => ev_num ?_ r)
    rcases K06 with rfl | rfl
    · exact Or.inl rfl
    · exact Or.inr rfl
  obtain ⟨M, a', hM, hn2, hw2⟩ : ∃ M a', (M = 9 ∨ M = 10 ∨ M = 12 ∨ M = 15) ∧ (q + 1 < L → nn_S M (x_text (q + 1))) ∧ bx_R (b + 1) (nI L, nI (N + 1), x_bound, 0, -1, xn_m (x_text b), nI b, nI b, x_textCount, x_escaped, nI a, x4, nI d, x_outputLength, x_text, x_typeKind, x_typeDetail, x_typeLeast, x_typeMost, x_fieldCount, x_fieldName, x_fieldType, x_fieldNeeded, x_tagType, upd x_nodeKind N (nI K), upd vl1 N 0, upd x_nodeParent N x3, upd x_nodeName N x4, upd x_nodeSlot N (nI w), upd x_nodeStart N (nI b), upd x_nodeTag N (-1), x_completeCount, x_openNode, x_openSlot, x_openNames, x_openNext, x_openComma, x_output) (q + 1) (nI L, nI (N + 1), x_bound, 0, -1, M, a', nI b, x_textCount, x_escaped, nI a, x4, nI d, x_outputLength, x_text, x_typeKind, x_typeDetail, x_typeLeast, x_typeMost, x_fieldCount, x_fieldName, x_fieldType, x_fieldNeeded, x_tagType, upd x_nodeKind N (nI K), upd vl1 N 0, upd x_nodeParent N x3, upd x_nodeName N x4, upd x_nodeSlot N (nI w), upd x_nodeStart N (nI b), upd x_nodeTag N (-1), x_completeCount, x_openNode, x_openSlot, x_openNames, x_openNext, x_openComma, x_output) := xw_W hL hW (nI b)
  have h8 : ¬ M < 8 := by rcases hM with rfl | rfl | rfl | rfl <;> decide
  obtain ⟨xu, ok, sc, hRR, hX, hY⟩ : ∃ (xu : Int64) (ok sc : Int32), nu_R xu ok sc ∧ (∀ postX : Int64 → Prop, postX xu → wpX_readUnits postX (nI L, nI (N + 1), x_bound, 0, -1, 2, nI (q + 1), nI b, x_textCount, x_escaped, nI a, x4, nI d, x_outputLength, x_text, x_typeKind, x_typeDetail, x_typeLeast, x_typeMost, x_fieldCount, x_fieldName, x_fieldType, x_fieldNeeded, x_tagType, upd x_nodeKind N (nI K), upd vl1 N 0, upd x_nodeParent N x3, upd x_nodeName N x4, upd x_nodeSlot N (nI w), upd x_nodeStart N (nI b), upd x_nodeTag N (-1), x_completeCount, x_openNode, x_openSlot, x_openNames, x_openNext, x_openComma, x_output) (nI dd)) ∧ un_Y x_text y_begin y_end k (nI dd) ok sc := nu_units hL hT.2.1 hW (by omega) eb ee hdd4
  obtain ⟨rg1, rg2⟩ := nu_rg hRR lo hi
  have hok := nu_ok hRR
  have kN : upd x_nodeKind N (nI K) N = nI K := pk_us
  have sN : upd x_nodeSlot N (nI w) N = nI w := pk_us
  have k60 : (upd x_nodeKind N (nI K) N = 6 ∧ lo = 0 ∧ hi = x_completeCount w - 1) ∨ (¬ upd x_nodeKind N (nI K) N = 6 ∧ lo = x_typeLeast w ∧ hi = x_typeMost w) := by
    rw [kN]
    rcases hlhX with ⟨rfl, z1, z2⟩ | ⟨rfl, z1, z2⟩
    · exact Or.inl ⟨rfl, z1, z2⟩
    · exact Or.inr ⟨by decide, z1, z2⟩
  have d60 : (upd x_nodeKind N (nI K) N = 0 ∧ x_typeDetail w = nI dd) ∨ (¬ upd x_nodeKind N (nI K) N = 0 ∧ dd = 0) := by
    rw [kN]
    rcases hddX with ⟨rfl, z1⟩ | ⟨rfl, z1⟩
    · exact Or.inl ⟨rfl, z1⟩
    · exact Or.inr ⟨by decide, z1⟩
  have at1 : nI (q + 1) - 1 = nI q := nI_pred q
  obtain ⟨VF, pe, fin⟩ := yv_fin (K := K) (v := sc) hN hp F.1.1 F.1.2.1
  have endX : ∀ Q : SX → Prop, (lo.toInt64 ≤ xu ∧ xu ≤ hi.toInt64 → Q (nI L, nI (N + 1), x_bound, 0, -1, 2, nI (q + 1), nI b, x_textCount, x_escaped, nI a, x4, nI d, x_outputLength, x_text, x_typeKind, x_typeDetail, x_typeLeast, x_typeMost, x_fieldCount, x_fieldName, x_fieldType, x_fieldNeeded, x_tagType, upd x_nodeKind N (nI K), upd vl1 N sc, upd x_nodeParent N x3, upd x_nodeName N x4, upd x_nodeSlot N (nI w), upd x_nodeStart N (nI b), upd x_nodeTag N (-1), x_completeCount, x_openNode, x_openSlot, x_openNames, x_openNext, x_openComma, x_output)) → (¬ (lo.toInt64 ≤ xu ∧ xu ≤ hi.toInt64) → Q (nI L, nI (N + 1), x_bound, 6, nI q, 2, nI (q + 1), nI b, x_textCount, x_escaped, nI a, x4, nI d, x_outputLength, x_text, x_typeKind, x_typeDetail, x_typeLeast, x_typeMost, x_fieldCount, x_fieldName, x_fieldType, x_fieldNeeded, x_tagType, upd x_nodeKind N (nI K), upd vl1 N 0, upd x_nodeParent N x3, upd x_nodeName N x4, upd x_nodeSlot N (nI w), upd x_nodeStart N (nI b), upd x_nodeTag N (-1), x_completeCount, x_openNode, x_openSlot, x_openNames, x_openNext, x_openComma, x_output)) → wpX_endNumber Q (nI L, nI (N + 1), x_bound, 0, -1, M, nI (q + 1), nI b, x_textCount, x_escaped, nI a, x4, nI d, x_outputLength, x_text, x_typeKind, x_typeDetail, x_typeLeast, x_typeMost, x_fieldCount, x_fieldName, x_fieldType, x_fieldNeeded, x_tagType, upd x_nodeKind N (nI K), upd vl1 N 0, upd x_nodeParent N x3, upd x_nodeName N x4, upd x_nodeSlot N (nI w), upd x_nodeStart N (nI b), upd x_nodeTag N (-1), x_completeCount, x_openNode, x_openSlot, x_openNames, x_openNext, x_openComma, x_output) := by
    intro Q g1 g0
    refine ed_val hM hd6 hnt hN hw sN d60 hX (tk_units hN hw sN lo hi k60 (fun z => ?_) (fun z => ?_))
    · rw [up_up, rg2 (rg1.mp z).1]; exact g1 z
    · rw [at1]; exact g0 z
  by_cases good : lo.toInt64 ≤ xu ∧ xu ≤ hi.toInt64
  · have hx : bx_R p (nI L, nI N, x_bound, 0, -1, md_x x, x_at, x_tokenStart, x_textCount, x_escaped, x_valueSlot, x_valueName, nI d, x_outputLength, x_text, x_typeKind, x_typeDetail, x_typeLeast, x_typeMost, x_fieldCount, x_fieldName, x_fieldType, x_fieldNeeded, x_tagType, x_nodeKind, x_nodeValue, x_nodeParent, x_nodeName, x_nodeSlot, x_nodeStart, x_nodeTag, x_completeCount, x_openNode, x_openSlot, x_openNames, x_openNext, x_openComma, x_output) (q + 1) (nI L, nI (N + 1), x_bound, 0, -1, md_x 5, nI (q + 1), nI b, x_textCount, x_escaped, nI a, x4, nI d, x_outputLength, x_text, x_typeKind, x_typeDetail, x_typeLeast, x_typeMost, x_fieldCount, x_fieldName, x_fieldType, x_fieldNeeded, x_tagType, upd x_nodeKind N (nI K), upd vl1 N sc, upd x_nodeParent N x3, upd x_nodeName N x4, upd x_nodeSlot N (nI w), upd x_nodeStart N (nI b), upd x_nodeTag N (-1), x_completeCount, x_openNode, x_openSlot, x_openNames, x_openNext, x_openComma, x_output) := bx_T h1 (bx_T hw2 (bx_N hL hq.2 h8 hn2 (fun Q z => endX Q (fun _ => z) (fun y => absurd good y))))
    have hy : by_R slot k (nI L, nI P, y_bad, nI N, 0, -1, 0, nI d, y_nextName, y_wantsName, y_wantsTag, x_outputLength, y_waiting, y_scaled, x_typeKind, y_typeA, y_typeB, y_typeC, x_fieldName, x_fieldType, y_fields, y_tags, x_fieldNeeded, x_text, y_begin, y_end, y_inside, y_whole, y_kind, y_value, y_parent, y_name, y_slotOf, y_placeOf, y_complete, y_openNode, y_openType, y_openCount, y_openNames, y_openChoice, x_output, y_todo) (k + 1) (nI L, nI P, y_bad, nI (N + 1), 0, -1, 0, nI d, y_nextName, y_wantsName, y_wantsTag, x_outputLength, y_waiting, sc, x_typeKind, y_typeA, y_typeB, y_typeC, x_fieldName, x_fieldType, y_fields, y_tags, x_fieldNeeded, x_text, y_begin, y_end, y_inside, y_whole, upd y_kind N (nI K), VF, upd y_parent N x3, upd y_name N x4, upd y_slotOf N (nI w), upd y_placeOf N (nI b), y_complete, y_openNode, y_openType, oc1, y_openNames, y_openChoice, x_output, y_todo) := by
      refine Y2 _ (fun R r => yv_359 hN hw hg hD hR ⟨fun z => absurd z x1, fun _ => yn_num (by omega) hN ew ee pk_us hw hzY hY hok (fun _ => ?_) (fun z => absurd (rg1.mp good) z)⟩)
      rw [up_up]; exact fin R r
    have s1 : K = 0 → x_typeKind w = 1 := by
      intro z
      rcases kn_K hB hR with q1 | q1
      · exact q1.2.1
      · omega
    exact bo_step hx hy (H (bf_lit F hnt hN hw hbL hL hpL hb.1 (by omega) hq.2 eb hp pe hK (by omega) (by omega) s1 (fun z => absurd z (by omega)) wt0))
  · have hy : by_R slot k (nI L, nI P, y_bad, nI N, 0, -1, 0, nI d, y_nextName, y_wantsName, y_wantsTag, x_outputLength, y_waiting, y_scaled, x_typeKind, y_typeA, y_typeB, y_typeC, x_fieldName, x_fieldType, y_fields, y_tags, x_fieldNeeded, x_text, y_begin, y_end, y_inside, y_whole, y_kind, y_value, y_parent, y_name, y_slotOf, y_placeOf, y_complete, y_openNode, y_openType, y_openCount, y_openNames, y_openChoice, x_output, y_todo) (k + 1) (nI L, nI P, y_bad, nI (N + 1), 6, nI q, 0, nI d, y_nextName, y_wantsName, y_wantsTag, x_outputLength, y_waiting, sc, x_typeKind, y_typeA, y_typeB, y_typeC, x_fieldName, x_fieldType, y_fields, y_tags, x_fieldNeeded, x_text, y_begin, y_end, y_inside, y_whole, upd y_kind N (nI K), VF, upd y_parent N x3, upd y_name N x4, upd y_slotOf N (nI w), upd y_placeOf N (nI b), y_complete, y_openNode, y_openType, oc1, y_openNames, y_openChoice, x_output, y_todo) := by
      refine Y2 _ (fun R r => yv_359 hN hw hg hD hR ⟨fun z => absurd z x1, fun _ => yn_num (by omega) hN ew ee pk_us hw hzY hY hok (fun z => absurd (rg1.mpr z) good) (fun _ => ?_)⟩)
      rw [up_up]; exact fin R r
    exact ⟨6, _, _, fun post z => h1 post (hw2 post (bx_Nf hL hq.2 h8 hn2 (by decide) (fun Q y => endX Q (fun g => absurd g good) (fun _ => y)) z)), fun post z => hy post (by_F (by decide) z), rl_mk hT (Or.inl rfl)⟩
theorem st_numX (hT : rl_T L x_text x_typeKind x_typeDetail x_typeLeast x_typeMost x_fieldCount x_fieldName x_fieldType x_fieldNeeded x_tagType y_typeA y_typeB y_typeC y_fields y_tags) (F : br_F slot L k p x d N g x_text x_typeKind x_fieldCount x_fieldName x_fieldType y_begin y_end x_nodeKind x_nodeValue x_nodeParent x_nodeName x_nodeSlot x_nodeStart x_nodeTag x_completeCount x_openNode x_openSlot x_openNames x_valueSlot x_valueName dp y_kind y_value y_parent y_name y_slotOf y_placeOf y_complete y_openNode y_openType y_openCount y_openNames y_openChoice y_nextName y_wantsName y_wantsTag) (hx01 : x < 2) (hnt : 0 < d → ¬ x_openSlot (d - 1) = -1) (hslot : ∃ a, a < 12 ∧ slot = nI a) (hk : k + 1 = P) (hP : P ≤ 96) {b z : Nat} (hb : sp_S x_text p b) (hbL : b < L) (eb : y_begin k = nI b) (ew : y_whole k = 0) (hB : sp_B (x_text b)) (hX : ns_X x_text L b z) (ebad : y_bad = nI z) : bo_O slot p k (nI L, nI N, x_bound, 0, -1, md_x x, x_at, x_tokenStart, x_textCount, x_escaped, x_valueSlot, x_valueName, nI d, x_outputLength, x_text, x_typeKind, x_typeDetail, x_typeLeast, x_typeMost, x_fieldCount, x_fieldName, x_fieldType, x_fieldNeeded, x_tagType, x_nodeKind, x_nodeValue, x_nodeParent, x_nodeName, x_nodeSlot, x_nodeStart, x_nodeTag, x_completeCount, x_openNode, x_openSlot, x_openNames, x_openNext, x_openComma, x_output) (nI L, nI P, y_bad, nI N, 0, -1, 0, nI d, y_nextName, y_wantsName, y_wantsTag, x_outputLength, y_waiting, y_scaled, x_typeKind, y_typeA, y_typeB, y_typeC, x_fieldName, x_fieldType, y_fields, y_tags, x_fieldNeeded, x_text, y_begin, y_end, y_inside, y_whole, y_kind, y_value, y_parent, y_name, y_slotOf, y_placeOf, y_complete, y_openNode, y_openType, y_openCount, y_openNames, y_openChoice, x_output, y_todo) := by
  have hL := hT.1
  refine st_val hT F hx01 hnt hslot (by omega) hP hb hbL eb (sb_v hB) (fun a w K x3 x4 x9 x10 x11 oc1 vl1 hI hK hp hg hD hR hdeep hN wt0 X2 Y2 => ?_)
  have hz := ns_X_le hbL hX
  have hw := hI.2.1
  have x1 : ¬ x11 = 0 := by
    rcases hg.2.2 with z | z
    · rw [z.1]; decide
    · exact absurd hB z.2
  have K06 : K = 0 ∨ K = 6 := by
    rcases kn_K hB hR with q | q
    · exact Or.inl q.1
    · exact Or.inr q.1
  have h1 : bx_R p (nI L, nI N, x_bound, 0, -1, md_x x, x_at, x_tokenStart, x_textCount, x_escaped, x_valueSlot, x_valueName, nI d, x_outputLength, x_text, x_typeKind, x_typeDetail, x_typeLeast, x_typeMost, x_fieldCount, x_fieldName, x_fieldType, x_fieldNeeded, x_tagType, x_nodeKind, x_nodeValue, x_nodeParent, x_nodeName, x_nodeSlot, x_nodeStart, x_nodeTag, x_completeCount, x_openNode, x_openSlot, x_openNames, x_openNext, x_openComma, x_output) (b + 1) (nI L, nI (N + 1), x_bound, 0, -1, xn_m (x_text b), nI b, nI b, x_textCount, x_escaped, nI a, x4, nI d, x_outputLength, x_text, x_typeKind, x_typeDetail, x_typeLeast, x_typeMost, x_fieldCount, x_fieldName, x_fieldType, x_fieldNeeded, x_tagType, upd x_nodeKind N (nI K), upd vl1 N 0, upd x_nodeParent N x3, upd x_nodeName N x4, upd x_nodeSlot N (nI w), upd x_nodeStart N (nI b), upd x_nodeTag N (-1), x_completeCount, x_openNode, x_openSlot, x_openNames, x_openNext, x_openComma, x_output) := by
    refine X2 _ (fun R r => ev_num ?_ r)
    rcases K06 with rfl | rfl
    · exact Or.inl rfl
    · exact Or.inr rfl
  obtain ⟨M, a', hM, hn2, hw2⟩ : ∃ M a', (M = 8 ∨ M = 11 ∨ M = 13 ∨ M = 14) ∧ (z < L → nn_S M (x_text z)) ∧ bx_R (b + 1) (nI L, nI (N + 1), x_bound, 0, -1, xn_m (x_text b), nI b, nI b, x_textCount, x_escaped, nI a, x4, nI d, x_outputLength, x_text, x_typeKind, x_typeDetail, x_typeLeast, x_typeMost, x_fieldCount, x_fieldName, x_fieldType, x_fieldNeeded, x_tagType, upd x_nodeKind N (nI K), upd vl1 N 0, upd x_nodeParent N x3, upd x_nodeName N x4, upd x_nodeSlot N (nI w), upd x_nodeStart N (nI b), upd x_nodeTag N (-1), x_completeCount, x_openNode, x_openSlot, x_openNames, x_openNext, x_openComma, x_output) z (nI L, nI (N + 1), x_bound, 0, -1, M, a', nI b, x_textCount, x_escaped, nI a, x4, nI d, x_outputLength, x_text, x_typeKind, x_typeDetail, x_typeLeast, x_typeMost, x_fieldCount, x_fieldName, x_fieldType, x_fieldNeeded, x_tagType, upd x_nodeKind N (nI K), upd vl1 N 0, upd x_nodeParent N x3, upd x_nodeName N x4, upd x_nodeSlot N (nI w), upd x_nodeStart N (nI b), upd x_nodeTag N (-1), x_completeCount, x_openNode, x_openSlot, x_openNames, x_openNext, x_openComma, x_output) := xw_X hL hX (nI b)
  have h8 : ¬ M < 8 := by rcases hM with rfl | rfl | rfl | rfl <;> decide
  obtain ⟨VF, pe, fin⟩ := yv_fin (K := K) (v := v0_F (x_typeKind w) (x_text b) (y_complete w)) hN hp F.1.1 F.1.2.1
  have hy : by_R slot k (nI L, nI P, y_bad, nI N, 0, -1, 0, nI d, y_nextName, y_wantsName, y_wantsTag, x_outputLength, y_waiting, y_scaled, x_typeKind, y_typeA, y_typeB, y_typeC, x_fieldName, x_fieldType, y_fields, y_tags, x_fieldNeeded, x_text, y_begin, y_end, y_inside, y_whole, y_kind, y_value, y_parent, y_name, y_slotOf, y_placeOf, y_complete, y_openNode, y_openType, y_openCount, y_openNames, y_openChoice, x_output, y_todo) P (nI L, nI P, nI z, nI (N + 1), 0, -1, 0, nI d, y_nextName, y_wantsName, y_wantsTag, x_outputLength, y_waiting, y_scaled, x_typeKind, y_typeA, y_typeB, y_typeC, x_fieldName, x_fieldType, y_fields, y_tags, x_fieldNeeded, x_text, y_begin, y_end, y_inside, y_whole, upd y_kind N (nI K), VF, upd y_parent N x3, upd y_name N x4, upd y_slotOf N (nI w), upd y_placeOf N (nI b), y_complete, y_openNode, y_openType, oc1, y_openNames, y_openChoice, x_output, y_todo) := by
    rw [← ebad]
    subst hk
    exact Y2 _ (fun R r => yv_359 hN hw hg hD hR ⟨fun z => absurd z x1, fun _ => yn_cut (by omega) ew (fin R r)⟩)
  exact bo_cut hT hP (by omega) (fun post y => h1 post (hw2 post (bx_Nf hL hz.2 h8 hn2 (by decide) (fun Q q => ed_rej hM q) y))) hy
end
