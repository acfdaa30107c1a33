/-! the bind: n, t and f; lists and records begin -/
section
variable {x_bound x_at x_tokenStart x_textCount x_escaped x_valueSlot x_valueName x_outputLength : Int32} {x_text x_typeKind x_typeDetail x_typeLeast x_typeMost x_fieldCount x_fieldName x_fieldType x_fieldNeeded x_tagType x_nodeKind x_nodeValue x_nodeParent x_nodeName x_nodeSlot x_nodeStart x_nodeTag x_completeCount x_openNode x_openSlot x_openNames x_openNext x_openComma x_output : Nat → Int32} {y_bad y_nextName y_wantsName y_wantsTag y_waiting y_scaled : Int32} {y_typeA y_typeB y_typeC y_fields y_tags y_begin y_end y_inside y_whole y_kind y_value y_parent y_name y_slotOf y_placeOf y_complete y_openNode y_openType y_openCount y_openNames y_openChoice y_todo : Nat → Int32} {L P k p x d N : Nat} {g : Nat → Int32} {dp : Nat → Nat} {slot : Int32}
theorem st_lit (hT : rl_T L x_text x_typeKind x_typeDetail x_typeLeast x_typeMost x_fieldCount x_fieldName x_fieldType x_fieldNeeded x_tagType y_typeA y_typeB y_typeC y_fields y_tags) (F : br_F slot L k p x d N g x_text x_typeKind x_fieldCount x_fieldName x_fieldType y_begin y_end x_nodeKind x_nodeValue x_nodeParent x_nodeName x_nodeSlot x_nodeStart x_nodeTag x_completeCount x_openNode x_openSlot x_openNames x_valueSlot x_valueName dp y_kind y_value y_parent y_name y_slotOf y_placeOf y_complete y_openNode y_openType y_openCount y_openNames y_openChoice y_nextName y_wantsName y_wantsTag) (hx01 : x < 2) (hnt : 0 < d → ¬ x_openSlot (d - 1) = -1) (hslot : ∃ a, a < 12 ∧ slot = nI a) (hk : k < P) (hP : P ≤ 96) {b : Nat} (hb : sp_S x_text p b) (hbL : b < L) (hpL : p ≤ L) (eb : y_begin k = nI b) (hc : x_text b = 27 ∨ x_text b = 28 ∨ x_text b = 29)
    (H : ∀ {qN : Nat} {qdp : Nat → Nat} {qs1 qs2 qs3 qs4 qs5 qs6 qw1 qw2 qw3 qw4 : Int32} {qf1 qf2 qf3 qf4 qf5 qf6 qf7 qf8 qf9 qf10 qf11 qh1 qh2 qh3 qh4 qh5 qh6 qh7 qh8 qh9 qh10 qh11 qh12 : Nat → Int32}, br_F slot L (k + 1) (b + 1) 5 d qN g x_text x_typeKind x_fieldCount x_fieldName x_fieldType y_begin y_end qf1 qf2 qf3 qf4 qf5 qf6 qf7 qf8 qf9 qf10 qf11 qs5 qs6 qdp qh1 qh2 qh3 qh4 qh5 qh6 qh7 qh8 qh9 qh10 qh11 qh12 qw1 qw2 qw3 → bo_O slot (b + 1) (k + 1) (nI L, nI qN, x_bound, 0, -1, md_x (5), qs1, qs2, qs3, qs4, qs5, qs6, nI (d), x_outputLength, x_text, x_typeKind, x_typeDetail, x_typeLeast, x_typeMost, x_fieldCount, x_fieldName, x_fieldType, x_fieldNeeded, x_tagType, qf1, qf2, qf3, qf4, qf5, qf6, qf7, qf8, qf9, qf10, qf11, x_openNext, x_openComma, x_output) (nI L, nI P, y_bad, nI qN, 0, -1, 0, nI (d), qw1, qw2, qw3, x_outputLength, y_waiting, qw4, x_typeKind, y_typeA, y_typeB, y_typeC, x_fieldName, x_fieldType, y_fields, y_tags, x_fieldNeeded, x_text, y_begin, y_end, y_inside, y_whole, qh1, qh2, qh3, qh4, qh5, qh6, qh7, qh8, qh9, qh10, qh11, qh12, x_output, y_todo)) : bo_O slot p k (nI L, nI N, x_bound, 0, -1, md_x x, x_at, x_tokenStart, x_textCount, x_escaped, x_valueSlot, x_valueName, nI d, x_outputLength, x_text, x_typeKind, x_typeDetail, x_typeLeast, x_typeMost, x_fieldCount, x_fieldName, x_fieldType, x_fieldNeeded, x_tagType, x_nodeKind, x_nodeValue, x_nodeParent, x_nodeName, x_nodeSlot, x_nodeStart, x_nodeTag, x_completeCount, x_openNode, x_openSlot, x_openNames, x_openNext, x_openComma, x_output) (nI L, nI P, y_bad, nI N, 0, -1, 0, nI d, y_nextName, y_wantsName, y_wantsTag, x_outputLength, y_waiting, y_scaled, x_typeKind, y_typeA, y_typeB, y_typeC, x_fieldName, x_fieldType, y_fields, y_tags, x_fieldNeeded, x_text, y_begin, y_end, y_inside, y_whole, y_kind, y_value, y_parent, y_name, y_slotOf, y_placeOf, y_complete, y_openNode, y_openType, y_openCount, y_openNames, y_openChoice, x_output, y_todo) := by
  have hL := hT.1
  have hV : sp_V (x_text b) := Or.inr (Or.inr (Or.inr (Or.inr (Or.inr hc))))
  refine st_val hT F hx01 hnt hslot hk hP hb hbL eb hV (fun a w K x3 x4 x9 x10 x11 oc1 vl1 hI hK hp hg hD hR hdeep hN wt0 X2 Y2 => ?_)
  have nB : ¬ sp_B (x_text b) := by
    rcases hc with e | e | e <;> rw [e]
    all_goals
      rintro (q | q)
      · exact absurd q.2 (by decide)
      · exact absurd q (by decide)
  have n16 : ¬ x_text b = 16 := by rcases hc with e | e | e <;> rw [e] <;> decide
  have n1012 : ¬ (x_text b = 10 ∨ x_text b = 12) := by rcases hc with e | e | e <;> rw [e] <;> decide
  have K25 : (K = 2 ∧ (x_text b = 28 ∨ x_text b = 29)) ∨ (K = 5 ∧ x_text b = 27) := by
    rcases hR with q | q | q | q | q | q | q
    · exact absurd q.2.1 nB
    · exact absurd q.2.1 n16
    · exact Or.inl ⟨q.1, q.2.1⟩
    · exact absurd (Or.inr q.2.1) n1012
    · exact absurd (Or.inl q.2.1) n1012
    · exact Or.inr ⟨q.1, q.2.1⟩
    · exact absurd q.2.1 nB
  have x0 : x11 = 0 := by
    rcases hg.2.2 with q | q
    · exact absurd q.2 nB
    · exact q.1
  obtain ⟨v, hv⟩ : ∃ v : Int32, v = (if x_text b = 28 then 1 else 0) := ⟨_, rfl⟩
  have hv0 : v0_F (x_typeKind w) (x_text b) (y_complete w) = v := by
    unfold v0_F
    rw [if_neg (fun z => n1012 (Or.inl z.2)), hv]
  obtain ⟨VF, pe, fin⟩ := yv_fin (K := K) (v := v) hN hp F.1.1 F.1.2.1
  have hx : bx_R p (nI L, nI N, x_bound, 0, -1, md_x x, x_at, x_tokenStart, x_textCount, x_escaped, x_valueSlot, x_valueName, nI d, x_outputLength, x_text, x_typeKind, x_typeDetail, x_typeLeast, x_typeMost, x_fieldCount, x_fieldName, x_fieldType, x_fieldNeeded, x_tagType, x_nodeKind, x_nodeValue, x_nodeParent, x_nodeName, x_nodeSlot, x_nodeStart, x_nodeTag, x_completeCount, x_openNode, x_openSlot, x_openNames, x_openNext, x_openComma, x_output) (b + 1) (nI L, nI (N + 1), x_bound, 0, -1, md_x 5, nI b, x_tokenStart, x_textCount, x_escaped, nI a, x4, nI d, x_outputLength, x_text, x_typeKind, x_typeDetail, x_typeLeast, x_typeMost, x_fieldCount, x_fieldName, x_fieldType, x_fieldNeeded, x_tagType, upd x_nodeKind N (nI K), upd vl1 N v, upd x_nodeParent N x3, upd x_nodeName N x4, upd x_nodeSlot N (nI w), upd x_nodeStart N (nI b), upd x_nodeTag N (-1), x_completeCount, x_openNode, x_openSlot, x_openNames, x_openNext, x_openComma, x_output) := by
    refine X2 _ (fun R r => ?_)
    rcases K25 with ⟨rfl, e⟩ | ⟨rfl, e⟩
    · refine ev_flag hN e ?_
      rw [up_up, ← hv]; exact r
    · have v0 : v = 0 := by rw [hv, e]; decide
      rw [v0] at r
      exact ev_none r
  have hy : by_R slot k (nI L, nI P, y_bad, nI N, 0, -1, 0, nI d, y_nextName, y_wantsName, y_wantsTag, x_outputLength, y_waiting, y_scaled, x_typeKind, y_typeA, y_typeB, y_typeC, x_fieldName, x_fieldType, y_fields, y_tags, x_fieldNeeded, x_text, y_begin, y_end, y_inside, y_whole, y_kind, y_value, y_parent, y_name, y_slotOf, y_placeOf, y_complete, y_openNode, y_openType, y_openCount, y_openNames, y_openChoice, x_output, y_todo) (k + 1) (nI L, nI P, y_bad, nI (N + 1), 0, -1, 0, nI d, y_nextName, y_wantsName, y_wantsTag, x_outputLength, y_waiting, y_scaled, x_typeKind, y_typeA, y_typeB, y_typeC, x_fieldName, x_fieldType, y_fields, y_tags, x_fieldNeeded, x_text, y_begin, y_end, y_inside, y_whole, upd y_kind N (nI K), VF, upd y_parent N x3, upd y_name N x4, upd y_slotOf N (nI w), upd y_placeOf N (nI b), y_complete, y_openNode, y_openType, oc1, y_openNames, y_openChoice, x_output, y_todo) := by
    refine Y2 _ (fun R r => yv_359 hN hI.2.1 hg hD hR ⟨fun _ => ⟨fun z => absurd z n16, fun _ => ⟨fun z => absurd z n1012, fun _ => ?_⟩⟩, fun z => absurd x0 z⟩)
    rw [hv0]; exact fin R r
  exact bo_step hx hy (H (bf_lit F hnt hN hI.2.1 hbL hL hpL hb.1 (by omega) (by omega) eb hp pe hK (by rcases K25 with q | q <;> omega) (by rcases K25 with q | q <;> omega) (fun z => by rcases K25 with q | q <;> omega) (fun z => by rcases K25 with q | q <;> omega) wt0))
theorem st_open (hT : rl_T L x_text x_typeKind x_typeDetail x_typeLeast x_typeMost x_fieldCount x_fieldName x_fieldType x_fieldNeeded x_tagType y_typeA y_typeB y_typeC y_fields y_tags) (F : br_F slot L k p x d N g x_text x_typeKind x_fieldCount x_fieldName x_fieldType y_begin y_end x_nodeKind x_nodeValue x_nodeParent x_nodeName x_nodeSlot x_nodeStart x_nodeTag x_completeCount x_openNode x_openSlot x_openNames x_valueSlot x_valueName dp y_kind y_value y_parent y_name y_slotOf y_placeOf y_complete y_openNode y_openType y_openCount y_openNames y_openChoice y_nextName y_wantsName y_wantsTag) (hx01 : x < 2) (hnt : 0 < d → ¬ x_openSlot (d - 1) = -1) (hslot : ∃ a, a < 12 ∧ slot = nI a) (hk : k < P) (hP : P ≤ 96) {b : Nat} (hb : sp_S x_text p b) (hbL : b < L) (hpL : p ≤ L) (eb : y_begin k = nI b)
    (H3 : x_text b = 12 → ∀ {qN : Nat} {qdp : Nat → Nat} {qs1 qs2 qs3 qs4 qs5 qs6 qw1 qw2 qw3 qw4 : Int32} {qf1 qf2 qf3 qf4 qf5 qf6 qf7 qf8 qf9 qf10 qf11 qh1 qh2 qh3 qh4 qh5 qh6 qh7 qh8 qh9 qh10 qh11 qh12 : Nat → Int32}, br_F slot L (k + 1) (b + 1) 1 (d + 1) qN (upd g (d + 1) 12) x_text x_typeKind x_fieldCount x_fieldName x_fieldType y_begin y_end qf1 qf2 qf3 qf4 qf5 qf6 qf7 qf8 qf9 qf10 qf11 qs5 qs6 qdp qh1 qh2 qh3 qh4 qh5 qh6 qh7 qh8 qh9 qh10 qh11 qh12 qw1 qw2 qw3 → bo_O slot (b + 1) (k + 1) (nI L, nI qN, x_bound, 0, -1, md_x (1), qs1, qs2, qs3, qs4, qs5, qs6, nI (d + 1), x_outputLength, x_text, x_typeKind, x_typeDetail, x_typeLeast, x_typeMost, x_fieldCount, x_fieldName, x_fieldType, x_fieldNeeded, x_tagType, qf1, qf2, qf3, qf4, qf5, qf6, qf7, qf8, qf9, qf10, qf11, x_openNext, x_openComma, x_output) (nI L, nI P, y_bad, nI qN, 0, -1, 0, nI (d + 1), qw1, qw2, qw3, x_outputLength, y_waiting, qw4, x_typeKind, y_typeA, y_typeB, y_typeC, x_fieldName, x_fieldType, y_fields, y_tags, x_fieldNeeded, x_text, y_begin, y_end, y_inside, y_whole, qh1, qh2, qh3, qh4, qh5, qh6, qh7, qh8, qh9, qh10, qh11, qh12, x_output, y_todo)) (H4 : x_text b = 10 → ∀ {qN : Nat} {qdp : Nat → Nat} {qs1 qs2 qs3 qs4 qs5 qs6 qw1 qw2 qw3 qw4 : Int32} {qf1 qf2 qf3 qf4 qf5 qf6 qf7 qf8 qf9 qf10 qf11 qh1 qh2 qh3 qh4 qh5 qh6 qh7 qh8 qh9 qh10 qh11 qh12 : Nat → Int32}, br_F slot L (k + 1) (b + 1) 2 (d + 1) qN (upd g (d + 1) 10) x_text x_typeKind x_fieldCount x_fieldName x_fieldType y_begin y_end qf1 qf2 qf3 qf4 qf5 qf6 qf7 qf8 qf9 qf10 qf11 qs5 qs6 qdp qh1 qh2 qh3 qh4 qh5 qh6 qh7 qh8 qh9 qh10 qh11 qh12 qw1 qw2 qw3 → bo_O slot (b + 1) (k + 1) (nI L, nI qN, x_bound, 0, -1, md_x (2), qs1, qs2, qs3, qs4, qs5, qs6, nI (d + 1), x_outputLength, x_text, x_typeKind, x_typeDetail, x_typeLeast, x_typeMost, x_fieldCount, x_fieldName, x_fieldType, x_fieldNeeded, x_tagType, qf1, qf2, qf3, qf4, qf5, qf6, qf7, qf8, qf9, qf10, qf11, x_openNext, x_openComma, x_output) (nI L, nI P, y_bad, nI qN, 0, -1, 0, nI (d + 1), qw1, qw2, qw3, x_outputLength, y_waiting, qw4, x_typeKind, y_typeA, y_typeB, y_typeC, x_fieldName, x_fieldType, y_fields, y_tags, x_fieldNeeded, x_text, y_begin, y_end, y_inside, y_whole, qh1, qh2, qh3, qh4, qh5, qh6, qh7, qh8, qh9, qh10, qh11, qh12, x_output, y_todo)) (hc : x_text b = 10 ∨ x_text b = 12) : bo_O slot p k (nI L, nI N, x_bound, 0, -1, md_x x, x_at, x_tokenStart, x_textCount, x_escaped, x_valueSlot, x_valueName, nI d, x_outputLength, x_text, x_typeKind, x_typeDetail, x_typeLeast, x_typeMost, x_fieldCount, x_fieldName, x_fieldType, x_fieldNeeded, x_tagType, x_nodeKind, x_nodeValue, x_nodeParent, x_nodeName, x_nodeSlot, x_nodeStart, x_nodeTag, x_completeCount, x_openNode, x_openSlot, x_openNames, x_openNext, x_openComma, x_output) (nI L, nI P, y_bad, nI N, 0, -1, 0, nI d, y_nextName, y_wantsName, y_wantsTag, x_outputLength, y_waiting, y_scaled, x_typeKind, y_typeA, y_typeB, y_typeC, x_fieldName, x_fieldType, y_fields, y_tags, x_fieldNeeded, x_text, y_begin, y_end, y_inside, y_whole, y_kind, y_value, y_parent, y_name, y_slotOf, y_placeOf, y_complete, y_openNode, y_openType, y_openCount, y_openNames, y_openChoice, x_output, y_todo) := by
  have hL := hT.1
  have hV : sp_V (x_text b) := by
    rcases hc with e | e
    · exact Or.inr (Or.inl e)
    · exact Or.inr (Or.inr (Or.inl e))
  refine st_val hT F hx01 hnt hslot hk hP hb hbL eb hV (fun a w K x3 x4 x9 x10 x11 oc1 vl1 hI hK hp hg hD hR hdeep hN wt0 X2 Y2 => ?_)
  have nB : ¬ sp_B (x_text b) := by
    rcases hc with e | e <;> rw [e]
    all_goals
      rintro (q | q)
      · exact absurd q.2 (by decide)
      · exact absurd q (by decide)
  have n16 : ¬ x_text b = 16 := by rcases hc with e | e <;> rw [e] <;> decide
  have n28 : ¬ x_text b = 28 := by rcases hc with e | e <;> rw [e] <;> decide
  have K34 : K = 3 ∨ K = 4 := (kc_c hR).mp hc
  have hd6 := F.2.2.1
  have hd5 : d ≤ 5 := by omega
  have x0 : x11 = 0 := by
    rcases hg.2.2 with q | q
    · exact absurd q.2 nB
    · exact q.1
  have hw := hI.2.1
  have cmw := F.2.2.2.2.1 w hw
  obtain ⟨v, hv⟩ : ∃ v : Int32, v = v0_F (x_typeKind w) (x_text b) (y_complete w) := ⟨_, rfl⟩
  obtain ⟨VF, pe, fin⟩ := yv_fin (K := K) (v := v) hN hp F.1.1 F.1.2.1
  have sl1 : upd x_nodeSlot N (nI w) N = nI w := pk_us
  rcases K34 with rfl | rfl
  · have cs : x_text b = 12 ∧ x_typeKind w = 4 := by
      rcases hR with q | q | q | q | q | q | q
      all_goals first | exact q.2 | (have := q.1; omega)
    have v0 : v = nI 0 := by
      rw [hv]; unfold v0_F
      rw [if_neg (fun z => by rw [cs.2] at z; exact absurd z.1 (by decide)), if_neg n28]; rfl
    have n6 : ¬ x_typeKind w = 6 := by rw [cs.2]; decide
    have hx : bx_R p (nI L, nI N, x_bound, 0, -1, md_x x, x_at, x_tokenStart, x_textCount, x_escaped, x_valueSlot, x_valueName, nI d, x_outputLength, x_text, x_typeKind, x_typeDetail, x_typeLeast, x_typeMost, x_fieldCount, x_fieldName, x_fieldType, x_fieldNeeded, x_tagType, x_nodeKind, x_nodeValue, x_nodeParent, x_nodeName, x_nodeSlot, x_nodeStart, x_nodeTag, x_completeCount, x_openNode, x_openSlot, x_openNames, x_openNext, x_openComma, x_output) (b + 1) (nI L, nI (N + 1), x_bound, 0, -1, md_x 1, nI b, x_tokenStart, x_textCount, x_escaped, nI a, x4, nI (d + 1), x_outputLength, x_text, x_typeKind, x_typeDetail, x_typeLeast, x_typeMost, x_fieldCount, x_fieldName, x_fieldType, x_fieldNeeded, x_tagType, upd x_nodeKind N (nI 3), upd vl1 N v, upd x_nodeParent N x3, upd x_nodeName N x4, upd x_nodeSlot N (nI w), upd x_nodeStart N (nI b), upd x_nodeTag N (-1), x_completeCount, upd x_openNode d (nI N), upd x_openSlot d (nI w), x_openNames, x_openNext, x_openComma, x_output) := by
      refine X2 _ (fun R r => ev_list hN (by omega) ?_)
      rw [sl1]
      rw [v0] at r; exact r
    have hy : by_R slot k (nI L, nI P, y_bad, nI N, 0, -1, 0, nI d, y_nextName, y_wantsName, y_wantsTag, x_outputLength, y_waiting, y_scaled, x_typeKind, y_typeA, y_typeB, y_typeC, x_fieldName, x_fieldType, y_fields, y_tags, x_fieldNeeded, x_text, y_begin, y_end, y_inside, y_whole, y_kind, y_value, y_parent, y_name, y_slotOf, y_placeOf, y_complete, y_openNode, y_openType, y_openCount, y_openNames, y_openChoice, x_output, y_todo) (k + 1) (nI L, nI P, y_bad, nI (N + 1), 0, -1, 0, nI (d + 1), y_nextName, 1, 0, x_outputLength, y_waiting, y_scaled, x_typeKind, y_typeA, y_typeB, y_typeC, x_fieldName, x_fieldType, y_fields, y_tags, x_fieldNeeded, x_text, y_begin, y_end, y_inside, y_whole, upd y_kind N (nI 3), VF, upd y_parent N x3, upd y_name N x4, upd y_slotOf N (nI w), upd y_placeOf N (nI b), y_complete, upd y_openNode d (nI N), upd y_openType d (nI w), upd oc1 d 0, upd y_openNames d 0, upd y_openChoice d (-1), x_output, y_todo) := by
      refine Y2 _ (fun R r => yv_359 hN hI.2.1 hg hD hR ⟨fun _ => ⟨fun z => absurd z n16, fun _ => ⟨fun _ => yo_open (by omega) hw (fun z => absurd z n6) (fun _ => ?_), fun z => absurd hc z⟩⟩, fun z => absurd x0 z⟩)
      rw [← hv]; exact fin R r
    exact bo_step hx hy (H3 cs.1 (bf_open F hnt hN hw hbL hL hpL hb.1 eb hp pe hd5 (Or.inl ⟨rfl, cs.2, v0, rfl, rfl, rfl⟩) (fun _ => trivial) (Or.inl ⟨rfl, fun _ _ => rfl⟩)))
  · have cs : x_text b = 10 ∧ (x_typeKind w = 5 ∨ x_typeKind w = 6) := by
      rcases hR with q | q | q | q | q | q | q
      all_goals first | exact q.2 | (have := q.1; omega)
    have vcc : v = x_completeCount w := by
      rw [hv]; unfold v0_F
      rcases cs.2 with s5 | s6
      · rw [if_pos ⟨s5, cs.1⟩]; exact cmw.1
      · rw [if_neg (fun z => by rw [s6] at z; exact absurd z.1 (by decide)), if_neg n28]
        exact (cmw.2.2 (by rw [s6]; decide)).symm
    rcases cs.2 with s5 | s6
    · have n6 : ¬ x_typeKind w = 6 := by rw [s5]; decide
      have hx : bx_R p (nI L, nI N, x_bound, 0, -1, md_x x, x_at, x_tokenStart, x_textCount, x_escaped, x_valueSlot, x_valueName, nI d, x_outputLength, x_text, x_typeKind, x_typeDetail, x_typeLeast, x_typeMost, x_fieldCount, x_fieldName, x_fieldType, x_fieldNeeded, x_tagType, x_nodeKind, x_nodeValue, x_nodeParent, x_nodeName, x_nodeSlot, x_nodeStart, x_nodeTag, x_completeCount, x_openNode, x_openSlot, x_openNames, x_openNext, x_openComma, x_output) (b + 1) (nI L, nI (N + 1), x_bound, 0, -1, md_x 2, nI b, x_tokenStart, x_textCount, x_escaped, nI a, x4, nI (d + 1), x_outputLength, x_text, x_typeKind, x_typeDetail, x_typeLeast, x_typeMost, x_fieldCount, x_fieldName, x_fieldType, x_fieldNeeded, x_tagType, upd x_nodeKind N (nI 4), upd vl1 N v, upd x_nodeParent N x3, upd x_nodeName N x4, upd x_nodeSlot N (nI w), upd x_nodeStart N (nI b), upd x_nodeTag N (-1), x_completeCount, upd x_openNode d (nI N), upd x_openSlot d (nI w), upd x_openNames d 0, x_openNext, x_openComma, x_output) := by
        refine X2 _ (fun R r => ev_rec hN (by omega) hw sl1 (Or.inr ⟨n6, rfl, rfl⟩) ?_)
        rw [up_up, ← vcc]; exact r
      have hy : by_R slot k (nI L, nI P, y_bad, nI N, 0, -1, 0, nI d, y_nextName, y_wantsName, y_wantsTag, x_outputLength, y_waiting, y_scaled, x_typeKind, y_typeA, y_typeB, y_typeC, x_fieldName, x_fieldType, y_fields, y_tags, x_fieldNeeded, x_text, y_begin, y_end, y_inside, y_whole, y_kind, y_value, y_parent, y_name, y_slotOf, y_placeOf, y_complete, y_openNode, y_openType, y_openCount, y_openNames, y_openChoice, x_output, y_todo) (k + 1) (nI L, nI P, y_bad, nI (N + 1), 0, -1, 0, nI (d + 1), y_nextName, 1, 0, x_outputLength, y_waiting, y_scaled, x_typeKind, y_typeA, y_typeB, y_typeC, x_fieldName, x_fieldType, y_fields, y_tags, x_fieldNeeded, x_text, y_begin, y_end, y_inside, y_whole, upd y_kind N (nI 4), VF, upd y_parent N x3, upd y_name N x4, upd y_slotOf N (nI w), upd y_placeOf N (nI b), y_complete, upd y_openNode d (nI N), upd y_openType d (nI w), upd oc1 d 0, upd y_openNames d 0, upd y_openChoice d (-1), x_output, y_todo) := by
        refine Y2 _ (fun R r => yv_359 hN hI.2.1 hg hD hR ⟨fun _ => ⟨fun z => absurd z n16, fun _ => ⟨fun _ => yo_open (by omega) hw (fun z => absurd z n6) (fun _ => ?_), fun z => absurd hc z⟩⟩, fun z => absurd x0 z⟩)
        rw [← hv]; exact fin R r
      exact bo_step hx hy (H4 cs.1 (bf_open F hnt hN hw hbL hL hpL hb.1 eb hp pe hd5 (Or.inr (Or.inl ⟨rfl, s5, rfl, rfl, rfl, rfl, rfl⟩)) (fun _ => trivial) (Or.inr ⟨rfl, rfl⟩)))
    · obtain ⟨tA, ⟨j, hj, ej⟩, -⟩ := (hT.2.2 w hw).2.2.2.2.2.1 s6
      have omj : (1 : Int32) <<< (x_typeDetail w &&& 31) = nI (2 ^ j) := by rw [ej]; exact (bt_1 j hj).1
      have hx : bx_R p (nI L, nI N, x_bound, 0, -1, md_x x, x_at, x_tokenStart, x_textCount, x_escaped, x_valueSlot, x_valueName, nI d, x_outputLength, x_text, x_typeKind, x_typeDetail, x_typeLeast, x_typeMost, x_fieldCount, x_fieldName, x_fieldType, x_fieldNeeded, x_tagType, x_nodeKind, x_nodeValue, x_nodeParent, x_nodeName, x_nodeSlot, x_nodeStart, x_nodeTag, x_completeCount, x_openNode, x_openSlot, x_openNames, x_openNext, x_openComma, x_output) (b + 1) (nI L, nI (N + 1), x_bound, 0, -1, md_x 2, nI b, x_tokenStart, x_textCount, x_escaped, nI a, x4, nI (d + 1), x_outputLength, x_text, x_typeKind, x_typeDetail, x_typeLeast, x_typeMost, x_fieldCount, x_fieldName, x_fieldType, x_fieldNeeded, x_tagType, upd x_nodeKind N (nI 4), upd vl1 N v, upd x_nodeParent N x3, upd x_nodeName N x4, upd x_nodeSlot N (nI w), upd x_nodeStart N (nI b), upd x_nodeTag N (-1), x_completeCount, upd x_openNode d (nI N), upd x_openSlot d (-1), upd x_openNames d (nI (2 ^ j)), x_openNext, x_openComma, x_output) := by
        refine X2 _ (fun R r => ev_rec hN (by omega) hw sl1 (Or.inl ⟨s6, rfl, rfl⟩) ?_)
        rw [up_up, ← vcc, omj]; exact r
      have hy : by_R slot k (nI L, nI P, y_bad, nI N, 0, -1, 0, nI d, y_nextName, y_wantsName, y_wantsTag, x_outputLength, y_waiting, y_scaled, x_typeKind, y_typeA, y_typeB, y_typeC, x_fieldName, x_fieldType, y_fields, y_tags, x_fieldNeeded, x_text, y_begin, y_end, y_inside, y_whole, y_kind, y_value, y_parent, y_name, y_slotOf, y_placeOf, y_complete, y_openNode, y_openType, y_openCount, y_openNames, y_openChoice, x_output, y_todo) (k + 1) (nI L, nI P, y_bad, nI (N + 1), 0, -1, 0, nI (d + 1), y_nextName, 1, 0, x_outputLength, y_waiting, y_scaled, x_typeKind, y_typeA, y_typeB, y_typeC, x_fieldName, x_fieldType, y_fields, y_tags, x_fieldNeeded, x_text, y_begin, y_end, y_inside, y_whole, upd y_kind N (nI 4), VF, upd y_parent N x3, upd y_name N x4, upd y_slotOf N (nI w), upd y_placeOf N (nI b), y_complete, upd y_openNode d (nI N), upd y_openType d (-1), upd oc1 d 0, upd y_openNames d (nI (2 ^ j)), upd y_openChoice d (nI w), x_output, y_todo) := by
        refine Y2 _ (fun R r => yv_359 hN hI.2.1 hg hD hR ⟨fun _ => ⟨fun z => absurd z n16, fun _ => ⟨fun _ => yo_open (by omega) hw (fun _ => ?_) (fun z => absurd s6 z), fun z => absurd hc z⟩⟩, fun z => absurd x0 z⟩)
        rw [← hv, tA, omj]; exact fin R r
      exact bo_step hx hy (H4 cs.1 (bf_open F hnt hN hw hbL hL hpL hb.1 eb hp pe hd5 (Or.inr (Or.inr ⟨rfl, s6, rfl, rfl, ⟨j, hj, rfl⟩, rfl, rfl⟩)) (fun _ => trivial) (Or.inr ⟨rfl, rfl⟩)))
end
