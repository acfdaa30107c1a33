/-! the bind: the reference's numbers, texts and openings -/
section
variable {y_length y_parts y_bad y_nodes y_place y_bound y_depth y_nextName y_wantsName y_wantsTag y_printed y_waiting y_scaled : Int32} {y_sort y_typeA y_typeB y_typeC y_fieldName y_fieldType y_fields y_tags y_needed y_text y_begin y_end y_inside y_whole y_kind y_value y_parent y_name y_slotOf y_placeOf y_complete y_openNode y_openType y_openCount y_openNames y_openChoice y_output y_todo : Nat → Int32} {N k q s b : Nat} {z lo hi dd ok sc : Int32} {Q : SY → Prop}
theorem yn_num (hk : k < 96) (hN : N < 40) (ew : y_whole k = 1) (ee : y_end k = nI q) (eS : y_slotOf N = nI s) (hs : s < 12) (hz : z = 0 ∧ dd = y_typeA s ∧ lo = y_typeB s ∧ hi = y_typeC s ∨ ¬ z = 0 ∧ dd = 0 ∧ lo = 0 ∧ hi = y_complete s - 1) (un : un_Y y_text y_begin y_end k dd ok sc) (hok : ok = 0 ∨ ok = 1)
    (h1 : ok = 1 ∧ lo ≤ sc ∧ sc ≤ hi → Q (y_length, y_parts, y_bad, y_nodes, 0, y_place, y_bound, y_depth, y_nextName, y_wantsName, y_wantsTag, y_printed, y_waiting, sc, y_sort, y_typeA, y_typeB, y_typeC, y_fieldName, y_fieldType, y_fields, y_tags, y_needed, y_text, y_begin, y_end, y_inside, y_whole, y_kind, upd y_value N sc, y_parent, y_name, y_slotOf, y_placeOf, y_complete, y_openNode, y_openType, y_openCount, y_openNames, y_openChoice, y_output, y_todo)) (h0 : ¬ (ok = 1 ∧ lo ≤ sc ∧ sc ≤ hi) → Q (y_length, y_parts, y_bad, y_nodes, 6, nI q, y_bound, y_depth, y_nextName, y_wantsName, y_wantsTag, y_printed, y_waiting, sc, y_sort, y_typeA, y_typeB, y_typeC, y_fieldName, y_fieldType, y_fields, y_tags, y_needed, y_text, y_begin, y_end, y_inside, y_whole, y_kind, upd y_value N sc, y_parent, y_name, y_slotOf, y_placeOf, y_complete, y_openNode, y_openType, y_openCount, y_openNames, y_openChoice, y_output, y_todo)) : wpY_bindNumber Q (y_length, y_parts, y_bad, y_nodes, 0, y_place, y_bound, y_depth, y_nextName, y_wantsName, y_wantsTag, y_printed, y_waiting, y_scaled, y_sort, y_typeA, y_typeB, y_typeC, y_fieldName, y_fieldType, y_fields, y_tags, y_needed, y_text, y_begin, y_end, y_inside, y_whole, y_kind, y_value, y_parent, y_name, y_slotOf, y_placeOf, y_complete, y_openNode, y_openType, y_openCount, y_openNames, y_openChoice, y_output, y_todo) (nI k) (nI N) z := by
  have ek : (nI k).toNatClampNeg = k := nI_clamp (by omega)
  have eN : (nI N).toNatClampNeg = N := nI_clamp (by omega)
  have ess : (nI s).toNatClampNeg = s := nI_clamp (by omega)
  have ik : vp_in (nI k) 96 := vp_in_nI hk (by decide)
  have iN : vp_in (nI N) 40 := vp_in_nI hN (by decide)
  have is : vp_in (nI s) 12 := vp_in_nI hs (by decide)
  have t94 : ∀ r : Int32, (r = 0 → Q (y_length, y_parts, y_bad, y_nodes, 6, nI q, y_bound, y_depth, y_nextName, y_wantsName, y_wantsTag, y_printed, y_waiting, sc, y_sort, y_typeA, y_typeB, y_typeC, y_fieldName, y_fieldType, y_fields, y_tags, y_needed, y_text, y_begin, y_end, y_inside, y_whole, y_kind, upd y_value N sc, y_parent, y_name, y_slotOf, y_placeOf, y_complete, y_openNode, y_openType, y_openCount, y_openNames, y_openChoice, y_output, y_todo)) → (¬ r = 0 → Q (y_length, y_parts, y_bad, y_nodes, 0, y_place, y_bound, y_depth, y_nextName, y_wantsName, y_wantsTag, y_printed, y_waiting, sc, y_sort, y_typeA, y_typeB, y_typeC, y_fieldName, y_fieldType, y_fields, y_tags, y_needed, y_text, y_begin, y_end, y_inside, y_whole, y_kind, upd y_value N sc, y_parent, y_name, y_slotOf, y_placeOf, y_complete, y_openNode, y_openType, y_openCount, y_openNames, y_openChoice, y_output, y_todo)) → wY_bindNumber_94 Q (nI k) (nI N) r y_length y_parts y_bad y_nodes 0 y_place y_bound y_depth y_nextName y_wantsName y_wantsTag y_printed y_waiting sc y_sort y_typeA y_typeB y_typeC y_fieldName y_fieldType y_fields y_tags y_needed y_text y_begin y_end y_inside y_whole y_kind y_value y_parent y_name y_slotOf y_placeOf y_complete y_openNode y_openType y_openCount y_openNames y_openChoice y_output y_todo := by
    intro r a b
    unfold wY_bindNumber_94
    rw [ek, eN, ee]
    exact ⟨fun w => ⟨ik, br_t rfl ⟨iN, nm_e (a w)⟩⟩, fun w => ⟨iN, nm_e (b w)⟩⟩
  have t93 : Q (y_length, y_parts, y_bad, y_nodes, 6, nI q, y_bound, y_depth, y_nextName, y_wantsName, y_wantsTag, y_printed, y_waiting, sc, y_sort, y_typeA, y_typeB, y_typeC, y_fieldName, y_fieldType, y_fields, y_tags, y_needed, y_text, y_begin, y_end, y_inside, y_whole, y_kind, upd y_value N sc, y_parent, y_name, y_slotOf, y_placeOf, y_complete, y_openNode, y_openType, y_openCount, y_openNames, y_openChoice, y_output, y_todo) → wY_bindNumber_93 Q (nI k) (nI N) y_length y_parts y_bad y_nodes 0 y_place y_bound y_depth y_nextName y_wantsName y_wantsTag y_printed y_waiting sc y_sort y_typeA y_typeB y_typeC y_fieldName y_fieldType y_fields y_tags y_needed y_text y_begin y_end y_inside y_whole y_kind y_value y_parent y_name y_slotOf y_placeOf y_complete y_openNode y_openType y_openCount y_openNames y_openChoice y_output y_todo := fun a => t94 0 (fun _ => a) (fun w => absurd rfl w)
  have t83 : ok = 1 → wY_bindNumber_83 Q (nI k) (nI N) hi lo sc y_length y_parts y_bad y_nodes 0 y_place y_bound y_depth y_nextName y_wantsName y_wantsTag y_printed y_waiting sc y_sort y_typeA y_typeB y_typeC y_fieldName y_fieldType y_fields y_tags y_needed y_text y_begin y_end y_inside y_whole y_kind y_value y_parent y_name y_slotOf y_placeOf y_complete y_openNode y_openType y_openCount y_openNames y_openChoice y_output y_todo := by
    intro o1
    unfold wY_bindNumber_83
    by_cases a : sc < lo
    · exact br_t a (br_t rfl (t93 (h0 (fun w => absurd a (Int32.not_lt.mpr w.2.1)))))
    · refine br_f a ?_
      by_cases b : hi < sc
      · exact br_t b (br_t rfl (t93 (h0 (fun w => absurd b (Int32.not_lt.mpr w.2.2)))))
      · exact br_f b (br_f (by decide) (t94 1 (fun w => absurd w (by decide)) (fun _ => h1 ⟨o1, Int32.not_lt.mp a, Int32.not_lt.mp b⟩)))
  have t35 : wY_bindNumber_35 Q (nI k) (nI N) z (nI s) dd (nI k) y_length y_parts y_bad y_nodes 0 y_place y_bound y_depth y_nextName y_wantsName y_wantsTag y_printed y_waiting y_scaled y_sort y_typeA y_typeB y_typeC y_fieldName y_fieldType y_fields y_tags y_needed y_text y_begin y_end y_inside y_whole y_kind y_value y_parent y_name y_slotOf y_placeOf y_complete y_openNode y_openType y_openCount y_openNames y_openChoice y_output y_todo := by
    unfold wY_bindNumber_35
    refine un y_length y_parts y_bad y_nodes (0) y_place y_bound y_depth y_nextName y_wantsName y_wantsTag y_printed y_waiting y_scaled y_sort y_typeA y_typeB y_typeC y_fieldName y_fieldType y_fields y_tags y_needed y_inside y_whole y_kind y_value y_parent y_name y_slotOf y_placeOf y_complete y_openNode y_openType y_openCount y_openNames y_openChoice y_output y_todo _ ?_
    dsimp only
    rcases hok with rfl | rfl
    · exact br_t rfl (t93 (h0 (fun w => absurd w.1 (by decide))))
    refine br_f (by decide) ?_
    rcases hz with ⟨z0, -, rfl, rfl⟩ | ⟨z0, -, rfl, rfl⟩
    · refine br_t z0 ⟨is, ?_⟩
      rw [ess]
      refine br_t z0 ⟨is, ?_⟩
      rw [ess]; exact t83 rfl
    · refine br_f z0 (br_f z0 ⟨is, ?_⟩)
      rw [ess]; exact t83 rfl
  refine And.intro ik ?_
  rw [ek]
  refine br_f (by rw [ew]; decide) ⟨iN, ?_⟩
  rw [eN]
  refine nm_r eS ?_
  rcases hz with ⟨z0, e, -⟩ | ⟨z0, e, -⟩
  · refine br_t z0 ⟨is, ?_⟩
    rw [ess, ← e]; exact t35
  · refine br_f z0 ?_
    rw [e] at t35; exact t35
theorem yn_cut (hk : k < 96) (ew : y_whole k = 0) (h : Q (y_length, y_parts, y_bad, y_nodes, 0, y_place, y_bound, y_depth, y_nextName, y_wantsName, y_wantsTag, y_printed, y_waiting, y_scaled, y_sort, y_typeA, y_typeB, y_typeC, y_fieldName, y_fieldType, y_fields, y_tags, y_needed, y_text, y_begin, y_end, y_inside, y_whole, y_kind, y_value, y_parent, y_name, y_slotOf, y_placeOf, y_complete, y_openNode, y_openType, y_openCount, y_openNames, y_openChoice, y_output, y_todo)) : wpY_bindNumber Q (y_length, y_parts, y_bad, y_nodes, 0, y_place, y_bound, y_depth, y_nextName, y_wantsName, y_wantsTag, y_printed, y_waiting, y_scaled, y_sort, y_typeA, y_typeB, y_typeC, y_fieldName, y_fieldType, y_fields, y_tags, y_needed, y_text, y_begin, y_end, y_inside, y_whole, y_kind, y_value, y_parent, y_name, y_slotOf, y_placeOf, y_complete, y_openNode, y_openType, y_openCount, y_openNames, y_openChoice, y_output, y_todo) (nI k) (nI N) z := by
  have ek : (nI k).toNatClampNeg = k := nI_clamp (by omega)
  refine And.intro (vp_in_nI hk (by decide)) ?_
  rw [ek]; exact br_t ew h
theorem yt_txt {last : Nat} (hk : k < 96) (eb : y_begin k = nI b) (ee : y_end k = nI q) (hw : y_whole k = 1 ∧ last = q ∨ y_whole k = 0 ∧ last = q + 1) (h : ∃ n, wY_bindText_43 Q (nI N) (nI last) n (nI 0) (nI (b + 1)) 0 y_length y_parts y_bad y_nodes 0 y_place y_bound y_depth y_nextName y_wantsName y_wantsTag y_printed y_waiting y_scaled y_sort y_typeA y_typeB y_typeC y_fieldName y_fieldType y_fields y_tags y_needed y_text y_begin y_end y_inside y_whole y_kind y_value y_parent y_name y_slotOf y_placeOf y_complete y_openNode y_openType y_openCount y_openNames y_openChoice y_output y_todo) : wpY_bindText Q (y_length, y_parts, y_bad, y_nodes, 0, y_place, y_bound, y_depth, y_nextName, y_wantsName, y_wantsTag, y_printed, y_waiting, y_scaled, y_sort, y_typeA, y_typeB, y_typeC, y_fieldName, y_fieldType, y_fields, y_tags, y_needed, y_text, y_begin, y_end, y_inside, y_whole, y_kind, y_value, y_parent, y_name, y_slotOf, y_placeOf, y_complete, y_openNode, y_openType, y_openCount, y_openNames, y_openChoice, y_output, y_todo) (nI k) (nI N) := by
  have ek : (nI k).toNatClampNeg = k := nI_clamp (by omega)
  have ik : vp_in (nI k) 96 := vp_in_nI hk (by decide)
  refine And.intro ik ?_
  rw [ek, eb, ee]
  refine nm_r (nI_1 b) ⟨ik, ?_⟩
  rcases hw with ⟨w, rfl⟩ | ⟨w, rfl⟩
  · exact br_f (by rw [w]; decide) ⟨ik, nm_e h⟩
  · exact br_t w ⟨ik, nm_r (nI_1 q) h⟩
end
section
variable {y_length y_parts y_bad y_nodes y_fault y_place y_bound y_nextName y_wantsName y_wantsTag y_printed y_waiting y_scaled : Int32} {y_sort y_typeA y_typeB y_typeC y_fieldName y_fieldType y_fields y_tags y_needed y_text y_begin y_end y_inside y_whole y_kind y_value y_parent y_name y_slotOf y_placeOf y_complete y_openNode y_openType y_openCount y_openNames y_openChoice y_output y_todo : Nat → Int32} {N d w : Nat} {Q : SY → Prop}
theorem yo_open (hd : d < 6) (hw : w < 12) (h6 : y_sort w = 6 → Q (y_length, y_parts, y_bad, y_nodes, y_fault, y_place, y_bound, nI (d + 1), y_nextName, 1, 0, y_printed, y_waiting, y_scaled, y_sort, y_typeA, y_typeB, y_typeC, y_fieldName, y_fieldType, y_fields, y_tags, y_needed, y_text, y_begin, y_end, y_inside, y_whole, y_kind, y_value, y_parent, y_name, y_slotOf, y_placeOf, y_complete, upd y_openNode d (nI N), upd y_openType d (-1), upd y_openCount d 0, upd y_openNames d ((1 : Int32) <<< (y_typeA w &&& 31)), upd y_openChoice d (nI w), y_output, y_todo))
    (h0 : ¬ y_sort w = 6 → Q (y_length, y_parts, y_bad, y_nodes, y_fault, y_place, y_bound, nI (d + 1), y_nextName, 1, 0, y_printed, y_waiting, y_scaled, y_sort, y_typeA, y_typeB, y_typeC, y_fieldName, y_fieldType, y_fields, y_tags, y_needed, y_text, y_begin, y_end, y_inside, y_whole, y_kind, y_value, y_parent, y_name, y_slotOf, y_placeOf, y_complete, upd y_openNode d (nI N), upd y_openType d (nI w), upd y_openCount d 0, upd y_openNames d 0, upd y_openChoice d (-1), y_output, y_todo)) : wpY_open Q (y_length, y_parts, y_bad, y_nodes, y_fault, y_place, y_bound, nI d, y_nextName, y_wantsName, y_wantsTag, y_printed, y_waiting, y_scaled, y_sort, y_typeA, y_typeB, y_typeC, y_fieldName, y_fieldType, y_fields, y_tags, y_needed, y_text, y_begin, y_end, y_inside, y_whole, y_kind, y_value, y_parent, y_name, y_slotOf, y_placeOf, y_complete, y_openNode, y_openType, y_openCount, y_openNames, y_openChoice, y_output, y_todo) (nI N) (nI w) := by
  have ed : (nI d).toNatClampNeg = d := nI_clamp (by omega)
  have ew : (nI w).toNatClampNeg = w := nI_clamp (by omega)
  have i8 : vp_in (nI d) 8 := vp_in_nI (by omega) (by decide)
  have iw : vp_in (nI w) 12 := vp_in_nI hw (by decide)
  refine And.intro iw ?_
  rw [ew]
  refine br_c (fun s6 => ⟨i8, nm_e (br_f (by decide) ⟨i8, nm_e ⟨i8, nm_e (br_f (by decide) ⟨iw, i8, nm_e (br_f (by decide) ⟨i8, nm_e (nm_r (nI_1 d) ?_)⟩)⟩)⟩⟩)⟩) (fun s6 => ⟨i8, nm_e (br_t rfl ⟨i8, nm_e ⟨i8, nm_e (br_t rfl ⟨i8, nm_e (br_t rfl ⟨i8, nm_e (nm_r (nI_1 d) ?_)⟩)⟩)⟩⟩)⟩)
  · rw [ed, ew]; exact h6 s6
  · rw [ed]; exact h0 s6
end
