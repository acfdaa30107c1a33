/-! the bind: the reference begins a value -/
def pc_Y (d : Nat) (kd ot : Nat → Int32) (x3 : Int32) (n s : Nat) : Prop := x3 = -1 ∨ x3 = nI n ∧ n < 40 ∧ ∃ d', d = d' + 1 ∧ d' < 6 ∧ (kd n = 3 → ot d' = nI s ∧ s < 12)
section
variable {y_length y_parts y_bad y_fault y_place y_bound y_nextName y_wantsName y_wantsTag y_printed y_waiting y_scaled : Int32} {y_sort y_typeA y_typeB y_typeC y_fieldName y_fieldType y_fields y_tags y_needed y_text y_begin y_end y_inside y_whole y_kind y_value y_parent y_name y_slotOf y_placeOf y_complete y_openNode y_openType y_openCount y_openNames y_openChoice y_output y_todo : Nat → Int32} {a w d N n s K k b : Nat} {c x1 x3 x4 x5 x6 x7 x8 x9 x10 x11 : Int32} {Q : SY → Prop}
theorem yv_316 (hpc : pc_Y d y_kind y_openType x3 n s) (h : wY_bindValue_359 Q x1 x3 x4 x5 x6 x7 x8 x10 x11 y_length y_parts y_bad (nI N) y_fault y_place y_bound (nI d) y_nextName y_wantsName y_wantsTag y_printed y_waiting y_scaled y_sort y_typeA y_typeB y_typeC y_fieldName y_fieldType y_fields y_tags y_needed y_text y_begin y_end y_inside y_whole y_kind y_value y_parent y_name y_slotOf y_placeOf y_complete y_openNode y_openType y_openCount y_openNames y_openChoice y_output y_todo) (hf : ¬ y_fault = 0 ∨ ¬ (x3 = nI n ∧ y_kind n = 3 ∧ ¬ x4 < y_typeC s)) : wY_bindValue_316 Q x1 x3 x4 x5 x6 x7 x8 x10 x11 y_length y_parts y_bad (nI N) y_fault y_place y_bound (nI d) y_nextName y_wantsName y_wantsTag y_printed y_waiting y_scaled y_sort y_typeA y_typeB y_typeC y_fieldName y_fieldType y_fields y_tags y_needed y_text y_begin y_end y_inside y_whole y_kind y_value y_parent y_name y_slotOf y_placeOf y_complete y_openNode y_openType y_openCount y_openNames y_openChoice y_output y_todo := by
  rcases hpc with rfl | ⟨rfl, hn, d', rfl, hd, hl⟩
  · exact br_t (by decide) h
  · refine br_f (nI_pos (by omega)) ⟨vp_in_nI hn (by decide), ?_⟩
    rw [nI_clamp (by omega)]
    by_cases k3 : y_kind n = 3
    · obtain ⟨es, hs⟩ := hl k3
      refine br_t k3 ?_
      rw [nI_pred, nI_clamp (by omega), es, nI_clamp (by omega)]
      refine ⟨vp_in_nI (by omega) (by decide), vp_in_nI hs (by decide), ?_⟩
      by_cases z : x4 < y_typeC s
      · exact br_t z h
      · exact br_f z (br_f (hf.resolve_right (fun y => y ⟨rfl, k3, z⟩)) h)
    · exact br_f k3 h
/-- with a fault already, nothing more happens -/
theorem yv_f (hF : ¬ y_fault = 0) (hpc : pc_Y d y_kind y_openType x3 n s) (h : Q (y_length, y_parts, y_bad, nI N, y_fault, y_place, y_bound, nI d, y_nextName, y_wantsName, y_wantsTag, y_printed, y_waiting, y_scaled, y_sort, y_typeA, y_typeB, y_typeC, y_fieldName, y_fieldType, y_fields, y_tags, y_needed, y_text, y_begin, y_end, y_inside, y_whole, y_kind, y_value, y_parent, y_name, y_slotOf, y_placeOf, y_complete, y_openNode, y_openType, y_openCount, y_openNames, y_openChoice, y_output, y_todo)) : (∀ z0 : Int32, wY_bindValue_257 Q x1 x3 x4 x5 x6 x7 x8 x10 x11 z0 y_length y_parts y_bad (nI N) y_fault y_place y_bound (nI d) y_nextName y_wantsName y_wantsTag y_printed y_waiting y_scaled y_sort y_typeA y_typeB y_typeC y_fieldName y_fieldType y_fields y_tags y_needed y_text y_begin y_end y_inside y_whole y_kind y_value y_parent y_name y_slotOf y_placeOf y_complete y_openNode y_openType y_openCount y_openNames y_openChoice y_output y_todo) ∧ wY_bindValue_140 Q x1 x3 x4 x5 x6 x7 x8 x9 x10 x11 y_length y_parts y_bad (nI N) y_fault y_place y_bound (nI d) y_nextName y_wantsName y_wantsTag y_printed y_waiting y_scaled y_sort y_typeA y_typeB y_typeC y_fieldName y_fieldType y_fields y_tags y_needed y_text y_begin y_end y_inside y_whole y_kind y_value y_parent y_name y_slotOf y_placeOf y_complete y_openNode y_openType y_openCount y_openNames y_openChoice y_output y_todo ∧ wY_bindValue_300 Q x1 x3 x4 x5 x6 x7 x8 x10 x11 y_length y_parts y_bad (nI N) y_fault y_place y_bound (nI d) y_nextName y_wantsName y_wantsTag y_printed y_waiting y_scaled y_sort y_typeA y_typeB y_typeC y_fieldName y_fieldType y_fields y_tags y_needed y_text y_begin y_end y_inside y_whole y_kind y_value y_parent y_name y_slotOf y_placeOf y_complete y_openNode y_openType y_openCount y_openNames y_openChoice y_output y_todo ∧ wY_bindValue_271 Q x1 x3 x4 x5 x6 x7 x8 x10 x11 y_length y_parts y_bad (nI N) y_fault y_place y_bound (nI d) y_nextName y_wantsName y_wantsTag y_printed y_waiting y_scaled y_sort y_typeA y_typeB y_typeC y_fieldName y_fieldType y_fields y_tags y_needed y_text y_begin y_end y_inside y_whole y_kind y_value y_parent y_name y_slotOf y_placeOf y_complete y_openNode y_openType y_openCount y_openNames y_openChoice y_output y_todo ∧ wY_bindValue_359 Q x1 x3 x4 x5 x6 x7 x8 x10 x11 y_length y_parts y_bad (nI N) y_fault y_place y_bound (nI d) y_nextName y_wantsName y_wantsTag y_printed y_waiting y_scaled y_sort y_typeA y_typeB y_typeC y_fieldName y_fieldType y_fields y_tags y_needed y_text y_begin y_end y_inside y_whole y_kind y_value y_parent y_name y_slotOf y_placeOf y_complete y_openNode y_openType y_openCount y_openNames y_openChoice y_output y_todo ∧ wY_bindValue_316 Q x1 x3 x4 x5 x6 x7 x8 x10 x11 y_length y_parts y_bad (nI N) y_fault y_place y_bound (nI d) y_nextName y_wantsName y_wantsTag y_printed y_waiting y_scaled y_sort y_typeA y_typeB y_typeC y_fieldName y_fieldType y_fields y_tags y_needed y_text y_begin y_end y_inside y_whole y_kind y_value y_parent y_name y_slotOf y_placeOf y_complete y_openNode y_openType y_openCount y_openNames y_openChoice y_output y_todo := by
  have h359 : wY_bindValue_359 Q x1 x3 x4 x5 x6 x7 x8 x10 x11 y_length y_parts y_bad (nI N) y_fault y_place y_bound (nI d) y_nextName y_wantsName y_wantsTag y_printed y_waiting y_scaled y_sort y_typeA y_typeB y_typeC y_fieldName y_fieldType y_fields y_tags y_needed y_text y_begin y_end y_inside y_whole y_kind y_value y_parent y_name y_slotOf y_placeOf y_complete y_openNode y_openType y_openCount y_openNames y_openChoice y_output y_todo := br_f hF h
  have h316 : wY_bindValue_316 Q x1 x3 x4 x5 x6 x7 x8 x10 x11 y_length y_parts y_bad (nI N) y_fault y_place y_bound (nI d) y_nextName y_wantsName y_wantsTag y_printed y_waiting y_scaled y_sort y_typeA y_typeB y_typeC y_fieldName y_fieldType y_fields y_tags y_needed y_text y_begin y_end y_inside y_whole y_kind y_value y_parent y_name y_slotOf y_placeOf y_complete y_openNode y_openType y_openCount y_openNames y_openChoice y_output y_todo := yv_316 hpc h359 (Or.inl hF)
  have h300 : wY_bindValue_300 Q x1 x3 x4 x5 x6 x7 x8 x10 x11 y_length y_parts y_bad (nI N) y_fault y_place y_bound (nI d) y_nextName y_wantsName y_wantsTag y_printed y_waiting y_scaled y_sort y_typeA y_typeB y_typeC y_fieldName y_fieldType y_fields y_tags y_needed y_text y_begin y_end y_inside y_whole y_kind y_value y_parent y_name y_slotOf y_placeOf y_complete y_openNode y_openType y_openCount y_openNames y_openChoice y_output y_todo := br_c (fun _ => br_f hF h316) (fun _ => h316)
  have h285 : wY_bindValue_285 Q x1 x3 x4 x5 x6 x7 x8 x10 x11 y_length y_parts y_bad (nI N) y_fault y_place y_bound (nI d) y_nextName y_wantsName y_wantsTag y_printed y_waiting y_scaled y_sort y_typeA y_typeB y_typeC y_fieldName y_fieldType y_fields y_tags y_needed y_text y_begin y_end y_inside y_whole y_kind y_value y_parent y_name y_slotOf y_placeOf y_complete y_openNode y_openType y_openCount y_openNames y_openChoice y_output y_todo := br_c (fun _ => h300) (fun _ => br_f hF h300)
  have h271 : wY_bindValue_271 Q x1 x3 x4 x5 x6 x7 x8 x10 x11 y_length y_parts y_bad (nI N) y_fault y_place y_bound (nI d) y_nextName y_wantsName y_wantsTag y_printed y_waiting y_scaled y_sort y_typeA y_typeB y_typeC y_fieldName y_fieldType y_fields y_tags y_needed y_text y_begin y_end y_inside y_whole y_kind y_value y_parent y_name y_slotOf y_placeOf y_complete y_openNode y_openType y_openCount y_openNames y_openChoice y_output y_todo := br_c (fun _ => h285) (fun _ => br_c (fun _ => h285) (fun _ => h300))
  have h257 : ∀ z0 : Int32, wY_bindValue_257 Q x1 x3 x4 x5 x6 x7 x8 x10 x11 z0 y_length y_parts y_bad (nI N) y_fault y_place y_bound (nI d) y_nextName y_wantsName y_wantsTag y_printed y_waiting y_scaled y_sort y_typeA y_typeB y_typeC y_fieldName y_fieldType y_fields y_tags y_needed y_text y_begin y_end y_inside y_whole y_kind y_value y_parent y_name y_slotOf y_placeOf y_complete y_openNode y_openType y_openCount y_openNames y_openChoice y_output y_todo := fun z0 => br_c (fun _ => br_f hF h271) (fun _ => h271)
  exact ⟨h257, br_c (fun _ => h257 _) (fun _ => br_c (fun _ => br_c (fun _ => br_c (fun _ => h257 1) (fun _ => h257 0)) (fun _ => br_c (fun _ => br_c (fun _ => h257 1) (fun _ => h257 0)) (fun _ => br_c (fun _ => br_c (fun _ => h257 1) (fun _ => br_c (fun _ => h257 1) (fun _ => h257 0))) (fun _ => br_c (fun _ => h257 1) (fun _ => h257 0))))) (fun _ => br_c (fun _ => h257 1) (fun _ => br_c (fun _ => h257 0) (fun _ => h257 1)))), h300, h271, h359, h316⟩
end
section
variable {y_length y_parts y_bad y_place y_bound y_nextName y_wantsName y_wantsTag y_printed y_waiting y_scaled : Int32} {y_sort y_typeA y_typeB y_typeC y_fieldName y_fieldType y_fields y_tags y_needed y_text y_begin y_end y_inside y_whole y_kind y_value y_parent y_name y_slotOf y_placeOf y_complete y_openNode y_openType y_openCount y_openNames y_openChoice y_output y_todo : Nat → Int32} {a w d N n s K k b : Nat} {c x3 x4 x9 x10 x11 : Int32} {Q : SY → Prop}
/-- the faults behind the type -/
theorem yv_271 (hn40 : n < 40) (hpc : pc_Y d y_kind y_openType x3 n s) (hd6 : d ≤ 6) (hN : N ≤ 40)
    (h4 : (c = 10 ∨ c = 12) → d = 6 → Q (y_length, y_parts, y_bad, nI N, 4, nI b, y_bound, nI d, y_nextName, y_wantsName, y_wantsTag, y_printed, y_waiting, y_scaled, y_sort, y_typeA, y_typeB, y_typeC, y_fieldName, y_fieldType, y_fields, y_tags, y_needed, y_text, y_begin, y_end, y_inside, y_whole, y_kind, y_value, y_parent, y_name, y_slotOf, y_placeOf, y_complete, y_openNode, y_openType, y_openCount, y_openNames, y_openChoice, y_output, y_todo)) (h5 : ¬ ((c = 10 ∨ c = 12) ∧ d = 6) → N = 40 → Q (y_length, y_parts, y_bad, nI N, 5, nI b, y_bound, nI d, y_nextName, y_wantsName, y_wantsTag, y_printed, y_waiting, y_scaled, y_sort, y_typeA, y_typeB, y_typeC, y_fieldName, y_fieldType, y_fields, y_tags, y_needed, y_text, y_begin, y_end, y_inside, y_whole, y_kind, y_value, y_parent, y_name, y_slotOf, y_placeOf, y_complete, y_openNode, y_openType, y_openCount, y_openNames, y_openChoice, y_output, y_todo)) (h6 : ¬ ((c = 10 ∨ c = 12) ∧ d = 6) → N < 40 → x3 = nI n ∧ y_kind n = 3 ∧ ¬ x4 < y_typeC s → Q (y_length, y_parts, y_bad, nI N, 6, nI b, y_bound, nI d, y_nextName, y_wantsName, y_wantsTag, y_printed, y_waiting, y_scaled, y_sort, y_typeA, y_typeB, y_typeC, y_fieldName, y_fieldType, y_fields, y_tags, y_needed, y_text, y_begin, y_end, y_inside, y_whole, y_kind, y_value, y_parent, y_name, y_slotOf, y_placeOf, y_complete, y_openNode, y_openType, y_openCount, y_openNames, y_openChoice, y_output, y_todo))
    (h0 : ¬ ((c = 10 ∨ c = 12) ∧ d = 6) → N < 40 → ¬ (x3 = nI n ∧ y_kind n = 3 ∧ ¬ x4 < y_typeC s) → wY_bindValue_359 Q (nI k) x3 x4 (nI b) c (nI w) (y_sort w) x10 x11 y_length y_parts y_bad (nI N) 0 y_place y_bound (nI d) y_nextName y_wantsName y_wantsTag y_printed y_waiting y_scaled y_sort y_typeA y_typeB y_typeC y_fieldName y_fieldType y_fields y_tags y_needed y_text y_begin y_end y_inside y_whole y_kind y_value y_parent y_name y_slotOf y_placeOf y_complete y_openNode y_openType y_openCount y_openNames y_openChoice y_output y_todo) : wY_bindValue_271 Q (nI k) x3 x4 (nI b) c (nI w) (y_sort w) x10 x11 y_length y_parts y_bad (nI N) 0 y_place y_bound (nI d) y_nextName y_wantsName y_wantsTag y_printed y_waiting y_scaled y_sort y_typeA y_typeB y_typeC y_fieldName y_fieldType y_fields y_tags y_needed y_text y_begin y_end y_inside y_whole y_kind y_value y_parent y_name y_slotOf y_placeOf y_complete y_openNode y_openType y_openCount y_openNames y_openChoice y_output y_todo := by
  have t300 : ¬ ((c = 10 ∨ c = 12) ∧ d = 6) → wY_bindValue_300 Q (nI k) x3 x4 (nI b) c (nI w) (y_sort w) x10 x11 y_length y_parts y_bad (nI N) 0 y_place y_bound (nI d) y_nextName y_wantsName y_wantsTag y_printed y_waiting y_scaled y_sort y_typeA y_typeB y_typeC y_fieldName y_fieldType y_fields y_tags y_needed y_text y_begin y_end y_inside y_whole y_kind y_value y_parent y_name y_slotOf y_placeOf y_complete y_openNode y_openType y_openCount y_openNames y_openChoice y_output y_todo := by
    intro nd
    rcases Nat.lt_or_ge N 40 with w40 | w40
    · refine br_f (fun e => by have := hh_i (by omega) (by decide) (m := 40) e; omega) ?_
      by_cases fl : x3 = nI n ∧ y_kind n = 3 ∧ ¬ x4 < y_typeC s
      · rcases hpc with e | ⟨e, hn, d', rfl, hd, hl⟩
        · exfalso
          obtain ⟨e2, k3, z⟩ := fl
          rw [e2] at e
          exact hh_m1 (by omega) e
        · obtain ⟨-, k3, z⟩ := fl
          subst e
          obtain ⟨es, hs⟩ := hl k3
          refine br_f (nI_pos (by omega)) ⟨vp_in_nI hn (by decide), ?_⟩
          rw [nI_clamp (by omega)]
          refine br_t k3 ?_
          rw [nI_pred, nI_clamp (by omega), es, nI_clamp (by omega)]
          refine ⟨vp_in_nI (by omega) (by decide), vp_in_nI hs (by decide), br_f z (br_t rfl ?_)⟩
          exact br_f (by decide) (h6 nd w40 ⟨rfl, k3, z⟩)
      · exact yv_316 hpc (h0 nd w40 fl) (Or.inr fl)
    · have e : N = 40 := by omega
      subst e
      exact br_t rfl (br_t rfl (yv_f (x9 := 0) (by decide) hpc (h5 nd rfl)).2.2.2.2.2)
  have t285 : (c = 10 ∨ c = 12) → wY_bindValue_285 Q (nI k) x3 x4 (nI b) c (nI w) (y_sort w) x10 x11 y_length y_parts y_bad (nI N) 0 y_place y_bound (nI d) y_nextName y_wantsName y_wantsTag y_printed y_waiting y_scaled y_sort y_typeA y_typeB y_typeC y_fieldName y_fieldType y_fields y_tags y_needed y_text y_begin y_end y_inside y_whole y_kind y_value y_parent y_name y_slotOf y_placeOf y_complete y_openNode y_openType y_openCount y_openNames y_openChoice y_output y_todo := by
    intro hc
    rcases Nat.lt_or_ge d 6 with w6 | w6
    · exact br_t (nI_le (b := 5) (by omega) (by decide)) (t300 (fun z => by omega))
    · have e : d = 6 := by omega
      subst e
      exact br_f (by decide) (br_t rfl (yv_f (x9 := 0) (by decide) hpc (h4 hc rfl)).2.2.1)
  by_cases c10 : c = 10
  · exact br_t c10 (t285 (Or.inl c10))
  · refine br_f c10 ?_
    by_cases c12 : c = 12
    · exact br_t c12 (t285 (Or.inr c12))
    · exact br_f c12 (t300 (fun z => z.1.elim c10 c12))
/-- the flags of a value -/
def vg_F (qa c x9 x10 x11 : Int32) : Prop := (x9 = 1 ∧ qa = 7 ∨ x9 = 0 ∧ ¬ qa = 7) ∧ (x10 = 1 ∧ qa = 8 ∨ x10 = 0 ∧ ¬ qa = 8) ∧ (x11 = 1 ∧ sp_B c ∨ x11 = 0 ∧ ¬ sp_B c)
/-- right, or wrong -/
theorem yv_140 {qa : Int32} (hg : vg_F qa c x9 x10 x11) (hV : sp_V c) (hD : kc_D qa (y_sort w)) (h1 : (∃ K, kc_R qa (y_sort w) c K) → wY_bindValue_257 Q (nI k) x3 x4 (nI b) c (nI w) (y_sort w) x10 x11 1 y_length y_parts y_bad (nI N) 0 y_place y_bound (nI d) y_nextName y_wantsName y_wantsTag y_printed y_waiting y_scaled y_sort y_typeA y_typeB y_typeC y_fieldName y_fieldType y_fields y_tags y_needed y_text y_begin y_end y_inside y_whole y_kind y_value y_parent y_name y_slotOf y_placeOf y_complete y_openNode y_openType y_openCount y_openNames y_openChoice y_output y_todo) (h0 : (¬ ∃ K, kc_R qa (y_sort w) c K) → wY_bindValue_257 Q (nI k) x3 x4 (nI b) c (nI w) (y_sort w) x10 x11 0 y_length y_parts y_bad (nI N) 0 y_place y_bound (nI d) y_nextName y_wantsName y_wantsTag y_printed y_waiting y_scaled y_sort y_typeA y_typeB y_typeC y_fieldName y_fieldType y_fields y_tags y_needed y_text y_begin y_end y_inside y_whole y_kind y_value y_parent y_name y_slotOf y_placeOf y_complete y_openNode y_openType y_openCount y_openNames y_openChoice y_output y_todo) : wY_bindValue_140 Q (nI k) x3 x4 (nI b) c (nI w) (y_sort w) x9 x10 x11 y_length y_parts y_bad (nI N) 0 y_place y_bound (nI d) y_nextName y_wantsName y_wantsTag y_printed y_waiting y_scaled y_sort y_typeA y_typeB y_typeC y_fieldName y_fieldType y_fields y_tags y_needed y_text y_begin y_end y_inside y_whole y_kind y_value y_parent y_name y_slotOf y_placeOf y_complete y_openNode y_openType y_openCount y_openNames y_openChoice y_output y_todo := by
  obtain ⟨g9, g10, g11⟩ := hg
  by_cases c27 : c = 27
  · refine br_t c27 ?_
    have nB : ¬ sp_B c := by
      rw [c27]; rintro (q | q)
      · exact absurd q.2 (by decide)
      · exact absurd q (by decide)
    rcases g9 with ⟨rfl, q7⟩ | ⟨rfl, q7⟩
    · exact h1 ⟨5, Or.inr (Or.inr (Or.inr (Or.inr (Or.inr (Or.inl ⟨rfl, c27, q7⟩)))))⟩
    · refine h0 ?_
      rintro ⟨K, q | q | q | q | q | q | q⟩
      · exact nB q.2.1
      · rw [c27] at q; exact absurd q.2.1 (by decide)
      · rw [c27] at q; exact absurd q.2.1 (by decide)
      · rw [c27] at q; exact absurd q.2.1 (by decide)
      · rw [c27] at q; exact absurd q.2.1 (by decide)
      · exact q7 q.2.2
      · exact nB q.2.1
  refine br_f c27 ?_
  rcases g11 with ⟨rfl, hB⟩ | ⟨rfl, nB⟩
  · refine br_f (by decide) ?_
    have e16 : ¬ c = 16 := by rintro rfl; rcases hB with q | q; exact absurd q.2 (by decide); exact absurd q (by decide)
    have e12 : ¬ c = 12 := by rintro rfl; rcases hB with q | q; exact absurd q.2 (by decide); exact absurd q (by decide)
    have e10 : ¬ c = 10 := by rintro rfl; rcases hB with q | q; exact absurd q.2 (by decide); exact absurd q (by decide)
    have e28 : ¬ (c = 28 ∨ c = 29) := by rintro (rfl | rfl) <;> (rcases hB with q | q; exact absurd q.2 (by decide); exact absurd q (by decide))
    by_cases s1 : y_sort w = 1
    · refine br_t s1 (h1 ⟨0, Or.inl ⟨rfl, hB, s1, fun q8 => ?_⟩⟩)
      have := hD.1 q8; rw [s1] at this; exact absurd this (by decide)
    · refine br_f s1 ?_
      rcases g10 with ⟨rfl, q8⟩ | ⟨rfl, q8⟩
      · exact br_f (by decide) (h1 ⟨6, Or.inr (Or.inr (Or.inr (Or.inr (Or.inr (Or.inr ⟨rfl, hB, q8⟩)))))⟩)
      · refine br_t rfl (h0 ?_)
        rintro ⟨K, q | q | q | q | q | q | q⟩
        · exact s1 q.2.2.1
        · exact e16 q.2.1
        · exact e28 q.2.1
        · exact e12 q.2.1
        · exact e10 q.2.1
        · exact c27 q.2.1
        · exact q8 q.2.2
  · refine br_t rfl ?_
    by_cases e16 : c = 16
    · refine br_t e16 ?_
      by_cases s2 : y_sort w = 2
      · exact br_t s2 (h1 ⟨1, Or.inr (Or.inl ⟨rfl, e16, s2⟩)⟩)
      · refine br_f s2 (h0 ?_)
        rintro ⟨K, q | q | q | q | q | q | q⟩
        · exact nB q.2.1
        · exact s2 q.2.2
        · rw [e16] at q; exact absurd q.2.1 (by decide)
        · rw [e16] at q; exact absurd q.2.1 (by decide)
        · rw [e16] at q; exact absurd q.2.1 (by decide)
        · exact c27 q.2.1
        · exact nB q.2.1
    refine br_f e16 ?_
    by_cases e12 : c = 12
    · refine br_t e12 ?_
      by_cases s4 : y_sort w = 4
      · exact br_t s4 (h1 ⟨3, Or.inr (Or.inr (Or.inr (Or.inl ⟨rfl, e12, s4⟩)))⟩)
      · refine br_f s4 (h0 ?_)
        rintro ⟨K, q | q | q | q | q | q | q⟩
        · exact nB q.2.1
        · exact e16 q.2.1
        · rw [e12] at q; exact absurd q.2.1 (by decide)
        · exact s4 q.2.2
        · rw [e12] at q; exact absurd q.2.1 (by decide)
        · exact c27 q.2.1
        · exact nB q.2.1
    refine br_f e12 ?_
    by_cases e10 : c = 10
    · refine br_t e10 ?_
      by_cases s5 : y_sort w = 5
      · exact br_t s5 (h1 ⟨4, Or.inr (Or.inr (Or.inr (Or.inr (Or.inl ⟨rfl, e10, Or.inl s5⟩))))⟩)
      · refine br_f s5 ?_
        by_cases s6 : y_sort w = 6
        · exact br_t s6 (h1 ⟨4, Or.inr (Or.inr (Or.inr (Or.inr (Or.inl ⟨rfl, e10, Or.inr s6⟩))))⟩)
        · refine br_f s6 (h0 ?_)
          rintro ⟨K, q | q | q | q | q | q | q⟩
          · exact nB q.2.1
          · exact e16 q.2.1
          · rw [e10] at q; exact absurd q.2.1 (by decide)
          · exact e12 q.2.1
          · exact q.2.2.elim s5 s6
          · exact c27 q.2.1
          · exact nB q.2.1
    refine br_f e10 ?_
    have e28 : c = 28 ∨ c = 29 := by
      rcases hV with q | q | q | q | q | q | q | q
      · exact absurd (Or.inl q) nB
      · exact absurd q e10
      · exact absurd q e12
      · exact absurd q e16
      · exact absurd (Or.inr q) nB
      · exact absurd q c27
      · exact Or.inl q
      · exact Or.inr q
    by_cases s3 : y_sort w = 3
    · exact br_t s3 (h1 ⟨2, Or.inr (Or.inr (Or.inl ⟨rfl, e28, s3⟩))⟩)
    · refine br_f s3 (h0 ?_)
      rintro ⟨K, q | q | q | q | q | q | q⟩
      · exact nB q.2.1
      · exact e16 q.2.1
      · exact s3 q.2.2
      · exact e12 q.2.1
      · exact e10 q.2.1
      · exact c27 q.2.1
      · exact nB q.2.1
end
