/-! the bind: the reference's value, from its call to its node -/
section
variable {y_length y_parts y_bad y_nodes y_fault y_place y_bound y_depth y_nextName y_wantsName y_wantsTag y_printed y_waiting y_scaled : Int32} {y_sort y_typeA y_typeB y_typeC y_fieldName y_fieldType y_fields y_tags y_needed y_text y_begin y_end y_inside y_whole y_kind y_value y_parent y_name y_slotOf y_placeOf y_complete y_openNode y_openType y_openCount y_openNames y_openChoice y_output y_todo : Nat → Int32} {a w n : Nat} {x3 : Int32} {Q : SY → Prop}
theorem wr_0 {post : Int32 → Prop} (ha : a < 12) (h7 : ¬ y_sort a = 7) (h8 : ¬ y_sort a = 8) (h : post 0) : wpY_wrapped post (y_length, y_parts, y_bad, y_nodes, y_fault, y_place, y_bound, y_depth, y_nextName, y_wantsName, y_wantsTag, y_printed, y_waiting, y_scaled, y_sort, y_typeA, y_typeB, y_typeC, y_fieldName, y_fieldType, y_fields, y_tags, y_needed, y_text, y_begin, y_end, y_inside, y_whole, y_kind, y_value, y_parent, y_name, y_slotOf, y_placeOf, y_complete, y_openNode, y_openType, y_openCount, y_openNames, y_openChoice, y_output, y_todo) (nI a) := by
  have ea : (nI a).toNatClampNeg = a := nI_clamp (by omega)
  have ia : vp_in (nI a) 12 := vp_in_nI ha (by decide)
  refine And.intro ia ?_
  rw [ea]; exact br_f h7 ⟨ia, br_f h8 h⟩
theorem wr_1 {post : Int32 → Prop} (ha : a < 12) (h7 : y_sort a = 7 ∨ y_sort a = 8) (h : post 1) : wpY_wrapped post (y_length, y_parts, y_bad, y_nodes, y_fault, y_place, y_bound, y_depth, y_nextName, y_wantsName, y_wantsTag, y_printed, y_waiting, y_scaled, y_sort, y_typeA, y_typeB, y_typeC, y_fieldName, y_fieldType, y_fields, y_tags, y_needed, y_text, y_begin, y_end, y_inside, y_whole, y_kind, y_value, y_parent, y_name, y_slotOf, y_placeOf, y_complete, y_openNode, y_openType, y_openCount, y_openNames, y_openChoice, y_output, y_todo) (nI a) := by
  have ea : (nI a).toNatClampNeg = a := nI_clamp (by omega)
  have ia : vp_in (nI a) 12 := vp_in_nI ha (by decide)
  refine And.intro ia ?_
  rw [ea]
  by_cases z : y_sort a = 7
  · exact br_t z h
  · exact br_f z ⟨ia, br_t (h7.resolve_left z) h⟩
theorem yv_564r (h : Q (y_length, y_parts, y_bad, y_nodes, y_fault, y_place, y_bound, y_depth, y_nextName, y_wantsName, y_wantsTag, y_printed, y_waiting, y_scaled, y_sort, y_typeA, y_typeB, y_typeC, y_fieldName, y_fieldType, y_fields, y_tags, y_needed, y_text, y_begin, y_end, y_inside, y_whole, y_kind, y_value, y_parent, y_name, y_slotOf, y_placeOf, y_complete, y_openNode, y_openType, y_openCount, y_openNames, y_openChoice, y_output, y_todo)) : wY_bindValue_564 Q (-1) y_length y_parts y_bad y_nodes y_fault y_place y_bound y_depth y_nextName y_wantsName y_wantsTag y_printed y_waiting y_scaled y_sort y_typeA y_typeB y_typeC y_fieldName y_fieldType y_fields y_tags y_needed y_text y_begin y_end y_inside y_whole y_kind y_value y_parent y_name y_slotOf y_placeOf y_complete y_openNode y_openType y_openCount y_openNames y_openChoice y_output y_todo := br_t (by decide) h
theorem yv_564n (hn : n < 40) (h1 : y_kind n = 3 → Q (y_length, y_parts, y_bad, y_nodes, y_fault, y_place, y_bound, y_depth, y_nextName, y_wantsName, y_wantsTag, y_printed, y_waiting, y_scaled, y_sort, y_typeA, y_typeB, y_typeC, y_fieldName, y_fieldType, y_fields, y_tags, y_needed, y_text, y_begin, y_end, y_inside, y_whole, y_kind, upd y_value n (y_value n + 1), y_parent, y_name, y_slotOf, y_placeOf, y_complete, y_openNode, y_openType, y_openCount, y_openNames, y_openChoice, y_output, y_todo)) (h0 : ¬ y_kind n = 3 → Q (y_length, y_parts, y_bad, y_nodes, y_fault, y_place, y_bound, y_depth, y_nextName, y_wantsName, y_wantsTag, y_printed, y_waiting, y_scaled, y_sort, y_typeA, y_typeB, y_typeC, y_fieldName, y_fieldType, y_fields, y_tags, y_needed, y_text, y_begin, y_end, y_inside, y_whole, y_kind, y_value, y_parent, y_name, y_slotOf, y_placeOf, y_complete, y_openNode, y_openType, y_openCount, y_openNames, y_openChoice, y_output, y_todo)) : wY_bindValue_564 Q (nI n) y_length y_parts y_bad y_nodes y_fault y_place y_bound y_depth y_nextName y_wantsName y_wantsTag y_printed y_waiting y_scaled y_sort y_typeA y_typeB y_typeC y_fieldName y_fieldType y_fields y_tags y_needed y_text y_begin y_end y_inside y_whole y_kind y_value y_parent y_name y_slotOf y_placeOf y_complete y_openNode y_openType y_openCount y_openNames y_openChoice y_output y_todo := by
  have en : (nI n).toNatClampNeg = n := nI_clamp (by omega)
  have i40 : vp_in (nI n) 40 := vp_in_nI hn (by decide)
  unfold wY_bindValue_564
  rw [en]
  exact br_f (nI_pos (by omega)) ⟨i40, fun z => ⟨i40, i40, nm_e (h1 z)⟩, h0⟩
end
theorem kc_7 {so tD : Nat → Int32} {a w : Nat} (h : kc_I so tD a w) : (so a < 7 ∧ w = a ∧ ¬ so a = 7 ∧ ¬ so a = 8) ∨ ((so a = 7 ∨ so a = 8) ∧ ¬ so a < 7 ∧ tD a = nI w) := by
  obtain ⟨-, -, hi, -, j, hj, e⟩ := h
  rcases hi with ⟨h1, h2⟩ | ⟨h1, h2⟩
  · refine Or.inl ⟨h1, h2, fun z => ?_, fun z => ?_⟩
    · rw [z] at h1; exact absurd h1 (by decide)
    · rw [z] at h1; exact absurd h1 (by decide)
  · refine Or.inr ⟨?_, h1, h2⟩
    rw [e] at h1 ⊢
    have : ¬ j < 7 := fun z => h1 (nI_lt (b := 7) z (by decide))
    have hj' : j = 7 ∨ j = 8 := by omega
    rcases hj' with rfl | rfl
    · exact Or.inl rfl
    · exact Or.inr rfl
section
variable {y_length y_parts y_bad y_place y_bound y_nextName y_wantsName y_wantsTag y_printed y_waiting y_scaled : Int32} {y_sort y_typeA y_typeB y_typeC y_fieldName y_fieldType y_fields y_tags y_needed y_text y_begin y_end y_inside y_whole y_kind y_value y_parent y_name y_slotOf y_placeOf y_complete y_openNode y_openType y_openCount y_openNames y_openChoice y_output y_todo : Nat → Int32} {a w d N n s K k b : Nat} {c x3 x4 : Int32} {Q : SY → Prop}
theorem yv_top (hk : k < 96) (hb : b < 96) (eb : y_begin k = nI b) (ec : y_text b = c) (hV : sp_V c) (c0 : ¬ c < 0) (hI : kc_I y_sort y_typeA a w) (hn40 : n < 40) (hpc : pc_Y d y_kind y_openType x3 n s)
    (h2 : ¬ kc_D (y_sort a) (y_sort w) → Q (y_length, y_parts, y_bad, nI N, 2, nI b, y_bound, nI d, y_nextName, y_wantsName, y_wantsTag, y_printed, y_waiting, y_scaled, y_sort, y_typeA, y_typeB, y_typeC, y_fieldName, y_fieldType, y_fields, y_tags, y_needed, y_text, y_begin, y_end, y_inside, y_whole, y_kind, y_value, y_parent, y_name, y_slotOf, y_placeOf, y_complete, y_openNode, y_openType, y_openCount, y_openNames, y_openChoice, y_output, y_todo)) (h3 : kc_D (y_sort a) (y_sort w) → (¬ ∃ K, kc_R (y_sort a) (y_sort w) c K) → Q (y_length, y_parts, y_bad, nI N, 3, nI b, y_bound, nI d, y_nextName, y_wantsName, y_wantsTag, y_printed, y_waiting, y_scaled, y_sort, y_typeA, y_typeB, y_typeC, y_fieldName, y_fieldType, y_fields, y_tags, y_needed, y_text, y_begin, y_end, y_inside, y_whole, y_kind, y_value, y_parent, y_name, y_slotOf, y_placeOf, y_complete, y_openNode, y_openType, y_openCount, y_openNames, y_openChoice, y_output, y_todo))
    (h1 : ∀ x9 x10 x11 : Int32, vg_F (y_sort a) c x9 x10 x11 → kc_D (y_sort a) (y_sort w) → (∃ K, kc_R (y_sort a) (y_sort w) c K) → wY_bindValue_271 Q (nI k) x3 x4 (nI b) c (nI w) (y_sort w) x10 x11 y_length y_parts y_bad (nI N) 0 y_place y_bound (nI d) y_nextName y_wantsName y_wantsTag y_printed y_waiting y_scaled y_sort y_typeA y_typeB y_typeC y_fieldName y_fieldType y_fields y_tags y_needed y_text y_begin y_end y_inside y_whole y_kind y_value y_parent y_name y_slotOf y_placeOf y_complete y_openNode y_openType y_openCount y_openNames y_openChoice y_output y_todo) : wpY_bindValue Q (y_length, y_parts, y_bad, nI N, 0, y_place, y_bound, nI d, y_nextName, y_wantsName, y_wantsTag, y_printed, y_waiting, y_scaled, y_sort, y_typeA, y_typeB, y_typeC, y_fieldName, y_fieldType, y_fields, y_tags, y_needed, y_text, y_begin, y_end, y_inside, y_whole, y_kind, y_value, y_parent, y_name, y_slotOf, y_placeOf, y_complete, y_openNode, y_openType, y_openCount, y_openNames, y_openChoice, y_output, y_todo) (nI k) (nI a) x3 x4 := by
  have ha := hI.1
  have hw := hI.2.1
  have ek : (nI k).toNatClampNeg = k := nI_clamp (by omega)
  have eB : (nI b).toNatClampNeg = b := nI_clamp (by omega)
  have ea : (nI a).toNatClampNeg = a := nI_clamp (by omega)
  have ew : (nI w).toNatClampNeg = w := nI_clamp (by omega)
  have ia : vp_in (nI a) 12 := vp_in_nI ha (by decide)
  have iw : vp_in (nI w) 12 := vp_in_nI hw (by decide)
  have t140 : ∀ x9 x10 x11 : Int32, vg_F (y_sort a) c x9 x10 x11 → kc_D (y_sort a) (y_sort w) → wY_bindValue_140 Q (nI k) x3 x4 (nI b) c (nI w) (y_sort w) x9 x10 x11 y_length y_parts y_bad (nI N) 0 y_place y_bound (nI d) y_nextName y_wantsName y_wantsTag y_printed y_waiting y_scaled y_sort y_typeA y_typeB y_typeC y_fieldName y_fieldType y_fields y_tags y_needed y_text y_begin y_end y_inside y_whole y_kind y_value y_parent y_name y_slotOf y_placeOf y_complete y_openNode y_openType y_openCount y_openNames y_openChoice y_output y_todo := by
    intro x9 x10 x11 hg D
    exact yv_140 hg hV D (fun E => br_f (by decide) (h1 x9 x10 x11 hg D E)) (fun E => br_t rfl (br_t rfl (yv_f (x9 := 0) (by decide) hpc (h3 D E)).2.2.2.1))
  have t133 : ∀ x9 x10 x11 : Int32, ¬ kc_D (y_sort a) (y_sort w) → wY_bindValue_133 Q (nI k) x3 x4 (nI b) c (nI w) (y_sort w) x9 x10 x11 y_length y_parts y_bad (nI N) 0 y_place y_bound (nI d) y_nextName y_wantsName y_wantsTag y_printed y_waiting y_scaled y_sort y_typeA y_typeB y_typeC y_fieldName y_fieldType y_fields y_tags y_needed y_text y_begin y_end y_inside y_whole y_kind y_value y_parent y_name y_slotOf y_placeOf y_complete y_openNode y_openType y_openCount y_openNames y_openChoice y_output y_todo := by
    intro x9 x10 x11 D
    exact br_t rfl (yv_f (by decide) hpc (h2 D)).2.1
  have t122 : ∀ x9 x10 x11 : Int32, vg_F (y_sort a) c x9 x10 x11 → ¬ y_sort w = 0 → (¬ y_sort a = 8 → kc_D (y_sort a) (y_sort w)) → wY_bindValue_122 Q (nI k) x3 x4 (nI b) c (nI w) (y_sort w) x9 x10 x11 y_length y_parts y_bad (nI N) 0 y_place y_bound (nI d) y_nextName y_wantsName y_wantsTag y_printed y_waiting y_scaled y_sort y_typeA y_typeB y_typeC y_fieldName y_fieldType y_fields y_tags y_needed y_text y_begin y_end y_inside y_whole y_kind y_value y_parent y_name y_slotOf y_placeOf y_complete y_openNode y_openType y_openCount y_openNames y_openChoice y_output y_todo := by
    intro x9 x10 x11 hg s0 hD
    rcases hg.2.1 with ⟨e, q8⟩ | ⟨e, q8⟩
    · refine br_f (by rw [e]; decide) ?_
      by_cases s5 : y_sort w = 5
      · exact br_t s5 (t140 x9 x10 x11 hg ⟨fun _ => s5, fun z => absurd q8 z⟩)
      · exact br_f s5 (t133 x9 x10 x11 (fun D => s5 (D.1 q8)))
    · exact br_t e (t140 x9 x10 x11 hg (hD q8))
  have t101 : ∀ x9 x10 x11 : Int32, vg_F (y_sort a) c x9 x10 x11 → wY_bindValue_101 Q (nI k) x3 x4 (nI b) c (nI w) (y_sort w) x9 x10 x11 y_length y_parts y_bad (nI N) 0 y_place y_bound (nI d) y_nextName y_wantsName y_wantsTag y_printed y_waiting y_scaled y_sort y_typeA y_typeB y_typeC y_fieldName y_fieldType y_fields y_tags y_needed y_text y_begin y_end y_inside y_whole y_kind y_value y_parent y_name y_slotOf y_placeOf y_complete y_openNode y_openType y_openCount y_openNames y_openChoice y_output y_todo := by
    intro x9 x10 x11 hg
    by_cases s0 : y_sort w = 0
    · refine br_t s0 (t133 x9 x10 x11 (fun D => ?_))
      by_cases q8 : y_sort a = 8
      · have := D.1 q8; rw [s0] at this; exact absurd this (by decide)
      · exact (D.2 q8).1 s0
    refine br_f s0 ?_
    rcases hg.1 with ⟨e, q7⟩ | ⟨e, q7⟩
    · refine br_f (by rw [e]; decide) ?_
      have n8 : ¬ y_sort a = 8 := by rw [q7]; decide
      by_cases wr : y_sort w = 7 ∨ y_sort w = 8
      · refine wr_1 hw wr (br_f (by decide) (t133 x9 x10 x11 (fun D => (D.2 n8).2 ?_)))
        rcases wr with z | z <;> (rw [z]; decide)
      · refine wr_0 hw (fun z => wr (Or.inl z)) (fun z => wr (Or.inr z)) (br_t rfl (t122 x9 x10 x11 hg s0 (fun _ => ⟨fun z => absurd z n8, fun _ => ⟨s0, fun z => wr ?_⟩⟩)))
        obtain ⟨j, hj, ej⟩ := hI.2.2.2.1
        rw [ej] at z ⊢
        have : 7 ≤ j := (nI_leI (a := 7) (by decide) (by omega)).mp z
        have hj' : j = 7 ∨ j = 8 := by omega
        rcases hj' with rfl | rfl
        · exact Or.inl rfl
        · exact Or.inr rfl
    · refine br_t e (t122 x9 x10 x11 hg s0 (fun n8 => ⟨fun z => absurd z n8, fun _ => ⟨s0, fun z => ?_⟩⟩))
      rcases kc_7 hI with ⟨k1, rfl, -, -⟩ | ⟨k1, -, -⟩
      · exact absurd z (Int32.not_le.mpr k1)
      · exact k1.elim q7 n8
  have t80 : ∀ x9 x10 : Int32, (x9 = 1 ∧ y_sort a = 7 ∨ x9 = 0 ∧ ¬ y_sort a = 7) → (x10 = 1 ∧ y_sort a = 8 ∨ x10 = 0 ∧ ¬ y_sort a = 8) → wY_bindValue_80 Q (nI k) x3 x4 (nI b) c (nI w) (y_sort w) x9 x10 y_length y_parts y_bad (nI N) 0 y_place y_bound (nI d) y_nextName y_wantsName y_wantsTag y_printed y_waiting y_scaled y_sort y_typeA y_typeB y_typeC y_fieldName y_fieldType y_fields y_tags y_needed y_text y_begin y_end y_inside y_whole y_kind y_value y_parent y_name y_slotOf y_placeOf y_complete y_openNode y_openType y_openCount y_openNames y_openChoice y_output y_todo := by
    intro x9 x10 g9 g10
    by_cases c10 : c < 10
    · have hB : sp_B c := by
        refine Or.inl ⟨Int32.not_lt.mp c0, ?_⟩
        rw [Int32.lt_iff_toInt_lt] at c10
        rw [Int32.le_iff_toInt_le]
        have e1 : (10 : Int32).toInt = 10 := by decide
        have e2 : (9 : Int32).toInt = 9 := by decide
        omega
      exact br_t c10 (t101 x9 x10 1 ⟨g9, g10, Or.inl ⟨rfl, hB⟩⟩)
    · refine br_f c10 ?_
      by_cases c17 : c = 17
      · exact br_t c17 (t101 x9 x10 1 ⟨g9, g10, Or.inl ⟨rfl, Or.inr c17⟩⟩)
      · refine br_f c17 (t101 x9 x10 0 ⟨g9, g10, Or.inr ⟨rfl, ?_⟩⟩)
        rintro (z | z)
        · exact c10 (Int32.lt_of_le_of_lt z.2 (by decide))
        · exact c17 z
  have t62 : ∀ x9 : Int32, (x9 = 1 ∧ y_sort a = 7 ∨ x9 = 0 ∧ ¬ y_sort a = 7) → wY_bindValue_62 Q (nI k) (nI a) x3 x4 (nI b) c (nI w) (y_sort w) x9 y_length y_parts y_bad (nI N) 0 y_place y_bound (nI d) y_nextName y_wantsName y_wantsTag y_printed y_waiting y_scaled y_sort y_typeA y_typeB y_typeC y_fieldName y_fieldType y_fields y_tags y_needed y_text y_begin y_end y_inside y_whole y_kind y_value y_parent y_name y_slotOf y_placeOf y_complete y_openNode y_openType y_openCount y_openNames y_openChoice y_output y_todo := by
    intro x9 g9
    unfold wY_bindValue_62
    rw [ea]
    exact ⟨ia, fun z => t80 x9 1 g9 (Or.inl ⟨rfl, z⟩), fun z => t80 x9 0 g9 (Or.inr ⟨rfl, z⟩)⟩
  have t35 : wY_bindValue_35 Q (nI k) (nI a) x3 x4 (nI b) c (nI w) y_length y_parts y_bad (nI N) 0 y_place y_bound (nI d) y_nextName y_wantsName y_wantsTag y_printed y_waiting y_scaled y_sort y_typeA y_typeB y_typeC y_fieldName y_fieldType y_fields y_tags y_needed y_text y_begin y_end y_inside y_whole y_kind y_value y_parent y_name y_slotOf y_placeOf y_complete y_openNode y_openType y_openCount y_openNames y_openChoice y_output y_todo := by
    unfold wY_bindValue_35
    rw [ea, ew]
    exact ⟨iw, nm_e ⟨ia, fun z => t62 1 (Or.inl ⟨rfl, z⟩), fun z => t62 0 (Or.inr ⟨rfl, z⟩)⟩⟩
  unfold wpY_bindValue
  dsimp only
  rw [ek, eb, ea]
  refine ⟨vp_in_nI hk (by decide), nm_e ⟨vp_in_nI hb (by decide), nm_r (e' := c) (by rw [eB]; exact ec) ?_⟩⟩
  rcases kc_7 hI with ⟨-, e, n7, n8⟩ | ⟨k1, -, e⟩
  · rw [e] at t35
    exact wr_0 ha n7 n8 (br_t rfl t35)
  · refine wr_1 ha k1 (br_f (by decide) ⟨ia, ?_⟩)
    rw [e]; exact t35
end
section
variable {y_length y_parts y_bad y_place y_bound y_depth y_nextName y_wantsName y_wantsTag y_printed y_waiting y_scaled : Int32} {y_sort y_typeA y_typeB y_typeC y_fieldName y_fieldType y_fields y_tags y_needed y_text y_begin y_end y_inside y_whole y_kind y_value y_parent y_name y_slotOf y_placeOf y_complete y_openNode y_openType y_openCount y_openNames y_openChoice y_output y_todo : Nat → Int32} {a w N K k b : Nat} {c x3 x4 x9 x10 x11 : Int32} {Q : SY → Prop}
/-- the value that the new node has at first -/
def v0_F (S c : Int32) (cm : Int32) : Int32 := if S = 5 ∧ c = 10 then cm else if c = 28 then 1 else 0
theorem yv_359 (hN : N < 40) (hw : w < 12) (hg : vg_F (y_sort a) c x9 x10 x11) (hD : kc_D (y_sort a) (y_sort w)) (hR : kc_R (y_sort a) (y_sort w) c K)
    (h : (x11 = 0 → ((c = 16 → wpY_bindText (fun u => match u with | (y_length, y_parts, y_bad, y_nodes, y_fault, y_place, y_bound, y_depth, y_nextName, y_wantsName, y_wantsTag, y_printed, y_waiting, y_scaled, y_sort, y_typeA, y_typeB, y_typeC, y_fieldName, y_fieldType, y_fields, y_tags, y_needed, y_text, y_begin, y_end, y_inside, y_whole, y_kind, y_value, y_parent, y_name, y_slotOf, y_placeOf, y_complete, y_openNode, y_openType, y_openCount, y_openNames, y_openChoice, y_output, y_todo) => wY_bindValue_564 Q x3 y_length y_parts y_bad y_nodes y_fault y_place y_bound y_depth y_nextName y_wantsName y_wantsTag y_printed y_waiting y_scaled y_sort y_typeA y_typeB y_typeC y_fieldName y_fieldType y_fields y_tags y_needed y_text y_begin y_end y_inside y_whole y_kind y_value y_parent y_name y_slotOf y_placeOf y_complete y_openNode y_openType y_openCount y_openNames y_openChoice y_output y_todo) (y_length, y_parts, y_bad, nI (N + 1), 0, y_place, y_bound, y_depth, y_nextName, y_wantsName, y_wantsTag, y_printed, y_waiting, y_scaled, y_sort, y_typeA, y_typeB, y_typeC, y_fieldName, y_fieldType, y_fields, y_tags, y_needed, y_text, y_begin, y_end, y_inside, y_whole, upd y_kind N (nI K), upd y_value N (v0_F (y_sort w) c (y_complete w)), upd y_parent N x3, upd y_name N x4, upd y_slotOf N (nI w), upd y_placeOf N (nI b), y_complete, y_openNode, y_openType, y_openCount, y_openNames, y_openChoice, y_output, y_todo) (nI k) (nI N)) ∧ (¬ c = 16 → ((c = 10 ∨ c = 12 → wpY_open (fun u => match u with | (y_length, y_parts, y_bad, y_nodes, y_fault, y_place, y_bound, y_depth, y_nextName, y_wantsName, y_wantsTag, y_printed, y_waiting, y_scaled, y_sort, y_typeA, y_typeB, y_typeC, y_fieldName, y_fieldType, y_fields, y_tags, y_needed, y_text, y_begin, y_end, y_inside, y_whole, y_kind, y_value, y_parent, y_name, y_slotOf, y_placeOf, y_complete, y_openNode, y_openType, y_openCount, y_openNames, y_openChoice, y_output, y_todo) => wY_bindValue_564 Q x3 y_length y_parts y_bad y_nodes y_fault y_place y_bound y_depth y_nextName y_wantsName y_wantsTag y_printed y_waiting y_scaled y_sort y_typeA y_typeB y_typeC y_fieldName y_fieldType y_fields y_tags y_needed y_text y_begin y_end y_inside y_whole y_kind y_value y_parent y_name y_slotOf y_placeOf y_complete y_openNode y_openType y_openCount y_openNames y_openChoice y_output y_todo) (y_length, y_parts, y_bad, nI (N + 1), 0, y_place, y_bound, y_depth, y_nextName, y_wantsName, y_wantsTag, y_printed, y_waiting, y_scaled, y_sort, y_typeA, y_typeB, y_typeC, y_fieldName, y_fieldType, y_fields, y_tags, y_needed, y_text, y_begin, y_end, y_inside, y_whole, upd y_kind N (nI K), upd y_value N (v0_F (y_sort w) c (y_complete w)), upd y_parent N x3, upd y_name N x4, upd y_slotOf N (nI w), upd y_placeOf N (nI b), y_complete, y_openNode, y_openType, y_openCount, y_openNames, y_openChoice, y_output, y_todo) (nI N) (nI w)) ∧ (¬ (c = 10 ∨ c = 12) → wY_bindValue_564 Q x3 y_length y_parts y_bad (nI (N + 1)) 0 y_place y_bound y_depth y_nextName y_wantsName y_wantsTag y_printed y_waiting y_scaled y_sort y_typeA y_typeB y_typeC y_fieldName y_fieldType y_fields y_tags y_needed y_text y_begin y_end y_inside y_whole (upd y_kind N (nI K)) (upd y_value N (v0_F (y_sort w) c (y_complete w))) (upd y_parent N x3) (upd y_name N x4) (upd y_slotOf N (nI w)) (upd y_placeOf N (nI b)) y_complete y_openNode y_openType y_openCount y_openNames y_openChoice y_output y_todo))))) ∧ (¬ x11 = 0 → wpY_bindNumber (fun u => match u with | (y_length, y_parts, y_bad, y_nodes, y_fault, y_place, y_bound, y_depth, y_nextName, y_wantsName, y_wantsTag, y_printed, y_waiting, y_scaled, y_sort, y_typeA, y_typeB, y_typeC, y_fieldName, y_fieldType, y_fields, y_tags, y_needed, y_text, y_begin, y_end, y_inside, y_whole, y_kind, y_value, y_parent, y_name, y_slotOf, y_placeOf, y_complete, y_openNode, y_openType, y_openCount, y_openNames, y_openChoice, y_output, y_todo) => wY_bindValue_564 Q x3 y_length y_parts y_bad y_nodes y_fault y_place y_bound y_depth y_nextName y_wantsName y_wantsTag y_printed y_waiting y_scaled y_sort y_typeA y_typeB y_typeC y_fieldName y_fieldType y_fields y_tags y_needed y_text y_begin y_end y_inside y_whole y_kind y_value y_parent y_name y_slotOf y_placeOf y_complete y_openNode y_openType y_openCount y_openNames y_openChoice y_output y_todo) (y_length, y_parts, y_bad, nI (N + 1), 0, y_place, y_bound, y_depth, y_nextName, y_wantsName, y_wantsTag, y_printed, y_waiting, y_scaled, y_sort, y_typeA, y_typeB, y_typeC, y_fieldName, y_fieldType, y_fields, y_tags, y_needed, y_text, y_begin, y_end, y_inside, y_whole, upd y_kind N (nI K), upd y_value N (v0_F (y_sort w) c (y_complete w)), upd y_parent N x3, upd y_name N x4, upd y_slotOf N (nI w), upd y_placeOf N (nI b), y_complete, y_openNode, y_openType, y_openCount, y_openNames, y_openChoice, y_output, y_todo) (nI k) (nI N) x10)) : wY_bindValue_359 Q (nI k) x3 x4 (nI b) c (nI w) (y_sort w) x10 x11 y_length y_parts y_bad (nI N) 0 y_place y_bound y_depth y_nextName y_wantsName y_wantsTag y_printed y_waiting y_scaled y_sort y_typeA y_typeB y_typeC y_fieldName y_fieldType y_fields y_tags y_needed y_text y_begin y_end y_inside y_whole y_kind y_value y_parent y_name y_slotOf y_placeOf y_complete y_openNode y_openType y_openCount y_openNames y_openChoice y_output y_todo := by
  have eN : (nI N).toNatClampNeg = N := nI_clamp (by omega)
  have iN : vp_in (nI N) 40 := vp_in_nI hN (by decide)
  have ew : (nI w).toNatClampNeg = w := nI_clamp (by omega)
  have t472 : ∀ v : Int32, v = v0_F (y_sort w) c (y_complete w) → wY_bindValue_472 Q (nI k) x3 x4 (nI b) c (nI w) x10 x11 (nI N) v (nI N) y_length y_parts y_bad (nI (N + 1)) 0 y_place y_bound y_depth y_nextName y_wantsName y_wantsTag y_printed y_waiting y_scaled y_sort y_typeA y_typeB y_typeC y_fieldName y_fieldType y_fields y_tags y_needed y_text y_begin y_end y_inside y_whole (upd y_kind N (nI K)) y_value y_parent y_name y_slotOf y_placeOf y_complete y_openNode y_openType y_openCount y_openNames y_openChoice y_output y_todo := by
    rintro v rfl
    unfold wY_bindValue_472
    rw [eN]
    refine ⟨iN, nm_e ⟨iN, nm_e ⟨iN, nm_e ⟨iN, nm_e ⟨iN, nm_e ⟨fun z => ?_, h.2⟩⟩⟩⟩⟩⟩
    refine ⟨(h.1 z).1, fun z16 => ?_⟩
    obtain ⟨ho, hn⟩ := (h.1 z).2 z16
    exact ⟨fun z10 => ho (Or.inl z10), fun z10 => ⟨fun z12 => ho (Or.inr z12), fun z12 => hn (fun y => y.elim z10 z12)⟩⟩
  have t430 : wY_bindValue_430 Q (nI k) x3 x4 (nI b) c (nI w) (y_sort w) x10 x11 (nI N) (nI K) (nI N) y_length y_parts y_bad (nI (N + 1)) 0 y_place y_bound y_depth y_nextName y_wantsName y_wantsTag y_printed y_waiting y_scaled y_sort y_typeA y_typeB y_typeC y_fieldName y_fieldType y_fields y_tags y_needed y_text y_begin y_end y_inside y_whole y_kind y_value y_parent y_name y_slotOf y_placeOf y_complete y_openNode y_openType y_openCount y_openNames y_openChoice y_output y_todo := by
    unfold wY_bindValue_430
    rw [eN, ew]
    have t460 : ¬ (y_sort w = 5 ∧ c = 10) → wY_bindValue_460 Q (nI k) x3 x4 (nI b) c (nI w) x10 x11 (nI N) (nI N) y_length y_parts y_bad (nI (N + 1)) 0 y_place y_bound y_depth y_nextName y_wantsName y_wantsTag y_printed y_waiting y_scaled y_sort y_typeA y_typeB y_typeC y_fieldName y_fieldType y_fields y_tags y_needed y_text y_begin y_end y_inside y_whole (upd y_kind N (nI K)) y_value y_parent y_name y_slotOf y_placeOf y_complete y_openNode y_openType y_openCount y_openNames y_openChoice y_output y_todo := by
      intro z
      by_cases c28 : c = 28
      · exact br_t c28 (t472 1 (by unfold v0_F; rw [if_neg z, if_pos c28]))
      · exact br_f c28 (t472 0 (by unfold v0_F; rw [if_neg z, if_neg c28]))
    refine ⟨iN, nm_e ⟨fun s5 => ⟨fun c10 => ⟨vp_in_nI hw (by decide), t472 _ ?_⟩, fun c10 => t460 (fun z => c10 z.2)⟩, fun s5 => t460 (fun z => s5 z.1)⟩⟩
    unfold v0_F; rw [if_pos ⟨s5, c10⟩]
  have t415 : (∀ z : Int32, (y_sort w = 6 → z = 4) → (¬ y_sort w = 6 → z = y_sort w - 1) → z = nI K) → wY_bindValue_415 Q (nI k) x3 x4 (nI b) c (nI w) (y_sort w) x10 x11 (nI N) (nI N) y_length y_parts y_bad (nI (N + 1)) 0 y_place y_bound y_depth y_nextName y_wantsName y_wantsTag y_printed y_waiting y_scaled y_sort y_typeA y_typeB y_typeC y_fieldName y_fieldType y_fields y_tags y_needed y_text y_begin y_end y_inside y_whole y_kind y_value y_parent y_name y_slotOf y_placeOf y_complete y_openNode y_openType y_openCount y_openNames y_openChoice y_output y_todo := by
    intro hz
    by_cases s6 : y_sort w = 6
    · refine br_t s6 ?_
      rw [hz 4 (fun _ => rfl) (fun z => absurd s6 z)]; exact t430
    · refine br_f s6 ?_
      rw [hz (y_sort w - 1) (fun z => absurd z s6) (fun _ => rfl)]; exact t430
  obtain ⟨-, g10, g11⟩ := hg
  refine br_t rfl (nm_r (nI_1 N) ?_)
  have any : (∀ z : Int32, (y_sort w = 6 → z = 4) → (¬ y_sort w = 6 → z = y_sort w - 1) → z = nI K) → ¬ c = 27 → (x10 = 0 ∨ x11 = 0) → ((c = 27 → wY_bindValue_430 Q (nI k) x3 x4 (nI b) c (nI w) (y_sort w) x10 x11 (nI N) 5 (nI N) y_length y_parts y_bad (nI (N + 1)) 0 y_place y_bound y_depth y_nextName y_wantsName y_wantsTag y_printed y_waiting y_scaled y_sort y_typeA y_typeB y_typeC y_fieldName y_fieldType y_fields y_tags y_needed y_text y_begin y_end y_inside y_whole y_kind y_value y_parent y_name y_slotOf y_placeOf y_complete y_openNode y_openType y_openCount y_openNames y_openChoice y_output y_todo) ∧ (¬ c = 27 → ((x10 = 0 → wY_bindValue_415 Q (nI k) x3 x4 (nI b) c (nI w) (y_sort w) x10 x11 (nI N) (nI N) y_length y_parts y_bad (nI (N + 1)) 0 y_place y_bound y_depth y_nextName y_wantsName y_wantsTag y_printed y_waiting y_scaled y_sort y_typeA y_typeB y_typeC y_fieldName y_fieldType y_fields y_tags y_needed y_text y_begin y_end y_inside y_whole y_kind y_value y_parent y_name y_slotOf y_placeOf y_complete y_openNode y_openType y_openCount y_openNames y_openChoice y_output y_todo) ∧ (¬ x10 = 0 → ((x11 = 0 → wY_bindValue_415 Q (nI k) x3 x4 (nI b) c (nI w) (y_sort w) x10 x11 (nI N) (nI N) y_length y_parts y_bad (nI (N + 1)) 0 y_place y_bound y_depth y_nextName y_wantsName y_wantsTag y_printed y_waiting y_scaled y_sort y_typeA y_typeB y_typeC y_fieldName y_fieldType y_fields y_tags y_needed y_text y_begin y_end y_inside y_whole y_kind y_value y_parent y_name y_slotOf y_placeOf y_complete y_openNode y_openType y_openCount y_openNames y_openChoice y_output y_todo) ∧ (¬ x11 = 0 → wY_bindValue_430 Q (nI k) x3 x4 (nI b) c (nI w) (y_sort w) x10 x11 (nI N) 6 (nI N) y_length y_parts y_bad (nI (N + 1)) 0 y_place y_bound y_depth y_nextName y_wantsName y_wantsTag y_printed y_waiting y_scaled y_sort y_typeA y_typeB y_typeC y_fieldName y_fieldType y_fields y_tags y_needed y_text y_begin y_end y_inside y_whole y_kind y_value y_parent y_name y_slotOf y_placeOf y_complete y_openNode y_openType y_openCount y_openNames y_openChoice y_output y_todo)))))) := by
    intro hz n27 hx
    exact br_f n27 (br_c (fun _ => t415 hz) (fun z => br_t (hx.resolve_left z) (t415 hz)))
  have nBx : ¬ sp_B c → x11 = 0 := fun z => by
    rcases g11 with q | q
    · exact absurd q.2 z
    · exact q.1
  rcases hR with ⟨rfl, hB, s1, q8⟩ | ⟨rfl, rfl, s2⟩ | ⟨rfl, hc, s3⟩ | ⟨rfl, rfl, s4⟩ | ⟨rfl, rfl, s56⟩ | ⟨rfl, rfl, q7⟩ | ⟨rfl, hB, q8⟩
  · refine any (fun z z6 z0 => ?_) ?_ (Or.inl ?_)
    · rw [z0 (by rw [s1]; decide), s1]; decide
    · rintro rfl; rcases hB with q | q
      · exact absurd q.2 (by decide)
      · exact absurd q (by decide)
    · rcases g10 with q | q
      · exact absurd q.2 q8
      · exact q.1
  · refine any (fun z z6 z0 => ?_) (by decide) (Or.inr (nBx ?_))
    · rw [z0 (by rw [s2]; decide), s2]; decide
    · rintro (q | q)
      · exact absurd q.2 (by decide)
      · exact absurd q (by decide)
  · refine any (fun z z6 z0 => ?_) ?_ (Or.inr (nBx ?_))
    · rw [z0 (by rw [s3]; decide), s3]; decide
    · rcases hc with rfl | rfl <;> decide
    · rcases hc with rfl | rfl
      all_goals
        rintro (q | q)
        · exact absurd q.2 (by decide)
        · exact absurd q (by decide)
  · refine any (fun z z6 z0 => ?_) (by decide) (Or.inr (nBx ?_))
    · rw [z0 (by rw [s4]; decide), s4]; decide
    · rintro (q | q)
      · exact absurd q.2 (by decide)
      · exact absurd q (by decide)
  · refine any (fun z z6 z0 => ?_) (by decide) (Or.inr (nBx ?_))
    · rcases s56 with s | s
      · rw [z0 (by rw [s]; decide), s]; decide
      · rw [z6 s]; rfl
    · rintro (q | q)
      · exact absurd q.2 (by decide)
      · exact absurd q (by decide)
  · exact br_t rfl t430
  · refine br_f ?_ (br_f ?_ (br_f ?_ t430))
    · rintro rfl; rcases hB with q | q
      · exact absurd q.2 (by decide)
      · exact absurd q (by decide)
    · rcases g10 with q | q
      · rw [q.1]; decide
      · exact absurd q8 q.2
    · rcases g11 with q | q
      · rw [q.1]; decide
      · exact absurd hB q.2
end
