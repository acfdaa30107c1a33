/-! printing: the reference's numbers -/
theorem pn_yl_len (b h : Nat) : ∀ j, (pn_yl b h j).length ≤ j + 2 ∧ (j < h → (pn_yl b h j).length = j + 1)
  | 0 => ⟨by show 1 ≤ 2; omega, fun _ => rfl⟩
  | j + 1 => by
    obtain ⟨h1, h2⟩ := pn_yl_len b h j
    unfold pn_yl
    rw [List.length_cons, List.length_append]
    by_cases z : j + 1 = h
    · rw [if_pos z, h2 (by omega)]
      exact ⟨by show 1 + (j + 1) + 1 ≤ j + 1 + 2; omega, fun y => by omega⟩
    · rw [if_neg z]
      exact ⟨by show 0 + (pn_yl b h j).length + 1 ≤ j + 1 + 2; omega, fun y => by show 0 + (pn_yl b h j).length + 1 = j + 1 + 1; rw [h2 (by omega)]; omega⟩
theorem pn_inj {i j : Nat} (hi : i ≤ 18) (hj : j ≤ 18) (h : lN (10 ^ i) = lN (10 ^ j)) : i = j := by
  have e := (pk_lEQ (pn_lt hi) (pn_lt hj)).mp h
  rcases Nat.lt_trichotomy i j with z | z | z
  · have := (Nat.pow_lt_pow_iff_right (a := 10) (by decide)).mpr z; omega
  · exact z
  · have := (Nat.pow_lt_pow_iff_right (a := 10) (by decide)).mpr z; omega
section
variable {y_length y_parts y_bad y_nodes y_fault y_place y_bound y_depth y_nextName y_wantsName y_wantsTag y_waiting y_scaled : Int32} {y_sort y_typeA y_typeB y_typeC y_fieldName y_fieldType y_fields y_tags y_needed y_text y_begin y_end y_inside y_whole y_kind y_value y_parent y_name y_slotOf y_placeOf y_complete y_openNode y_openType y_openCount y_openNames y_openChoice y_todo : Nat → Int32} {b h : Nat} {Q : SY → Prop}
theorem yn_132 (hb : b < 2 ^ 40) (hh : h ≤ 4) : ∀ (j m : Nat) (o : Nat → Int32), j ≤ 13 → m + 2 * j < 100000 → Q (y_length, y_parts, y_bad, y_nodes, y_fault, y_place, y_bound, y_depth, y_nextName, y_wantsName, y_wantsTag, nI (m + (pn_yl b h j).length), y_waiting, y_scaled, y_sort, y_typeA, y_typeB, y_typeC, y_fieldName, y_fieldType, y_fields, y_tags, y_needed, y_text, y_begin, y_end, y_inside, y_whole, y_kind, y_value, y_parent, y_name, y_slotOf, y_placeOf, y_complete, y_openNode, y_openType, y_openCount, y_openNames, y_openChoice, ow_L o m (pn_yl b h j), y_todo) → ∃ n, wY_showNumber_132 Q (lN b) (nI h) (nI (h + 1)) (lN (10 ^ h)) n (lN (10 ^ j)) y_length y_parts y_bad y_nodes y_fault y_place y_bound y_depth y_nextName y_wantsName y_wantsTag (nI m) y_waiting y_scaled y_sort y_typeA y_typeB y_typeC y_fieldName y_fieldType y_fields y_tags y_needed y_text y_begin y_end y_inside y_whole y_kind y_value y_parent y_name y_slotOf y_placeOf y_complete y_openNode y_openType y_openCount y_openNames y_openChoice o y_todo := by
  intro j
  induction j with
  | zero =>
    intro m o hj hm hq
    have e0 : lN (10 ^ 0) / 10 = lN 0 := by decide
    have fin : ∃ n, ∀ x5 : Int64, x5 = lN 0 → wY_showNumber_132 Q (lN b) (nI h) (nI (h + 1)) (lN (10 ^ h)) n x5 y_length y_parts y_bad y_nodes y_fault y_place y_bound y_depth y_nextName y_wantsName y_wantsTag (nI (m + 1)) y_waiting y_scaled y_sort y_typeA y_typeB y_typeC y_fieldName y_fieldType y_fields y_tags y_needed y_text y_begin y_end y_inside y_whole y_kind y_value y_parent y_name y_slotOf y_placeOf y_complete y_openNode y_openType y_openCount y_openNames y_openChoice (ow_1 o m (nI (b % 10))) y_todo := ⟨0 + 1, fun x5 e => by subst e; exact br_t (by decide) hq⟩
    obtain ⟨n, fin⟩ := fin
    refine ⟨n + 1, br_f (by decide) ⟨lN_ne0 (by decide) (by decide), by decide, nm_e (ou_y (by omega) ?_)⟩⟩
    rw [pn_dig b (10 ^ 0) (by omega) (by decide) (by decide), Nat.pow_zero, Nat.div_one]
    by_cases z : h = 0
    · subst z
      exact br_t rfl (br_t (by decide) ⟨by decide, nm_r e0 (fin _ rfl)⟩)
    · exact br_f (fun y => z (pn_inj (i := 0) (by omega) (by omega) y).symm) ⟨by decide, nm_r e0 (fin _ rfl)⟩
  | succ j ih =>
    intro m o hj hm hq
    have p1 := pn_lt (j := j + 1) (by omega)
    have p0 := pn_pos (j + 1)
    have d10 : lN (10 ^ (j + 1)) / 10 = lN (10 ^ j) := by
      rw [show (10 : Int64) = lN 10 from rfl, pk_lDiv p1 (by decide) (by decide), Nat.pow_succ, Nat.mul_div_cancel _ (by decide)]
    have n0 : ¬ lN (10 ^ (j + 1)) ≤ 0 := by rw [show (0 : Int64) = lN 0 from rfl, pk_lLE p1 (by decide)]; omega
    have lst : pn_yl b h (j + 1) = nI (b / 10 ^ (j + 1) % 10) :: ((if j + 1 = h then [18] else []) ++ pn_yl b h j) := rfl
    rw [lst, List.length_cons, List.length_append] at hq
    by_cases z : j + 1 = h
    · rw [if_pos z] at hq
      obtain ⟨n, hn⟩ := ih (m + 1 + 1) (ow_1 (ow_1 o m (nI (b / 10 ^ (j + 1) % 10))) (m + 1) 18) (by omega) (by omega) (by
        rw [show m + 1 + 1 + (pn_yl b h j).length = m + ([(18 : Int32)].length + (pn_yl b h j).length + 1) from by show m + 1 + 1 + _ = m + (1 + _ + 1); omega]
        exact hq)
      refine ⟨n + 1, br_f n0 ⟨lN_ne0 p0 p1, by decide, nm_e (ou_y (by omega) ?_)⟩⟩
      rw [pn_dig b _ (by omega) p0 p1]
      refine br_t (by rw [z]) (br_f (nI_nle (by omega) (by omega)) (br_f ?_ (ou_y (by omega) ⟨by decide, nm_r d10 hn⟩)))
      exact nI_ge (b := h + 1) (a := 1) (by omega) (by omega)
    · rw [if_neg z] at hq
      obtain ⟨n, hn⟩ := ih (m + 1) (ow_1 o m (nI (b / 10 ^ (j + 1) % 10))) (by omega) (by omega) (by
        rw [show m + 1 + (pn_yl b h j).length = m + (([] : List Int32).length + (pn_yl b h j).length + 1) from by show m + 1 + _ = m + (0 + _ + 1); omega]
        exact hq)
      refine ⟨n + 1, br_f n0 ⟨lN_ne0 p0 p1, by decide, nm_e (ou_y (by omega) ?_)⟩⟩
      rw [pn_dig b _ (by omega) p0 p1]
      exact br_f (fun y => z (pn_inj (by omega) (by omega) y)) ⟨by decide, nm_r d10 hn⟩
end
section
variable {y_length y_parts y_bad y_nodes y_fault y_place y_bound y_depth y_nextName y_wantsName y_wantsTag y_printed y_waiting y_scaled : Int32} {y_sort y_typeA y_typeB y_typeC y_fieldName y_fieldType y_fields y_tags y_needed y_text y_begin y_end y_inside y_whole y_kind y_value y_parent y_name y_slotOf y_placeOf y_complete y_openNode y_openType y_openCount y_openNames y_openChoice y_output y_todo : Nat → Int32} {b h J : Nat} {Q : SY → Prop}
theorem yn_99 (hh : h ≤ 4) (hJ : J ≤ 9) (hq : ∃ n, wY_showNumber_132 Q (lN b) (nI h) (nI (h + 1)) (lN (10 ^ h)) n (lN (10 ^ (J - h + h))) y_length y_parts y_bad y_nodes y_fault y_place y_bound y_depth y_nextName y_wantsName y_wantsTag y_printed y_waiting y_scaled y_sort y_typeA y_typeB y_typeC y_fieldName y_fieldType y_fields y_tags y_needed y_text y_begin y_end y_inside y_whole y_kind y_value y_parent y_name y_slotOf y_placeOf y_complete y_openNode y_openType y_openCount y_openNames y_openChoice y_output y_todo) : ∀ (r i : Nat), i + r = h → ∃ n, wY_showNumber_99 Q (lN b) (lN (10 ^ J)) (nI h) (nI (h + 1)) y_length y_parts y_bad y_nodes y_fault y_place y_bound y_depth y_nextName y_wantsName y_wantsTag y_printed y_waiting y_scaled y_sort y_typeA y_typeB y_typeC y_fieldName y_fieldType y_fields y_tags y_needed y_text y_begin y_end y_inside y_whole y_kind y_value y_parent y_name y_slotOf y_placeOf y_complete y_openNode y_openType y_openCount y_openNames y_openChoice y_output y_todo n (lN (10 ^ i)) (nI i) := by
  intro r
  induction r with
  | zero =>
    intro i hi
    have : i = h := by omega
    subst this
    refine ⟨1, br_t (nI_le (Nat.le_refl _) (by omega)) ?_⟩
    by_cases z : i ≤ J
    · refine br_t ?_ ?_
      · rw [pk_lLE (pn_lt (by omega)) (pn_lt (by omega))]; exact Nat.pow_le_pow_right (by decide) z
      · rw [show J - i + i = J from by omega] at hq; exact hq
    · refine br_f ?_ ?_
      · rw [pk_lLE (pn_lt (by omega)) (pn_lt (by omega))]
        have := (Nat.pow_lt_pow_iff_right (a := 10) (by decide)).mpr (show J < i by omega)
        omega
      · rw [show J - i + i = i from by omega] at hq; exact hq
  | succ r ih =>
    intro i hi
    obtain ⟨n, hn⟩ := ih (i + 1) (by omega)
    refine ⟨n + 1, br_f (nI_ge (by omega) (by omega)) (nm_r (e' := lN (10 ^ (i + 1))) ?_ (nm_r (nI_1 i) hn))⟩
    show lN (10 ^ i) * lN 10 = _
    rw [lN_mul, Nat.pow_succ]
theorem yn_65 (hb : b < 10 ^ 10) (J : Nat) (hJ : pn_L b J) (hJ9 : J ≤ 9) (x8 : Int32) (hq : ∃ n, wY_showNumber_99 Q (lN b) (lN (10 ^ J)) (nI h) x8 y_length y_parts y_bad y_nodes y_fault y_place y_bound y_depth y_nextName y_wantsName y_wantsTag y_printed y_waiting y_scaled y_sort y_typeA y_typeB y_typeC y_fieldName y_fieldType y_fields y_tags y_needed y_text y_begin y_end y_inside y_whole y_kind y_value y_parent y_name y_slotOf y_placeOf y_complete y_openNode y_openType y_openCount y_openNames y_openChoice y_output y_todo n 1 0) : ∀ (r i : Nat), i + r = J → ∃ n, wY_showNumber_65 Q (lN b) (nI h) x8 y_length y_parts y_bad y_nodes y_fault y_place y_bound y_depth y_nextName y_wantsName y_wantsTag y_printed y_waiting y_scaled y_sort y_typeA y_typeB y_typeC y_fieldName y_fieldType y_fields y_tags y_needed y_text y_begin y_end y_inside y_whole y_kind y_value y_parent y_name y_slotOf y_placeOf y_complete y_openNode y_openType y_openCount y_openNames y_openChoice y_output y_todo n (lN (10 ^ i)) (lN (b / 10 ^ i)) := by
  intro r
  induction r with
  | zero =>
    intro i hi
    have : i = J := by omega
    subst this
    refine ⟨1, br_t ?_ hq⟩
    rw [show (9 : Int64) = lN 9 from rfl, pk_lLE (Nat.lt_of_le_of_lt (Nat.div_le_self _ _) (by omega)) (by decide)]
    have := hJ.1; omega
  | succ r ih =>
    intro i hi
    obtain ⟨n, hn⟩ := ih (i + 1) (by omega)
    have bl : b / 10 ^ i < 2 ^ 63 := Nat.lt_of_le_of_lt (Nat.div_le_self _ _) (by omega)
    refine ⟨n + 1, br_f ?_ (nm_r (e' := lN (10 ^ (i + 1))) ?_ ⟨by decide, nm_r (e' := lN (b / 10 ^ (i + 1))) ?_ hn⟩)⟩
    · rw [show (9 : Int64) = lN 9 from rfl, pk_lLE bl (by decide)]
      have := hJ.2 i (by omega); omega
    · show lN (10 ^ i) * lN 10 = _
      rw [lN_mul, Nat.pow_succ]
    · rw [show (10 : Int64) = lN 10 from rfl, pk_lDiv bl (by decide) (by decide), Nat.div_div_eq_div_mul, Nat.pow_succ]
end
theorem pn_ex {b : Nat} (hb : b < 10 ^ 10) : ∃ J, J ≤ 9 ∧ pn_L b J := by
  obtain ⟨J, hJ, hm⟩ := pk_least (fun j => b / 10 ^ j < 10) ⟨9, by rw [Nat.div_lt_iff_lt_mul (by decide)]; omega⟩
  refine ⟨J, ?_, hJ, fun i hi => Nat.le_of_not_lt (hm i hi)⟩
  rcases Nat.lt_or_ge 9 J with z | z
  · exact absurd (show b / 10 ^ 9 < 10 by rw [Nat.div_lt_iff_lt_mul (by decide)]; omega) (hm 9 z)
  · exact z
/-- the zeros behind are left out -/
theorem yn_19 {v : Int32} : ∀ (h A : Nat), h ≤ 4 → A < 2 ^ 40 → ∃ b h', h' ≤ h ∧ A = b * 10 ^ (h - h') ∧ (0 < h' → b % 10 ≠ 0) ∧ b ≤ A ∧ ∀ {y_length y_parts y_bad y_nodes y_fault y_place y_bound y_depth y_nextName y_wantsName y_wantsTag y_printed y_waiting y_scaled : Int32} {y_sort y_typeA y_typeB y_typeC y_fieldName y_fieldType y_fields y_tags y_needed y_text y_begin y_end y_inside y_whole y_kind y_value y_parent y_name y_slotOf y_placeOf y_complete y_openNode y_openType y_openCount y_openNames y_openChoice y_output y_todo : Nat → Int32} (Q : SY → Prop), wY_showNumber_46 Q v (lN b) 1 (nI h') y_length y_parts y_bad y_nodes y_fault y_place y_bound y_depth y_nextName y_wantsName y_wantsTag y_printed y_waiting y_scaled y_sort y_typeA y_typeB y_typeC y_fieldName y_fieldType y_fields y_tags y_needed y_text y_begin y_end y_inside y_whole y_kind y_value y_parent y_name y_slotOf y_placeOf y_complete y_openNode y_openType y_openCount y_openNames y_openChoice y_output y_todo → ∃ n, wY_showNumber_19 Q v 1 y_length y_parts y_bad y_nodes y_fault y_place y_bound y_depth y_nextName y_wantsName y_wantsTag y_printed y_waiting y_scaled y_sort y_typeA y_typeB y_typeC y_fieldName y_fieldType y_fields y_tags y_needed y_text y_begin y_end y_inside y_whole y_kind y_value y_parent y_name y_slotOf y_placeOf y_complete y_openNode y_openType y_openCount y_openNames y_openChoice y_output y_todo n (lN A) (nI h) := by
  intro h
  induction h with
  | zero =>
    intro A _ hA
    exact ⟨A, 0, Nat.le_refl _, by rw [Nat.sub_self, Nat.pow_zero, Nat.mul_one], fun z => absurd z (by omega), Nat.le_refl _, fun Q w => ⟨1, br_t (by decide) w⟩⟩
  | succ h ih =>
    intro A hh hA
    have rem : lN A - lN A / 10 * 10 = lN (A % 10) := by
      rw [show (10 : Int64) = lN 10 from rfl]
      exact pk_lRem (by omega) (by decide) (by decide)
    have n0 : ¬ nI (h + 1) ≤ 0 := nI_nle (by omega) (by omega)
    by_cases z : A % 10 = 0
    · obtain ⟨b, h', p1, p2, p3, p4, p5⟩ := ih (A / 10) (by omega) (Nat.lt_of_le_of_lt (Nat.div_le_self _ _) hA)
      refine ⟨b, h', by omega, ?_, p3, Nat.le_trans p4 (Nat.div_le_self _ _), fun Q w => ?_⟩
      · have e : A = A / 10 * 10 := by omega
        rw [show h + 1 - h' = h - h' + 1 from by omega, Nat.pow_succ, ← Nat.mul_assoc, ← p2]; exact e
      · obtain ⟨n, hn⟩ := p5 Q w
        refine ⟨n + 1, br_f n0 ⟨by decide, ?_⟩⟩
        rw [rem, z]
        refine br_t rfl ⟨by decide, nm_r (e' := lN (A / 10)) ?_ (nm_r (pk_m1 h) hn)⟩
        rw [show (10 : Int64) = lN 10 from rfl]
        exact pk_lDiv (by omega) (by decide) (by decide)
    · refine ⟨A, h + 1, Nat.le_refl _, by rw [Nat.sub_self, Nat.pow_zero, Nat.mul_one], fun _ => z, Nat.le_refl _, fun Q w => ⟨1, br_f n0 ⟨by decide, ?_⟩⟩⟩
      rw [rem]
      refine br_f (fun y => z ?_) w
      exact (pk_lEQ (b := 0) (by omega) (by decide)).mp y
