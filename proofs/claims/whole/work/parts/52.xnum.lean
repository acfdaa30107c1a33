/-! printing: the component's numbers -/
theorem pn_pos (j : Nat) : 0 < 10 ^ j := Nat.pow_pos (by decide)
theorem pn_lt {j : Nat} (h : j ≤ 18) : 10 ^ j < 2 ^ 63 := Nat.lt_of_le_of_lt (Nat.pow_le_pow_right (by decide) h) (by decide)
theorem pn_dig (A W : Nat) (hA : A < 2 ^ 63) (hW0 : 0 < W) (hW : W < 2 ^ 63) : (lN A / lN W - lN A / lN W / 10 * 10).toInt32 = nI (A / W % 10) := by
  have h10 : (10 : Int64) = lN 10 := rfl
  rw [pk_lDiv hA hW0 hW, h10, pk_lRem (Nat.lt_of_le_of_lt (Nat.div_le_self _ _) hA) (by decide) (by decide), lN_i]
theorem lN_ne0 {W : Nat} (h0 : 0 < W) (h : W < 2 ^ 63) : ¬ lN W = 0 := by
  intro e
  have e' : lN W = lN 0 := e
  have := (pk_lEQ h (by decide)).mp e'
  omega
section
variable {x_length x_nodeCount x_bound x_fault x_faultPlace x_mode x_at x_tokenStart x_textCount x_escaped x_valueSlot x_valueName x_depth : Int32} {x_text x_typeKind x_typeDetail x_typeLeast x_typeMost x_fieldCount x_fieldName x_fieldType x_fieldNeeded x_tagType x_nodeKind x_nodeValue x_nodeParent x_nodeName x_nodeSlot x_nodeStart x_nodeTag x_completeCount x_openNode x_openSlot x_openNames x_openNext x_openComma : Nat → Int32} {w : Nat} {Q : SX → Prop}
/-- the digits from weight 10^j down -/
theorem ww_dig (hw : w < 2 ^ 40) : ∀ (j i m : Nat) (o : Nat → Int32), i + j ≤ 9 → m + j < 100000 → Q (x_length, x_nodeCount, x_bound, x_fault, x_faultPlace, x_mode, x_at, x_tokenStart, x_textCount, x_escaped, x_valueSlot, x_valueName, x_depth, nI (m + (j + 1)), x_text, x_typeKind, x_typeDetail, x_typeLeast, x_typeMost, x_fieldCount, x_fieldName, x_fieldType, x_fieldNeeded, x_tagType, x_nodeKind, x_nodeValue, x_nodeParent, x_nodeName, x_nodeSlot, x_nodeStart, x_nodeTag, x_completeCount, x_openNode, x_openSlot, x_openNames, x_openNext, x_openComma, ow_L o m (pn_dl w j)) → ∃ n, wX_writeWhole_37 Q (lN w) n (lN (10 ^ j)) (nI i) x_length x_nodeCount x_bound x_fault x_faultPlace x_mode x_at x_tokenStart x_textCount x_escaped x_valueSlot x_valueName x_depth (nI m) x_text x_typeKind x_typeDetail x_typeLeast x_typeMost x_fieldCount x_fieldName x_fieldType x_fieldNeeded x_tagType x_nodeKind x_nodeValue x_nodeParent x_nodeName x_nodeSlot x_nodeStart x_nodeTag x_completeCount x_openNode x_openSlot x_openNames x_openNext x_openComma o := by
  intro j
  induction j with
  | zero =>
    intro i m o hi hm h
    refine ⟨1 + 1, br_f (nI_nlt (a := 9) (by omega) (by omega)) (br_f ?_ ⟨lN_ne0 (by decide) (by decide), by decide, wr_x (by omega) ⟨by decide, nm_r (e' := lN 0) ?_ (nm_r (nI_1 i) ?_)⟩⟩)⟩
    · decide
    · decide
    · rw [pn_dig w (10 ^ 0) (by omega) (by decide) (by decide), Nat.pow_zero, Nat.div_one]
      exact br_c (fun _ => h) (fun _ => br_t (by decide) h)
  | succ j ih =>
    intro i m o hi hm h
    have p1 := pn_lt (j := j + 1) (by omega)
    have p0 := pn_pos (j + 1)
    obtain ⟨n, hn⟩ := ih (i + 1) (m + 1) (ow_1 o m (nI (w / 10 ^ (j + 1) % 10))) (by omega) (by omega) (by
      rw [show m + 1 + (j + 1) = m + (j + 1 + 1) from by omega]; exact h)
    have d10 : lN (10 ^ (j + 1)) / 10 = lN (10 ^ j) := by
      rw [show (10 : Int64) = lN 10 from rfl, pk_lDiv p1 (by decide) (by decide), Nat.pow_succ, Nat.mul_div_cancel _ (by decide)]
    refine ⟨n + 1, br_f (nI_nlt (a := 9) (by omega) (by omega)) (br_f ?_ ⟨lN_ne0 p0 p1, by decide, wr_x (by omega) ⟨by decide, nm_r d10 (nm_r (nI_1 i) ?_)⟩⟩)⟩
    · rw [show (0 : Int64) = lN 0 from rfl, pk_lLE p1 (by decide)]; omega
    · rw [pn_dig w _ (by omega) p0 p1]; exact hn
/-- the first weight -/
theorem ww_top (hw : w < 10 ^ 10) : ∃ J, J ≤ 9 ∧ pn_L w J ∧ ∀ (m : Nat) (o : Nat → Int32), m < 90000 → Q (x_length, x_nodeCount, x_bound, x_fault, x_faultPlace, x_mode, x_at, x_tokenStart, x_textCount, x_escaped, x_valueSlot, x_valueName, x_depth, nI (m + (J + 1)), x_text, x_typeKind, x_typeDetail, x_typeLeast, x_typeMost, x_fieldCount, x_fieldName, x_fieldType, x_fieldNeeded, x_tagType, x_nodeKind, x_nodeValue, x_nodeParent, x_nodeName, x_nodeSlot, x_nodeStart, x_nodeTag, x_completeCount, x_openNode, x_openSlot, x_openNames, x_openNext, x_openComma, ow_L o m (pn_dl w J)) → wpX_writeWhole Q (x_length, x_nodeCount, x_bound, x_fault, x_faultPlace, x_mode, x_at, x_tokenStart, x_textCount, x_escaped, x_valueSlot, x_valueName, x_depth, nI m, x_text, x_typeKind, x_typeDetail, x_typeLeast, x_typeMost, x_fieldCount, x_fieldName, x_fieldType, x_fieldNeeded, x_tagType, x_nodeKind, x_nodeValue, x_nodeParent, x_nodeName, x_nodeSlot, x_nodeStart, x_nodeTag, x_completeCount, x_openNode, x_openSlot, x_openNames, x_openNext, x_openComma, o) (lN w) := by
  have key : ∀ (r j : Nat), j + r = 9 → (∀ i, i < j → 10 ≤ w / 10 ^ i) → ∃ J, J ≤ 9 ∧ pn_L w J ∧ ∀ (m : Nat) (o : Nat → Int32), m < 90000 → Q (x_length, x_nodeCount, x_bound, x_fault, x_faultPlace, x_mode, x_at, x_tokenStart, x_textCount, x_escaped, x_valueSlot, x_valueName, x_depth, nI (m + (J + 1)), x_text, x_typeKind, x_typeDetail, x_typeLeast, x_typeMost, x_fieldCount, x_fieldName, x_fieldType, x_fieldNeeded, x_tagType, x_nodeKind, x_nodeValue, x_nodeParent, x_nodeName, x_nodeSlot, x_nodeStart, x_nodeTag, x_completeCount, x_openNode, x_openSlot, x_openNames, x_openNext, x_openComma, ow_L o m (pn_dl w J)) → ∃ n, wX_writeWhole_5 Q (lN w) x_length x_nodeCount x_bound x_fault x_faultPlace x_mode x_at x_tokenStart x_textCount x_escaped x_valueSlot x_valueName x_depth (nI m) x_text x_typeKind x_typeDetail x_typeLeast x_typeMost x_fieldCount x_fieldName x_fieldType x_fieldNeeded x_tagType x_nodeKind x_nodeValue x_nodeParent x_nodeName x_nodeSlot x_nodeStart x_nodeTag x_completeCount x_openNode x_openSlot x_openNames x_openNext x_openComma o n (lN (10 ^ j)) (nI j) := by
    intro r
    induction r with
    | zero =>
      intro j hj hl
      have : j = 9 := by omega
      subst this
      refine ⟨9, by omega, ⟨?_, hl⟩, fun m o hm h => ⟨1, br_t (by decide) (ww_dig (by omega) 9 0 m o (by omega) (by omega) h)⟩⟩
      rw [Nat.div_lt_iff_lt_mul (by decide)]; omega
    | succ r ih =>
      intro j hj hl
      have p1 := pn_lt (j := j) (by omega)
      have p0 := pn_pos j
      have dv : lN w / lN (10 ^ j) = lN (w / 10 ^ j) := pk_lDiv (by omega) p0 p1
      have wl : w / 10 ^ j < 2 ^ 63 := Nat.lt_of_le_of_lt (Nat.div_le_self _ _) (by omega)
      by_cases z : w / 10 ^ j < 10
      · refine ⟨j, by omega, ⟨z, hl⟩, fun m o hm h => ⟨1, br_f (nI_ge (b := 9) (by omega) (by decide)) ⟨lN_ne0 p0 p1, ?_⟩⟩⟩
        rw [dv]
        exact br_t ((pk_lLT (b := 10) wl (by decide)).mpr z) (ww_dig (by omega) j 0 m o (by omega) (by omega) h)
      · obtain ⟨J, hJ, hL, hJw⟩ := ih (j + 1) (by omega) (fun i hi => by
          by_cases y : i = j
          · subst y; omega
          · exact hl i (by omega))
        refine ⟨J, hJ, hL, fun m o hm h => ?_⟩
        obtain ⟨n, hn⟩ := hJw m o hm h
        refine ⟨n + 1, br_f (nI_ge (b := 9) (by omega) (by decide)) ⟨lN_ne0 p0 p1, ?_⟩⟩
        rw [dv]
        refine br_f (fun y => z ((pk_lLT (b := 10) wl (by decide)).mp y)) (nm_r (e' := lN (10 ^ (j + 1))) ?_ (nm_r (nI_1 j) hn))
        show lN (10 ^ j) * lN 10 = _
        rw [lN_mul, Nat.pow_succ]
  obtain ⟨J, a, b, c⟩ := key 9 0 (by omega) (fun i hi => absurd hi (by omega))
  exact ⟨J, a, b, fun m o hm h => c m o hm h⟩
end
