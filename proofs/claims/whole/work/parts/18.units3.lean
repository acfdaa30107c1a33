/-! the reckoning of a number: both together -/
theorem nu_rel {a e j : Nat} {Z sy : Int} (hZ : Z = sy - (if a < e then (e : Int) - a - 1 else 0)) (hj : j ≠ a) (hje : j < e) (ha : a ≤ e) : Z + nu_c a e (j + 1) = nu_w a j + sy := by
  subst hZ
  unfold nu_c nu_w
  by_cases q : a < e
  · rw [if_pos q]
    by_cases r : a ≤ j
    · rw [if_pos r, if_neg (by omega)]; omega
    · rw [if_neg r, if_pos (by omega)]; omega
  · rw [if_neg q, if_neg (by omega), if_neg (by omega)]; omega
section
variable {x_length x_nodeCount x_bound x_fault x_faultPlace x_mode x_at x_textCount x_escaped x_valueSlot x_valueName x_depth x_outputLength : Int32} {x_typeKind x_typeDetail x_typeLeast x_typeMost x_fieldCount x_fieldName x_fieldType x_fieldNeeded x_tagType x_nodeKind x_nodeValue x_nodeParent x_nodeName x_nodeSlot x_nodeStart x_nodeTag x_completeCount x_openNode x_openSlot x_openNames x_openNext x_openComma x_output : Nat → Int32}
theorem nu_dig {t : Nat → Int32} {b a e Q : Nat} (hP : nu_P t b a e Q) (hC : tt_C t) {x8 : Int32} {sx sy Z : Int} (hK : sx = sy ∨ (9000 ≤ sx ∧ 9000 ≤ sy) ∨ (sx ≤ -9000 ∧ sy ≤ -9000)) (hx1 : -10000000 < sx) (hx2 : sx < 10000000) (hy1 : -10000000 < sy) (hy2 : sy < 10000000) (hZ : Z = sy - (if a < e then (e : Int) - a - 1 else 0)) : ∀ (m j U : Nat), j + m = e → b ≤ j → U ≤ 10000000000 * j →
    (∃ U', U' ≤ 10000000000 * e ∧ (∀ postX : Int64 → Prop, (∃ n, wX_readUnits_39 postX (nI e) (nI a) (ii_I sx) x_length x_nodeCount x_bound x_fault x_faultPlace x_mode x_at (nI b) x_textCount x_escaped x_valueSlot x_valueName x_depth x_outputLength t x_typeKind x_typeDetail x_typeLeast x_typeMost x_fieldCount x_fieldName x_fieldType x_fieldNeeded x_tagType x_nodeKind x_nodeValue x_nodeParent x_nodeName x_nodeSlot x_nodeStart x_nodeTag x_completeCount x_openNode x_openSlot x_openNames x_openNext x_openComma x_output n (lN U') (nI e)) → ∃ n, wX_readUnits_39 postX (nI e) (nI a) (ii_I sx) x_length x_nodeCount x_bound x_fault x_faultPlace x_mode x_at (nI b) x_textCount x_escaped x_valueSlot x_valueName x_depth x_outputLength t x_typeKind x_typeDetail x_typeLeast x_typeMost x_fieldCount x_fieldName x_fieldType x_fieldNeeded x_tagType x_nodeKind x_nodeValue x_nodeParent x_nodeName x_nodeSlot x_nodeStart x_nodeTag x_completeCount x_openNode x_openSlot x_openNames x_openNext x_openComma x_output n (lN U) (nI j)) ∧ (∀ {y_length y_parts y_bad y_nodes y_fault y_place y_bound y_depth y_nextName y_wantsName y_wantsTag y_printed y_waiting y_scaled : Int32} {y_sort y_typeA y_typeB y_typeC y_fieldName y_fieldType y_fields y_tags y_needed y_begin y_end y_inside y_whole y_kind y_value y_parent y_name y_slotOf y_placeOf y_complete y_openNode y_openType y_openCount y_openNames y_openChoice y_output y_todo : Nat → Int32} (postY : Int32 → SY → Prop), (∃ n, wY_units_228 postY x8 (nI e) (ii_I Z) y_length y_parts y_bad y_nodes y_fault y_place y_bound y_depth y_nextName y_wantsName y_wantsTag y_printed y_waiting y_scaled y_sort y_typeA y_typeB y_typeC y_fieldName y_fieldType y_fields y_tags y_needed t y_begin y_end y_inside y_whole y_kind y_value y_parent y_name y_slotOf y_placeOf y_complete y_openNode y_openType y_openCount y_openNames y_openChoice y_output y_todo n (lN U') 1 (nI e)) → ∃ n, wY_units_228 postY x8 (nI e) (ii_I Z) y_length y_parts y_bad y_nodes y_fault y_place y_bound y_depth y_nextName y_wantsName y_wantsTag y_printed y_waiting y_scaled y_sort y_typeA y_typeB y_typeC y_fieldName y_fieldType y_fields y_tags y_needed t y_begin y_end y_inside y_whole y_kind y_value y_parent y_name y_slotOf y_placeOf y_complete y_openNode y_openType y_openCount y_openNames y_openChoice y_output y_todo n (lN U) 1 (nI j))) ∨
    ((∀ postX : Int64 → Prop, postX 1099511627776 → ∃ n, wX_readUnits_39 postX (nI e) (nI a) (ii_I sx) x_length x_nodeCount x_bound x_fault x_faultPlace x_mode x_at (nI b) x_textCount x_escaped x_valueSlot x_valueName x_depth x_outputLength t x_typeKind x_typeDetail x_typeLeast x_typeMost x_fieldCount x_fieldName x_fieldType x_fieldNeeded x_tagType x_nodeKind x_nodeValue x_nodeParent x_nodeName x_nodeSlot x_nodeStart x_nodeTag x_completeCount x_openNode x_openSlot x_openNames x_openNext x_openComma x_output n (lN U) (nI j)) ∧ ∃ sc : Int32, ∀ {y_length y_parts y_bad y_nodes y_fault y_place y_bound y_depth y_nextName y_wantsName y_wantsTag y_printed y_waiting y_scaled : Int32} {y_sort y_typeA y_typeB y_typeC y_fieldName y_fieldType y_fields y_tags y_needed y_begin y_end y_inside y_whole y_kind y_value y_parent y_name y_slotOf y_placeOf y_complete y_openNode y_openType y_openCount y_openNames y_openChoice y_output y_todo : Nat → Int32} (postY : Int32 → SY → Prop), postY 0 (y_length, y_parts, y_bad, y_nodes, y_fault, y_place, y_bound, y_depth, y_nextName, y_wantsName, y_wantsTag, y_printed, y_waiting, sc, y_sort, y_typeA, y_typeB, y_typeC, y_fieldName, y_fieldType, y_fields, y_tags, y_needed, t, y_begin, y_end, y_inside, y_whole, y_kind, y_value, y_parent, y_name, y_slotOf, y_placeOf, y_complete, y_openNode, y_openType, y_openCount, y_openNames, y_openChoice, y_output, y_todo) → ∃ n, wY_units_228 postY x8 (nI e) (ii_I Z) y_length y_parts y_bad y_nodes y_fault y_place y_bound y_depth y_nextName y_wantsName y_wantsTag y_printed y_waiting y_scaled y_sort y_typeA y_typeB y_typeC y_fieldName y_fieldType y_fields y_tags y_needed t y_begin y_end y_inside y_whole y_kind y_value y_parent y_name y_slotOf y_placeOf y_complete y_openNode y_openType y_openCount y_openNames y_openChoice y_output y_todo n (lN U) 1 (nI j)) := by
  have ha := hP.2.1
  have he := hP.2.2.1
  have hQ := hP.2.2.2.1
  have hZb : -100000000 < Z ∧ Z < 100000000 := by
    subst hZ
    by_cases q : a < e
    · rw [if_pos q]; omega
    · rw [if_neg q]; omega
  intro m
  induction m with
  | zero =>
    intro j U h1 h2 h3
    have : j = e := by omega
    subst this
    exact Or.inl ⟨U, h3, fun _ h => h, fun _ h => h⟩
  | succ m ih =>
    intro j U h1 h2 h3
    obtain ⟨c, hc, ec⟩ := hC j
    by_cases skip : c = 0 ∨ 9 < c
    · have sX : ∀ postX : Int64 → Prop, (∃ n, wX_readUnits_39 postX (nI e) (nI a) (ii_I sx) x_length x_nodeCount x_bound x_fault x_faultPlace x_mode x_at (nI b) x_textCount x_escaped x_valueSlot x_valueName x_depth x_outputLength t x_typeKind x_typeDetail x_typeLeast x_typeMost x_fieldCount x_fieldName x_fieldType x_fieldNeeded x_tagType x_nodeKind x_nodeValue x_nodeParent x_nodeName x_nodeSlot x_nodeStart x_nodeTag x_completeCount x_openNode x_openSlot x_openNames x_openNext x_openComma x_output n (lN U) (nI (j + 1))) → ∃ n, wX_readUnits_39 postX (nI e) (nI a) (ii_I sx) x_length x_nodeCount x_bound x_fault x_faultPlace x_mode x_at (nI b) x_textCount x_escaped x_valueSlot x_valueName x_depth x_outputLength t x_typeKind x_typeDetail x_typeLeast x_typeMost x_fieldCount x_fieldName x_fieldType x_fieldNeeded x_tagType x_nodeKind x_nodeValue x_nodeParent x_nodeName x_nodeSlot x_nodeStart x_nodeTag x_completeCount x_openNode x_openSlot x_openNames x_openNext x_openComma x_output n (lN U) (nI j) := fun postX ⟨n, hn⟩ => ⟨n + 1, xu_s0 hP (by omega) hc ec skip hn⟩
      have sY : ∀ {y_length y_parts y_bad y_nodes y_fault y_place y_bound y_depth y_nextName y_wantsName y_wantsTag y_printed y_waiting y_scaled : Int32} {y_sort y_typeA y_typeB y_typeC y_fieldName y_fieldType y_fields y_tags y_needed y_begin y_end y_inside y_whole y_kind y_value y_parent y_name y_slotOf y_placeOf y_complete y_openNode y_openType y_openCount y_openNames y_openChoice y_output y_todo : Nat → Int32} (postY : Int32 → SY → Prop), (∃ n, wY_units_228 postY x8 (nI e) (ii_I Z) y_length y_parts y_bad y_nodes y_fault y_place y_bound y_depth y_nextName y_wantsName y_wantsTag y_printed y_waiting y_scaled y_sort y_typeA y_typeB y_typeC y_fieldName y_fieldType y_fields y_tags y_needed t y_begin y_end y_inside y_whole y_kind y_value y_parent y_name y_slotOf y_placeOf y_complete y_openNode y_openType y_openCount y_openNames y_openChoice y_output y_todo n (lN U) 1 (nI (j + 1))) → ∃ n, wY_units_228 postY x8 (nI e) (ii_I Z) y_length y_parts y_bad y_nodes y_fault y_place y_bound y_depth y_nextName y_wantsName y_wantsTag y_printed y_waiting y_scaled y_sort y_typeA y_typeB y_typeC y_fieldName y_fieldType y_fields y_tags y_needed t y_begin y_end y_inside y_whole y_kind y_value y_parent y_name y_slotOf y_placeOf y_complete y_openNode y_openType y_openCount y_openNames y_openChoice y_output y_todo n (lN U) 1 (nI j) := by
        intro y_length y_parts y_bad y_nodes y_fault y_place y_bound y_depth y_nextName y_wantsName y_wantsTag y_printed y_waiting y_scaled y_sort y_typeA y_typeB y_typeC y_fieldName y_fieldType y_fields y_tags y_needed y_begin y_end y_inside y_whole y_kind y_value y_parent y_name y_slotOf y_placeOf y_complete y_openNode y_openType y_openCount y_openNames y_openChoice y_output y_todo postY ⟨n, hn⟩
        rcases skip with c0 | c9
        · exact ⟨n + 1, yu_s hP hC (Or.inr rfl) h2 (by omega) (by omega) ec hZb.1 hZb.2 rfl (fun _ => hn) (fun w => absurd c0 (by omega)) (fun w => absurd c0 (by omega)) (fun w => absurd c0 (by omega))⟩
        · refine ⟨n + 1, yu_s9 hP (by omega) ?_ hn⟩
          rw [ec]; exact nI_ge (a := 9) (by omega) (by omega)
      rcases ih (j + 1) U (by omega) (by omega) (by omega) with ⟨U', u1, u2, u3⟩ | ⟨u1, sc, u2⟩
      · exact Or.inl ⟨U', u1, fun pX h => sX pX (u2 pX h), fun pY h => sY pY (u3 pY h)⟩
      · exact Or.inr ⟨fun pX h => sX pX (u1 pX h), sc, fun pY h => sY pY (u2 pY h)⟩
    have c1 : 0 < c := by omega
    have c9 : c ≤ 9 := by omega
    have hja : j ≠ a := by
      rintro rfl
      rcases Nat.lt_or_ge j e with w | w
      · have := (hP.2.2.2.2.2.1 j h2 (by omega)).mpr ⟨w, rfl⟩
        rw [ec] at this
        have := hh_i (by omega) (by decide) (m := 18) this
        omega
      · omega
    have rel := nu_rel hZ hja (by omega) ha
    have bw : -1000 < nu_w a j ∧ nu_w a j < 1000 := by
      unfold nu_w
      by_cases q : a ≤ j
      · rw [if_pos q]; omega
      · rw [if_neg q]; omega
    by_cases good : 0 ≤ nu_w a j + sx ∧ nu_w a j + sx ≤ 9
    · have es : sx = sy := by omega
      subst es
      generalize hW : nu_w a j + sx = W at good rel
      have pw : 10 ^ W.toNat ≤ 10 ^ 9 := Nat.pow_le_pow_right (by decide) (by omega)
      have pw2 : c * 10 ^ W.toNat ≤ 9 * 10 ^ 9 := Nat.mul_le_mul c9 pw
      have sX : ∀ postX : Int64 → Prop, (∃ n, wX_readUnits_39 postX (nI e) (nI a) (ii_I sx) x_length x_nodeCount x_bound x_fault x_faultPlace x_mode x_at (nI b) x_textCount x_escaped x_valueSlot x_valueName x_depth x_outputLength t x_typeKind x_typeDetail x_typeLeast x_typeMost x_fieldCount x_fieldName x_fieldType x_fieldNeeded x_tagType x_nodeKind x_nodeValue x_nodeParent x_nodeName x_nodeSlot x_nodeStart x_nodeTag x_completeCount x_openNode x_openSlot x_openNames x_openNext x_openComma x_output n (lN (U + c * 10 ^ W.toNat)) (nI (j + 1))) → ∃ n, wX_readUnits_39 postX (nI e) (nI a) (ii_I sx) x_length x_nodeCount x_bound x_fault x_faultPlace x_mode x_at (nI b) x_textCount x_escaped x_valueSlot x_valueName x_depth x_outputLength t x_typeKind x_typeDetail x_typeLeast x_typeMost x_fieldCount x_fieldName x_fieldType x_fieldNeeded x_tagType x_nodeKind x_nodeValue x_nodeParent x_nodeName x_nodeSlot x_nodeStart x_nodeTag x_completeCount x_openNode x_openSlot x_openNames x_openNext x_openComma x_output n (lN U) (nI j) := by
        intro postX ⟨n, hn⟩
        refine ⟨n + 1, xu_s1 hP h2 (by omega) c1 c9 ec (by omega) (by omega) (fun w => absurd w (by omega)) (fun _ _ => ?_)⟩
        rw [hW, lN_add]; exact hn
      have sY : ∀ {y_length y_parts y_bad y_nodes y_fault y_place y_bound y_depth y_nextName y_wantsName y_wantsTag y_printed y_waiting y_scaled : Int32} {y_sort y_typeA y_typeB y_typeC y_fieldName y_fieldType y_fields y_tags y_needed y_begin y_end y_inside y_whole y_kind y_value y_parent y_name y_slotOf y_placeOf y_complete y_openNode y_openType y_openCount y_openNames y_openChoice y_output y_todo : Nat → Int32} (postY : Int32 → SY → Prop), (∃ n, wY_units_228 postY x8 (nI e) (ii_I Z) y_length y_parts y_bad y_nodes y_fault y_place y_bound y_depth y_nextName y_wantsName y_wantsTag y_printed y_waiting y_scaled y_sort y_typeA y_typeB y_typeC y_fieldName y_fieldType y_fields y_tags y_needed t y_begin y_end y_inside y_whole y_kind y_value y_parent y_name y_slotOf y_placeOf y_complete y_openNode y_openType y_openCount y_openNames y_openChoice y_output y_todo n (lN (U + c * 10 ^ W.toNat)) 1 (nI (j + 1))) → ∃ n, wY_units_228 postY x8 (nI e) (ii_I Z) y_length y_parts y_bad y_nodes y_fault y_place y_bound y_depth y_nextName y_wantsName y_wantsTag y_printed y_waiting y_scaled y_sort y_typeA y_typeB y_typeC y_fieldName y_fieldType y_fields y_tags y_needed t y_begin y_end y_inside y_whole y_kind y_value y_parent y_name y_slotOf y_placeOf y_complete y_openNode y_openType y_openCount y_openNames y_openChoice y_output y_todo n (lN U) 1 (nI j) := by
        intro y_length y_parts y_bad y_nodes y_fault y_place y_bound y_depth y_nextName y_wantsName y_wantsTag y_printed y_waiting y_scaled y_sort y_typeA y_typeB y_typeC y_fieldName y_fieldType y_fields y_tags y_needed y_begin y_end y_inside y_whole y_kind y_value y_parent y_name y_slotOf y_placeOf y_complete y_openNode y_openType y_openCount y_openNames y_openChoice y_output y_todo postY ⟨n, hn⟩
        refine ⟨n + 1, yu_s hP hC (Or.inr rfl) h2 (by omega) c9 ec hZb.1 hZb.2 rel.symm (fun w => absurd w (by omega)) (fun _ w => absurd w (by omega)) (fun _ _ _ => ?_) (fun _ w => absurd w (by omega))⟩
        rw [lN_add]; exact hn
      rcases ih (j + 1) (U + c * 10 ^ W.toNat) (by omega) (by omega) (by omega) with ⟨U', u1, u2, u3⟩ | ⟨u1, sc, u2⟩
      · exact Or.inl ⟨U', u1, fun pX h => sX pX (u2 pX h), fun pY h => sY pY (u3 pY h)⟩
      · exact Or.inr ⟨fun pX h => sX pX (u1 pX h), sc, fun pY h => sY pY (u2 pY h)⟩
    · have sX : ∀ postX : Int64 → Prop, postX 1099511627776 → ∃ n, wX_readUnits_39 postX (nI e) (nI a) (ii_I sx) x_length x_nodeCount x_bound x_fault x_faultPlace x_mode x_at (nI b) x_textCount x_escaped x_valueSlot x_valueName x_depth x_outputLength t x_typeKind x_typeDetail x_typeLeast x_typeMost x_fieldCount x_fieldName x_fieldType x_fieldNeeded x_tagType x_nodeKind x_nodeValue x_nodeParent x_nodeName x_nodeSlot x_nodeStart x_nodeTag x_completeCount x_openNode x_openSlot x_openNames x_openNext x_openComma x_output n (lN U) (nI j) :=
        fun postX h => ⟨0 + 1, xu_s1 hP h2 (by omega) c1 c9 ec (by omega) (by omega) (fun _ => h) (fun w1 w2 => absurd ⟨w1, w2⟩ good)⟩
      refine Or.inr ⟨sX, ?_⟩
      generalize hW : Z + nu_c a e (j + 1) = W at rel
      by_cases w0 : W < 0
      · obtain ⟨sc, h⟩ := yu_bad hP hC (x8 := x8) hZb.1 hZb.2 m (j + 1) (lN U) 0 (by omega) (by omega) (Or.inl rfl)
        refine ⟨sc, fun postY hp => ?_⟩
        obtain ⟨n, hn⟩ := h postY hp
        exact ⟨n + 1, yu_s hP hC (Or.inr rfl) h2 (by omega) c9 ec hZb.1 hZb.2 hW.symm (fun w => absurd w (by omega)) (fun _ _ => hn) (fun _ w => absurd w (by omega)) (fun _ w => absurd w (by omega))⟩
      by_cases w11 : 11 ≤ W
      · obtain ⟨sc, h⟩ := yu_bad hP hC (x8 := x8) hZb.1 hZb.2 m (j + 1) (lN U + lN c) 0 (by omega) (by omega) (Or.inl rfl)
        refine ⟨sc, fun postY hp => ?_⟩
        obtain ⟨n, hn⟩ := h postY hp
        exact ⟨n + 1, yu_s hP hC (Or.inr rfl) h2 (by omega) c9 ec hZb.1 hZb.2 hW.symm (fun w => absurd w (by omega)) (fun _ w => absurd w w0) (fun _ _ w => absurd w (by omega)) (fun _ _ => hn)⟩
      · have eW : W = 10 := by omega
        subst eW
        obtain ⟨sc, h⟩ := yu_bad hP hC (x8 := x8) hZb.1 hZb.2 m (j + 1) (lN U + lN (c * 10 ^ (10 : Int).toNat)) 1 (by omega) (by omega) (Or.inr ⟨rfl, U + c * 10 ^ (10 : Int).toNat, lN_add _ _, by
          have : (10 : Int).toNat = 10 := rfl
          rw [this]; omega, by
          have : (10 : Int).toNat = 10 := rfl
          rw [this]; omega⟩)
        refine ⟨sc, fun postY hp => ?_⟩
        obtain ⟨n, hn⟩ := h postY hp
        exact ⟨n + 1, yu_s hP hC (Or.inr rfl) h2 (by omega) c9 ec hZb.1 hZb.2 hW.symm (fun w => absurd w (by omega)) (fun _ w => absurd w w0) (fun _ _ _ => hn) (fun _ w => absurd w w11)⟩
end
/-- where the reference finds point and e -/
theorem yu_scan {y_length y_parts y_bad y_nodes y_fault y_place y_bound y_depth y_nextName y_wantsName y_wantsTag y_printed y_waiting y_scaled : Int32} {y_sort y_typeA y_typeB y_typeC y_fieldName y_fieldType y_fields y_tags y_needed y_begin y_end y_inside y_whole y_kind y_value y_parent y_name y_slotOf y_placeOf y_complete y_openNode y_openType y_openCount y_openNames y_openChoice y_output y_todo : Nat → Int32} {t : Nat → Int32} {b a e Q : Nat} (hP : nu_P t b a e Q) {postY : Int32 → SY → Prop} {x2 x3 x7 x8 : Int32} : ∀ (m j : Nat), j + m = Q → b ≤ j →
    (∃ n, wY_units_45 postY x2 x3 (nI (Q - 1)) x7 x8 y_length y_parts y_bad y_nodes y_fault y_place y_bound y_depth y_nextName y_wantsName y_wantsTag y_printed y_waiting y_scaled y_sort y_typeA y_typeB y_typeC y_fieldName y_fieldType y_fields y_tags y_needed t y_begin y_end y_inside y_whole y_kind y_value y_parent y_name y_slotOf y_placeOf y_complete y_openNode y_openType y_openCount y_openNames y_openChoice y_output y_todo n (if a < e then nI a else -1) (if e < Q then nI e else -1) (nI Q)) → ∃ n, wY_units_45 postY x2 x3 (nI (Q - 1)) x7 x8 y_length y_parts y_bad y_nodes y_fault y_place y_bound y_depth y_nextName y_wantsName y_wantsTag y_printed y_waiting y_scaled y_sort y_typeA y_typeB y_typeC y_fieldName y_fieldType y_fields y_tags y_needed t y_begin y_end y_inside y_whole y_kind y_value y_parent y_name y_slotOf y_placeOf y_complete y_openNode y_openType y_openCount y_openNames y_openChoice y_output y_todo n (if a < e ∧ a < j then nI a else -1) (if e < j then nI e else -1) (nI j) := by
  have hQ := hP.2.2.2.1
  intro m
  induction m with
  | zero =>
    intro j h1 h2 h
    have : j = Q := by omega
    subst this
    rw [show (if a < e ∧ a < j then nI a else -1) = (if a < e then nI a else -1) from by
      by_cases q : a < e
      · rw [if_pos q, if_pos ⟨q, by have := hP.2.2.1; omega⟩]
      · rw [if_neg q, if_neg (fun w => q w.1)]]
    exact h
  | succ m ih =>
    intro j h1 h2 h
    obtain ⟨n, hn⟩ := ih (j + 1) (by omega) (by omega) h
    have ej : (nI j).toNatClampNeg = j := nI_clamp (by omega)
    have ij : vp_in (nI j) 96 := vp_in_nI (by omega) (by decide)
    refine ⟨n + 1, br_f (nI_nlt (by omega) (by omega)) ⟨ij, ?_⟩⟩
    have i18 := hP.2.2.2.2.2.1 j h2 (by omega)
    have i19 := hP.2.2.2.2.2.2.1 j h2 (by omega)
    rw [ej]
    by_cases p18 : t j = 18
    · have q := i18.mp p18
      have n19 : ¬ t j = 19 := by rw [p18]; decide
      refine br_t p18 ⟨ij, ?_⟩
      rw [ej]
      refine br_f n19 (nm_r (nI_1 j) ?_)
      have ne : ¬ (e < Q ∧ j = e) := fun w => n19 (i19.mpr w)
      rw [if_pos (by omega), q.2.symm, show (if e < j + 1 then nI e else -1) = (if e < j then nI e else (-1 : Int32)) from by
        by_cases r : e < j
        · rw [if_pos r, if_pos (by omega)]
        · rw [if_neg r, if_neg (by omega)]] at hn
      exact hn
    · have np : ¬ (a < e ∧ j = a) := fun w => p18 (i18.mpr w)
      have e1 : (if a < e ∧ a < j + 1 then nI a else -1) = (if a < e ∧ a < j then nI a else (-1 : Int32)) := by
        by_cases r : a < e ∧ a < j
        · rw [if_pos r, if_pos (by omega)]
        · rw [if_neg r, if_neg (by omega)]
      rw [e1] at hn
      refine br_f p18 ⟨ij, ?_⟩
      rw [ej]
      by_cases p19 : t j = 19
      · have q := i19.mp p19
        refine br_t p19 (nm_r (nI_1 j) ?_)
        obtain ⟨-, rfl⟩ := q
        rw [if_pos (by omega : j < j + 1)] at hn
        exact hn
      · have ne : ¬ (e < Q ∧ j = e) := fun w => p19 (i19.mpr w)
        refine br_f p19 (nm_r (nI_1 j) ?_)
        rw [show (if e < j + 1 then nI e else -1) = (if e < j then nI e else (-1 : Int32)) from by
          by_cases r : e < j
          · rw [if_pos r, if_pos (by omega)]
          · rw [if_neg r, if_neg (by omega)]] at hn
        exact hn
