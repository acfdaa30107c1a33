/-! the reckoning of a number: readUnits and units -/
/-- what the two answers have to do with each other -/
def nu_R (xu : Int64) (ok sc : Int32) : Prop := (ok = 1 ∧ xu = sc.toInt64) ∨ (ok = 0 ∧ (xu.toInt < -2147483648 ∨ 2147483647 < xu.toInt))
theorem nu_fit (z : Int64) : z = z.toInt32.toInt64 ∨ (z.toInt < -2147483648 ∨ 2147483647 < z.toInt) := by
  by_cases h : z.toInt < -2147483648 ∨ 2147483647 < z.toInt
  · exact Or.inr h
  · exact Or.inl (lg_i2l_l2i (by omega) (by omega)).symm
section
variable {x_length x_nodeCount x_bound x_fault x_faultPlace x_mode x_textCount x_escaped x_valueSlot x_valueName x_depth x_outputLength : Int32} {x_typeKind x_typeDetail x_typeLeast x_typeMost x_fieldCount x_fieldName x_fieldType x_fieldNeeded x_tagType x_nodeKind x_nodeValue x_nodeParent x_nodeName x_nodeSlot x_nodeStart x_nodeTag x_completeCount x_openNode x_openSlot x_openNames x_openNext x_openComma x_output : Nat → Int32} {t : Nat → Int32} {b a e Q : Nat}
theorem xu_top (hP : nu_P t b a e Q) {postX : Int64 → Prop} {d pw : Int32} (hpow : ∀ P : Int32 → Prop, P pw → wpX_readPower P (x_length, x_nodeCount, x_bound, x_fault, x_faultPlace, x_mode, nI Q, nI b, x_textCount, x_escaped, x_valueSlot, x_valueName, x_depth, x_outputLength, t, x_typeKind, x_typeDetail, x_typeLeast, x_typeMost, x_fieldCount, x_fieldName, x_fieldType, x_fieldNeeded, x_tagType, x_nodeKind, x_nodeValue, x_nodeParent, x_nodeName, x_nodeSlot, x_nodeStart, x_nodeTag, x_completeCount, x_openNode, x_openSlot, x_openNames, x_openNext, x_openComma, x_output) (nI (e + 1))) {sx : Int} (hs : d + pw = ii_I sx)
    (h : ∃ n, wX_readUnits_39 postX (nI e) (nI a) (ii_I sx) x_length x_nodeCount x_bound x_fault x_faultPlace x_mode (nI Q) (nI b) x_textCount x_escaped x_valueSlot x_valueName x_depth x_outputLength t x_typeKind x_typeDetail x_typeLeast x_typeMost x_fieldCount x_fieldName x_fieldType x_fieldNeeded x_tagType x_nodeKind x_nodeValue x_nodeParent x_nodeName x_nodeSlot x_nodeStart x_nodeTag x_completeCount x_openNode x_openSlot x_openNames x_openNext x_openComma x_output n (lN 0) (nI b)) : wpX_readUnits postX (x_length, x_nodeCount, x_bound, x_fault, x_faultPlace, x_mode, nI Q, nI b, x_textCount, x_escaped, x_valueSlot, x_valueName, x_depth, x_outputLength, t, x_typeKind, x_typeDetail, x_typeLeast, x_typeMost, x_fieldCount, x_fieldName, x_fieldType, x_fieldNeeded, x_tagType, x_nodeKind, x_nodeValue, x_nodeParent, x_nodeName, x_nodeSlot, x_nodeStart, x_nodeTag, x_completeCount, x_openNode, x_openSlot, x_openNames, x_openNext, x_openComma, x_output) d := by
  have hab := hP.1
  have hae := hP.2.1
  have he := hP.2.2.1
  have hQ := hP.2.2.2.1
  unfold wpX_readUnits
  dsimp only
  refine xu_find (e - b) b e Q (by omega) he hQ (fun i p q z => ?_) (fun w => ?_) ?_
  · have := (hP.2.2.2.2.2.2.1 i p (by omega)).mp z; omega
  · exact (hP.2.2.2.2.2.2.1 e (by omega) w).mpr ⟨w, rfl⟩
  refine xu_find (a - b) b a e (by omega) hae (by omega) (fun i p q z => ?_) (fun w => ?_) ?_
  · have := (hP.2.2.2.2.2.1 i p (by omega)).mp z; omega
  · exact (hP.2.2.2.2.2.1 a (by omega) (by omega)).mpr ⟨w, rfl⟩
  rw [nI_1]
  exact hpow _ (nm_r hs h)
end
section
variable {y_length y_parts y_bad y_nodes y_fault y_place y_bound y_depth y_nextName y_wantsName y_wantsTag y_printed y_waiting y_scaled : Int32} {y_sort y_typeA y_typeB y_typeC y_fieldName y_fieldType y_fields y_tags y_needed y_inside y_whole y_kind y_value y_parent y_name y_slotOf y_placeOf y_complete y_openNode y_openType y_openCount y_openNames y_openChoice y_output y_todo : Nat → Int32} {t bg en : Nat → Int32} {b a e Q k : Nat}
/-- from the power's value on -/
theorem yu_180 (hP : nu_P t b a e Q) {postY : Int32 → SY → Prop} {x8 : Int32} {d : Nat} (hd : d ≤ 4) {py : Int} {Z : Int} (hp1 : -1000000 < py) (hp2 : py < 1000000) (hZ : Z = py + d - (if a < e then (e : Int) - a - 1 else 0))
    (h : ∃ n, wY_units_228 postY x8 (nI e) (ii_I Z) y_length y_parts y_bad y_nodes y_fault y_place y_bound y_depth y_nextName y_wantsName y_wantsTag y_printed y_waiting y_scaled y_sort y_typeA y_typeB y_typeC y_fieldName y_fieldType y_fields y_tags y_needed t bg en y_inside y_whole y_kind y_value y_parent y_name y_slotOf y_placeOf y_complete y_openNode y_openType y_openCount y_openNames y_openChoice y_output y_todo n (lN 0) 1 (nI b)) : wY_units_180 postY (nI d) (nI b) (if a < e then nI a else -1) (if e < Q then nI e else -1) (nI (Q - 1)) (ii_I py) x8 y_length y_parts y_bad y_nodes y_fault y_place y_bound y_depth y_nextName y_wantsName y_wantsTag y_printed y_waiting y_scaled y_sort y_typeA y_typeB y_typeC y_fieldName y_fieldType y_fields y_tags y_needed t bg en y_inside y_whole y_kind y_value y_parent y_name y_slotOf y_placeOf y_complete y_openNode y_openType y_openCount y_openNames y_openChoice y_output y_todo := by
  have hab := hP.1
  have hae := hP.2.1
  have he := hP.2.2.1
  have hQ := hP.2.2.2.1
  have eD : ii_I py + nI d = ii_I (py + d) := by rw [ii_n, ii_add]
  have st : wY_units_194 postY (nI d) (nI b) (if a < e then nI a else -1) (ii_I py) x8 (nI e) y_length y_parts y_bad y_nodes y_fault y_place y_bound y_depth y_nextName y_wantsName y_wantsTag y_printed y_waiting y_scaled y_sort y_typeA y_typeB y_typeC y_fieldName y_fieldType y_fields y_tags y_needed t bg en y_inside y_whole y_kind y_value y_parent y_name y_slotOf y_placeOf y_complete y_openNode y_openType y_openCount y_openNames y_openChoice y_output y_todo := by
    unfold wY_units_194
    rw [eD]
    by_cases q : a < e
    · rw [if_pos q] at hZ ⊢
      refine br_t (nI_pos' (by omega)) (nm_r (e' := ii_I Z) ?_ h)
      rw [ii_n, ii_n, show (1 : Int32) = ii_I 1 from rfl, ii_sub, ii_sub, ii_sub, hZ]
    · rw [if_neg q] at hZ ⊢
      refine br_f (by decide) (nm_r (e' := ii_I Z) ?_ h)
      rw [show (0 : Int32) = ii_I 0 from rfl, ii_sub, hZ]
  unfold wY_units_180
  by_cases q : e < Q
  · rw [if_pos q]
    exact br_t (nI_pos' (by omega)) st
  · rw [if_neg q]
    refine br_f (by decide) ?_
    rw [nI_1, show Q - 1 + 1 = e from by omega]
    exact st
end
/-- the reference's reckoning, given the power -/
theorem yu_top {t bg en : Nat → Int32} {b a e Q k : Nat} (hP : nu_P t b a e Q) (hk : k < 96) (eb : bg k = nI b) (ee : en k = nI (Q - 1)) {d : Nat} (hd : d ≤ 4) {py : Int} {Z : Int} (hp1 : -1000000 < py) (hp2 : py < 1000000) (hZ : Z = py + d - (if a < e then (e : Int) - a - 1 else 0))
    (hpow : ∀ {y_length y_parts y_bad y_nodes y_fault y_place y_bound y_depth y_nextName y_wantsName y_wantsTag y_printed y_waiting y_scaled : Int32} {y_sort y_typeA y_typeB y_typeC y_fieldName y_fieldType y_fields y_tags y_needed y_inside y_whole y_kind y_value y_parent y_name y_slotOf y_placeOf y_complete y_openNode y_openType y_openCount y_openNames y_openChoice y_output y_todo : Nat → Int32} (postY : Int32 → SY → Prop) (x8 : Int32), wY_units_180 postY (nI d) (nI b) (if a < e then nI a else -1) (if e < Q then nI e else -1) (nI (Q - 1)) (ii_I py) x8 y_length y_parts y_bad y_nodes y_fault y_place y_bound y_depth y_nextName y_wantsName y_wantsTag y_printed y_waiting y_scaled y_sort y_typeA y_typeB y_typeC y_fieldName y_fieldType y_fields y_tags y_needed t bg en y_inside y_whole y_kind y_value y_parent y_name y_slotOf y_placeOf y_complete y_openNode y_openType y_openCount y_openNames y_openChoice y_output y_todo → wY_units_45 postY (nI d) (nI b) (nI (Q - 1)) 0 x8 y_length y_parts y_bad y_nodes y_fault y_place y_bound y_depth y_nextName y_wantsName y_wantsTag y_printed y_waiting y_scaled y_sort y_typeA y_typeB y_typeC y_fieldName y_fieldType y_fields y_tags y_needed t bg en y_inside y_whole y_kind y_value y_parent y_name y_slotOf y_placeOf y_complete y_openNode y_openType y_openCount y_openNames y_openChoice y_output y_todo 1 (if a < e then nI a else -1) (if e < Q then nI e else -1) (nI Q)) :
    ∀ {y_length y_parts y_bad y_nodes y_fault y_place y_bound y_depth y_nextName y_wantsName y_wantsTag y_printed y_waiting y_scaled : Int32} {y_sort y_typeA y_typeB y_typeC y_fieldName y_fieldType y_fields y_tags y_needed y_inside y_whole y_kind y_value y_parent y_name y_slotOf y_placeOf y_complete y_openNode y_openType y_openCount y_openNames y_openChoice y_output y_todo : Nat → Int32} (postY : Int32 → SY → Prop), (∀ x8 : Int32, x8 = (if t b = 17 then 1 else 0) → ∃ n, wY_units_228 postY x8 (nI e) (ii_I Z) y_length y_parts y_bad y_nodes y_fault y_place y_bound y_depth y_nextName y_wantsName y_wantsTag y_printed y_waiting y_scaled y_sort y_typeA y_typeB y_typeC y_fieldName y_fieldType y_fields y_tags y_needed t bg en y_inside y_whole y_kind y_value y_parent y_name y_slotOf y_placeOf y_complete y_openNode y_openType y_openCount y_openNames y_openChoice y_output y_todo n (lN 0) 1 (nI b)) → wpY_units postY (y_length, y_parts, y_bad, y_nodes, y_fault, y_place, y_bound, y_depth, y_nextName, y_wantsName, y_wantsTag, y_printed, y_waiting, y_scaled, y_sort, y_typeA, y_typeB, y_typeC, y_fieldName, y_fieldType, y_fields, y_tags, y_needed, t, bg, en, y_inside, y_whole, y_kind, y_value, y_parent, y_name, y_slotOf, y_placeOf, y_complete, y_openNode, y_openType, y_openCount, y_openNames, y_openChoice, y_output, y_todo) (nI k) (nI d) := by
  intro y_length y_parts y_bad y_nodes y_fault y_place y_bound y_depth y_nextName y_wantsName y_wantsTag y_printed y_waiting y_scaled y_sort y_typeA y_typeB y_typeC y_fieldName y_fieldType y_fields y_tags y_needed y_inside y_whole y_kind y_value y_parent y_name y_slotOf y_placeOf y_complete y_openNode y_openType y_openCount y_openNames y_openChoice y_output y_todo postY h
  have hab := hP.1
  have hae := hP.2.1
  have he := hP.2.2.1
  have hQ := hP.2.2.2.1
  have ek : (nI k).toNatClampNeg = k := nI_clamp (by omega)
  have ik : vp_in (nI k) 96 := vp_in_nI hk (by decide)
  have eB : (nI b).toNatClampNeg = b := nI_clamp (by omega)
  have iB : vp_in (nI b) 96 := vp_in_nI (by omega) (by decide)
  have go : ∀ x8 : Int32, x8 = (if t b = 17 then 1 else 0) → ∃ n, wY_units_45 postY (nI d) (nI b) (nI (Q - 1)) 0 x8 y_length y_parts y_bad y_nodes y_fault y_place y_bound y_depth y_nextName y_wantsName y_wantsTag y_printed y_waiting y_scaled y_sort y_typeA y_typeB y_typeC y_fieldName y_fieldType y_fields y_tags y_needed t bg en y_inside y_whole y_kind y_value y_parent y_name y_slotOf y_placeOf y_complete y_openNode y_openType y_openCount y_openNames y_openChoice y_output y_todo n (-1) (-1) (nI b) := by
    intro x8 h8
    have := yu_scan (postY := postY) (x2 := nI d) (x3 := nI b) (x7 := 0) (x8 := x8) (y_length := y_length) (y_parts := y_parts) (y_bad := y_bad) (y_nodes := y_nodes) (y_fault := y_fault) (y_place := y_place) (y_bound := y_bound) (y_depth := y_depth) (y_nextName := y_nextName) (y_wantsName := y_wantsName) (y_wantsTag := y_wantsTag) (y_printed := y_printed) (y_waiting := y_waiting) (y_scaled := y_scaled) (y_sort := y_sort) (y_typeA := y_typeA) (y_typeB := y_typeB) (y_typeC := y_typeC) (y_fieldName := y_fieldName) (y_fieldType := y_fieldType) (y_fields := y_fields) (y_tags := y_tags) (y_needed := y_needed) (y_begin := bg) (y_end := en) (y_inside := y_inside) (y_whole := y_whole) (y_kind := y_kind) (y_value := y_value) (y_parent := y_parent) (y_name := y_name) (y_slotOf := y_slotOf) (y_placeOf := y_placeOf) (y_complete := y_complete) (y_openNode := y_openNode) (y_openType := y_openType) (y_openCount := y_openCount) (y_openNames := y_openNames) (y_openChoice := y_openChoice) (y_output := y_output) (y_todo := y_todo) hP (Q - b) b (by omega) (by omega) ⟨1, hpow postY x8 (yu_180 hP hd hp1 hp2 hZ (h x8 h8))⟩
    rw [if_neg (by omega), if_neg (by omega)] at this
    exact this
  unfold wpY_units
  dsimp only
  rw [ek, eb, ee]
  refine ⟨ik, nm_e ⟨ik, nm_e ⟨iB, ?_⟩⟩⟩
  rw [eB]
  by_cases c17 : t b = 17
  · rw [if_pos c17] at go
    exact br_t c17 (go 1 rfl)
  · rw [if_neg c17] at go
    exact br_f c17 (go 0 rfl)
section
variable {x_length x_nodeCount x_bound x_fault x_faultPlace x_mode x_textCount x_escaped x_valueSlot x_valueName x_depth x_outputLength : Int32} {x_typeKind x_typeDetail x_typeLeast x_typeMost x_fieldCount x_fieldName x_fieldType x_fieldNeeded x_tagType x_nodeKind x_nodeValue x_nodeParent x_nodeName x_nodeSlot x_nodeStart x_nodeTag x_completeCount x_openNode x_openSlot x_openNames x_openNext x_openComma x_output : Nat → Int32}
/-- both reckon the number alike -/
theorem nu_units {t bg en : Nat → Int32} {L b Q k d : Nat} (hL : L ≤ 96) (hC : tt_C t) (hW : ns_W t L b Q) (hk : k < 96) (eb : bg k = nI b) (ee : en k = nI (Q - 1)) (hd : d ≤ 4) :
    ∃ (xu : Int64) (ok sc : Int32), nu_R xu ok sc ∧ (∀ postX : Int64 → Prop, postX xu → wpX_readUnits postX (x_length, x_nodeCount, x_bound, x_fault, x_faultPlace, x_mode, nI Q, nI b, x_textCount, x_escaped, x_valueSlot, x_valueName, x_depth, x_outputLength, t, x_typeKind, x_typeDetail, x_typeLeast, x_typeMost, x_fieldCount, x_fieldName, x_fieldType, x_fieldNeeded, x_tagType, x_nodeKind, x_nodeValue, x_nodeParent, x_nodeName, x_nodeSlot, x_nodeStart, x_nodeTag, x_completeCount, x_openNode, x_openSlot, x_openNames, x_openNext, x_openComma, x_output) (nI d)) ∧ un_Y t bg en k (nI d) ok sc := by
  obtain ⟨a, e, hP⟩ := nu_of hL hW
  have hab := hP.1
  have hae := hP.2.1
  have he := hP.2.2.1
  have hQ := hP.2.2.2.1
  -- the powers
  have pows : ∃ sx sy : Int, (sx = sy ∨ (9500 ≤ sx ∧ 9500 ≤ sy) ∨ (sx ≤ -9500 ∧ sy ≤ -9500)) ∧ (-1000000 ≤ sx ∧ sx ≤ 1000000) ∧ (-100000 ≤ sy ∧ sy ≤ 100000) ∧
      (∃ pw : Int32, nI d + pw = ii_I (sx + d) ∧ ∀ P : Int32 → Prop, P pw → wpX_readPower P (x_length, x_nodeCount, x_bound, x_fault, x_faultPlace, x_mode, nI Q, nI b, x_textCount, x_escaped, x_valueSlot, x_valueName, x_depth, x_outputLength, t, x_typeKind, x_typeDetail, x_typeLeast, x_typeMost, x_fieldCount, x_fieldName, x_fieldType, x_fieldNeeded, x_tagType, x_nodeKind, x_nodeValue, x_nodeParent, x_nodeName, x_nodeSlot, x_nodeStart, x_nodeTag, x_completeCount, x_openNode, x_openSlot, x_openNames, x_openNext, x_openComma, x_output) (nI (e + 1))) ∧
      (∀ {y_length y_parts y_bad y_nodes y_fault y_place y_bound y_depth y_nextName y_wantsName y_wantsTag y_printed y_waiting y_scaled : Int32} {y_sort y_typeA y_typeB y_typeC y_fieldName y_fieldType y_fields y_tags y_needed y_inside y_whole y_kind y_value y_parent y_name y_slotOf y_placeOf y_complete y_openNode y_openType y_openCount y_openNames y_openChoice y_output y_todo : Nat → Int32} (postY : Int32 → SY → Prop) (x8 : Int32), wY_units_180 postY (nI d) (nI b) (if a < e then nI a else -1) (if e < Q then nI e else -1) (nI (Q - 1)) (ii_I sy) x8 y_length y_parts y_bad y_nodes y_fault y_place y_bound y_depth y_nextName y_wantsName y_wantsTag y_printed y_waiting y_scaled y_sort y_typeA y_typeB y_typeC y_fieldName y_fieldType y_fields y_tags y_needed t bg en y_inside y_whole y_kind y_value y_parent y_name y_slotOf y_placeOf y_complete y_openNode y_openType y_openCount y_openNames y_openChoice y_output y_todo → wY_units_45 postY (nI d) (nI b) (nI (Q - 1)) 0 x8 y_length y_parts y_bad y_nodes y_fault y_place y_bound y_depth y_nextName y_wantsName y_wantsTag y_printed y_waiting y_scaled y_sort y_typeA y_typeB y_typeC y_fieldName y_fieldType y_fields y_tags y_needed t bg en y_inside y_whole y_kind y_value y_parent y_name y_slotOf y_placeOf y_complete y_openNode y_openType y_openCount y_openNames y_openChoice y_output y_todo 1 (if a < e then nI a else -1) (if e < Q then nI e else -1) (nI Q)) := by
    rcases Nat.lt_or_ge e Q with q | q
    · have q1 := hP.2.2.2.2.1 q
      obtain ⟨px, py, hV, hX, hY⟩ := nu_pow (f := e + 1) (x_length := x_length) (x_nodeCount := x_nodeCount) (x_bound := x_bound) (x_fault := x_fault) (x_faultPlace := x_faultPlace) (x_mode := x_mode) (x_tokenStart := nI b) (x_textCount := x_textCount) (x_escaped := x_escaped) (x_valueSlot := x_valueSlot) (x_valueName := x_valueName) (x_depth := x_depth) (x_outputLength := x_outputLength) (x_typeKind := x_typeKind) (x_typeDetail := x_typeDetail) (x_typeLeast := x_typeLeast) (x_typeMost := x_typeMost) (x_fieldCount := x_fieldCount) (x_fieldName := x_fieldName) (x_fieldType := x_fieldType) (x_fieldNeeded := x_fieldNeeded) (x_tagType := x_tagType) (x_nodeKind := x_nodeKind) (x_nodeValue := x_nodeValue) (x_nodeParent := x_nodeParent) (x_nodeName := x_nodeName) (x_nodeSlot := x_nodeSlot) (x_nodeStart := x_nodeStart) (x_nodeTag := x_nodeTag) (x_completeCount := x_completeCount) (x_openNode := x_openNode) (x_openSlot := x_openSlot) (x_openNames := x_openNames) (x_openNext := x_openNext) (x_openComma := x_openComma) (x_output := x_output) (x_text := t) hC hQ (Q - (e + 1)) (e + 1) 0 0 (by omega) (Or.inl ⟨rfl, by omega⟩)
      have e1 : (nI (e + 1)).toNatClampNeg = e + 1 := nI_clamp (by omega)
      have bx : px ≤ 999999 ∧ py ≤ 99999 := by unfold nu_V at hV; omega
      by_cases c17 : t (e + 1) = 17
      · refine ⟨-(px : Int), -(py : Int), by unfold nu_V at hV; omega, by omega, by omega, ⟨-nI px, ?_, fun P hp => ?_⟩, ?_⟩
        · rw [ii_n d, ii_n px, ii_neg, ii_add]; congr 1; omega
        · refine hX P ⟨1, br_t (nI_le (Nat.le_refl _) (by omega)) (br_f (nI_ge q1 (by omega)) ⟨vp_in_nI (by omega) (by decide), ?_⟩)⟩
          rw [e1]; exact br_t c17 hp
        · intro y_length y_parts y_bad y_nodes y_fault y_place y_bound y_depth y_nextName y_wantsName y_wantsTag y_printed y_waiting y_scaled y_sort y_typeA y_typeB y_typeC y_fieldName y_fieldType y_fields y_tags y_needed y_inside y_whole y_kind y_value y_parent y_name y_slotOf y_placeOf y_complete y_openNode y_openType y_openCount y_openNames y_openChoice y_output y_todo postY x8 w
          refine br_t (nI_lt (by omega) (by omega)) ?_
          rw [if_pos q] at w ⊢
          refine br_t (nI_pos' (by omega)) (nm_r (nI_1 e) ?_)
          refine hY (y_begin := bg) (y_end := en) postY (nI d) (nI b) _ (nI e) x8 ⟨1, br_t (nI_lt (by omega) (by omega)) (br_f (nI_pos (by omega)) ?_)⟩
          rw [nI_1]
          refine ⟨vp_in_nI (by omega) (by decide), ?_⟩
          rw [e1]
          refine br_t c17 (nm_r (e' := ii_I (-(py : Int))) ?_ w)
          rw [ii_n, ii_neg]
      · refine ⟨(px : Int), (py : Int), by unfold nu_V at hV; omega, by omega, by omega, ⟨nI px, ?_, fun P hp => ?_⟩, ?_⟩
        · rw [ii_n d, ii_n px, ii_add]; congr 1; omega
        · refine hX P ⟨1, br_t (nI_le (Nat.le_refl _) (by omega)) (br_f (nI_ge q1 (by omega)) ⟨vp_in_nI (by omega) (by decide), ?_⟩)⟩
          rw [e1]; exact br_f c17 hp
        · intro y_length y_parts y_bad y_nodes y_fault y_place y_bound y_depth y_nextName y_wantsName y_wantsTag y_printed y_waiting y_scaled y_sort y_typeA y_typeB y_typeC y_fieldName y_fieldType y_fields y_tags y_needed y_inside y_whole y_kind y_value y_parent y_name y_slotOf y_placeOf y_complete y_openNode y_openType y_openCount y_openNames y_openChoice y_output y_todo postY x8 w
          refine br_t (nI_lt (by omega) (by omega)) ?_
          rw [if_pos q] at w ⊢
          refine br_t (nI_pos' (by omega)) (nm_r (nI_1 e) ?_)
          refine hY (y_begin := bg) (y_end := en) postY (nI d) (nI b) _ (nI e) x8 ⟨1, br_t (nI_lt (by omega) (by omega)) (br_f (nI_pos (by omega)) ?_)⟩
          rw [nI_1]
          refine ⟨vp_in_nI (by omega) (by decide), ?_⟩
          rw [e1]
          refine br_f c17 ?_
          rw [ii_nat] at w
          exact w
    · have eq : e = Q := by omega
      subst eq
      refine ⟨0, 0, Or.inl rfl, by omega, by omega, ⟨0, ?_, fun P hp => ?_⟩, ?_⟩
      · rw [ii_n, show (0 : Int32) = ii_I 0 from rfl, ii_add]; congr 1; omega
      · exact ⟨1, br_t (nI_le (by omega) (by omega)) (br_t (nI_le (by omega) (by omega)) hp)⟩
      · intro y_length y_parts y_bad y_nodes y_fault y_place y_bound y_depth y_nextName y_wantsName y_wantsTag y_printed y_waiting y_scaled y_sort y_typeA y_typeB y_typeC y_fieldName y_fieldType y_fields y_tags y_needed y_inside y_whole y_kind y_value y_parent y_name y_slotOf y_placeOf y_complete y_openNode y_openType y_openCount y_openNames y_openChoice y_output y_todo postY x8 w
        refine br_t (nI_lt (by omega) (by omega)) ?_
        rw [if_neg (Nat.lt_irrefl e)] at w ⊢
        refine br_f (by decide) (nm_r (nI_1 _) ⟨1, ?_⟩)
        rw [show e - 1 + 1 = e from by omega]
        exact br_t (nI_lt (by omega) (by omega)) (br_t (by decide) w)
  obtain ⟨sx, sy, hK, bX, bY, ⟨pw, hpw, hpowX⟩, hpowY⟩ := pows
  have D := nu_dig (t := t) (x8 := (if t b = 17 then 1 else 0)) (sx := sx + d) (sy := sy + d) (Z := sy + d - (if a < e then (e : Int) - a - 1 else 0)) (x_length := x_length) (x_nodeCount := x_nodeCount) (x_bound := x_bound) (x_fault := x_fault) (x_faultPlace := x_faultPlace) (x_mode := x_mode) (x_at := nI Q) (x_textCount := x_textCount) (x_escaped := x_escaped) (x_valueSlot := x_valueSlot) (x_valueName := x_valueName) (x_depth := x_depth) (x_outputLength := x_outputLength) (x_typeKind := x_typeKind) (x_typeDetail := x_typeDetail) (x_typeLeast := x_typeLeast) (x_typeMost := x_typeMost) (x_fieldCount := x_fieldCount) (x_fieldName := x_fieldName) (x_fieldType := x_fieldType) (x_fieldNeeded := x_fieldNeeded) (x_tagType := x_tagType) (x_nodeKind := x_nodeKind) (x_nodeValue := x_nodeValue) (x_nodeParent := x_nodeParent) (x_nodeName := x_nodeName) (x_nodeSlot := x_nodeSlot) (x_nodeStart := x_nodeStart) (x_nodeTag := x_nodeTag) (x_completeCount := x_completeCount) (x_openNode := x_openNode) (x_openSlot := x_openSlot) (x_openNames := x_openNames) (x_openNext := x_openNext) (x_openComma := x_openComma) (x_output := x_output) hP hC (by omega) (by omega) (by omega) (by omega) (by omega) rfl (e - b) b 0 (by omega) (by omega) (by omega)
  have eB : (nI b).toNatClampNeg = b := nI_clamp (by omega)
  have iB : vp_in (nI b) 96 := vp_in_nI (by omega) (by decide)
  have leE : nI e ≤ nI e := nI_le (Nat.le_refl _) (by omega)
  rcases D with ⟨U, hU, dX, dY⟩ | ⟨dX, sc, dY⟩
  · -- the value
    have fin : ∀ z : Int64, z = (if t b = 17 then -lN U else lN U) → ∃ (xu : Int64) (ok sc : Int32), nu_R xu ok sc ∧ (∀ postX : Int64 → Prop, postX xu → wpX_readUnits postX (x_length, x_nodeCount, x_bound, x_fault, x_faultPlace, x_mode, nI Q, nI b, x_textCount, x_escaped, x_valueSlot, x_valueName, x_depth, x_outputLength, t, x_typeKind, x_typeDetail, x_typeLeast, x_typeMost, x_fieldCount, x_fieldName, x_fieldType, x_fieldNeeded, x_tagType, x_nodeKind, x_nodeValue, x_nodeParent, x_nodeName, x_nodeSlot, x_nodeStart, x_nodeTag, x_completeCount, x_openNode, x_openSlot, x_openNames, x_openNext, x_openComma, x_output) (nI d)) ∧ un_Y t bg en k (nI d) ok sc := by
      intro z hz
      have wx : ∀ postX : Int64 → Prop, postX z → wpX_readUnits postX (x_length, x_nodeCount, x_bound, x_fault, x_faultPlace, x_mode, nI Q, nI b, x_textCount, x_escaped, x_valueSlot, x_valueName, x_depth, x_outputLength, t, x_typeKind, x_typeDetail, x_typeLeast, x_typeMost, x_fieldCount, x_fieldName, x_fieldType, x_fieldNeeded, x_tagType, x_nodeKind, x_nodeValue, x_nodeParent, x_nodeName, x_nodeSlot, x_nodeStart, x_nodeTag, x_completeCount, x_openNode, x_openSlot, x_openNames, x_openNext, x_openComma, x_output) (nI d) := by
        intro postX hp
        refine xu_top hP hpowX hpw (dX postX ⟨1, br_t leE ⟨iB, ?_⟩⟩)
        rw [eB]
        by_cases c17 : t b = 17
        · rw [if_pos c17] at hz; subst hz; exact br_t c17 hp
        · rw [if_neg c17] at hz; subst hz; exact br_f c17 hp
      have wy : ∀ ok : Int32, (∀ {y_length y_parts y_bad y_nodes y_fault y_place y_bound y_depth y_nextName y_wantsName y_wantsTag y_printed y_waiting y_scaled : Int32} {y_sort y_typeA y_typeB y_typeC y_fieldName y_fieldType y_fields y_tags y_needed y_inside y_whole y_kind y_value y_parent y_name y_slotOf y_placeOf y_complete y_openNode y_openType y_openCount y_openNames y_openChoice y_output y_todo : Nat → Int32} (postY : Int32 → SY → Prop), postY ok (y_length, y_parts, y_bad, y_nodes, y_fault, y_place, y_bound, y_depth, y_nextName, y_wantsName, y_wantsTag, y_printed, y_waiting, z.toInt32, y_sort, y_typeA, y_typeB, y_typeC, y_fieldName, y_fieldType, y_fields, y_tags, y_needed, t, bg, en, y_inside, y_whole, y_kind, y_value, y_parent, y_name, y_slotOf, y_placeOf, y_complete, y_openNode, y_openType, y_openCount, y_openNames, y_openChoice, y_output, y_todo) → wY_units_410 postY 1 z y_length y_parts y_bad y_nodes y_fault y_place y_bound y_depth y_nextName y_wantsName y_wantsTag y_printed y_waiting y_scaled y_sort y_typeA y_typeB y_typeC y_fieldName y_fieldType y_fields y_tags y_needed t bg en y_inside y_whole y_kind y_value y_parent y_name y_slotOf y_placeOf y_complete y_openNode y_openType y_openCount y_openNames y_openChoice y_output y_todo) → un_Y t bg en k (nI d) ok z.toInt32 := by
        intro ok h4 y_length y_parts y_bad y_nodes y_fault y_place y_bound y_depth y_nextName y_wantsName y_wantsTag y_printed y_waiting y_scaled y_sort y_typeA y_typeB y_typeC y_fieldName y_fieldType y_fields y_tags y_needed y_inside y_whole y_kind y_value y_parent y_name y_slotOf y_placeOf y_complete y_openNode y_openType y_openCount y_openNames y_openChoice y_output y_todo postY hp
        refine yu_top hP hk eb ee hd (by omega) (by omega) rfl hpowY postY (fun x8 h8 => ?_)
        subst h8
        refine dY (y_begin := bg) (y_end := en) postY ⟨1, br_t leE ?_⟩
        by_cases c17 : t b = 17
        · rw [if_pos c17] at hz ⊢; rw [← hz]; exact br_f (by decide) (h4 postY hp)
        · rw [if_neg c17] at hz ⊢; rw [← hz]; exact br_t rfl (h4 postY hp)
      rcases nu_fit z with f | f
      · exact ⟨z, 1, z.toInt32, Or.inl ⟨rfl, f⟩, wx, wy 1 (fun postY hp => br_f (by decide) (br_t f hp))⟩
      · exact ⟨z, 0, z.toInt32, Or.inr ⟨rfl, f⟩, wx, wy 0 (fun postY hp => br_f (by decide) (br_f (lT_big f) hp))⟩
    exact fin _ rfl
  · refine ⟨1099511627776, 0, sc, Or.inr ⟨rfl, Or.inr (by decide)⟩, fun postX hp => xu_top hP hpowX hpw (dX postX hp), ?_⟩
    intro y_length y_parts y_bad y_nodes y_fault y_place y_bound y_depth y_nextName y_wantsName y_wantsTag y_printed y_waiting y_scaled y_sort y_typeA y_typeB y_typeC y_fieldName y_fieldType y_fields y_tags y_needed y_inside y_whole y_kind y_value y_parent y_name y_slotOf y_placeOf y_complete y_openNode y_openType y_openCount y_openNames y_openChoice y_output y_todo postY hp
    refine yu_top hP hk eb ee hd (by omega) (by omega) rfl hpowY postY (fun x8 h8 => ?_)
    subst h8
    exact dY (y_begin := bg) (y_end := en) postY hp
end
