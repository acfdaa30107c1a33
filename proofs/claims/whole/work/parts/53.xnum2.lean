/-! printing: the component's fractions and numbers -/
def pn_fl (b : Nat) : Nat → List Int32
  | 0 => []
  | j + 1 => nI (b / 10 ^ j % 10) :: pn_fl b j
theorem pn_fl_dl (b : Nat) : ∀ j, pn_fl b (j + 1) = pn_dl b j
  | 0 => by
    show [nI (b / 10 ^ 0 % 10)] = [nI (b % 10)]
    rw [Nat.pow_zero, Nat.div_one]
  | j + 1 => by
    show nI (b / 10 ^ (j + 1) % 10) :: pn_fl b (j + 1) = nI (b / 10 ^ (j + 1) % 10) :: pn_dl b j
    rw [pn_fl_dl b j]
theorem pn_fl_len (b : Nat) : ∀ j, (pn_fl b j).length = j
  | 0 => rfl
  | j + 1 => by
    show (pn_fl b j).length + 1 = j + 1
    rw [pn_fl_len b j]
theorem pn_nz {b : Nat} (h : b % 10 ≠ 0) (j : Nat) : 0 < b % 10 ^ (j + 1) := by
  have e : b % 10 ^ (j + 1) % 10 = b % 10 := Nat.mod_mod_of_dvd b ⟨10 ^ j, by rw [Nat.pow_succ, Nat.mul_comm]⟩
  rcases Nat.eq_zero_or_pos (b % 10 ^ (j + 1)) with z | z
  · rw [z] at e; omega
  · exact z
section
variable {x_length x_nodeCount x_bound x_fault x_faultPlace x_mode x_at x_tokenStart x_textCount x_escaped x_valueSlot x_valueName x_depth : Int32} {x_text x_typeKind x_typeDetail x_typeLeast x_typeMost x_fieldCount x_fieldName x_fieldType x_fieldNeeded x_tagType x_nodeKind x_nodeValue x_nodeParent x_nodeName x_nodeSlot x_nodeStart x_nodeTag x_completeCount x_openNode x_openSlot x_openNames x_openNext x_openComma : Nat → Int32} {b D : Nat} {Q : SX → Prop}
theorem wf_dig (hD : D ≤ 4) : ∀ (mm i m : Nat) (o : Nat → Int32), i + mm ≤ D → m + mm < 100000 → (0 < mm → b % 10 ≠ 0) → Q (x_length, x_nodeCount, x_bound, x_fault, x_faultPlace, x_mode, x_at, x_tokenStart, x_textCount, x_escaped, x_valueSlot, x_valueName, x_depth, nI (m + mm), x_text, x_typeKind, x_typeDetail, x_typeLeast, x_typeMost, x_fieldCount, x_fieldName, x_fieldType, x_fieldNeeded, x_tagType, x_nodeKind, x_nodeValue, x_nodeParent, x_nodeName, x_nodeSlot, x_nodeStart, x_nodeTag, x_completeCount, x_openNode, x_openSlot, x_openNames, x_openNext, x_openComma, ow_L o m (pn_fl b mm)) → ∃ n, wX_writeNumber_52 Q (nI D) (lN (10 ^ D)) n (lN (b % 10 ^ mm * 10 ^ (D - mm))) (nI i) x_length x_nodeCount x_bound x_fault x_faultPlace x_mode x_at x_tokenStart x_textCount x_escaped x_valueSlot x_valueName x_depth (nI m) x_text x_typeKind x_typeDetail x_typeLeast x_typeMost x_fieldCount x_fieldName x_fieldType x_fieldNeeded x_tagType x_nodeKind x_nodeValue x_nodeParent x_nodeName x_nodeSlot x_nodeStart x_nodeTag x_completeCount x_openNode x_openSlot x_openNames x_openNext x_openComma o := by
  intro mm
  induction mm with
  | zero =>
    intro i m o hi hm hb h
    refine ⟨1, br_c (fun _ => h) (fun _ => br_t ?_ h)⟩
    rw [Nat.pow_zero, Nat.mod_one, Nat.zero_mul]; decide
  | succ j ih =>
    intro i m o hi hm hb h
    have nz := pn_nz (hb (by omega)) j
    have fr := pn_frac b j D hD (by omega)
    have p1 := pn_lt (j := D) (by omega)
    have p0 := pn_pos D
    have lt1 : b % 10 ^ (j + 1) * 10 ^ (D - (j + 1)) < 10 ^ D := by
      have e : 10 ^ D = 10 ^ (j + 1) * 10 ^ (D - (j + 1)) := by rw [← Nat.pow_add]; congr 1; omega
      rw [e]
      exact (Nat.mul_lt_mul_right (pn_pos _)).mpr (Nat.mod_lt _ (pn_pos _))
    have le4 : 10 ^ D ≤ 10 ^ 4 := Nat.pow_le_pow_right (by decide) hD
    have pos : 0 < b % 10 ^ (j + 1) * 10 ^ (D - (j + 1)) := Nat.mul_pos nz (pn_pos _)
    generalize hr : b % 10 ^ (j + 1) * 10 ^ (D - (j + 1)) = r at fr lt1 pos
    obtain ⟨n, hn⟩ := ih (i + 1) (m + 1) (ow_1 o m (nI (b / 10 ^ j % 10))) (by omega) (by omega) (fun _ => hb (by omega)) (by
      rw [show m + 1 + j = m + (j + 1) from by omega]; exact h)
    refine ⟨n + 1, br_f (nI_ge (by omega) (by omega)) (br_f ?_ (nm_r (e' := lN (r * 10)) ?_ ⟨lN_ne0 p0 p1, wr_x (by omega) ⟨lN_ne0 p0 p1, nm_r (e' := lN (b % 10 ^ j * 10 ^ (D - j))) ?_ (nm_r (nI_1 i) ?_)⟩⟩))⟩
    · rw [show (0 : Int64) = lN 0 from rfl, pk_lLE (by omega) (by decide)]; omega
    · show lN r * lN 10 = _
      rw [lN_mul]
    · rw [pk_lRem (by omega) p0 p1, fr.2]
    · rw [pk_lDiv (by omega) p0 p1, fr.1, lN_i]; exact hn
/-- the list of a number's characters: behind the point h, the digits b, the whole part's first weight J -/
def nm_L (neg : Bool) (b h J : Nat) : List Int32 := (if neg then [17] else []) ++ (pn_dl (b / 10 ^ h) J ++ (if 0 < h then 18 :: pn_dl b (h - 1) else []))
theorem nm_len (neg : Bool) (b h J : Nat) (hJ : J ≤ 9) (hh : h ≤ 4) : (nm_L neg b h J).length ≤ 17 := by
  unfold nm_L
  rw [List.length_append, List.length_append, pn_dl_len]
  have h1 : (if neg then [(17 : Int32)] else []).length ≤ 1 := by cases neg <;> simp
  have h2 : (if 0 < h then (18 : Int32) :: pn_dl b (h - 1) else []).length ≤ 5 := by
    by_cases z : 0 < h
    · rw [if_pos z, List.length_cons, pn_dl_len]; omega
    · rw [if_neg z]; simp
  omega
/-- from the number's value on -/
theorem wn_18 {A h : Nat} (hD : D ≤ 4) (hh : h ≤ D) (hA : A ≤ 2147483648) (eA : A = b * 10 ^ (D - h)) (hb : 0 < h → b % 10 ≠ 0) : ∃ J, J ≤ 9 ∧ pn_L (b / 10 ^ h) J ∧ ∀ (m : Nat) (o : Nat → Int32), m < 80000 → Q (x_length, x_nodeCount, x_bound, x_fault, x_faultPlace, x_mode, x_at, x_tokenStart, x_textCount, x_escaped, x_valueSlot, x_valueName, x_depth, nI (m + (nm_L false b h J).length), x_text, x_typeKind, x_typeDetail, x_typeLeast, x_typeMost, x_fieldCount, x_fieldName, x_fieldType, x_fieldNeeded, x_tagType, x_nodeKind, x_nodeValue, x_nodeParent, x_nodeName, x_nodeSlot, x_nodeStart, x_nodeTag, x_completeCount, x_openNode, x_openSlot, x_openNames, x_openNext, x_openComma, ow_L o m (nm_L false b h J)) → wX_writeNumber_18 Q (nI D) (lN A) x_length x_nodeCount x_bound x_fault x_faultPlace x_mode x_at x_tokenStart x_textCount x_escaped x_valueSlot x_valueName x_depth (nI m) x_text x_typeKind x_typeDetail x_typeLeast x_typeMost x_fieldCount x_fieldName x_fieldType x_fieldNeeded x_tagType x_nodeKind x_nodeValue x_nodeParent x_nodeName x_nodeSlot x_nodeStart x_nodeTag x_completeCount x_openNode x_openSlot x_openNames x_openNext x_openComma o := by
  have p1 := pn_lt (j := D) (by omega)
  have p0 := pn_pos D
  have eD : 10 ^ D = 10 ^ h * 10 ^ (D - h) := by rw [← Nat.pow_add]; congr 1; omega
  have dv : A / 10 ^ D = b / 10 ^ h := by rw [eA, eD, Nat.mul_div_mul_right _ _ (pn_pos _)]
  have md : A % 10 ^ D = b % 10 ^ h * 10 ^ (D - h) := by rw [eA, eD, Nat.mul_mod_mul_right]
  have wl : b / 10 ^ h < 10 ^ 10 := by
    rw [← dv]
    exact Nat.lt_of_le_of_lt (Nat.div_le_self _ _) (by omega)
  obtain ⟨J, hJ, hL, -⟩ := ww_top (Q := fun _ => True) (x_length := x_length) (x_nodeCount := x_nodeCount) (x_bound := x_bound) (x_fault := x_fault) (x_faultPlace := x_faultPlace) (x_mode := x_mode) (x_at := x_at) (x_tokenStart := x_tokenStart) (x_textCount := x_textCount) (x_escaped := x_escaped) (x_valueSlot := x_valueSlot) (x_valueName := x_valueName) (x_depth := x_depth) (x_text := x_text) (x_typeKind := x_typeKind) (x_typeDetail := x_typeDetail) (x_typeLeast := x_typeLeast) (x_typeMost := x_typeMost) (x_fieldCount := x_fieldCount) (x_fieldName := x_fieldName) (x_fieldType := x_fieldType) (x_fieldNeeded := x_fieldNeeded) (x_tagType := x_tagType) (x_nodeKind := x_nodeKind) (x_nodeValue := x_nodeValue) (x_nodeParent := x_nodeParent) (x_nodeName := x_nodeName) (x_nodeSlot := x_nodeSlot) (x_nodeStart := x_nodeStart) (x_nodeTag := x_nodeTag) (x_completeCount := x_completeCount) (x_openNode := x_openNode) (x_openSlot := x_openSlot) (x_openNames := x_openNames) (x_openNext := x_openNext) (x_openComma := x_openComma) (w := b / 10 ^ h) wl
  refine ⟨J, hJ, hL, fun m o hm hq => ?_⟩
  unfold wX_writeNumber_18
  refine xu_pow (by omega) ⟨lN_ne0 p0 p1, ?_⟩
  rw [pk_lDiv (by omega) p0 p1, dv]
  obtain ⟨J', -, hL', hW⟩ := ww_top (Q := fun u => match u with | (x_length, x_nodeCount, x_bound, x_fault, x_faultPlace, x_mode, x_at, x_tokenStart, x_textCount, x_escaped, x_valueSlot, x_valueName, x_depth, x_outputLength, x_text, x_typeKind, x_typeDetail, x_typeLeast, x_typeMost, x_fieldCount, x_fieldName, x_fieldType, x_fieldNeeded, x_tagType, x_nodeKind, x_nodeValue, x_nodeParent, x_nodeName, x_nodeSlot, x_nodeStart, x_nodeTag, x_completeCount, x_openNode, x_openSlot, x_openNames, x_openNext, x_openComma, x_output) => (¬ lN (10 ^ D) = 0 ∧ (∀ x3 : Int64, x3 = lN A - lN A / lN (10 ^ D) * lN (10 ^ D) → (((x3 ≤ 0 → (∃ n52 : Nat, wX_writeNumber_52 Q (nI D) (lN (10 ^ D)) n52 x3 0 x_length x_nodeCount x_bound x_fault x_faultPlace x_mode x_at x_tokenStart x_textCount x_escaped x_valueSlot x_valueName x_depth x_outputLength x_text x_typeKind x_typeDetail x_typeLeast x_typeMost x_fieldCount x_fieldName x_fieldType x_fieldNeeded x_tagType x_nodeKind x_nodeValue x_nodeParent x_nodeName x_nodeSlot x_nodeStart x_nodeTag x_completeCount x_openNode x_openSlot x_openNames x_openNext x_openComma x_output)) ∧ (¬ x3 ≤ 0 → (wpX_write (fun u => match u with | (x_length, x_nodeCount, x_bound, x_fault, x_faultPlace, x_mode, x_at, x_tokenStart, x_textCount, x_escaped, x_valueSlot, x_valueName, x_depth, x_outputLength, x_text, x_typeKind, x_typeDetail, x_typeLeast, x_typeMost, x_fieldCount, x_fieldName, x_fieldType, x_fieldNeeded, x_tagType, x_nodeKind, x_nodeValue, x_nodeParent, x_nodeName, x_nodeSlot, x_nodeStart, x_nodeTag, x_completeCount, x_openNode, x_openSlot, x_openNames, x_openNext, x_openComma, x_output) => (∃ n52 : Nat, wX_writeNumber_52 Q (nI D) (lN (10 ^ D)) n52 x3 0 x_length x_nodeCount x_bound x_fault x_faultPlace x_mode x_at x_tokenStart x_textCount x_escaped x_valueSlot x_valueName x_depth x_outputLength x_text x_typeKind x_typeDetail x_typeLeast x_typeMost x_fieldCount x_fieldName x_fieldType x_fieldNeeded x_tagType x_nodeKind x_nodeValue x_nodeParent x_nodeName x_nodeSlot x_nodeStart x_nodeTag x_completeCount x_openNode x_openSlot x_openNames x_openNext x_openComma x_output)) (x_length, x_nodeCount, x_bound, x_fault, x_faultPlace, x_mode, x_at, x_tokenStart, x_textCount, x_escaped, x_valueSlot, x_valueName, x_depth, x_outputLength, x_text, x_typeKind, x_typeDetail, x_typeLeast, x_typeMost, x_fieldCount, x_fieldName, x_fieldType, x_fieldNeeded, x_tagType, x_nodeKind, x_nodeValue, x_nodeParent, x_nodeName, x_nodeSlot, x_nodeStart, x_nodeTag, x_completeCount, x_openNode, x_openSlot, x_openNames, x_openNext, x_openComma, x_output) 18))))))) (x_length := x_length) (x_nodeCount := x_nodeCount) (x_bound := x_bound) (x_fault := x_fault) (x_faultPlace := x_faultPlace) (x_mode := x_mode) (x_at := x_at) (x_tokenStart := x_tokenStart) (x_textCount := x_textCount) (x_escaped := x_escaped) (x_valueSlot := x_valueSlot) (x_valueName := x_valueName) (x_depth := x_depth) (x_text := x_text) (x_typeKind := x_typeKind) (x_typeDetail := x_typeDetail) (x_typeLeast := x_typeLeast) (x_typeMost := x_typeMost) (x_fieldCount := x_fieldCount) (x_fieldName := x_fieldName) (x_fieldType := x_fieldType) (x_fieldNeeded := x_fieldNeeded) (x_tagType := x_tagType) (x_nodeKind := x_nodeKind) (x_nodeValue := x_nodeValue) (x_nodeParent := x_nodeParent) (x_nodeName := x_nodeName) (x_nodeSlot := x_nodeSlot) (x_nodeStart := x_nodeStart) (x_nodeTag := x_nodeTag) (x_completeCount := x_completeCount) (x_openNode := x_openNode) (x_openSlot := x_openSlot) (x_openNames := x_openNames) (x_openNext := x_openNext) (x_openComma := x_openComma) (w := b / 10 ^ h) wl
  have eJ : J' = J := pn_uni hL' hL
  subst eJ
  rw [pk_lDiv (by omega) p0 p1, dv] at hW
  refine hW m o (by omega) ⟨lN_ne0 p0 p1, nm_r (e' := lN (b % 10 ^ h * 10 ^ (D - h))) ?_ ?_⟩
  · have := pk_lRem (a := A) (by omega) p0 p1
    rw [pk_lDiv (by omega) p0 p1, dv, md] at this
    exact this
  have lst : nm_L false b h J' = pn_dl (b / 10 ^ h) J' ++ (if 0 < h then 18 :: pn_dl b (h - 1) else []) := rfl
  rw [lst, List.length_append, pn_dl_len, ow_app, pn_dl_len] at hq
  rcases Nat.eq_zero_or_pos h with z | z
  · subst z
    rw [if_neg (Nat.lt_irrefl 0)] at hq
    refine br_t ?_ (wf_dig hD 0 0 _ _ (by omega) (by omega) (fun y => absurd y (by omega)) hq)
    rw [Nat.pow_zero, Nat.mod_one, Nat.zero_mul]; decide
  · rw [if_pos z, List.length_cons, pn_dl_len] at hq
    obtain ⟨h', rfl⟩ : ∃ h', h = h' + 1 := ⟨h - 1, by omega⟩
    have pos : 0 < b % 10 ^ (h' + 1) * 10 ^ (D - (h' + 1)) := Nat.mul_pos (pn_nz (hb z) h') (pn_pos _)
    have lt1 : b % 10 ^ (h' + 1) * 10 ^ (D - (h' + 1)) < 2 ^ 63 := by
      rw [← md]; exact Nat.lt_trans (Nat.mod_lt _ p0) p1
    refine br_f ?_ (wr_x (by omega) (wf_dig hD (h' + 1) 0 _ _ (by omega) (by omega) (fun _ => hb z) ?_))
    · rw [show (0 : Int64) = lN 0 from rfl, pk_lLE lt1 (by decide)]; omega
    · rw [pn_fl_dl]
      rw [show m + (J' + 1) + 1 + (h' + 1) = m + (J' + 1 + (h' + 1 - 1 + 1 + 1)) from by omega]
      exact hq
end
