/-! the reckoning of a number: both rows of digits -/
section
variable {y_length y_parts y_bad y_nodes y_fault y_place y_bound y_depth y_nextName y_wantsName y_wantsTag y_printed y_waiting y_scaled : Int32} {y_sort y_typeA y_typeB y_typeC y_fieldName y_fieldType y_fields y_tags y_needed y_begin y_end y_inside y_whole y_kind y_value y_parent y_name y_slotOf y_placeOf y_complete y_openNode y_openType y_openCount y_openNames y_openChoice y_output y_todo : Nat → Int32} {t : Nat → Int32} {b a e Q : Nat} {postY : Int32 → SY → Prop} {x8 : Int32} {Z : Int}
theorem yu_s9 (hP : nu_P t b a e Q) {v : Int64} {f : Int32} {j n : Nat} (hj : j < e) (h9 : ¬ t j ≤ 9) (h : wY_units_228 postY x8 (nI e) (ii_I Z) y_length y_parts y_bad y_nodes y_fault y_place y_bound y_depth y_nextName y_wantsName y_wantsTag y_printed y_waiting y_scaled y_sort y_typeA y_typeB y_typeC y_fieldName y_fieldType y_fields y_tags y_needed t y_begin y_end y_inside y_whole y_kind y_value y_parent y_name y_slotOf y_placeOf y_complete y_openNode y_openType y_openCount y_openNames y_openChoice y_output y_todo n v f (nI (j + 1))) : wY_units_228 postY x8 (nI e) (ii_I Z) y_length y_parts y_bad y_nodes y_fault y_place y_bound y_depth y_nextName y_wantsName y_wantsTag y_printed y_waiting y_scaled y_sort y_typeA y_typeB y_typeC y_fieldName y_fieldType y_fields y_tags y_needed t y_begin y_end y_inside y_whole y_kind y_value y_parent y_name y_slotOf y_placeOf y_complete y_openNode y_openType y_openCount y_openNames y_openChoice y_output y_todo (n + 1) v f (nI j) := by
  have he := hP.2.2.1
  have hQ := hP.2.2.2.1
  refine br_f (nI_ge hj (by omega)) ⟨vp_in_nI (by omega) (by decide), ?_⟩
  rw [nI_clamp (by omega)]
  exact br_f h9 (nm_r (nI_1 j) h)
theorem yu_s (hP : nu_P t b a e Q) (hC : tt_C t) {v : Int64} {f : Int32} {j n c : Nat} {W : Int} (hf : f = 0 ∨ f = 1) (hb : b ≤ j) (hj : j < e) (hc : c ≤ 9) (ec : t j = nI c) (hZ1 : -100000000 < Z) (hZ2 : Z < 100000000) (hW : W = Z + nu_c a e (j + 1))
    (h0 : c = 0 → wY_units_228 postY x8 (nI e) (ii_I Z) y_length y_parts y_bad y_nodes y_fault y_place y_bound y_depth y_nextName y_wantsName y_wantsTag y_printed y_waiting y_scaled y_sort y_typeA y_typeB y_typeC y_fieldName y_fieldType y_fields y_tags y_needed t y_begin y_end y_inside y_whole y_kind y_value y_parent y_name y_slotOf y_placeOf y_complete y_openNode y_openType y_openCount y_openNames y_openChoice y_output y_todo n v f (nI (j + 1))) (h1 : 0 < c → W < 0 → wY_units_228 postY x8 (nI e) (ii_I Z) y_length y_parts y_bad y_nodes y_fault y_place y_bound y_depth y_nextName y_wantsName y_wantsTag y_printed y_waiting y_scaled y_sort y_typeA y_typeB y_typeC y_fieldName y_fieldType y_fields y_tags y_needed t y_begin y_end y_inside y_whole y_kind y_value y_parent y_name y_slotOf y_placeOf y_complete y_openNode y_openType y_openCount y_openNames y_openChoice y_output y_todo n v 0 (nI (j + 1))) (h2 : 0 < c → 0 ≤ W → W ≤ 10 → wY_units_228 postY x8 (nI e) (ii_I Z) y_length y_parts y_bad y_nodes y_fault y_place y_bound y_depth y_nextName y_wantsName y_wantsTag y_printed y_waiting y_scaled y_sort y_typeA y_typeB y_typeC y_fieldName y_fieldType y_fields y_tags y_needed t y_begin y_end y_inside y_whole y_kind y_value y_parent y_name y_slotOf y_placeOf y_complete y_openNode y_openType y_openCount y_openNames y_openChoice y_output y_todo n (v + lN (c * 10 ^ W.toNat)) f (nI (j + 1))) (h3 : 0 < c → 11 ≤ W → wY_units_228 postY x8 (nI e) (ii_I Z) y_length y_parts y_bad y_nodes y_fault y_place y_bound y_depth y_nextName y_wantsName y_wantsTag y_printed y_waiting y_scaled y_sort y_typeA y_typeB y_typeC y_fieldName y_fieldType y_fields y_tags y_needed t y_begin y_end y_inside y_whole y_kind y_value y_parent y_name y_slotOf y_placeOf y_complete y_openNode y_openType y_openCount y_openNames y_openChoice y_output y_todo n (v + lN c) 0 (nI (j + 1))) : wY_units_228 postY x8 (nI e) (ii_I Z) y_length y_parts y_bad y_nodes y_fault y_place y_bound y_depth y_nextName y_wantsName y_wantsTag y_printed y_waiting y_scaled y_sort y_typeA y_typeB y_typeC y_fieldName y_fieldType y_fields y_tags y_needed t y_begin y_end y_inside y_whole y_kind y_value y_parent y_name y_slotOf y_placeOf y_complete y_openNode y_openType y_openCount y_openNames y_openChoice y_output y_todo (n + 1) v f (nI j) := by
  have he := hP.2.2.1
  have hQ := hP.2.2.2.1
  have hc2 : -1000 < nu_c a e (j + 1) ∧ nu_c a e (j + 1) < 1000 := by
    unfold nu_c
    by_cases q : j + 1 ≤ a ∧ a < e
    · rw [if_pos q]; omega
    · rw [if_neg q]; omega
  have le9 : t j ≤ 9 := by rw [ec]; exact nI_le (b := 9) hc (by decide)
  refine br_f (nI_ge hj (by omega)) ⟨vp_in_nI (by omega) (by decide), ?_⟩
  rw [nI_clamp (by omega)]
  refine br_t le9 (nm_r (nI_1 j) ?_)
  refine yu_cnt (y_length := y_length) (y_parts := y_parts) (y_bad := y_bad) (y_nodes := y_nodes) (y_fault := y_fault) (y_place := y_place) (y_bound := y_bound) (y_depth := y_depth) (y_nextName := y_nextName) (y_wantsName := y_wantsName) (y_wantsTag := y_wantsTag) (y_printed := y_printed) (y_waiting := y_waiting) (y_scaled := y_scaled) (y_sort := y_sort) (y_typeA := y_typeA) (y_typeB := y_typeB) (y_typeC := y_typeC) (y_fieldName := y_fieldName) (y_fieldType := y_fieldType) (y_fields := y_fields) (y_tags := y_tags) (y_needed := y_needed) (y_begin := y_begin) (y_end := y_end) (y_inside := y_inside) (y_whole := y_whole) (y_kind := y_kind) (y_value := y_value) (y_parent := y_parent) (y_name := y_name) (y_slotOf := y_slotOf) (y_placeOf := y_placeOf) (y_complete := y_complete) (y_openNode := y_openNode) (y_openType := y_openType) (y_openCount := y_openCount) (y_openNames := y_openNames) (y_openChoice := y_openChoice) (y_output := y_output) (y_todo := y_todo) (postY := postY) (x8 := x8) (Z := Z) hP hC (e - (j + 1)) (j + 1) Z (by omega) (by omega) ?_
  rw [← hW]
  exact yu_dig (y_length := y_length) (y_parts := y_parts) (y_bad := y_bad) (y_nodes := y_nodes) (y_fault := y_fault) (y_place := y_place) (y_bound := y_bound) (y_depth := y_depth) (y_nextName := y_nextName) (y_wantsName := y_wantsName) (y_wantsTag := y_wantsTag) (y_printed := y_printed) (y_waiting := y_waiting) (y_scaled := y_scaled) (y_sort := y_sort) (y_typeA := y_typeA) (y_typeB := y_typeB) (y_typeC := y_typeC) (y_fieldName := y_fieldName) (y_fieldType := y_fieldType) (y_fields := y_fields) (y_tags := y_tags) (y_needed := y_needed) (y_begin := y_begin) (y_end := y_end) (y_inside := y_inside) (y_whole := y_whole) (y_kind := y_kind) (y_value := y_value) (y_parent := y_parent) (y_name := y_name) (y_slotOf := y_slotOf) (y_placeOf := y_placeOf) (y_complete := y_complete) (y_openNode := y_openNode) (y_openType := y_openType) (y_openCount := y_openCount) (y_openNames := y_openNames) (y_openChoice := y_openChoice) (y_output := y_output) (y_todo := y_todo) (postY := postY) (x8 := x8) (Z := Z) hP hf (by omega) hc ec (by omega) (by omega) h0 h1 h2 h3
end
theorem lT_neg {V : Nat} (h : V < 2 ^ 62) : (-lN V).toInt = -(V : Int) := by
  rw [Int64.toInt_neg, pk_lT (by omega)]
  exact Int.bmod_eq_of_le (by omega) (by omega)
theorem lT_big {z : Int64} (h : z.toInt < -2147483648 ∨ 2147483647 < z.toInt) : ¬ z = z.toInt32.toInt64 := by
  intro e
  have e2 := congrArg Int64.toInt e
  rw [Int32.toInt_toInt64] at e2
  have a := Int32.le_toInt z.toInt32
  have b := Int32.toInt_lt z.toInt32
  omega
/-- once a digit has spoilt it, the reference says no -/
theorem yu_bad {t : Nat → Int32} {b a e Q : Nat} (hP : nu_P t b a e Q) (hC : tt_C t) {x8 : Int32} {Z : Int} (hZ1 : -100000000 < Z) (hZ2 : Z < 100000000) : ∀ (m j : Nat) (v : Int64) (f : Int32), j + m = e → b ≤ j → (f = 0 ∨ f = 1 ∧ ∃ V, v = lN V ∧ 10000000000 ≤ V ∧ V ≤ 1000000000000 * (j + 1)) →
    ∃ sc : Int32, ∀ {y_length y_parts y_bad y_nodes y_fault y_place y_bound y_depth y_nextName y_wantsName y_wantsTag y_printed y_waiting y_scaled : Int32} {y_sort y_typeA y_typeB y_typeC y_fieldName y_fieldType y_fields y_tags y_needed y_begin y_end y_inside y_whole y_kind y_value y_parent y_name y_slotOf y_placeOf y_complete y_openNode y_openType y_openCount y_openNames y_openChoice y_output y_todo : Nat → Int32} (postY : Int32 → SY → Prop), postY 0 (y_length, y_parts, y_bad, y_nodes, y_fault, y_place, y_bound, y_depth, y_nextName, y_wantsName, y_wantsTag, y_printed, y_waiting, sc, y_sort, y_typeA, y_typeB, y_typeC, y_fieldName, y_fieldType, y_fields, y_tags, y_needed, t, y_begin, y_end, y_inside, y_whole, y_kind, y_value, y_parent, y_name, y_slotOf, y_placeOf, y_complete, y_openNode, y_openType, y_openCount, y_openNames, y_openChoice, y_output, y_todo) → ∃ n, wY_units_228 postY x8 (nI e) (ii_I Z) y_length y_parts y_bad y_nodes y_fault y_place y_bound y_depth y_nextName y_wantsName y_wantsTag y_printed y_waiting y_scaled y_sort y_typeA y_typeB y_typeC y_fieldName y_fieldType y_fields y_tags y_needed t y_begin y_end y_inside y_whole y_kind y_value y_parent y_name y_slotOf y_placeOf y_complete y_openNode y_openType y_openCount y_openNames y_openChoice y_output y_todo n v f (nI j) := by
  have he := hP.2.2.1
  have hQ := hP.2.2.2.1
  intro m
  induction m with
  | zero =>
    intro j v f h1 h2 hf
    have : j = e := by omega
    subst this
    by_cases z8 : x8 = 0
    · refine ⟨v.toInt32, fun postY hp => ⟨1, br_t (nI_le (Nat.le_refl _) (by omega)) (br_t z8 ?_)⟩⟩
      rcases hf with rfl | ⟨rfl, V, rfl, h3, h4⟩
      · exact br_t rfl hp
      · exact br_f (by decide) (br_f (lT_big (Or.inr (by rw [pk_lT (by omega)]; omega))) hp)
    · refine ⟨(-v).toInt32, fun postY hp => ⟨1, br_t (nI_le (Nat.le_refl _) (by omega)) (br_f z8 ?_)⟩⟩
      rcases hf with rfl | ⟨rfl, V, rfl, h3, h4⟩
      · exact br_t rfl hp
      · exact br_f (by decide) (br_f (lT_big (Or.inl (by rw [lT_neg (by omega)]; omega))) hp)
  | succ m ih =>
    intro j v f h1 h2 hf
    have hf' : f = 0 ∨ f = 1 := by rcases hf with h | h; exact Or.inl h; exact Or.inr h.1
    have keep : f = 0 ∨ f = 1 ∧ ∃ V, v = lN V ∧ 10000000000 ≤ V ∧ V ≤ 1000000000000 * (j + 1 + 1) := by
      rcases hf with h | ⟨h, V, x, y, z⟩
      · exact Or.inl h
      · exact Or.inr ⟨h, V, x, y, by omega⟩
    obtain ⟨c, hc, ec⟩ := hC j
    by_cases c9 : c ≤ 9
    case neg =>
      obtain ⟨sc, h⟩ := ih (j + 1) v f (by omega) (by omega) keep
      refine ⟨sc, fun postY hp => ?_⟩
      obtain ⟨n, hn⟩ := h postY hp
      refine ⟨n + 1, yu_s9 hP (by omega) ?_ hn⟩
      rw [ec]; exact nI_ge (a := 9) (by omega) (by omega)
    by_cases c0 : c = 0
    · obtain ⟨sc, h⟩ := ih (j + 1) v f (by omega) (by omega) keep
      refine ⟨sc, fun postY hp => ?_⟩
      obtain ⟨n, hn⟩ := h postY hp
      exact ⟨n + 1, yu_s hP hC hf' h2 (by omega) c9 ec hZ1 hZ2 rfl (fun _ => hn) (fun w => absurd c0 (by omega)) (fun w => absurd c0 (by omega)) (fun w => absurd c0 (by omega))⟩
    by_cases w0 : Z + nu_c a e (j + 1) < 0
    · obtain ⟨sc, h⟩ := ih (j + 1) v 0 (by omega) (by omega) (Or.inl rfl)
      refine ⟨sc, fun postY hp => ?_⟩
      obtain ⟨n, hn⟩ := h postY hp
      exact ⟨n + 1, yu_s hP hC hf' h2 (by omega) c9 ec hZ1 hZ2 rfl (fun w => absurd w c0) (fun _ _ => hn) (fun _ w => absurd w0 (by omega)) (fun _ w => absurd w0 (by omega))⟩
    by_cases w11 : 11 ≤ Z + nu_c a e (j + 1)
    · obtain ⟨sc, h⟩ := ih (j + 1) (v + lN c) 0 (by omega) (by omega) (Or.inl rfl)
      refine ⟨sc, fun postY hp => ?_⟩
      obtain ⟨n, hn⟩ := h postY hp
      exact ⟨n + 1, yu_s hP hC hf' h2 (by omega) c9 ec hZ1 hZ2 rfl (fun w => absurd w c0) (fun _ w => absurd w w0) (fun _ _ w => absurd w11 (by omega)) (fun _ _ => hn)⟩
    · generalize hW : Z + nu_c a e (j + 1) = W at w0 w11
      have pw : 10 ^ W.toNat ≤ 10 ^ 10 := Nat.pow_le_pow_right (by decide) (by omega)
      have pw2 : c * 10 ^ W.toNat ≤ 9 * 10 ^ 10 := Nat.mul_le_mul c9 pw
      obtain ⟨sc, h⟩ := ih (j + 1) (v + lN (c * 10 ^ W.toNat)) f (by omega) (by omega) (by
        rcases hf with h | ⟨h, V, x, y, z⟩
        · exact Or.inl h
        · refine Or.inr ⟨h, V + c * 10 ^ W.toNat, by rw [x, lN_add], by omega, by omega⟩)
      refine ⟨sc, fun postY hp => ?_⟩
      obtain ⟨n, hn⟩ := h postY hp
      exact ⟨n + 1, yu_s hP hC hf' h2 (by omega) c9 ec hZ1 hZ2 hW.symm (fun w => absurd w c0) (fun _ w => absurd w w0) (fun _ _ _ => hn) (fun _ w => absurd w w11)⟩
section
variable {x_length x_nodeCount x_bound x_fault x_faultPlace x_mode x_at x_textCount x_escaped x_valueSlot x_valueName x_depth x_outputLength : Int32} {x_typeKind x_typeDetail x_typeLeast x_typeMost x_fieldCount x_fieldName x_fieldType x_fieldNeeded x_tagType x_nodeKind x_nodeValue x_nodeParent x_nodeName x_nodeSlot x_nodeStart x_nodeTag x_completeCount x_openNode x_openSlot x_openNames x_openNext x_openComma x_output : Nat → Int32} {t : Nat → Int32} {b a e Q : Nat} {postX : Int64 → Prop} {sx : Int}
/-- the weight of the digit at j -/
def nu_w (a j : Nat) : Int := if a ≤ j then (a : Int) - j else (a : Int) - j - 1
theorem xu_s0 (hP : nu_P t b a e Q) {v : Int64} {j n c : Nat} (hj : j < e) (hc : c < 32) (ec : t j = nI c) (h9 : c = 0 ∨ 9 < c) (h : wX_readUnits_39 postX (nI e) (nI a) (ii_I sx) x_length x_nodeCount x_bound x_fault x_faultPlace x_mode x_at (nI b) x_textCount x_escaped x_valueSlot x_valueName x_depth x_outputLength t x_typeKind x_typeDetail x_typeLeast x_typeMost x_fieldCount x_fieldName x_fieldType x_fieldNeeded x_tagType x_nodeKind x_nodeValue x_nodeParent x_nodeName x_nodeSlot x_nodeStart x_nodeTag x_completeCount x_openNode x_openSlot x_openNames x_openNext x_openComma x_output n v (nI (j + 1))) : wX_readUnits_39 postX (nI e) (nI a) (ii_I sx) x_length x_nodeCount x_bound x_fault x_faultPlace x_mode x_at (nI b) x_textCount x_escaped x_valueSlot x_valueName x_depth x_outputLength t x_typeKind x_typeDetail x_typeLeast x_typeMost x_fieldCount x_fieldName x_fieldType x_fieldNeeded x_tagType x_nodeKind x_nodeValue x_nodeParent x_nodeName x_nodeSlot x_nodeStart x_nodeTag x_completeCount x_openNode x_openSlot x_openNames x_openNext x_openComma x_output (n + 1) v (nI j) := by
  have he := hP.2.2.1
  have hQ := hP.2.2.2.1
  refine br_f (nI_ge hj (by omega)) ⟨vp_in_nI (by omega) (by decide), ?_⟩
  rw [nI_clamp (by omega)]
  refine nm_r ec ?_
  by_cases c0 : c = 0
  · subst c0
    exact br_t (by decide) (nm_r (nI_1 j) h)
  · exact br_f (nI_nlt (b := 1) (by omega) (by omega)) (br_t (nI_lt (a := 9) (by omega) (by omega)) (nm_r (nI_1 j) h))
theorem xu_s1 (hP : nu_P t b a e Q) {v : Int64} {j n c : Nat} (hb : b ≤ j) (hj : j < e) (hc0 : 0 < c) (hc : c ≤ 9) (ec : t j = nI c) (hs1 : -100000000 < sx) (hs2 : sx < 100000000)
    (h1 : nu_w a j + sx < 0 ∨ 9 < nu_w a j + sx → postX 1099511627776) (h2 : 0 ≤ nu_w a j + sx → nu_w a j + sx ≤ 9 → wX_readUnits_39 postX (nI e) (nI a) (ii_I sx) x_length x_nodeCount x_bound x_fault x_faultPlace x_mode x_at (nI b) x_textCount x_escaped x_valueSlot x_valueName x_depth x_outputLength t x_typeKind x_typeDetail x_typeLeast x_typeMost x_fieldCount x_fieldName x_fieldType x_fieldNeeded x_tagType x_nodeKind x_nodeValue x_nodeParent x_nodeName x_nodeSlot x_nodeStart x_nodeTag x_completeCount x_openNode x_openSlot x_openNames x_openNext x_openComma x_output n (v + lN (c * 10 ^ (nu_w a j + sx).toNat)) (nI (j + 1))) : wX_readUnits_39 postX (nI e) (nI a) (ii_I sx) x_length x_nodeCount x_bound x_fault x_faultPlace x_mode x_at (nI b) x_textCount x_escaped x_valueSlot x_valueName x_depth x_outputLength t x_typeKind x_typeDetail x_typeLeast x_typeMost x_fieldCount x_fieldName x_fieldType x_fieldNeeded x_tagType x_nodeKind x_nodeValue x_nodeParent x_nodeName x_nodeSlot x_nodeStart x_nodeTag x_completeCount x_openNode x_openSlot x_openNames x_openNext x_openComma x_output (n + 1) v (nI j) := by
  have ha := hP.2.1
  have he := hP.2.2.1
  have hQ := hP.2.2.2.1
  have key : ∀ W : Int, -200000000 < W → W < 200000000 → (W < 0 ∨ 9 < W → postX 1099511627776) → (0 ≤ W → W ≤ 9 → wX_readUnits_39 postX (nI e) (nI a) (ii_I sx) x_length x_nodeCount x_bound x_fault x_faultPlace x_mode x_at (nI b) x_textCount x_escaped x_valueSlot x_valueName x_depth x_outputLength t x_typeKind x_typeDetail x_typeLeast x_typeMost x_fieldCount x_fieldName x_fieldType x_fieldNeeded x_tagType x_nodeKind x_nodeValue x_nodeParent x_nodeName x_nodeSlot x_nodeStart x_nodeTag x_completeCount x_openNode x_openSlot x_openNames x_openNext x_openComma x_output n (v + lN (c * 10 ^ W.toNat)) (nI (j + 1))) → wX_readUnits_92 postX (wX_readUnits_39 postX (nI e) (nI a) (ii_I sx) x_length x_nodeCount x_bound x_fault x_faultPlace x_mode x_at (nI b) x_textCount x_escaped x_valueSlot x_valueName x_depth x_outputLength t x_typeKind x_typeDetail x_typeLeast x_typeMost x_fieldCount x_fieldName x_fieldType x_fieldNeeded x_tagType x_nodeKind x_nodeValue x_nodeParent x_nodeName x_nodeSlot x_nodeStart x_nodeTag x_completeCount x_openNode x_openSlot x_openNames x_openNext x_openComma x_output n) (nI e) (nI a) (ii_I sx) v (nI j) (nI c) (ii_I W) x_length x_nodeCount x_bound x_fault x_faultPlace x_mode x_at (nI b) x_textCount x_escaped x_valueSlot x_valueName x_depth x_outputLength t x_typeKind x_typeDetail x_typeLeast x_typeMost x_fieldCount x_fieldName x_fieldType x_fieldNeeded x_tagType x_nodeKind x_nodeValue x_nodeParent x_nodeName x_nodeSlot x_nodeStart x_nodeTag x_completeCount x_openNode x_openSlot x_openNames x_openNext x_openComma x_output := by
    intro W b1 b2 g1 g2
    have n0 : (ii_I W < 0) ↔ W < 0 := by rw [show (0 : Int32) = ii_I 0 from rfl, ii_lt (by omega) (by omega) (by omega) (by omega)]
    have n9 : (ii_I W ≤ 9) ↔ W ≤ 9 := by rw [show (9 : Int32) = ii_I 9 from rfl, ii_le (by omega) (by omega) (by omega) (by omega)]
    unfold wX_readUnits_92
    rw [n0, n9]
    by_cases w0 : W < 0
    · exact br_t w0 (g1 (Or.inl w0))
    · refine br_f w0 ?_
      by_cases w9 : W ≤ 9
      · obtain ⟨k, rfl⟩ : ∃ k : Nat, W = k := ⟨W.toNat, by omega⟩
        refine br_t w9 ?_
        rw [ii_nat]
        refine xu_pow (by omega) (nm_r ?_ (nm_r (nI_1 j) (g2 (by omega) w9)))
        rw [nI_l (by omega), lN_mul, Int.toNat_natCast]
      · exact br_f w9 (g1 (Or.inr (by omega)))
  have bw : -1000 < nu_w a j ∧ nu_w a j < 1000 := by
    unfold nu_w
    by_cases q : a ≤ j
    · rw [if_pos q]; omega
    · rw [if_neg q]; omega
  refine br_f (nI_ge hj (by omega)) ⟨vp_in_nI (by omega) (by decide), ?_⟩
  rw [nI_clamp (by omega)]
  refine nm_r ec (br_f (nI_nlt (b := 1) (by omega) (by omega)) (br_f (nI_nlt (a := 9) (by omega) (by omega)) ?_))
  have K := key (nu_w a j + sx) (by omega) (by omega) h1 h2
  by_cases q : a ≤ j
  · refine br_t (nI_le q (by omega)) ?_
    rw [show nI a - nI j + ii_I sx = ii_I (nu_w a j + sx) from by rw [ii_n, ii_n, ii_sub, ii_add]; unfold nu_w; rw [if_pos q]]
    exact K
  · refine br_f (nI_ge (by omega) (by omega)) ?_
    rw [show nI a - nI j - 1 + ii_I sx = ii_I (nu_w a j + sx) from by
      rw [ii_n, ii_n, show (1 : Int32) = ii_I 1 from rfl, ii_sub, ii_sub, ii_add]; unfold nu_w; rw [if_neg q]]
    exact K
end
