/-! bind -/
def zz_F (f : Nat → Int32) (i e : Nat) : Nat → Int32 := fun j => if i ≤ j ∧ j < e then 0 else f j
theorem zz_0 (f : Nat → Int32) (i : Nat) : zz_F f i i = f := by
  funext j; unfold zz_F; rw [if_neg (by omega)]
theorem zz_1 (f : Nat → Int32) {i e : Nat} (h : i < e) : zz_F (upd f i 0) (i + 1) e = zz_F f i e := by
  funext j; unfold zz_F upd
  by_cases a : j = i
  · rw [if_neg (by omega), if_pos a, if_pos (by omega)]
  · rw [if_neg a]
    by_cases b : i ≤ j ∧ j < e
    · rw [if_pos (by omega), if_pos b]
    · rw [if_neg (by omega), if_neg b]
theorem zz_in {f : Nat → Int32} {j : Nat} (h : j < 12) : zz_F f 0 12 j = 0 := if_pos ⟨by omega, h⟩
section
variable {x_length x_nodeCount x_bound x_fault x_faultPlace x_mode x_at x_tokenStart x_textCount x_escaped x_valueSlot x_valueName x_depth x_outputLength : Int32} {x_text x_typeKind x_typeDetail x_typeLeast x_typeMost x_fieldCount x_fieldName x_fieldType x_fieldNeeded x_tagType x_nodeKind x_nodeValue x_nodeParent x_nodeName x_nodeSlot x_nodeStart x_nodeTag x_openNode x_openSlot x_openNames x_openNext x_openComma x_output : Nat → Int32}
theorem sb_loop {post : SX → Prop} : ∀ (m i : Nat) (f : Nat → Int32), i + m = 12 → post (x_length, x_nodeCount, x_bound, x_fault, x_faultPlace, x_mode, x_at, x_tokenStart, x_textCount, x_escaped, x_valueSlot, x_valueName, x_depth, x_outputLength, x_text, x_typeKind, x_typeDetail, x_typeLeast, x_typeMost, x_fieldCount, x_fieldName, x_fieldType, x_fieldNeeded, x_tagType, x_nodeKind, x_nodeValue, x_nodeParent, x_nodeName, x_nodeSlot, x_nodeStart, x_nodeTag, zz_F f i 12, x_openNode, x_openSlot, x_openNames, x_openNext, x_openComma, x_output) → wX_startBinding_37 post x_length x_nodeCount x_bound x_fault x_faultPlace x_mode x_at x_tokenStart x_textCount x_escaped x_valueSlot x_valueName x_depth x_outputLength (m + 1) (nI i) x_text x_typeKind x_typeDetail x_typeLeast x_typeMost x_fieldCount x_fieldName x_fieldType x_fieldNeeded x_tagType x_nodeKind x_nodeValue x_nodeParent x_nodeName x_nodeSlot x_nodeStart x_nodeTag f x_openNode x_openSlot x_openNames x_openNext x_openComma x_output := by
  intro m
  induction m with
  | zero =>
    intro i f hi h
    have hi' : i = 12 := by omega
    subst hi'
    rw [zz_0] at h
    exact br_t (by decide) h
  | succ m ih =>
    intro i f hi h
    refine br_f (nI_ge (b := 12) (by omega) (by decide)) ⟨vp_in_nI (by omega) (by decide), nm_e (nm_r (nI_1 i) ?_)⟩
    rw [nI_clamp (by omega)]
    refine ih (i + 1) _ (by omega) ?_
    rw [zz_1 f (by omega)]; exact h
end
section
variable {y_length y_parts y_bad y_nodes y_fault y_place y_bound y_depth y_nextName y_wantsName y_wantsTag y_printed y_waiting y_scaled : Int32} {y_sort y_typeA y_typeB y_typeC y_fieldName y_fieldType y_fields y_tags y_needed y_text y_begin y_end y_inside y_whole y_kind y_value y_parent y_name y_slotOf y_placeOf y_openNode y_openType y_openCount y_openNames y_openChoice y_output y_todo : Nat → Int32}
theorem yb_loop {post : Int32 → SY → Prop} {slot : Int32} : ∀ (m i : Nat) (f : Nat → Int32), i + m = 12 → (∃ n, wY_bind_73 post slot n (nI 0) y_length y_parts y_bad y_nodes y_fault y_place y_bound y_depth y_nextName y_wantsName y_wantsTag y_printed y_waiting y_scaled y_sort y_typeA y_typeB y_typeC y_fieldName y_fieldType y_fields y_tags y_needed y_text y_begin y_end y_inside y_whole y_kind y_value y_parent y_name y_slotOf y_placeOf (zz_F f i 12) y_openNode y_openType y_openCount y_openNames y_openChoice y_output y_todo) → wY_bind_52 post slot y_length y_parts y_bad y_nodes y_fault y_place y_bound y_depth y_nextName y_wantsName y_wantsTag y_printed y_waiting y_scaled (m + 1) (nI i) y_sort y_typeA y_typeB y_typeC y_fieldName y_fieldType y_fields y_tags y_needed y_text y_begin y_end y_inside y_whole y_kind y_value y_parent y_name y_slotOf y_placeOf f y_openNode y_openType y_openCount y_openNames y_openChoice y_output y_todo := by
  intro m
  induction m with
  | zero =>
    intro i f hi h
    have hi' : i = 12 := by omega
    subst hi'
    rw [zz_0] at h
    exact br_t (by decide) h
  | succ m ih =>
    intro i f hi h
    refine br_f (nI_ge (b := 12) (by omega) (by decide)) ⟨vp_in_nI (by omega) (by decide), nm_e (nm_r (nI_1 i) ?_)⟩
    rw [nI_clamp (by omega)]
    refine ih (i + 1) _ (by omega) ?_
    rw [zz_1 f (by omega)]; exact h
end
theorem i_vc_bind {k : Nat} {u : SX} {v : SY} (I : i_Rel k u v) (hk : k + 6 ≤ 3072) (v1 : Int32) : wpX_bind (fun r u' => wpY_bind (fun r' v' => r' = r ∧ i_Rel (k + 6) u' v') v v1) u v1 := by
  obtain ⟨x_nodeCount, x_bound, x_fault, x_faultPlace, x_mode, x_at, x_tokenStart, x_textCount, x_escaped, x_valueSlot, x_valueName, x_depth, x_outputLength, x_text, x_typeKind, x_typeDetail, x_typeLeast, x_typeMost, x_fieldCount, x_fieldName, x_fieldType, x_fieldNeeded, x_tagType, x_nodeKind, x_nodeValue, x_nodeParent, x_nodeName, x_nodeSlot, x_nodeStart, x_nodeTag, x_completeCount, x_openNode, x_openSlot, x_openNames, x_openNext, x_openComma, x_output, y_parts, y_bad, y_nodes, y_fault, y_depth, y_nextName, y_wantsName, y_wantsTag, y_waiting, y_scaled, y_typeA, y_typeB, y_typeC, y_fields, y_tags, y_begin, y_end, y_inside, y_whole, y_kind, y_value, y_parent, y_name, y_slotOf, y_placeOf, y_complete, y_openNode, y_openType, y_openCount, y_openNames, y_openChoice, y_todo, L, rfl, rfl, hT, hB⟩ := I
  have hL := hT.1
  unfold wpX_bind
  dsimp only
  refine ⟨12 + 1, sb_loop 12 0 x_completeCount rfl ?_⟩
  dsimp only
  rcases hh_sl v1 with h | ⟨a, ha, rfl⟩
  · have f2 : ¬ (2 : Int32) = 0 := by decide
    refine xs_0 h (br_t rfl (bx_F (p := 0) f2 ?_))
    unfold wpY_bind
    dsimp only
    exact yi_0 11 (by decide) h (br_t rfl (br_t rfl ⟨rfl, rl_mk hT (Or.inl rfl)⟩))
  · refine xs_1 ha (br_f (by decide) ?_)
    -- the reference's parts
    obtain ⟨M, bad, g', bg', en', wh', hM, -, hW, hsplit⟩ := ys_run (y_text := x_text) (y_nodes := y_nodes) (y_fault := 0) (y_place := -1) (y_bound := 0) (y_depth := y_depth) (y_nextName := y_nextName) (y_wantsName := y_wantsName) (y_wantsTag := y_wantsTag) (y_printed := x_outputLength) (y_waiting := y_waiting) (y_scaled := y_scaled) (y_sort := x_typeKind) (y_typeA := y_typeA) (y_typeB := y_typeB) (y_typeC := y_typeC) (y_fieldName := x_fieldName) (y_fieldType := x_fieldType) (y_fields := y_fields) (y_tags := y_tags) (y_needed := x_fieldNeeded) (y_kind := y_kind) (y_value := y_value) (y_parent := y_parent) (y_name := y_name) (y_slotOf := y_slotOf) (y_placeOf := y_placeOf) (y_complete := y_complete) (y_openNode := y_openNode) (y_openType := y_openType) (y_openCount := y_openCount) (y_openNames := y_openNames) (y_openChoice := y_openChoice) (y_output := x_output) (y_todo := y_todo) hL hT.2.1 (L + 1) 0 0 0 0 y_inside y_begin y_end y_whole (by omega) (by omega) (by omega) (by omega) ⟨by omega, fun z => absurd z (by decide), fun z => absurd z (by decide), fun l hl => absurd hl (by omega)⟩
    rw [Nat.zero_add] at hM hsplit
    obtain ⟨r, u', v', hx, hy, hR⟩ := br_main (x_bound := x_bound) (x_outputLength := x_outputLength) (x_openNext := x_openNext) (x_openComma := x_openComma) (x_output := x_output) (y_bad := bad) (y_waiting := y_waiting) (y_begin := bg') (y_end := en') (y_whole := wh') (y_inside := g') (y_todo := y_todo) (P := M) hT (by omega) ⟨a, ha, rfl⟩ M 0 0 0 0 0 y_inside (fun _ => 0) x_at x_tokenStart x_textCount x_escaped (nI a) (-1) x_nodeKind x_nodeValue x_nodeParent x_nodeName x_nodeSlot x_nodeStart x_nodeTag (zz_F x_completeCount 0 12) x_openNode x_openSlot x_openNames y_nextName y_wantsName y_wantsTag y_scaled y_kind y_value y_parent y_name y_slotOf y_placeOf (zz_F y_complete 0 12) y_openNode y_openType y_openCount y_openNames y_openChoice (by omega) (by omega) ⟨by omega, fun z => absurd z (by decide), fun z => absurd z (by decide), fun l hl => absurd hl (by omega)⟩ hW
      ⟨⟨fun i hi => absurd hi (by omega), fun i hi => absurd hi (by omega), fun i hi => absurd hi (by omega), fun i hi => absurd hi (by omega), fun i hi => absurd hi (by omega), fun i hi => absurd hi (by omega)⟩, ⟨by omega, fun i hi => absurd hi (by omega), fun c c' hc => absurd hc (by omega)⟩, by omega, fun l hl => absurd hl (by omega), fun s hs => ⟨by rw [zz_in hs, zz_in hs], ⟨0, by omega, by rw [zz_in hs]; rfl⟩, fun _ => zz_in hs⟩, ⟨fun i hi => absurd hi (by omega), fun i j _ hj => absurd hj (by omega)⟩, Or.inl ⟨rfl, rfl, rfl, rfl, rfl⟩⟩
    refine hx _ ?_
    unfold wpY_bind
    dsimp only
    refine yi_1 11 (by decide) (by omega) (br_f (by decide) ?_)
    refine hsplit _ ?_
    refine ⟨12 + 1, yb_loop 12 0 y_complete rfl ?_⟩
    exact hy _ ⟨rfl, hR⟩
