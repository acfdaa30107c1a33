/-! the types: simple, list, members, field, tag, wrap -/
def yd_F (f : Nat → Int32) (i e : Nat) : Nat → Int32 := fun j => if i ≤ j ∧ j < e then -1 else f j
theorem yd_0 (f : Nat → Int32) (i : Nat) : yd_F f i i = f := by
  funext j; unfold yd_F; rw [if_neg (by omega)]
theorem yd_1 (f : Nat → Int32) {i e : Nat} (h : i < e) : yd_F (upd f i (-1)) (i + 1) e = yd_F f i e := by
  funext j; unfold yd_F upd
  by_cases a : j = i
  · rw [if_neg (by omega), if_pos a, if_pos (by omega)]
  · rw [if_neg a]
    by_cases b : i ≤ j ∧ j < e
    · rw [if_pos (by omega), if_pos b]
    · rw [if_neg (by omega), if_neg b]
theorem yd_in {f : Nat → Int32} {i e j : Nat} (h : i ≤ j) (h' : j < e) : yd_F f i e j = -1 := if_pos ⟨h, h'⟩
theorem yd_out {f : Nat → Int32} {i e j : Nat} (h : ¬ (i ≤ j ∧ j < e)) : yd_F f i e j = f j := if_neg h
theorem xs_0 {post : Int32 → Prop} {x : Int32} (h : x < 0 ∨ nI 12 ≤ x) (hp : post 0) : wpX_isSlot post x := by
  by_cases z : x < 0
  · exact br_t z hp
  · exact br_f z (br_t (h.resolve_left z) hp)
theorem xs_1 {post : Int32 → Prop} {s : Nat} (hs : s < 12) (hp : post 1) : wpX_isSlot post (nI s) :=
  br_f (nI_pos (by omega)) (br_f (nI_ge (b := 12) hs (by decide)) hp)
theorem yi_0 {post : Int32 → Prop} {x : Int32} (n : Nat) (hn : n < 1000) (h : x < 0 ∨ nI (n + 1) ≤ x) (hp : post 0) : wpY_in post x 0 (nI n) := by
  by_cases z : x < 0
  · exact br_t z hp
  · exact br_f z (br_t (hh_gt (h.resolve_left z) (by omega)) hp)
theorem yi_1 {post : Int32 → Prop} {c : Nat} (n : Nat) (hn : n < 1000) (h : c ≤ n) (hp : post 1) : wpY_in post (nI c) 0 (nI n) :=
  br_f (nI_pos (by omega)) (br_f (nI_nlt h (by omega)) hp)
section
variable {x_length x_nodeCount x_bound x_fault x_faultPlace x_mode x_at x_tokenStart x_textCount x_escaped x_valueSlot x_valueName x_depth x_outputLength : Int32} {x_text x_typeKind x_typeDetail x_typeLeast x_typeMost x_fieldCount x_fieldName x_fieldType x_fieldNeeded x_tagType x_nodeKind x_nodeValue x_nodeParent x_nodeName x_nodeSlot x_nodeStart x_nodeTag x_completeCount x_openNode x_openSlot x_openNames x_openNext x_openComma x_output : Nat → Int32} {y_length y_parts y_bad y_nodes y_fault y_place y_bound y_depth y_nextName y_wantsName y_wantsTag y_printed y_waiting y_scaled : Int32} {y_sort y_typeA y_typeB y_typeC y_fieldName y_fieldType y_fields y_tags y_needed y_text y_begin y_end y_inside y_whole y_kind y_value y_parent y_name y_slotOf y_placeOf y_complete y_openNode y_openType y_openCount y_openNames y_openChoice y_output y_todo : Nat → Int32}
theorem xs_set {post : SX → Prop} {s : Nat} (hs : s < 12) {kd d l m : Int32} (h : post (x_length, x_nodeCount, 0, x_fault, x_faultPlace, x_mode, x_at, x_tokenStart, x_textCount, x_escaped, x_valueSlot, x_valueName, x_depth, x_outputLength, x_text, upd x_typeKind s kd, upd x_typeDetail s d, upd x_typeLeast s l, upd x_typeMost s m, x_fieldCount, x_fieldName, x_fieldType, x_fieldNeeded, x_tagType, x_nodeKind, x_nodeValue, x_nodeParent, x_nodeName, x_nodeSlot, x_nodeStart, x_nodeTag, x_completeCount, x_openNode, x_openSlot, x_openNames, x_openNext, x_openComma, x_output)) : wpX_setType post (x_length, x_nodeCount, x_bound, x_fault, x_faultPlace, x_mode, x_at, x_tokenStart, x_textCount, x_escaped, x_valueSlot, x_valueName, x_depth, x_outputLength, x_text, x_typeKind, x_typeDetail, x_typeLeast, x_typeMost, x_fieldCount, x_fieldName, x_fieldType, x_fieldNeeded, x_tagType, x_nodeKind, x_nodeValue, x_nodeParent, x_nodeName, x_nodeSlot, x_nodeStart, x_nodeTag, x_completeCount, x_openNode, x_openSlot, x_openNames, x_openNext, x_openComma, x_output) (nI s) kd d l m := by
  have e : (nI s).toNatClampNeg = s := nI_clamp (by omega)
  have i : vp_in (nI s) 12 := vp_in_nI hs (by decide)
  unfold wpX_setType
  dsimp only
  rw [e]
  exact ⟨i, nm_e ⟨i, nm_e ⟨i, nm_e ⟨i, nm_e h⟩⟩⟩⟩
theorem yd_loop {post : Int32 → SY → Prop} {s : Nat} (hs : s < 12) : ∀ (m i : Nat) (g : Nat → Int32), i + m = 6 * s + 6 → post 1 (y_length, y_parts, y_bad, y_nodes, y_fault, y_place, 0, y_depth, y_nextName, y_wantsName, y_wantsTag, y_printed, y_waiting, y_scaled, y_sort, y_typeA, y_typeB, y_typeC, y_fieldName, y_fieldType, y_fields, yd_F g i (6 * s + 6), y_needed, y_text, y_begin, y_end, y_inside, y_whole, y_kind, y_value, y_parent, y_name, y_slotOf, y_placeOf, y_complete, y_openNode, y_openType, y_openCount, y_openNames, y_openChoice, y_output, y_todo) → wY_define_43 post (nI s) y_length y_parts y_bad y_nodes y_fault y_place y_bound y_depth y_nextName y_wantsName y_wantsTag y_printed y_waiting y_scaled (m + 1) (nI i) y_sort y_typeA y_typeB y_typeC y_fieldName y_fieldType y_fields g y_needed y_text y_begin y_end y_inside y_whole y_kind y_value y_parent y_name y_slotOf y_placeOf y_complete y_openNode y_openType y_openCount y_openNames y_openChoice y_output y_todo := by
  have e6 : (6 : Int32) * nI s + 6 = nI (6 * s + 6) := by
    show nI 6 * nI s + nI 6 = _
    rw [pk_mul, nI_add]
  intro m
  induction m with
  | zero =>
    intro i g hi h
    have hi' : i = 6 * s + 6 := by omega
    subst hi'
    rw [yd_0] at h
    refine br_t ?_ h
    rw [e6]; exact nI_le (by omega) (by omega)
  | succ m ih =>
    intro i g hi h
    refine br_f ?_ ⟨vp_in_nI (by omega) (by decide), nm_e (nm_r (nI_1 i) ?_)⟩
    · rw [e6]; exact nI_ge (by omega) (by omega)
    · rw [nI_clamp (by omega)]
      refine ih (i + 1) _ (by omega) ?_
      rw [yd_1 g (by omega)]; exact h
theorem yd_def {post : Int32 → SY → Prop} {s : Nat} (hs : s < 12) {kd a b c : Int32} (h : post 1 (y_length, y_parts, y_bad, y_nodes, y_fault, y_place, 0, y_depth, y_nextName, y_wantsName, y_wantsTag, y_printed, y_waiting, y_scaled, upd y_sort s kd, upd y_typeA s a, upd y_typeB s b, upd y_typeC s c, y_fieldName, y_fieldType, upd y_fields s 0, yd_F y_tags (6 * s) (6 * s + 6), y_needed, y_text, y_begin, y_end, y_inside, y_whole, y_kind, y_value, y_parent, y_name, y_slotOf, y_placeOf, y_complete, y_openNode, y_openType, y_openCount, y_openNames, y_openChoice, y_output, y_todo)) : wpY_define post (y_length, y_parts, y_bad, y_nodes, y_fault, y_place, y_bound, y_depth, y_nextName, y_wantsName, y_wantsTag, y_printed, y_waiting, y_scaled, y_sort, y_typeA, y_typeB, y_typeC, y_fieldName, y_fieldType, y_fields, y_tags, y_needed, y_text, y_begin, y_end, y_inside, y_whole, y_kind, y_value, y_parent, y_name, y_slotOf, y_placeOf, y_complete, y_openNode, y_openType, y_openCount, y_openNames, y_openChoice, y_output, y_todo) (nI s) kd a b c := by
  have e : (nI s).toNatClampNeg = s := nI_clamp (by omega)
  have i : vp_in (nI s) 12 := vp_in_nI hs (by decide)
  have e6 : (6 : Int32) * nI s = nI (6 * s) := by
    show nI 6 * nI s = _
    rw [pk_mul]
  unfold wpY_define
  dsimp only
  rw [e]
  refine ⟨i, nm_e ⟨i, nm_e ⟨i, nm_e ⟨i, nm_e ⟨i, nm_e (nm_r e6 ⟨6 + 1, ?_⟩)⟩⟩⟩⟩⟩
  exact yd_loop hs 6 (6 * s) y_tags (by omega) h
theorem xm_loop {post : Int32 → SX → Prop} {s : Nat} (hs : s < 12) : ∀ (m i : Nat) (g : Nat → Int32), i + m = 6 → post 1 (x_length, x_nodeCount, x_bound, x_fault, x_faultPlace, x_mode, x_at, x_tokenStart, x_textCount, x_escaped, x_valueSlot, x_valueName, x_depth, x_outputLength, x_text, x_typeKind, x_typeDetail, x_typeLeast, x_typeMost, x_fieldCount, x_fieldName, x_fieldType, x_fieldNeeded, yd_F g (6 * s + i) (6 * s + 6), x_nodeKind, x_nodeValue, x_nodeParent, x_nodeName, x_nodeSlot, x_nodeStart, x_nodeTag, x_completeCount, x_openNode, x_openSlot, x_openNames, x_openNext, x_openComma, x_output) → wX_members_51 post (nI s) x_length x_nodeCount x_bound x_fault x_faultPlace x_mode x_at x_tokenStart x_textCount x_escaped x_valueSlot x_valueName x_depth x_outputLength (m + 1) (nI i) x_text x_typeKind x_typeDetail x_typeLeast x_typeMost x_fieldCount x_fieldName x_fieldType x_fieldNeeded g x_nodeKind x_nodeValue x_nodeParent x_nodeName x_nodeSlot x_nodeStart x_nodeTag x_completeCount x_openNode x_openSlot x_openNames x_openNext x_openComma x_output := by
  intro m
  induction m with
  | zero =>
    intro i g hi h
    have hi' : i = 6 := by omega
    subst hi'
    rw [yd_0] at h
    exact br_t (by decide) h
  | succ m ih =>
    intro i g hi h
    have e6 : nI s * 6 + nI i = nI (6 * s + i) := by
      show nI s * nI 6 + nI i = _
      rw [pk_mul, nI_add, Nat.mul_comm]
    refine br_f (nI_ge (b := 6) (by omega) (by decide)) ?_
    rw [e6]
    refine ⟨vp_in_nI (by omega) (by decide), nm_e (nm_r (nI_1 i) ?_)⟩
    rw [nI_clamp (by omega)]
    refine ih (i + 1) _ (by omega) ?_
    rw [show 6 * s + (i + 1) = 6 * s + i + 1 from by omega, yd_1 g (by omega)]; exact h
end
theorem ty_n {so tD tL tM fN fT fB tA tB tC fs gY fC' gX' : Nat → Int32} {s : Nat} {kd d l m a b c : Int32}
    (h0 : ∃ j, j ≤ 8 ∧ kd = nI j)
    (h1 : kd = 1 → a = d ∧ b = l ∧ c = m ∧ ∃ e, e ≤ 4 ∧ d = nI e)
    (h2 : kd = 2 → a = d ∧ ∃ e, e ≤ 40 ∧ d = nI e)
    (h4 : kd = 4 → a = d ∧ b = l ∧ c = m ∧ ∃ e a' b', e < 12 ∧ d = nI e ∧ a' ≤ b' ∧ b' ≤ 20 ∧ l = nI a' ∧ m = nI b')
    (h5 : kd = 5 → fC' s = 0)
    (h6 : kd = 6 → a = d ∧ (∃ e, e < 6 ∧ d = nI e) ∧ ∀ i, i < 6 → gX' (6 * s + i) = -1)
    (h7 : kd = 7 ∨ kd = 8 → a = d ∧ ∃ e, e < 12 ∧ d = nI e) :
    ty_S (upd so s kd) (upd tD s d) (upd tL s l) (upd tM s m) fC' fN fT fB gX' (upd tA s a) (upd tB s b) (upd tC s c) (upd fs s 0) (yd_F gY (6 * s) (6 * s + 6)) s := by
  unfold ty_S
  simp only [pk_us]
  refine ⟨h0, h1, h2, h4, fun z => ⟨(h5 z).symm, 0, by omega, h5 z, fun i hi => absurd hi (by omega), fun i j hi => absurd hi (by omega)⟩, fun z => ?_, h7⟩
  obtain ⟨p, q, r⟩ := h6 z
  exact ⟨p, q, fun i hi => ⟨by rw [yd_in (by omega) (by omega), r i hi], Or.inl (r i hi)⟩⟩
theorem ty_u {L : Nat} {t so tD tL tM fC fN fT fB gX tA tB tC fs gY fC' gX' : Nat → Int32} (hT : rl_T L t so tD tL tM fC fN fT fB gX tA tB tC fs gY) {s : Nat} {kd d l m a b c : Int32}
    (hC : ∀ i, i ≠ s → fC' i = fC i) (hG : ∀ i, ¬ (6 * s ≤ i ∧ i < 6 * s + 6) → gX' i = gX i)
    (hn : ty_S (upd so s kd) (upd tD s d) (upd tL s l) (upd tM s m) fC' fN fT fB gX' (upd tA s a) (upd tB s b) (upd tC s c) (upd fs s 0) (yd_F gY (6 * s) (6 * s + 6)) s) :
    rl_T L t (upd so s kd) (upd tD s d) (upd tL s l) (upd tM s m) fC' fN fT fB gX' (upd tA s a) (upd tB s b) (upd tC s c) (upd fs s 0) (yd_F gY (6 * s) (6 * s + 6)) := by
  refine ⟨hT.1, hT.2.1, fun r hr => ?_⟩
  by_cases z : r = s
  · subst z; exact hn
  · exact ty_c (hT.2.2 r hr) (pk_un z) (pk_un z) (pk_un z) (pk_un z) (hC r z) (fun _ _ => rfl) (fun _ _ => rfl) (fun _ _ => rfl) (fun i hi => hG _ (by omega)) (pk_un z) (pk_un z) (pk_un z) (pk_un z) (fun i hi => yd_out (by omega))
