/-! the bind: the component begins a value -/
/-- the node around: none, or n at the top, and its list's type s -/
def pc_X (d : Nat) (kd on os : Nat → Int32) (n s : Nat) : Prop := d = 0 ∨ ∃ d', d = d' + 1 ∧ d' < 6 ∧ on d' = nI n ∧ n < 40 ∧ (kd n = 3 → os d' = nI s ∧ s < 12)
section
variable {x_length x_bound x_fault x_faultPlace x_mode x_at x_tokenStart x_textCount x_escaped x_valueName x_outputLength : Int32} {x_text x_typeKind x_typeDetail x_typeLeast x_typeMost x_fieldCount x_fieldName x_fieldType x_fieldNeeded x_tagType x_nodeKind x_nodeValue x_nodeParent x_nodeName x_nodeSlot x_nodeStart x_nodeTag x_completeCount x_openNode x_openSlot x_openNames x_openNext x_openComma x_output : Nat → Int32} {a w d N n s K : Nat} {c r : Int32} {Q : SX → Prop}
theorem fb_41 {post : Int32 → Prop} (hpc : pc_X d x_nodeKind x_openNode x_openSlot n s) (hN : N ≤ 40) (h5 : N = 40 → post 5) (h6 : N < 40 → 0 < d → x_nodeKind n = 3 → ¬ x_valueName < x_typeMost s → post 6) (h0 : N < 40 → ¬ (0 < d ∧ x_nodeKind n = 3 ∧ ¬ x_valueName < x_typeMost s) → post 0) : wX_faultAtBeginning_41 post x_length (nI N) x_bound x_fault x_faultPlace x_mode x_at x_tokenStart x_textCount x_escaped (nI a) x_valueName (nI d) x_outputLength x_text x_typeKind x_typeDetail x_typeLeast x_typeMost x_fieldCount x_fieldName x_fieldType x_fieldNeeded x_tagType x_nodeKind x_nodeValue x_nodeParent x_nodeName x_nodeSlot x_nodeStart x_nodeTag x_completeCount x_openNode x_openSlot x_openNames x_openNext x_openComma x_output := by
  rcases Nat.lt_or_ge N 40 with w | w
  · refine br_t (nI_lt (b := 40) w (by decide)) ?_
    rcases hpc with rfl | ⟨d', rfl, hd, eo, hn, hl⟩
    · exact xi_0 (br_t rfl (h0 w (fun z => absurd z.1 (by omega))))
    · by_cases k3 : x_nodeKind n = 3
      · obtain ⟨es, hs⟩ := hl k3
        refine xi_l hd hn eo k3 (br_f (by decide) ?_)
        rw [nI_pred, nI_clamp (by omega), es, nI_clamp (by omega)]
        refine ⟨vp_in_nI hd (by decide), vp_in_nI hs (by decide), fun z => h0 w (fun y => y.2.2 z), fun z => h6 w (by omega) k3 z⟩
      · exact xi_r hd hn eo k3 (br_t rfl (h0 w (fun z => k3 z.2.1)))
  · have e : N = 40 := by omega
    subst e
    exact br_f (by decide) (h5 rfl)
theorem fb_x {post : Int32 → Prop} (hd6 : d ≤ 6) (h : kc_I x_typeKind x_typeDetail a w) (h2 : ¬ kc_D (x_typeKind a) (x_typeKind w) → post 2) (h3 : kc_D (x_typeKind a) (x_typeKind w) → r = -1 → post 3) (h4 : kc_D (x_typeKind a) (x_typeKind w) → ¬ r = -1 → d = 6 → (r = 3 ∨ r = 4) → post 4) (h41 : kc_D (x_typeKind a) (x_typeKind w) → ¬ r = -1 → ¬ (d = 6 ∧ (r = 3 ∨ r = 4)) → wX_faultAtBeginning_41 post x_length (nI N) x_bound x_fault x_faultPlace x_mode x_at x_tokenStart x_textCount x_escaped (nI a) x_valueName (nI d) x_outputLength x_text x_typeKind x_typeDetail x_typeLeast x_typeMost x_fieldCount x_fieldName x_fieldType x_fieldNeeded x_tagType x_nodeKind x_nodeValue x_nodeParent x_nodeName x_nodeSlot x_nodeStart x_nodeTag x_completeCount x_openNode x_openSlot x_openNames x_openNext x_openComma x_output) : wpX_faultAtBeginning post (x_length, nI N, x_bound, x_fault, x_faultPlace, x_mode, x_at, x_tokenStart, x_textCount, x_escaped, nI a, x_valueName, nI d, x_outputLength, x_text, x_typeKind, x_typeDetail, x_typeLeast, x_typeMost, x_fieldCount, x_fieldName, x_fieldType, x_fieldNeeded, x_tagType, x_nodeKind, x_nodeValue, x_nodeParent, x_nodeName, x_nodeSlot, x_nodeStart, x_nodeTag, x_completeCount, x_openNode, x_openSlot, x_openNames, x_openNext, x_openComma, x_output) r := by
  unfold wpX_faultAtBeginning
  dsimp only
  refine df_x h (fun D => br_f (by decide) ?_) (fun D => br_t rfl (h2 D))
  by_cases e1 : r = -1
  · exact br_t e1 (h3 D e1)
  refine br_f e1 ?_
  rcases Nat.lt_or_ge d 6 with w6 | w6
  · exact br_t (nI_lt (b := 6) w6 (by decide)) (h41 D e1 (fun z => by omega))
  · have e6 : d = 6 := by omega
    subst e6
    refine br_f (by decide) ?_
    by_cases r3 : r = 3
    · exact br_t r3 (h4 D e1 rfl (Or.inl r3))
    · refine br_f r3 ?_
      by_cases r4 : r = 4
      · exact br_t r4 (h4 D e1 rfl (Or.inr r4))
      · exact br_f r4 (h41 D e1 (fun z => z.2.elim r3 r4))
/-- a fault at its beginning -/
theorem vx_f {f : Int32} (hf : ¬ f = 0) (hk : ∀ post : Int32 → Prop, post r → wpX_kindBegun post (x_length, nI N, x_bound, x_fault, x_faultPlace, x_mode, x_at, x_tokenStart, x_textCount, x_escaped, nI a, x_valueName, nI d, x_outputLength, x_text, x_typeKind, x_typeDetail, x_typeLeast, x_typeMost, x_fieldCount, x_fieldName, x_fieldType, x_fieldNeeded, x_tagType, x_nodeKind, x_nodeValue, x_nodeParent, x_nodeName, x_nodeSlot, x_nodeStart, x_nodeTag, x_completeCount, x_openNode, x_openSlot, x_openNames, x_openNext, x_openComma, x_output) (nI a) c) (hfa : ∀ post : Int32 → Prop, post f → wpX_faultAtBeginning post (x_length, nI N, x_bound, x_fault, x_faultPlace, x_mode, x_at, x_tokenStart, x_textCount, x_escaped, nI a, x_valueName, nI d, x_outputLength, x_text, x_typeKind, x_typeDetail, x_typeLeast, x_typeMost, x_fieldCount, x_fieldName, x_fieldType, x_fieldNeeded, x_tagType, x_nodeKind, x_nodeValue, x_nodeParent, x_nodeName, x_nodeSlot, x_nodeStart, x_nodeTag, x_completeCount, x_openNode, x_openSlot, x_openNames, x_openNext, x_openComma, x_output) r) (h : Q (x_length, nI N, x_bound, f, x_at, x_mode, x_at, x_tokenStart, x_textCount, x_escaped, nI a, x_valueName, nI d, x_outputLength, x_text, x_typeKind, x_typeDetail, x_typeLeast, x_typeMost, x_fieldCount, x_fieldName, x_fieldType, x_fieldNeeded, x_tagType, x_nodeKind, x_nodeValue, x_nodeParent, x_nodeName, x_nodeSlot, x_nodeStart, x_nodeTag, x_completeCount, x_openNode, x_openSlot, x_openNames, x_openNext, x_openComma, x_output)) : wX_beginValue_45 Q c x_length (nI N) x_bound x_fault x_faultPlace x_mode x_at x_tokenStart x_textCount x_escaped (nI a) x_valueName (nI d) x_outputLength x_text x_typeKind x_typeDetail x_typeLeast x_typeMost x_fieldCount x_fieldName x_fieldType x_fieldNeeded x_tagType x_nodeKind x_nodeValue x_nodeParent x_nodeName x_nodeSlot x_nodeStart x_nodeTag x_completeCount x_openNode x_openSlot x_openNames x_openNext x_openComma x_output := by
  unfold wX_beginValue_45
  exact hk _ (hfa _ (br_f hf h))
/-- none -/
theorem vx_o {u1 u2 : SX} (hk : ∀ post : Int32 → Prop, post r → wpX_kindBegun post (x_length, nI N, x_bound, x_fault, x_faultPlace, x_mode, x_at, x_tokenStart, x_textCount, x_escaped, nI a, x_valueName, nI d, x_outputLength, x_text, x_typeKind, x_typeDetail, x_typeLeast, x_typeMost, x_fieldCount, x_fieldName, x_fieldType, x_fieldNeeded, x_tagType, x_nodeKind, x_nodeValue, x_nodeParent, x_nodeName, x_nodeSlot, x_nodeStart, x_nodeTag, x_completeCount, x_openNode, x_openSlot, x_openNames, x_openNext, x_openComma, x_output) (nI a) c) (hfa : ∀ post : Int32 → Prop, post 0 → wpX_faultAtBeginning post (x_length, nI N, x_bound, x_fault, x_faultPlace, x_mode, x_at, x_tokenStart, x_textCount, x_escaped, nI a, x_valueName, nI d, x_outputLength, x_text, x_typeKind, x_typeDetail, x_typeLeast, x_typeMost, x_fieldCount, x_fieldName, x_fieldType, x_fieldNeeded, x_tagType, x_nodeKind, x_nodeValue, x_nodeParent, x_nodeName, x_nodeSlot, x_nodeStart, x_nodeTag, x_completeCount, x_openNode, x_openSlot, x_openNames, x_openNext, x_openComma, x_output) r) (ha : ∀ R : SX → Prop, R u1 → wpX_addNode R (x_length, nI N, x_bound, x_fault, x_faultPlace, x_mode, x_at, x_tokenStart, x_textCount, x_escaped, nI a, x_valueName, nI d, x_outputLength, x_text, x_typeKind, x_typeDetail, x_typeLeast, x_typeMost, x_fieldCount, x_fieldName, x_fieldType, x_fieldNeeded, x_tagType, x_nodeKind, x_nodeValue, x_nodeParent, x_nodeName, x_nodeSlot, x_nodeStart, x_nodeTag, x_completeCount, x_openNode, x_openSlot, x_openNames, x_openNext, x_openComma, x_output) r) (he : ∀ R : SX → Prop, R u2 → wpX_enterValue R u1 r c) (h : Q u2) : wX_beginValue_45 Q c x_length (nI N) x_bound x_fault x_faultPlace x_mode x_at x_tokenStart x_textCount x_escaped (nI a) x_valueName (nI d) x_outputLength x_text x_typeKind x_typeDetail x_typeLeast x_typeMost x_fieldCount x_fieldName x_fieldType x_fieldNeeded x_tagType x_nodeKind x_nodeValue x_nodeParent x_nodeName x_nodeSlot x_nodeStart x_nodeTag x_completeCount x_openNode x_openSlot x_openNames x_openNext x_openComma x_output := by
  obtain ⟨u_length, u_nodeCount, u_bound, u_fault, u_faultPlace, u_mode, u_at, u_tokenStart, u_textCount, u_escaped, u_valueSlot, u_valueName, u_depth, u_outputLength, u_text, u_typeKind, u_typeDetail, u_typeLeast, u_typeMost, u_fieldCount, u_fieldName, u_fieldType, u_fieldNeeded, u_tagType, u_nodeKind, u_nodeValue, u_nodeParent, u_nodeName, u_nodeSlot, u_nodeStart, u_nodeTag, u_completeCount, u_openNode, u_openSlot, u_openNames, u_openNext, u_openComma, u_output⟩ := u1
  obtain ⟨v_length, v_nodeCount, v_bound, v_fault, v_faultPlace, v_mode, v_at, v_tokenStart, v_textCount, v_escaped, v_valueSlot, v_valueName, v_depth, v_outputLength, v_text, v_typeKind, v_typeDetail, v_typeLeast, v_typeMost, v_fieldCount, v_fieldName, v_fieldType, v_fieldNeeded, v_tagType, v_nodeKind, v_nodeValue, v_nodeParent, v_nodeName, v_nodeSlot, v_nodeStart, v_nodeTag, v_completeCount, v_openNode, v_openSlot, v_openNames, v_openNext, v_openComma, v_output⟩ := u2
  unfold wX_beginValue_45
  exact hk _ (hfa _ (br_t rfl (ha _ (he _ h))))
/-- a new node -/
theorem an_x (hN : N < 40) (h : kc_I x_typeKind x_typeDetail a w) {par : Int32} {vl1 : Nat → Int32}
    (hpar : (d = 0 ∧ par = -1 ∧ vl1 = x_nodeValue) ∨ ∃ d', d = d' + 1 ∧ d' < 6 ∧ n < 40 ∧ x_openNode d' = nI n ∧ par = nI n ∧ (x_nodeKind n = 3 ∧ vl1 = upd x_nodeValue n (x_nodeValue n + 1) ∨ ¬ x_nodeKind n = 3 ∧ vl1 = x_nodeValue))
    (hq : Q (x_length, nI (N + 1), x_bound, x_fault, x_faultPlace, x_mode, x_at, x_tokenStart, x_textCount, x_escaped, nI a, x_valueName, nI d, x_outputLength, x_text, x_typeKind, x_typeDetail, x_typeLeast, x_typeMost, x_fieldCount, x_fieldName, x_fieldType, x_fieldNeeded, x_tagType, upd x_nodeKind N r, upd vl1 N 0, upd x_nodeParent N par, upd x_nodeName N x_valueName, upd x_nodeSlot N (nI w), upd x_nodeStart N x_at, upd x_nodeTag N (-1), x_completeCount, x_openNode, x_openSlot, x_openNames, x_openNext, x_openComma, x_output)) : wpX_addNode Q (x_length, nI N, x_bound, x_fault, x_faultPlace, x_mode, x_at, x_tokenStart, x_textCount, x_escaped, nI a, x_valueName, nI d, x_outputLength, x_text, x_typeKind, x_typeDetail, x_typeLeast, x_typeMost, x_fieldCount, x_fieldName, x_fieldType, x_fieldNeeded, x_tagType, x_nodeKind, x_nodeValue, x_nodeParent, x_nodeName, x_nodeSlot, x_nodeStart, x_nodeTag, x_completeCount, x_openNode, x_openSlot, x_openNames, x_openNext, x_openComma, x_output) r := by
  have eN : (nI N).toNatClampNeg = N := nI_clamp (by omega)
  have iN : vp_in (nI N) 40 := vp_in_nI hN (by decide)
  have t40 : wX_addNode_40 Q r par x_length (nI N) x_bound x_fault x_faultPlace x_mode x_at x_tokenStart x_textCount x_escaped (nI a) x_valueName (nI d) x_outputLength x_text x_typeKind x_typeDetail x_typeLeast x_typeMost x_fieldCount x_fieldName x_fieldType x_fieldNeeded x_tagType x_nodeKind vl1 x_nodeParent x_nodeName x_nodeSlot x_nodeStart x_nodeTag x_completeCount x_openNode x_openSlot x_openNames x_openNext x_openComma x_output := by
    unfold wX_addNode_40
    rw [eN]
    refine ⟨iN, nm_e ⟨iN, nm_e ⟨iN, nm_e ⟨iN, nm_e (si_x h ⟨iN, nm_e ⟨iN, nm_e ⟨iN, nm_e (nm_r (nI_1 N) hq)⟩⟩⟩)⟩⟩⟩⟩
  rcases hpar with ⟨rfl, rfl, rfl⟩ | ⟨d', rfl, hd, hn, eo, rfl, hl⟩
  · refine br_t (by decide) ?_
    unfold wX_addNode_22
    exact xi_0 (br_t rfl t40)
  · refine br_f (nI_nle (by omega) (by omega)) ?_
    rw [nI_pred, nI_clamp (by omega), eo]
    refine ⟨vp_in_nI hd (by decide), ?_⟩
    unfold wX_addNode_22
    rcases hl with ⟨k3, rfl⟩ | ⟨k3, rfl⟩
    · refine xi_l hd hn eo k3 (br_f (by decide) ⟨vp_in_nI hn (by decide), vp_in_nI hn (by decide), ?_⟩)
      rw [nI_clamp (by omega)]
      exact nm_e t40
    · exact xi_r hd hn eo k3 (br_t rfl t40)
end
section
variable {x_length x_bound x_fault x_faultPlace x_mode x_at x_tokenStart x_textCount x_escaped x_valueSlot x_valueName x_depth x_outputLength : Int32} {x_text x_typeKind x_typeDetail x_typeLeast x_typeMost x_fieldCount x_fieldName x_fieldType x_fieldNeeded x_tagType x_nodeKind x_nodeValue x_nodeParent x_nodeName x_nodeSlot x_nodeStart x_nodeTag x_completeCount x_openNode x_openSlot x_openNames x_openNext x_openComma x_output : Nat → Int32} {N d s : Nat} {c : Int32} {Q : SX → Prop}
theorem ev_num {r : Int32} (hr : r = 0 ∨ r = 6) (h : Q (x_length, nI (N + 1), x_bound, x_fault, x_faultPlace, xn_m c, x_at, x_at, x_textCount, x_escaped, x_valueSlot, x_valueName, x_depth, x_outputLength, x_text, x_typeKind, x_typeDetail, x_typeLeast, x_typeMost, x_fieldCount, x_fieldName, x_fieldType, x_fieldNeeded, x_tagType, x_nodeKind, x_nodeValue, x_nodeParent, x_nodeName, x_nodeSlot, x_nodeStart, x_nodeTag, x_completeCount, x_openNode, x_openSlot, x_openNames, x_openNext, x_openComma, x_output)) : wpX_enterValue Q (x_length, nI (N + 1), x_bound, x_fault, x_faultPlace, x_mode, x_at, x_tokenStart, x_textCount, x_escaped, x_valueSlot, x_valueName, x_depth, x_outputLength, x_text, x_typeKind, x_typeDetail, x_typeLeast, x_typeMost, x_fieldCount, x_fieldName, x_fieldType, x_fieldNeeded, x_tagType, x_nodeKind, x_nodeValue, x_nodeParent, x_nodeName, x_nodeSlot, x_nodeStart, x_nodeTag, x_completeCount, x_openNode, x_openSlot, x_openNames, x_openNext, x_openComma, x_output) r c := by
  rcases hr with rfl | rfl
  · exact br_f (by decide) (br_f (by decide) (br_t rfl (en_n h)))
  · exact br_f (by decide) (br_f (by decide) (br_f (by decide) (br_f (by decide) (br_f (by decide) (br_f (by decide) (br_f (by decide) (br_f (by decide) (br_t rfl (en_n h)))))))))
theorem ev_txt (h : Q (x_length, nI (N + 1), x_bound, x_fault, x_faultPlace, 7, x_at, x_at, 0, 0, x_valueSlot, x_valueName, x_depth, x_outputLength, x_text, x_typeKind, x_typeDetail, x_typeLeast, x_typeMost, x_fieldCount, x_fieldName, x_fieldType, x_fieldNeeded, x_tagType, x_nodeKind, x_nodeValue, x_nodeParent, x_nodeName, x_nodeSlot, x_nodeStart, x_nodeTag, x_completeCount, x_openNode, x_openSlot, x_openNames, x_openNext, x_openComma, x_output)) : wpX_enterValue Q (x_length, nI (N + 1), x_bound, x_fault, x_faultPlace, x_mode, x_at, x_tokenStart, x_textCount, x_escaped, x_valueSlot, x_valueName, x_depth, x_outputLength, x_text, x_typeKind, x_typeDetail, x_typeLeast, x_typeMost, x_fieldCount, x_fieldName, x_fieldType, x_fieldNeeded, x_tagType, x_nodeKind, x_nodeValue, x_nodeParent, x_nodeName, x_nodeSlot, x_nodeStart, x_nodeTag, x_completeCount, x_openNode, x_openSlot, x_openNames, x_openNext, x_openComma, x_output) 1 c :=
  br_f (by decide) (br_f (by decide) (br_f (by decide) (br_t rfl h)))
theorem ev_flag (hN : N < 40) (hc : c = 28 ∨ c = 29) (h : Q (x_length, nI (N + 1), x_bound, x_fault, x_faultPlace, 2, x_at, x_tokenStart, x_textCount, x_escaped, x_valueSlot, x_valueName, x_depth, x_outputLength, x_text, x_typeKind, x_typeDetail, x_typeLeast, x_typeMost, x_fieldCount, x_fieldName, x_fieldType, x_fieldNeeded, x_tagType, x_nodeKind, upd x_nodeValue N (if c = 28 then 1 else 0), x_nodeParent, x_nodeName, x_nodeSlot, x_nodeStart, x_nodeTag, x_completeCount, x_openNode, x_openSlot, x_openNames, x_openNext, x_openComma, x_output)) : wpX_enterValue Q (x_length, nI (N + 1), x_bound, x_fault, x_faultPlace, x_mode, x_at, x_tokenStart, x_textCount, x_escaped, x_valueSlot, x_valueName, x_depth, x_outputLength, x_text, x_typeKind, x_typeDetail, x_typeLeast, x_typeMost, x_fieldCount, x_fieldName, x_fieldType, x_fieldNeeded, x_tagType, x_nodeKind, x_nodeValue, x_nodeParent, x_nodeName, x_nodeSlot, x_nodeStart, x_nodeTag, x_completeCount, x_openNode, x_openSlot, x_openNames, x_openNext, x_openComma, x_output) 2 c := by
  have eN : (nI N).toNatClampNeg = N := nI_clamp (by omega)
  have iN : vp_in (nI N) 40 := vp_in_nI hN (by decide)
  refine br_f (by decide) (br_f (by decide) (br_f (by decide) (br_f (by decide) (br_t rfl ?_))))
  rw [nI_pred, eN]
  by_cases z : c = 28
  · rw [if_pos z] at h; exact br_t z ⟨iN, nm_e h⟩
  · rw [if_neg z] at h; exact br_f z ⟨iN, nm_e h⟩
theorem ev_none (h : Q (x_length, nI (N + 1), x_bound, x_fault, x_faultPlace, 2, x_at, x_tokenStart, x_textCount, x_escaped, x_valueSlot, x_valueName, x_depth, x_outputLength, x_text, x_typeKind, x_typeDetail, x_typeLeast, x_typeMost, x_fieldCount, x_fieldName, x_fieldType, x_fieldNeeded, x_tagType, x_nodeKind, x_nodeValue, x_nodeParent, x_nodeName, x_nodeSlot, x_nodeStart, x_nodeTag, x_completeCount, x_openNode, x_openSlot, x_openNames, x_openNext, x_openComma, x_output)) : wpX_enterValue Q (x_length, nI (N + 1), x_bound, x_fault, x_faultPlace, x_mode, x_at, x_tokenStart, x_textCount, x_escaped, x_valueSlot, x_valueName, x_depth, x_outputLength, x_text, x_typeKind, x_typeDetail, x_typeLeast, x_typeMost, x_fieldCount, x_fieldName, x_fieldType, x_fieldNeeded, x_tagType, x_nodeKind, x_nodeValue, x_nodeParent, x_nodeName, x_nodeSlot, x_nodeStart, x_nodeTag, x_completeCount, x_openNode, x_openSlot, x_openNames, x_openNext, x_openComma, x_output) 5 c :=
  br_f (by decide) (br_f (by decide) (br_f (by decide) (br_f (by decide) (br_f (by decide) (br_f (by decide) (br_f (by decide) (br_t rfl h)))))))
end
section
variable {x_length x_bound x_fault x_faultPlace x_mode x_at x_tokenStart x_textCount x_escaped x_valueSlot x_valueName x_outputLength : Int32} {x_text x_typeKind x_typeDetail x_typeLeast x_typeMost x_fieldCount x_fieldName x_fieldType x_fieldNeeded x_tagType x_nodeKind x_nodeValue x_nodeParent x_nodeName x_nodeSlot x_nodeStart x_nodeTag x_completeCount x_openNode x_openSlot x_openNames x_openNext x_openComma x_output : Nat → Int32} {N d s : Nat} {c : Int32} {Q : SX → Prop}
theorem ev_list (hN : N < 40) (hd : d < 6) (h : Q (x_length, nI (N + 1), x_bound, x_fault, x_faultPlace, 1, x_at, x_tokenStart, x_textCount, x_escaped, x_valueSlot, x_valueName, nI (d + 1), x_outputLength, x_text, x_typeKind, x_typeDetail, x_typeLeast, x_typeMost, x_fieldCount, x_fieldName, x_fieldType, x_fieldNeeded, x_tagType, x_nodeKind, x_nodeValue, x_nodeParent, x_nodeName, x_nodeSlot, x_nodeStart, x_nodeTag, x_completeCount, upd x_openNode d (nI N), upd x_openSlot d (x_nodeSlot N), x_openNames, x_openNext, x_openComma, x_output)) : wpX_enterValue Q (x_length, nI (N + 1), x_bound, x_fault, x_faultPlace, x_mode, x_at, x_tokenStart, x_textCount, x_escaped, x_valueSlot, x_valueName, nI d, x_outputLength, x_text, x_typeKind, x_typeDetail, x_typeLeast, x_typeMost, x_fieldCount, x_fieldName, x_fieldType, x_fieldNeeded, x_tagType, x_nodeKind, x_nodeValue, x_nodeParent, x_nodeName, x_nodeSlot, x_nodeStart, x_nodeTag, x_completeCount, x_openNode, x_openSlot, x_openNames, x_openNext, x_openComma, x_output) 3 c := by
  have eN : (nI N).toNatClampNeg = N := nI_clamp (by omega)
  have iN : vp_in (nI N) 40 := vp_in_nI hN (by decide)
  have ed : (nI d).toNatClampNeg = d := nI_clamp (by omega)
  have i6 : vp_in (nI d) 6 := vp_in_nI hd (by decide)
  refine br_f (by decide) (br_f (by decide) (br_f (by decide) (br_f (by decide) (br_f (by decide) (br_t rfl ?_)))))
  unfold wpX_enterList
  dsimp only
  rw [nI_pred, eN, ed]
  exact ⟨i6, nm_e ⟨iN, i6, nm_e (nm_r (nI_1 d) h)⟩⟩
theorem ev_rec (hN : N < 40) (hd : d < 6) (hs : s < 12) (eS : x_nodeSlot N = nI s) {os om : Int32} (hc : x_typeKind s = 6 ∧ os = -1 ∧ om = (1 : Int32) <<< (x_typeDetail s &&& 31) ∨ ¬ x_typeKind s = 6 ∧ os = nI s ∧ om = 0) (h : Q (x_length, nI (N + 1), x_bound, x_fault, x_faultPlace, 3, x_at, x_tokenStart, x_textCount, x_escaped, x_valueSlot, x_valueName, nI (d + 1), x_outputLength, x_text, x_typeKind, x_typeDetail, x_typeLeast, x_typeMost, x_fieldCount, x_fieldName, x_fieldType, x_fieldNeeded, x_tagType, x_nodeKind, upd x_nodeValue N (x_completeCount s), x_nodeParent, x_nodeName, x_nodeSlot, x_nodeStart, x_nodeTag, x_completeCount, upd x_openNode d (nI N), upd x_openSlot d os, upd x_openNames d om, x_openNext, x_openComma, x_output)) : wpX_enterValue Q (x_length, nI (N + 1), x_bound, x_fault, x_faultPlace, x_mode, x_at, x_tokenStart, x_textCount, x_escaped, x_valueSlot, x_valueName, nI d, x_outputLength, x_text, x_typeKind, x_typeDetail, x_typeLeast, x_typeMost, x_fieldCount, x_fieldName, x_fieldType, x_fieldNeeded, x_tagType, x_nodeKind, x_nodeValue, x_nodeParent, x_nodeName, x_nodeSlot, x_nodeStart, x_nodeTag, x_completeCount, x_openNode, x_openSlot, x_openNames, x_openNext, x_openComma, x_output) 4 c := by
  have eN : (nI N).toNatClampNeg = N := nI_clamp (by omega)
  have iN : vp_in (nI N) 40 := vp_in_nI hN (by decide)
  have ed : (nI d).toNatClampNeg = d := nI_clamp (by omega)
  have es : (nI s).toNatClampNeg = s := nI_clamp (by omega)
  have i6 : vp_in (nI d) 6 := vp_in_nI hd (by decide)
  have is : vp_in (nI s) 12 := vp_in_nI hs (by decide)
  refine br_f (by decide) (br_f (by decide) (br_f (by decide) (br_f (by decide) (br_f (by decide) (br_f (by decide) (br_t rfl ?_))))))
  refine nm_r (nI_pred N) ⟨iN, ?_⟩
  rw [eN]
  refine nm_r eS ⟨is, ?_⟩
  rw [es]
  rcases hc with ⟨k6, rfl, rfl⟩ | ⟨k6, rfl, rfl⟩
  · refine br_t k6 ⟨i6, nm_e (br_f (by decide) ⟨i6, nm_e (br_f (by decide) ⟨is, i6, nm_e ⟨is, iN, nm_e (nm_r (nI_1 d) ?_)⟩⟩)⟩)⟩
    rw [ed, eN, es]; exact h
  · refine br_f k6 ⟨i6, nm_e (br_t rfl ⟨i6, nm_e (br_t rfl ⟨i6, nm_e ⟨is, iN, nm_e (nm_r (nI_1 d) ?_)⟩⟩)⟩)⟩
    rw [ed, eN, es]; exact h
end
