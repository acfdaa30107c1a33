/-! printing: the component's steps -/
section
variable {x_length x_nodeCount x_bound x_fault x_faultPlace x_mode x_at x_tokenStart x_textCount x_escaped x_valueSlot x_valueName : Int32} {x_text x_typeKind x_typeDetail x_typeLeast x_typeMost x_fieldCount x_fieldName x_fieldType x_fieldNeeded x_tagType x_nodeKind x_nodeValue x_nodeParent x_nodeName x_nodeSlot x_nodeStart x_nodeTag x_completeCount x_openNode x_openSlot x_openNames x_openNext x_openComma : Nat → Int32} {d n m : Nat} {o : Nat → Int32} {Q : SX → Prop}
theorem wn_x {v : Int32} {dd : Int32} (hm : m < 70000) (h : Q (x_length, x_nodeCount, x_bound, x_fault, x_faultPlace, x_mode, x_at, x_tokenStart, x_textCount, x_escaped, x_valueSlot, x_valueName, dd, nI (m + 4), x_text, x_typeKind, x_typeDetail, x_typeLeast, x_typeMost, x_fieldCount, x_fieldName, x_fieldType, x_fieldNeeded, x_tagType, x_nodeKind, x_nodeValue, x_nodeParent, x_nodeName, x_nodeSlot, x_nodeStart, x_nodeTag, x_completeCount, x_openNode, x_openSlot, x_openNames, x_openNext, x_openComma, ow_L o m [16, 21 + v, 16, 14])) : wpX_writeName Q (x_length, x_nodeCount, x_bound, x_fault, x_faultPlace, x_mode, x_at, x_tokenStart, x_textCount, x_escaped, x_valueSlot, x_valueName, dd, nI m, x_text, x_typeKind, x_typeDetail, x_typeLeast, x_typeMost, x_fieldCount, x_fieldName, x_fieldType, x_fieldNeeded, x_tagType, x_nodeKind, x_nodeValue, x_nodeParent, x_nodeName, x_nodeSlot, x_nodeStart, x_nodeTag, x_completeCount, x_openNode, x_openSlot, x_openNames, x_openNext, x_openComma, o) v := by
  unfold wpX_writeName
  dsimp only
  exact wr_x (by omega) (wr_x (by omega) (wr_x (by omega) (wr_x (by omega) h)))
theorem wo_l {s : Int32} (hn : n < 40) (hd : d < 6) (hm : m < 70000) (ek : x_nodeKind n = 3) (et : x_nodeTag n = -1) (es : x_nodeSlot n = s)
    (h : Q (x_length, x_nodeCount, x_bound, x_fault, x_faultPlace, x_mode, x_at, x_tokenStart, x_textCount, x_escaped, x_valueSlot, x_valueName, nI (d + 1), nI (m + 1), x_text, x_typeKind, x_typeDetail, x_typeLeast, x_typeMost, x_fieldCount, x_fieldName, x_fieldType, x_fieldNeeded, x_tagType, x_nodeKind, x_nodeValue, x_nodeParent, x_nodeName, x_nodeSlot, x_nodeStart, x_nodeTag, x_completeCount, upd x_openNode d (nI n), upd x_openSlot d s, x_openNames, upd x_openNext d 0, upd x_openComma d 0, ow_L o m [12])) : wpX_writeOpen Q (x_length, x_nodeCount, x_bound, x_fault, x_faultPlace, x_mode, x_at, x_tokenStart, x_textCount, x_escaped, x_valueSlot, x_valueName, nI (d), nI (m), x_text, x_typeKind, x_typeDetail, x_typeLeast, x_typeMost, x_fieldCount, x_fieldName, x_fieldType, x_fieldNeeded, x_tagType, x_nodeKind, x_nodeValue, x_nodeParent, x_nodeName, x_nodeSlot, x_nodeStart, x_nodeTag, x_completeCount, x_openNode, x_openSlot, x_openNames, x_openNext, x_openComma, o) (nI n) := by
  have en : (nI n).toNatClampNeg = n := nI_clamp (by omega)
  have ed : (nI d).toNatClampNeg = d := nI_clamp (by omega)
  have vn : vp_in (nI n) 40 := vp_in_nI hn (by decide)
  have vd : vp_in (nI d) 6 := vp_in_nI hd (by decide)
  refine ⟨vn, br_t (by rw [en]; exact ek) ⟨vn, br_t (by rw [en]; exact et) ⟨vn, nm_r (show x_nodeSlot (nI n).toNatClampNeg = s by rw [en]; exact es) (br_f (by decide) ?_)⟩⟩⟩
  unfold wX_writeOpen_52
  refine wr_x (by omega) (br_t rfl ⟨vd, ?_⟩)
  rw [ed]
  refine nm_e (br_t rfl ⟨vd, ?_⟩)
  rw [ed]
  exact nm_e ⟨vd, nm_e ⟨vd, nm_e (nm_r (nI_1 d) h)⟩⟩
theorem wo_r {s : Int32} (hn : n < 40) (hd : d < 6) (hm : m < 70000) (ek : x_nodeKind n = 4) (et : x_nodeTag n = -1) (es : x_nodeSlot n = s)
    (h : Q (x_length, x_nodeCount, x_bound, x_fault, x_faultPlace, x_mode, x_at, x_tokenStart, x_textCount, x_escaped, x_valueSlot, x_valueName, nI (d + 1), nI (m + 1), x_text, x_typeKind, x_typeDetail, x_typeLeast, x_typeMost, x_fieldCount, x_fieldName, x_fieldType, x_fieldNeeded, x_tagType, x_nodeKind, x_nodeValue, x_nodeParent, x_nodeName, x_nodeSlot, x_nodeStart, x_nodeTag, x_completeCount, upd x_openNode d (nI n), upd x_openSlot d s, x_openNames, upd x_openNext d 0, upd x_openComma d 0, ow_L o m [10])) : wpX_writeOpen Q (x_length, x_nodeCount, x_bound, x_fault, x_faultPlace, x_mode, x_at, x_tokenStart, x_textCount, x_escaped, x_valueSlot, x_valueName, nI (d), nI (m), x_text, x_typeKind, x_typeDetail, x_typeLeast, x_typeMost, x_fieldCount, x_fieldName, x_fieldType, x_fieldNeeded, x_tagType, x_nodeKind, x_nodeValue, x_nodeParent, x_nodeName, x_nodeSlot, x_nodeStart, x_nodeTag, x_completeCount, x_openNode, x_openSlot, x_openNames, x_openNext, x_openComma, o) (nI n) := by
  have en : (nI n).toNatClampNeg = n := nI_clamp (by omega)
  have ed : (nI d).toNatClampNeg = d := nI_clamp (by omega)
  have vn : vp_in (nI n) 40 := vp_in_nI hn (by decide)
  have vd : vp_in (nI d) 6 := vp_in_nI hd (by decide)
  refine ⟨vn, br_f (by rw [en, ek]; decide) ⟨vn, br_t (by rw [en]; exact et) ⟨vn, nm_r (show x_nodeSlot (nI n).toNatClampNeg = s by rw [en]; exact es) (br_t rfl ?_)⟩⟩⟩
  unfold wX_writeOpen_52
  refine wr_x (by omega) (br_t rfl ⟨vd, ?_⟩)
  rw [ed]
  refine nm_e (br_t rfl ⟨vd, ?_⟩)
  rw [ed]
  exact nm_e ⟨vd, nm_e ⟨vd, nm_e (nm_r (nI_1 d) h)⟩⟩
theorem wo_t {s : Nat} {rs : Int32} (hn : n < 40) (hs : s < 12) (hd : d < 6) (hm : m < 69000) (ek : x_nodeKind n = 4) {g : Int32} (et : x_nodeTag n = g) (hg : ¬ g = -1) (es : x_nodeSlot n = nI s) (ev : x_nodeValue n = rs)
    (h : Q (x_length, x_nodeCount, x_bound, x_fault, x_faultPlace, x_mode, x_at, x_tokenStart, x_textCount, x_escaped, x_valueSlot, x_valueName, nI (d + 1), nI (m + 6), x_text, x_typeKind, x_typeDetail, x_typeLeast, x_typeMost, x_fieldCount, x_fieldName, x_fieldType, x_fieldNeeded, x_tagType, x_nodeKind, x_nodeValue, x_nodeParent, x_nodeName, x_nodeSlot, x_nodeStart, x_nodeTag, x_completeCount, upd x_openNode d (nI n), upd x_openSlot d rs, x_openNames, upd x_openNext d 0, upd x_openComma d 1, ow_L o m [10, 16, 21 + x_typeDetail s, 16, 14, g])) : wpX_writeOpen Q (x_length, x_nodeCount, x_bound, x_fault, x_faultPlace, x_mode, x_at, x_tokenStart, x_textCount, x_escaped, x_valueSlot, x_valueName, nI (d), nI (m), x_text, x_typeKind, x_typeDetail, x_typeLeast, x_typeMost, x_fieldCount, x_fieldName, x_fieldType, x_fieldNeeded, x_tagType, x_nodeKind, x_nodeValue, x_nodeParent, x_nodeName, x_nodeSlot, x_nodeStart, x_nodeTag, x_completeCount, x_openNode, x_openSlot, x_openNames, x_openNext, x_openComma, o) (nI n) := by
  have en : (nI n).toNatClampNeg = n := nI_clamp (by omega)
  have ed : (nI d).toNatClampNeg = d := nI_clamp (by omega)
  have vn : vp_in (nI n) 40 := vp_in_nI hn (by decide)
  have vd : vp_in (nI d) 6 := vp_in_nI hd (by decide)
  refine ⟨vn, br_f (by rw [en, ek]; decide) ⟨vn, br_f (by rw [en, et]; exact hg) ⟨vn, nm_r (show x_nodeSlot (nI n).toNatClampNeg = nI s by rw [en]; exact es) (br_t rfl ?_)⟩⟩⟩
  unfold wX_writeOpen_52
  refine wr_x (by omega) (br_f (by decide) ⟨vp_in_nI hs (by decide), ?_⟩)
  rw [show (nI s).toNatClampNeg = s from nI_clamp (by omega)]
  refine wn_x (m := m + 1) (by omega) ⟨vn, ?_⟩
  rw [en, et]
  refine wr_x (by omega) ⟨vd, ?_⟩
  rw [ed]
  refine nm_e (br_f (by decide) ⟨vn, ?_⟩)
  rw [en, ev]
  refine ⟨vd, ?_⟩
  rw [ed]
  exact nm_e ⟨vd, nm_e ⟨vd, nm_e (nm_r (nI_1 d) h)⟩⟩
end
section
variable {x_length x_nodeCount x_bound x_fault x_faultPlace x_mode x_at x_tokenStart x_textCount x_escaped x_valueSlot x_valueName x_outputLength : Int32} {x_text x_typeKind x_typeDetail x_typeLeast x_typeMost x_fieldCount x_fieldName x_fieldType x_fieldNeeded x_tagType x_nodeKind x_nodeValue x_nodeParent x_nodeName x_nodeSlot x_nodeStart x_nodeTag x_completeCount x_openNode x_openSlot x_openNames x_openNext x_openComma x_output : Nat → Int32} {d n : Nat}
theorem nc_l {post : Int32 → SX → Prop} {N k : Nat} {r : Int32} (hN : N ≤ 40) (hn : n < N) (hd : d < 6) (hk : k < 100) (ec : x_nodeCount = nI N) (eo : x_openNode d = nI n) (ek : x_nodeKind n = 3) (ex : x_openNext d = nI k) (hr : fd_R N x_nodeParent x_nodeName (nI n) (nI k) r)
    (h : post r (x_length, x_nodeCount, x_bound, x_fault, x_faultPlace, x_mode, x_at, x_tokenStart, x_textCount, x_escaped, x_valueSlot, x_valueName, nI (d + 1), x_outputLength, x_text, x_typeKind, x_typeDetail, x_typeLeast, x_typeMost, x_fieldCount, x_fieldName, x_fieldType, x_fieldNeeded, x_tagType, x_nodeKind, x_nodeValue, x_nodeParent, x_nodeName, x_nodeSlot, x_nodeStart, x_nodeTag, x_completeCount, x_openNode, x_openSlot, x_openNames, upd x_openNext d (nI (k + 1)), x_openComma, x_output)) : wpX_nextChild post (x_length, x_nodeCount, x_bound, x_fault, x_faultPlace, x_mode, x_at, x_tokenStart, x_textCount, x_escaped, x_valueSlot, x_valueName, nI (d + 1), x_outputLength, x_text, x_typeKind, x_typeDetail, x_typeLeast, x_typeMost, x_fieldCount, x_fieldName, x_fieldType, x_fieldNeeded, x_tagType, x_nodeKind, x_nodeValue, x_nodeParent, x_nodeName, x_nodeSlot, x_nodeStart, x_nodeTag, x_completeCount, x_openNode, x_openSlot, x_openNames, x_openNext, x_openComma, x_output) := by
  have ed : (nI d).toNatClampNeg = d := nI_clamp (by omega)
  have vd : vp_in (nI d) 6 := vp_in_nI hd (by decide)
  subst ec
  refine nm_r (nI_pred d) ⟨vd, nm_r (show x_openNode (nI d).toNatClampNeg = nI n by rw [ed]; exact eo) (xi_l hd (by omega) eo ek (br_f (by decide) ⟨vd, nm_r (show x_openNext (nI d).toNatClampNeg = nI k by rw [ed]; exact ex) ⟨vd, vd, ?_⟩⟩))⟩
  rw [ed, ex, nI_1]
  exact nm_e (fc_x hN hr h)
theorem nc_w {post : Int32 → SX → Prop} {N rs mq : Nat} {rr : Nat → Int32} (hN : N ≤ 40) (hd : d < 6) (hrs : rs < 12) (hq : mq ≤ 4) (ec : x_nodeCount = nI N) (ef : x_fieldCount rs = nI mq) (hrr : ∀ i, i < mq → fd_R N x_nodeParent x_nodeName (nI n) (x_fieldName (4 * rs + i)) (rr i)) {k : Nat}
    (h : (∃ i, k ≤ i ∧ i < mq ∧ (∀ j, k ≤ j → j < i → rr j = -1) ∧ ¬ rr i = -1 ∧ post (rr i) (x_length, x_nodeCount, x_bound, x_fault, x_faultPlace, x_mode, x_at, x_tokenStart, x_textCount, x_escaped, x_valueSlot, x_valueName, nI (d + 1), x_outputLength, x_text, x_typeKind, x_typeDetail, x_typeLeast, x_typeMost, x_fieldCount, x_fieldName, x_fieldType, x_fieldNeeded, x_tagType, x_nodeKind, x_nodeValue, x_nodeParent, x_nodeName, x_nodeSlot, x_nodeStart, x_nodeTag, x_completeCount, x_openNode, x_openSlot, x_openNames, upd x_openNext d (nI (i + 1)), x_openComma, x_output)) ∨ (∀ j, k ≤ j → j < mq → rr j = -1) ∧ post (-1) (x_length, x_nodeCount, x_bound, x_fault, x_faultPlace, x_mode, x_at, x_tokenStart, x_textCount, x_escaped, x_valueSlot, x_valueName, nI (d + 1), x_outputLength, x_text, x_typeKind, x_typeDetail, x_typeLeast, x_typeMost, x_fieldCount, x_fieldName, x_fieldType, x_fieldNeeded, x_tagType, x_nodeKind, x_nodeValue, x_nodeParent, x_nodeName, x_nodeSlot, x_nodeStart, x_nodeTag, x_completeCount, x_openNode, x_openSlot, x_openNames, x_openNext, x_openComma, x_output)) : ∀ (j i : Nat), i + j = mq → k ≤ i → (∀ j, k ≤ j → j < i → rr j = -1) → ∃ fu, wX_nextChild_60 post (nI d) (nI n) (nI rs) x_length x_nodeCount x_bound x_fault x_faultPlace x_mode x_at x_tokenStart x_textCount x_escaped x_valueSlot x_valueName (nI (d + 1)) x_outputLength x_text x_typeKind x_typeDetail x_typeLeast x_typeMost x_fieldCount x_fieldName x_fieldType x_fieldNeeded x_tagType x_nodeKind x_nodeValue x_nodeParent x_nodeName x_nodeSlot x_nodeStart x_nodeTag x_completeCount x_openNode x_openSlot x_openNames x_openNext x_openComma x_output fu (nI i) := by
  have ed : (nI d).toNatClampNeg = d := nI_clamp (by omega)
  have er : (nI rs).toNatClampNeg = rs := nI_clamp (by omega)
  have vd : vp_in (nI d) 6 := vp_in_nI hd (by decide)
  subst ec
  intro j
  induction j with
  | zero =>
    intro i hi hk hb
    have : i = mq := by omega
    subst this
    refine ⟨0 + 1, And.intro (vp_in_nI hrs (by decide)) ?_⟩
    rw [er, ef]
    refine br_t (nI_le (Nat.le_refl i) (by omega)) ?_
    rcases h with ⟨i', h1, h2, -, h4, -⟩ | ⟨-, h2⟩
    · exact absurd (hb i' h1 h2) h4
    · exact h2
  | succ j ih =>
    intro i hi hk hb
    have e4 : nI rs * 4 + nI i = nI (4 * rs + i) := by
      rw [show nI rs * 4 = 4 * nI rs from by grind, pq_4, nI_add]
    by_cases z : rr i = -1
    · obtain ⟨fu, hf⟩ := ih (i + 1) (by omega) (by omega) (fun j h1 h2 => by
        rcases Nat.lt_or_ge j i with w | w
        · exact hb j h1 w
        · have : j = i := by omega
          subst this; exact z)
      refine ⟨fu + 1, And.intro (vp_in_nI hrs (by decide)) ?_⟩
      rw [er, ef]
      refine br_f (nI_ge (by omega) (by omega)) ?_
      rw [e4]
      refine ⟨vp_in_nI (by omega) (by decide), ?_⟩
      rw [show (nI (4 * rs + i)).toNatClampNeg = 4 * rs + i from nI_clamp (by omega)]
      exact fc_x hN (hrr i (by omega)) (br_t z (nm_r (nI_1 i) hf))
    · refine ⟨0 + 1, And.intro (vp_in_nI hrs (by decide)) ?_⟩
      rw [er, ef]
      refine br_f (nI_ge (by omega) (by omega)) ?_
      rw [e4]
      refine ⟨vp_in_nI (by omega) (by decide), ?_⟩
      rw [show (nI (4 * rs + i)).toNatClampNeg = 4 * rs + i from nI_clamp (by omega)]
      refine fc_x hN (hrr i (by omega)) (br_f z ⟨vd, ?_⟩)
      rw [ed, nI_1]
      refine nm_e ?_
      rcases h with ⟨i', h1, h2, h3, h4, h5⟩ | ⟨h1, -⟩
      · have : i' = i := by
          rcases Nat.lt_or_ge i' i with w | w
          · exact absurd (hb i' h1 w) h4
          · rcases Nat.lt_or_ge i i' with w2 | w2
            · exact absurd (h3 i hk w2) z
            · omega
        subst this; exact h5
      · exact absurd (h1 i hk (by omega)) z
theorem nc_r {post : Int32 → SX → Prop} {N rs mq : Nat} {rr : Nat → Int32} (hN : N ≤ 40) (hn : n < N) (hd : d < 6) (hrs : rs < 12) (hq : mq ≤ 4) (ec : x_nodeCount = nI N) (ef : x_fieldCount rs = nI mq) (hrr : ∀ i, i < mq → fd_R N x_nodeParent x_nodeName (nI n) (x_fieldName (4 * rs + i)) (rr i)) (eo : x_openNode d = nI n) (ek : ¬ x_nodeKind n = 3) (eS : x_openSlot d = nI rs) {k : Nat} (ex : x_openNext d = nI k) (hk : k ≤ mq)
    (h : (∃ i, k ≤ i ∧ i < mq ∧ (∀ j, k ≤ j → j < i → rr j = -1) ∧ ¬ rr i = -1 ∧ post (rr i) (x_length, x_nodeCount, x_bound, x_fault, x_faultPlace, x_mode, x_at, x_tokenStart, x_textCount, x_escaped, x_valueSlot, x_valueName, nI (d + 1), x_outputLength, x_text, x_typeKind, x_typeDetail, x_typeLeast, x_typeMost, x_fieldCount, x_fieldName, x_fieldType, x_fieldNeeded, x_tagType, x_nodeKind, x_nodeValue, x_nodeParent, x_nodeName, x_nodeSlot, x_nodeStart, x_nodeTag, x_completeCount, x_openNode, x_openSlot, x_openNames, upd x_openNext d (nI (i + 1)), x_openComma, x_output)) ∨ (∀ j, k ≤ j → j < mq → rr j = -1) ∧ post (-1) (x_length, x_nodeCount, x_bound, x_fault, x_faultPlace, x_mode, x_at, x_tokenStart, x_textCount, x_escaped, x_valueSlot, x_valueName, nI (d + 1), x_outputLength, x_text, x_typeKind, x_typeDetail, x_typeLeast, x_typeMost, x_fieldCount, x_fieldName, x_fieldType, x_fieldNeeded, x_tagType, x_nodeKind, x_nodeValue, x_nodeParent, x_nodeName, x_nodeSlot, x_nodeStart, x_nodeTag, x_completeCount, x_openNode, x_openSlot, x_openNames, x_openNext, x_openComma, x_output)) : wpX_nextChild post (x_length, x_nodeCount, x_bound, x_fault, x_faultPlace, x_mode, x_at, x_tokenStart, x_textCount, x_escaped, x_valueSlot, x_valueName, nI (d + 1), x_outputLength, x_text, x_typeKind, x_typeDetail, x_typeLeast, x_typeMost, x_fieldCount, x_fieldName, x_fieldType, x_fieldNeeded, x_tagType, x_nodeKind, x_nodeValue, x_nodeParent, x_nodeName, x_nodeSlot, x_nodeStart, x_nodeTag, x_completeCount, x_openNode, x_openSlot, x_openNames, x_openNext, x_openComma, x_output) := by
  have ed : (nI d).toNatClampNeg = d := nI_clamp (by omega)
  have vd : vp_in (nI d) 6 := vp_in_nI hd (by decide)
  refine nm_r (nI_pred d) ⟨vd, nm_r (show x_openNode (nI d).toNatClampNeg = nI n by rw [ed]; exact eo) (xi_r hd (by omega) eo ek (br_t rfl ⟨vd, nm_r (show x_openSlot (nI d).toNatClampNeg = nI rs by rw [ed]; exact eS) ⟨vd, nm_r (show x_openNext (nI d).toNatClampNeg = nI k by rw [ed]; exact ex) ?_⟩⟩))⟩
  exact nc_w hN hd hrs hq ec ef hrr h (mq - k) k (by omega) (Nat.le_refl k) (fun j h1 h2 => absurd h2 (by omega))
end
section
variable {x_length x_nodeCount x_bound x_fault x_faultPlace x_mode x_at x_tokenStart x_textCount x_escaped x_valueSlot x_valueName : Int32} {x_text x_typeKind x_typeDetail x_typeLeast x_typeMost x_fieldCount x_fieldName x_fieldType x_fieldNeeded x_tagType x_nodeKind x_nodeValue x_nodeParent x_nodeName x_nodeSlot x_nodeStart x_nodeTag x_completeCount x_openNode x_openSlot x_openNames x_openNext x_openComma : Nat → Int32} {d n m : Nat} {o : Nat → Int32} {Q : SX → Prop}
theorem wc_l (hd : d < 6) (hn : n < 40) (hm : m < 70000) (eo : x_openNode d = nI n) (ek : x_nodeKind n = 3) (h : Q (x_length, x_nodeCount, x_bound, x_fault, x_faultPlace, x_mode, x_at, x_tokenStart, x_textCount, x_escaped, x_valueSlot, x_valueName, nI (d), nI (m + 1), x_text, x_typeKind, x_typeDetail, x_typeLeast, x_typeMost, x_fieldCount, x_fieldName, x_fieldType, x_fieldNeeded, x_tagType, x_nodeKind, x_nodeValue, x_nodeParent, x_nodeName, x_nodeSlot, x_nodeStart, x_nodeTag, x_completeCount, x_openNode, x_openSlot, x_openNames, x_openNext, x_openComma, ow_1 o m 13)) : wpX_writeClose Q (x_length, x_nodeCount, x_bound, x_fault, x_faultPlace, x_mode, x_at, x_tokenStart, x_textCount, x_escaped, x_valueSlot, x_valueName, nI (d + 1), nI (m), x_text, x_typeKind, x_typeDetail, x_typeLeast, x_typeMost, x_fieldCount, x_fieldName, x_fieldType, x_fieldNeeded, x_tagType, x_nodeKind, x_nodeValue, x_nodeParent, x_nodeName, x_nodeSlot, x_nodeStart, x_nodeTag, x_completeCount, x_openNode, x_openSlot, x_openNames, x_openNext, x_openComma, o) := by
  unfold wpX_writeClose
  refine xi_l hd hn eo ek (br_f (by decide) ?_)
  unfold wX_writeClose_17
  exact wr_x (by omega) (nm_r (nI_pred d) h)
theorem wc_r (hd : d < 6) (hn : n < 40) (hm : m < 70000) (eo : x_openNode d = nI n) (ek : ¬ x_nodeKind n = 3) (h : Q (x_length, x_nodeCount, x_bound, x_fault, x_faultPlace, x_mode, x_at, x_tokenStart, x_textCount, x_escaped, x_valueSlot, x_valueName, nI (d), nI (m + 1), x_text, x_typeKind, x_typeDetail, x_typeLeast, x_typeMost, x_fieldCount, x_fieldName, x_fieldType, x_fieldNeeded, x_tagType, x_nodeKind, x_nodeValue, x_nodeParent, x_nodeName, x_nodeSlot, x_nodeStart, x_nodeTag, x_completeCount, x_openNode, x_openSlot, x_openNames, x_openNext, x_openComma, ow_1 o m 11)) : wpX_writeClose Q (x_length, x_nodeCount, x_bound, x_fault, x_faultPlace, x_mode, x_at, x_tokenStart, x_textCount, x_escaped, x_valueSlot, x_valueName, nI (d + 1), nI (m), x_text, x_typeKind, x_typeDetail, x_typeLeast, x_typeMost, x_fieldCount, x_fieldName, x_fieldType, x_fieldNeeded, x_tagType, x_nodeKind, x_nodeValue, x_nodeParent, x_nodeName, x_nodeSlot, x_nodeStart, x_nodeTag, x_completeCount, x_openNode, x_openSlot, x_openNames, x_openNext, x_openComma, o) := by
  unfold wpX_writeClose
  refine xi_r hd hn eo ek (br_t rfl ?_)
  unfold wX_writeClose_17
  exact wr_x (by omega) (nm_r (nI_pred d) h)
theorem wl_l {k : Nat} {r : Int32} (hd : d < 6) (hn : n < 40) (hm : m < 70000) (eo : x_openNode d = nI n) (ek : x_nodeKind n = 3) (h0 : k = 0 → x_openComma d = 0) (h1 : ¬ k = 0 → x_openComma d = 1)
    (h : Q (x_length, x_nodeCount, x_bound, x_fault, x_faultPlace, x_mode, x_at, x_tokenStart, x_textCount, x_escaped, x_valueSlot, x_valueName, nI (d + 1), nI (m + (if k = 0 then ([] : List Int32) else [15]).length), x_text, x_typeKind, x_typeDetail, x_typeLeast, x_typeMost, x_fieldCount, x_fieldName, x_fieldType, x_fieldNeeded, x_tagType, x_nodeKind, x_nodeValue, x_nodeParent, x_nodeName, x_nodeSlot, x_nodeStart, x_nodeTag, x_completeCount, x_openNode, x_openSlot, x_openNames, x_openNext, upd x_openComma d 1, ow_L o m (if k = 0 then [] else [15]))) : wpX_writeLead Q (x_length, x_nodeCount, x_bound, x_fault, x_faultPlace, x_mode, x_at, x_tokenStart, x_textCount, x_escaped, x_valueSlot, x_valueName, nI (d + 1), nI (m), x_text, x_typeKind, x_typeDetail, x_typeLeast, x_typeMost, x_fieldCount, x_fieldName, x_fieldType, x_fieldNeeded, x_tagType, x_nodeKind, x_nodeValue, x_nodeParent, x_nodeName, x_nodeSlot, x_nodeStart, x_nodeTag, x_completeCount, x_openNode, x_openSlot, x_openNames, x_openNext, x_openComma, o) r := by
  have ed : (nI d).toNatClampNeg = d := nI_clamp (by omega)
  have vd : vp_in (nI d) 6 := vp_in_nI hd (by decide)
  refine nm_r (nI_pred d) ⟨vd, ?_⟩
  rw [ed]
  by_cases z : k = 0
  · rw [if_pos z] at h
    refine br_t (h0 z) ⟨vd, ?_⟩
    rw [ed]
    exact nm_e (xi_l hd hn eo ek (br_f (by decide) h))
  · rw [if_neg z] at h
    refine br_f (by rw [h1 z]; decide) (wr_x (by omega) ⟨vd, ?_⟩)
    rw [ed]
    exact nm_e (xi_l hd hn eo ek (br_f (by decide) h))
theorem wl_r {k c : Nat} {v : Int32} (hd : d < 6) (hn : n < 40) (hc : c < 40) (hm : m < 69000) (eo : x_openNode d = nI n) (ek : ¬ x_nodeKind n = 3) (h0 : k = 0 → x_openComma d = 0) (h1 : ¬ k = 0 → x_openComma d = 1) (ev : x_nodeName c = v)
    (h : Q (x_length, x_nodeCount, x_bound, x_fault, x_faultPlace, x_mode, x_at, x_tokenStart, x_textCount, x_escaped, x_valueSlot, x_valueName, nI (d + 1), nI (m + ((if k = 0 then ([] : List Int32) else [15]) ++ [16, 21 + v, 16, 14]).length), x_text, x_typeKind, x_typeDetail, x_typeLeast, x_typeMost, x_fieldCount, x_fieldName, x_fieldType, x_fieldNeeded, x_tagType, x_nodeKind, x_nodeValue, x_nodeParent, x_nodeName, x_nodeSlot, x_nodeStart, x_nodeTag, x_completeCount, x_openNode, x_openSlot, x_openNames, x_openNext, upd x_openComma d 1, ow_L o m ((if k = 0 then [] else [15]) ++ [16, 21 + v, 16, 14]))) : wpX_writeLead Q (x_length, x_nodeCount, x_bound, x_fault, x_faultPlace, x_mode, x_at, x_tokenStart, x_textCount, x_escaped, x_valueSlot, x_valueName, nI (d + 1), nI (m), x_text, x_typeKind, x_typeDetail, x_typeLeast, x_typeMost, x_fieldCount, x_fieldName, x_fieldType, x_fieldNeeded, x_tagType, x_nodeKind, x_nodeValue, x_nodeParent, x_nodeName, x_nodeSlot, x_nodeStart, x_nodeTag, x_completeCount, x_openNode, x_openSlot, x_openNames, x_openNext, x_openComma, o) (nI c) := by
  have ed : (nI d).toNatClampNeg = d := nI_clamp (by omega)
  have ec : (nI c).toNatClampNeg = c := nI_clamp (by omega)
  have vd : vp_in (nI d) 6 := vp_in_nI hd (by decide)
  refine nm_r (nI_pred d) ⟨vd, ?_⟩
  rw [ed]
  by_cases z : k = 0
  · rw [if_pos z] at h
    refine br_t (h0 z) ⟨vd, ?_⟩
    rw [ed]
    refine nm_e (xi_r hd hn eo ek (br_t rfl ⟨vp_in_nI hc (by decide), ?_⟩))
    rw [ec, ev]
    exact wn_x (by omega) h
  · rw [if_neg z] at h
    refine br_f (by rw [h1 z]; decide) (wr_x (by omega) ⟨vd, ?_⟩)
    rw [ed]
    refine nm_e (xi_r hd hn eo ek (br_t rfl ⟨vp_in_nI hc (by decide), ?_⟩))
    rw [ec, ev]
    exact wn_x (by omega) h
end
