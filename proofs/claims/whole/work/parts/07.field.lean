/-! field, and the beginning -/
def ff_F (fN : Nat → Int32) (s : Nat) (nm : Int32) : Nat → Nat → Int32
  | 0, _ => -1
  | m + 1, i => if fN (4 * s + i) = nm then nI (4 * s + i) else ff_F fN s nm m (i + 1)
theorem ff_S (fN : Nat → Int32) (s : Nat) (nm : Int32) : ∀ m i, (ff_F fN s nm m i = -1 ∧ ∀ j, i ≤ j → j < i + m → fN (4 * s + j) ≠ nm) ∨ ∃ j, i ≤ j ∧ j < i + m ∧ ff_F fN s nm m i = nI (4 * s + j) ∧ fN (4 * s + j) = nm
  | 0, i => Or.inl ⟨rfl, fun j h1 h2 => absurd h2 (by omega)⟩
  | m + 1, i => by
    unfold ff_F
    by_cases z : fN (4 * s + i) = nm
    · rw [if_pos z]; exact Or.inr ⟨i, by omega, by omega, rfl, z⟩
    · rw [if_neg z]
      rcases ff_S fN s nm m (i + 1) with ⟨a, b⟩ | ⟨j, a, b, c, d⟩
      · refine Or.inl ⟨a, fun j h1 h2 => ?_⟩
        rcases Nat.lt_or_ge i j with w | w
        · exact b j w (by omega)
        · have : j = i := by omega
          subst this; exact z
      · exact Or.inr ⟨j, by omega, by omega, c, d⟩
theorem hh_rg (x : Int32) (n : Nat) (hn : n < 1000) : (x < 0 ∨ nI n ≤ x) ∨ ∃ c, c < n ∧ x = nI c := by
  rcases pk_ix x (n := n) (by omega) with h | h | h
  · exact Or.inl (Or.inl h)
  · exact Or.inl (Or.inr h)
  · exact Or.inr h
section
variable {x_length x_nodeCount x_bound x_fault x_faultPlace x_mode x_at x_tokenStart x_textCount x_escaped x_valueSlot x_valueName x_depth x_outputLength : Int32} {x_text x_typeKind x_typeDetail x_typeLeast x_typeMost x_fieldCount x_fieldName x_fieldType x_fieldNeeded x_tagType x_nodeKind x_nodeValue x_nodeParent x_nodeName x_nodeSlot x_nodeStart x_nodeTag x_completeCount x_openNode x_openSlot x_openNames x_openNext x_openComma x_output : Nat → Int32} {y_length y_parts y_bad y_nodes y_fault y_place y_bound y_depth y_nextName y_wantsName y_wantsTag y_printed y_waiting y_scaled : Int32} {y_sort y_typeA y_typeB y_typeC y_fieldName y_fieldType y_fields y_tags y_needed y_text y_begin y_end y_inside y_whole y_kind y_value y_parent y_name y_slotOf y_placeOf y_complete y_openNode y_openType y_openCount y_openNames y_openChoice y_output y_todo : Nat → Int32}
theorem xf_loop {post : Int32 → Prop} {s M : Nat} (hs : s < 12) (hM : M ≤ 4) (hc : x_fieldCount s = nI M) {nm : Int32} : ∀ m i, i + m = M → post (ff_F x_fieldName s nm m i) → wX_findField_2 post (nI s) nm x_length x_nodeCount x_bound x_fault x_faultPlace x_mode x_at x_tokenStart x_textCount x_escaped x_valueSlot x_valueName x_depth x_outputLength x_text x_typeKind x_typeDetail x_typeLeast x_typeMost x_fieldCount x_fieldName x_fieldType x_fieldNeeded x_tagType x_nodeKind x_nodeValue x_nodeParent x_nodeName x_nodeSlot x_nodeStart x_nodeTag x_completeCount x_openNode x_openSlot x_openNames x_openNext x_openComma x_output (m + 1) (nI i) := by
  have es : (nI s).toNatClampNeg = s := nI_clamp (by omega)
  have iS : vp_in (nI s) 12 := vp_in_nI hs (by decide)
  intro m
  induction m with
  | zero =>
    intro i hi h
    refine And.intro iS (br_t ?_ h)
    rw [es, hc]; exact nI_le (by omega) (by omega)
  | succ m ih =>
    intro i hi h
    have e1 : nI s * 4 + nI i = nI (4 * s + i) := by
      show nI s * nI 4 + nI i = _
      rw [pk_mul, nI_add, Nat.mul_comm]
    have e3 : (nI (4 * s + i)).toNatClampNeg = 4 * s + i := nI_clamp (by omega)
    refine And.intro iS (br_f ?_ (nm_r e1 (And.intro (vp_in_nI (by omega) (by decide)) ?_)))
    · rw [es, hc]; exact nI_ge (by omega) (by omega)
    · unfold ff_F at h
      rw [e3]
      by_cases z : x_fieldName (4 * s + i) = nm
      · rw [if_pos z] at h; exact br_t z h
      · rw [if_neg z] at h; exact br_f z (nm_r (nI_1 i) (ih (i + 1) (by omega) h))
theorem xf_find {post : Int32 → Prop} {s M : Nat} (hs : s < 12) (hM : M ≤ 4) (hc : x_fieldCount s = nI M) {nm : Int32} (h : post (ff_F x_fieldName s nm M 0)) : wpX_findField post (x_length, x_nodeCount, x_bound, x_fault, x_faultPlace, x_mode, x_at, x_tokenStart, x_textCount, x_escaped, x_valueSlot, x_valueName, x_depth, x_outputLength, x_text, x_typeKind, x_typeDetail, x_typeLeast, x_typeMost, x_fieldCount, x_fieldName, x_fieldType, x_fieldNeeded, x_tagType, x_nodeKind, x_nodeValue, x_nodeParent, x_nodeName, x_nodeSlot, x_nodeStart, x_nodeTag, x_completeCount, x_openNode, x_openSlot, x_openNames, x_openNext, x_openComma, x_output) (nI s) nm :=
  ⟨M + 1, xf_loop hs hM hc M 0 (by omega) h⟩
theorem yf_loop {post : Int32 → Prop} {s M : Nat} (hs : s < 12) (hM : M ≤ 4) (hc : y_fields s = nI M) {nm : Int32} : ∀ m i, i + m = M → post (ff_F y_fieldName s nm m i) → wY_fieldOf_4 post (nI s) nm y_length y_parts y_bad y_nodes y_fault y_place y_bound y_depth y_nextName y_wantsName y_wantsTag y_printed y_waiting y_scaled y_sort y_typeA y_typeB y_typeC y_fieldName y_fieldType y_fields y_tags y_needed y_text y_begin y_end y_inside y_whole y_kind y_value y_parent y_name y_slotOf y_placeOf y_complete y_openNode y_openType y_openCount y_openNames y_openChoice y_output y_todo (m + 1) (nI (4 * s + i)) := by
  have es : (nI s).toNatClampNeg = s := nI_clamp (by omega)
  have iS : vp_in (nI s) 12 := vp_in_nI hs (by decide)
  have e4 : (4 : Int32) * nI s + nI M = nI (4 * s + M) := by
    show nI 4 * nI s + nI M = _
    rw [pk_mul, nI_add]
  intro m
  induction m with
  | zero =>
    intro i hi h
    refine And.intro iS (br_t ?_ h)
    rw [es, hc, e4]; exact nI_le (by omega) (by omega)
  | succ m ih =>
    intro i hi h
    have e3 : (nI (4 * s + i)).toNatClampNeg = 4 * s + i := nI_clamp (by omega)
    refine And.intro iS (br_f ?_ (And.intro (vp_in_nI (by omega) (by decide)) ?_))
    · rw [es, hc, e4]; exact nI_ge (by omega) (by omega)
    · unfold ff_F at h
      rw [e3]
      by_cases z : y_fieldName (4 * s + i) = nm
      · rw [if_pos z] at h; exact br_t z h
      · rw [if_neg z] at h; exact br_f z (nm_r (nI_1 _) (ih (i + 1) (by omega) h))
theorem yf_find {post : Int32 → Prop} {s M : Nat} (hs : s < 12) (hM : M ≤ 4) (hc : y_fields s = nI M) {nm : Int32} (h : post (ff_F y_fieldName s nm M 0)) : wpY_fieldOf post (y_length, y_parts, y_bad, y_nodes, y_fault, y_place, y_bound, y_depth, y_nextName, y_wantsName, y_wantsTag, y_printed, y_waiting, y_scaled, y_sort, y_typeA, y_typeB, y_typeC, y_fieldName, y_fieldType, y_fields, y_tags, y_needed, y_text, y_begin, y_end, y_inside, y_whole, y_kind, y_value, y_parent, y_name, y_slotOf, y_placeOf, y_complete, y_openNode, y_openType, y_openCount, y_openNames, y_openChoice, y_output, y_todo) (nI s) nm := by
  have e4 : (4 : Int32) * nI s = nI (4 * s + 0) := by
    show nI 4 * nI s = _
    rw [pk_mul]; rfl
  exact nm_r e4 ⟨M + 1, yf_loop hs hM hc M 0 (by omega) h⟩
theorem yf_no {post : Int32 → SY → Prop} {s : Nat} (hs : s < 12) {v2 v3 b : Int32} (h : ¬ y_sort s = 5 ∨ (v2 < 0 ∨ nI 6 ≤ v2) ∨ (v3 < 0 ∨ nI 12 ≤ v3)) (hp : post 0 (y_length, y_parts, y_bad, y_nodes, y_fault, y_place, y_bound, y_depth, y_nextName, y_wantsName, y_wantsTag, y_printed, y_waiting, y_scaled, y_sort, y_typeA, y_typeB, y_typeC, y_fieldName, y_fieldType, y_fields, y_tags, y_needed, y_text, y_begin, y_end, y_inside, y_whole, y_kind, y_value, y_parent, y_name, y_slotOf, y_placeOf, y_complete, y_openNode, y_openType, y_openCount, y_openNames, y_openChoice, y_output, y_todo)) : wpY_field post (y_length, y_parts, y_bad, y_nodes, y_fault, y_place, y_bound, y_depth, y_nextName, y_wantsName, y_wantsTag, y_printed, y_waiting, y_scaled, y_sort, y_typeA, y_typeB, y_typeC, y_fieldName, y_fieldType, y_fields, y_tags, y_needed, y_text, y_begin, y_end, y_inside, y_whole, y_kind, y_value, y_parent, y_name, y_slotOf, y_placeOf, y_complete, y_openNode, y_openType, y_openCount, y_openNames, y_openChoice, y_output, y_todo) (nI s) v2 v3 b := by
  have es : (nI s).toNatClampNeg = s := nI_clamp (by omega)
  have iS : vp_in (nI s) 12 := vp_in_nI hs (by decide)
  unfold wpY_field wpY_isSort
  dsimp only
  rw [es]
  by_cases q : y_sort s = 5
  · rcases hh_rg v2 6 (by decide) with w | ⟨c, hc, rfl⟩
    · exact yi_1 11 (by decide) (by omega) (br_f (by decide) ⟨iS, br_t q (br_f (by decide) (yi_0 5 (by decide) w (br_t rfl hp)))⟩)
    · have h3 : v3 < 0 ∨ nI 12 ≤ v3 := by
        rcases h with h | h | h
        · exact absurd q h
        · rcases h with h | h
          · exact absurd h (nI_pos (by omega))
          · exact absurd h (nI_ge hc (by omega))
        · exact h
      exact yi_1 11 (by decide) (by omega) (br_f (by decide) ⟨iS, br_t q (br_f (by decide) (yi_1 5 (by decide) (by omega) (br_f (by decide) (yi_0 11 (by decide) h3 (br_t rfl hp)))))⟩)
  · exact yi_1 11 (by decide) (by omega) (br_f (by decide) ⟨iS, br_f q (br_t rfl hp)⟩)
end
theorem ty_f {so tD tL tM fC fN fT fB gX tA tB tC fs gY : Nat → Int32} {s m c o z : Nat} (h : ty_S so tD tL tM fC fN fT fB gX tA tB tC fs gY s) (q : so s = 5) (hm : fC s = nI m) (hm4 : m < 4) (hc : c < 6) (ho : o < 12) (hz : z < 2)
    (hn : ∀ j, j < m → fN (4 * s + j) ≠ nI c) :
    ty_S so tD tL tM (upd fC s (fC s + 1)) (upd fN (4 * s + m) (nI c)) (upd fT (4 * s + m) (nI o)) (upd fB (4 * s + m) (nI z)) gX tA tB tC (upd fs s (fs s + 1)) gY s := by
  obtain ⟨h0, h1, h2, h4, h5, h6, h7⟩ := h
  refine ⟨h0, h1, h2, h4, fun y => ?_, h6, h7⟩
  obtain ⟨a, m', b, d, e, f⟩ := h5 y
  have : m' = m := hh_i (by omega) (by omega) (d.symm.trans hm)
  subst this
  simp only [pk_us]
  refine ⟨by rw [a], m' + 1, by omega, by rw [hm, nI_1], fun i hi => ?_, fun i j hi hj => ?_⟩
  · unfold upd
    by_cases w : 4 * s + i = 4 * s + m'
    · rw [if_pos w, if_pos w, if_pos w]; exact ⟨c, o, z, hc, ho, hz, rfl, rfl, rfl⟩
    · rw [if_neg w, if_neg w, if_neg w]; exact e i (by omega)
  · unfold upd
    by_cases w : 4 * s + i = 4 * s + m'
    · rw [if_pos w]
      by_cases w2 : 4 * s + j = 4 * s + m'
      · intro _; omega
      · rw [if_neg w2]; intro x; exact absurd x.symm (hn j (by omega))
    · rw [if_neg w]
      by_cases w2 : 4 * s + j = 4 * s + m'
      · rw [if_pos w2]; intro x; exact absurd x (hn i (by omega))
      · rw [if_neg w2]; intro x; exact f i j (by omega) (by omega) x
theorem i_vc_field {k : Nat} {u : SX} {v : SY} (I : i_Rel k u v) (hk : k + 6 ≤ 3072) (v1 : Int32) (v2 : Int32) (v3 : Int32) (v4 : Int32) : wpX_field (fun r u' => wpY_field (fun r' v' => r' = r ∧ i_Rel (k + 6) u' v') v v1 v2 v3 (lw_bz v4)) u v1 v2 v3 (lw_bz v4) := by
  obtain ⟨x_nodeCount, x_bound, x_fault, x_faultPlace, x_mode, x_at, x_tokenStart, x_textCount, x_escaped, x_valueSlot, x_valueName, x_depth, x_outputLength, x_text, x_typeKind, x_typeDetail, x_typeLeast, x_typeMost, x_fieldCount, x_fieldName, x_fieldType, x_fieldNeeded, x_tagType, x_nodeKind, x_nodeValue, x_nodeParent, x_nodeName, x_nodeSlot, x_nodeStart, x_nodeTag, x_completeCount, x_openNode, x_openSlot, x_openNames, x_openNext, x_openComma, x_output, y_parts, y_bad, y_nodes, y_fault, y_depth, y_nextName, y_wantsName, y_wantsTag, y_waiting, y_scaled, y_typeA, y_typeB, y_typeC, y_fields, y_tags, y_begin, y_end, y_inside, y_whole, y_kind, y_value, y_parent, y_name, y_slotOf, y_placeOf, y_complete, y_openNode, y_openType, y_openCount, y_openNames, y_openChoice, y_todo, L, rfl, rfl, hT, hB⟩ := I
  have R : i_Rel (k + 6) (nI L, x_nodeCount, x_bound, x_fault, x_faultPlace, x_mode, x_at, x_tokenStart, x_textCount, x_escaped, x_valueSlot, x_valueName, x_depth, x_outputLength, x_text, x_typeKind, x_typeDetail, x_typeLeast, x_typeMost, x_fieldCount, x_fieldName, x_fieldType, x_fieldNeeded, x_tagType, x_nodeKind, x_nodeValue, x_nodeParent, x_nodeName, x_nodeSlot, x_nodeStart, x_nodeTag, x_completeCount, x_openNode, x_openSlot, x_openNames, x_openNext, x_openComma, x_output) (nI L, y_parts, y_bad, y_nodes, y_fault, x_faultPlace, x_bound, y_depth, y_nextName, y_wantsName, y_wantsTag, x_outputLength, y_waiting, y_scaled, x_typeKind, y_typeA, y_typeB, y_typeC, x_fieldName, x_fieldType, y_fields, y_tags, x_fieldNeeded, x_text, y_begin, y_end, y_inside, y_whole, y_kind, y_value, y_parent, y_name, y_slotOf, y_placeOf, y_complete, y_openNode, y_openType, y_openCount, y_openNames, y_openChoice, x_output, y_todo) := rl_mk hT hB
  unfold wpX_field
  dsimp only
  rcases hh_sl v1 with h | ⟨s, hs, rfl⟩
  · refine xs_0 h (br_t rfl ?_)
    unfold wpY_field wpY_isSort
    exact yi_0 11 (by decide) h (br_t rfl (br_t rfl ⟨rfl, R⟩))
  have es : (nI s).toNatClampNeg = s := nI_clamp (by omega)
  have iS : vp_in (nI s) 12 := vp_in_nI hs (by decide)
  rw [es]
  refine xs_1 hs (br_f (by decide) ?_)
  rcases hh_sl v3 with h | ⟨o, ho, rfl⟩
  · exact xs_0 h (br_t rfl (yf_no hs (Or.inr (Or.inr h)) ⟨rfl, R⟩))
  refine xs_1 ho (br_f (by decide) ?_)
  rcases pk_ix v2 (n := 6) (by decide) with w | w | ⟨c, hc, rfl⟩
  · exact br_t w (yf_no hs (Or.inr (Or.inl (Or.inl w))) ⟨rfl, R⟩)
  · exact br_f (hh_ge0 w (by decide)) (br_f (Int32.not_lt.mpr w) (yf_no hs (Or.inr (Or.inl (Or.inr w))) ⟨rfl, R⟩))
  refine br_f (nI_pos (by omega)) (br_t (nI_lt (b := 6) hc (by decide)) ⟨iS, ?_⟩)
  by_cases q : x_typeKind s = 5
  case neg => exact br_f q (yf_no hs (Or.inl q) ⟨rfl, R⟩)
  refine br_t q ⟨iS, ?_⟩
  have TS := hT.2.2 s hs
  obtain ⟨eF, m, hm4, hm, -, -⟩ := TS.2.2.2.2.1 q
  have hmY : y_fields s = nI m := eF.trans hm
  -- the reference, up to its count
  have Y0 : ∀ post : Int32 → SY → Prop, ((nI m = 4 → post 0 (nI L, y_parts, y_bad, y_nodes, y_fault, x_faultPlace, x_bound, y_depth, y_nextName, y_wantsName, y_wantsTag, x_outputLength, y_waiting, y_scaled, x_typeKind, y_typeA, y_typeB, y_typeC, x_fieldName, x_fieldType, y_fields, y_tags, x_fieldNeeded, x_text, y_begin, y_end, y_inside, y_whole, y_kind, y_value, y_parent, y_name, y_slotOf, y_placeOf, y_complete, y_openNode, y_openType, y_openCount, y_openNames, y_openChoice, x_output, y_todo)) ∧ (¬ nI m = 4 → wpY_fieldOf (fun r_51 => ((r_51 < 0 → (vp_in (nI s) 12 ∧ (∀ x5 : Int32, x5 = (4 * (nI s)) + nI m → (vp_in x5 48 ∧ ∀ a1 : Nat → Int32, a1 = upd x_fieldName x5.toNatClampNeg (nI c) → (vp_in x5 48 ∧ ∀ a2 : Nat → Int32, a2 = upd x_fieldType x5.toNatClampNeg (nI o) → (vp_in x5 48 ∧ ∀ a3 : Nat → Int32, a3 = upd x_fieldNeeded x5.toNatClampNeg (vp_nar .boolean (lw_bz v4)) → (vp_in (nI s) 12 ∧ (vp_in (nI s) 12 ∧ ∀ a4 : Nat → Int32, a4 = upd y_fields s (nI m + 1) → (post 1 (nI L, y_parts, y_bad, y_nodes, y_fault, x_faultPlace, 0, y_depth, y_nextName, y_wantsName, y_wantsTag, x_outputLength, y_waiting, y_scaled, x_typeKind, y_typeA, y_typeB, y_typeC, a1, a2, a4, y_tags, a3, x_text, y_begin, y_end, y_inside, y_whole, y_kind, y_value, y_parent, y_name, y_slotOf, y_placeOf, y_complete, y_openNode, y_openType, y_openCount, y_openNames, y_openChoice, x_output, y_todo)))))))))) ∧ (¬ r_51 < 0 → post 0 (nI L, y_parts, y_bad, y_nodes, y_fault, x_faultPlace, x_bound, y_depth, y_nextName, y_wantsName, y_wantsTag, x_outputLength, y_waiting, y_scaled, x_typeKind, y_typeA, y_typeB, y_typeC, x_fieldName, x_fieldType, y_fields, y_tags, x_fieldNeeded, x_text, y_begin, y_end, y_inside, y_whole, y_kind, y_value, y_parent, y_name, y_slotOf, y_placeOf, y_complete, y_openNode, y_openType, y_openCount, y_openNames, y_openChoice, x_output, y_todo)))) (nI L, y_parts, y_bad, y_nodes, y_fault, x_faultPlace, x_bound, y_depth, y_nextName, y_wantsName, y_wantsTag, x_outputLength, y_waiting, y_scaled, x_typeKind, y_typeA, y_typeB, y_typeC, x_fieldName, x_fieldType, y_fields, y_tags, x_fieldNeeded, x_text, y_begin, y_end, y_inside, y_whole, y_kind, y_value, y_parent, y_name, y_slotOf, y_placeOf, y_complete, y_openNode, y_openType, y_openCount, y_openNames, y_openChoice, x_output, y_todo) (nI s) (nI c))) → wpY_field post (nI L, y_parts, y_bad, y_nodes, y_fault, x_faultPlace, x_bound, y_depth, y_nextName, y_wantsName, y_wantsTag, x_outputLength, y_waiting, y_scaled, x_typeKind, y_typeA, y_typeB, y_typeC, x_fieldName, x_fieldType, y_fields, y_tags, x_fieldNeeded, x_text, y_begin, y_end, y_inside, y_whole, y_kind, y_value, y_parent, y_name, y_slotOf, y_placeOf, y_complete, y_openNode, y_openType, y_openCount, y_openNames, y_openChoice, x_output, y_todo) (nI s) (nI c) (nI o) (lw_bz v4) := by
    intro post h
    unfold wpY_field wpY_isSort
    dsimp only
    rw [es, hmY]
    exact yi_1 11 (by decide) (by omega) (br_f (by decide) ⟨iS, br_t q (br_f (by decide) (yi_1 5 (by decide) (by omega) (br_f (by decide) (yi_1 11 (by decide) (by omega) (br_f (by decide) ⟨iS, h⟩)))))⟩)
  rw [hm]
  rcases Nat.lt_or_ge m 4 with h4 | h4
  case inr =>
    have e : m = 4 := by omega
    subst e
    exact br_f (by decide) (Y0 _ (br_t rfl ⟨rfl, R⟩))
  have n4 : ¬ nI m = 4 := fun z => by have := hh_i (by omega) (by decide) (m := 4) z; omega
  refine br_t (nI_lt (b := 4) h4 (by decide)) (xf_find hs hm4 hm ?_)
  have e1 : nI s * 4 + nI m = nI (4 * s + m) := by
    show nI s * nI 4 + nI m = _
    rw [pk_mul, nI_add, Nat.mul_comm]
  have e2 : (4 : Int32) * nI s + nI m = nI (4 * s + m) := by
    show nI 4 * nI s + nI m = _
    rw [pk_mul, nI_add]
  have e3 : (nI (4 * s + m)).toNatClampNeg = 4 * s + m := nI_clamp (by omega)
  have iE : vp_in (nI (4 * s + m)) 48 := vp_in_nI (by omega) (by decide)
  have bz : ∃ z, z < 2 ∧ vp_nar .boolean (lw_bz v4) = nI z := by
    rcases lw_bz_01 v4 with e | e
    · rw [e]; exact ⟨0, by omega, rfl⟩
    · rw [e]; exact ⟨1, by omega, rfl⟩
  obtain ⟨z, hz, ez⟩ := bz
  rcases ff_S x_fieldName s (nI c) m 0 with ⟨f1, f2⟩ | ⟨j, -, hj, f1, f2⟩
  · rw [f1]
    refine br_t rfl ⟨iS, nm_r e1 ?_⟩
    rw [e3, ez]
    refine ⟨iE, nm_e ⟨iE, nm_e ⟨iE, nm_e ⟨iS, iS, nm_e ?_⟩⟩⟩⟩
    refine Y0 _ (br_f n4 (yf_find hs hm4 hmY ?_))
    rw [f1]
    refine br_t (by decide) ⟨iS, nm_r e2 ?_⟩
    rw [e3, ez]
    refine ⟨iE, nm_e ⟨iE, nm_e ⟨iE, nm_e ⟨iS, iS, nm_e ⟨rfl, ?_⟩⟩⟩⟩⟩
    refine rl_mk ⟨hT.1, hT.2.1, fun r hr => ?_⟩ (Or.inl rfl)
    by_cases w : r = s
    · subst w
      have F := ty_f TS q hm h4 hc ho hz (fun j hj => f2 j (by omega) (by omega))
      rw [hm, hmY] at F
      exact F
    · exact ty_c (hT.2.2 r hr) rfl rfl rfl rfl (pk_un w) (fun i hi => pk_un (by omega)) (fun i hi => pk_un (by omega)) (fun i hi => pk_un (by omega)) (fun _ _ => rfl) rfl rfl rfl (pk_un w) (fun _ _ => rfl)
  · rw [f1]
    refine br_f (hh_m1 (by omega)) (Y0 _ (br_f n4 (yf_find hs hm4 hmY ?_)))
    rw [f1]
    exact br_f (nI_pos (by omega)) ⟨rfl, R⟩
theorem yz_loop {post : SY → Prop} {y_length y_parts y_bad y_nodes y_fault y_place y_bound y_depth y_nextName y_wantsName y_wantsTag y_printed y_waiting y_scaled : Int32} {y_sort y_typeA y_typeB y_typeC y_fieldName y_fieldType y_fields y_needed y_text y_begin y_end y_inside y_whole y_kind y_value y_parent y_name y_slotOf y_placeOf y_complete y_openNode y_openType y_openCount y_openNames y_openChoice y_output y_todo : Nat → Int32} : ∀ (m i : Nat) (g : Nat → Int32), i + m = 72 → post (y_length, y_parts, y_bad, y_nodes, y_fault, y_place, y_bound, y_depth, y_nextName, y_wantsName, y_wantsTag, y_printed, y_waiting, y_scaled, y_sort, y_typeA, y_typeB, y_typeC, y_fieldName, y_fieldType, y_fields, yd_F g i 72, y_needed, y_text, y_begin, y_end, y_inside, y_whole, y_kind, y_value, y_parent, y_name, y_slotOf, y_placeOf, y_complete, y_openNode, y_openType, y_openCount, y_openNames, y_openChoice, y_output, y_todo) → wY_init_237 post y_length y_parts y_bad y_nodes y_fault y_place y_bound y_depth y_nextName y_wantsName y_wantsTag y_printed y_waiting y_scaled (m + 1) (nI i) y_sort y_typeA y_typeB y_typeC y_fieldName y_fieldType y_fields g y_needed y_text y_begin y_end y_inside y_whole y_kind y_value y_parent y_name y_slotOf y_placeOf y_complete y_openNode y_openType y_openCount y_openNames y_openChoice y_output y_todo := by
  intro m
  induction m with
  | zero =>
    intro i g hi h
    have hi' : i = 72 := by omega
    subst hi'
    rw [yd_0] at h
    exact br_t (by decide) h
  | succ m ih =>
    intro i g hi h
    refine br_f (nI_ge (b := 72) (by omega) (by decide)) ⟨vp_in_nI (by omega) (by decide), nm_e (nm_r (nI_1 i) ?_)⟩
    rw [nI_clamp (by omega)]
    refine ih (i + 1) _ (by omega) ?_
    rw [yd_1 g (by omega)]; exact h
theorem i_vc0 : wpX_init (fun u => wpY_init (fun v => i_Rel 0 u v)) := by
  refine ⟨72 + 1, yz_loop 72 0 _ (by omega) ?_⟩
  refine rl_mk (L := 0) ⟨by omega, fun i => ⟨0, by omega, rfl⟩, fun s hs => ?_⟩ (Or.inl rfl)
  refine ⟨⟨0, by omega, rfl⟩, ?_, ?_, ?_, ?_, ?_, ?_⟩
  · intro z; exact absurd (a := (0 : Int32) = 1) z (by decide)
  · intro z; exact absurd (a := (0 : Int32) = 2) z (by decide)
  · intro z; exact absurd (a := (0 : Int32) = 4) z (by decide)
  · intro z; exact absurd (a := (0 : Int32) = 5) z (by decide)
  · intro z; exact absurd (a := (0 : Int32) = 6) z (by decide)
  · intro z; exact absurd (a := (0 : Int32) = 7 ∨ (0 : Int32) = 8) z (by decide)
