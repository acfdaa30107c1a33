/-! printing: bounds by weights, and single nodes -/
section
variable {pa nm : Nat → Int32} {dp : Nat → Nat} {N n d : Nat} {lc : Nat → List Int32} {Kc : Nat → Nat}
theorem bl_l {q : Nat} {ch : Nat → Nat} (hq : q ≤ 20) (hd : ∀ j, j < q → dp (ch j) = d) (hnm : ∀ j, j < q → nm (ch j) = nI j) (hb : ∀ j, j < q → (lc (ch j)).length + 5 ≤ 110 * wt_N pa dp N (ch j) ∧ Kc (ch j) + 1 ≤ 2 * wt_N pa dp N (ch j)) : ∀ (r k : Nat), k + r = q → (pt_L lc (eL_L ch k r)).length ≤ 110 * wt_S pa dp N (fun c => ∃ j, k ≤ j ∧ j < q ∧ c = ch j) ∧ kl_N Kc (eL_L ch k r) ≤ 1 + 2 * wt_S pa dp N (fun c => ∃ j, k ≤ j ∧ j < q ∧ c = ch j) := by
  intro r
  induction r with
  | zero => exact fun k hk => ⟨Nat.zero_le _, Nat.le_add_right 1 _⟩
  | succ r ih =>
    intro k hk
    obtain ⟨i1, i2⟩ := ih (k + 1) (by omega)
    obtain ⟨b1, b2⟩ := hb k (by omega)
    have w := wt_a (pa := pa) (dp := dp) (N := N) (c := ch k) (d := d) (S := fun c => ∃ j, k ≤ j ∧ j < q ∧ c = ch j) (S' := fun c => ∃ j, k + 1 ≤ j ∧ j < q ∧ c = ch j) (fun c ⟨j, h1, h2, h3⟩ => ⟨j, by omega, h2, h3⟩) ⟨k, by omega, by omega, rfl⟩ (fun ⟨j, h1, h2, h3⟩ => by
      have e1 := hnm k (by omega)
      rw [h3, hnm j h2] at e1
      have := hh_i (by omega) (by omega) e1
      omega) (fun c ⟨j, h1, h2, h3⟩ => by rw [h3]; exact hd j h2)
    have es2 : pt_L lc (eL_L ch k (r + 1)) = (if k = 0 then [] else [15]) ++ (lc (ch k) ++ pt_L lc (eL_L ch (k + 1) r)) := rfl
    have ek2 : kl_N Kc (eL_L ch k (r + 1)) = 1 + Kc (ch k) + kl_N Kc (eL_L ch (k + 1) r) := rfl
    have hl : (if k = 0 then ([] : List Int32) else [15]).length ≤ 1 := by
      split
      · exact Nat.zero_le _
      · exact Nat.le_refl 1
    rw [es2, ek2, List.length_append, List.length_append]
    exact ⟨by omega, by omega⟩
theorem bl_r {mq z : Nat} {rr fn : Nat → Int32} (hd : ∀ i c, i < mq → rr i = nI c → c < 40 → dp c = d) (hrr2 : ∀ i, i < mq → rr i = -1 ∨ ∃ c, c < 40 ∧ rr i = nI c ∧ nm c = fn i) (hfn : ∀ i j, i < mq → j < mq → fn i = fn j → i = j) (hb : ∀ i c, i < mq → rr i = nI c → c < 40 → (lc c).length + 5 ≤ 110 * wt_N pa dp N c ∧ Kc c + 1 ≤ 2 * wt_N pa dp N c) : ∀ (r k : Nat), k + r = mq → (pt_L lc (eR_L rr (pc_N rr z) fn k r)).length ≤ 110 * wt_S pa dp N (fun c => c < 40 ∧ ∃ j, k ≤ j ∧ j < mq ∧ rr j = nI c) ∧ kl_N Kc (eR_L rr (pc_N rr z) fn k r) ≤ 1 + 2 * wt_S pa dp N (fun c => c < 40 ∧ ∃ j, k ≤ j ∧ j < mq ∧ rr j = nI c) := by
  intro r
  induction r with
  | zero => exact fun k hk => ⟨Nat.zero_le _, Nat.le_add_right 1 _⟩
  | succ r ih =>
    intro k hk
    obtain ⟨i1, i2⟩ := ih (k + 1) (by omega)
    unfold eR_L
    rcases hrr2 k (by omega) with e | ⟨c, hc, e, en⟩
    · rw [if_pos e]
      have w := wt_m (pa := pa) (dp := dp) (N := N) (S := fun c => c < 40 ∧ ∃ j, k ≤ j ∧ j < mq ∧ rr j = nI c) (S' := fun c => c < 40 ∧ ∃ j, k + 1 ≤ j ∧ j < mq ∧ rr j = nI c) (fun c ⟨h0, j, h1, h2, h3⟩ => ⟨h0, j, by omega, h2, h3⟩)
      exact ⟨by omega, by omega⟩
    · rw [if_neg (by rw [e]; exact hh_m1 (by omega))]
      obtain ⟨b1, b2⟩ := hb k c (by omega) e hc
      have w := wt_a (pa := pa) (dp := dp) (N := N) (c := c) (d := d) (S := fun c => c < 40 ∧ ∃ j, k ≤ j ∧ j < mq ∧ rr j = nI c) (S' := fun c => c < 40 ∧ ∃ j, k + 1 ≤ j ∧ j < mq ∧ rr j = nI c) (fun c ⟨h0, j, h1, h2, h3⟩ => ⟨h0, j, by omega, h2, h3⟩) ⟨hc, k, by omega, by omega, e⟩ (fun ⟨h0, j, h1, h2, h3⟩ => by
        rcases hrr2 j h2 with e' | ⟨c', hc', e', en'⟩
        · rw [h3] at e'; exact hh_m1 (by omega) e'
        · rw [h3] at e'
          have := hh_i (by omega) (by omega) e'
          subst this
          rw [en] at en'
          have := hfn k j (by omega) h2 en'
          omega) (fun c ⟨h0, j, h1, h2, h3⟩ => hd j c h2 h3 h0)
      have ec : (rr k).toNatClampNeg = c := by rw [e]; exact nI_clamp (by omega)
      rw [ec]
      have es2 : pt_L lc ((((if pc_N rr z k = 0 then [] else [15]) ++ [16, 21 + fn k, 16, 14]), c) :: eR_L rr (pc_N rr z) fn (k + 1) r) = ((if pc_N rr z k = 0 then [] else [15]) ++ [16, 21 + fn k, 16, 14]) ++ (lc c ++ pt_L lc (eR_L rr (pc_N rr z) fn (k + 1) r)) := rfl
      have ek2 : kl_N Kc ((((if pc_N rr z k = 0 then [] else [15]) ++ [16, 21 + fn k, 16, 14]), c) :: eR_L rr (pc_N rr z) fn (k + 1) r) = 1 + Kc c + kl_N Kc (eR_L rr (pc_N rr z) fn (k + 1) r) := rfl
      have hl : (if pc_N rr z k = 0 then ([] : List Int32) else [15]).length ≤ 1 := by
        split
        · exact Nat.zero_le _
        · exact Nat.le_refl 1
      have hl4 : ([16, 21 + fn k, 16, 14] : List Int32).length = 4 := rfl
      rw [es2, ek2, List.length_append, List.length_append, List.length_append]
      exact ⟨by omega, by omega⟩
theorem fd_mk {p v : Int32} {c : Nat} (hu : ∀ c c', c < N → c' < N → pa c = pa c' → nm c = nm c' → c = c') (hc : c < N) (e1 : pa c = p) (e2 : nm c = v) : fd_R N pa nm p v (nI c) := Or.inl ⟨c, hc, e1, e2, fun c' hc' a b => hu c' c hc' hc (by rw [a, e1]) (by rw [b, e2]), rfl⟩
theorem fd_ex (hu : ∀ c c', c < N → c' < N → pa c = pa c' → nm c = nm c' → c = c') (p v : Int32) : ∃ r, fd_R N pa nm p v r := by
  by_cases z : ∃ c, c < N ∧ pa c = p ∧ nm c = v
  · obtain ⟨c, hc, e1, e2⟩ := z
    exact ⟨nI c, fd_mk hu hc e1 e2⟩
  · exact ⟨-1, Or.inr ⟨fun c hc y => z ⟨c, hc, y.1, y.2⟩, rfl⟩⟩
end
section
variable {x_length x_bound x_fault x_faultPlace x_mode x_at x_tokenStart x_textCount x_escaped x_valueSlot x_valueName : Int32} {x_text x_typeKind x_typeDetail x_typeLeast x_typeMost x_fieldCount x_fieldName x_fieldType x_fieldNeeded x_tagType x_nodeKind x_nodeValue x_nodeParent x_nodeName x_nodeSlot x_nodeStart x_nodeTag x_completeCount x_openNames : Nat → Int32} {dp : Nat → Nat} {N n : Nat} {l : List Int32}
theorem lf_X (h : ∀ (Q : SX → Prop) (m : Nat) (o oN oS oP oC : Nat → Int32), m < 60000 → Q (x_length, nI N, x_bound, x_fault, x_faultPlace, x_mode, x_at, x_tokenStart, x_textCount, x_escaped, x_valueSlot, x_valueName, nI (dp n), nI (m + l.length), x_text, x_typeKind, x_typeDetail, x_typeLeast, x_typeMost, x_fieldCount, x_fieldName, x_fieldType, x_fieldNeeded, x_tagType, x_nodeKind, x_nodeValue, x_nodeParent, x_nodeName, x_nodeSlot, x_nodeStart, x_nodeTag, x_completeCount, oN, oS, x_openNames, oP, oC, ow_L o m l) → wpX_writeNode Q (x_length, nI N, x_bound, x_fault, x_faultPlace, x_mode, x_at, x_tokenStart, x_textCount, x_escaped, x_valueSlot, x_valueName, nI (dp n), nI (m), x_text, x_typeKind, x_typeDetail, x_typeLeast, x_typeMost, x_fieldCount, x_fieldName, x_fieldType, x_fieldNeeded, x_tagType, x_nodeKind, x_nodeValue, x_nodeParent, x_nodeName, x_nodeSlot, x_nodeStart, x_nodeTag, x_completeCount, oN, oS, x_openNames, oP, oC, o) (nI n)) : ∀ (post : Int32 → SX → Prop) (c0 m : Nat) (o oN oS oP oC : Nat → Int32), m + (l).length < 60000 → c0 + 0 ≤ 80 → (∀ (oN' oS' oP' oC' : Nat → Int32), pe_N (dp n) oN oN' → pe_N (dp n) oS oS' → pe_N (dp n) oP oP' → pe_N (dp n) oC oC' → ∃ fu, wX_print_26 post fu (nI (c0 + 0)) x_length (nI N) x_bound x_fault x_faultPlace x_mode x_at x_tokenStart x_textCount x_escaped x_valueSlot x_valueName (nI (dp n)) (nI (m + (l).length)) x_text x_typeKind x_typeDetail x_typeLeast x_typeMost x_fieldCount x_fieldName x_fieldType x_fieldNeeded x_tagType x_nodeKind x_nodeValue x_nodeParent x_nodeName x_nodeSlot x_nodeStart x_nodeTag x_completeCount (oN') (oS') x_openNames (oP') (oC') (ow_L o m (l))) → ∃ (fu d' m' : Nat) (o' oN' oS' oP' oC' : Nat → Int32), wX_print_26 post fu (nI (c0)) x_length (nI N) x_bound x_fault x_faultPlace x_mode x_at x_tokenStart x_textCount x_escaped x_valueSlot x_valueName (nI (d')) (nI (m')) x_text x_typeKind x_typeDetail x_typeLeast x_typeMost x_fieldCount x_fieldName x_fieldType x_fieldNeeded x_tagType x_nodeKind x_nodeValue x_nodeParent x_nodeName x_nodeSlot x_nodeStart x_nodeTag x_completeCount (oN') (oS') x_openNames (oP') (oC') (o') ∧ ∀ Q : SX → Prop, Q (x_length, nI N, x_bound, x_fault, x_faultPlace, x_mode, x_at, x_tokenStart, x_textCount, x_escaped, x_valueSlot, x_valueName, nI (d'), nI (m'), x_text, x_typeKind, x_typeDetail, x_typeLeast, x_typeMost, x_fieldCount, x_fieldName, x_fieldType, x_fieldNeeded, x_tagType, x_nodeKind, x_nodeValue, x_nodeParent, x_nodeName, x_nodeSlot, x_nodeStart, x_nodeTag, x_completeCount, oN', oS', x_openNames, oP', oC', o') → wpX_writeNode Q (x_length, nI N, x_bound, x_fault, x_faultPlace, x_mode, x_at, x_tokenStart, x_textCount, x_escaped, x_valueSlot, x_valueName, nI (dp n), nI (m), x_text, x_typeKind, x_typeDetail, x_typeLeast, x_typeMost, x_fieldCount, x_fieldName, x_fieldType, x_fieldNeeded, x_tagType, x_nodeKind, x_nodeValue, x_nodeParent, x_nodeName, x_nodeSlot, x_nodeStart, x_nodeTag, x_completeCount, oN, oS, x_openNames, oP, oC, o) (nI n) := by
  intro post c0 m o oN oS oP oC hm hc hh
  obtain ⟨fu, hf⟩ := hh oN oS oP oC (fun _ _ => rfl) (fun _ _ => rfl) (fun _ _ => rfl) (fun _ _ => rfl)
  exact ⟨fu, dp n, m + l.length, ow_L o m l, oN, oS, oP, oC, hf, fun Q hQ => h Q m o oN oS oP oC (by omega) hQ⟩
end
section
variable {y_length y_parts y_bad y_fault y_place y_bound y_depth y_nextName y_wantsName y_wantsTag : Int32} {y_sort y_typeA y_typeB y_typeC y_fieldName y_fieldType y_fields y_tags y_needed y_text y_begin y_end y_inside y_whole y_kind y_value y_parent y_name y_slotOf y_placeOf y_complete y_openNode y_openType y_openCount y_openNames y_openChoice : Nat → Int32} {dp : Nat → Nat} {N n : Nat} {l : List Int32}
theorem lf_Y (hn : n < 40) (hd : dp n ≤ 6) (h : ∀ (Q : SY → Prop) (m : Nat) (o : Nat → Int32) (wa : Int32) (a : Nat → Int32) (sc : Int32), m < 60000 → Q (y_length, y_parts, y_bad, nI N, y_fault, y_place, y_bound, y_depth, y_nextName, y_wantsName, y_wantsTag, nI (m + l.length), wa, sc, y_sort, y_typeA, y_typeB, y_typeC, y_fieldName, y_fieldType, y_fields, y_tags, y_needed, y_text, y_begin, y_end, y_inside, y_whole, y_kind, y_value, y_parent, y_name, y_slotOf, y_placeOf, y_complete, y_openNode, y_openType, y_openCount, y_openNames, y_openChoice, ow_L o m l, a) → wpY_show Q (y_length, y_parts, y_bad, nI N, y_fault, y_place, y_bound, y_depth, y_nextName, y_wantsName, y_wantsTag, nI m, wa, sc, y_sort, y_typeA, y_typeB, y_typeC, y_fieldName, y_fieldType, y_fields, y_tags, y_needed, y_text, y_begin, y_end, y_inside, y_whole, y_kind, y_value, y_parent, y_name, y_slotOf, y_placeOf, y_complete, y_openNode, y_openType, y_openCount, y_openNames, y_openChoice, o, a) (nI n)) : ∀ (post : Int32 → SY → Prop) (s : List Int32) (a : Nat → Int32) (m : Nat) (o : Nat → Int32) (sc : Int32), hol a (nI (100 + n) :: s) → s.length ≤ 41 * dp n → m + (l).length < 60000 → (∀ (a' : Nat → Int32) (sc' : Int32), hol a' s → ∃ k, wY_print_23 post k y_length y_parts y_bad (nI N) y_fault y_place y_bound y_depth y_nextName y_wantsName y_wantsTag (nI (m + (l).length)) (nI (s.length)) (sc') y_sort y_typeA y_typeB y_typeC y_fieldName y_fieldType y_fields y_tags y_needed y_text y_begin y_end y_inside y_whole y_kind y_value y_parent y_name y_slotOf y_placeOf y_complete y_openNode y_openType y_openCount y_openNames y_openChoice (ow_L o m (l)) (a')) → ∃ k, wY_print_23 post k y_length y_parts y_bad (nI N) y_fault y_place y_bound y_depth y_nextName y_wantsName y_wantsTag (nI (m)) (nI (s.length + 1)) sc y_sort y_typeA y_typeB y_typeC y_fieldName y_fieldType y_fields y_tags y_needed y_text y_begin y_end y_inside y_whole y_kind y_value y_parent y_name y_slotOf y_placeOf y_complete y_openNode y_openType y_openCount y_openNames y_openChoice o a := by
  intro post s a m o sc ha hs hm hh
  obtain ⟨k, hk⟩ := hh a sc ha.2
  exact yp_n (k := k) hn ha (by omega) (h _ m o _ a sc (by omega) hk)
end
