/-! the bind: all parts -/
theorem sp_I_s {t : Nat → Int32} {L : Nat} {bg en wh : Nat → Int32} {k p x d : Nat} {g : Nat → Int32} {p' x' d' : Nat} {g' : Nat → Int32} (hI : sp_I x d g) (h : sp_P t L bg en wh k p x d g p' x' d' g') : sp_I x' d' g' ∧ p' ≤ L := by
  obtain ⟨i1, i2, i3, i4⟩ := hI
  obtain ⟨b, hb, hbL, -, -, h⟩ := h
  rcases h with ⟨-, -, rfl, -, rfl, rfl, -, rfl⟩ | ⟨-, -, rfl, -, rfl, rfl, -, rfl⟩ | ⟨-, -, h0, rfl, rfl, hg, -, rfl⟩ | ⟨-, -, rfl, rfl, rfl, -, rfl⟩ | ⟨-, hx, rfl, rfl, rfl, q, hW, -, rfl⟩ | ⟨-, -, rfl, rfl, rfl, -, rfl⟩ | ⟨-, -, rfl, rfl, rfl, -, rfl⟩ | ⟨-, -, rfl, rfl, rfl, -, rfl⟩ | ⟨-, -, rfl, rfl, rfl, q, hW, -, -, rfl⟩ | ⟨-, -, rfl, rfl, rfl, q, hW, -, rfl⟩
  · exact ⟨⟨by omega, fun z => absurd z (by decide), fun z => absurd z (by decide), fun l hl => i4 l (by omega)⟩, by omega⟩
  · exact ⟨⟨by omega, fun z => absurd z (by decide), fun z => absurd z (by decide), fun l hl => i4 l (by omega)⟩, by omega⟩
  · rcases hg with ⟨hg, rfl⟩ | ⟨hg, rfl⟩
    · exact ⟨⟨by omega, fun z => absurd z (by decide), fun z => absurd z (by decide), i4⟩, by omega⟩
    · exact ⟨⟨by omega, fun z => absurd z (by decide), fun _ => ⟨h0, hg⟩, i4⟩, by omega⟩
  · exact ⟨⟨by omega, fun z => absurd z (by decide), fun z => absurd z (by decide), i4⟩, by omega⟩
  · exact ⟨⟨by omega, fun z => absurd z (by decide), fun _ => i3 (by omega), i4⟩, hW.1⟩
  · refine ⟨⟨by omega, fun z => absurd z (by decide), fun _ => ⟨by omega, pk_us⟩, fun l hl => ?_⟩, by omega⟩
    by_cases z : l + 1 = d + 1
    · rw [z]; exact Or.inr pk_us
    · rw [pk_un z]; exact i4 l (by omega)
  · refine ⟨⟨by omega, fun _ => ⟨by omega, pk_us⟩, fun z => absurd z (by decide), fun l hl => ?_⟩, by omega⟩
    by_cases z : l + 1 = d + 1
    · rw [z]; exact Or.inl pk_us
    · rw [pk_un z]; exact i4 l (by omega)
  · exact ⟨⟨by omega, fun z => absurd z (by decide), fun z => absurd z (by decide), i4⟩, by omega⟩
  · exact ⟨⟨by omega, fun z => absurd z (by decide), fun z => absurd z (by decide), i4⟩, (ns_W_le hW).2⟩
  · exact ⟨⟨by omega, fun z => absurd z (by decide), fun z => absurd z (by decide), i4⟩, hW.1⟩
section
variable {x_bound x_at x_tokenStart x_textCount x_escaped x_valueSlot x_valueName x_outputLength : Int32} {x_text x_typeKind x_typeDetail x_typeLeast x_typeMost x_fieldCount x_fieldName x_fieldType x_fieldNeeded x_tagType x_nodeKind x_nodeValue x_nodeParent x_nodeName x_nodeSlot x_nodeStart x_nodeTag x_completeCount x_openNode x_openSlot x_openNames x_openNext x_openComma x_output : Nat → Int32} {y_bad y_nextName y_wantsName y_wantsTag y_waiting y_scaled : Int32} {y_typeA y_typeB y_typeC y_fields y_tags y_begin y_end y_inside y_whole y_kind y_value y_parent y_name y_slotOf y_placeOf y_complete y_openNode y_openType y_openCount y_openNames y_openChoice y_todo : Nat → Int32} {L P k p x d N : Nat} {g : Nat → Int32} {dp : Nat → Nat} {slot : Int32}
theorem tg_x0 (F : br_F slot L k p x d N g x_text x_typeKind x_fieldCount x_fieldName x_fieldType y_begin y_end x_nodeKind x_nodeValue x_nodeParent x_nodeName x_nodeSlot x_nodeStart x_nodeTag x_completeCount x_openNode x_openSlot x_openNames x_valueSlot x_valueName dp y_kind y_value y_parent y_name y_slotOf y_placeOf y_complete y_openNode y_openType y_openCount y_openNames y_openChoice y_nextName y_wantsName y_wantsTag) (hx01 : x < 2) (h0 : 0 < d) (es : x_openSlot (d - 1) = -1) : x = 0 := by
  obtain ⟨-, -, hd6, hlv, -, -, hx⟩ := F
  by_cases z : x = 0
  · exact z
  · exfalso
    obtain ⟨d', rfl⟩ : ∃ d', d = d' + 1 := ⟨d - 1, by omega⟩
    have hg : g (d' + 1) = 12 := by
      rcases hx with w | w | w | w | w | w | w | w | w | w
      all_goals first | exact w.2.2.1 | (have := w.1; omega)
    obtain ⟨n, s, -, hs, -, -, -, -, -, K⟩ := hlv d' (by omega)
    rcases K with ⟨-, -, -, e, -⟩ | ⟨q, -⟩
    · have es' : x_openSlot d' = -1 := es
      rw [es'] at e; exact hh_m1' (by omega) e
    · rw [hg] at q; exact absurd q (by decide)
end
section
variable {x_bound x_outputLength : Int32} {x_text x_typeKind x_typeDetail x_typeLeast x_typeMost x_fieldCount x_fieldName x_fieldType x_fieldNeeded x_tagType x_openNext x_openComma x_output : Nat → Int32} {y_bad y_waiting : Int32} {y_typeA y_typeB y_typeC y_fields y_tags y_begin y_end y_inside y_whole y_todo : Nat → Int32} {L P : Nat} {slot : Int32}
theorem br_main (hT : rl_T L x_text x_typeKind x_typeDetail x_typeLeast x_typeMost x_fieldCount x_fieldName x_fieldType x_fieldNeeded x_tagType y_typeA y_typeB y_typeC y_fields y_tags) (hP : P ≤ 96) (hslot : ∃ a, a < 12 ∧ slot = nI a) : ∀ (m k p x d N : Nat) (g : Nat → Int32) (dp : Nat → Nat) (x_at x_tokenStart x_textCount x_escaped x_valueSlot x_valueName : Int32) (x_nodeKind x_nodeValue x_nodeParent x_nodeName x_nodeSlot x_nodeStart x_nodeTag x_completeCount x_openNode x_openSlot x_openNames : Nat → Int32) (y_nextName y_wantsName y_wantsTag y_scaled : Int32) (y_kind y_value y_parent y_name y_slotOf y_placeOf y_complete y_openNode y_openType y_openCount y_openNames y_openChoice : Nat → Int32),
    k + m = P → p ≤ L → sp_I x d g → sp_W x_text L y_begin y_end y_whole y_bad m k p x d g → br_F slot L k p x d N g x_text x_typeKind x_fieldCount x_fieldName x_fieldType y_begin y_end x_nodeKind x_nodeValue x_nodeParent x_nodeName x_nodeSlot x_nodeStart x_nodeTag x_completeCount x_openNode x_openSlot x_openNames x_valueSlot x_valueName dp y_kind y_value y_parent y_name y_slotOf y_placeOf y_complete y_openNode y_openType y_openCount y_openNames y_openChoice y_nextName y_wantsName y_wantsTag → bo_O slot p k (nI L, nI N, x_bound, 0, -1, md_x x, x_at, x_tokenStart, x_textCount, x_escaped, x_valueSlot, x_valueName, nI d, x_outputLength, x_text, x_typeKind, x_typeDetail, x_typeLeast, x_typeMost, x_fieldCount, x_fieldName, x_fieldType, x_fieldNeeded, x_tagType, x_nodeKind, x_nodeValue, x_nodeParent, x_nodeName, x_nodeSlot, x_nodeStart, x_nodeTag, x_completeCount, x_openNode, x_openSlot, x_openNames, x_openNext, x_openComma, x_output) (nI L, nI P, y_bad, nI N, 0, -1, 0, nI d, y_nextName, y_wantsName, y_wantsTag, x_outputLength, y_waiting, y_scaled, x_typeKind, y_typeA, y_typeB, y_typeC, x_fieldName, x_fieldType, y_fields, y_tags, x_fieldNeeded, x_text, y_begin, y_end, y_inside, y_whole, y_kind, y_value, y_parent, y_name, y_slotOf, y_placeOf, y_complete, y_openNode, y_openType, y_openCount, y_openNames, y_openChoice, x_output, y_todo) := by
  intro m
  induction m with
  | zero =>
    intro k p x d N g dp x_at x_tokenStart x_textCount x_escaped x_valueSlot x_valueName x_nodeKind x_nodeValue x_nodeParent x_nodeName x_nodeSlot x_nodeStart x_nodeTag x_completeCount x_openNode x_openSlot x_openNames y_nextName y_wantsName y_wantsTag y_scaled y_kind y_value y_parent y_name y_slotOf y_placeOf y_complete y_openNode y_openType y_openCount y_openNames y_openChoice hk hpL hI hW F
    have : k = P := by omega
    subst this
    rcases hW with ⟨e, rfl, rfl, hs⟩ | ⟨z, e, hz, hs, h1, h2⟩
    · rw [e]; exact en_ok hT F hP hs
    · rw [e]; exact en_bad hT F hI hP hz hs (fun w => ⟨(h1 w).1, (h1 w).2⟩) h2
  | succ m ih =>
    intro k p x d N g dp x_at x_tokenStart x_textCount x_escaped x_valueSlot x_valueName x_nodeKind x_nodeValue x_nodeParent x_nodeName x_nodeSlot x_nodeStart x_nodeTag x_completeCount x_openNode x_openSlot x_openNames y_nextName y_wantsName y_wantsTag y_scaled y_kind y_value y_parent y_name y_slotOf y_placeOf y_complete y_openNode y_openType y_openCount y_openNames y_openChoice hk hpL hI hW F
    have hkP : k < P := by omega
    have hL := hT.1
    rcases hW with ⟨p', x', d', g', hPp, hW'⟩ | ⟨m0, z, hXp, ebad⟩
    · obtain ⟨hI', hpL'⟩ := sp_I_s hI hPp
      obtain ⟨b, hb, hbL, eb, ew, hcs⟩ := hPp
      -- a value that stands where a tag must
      have tagT : x < 2 → 0 < d ∧ x_openSlot (d - 1) = -1 → sp_V (x_text b) → ¬ sp_B (x_text b) → bo_O slot p k (nI L, nI N, x_bound, 0, -1, md_x x, x_at, x_tokenStart, x_textCount, x_escaped, x_valueSlot, x_valueName, nI d, x_outputLength, x_text, x_typeKind, x_typeDetail, x_typeLeast, x_typeMost, x_fieldCount, x_fieldName, x_fieldType, x_fieldNeeded, x_tagType, x_nodeKind, x_nodeValue, x_nodeParent, x_nodeName, x_nodeSlot, x_nodeStart, x_nodeTag, x_completeCount, x_openNode, x_openSlot, x_openNames, x_openNext, x_openComma, x_output) (nI L, nI P, y_bad, nI N, 0, -1, 0, nI d, y_nextName, y_wantsName, y_wantsTag, x_outputLength, y_waiting, y_scaled, x_typeKind, y_typeA, y_typeB, y_typeC, x_fieldName, x_fieldType, y_fields, y_tags, x_fieldNeeded, x_text, y_begin, y_end, y_inside, y_whole, y_kind, y_value, y_parent, y_name, y_slotOf, y_placeOf, y_complete, y_openNode, y_openType, y_openCount, y_openNames, y_openChoice, x_output, y_todo) := by
        intro hx01 hat hV hB
        have := tg_x0 F hx01 hat.1 hat.2
        subst this
        obtain ⟨d0, rfl⟩ : ∃ d0, d = d0 + 1 := ⟨d - 1, by omega⟩
        exact st_tagT hT F hat.2 hkP hP hb hbL eb hV hB
      rcases hcs with ⟨c, hx, rfl, hg, rfl, rfl, ee, rfl⟩ | ⟨c, hx, rfl, hg, rfl, rfl, ee, rfl⟩ | ⟨c, rfl, h0, rfl, rfl, hg, ee, rfl⟩ | ⟨c, rfl, rfl, rfl, rfl, ee, rfl⟩ | ⟨c, hx, rfl, rfl, rfl, q, hS, ee, rfl⟩ | ⟨c, hx, rfl, rfl, rfl, ee, rfl⟩ | ⟨c, hx, rfl, rfl, rfl, ee, rfl⟩ | ⟨c, hx, rfl, rfl, rfl, ee, rfl⟩ | ⟨hB, hx, rfl, rfl, rfl, q, hS, hbq, ee, rfl⟩ | ⟨c, hx, rfl, rfl, rfl, q, hS, ee, rfl⟩
      · exact st_cl hT hx F hkP hP hb hbL hpL eb c hg (fun _ z => ih _ _ _ _ _ _ _ _ _ _ _ _ _ _ _ _ _ _ _ _ _ _ _ _ _ _ _ _ _ _ _ _ _ _ _ _ _ _ _ _ (by omega) hpL' hI' hW' z)
      · exact st_cr hT hx F hkP hP hb hbL hpL eb c hg (fun _ _ _ z => ih _ _ _ _ _ _ _ _ _ _ _ _ _ _ _ _ _ _ _ _ _ _ _ _ _ _ _ _ _ _ _ _ _ _ _ _ _ _ _ _ (by omega) hpL' hI' hW' z)
      · obtain ⟨d0, rfl⟩ : ∃ d0, d' = d0 + 1 := ⟨d' - 1, by omega⟩
        refine st_comma hT F hkP hP hb hbL hpL eb c (fun _ _ x2 hx2 z => ?_)
        have ex : x2 = x' := by
          rcases hx2 with ⟨q1, q2⟩ | ⟨q1, q2⟩ <;> rcases hg with ⟨w1, w2⟩ | ⟨w1, w2⟩
          · omega
          · rw [q1] at w1; exact absurd w1 (by decide)
          · rw [q1] at w1; exact absurd w1 (by decide)
          · omega
        subst ex
        exact ih _ _ _ _ _ _ _ _ _ _ _ _ _ _ _ _ _ _ _ _ _ _ _ _ _ _ _ _ _ _ _ _ _ _ _ _ _ _ _ _ (by omega) hpL' hI' hW' z
      · obtain ⟨d0, rfl⟩ : ∃ d0, d' = d0 + 1 := ⟨d' - 1, by have := (hI.2.2.1 (by omega)).1; omega⟩
        exact st_colon hT F hkP hP hb hbL hpL eb c (fun _ z => ih _ _ _ _ _ _ _ _ _ _ _ _ _ _ _ _ _ _ _ _ _ _ _ _ _ _ _ _ _ _ _ _ _ _ _ _ _ _ _ _ (by omega) hpL' hI' hW' z)
      · obtain ⟨d0, rfl⟩ : ∃ d0, d' = d0 + 1 := ⟨d' - 1, by have := (hI.2.2.1 (by omega)).1; omega⟩
        exact st_name hT hx F hkP hP hb hbL hpL eb ee ew c hS (fun _ _ _ _ _ _ _ z => ih _ _ _ _ _ _ _ _ _ _ _ _ _ _ _ _ _ _ _ _ _ _ _ _ _ _ _ _ _ _ _ _ _ _ _ _ _ _ _ _ (by omega) hpL' hI' hW' z)
      · by_cases hat : 0 < d ∧ x_openSlot (d - 1) = -1
        · refine tagT hx hat (Or.inr (Or.inl c)) ?_
          rw [c]; rintro (q | q)
          · exact absurd q.2 (by decide)
          · exact absurd q (by decide)
        · exact st_open hT F hx (fun h e => hat ⟨h, e⟩) hslot hkP hP hb hbL hpL eb (fun w => by rw [c] at w; exact absurd w (by decide)) (fun _ => (fun z => ih _ _ _ _ _ _ _ _ _ _ _ _ _ _ _ _ _ _ _ _ _ _ _ _ _ _ _ _ _ _ _ _ _ _ _ _ _ _ _ _ (by omega) hpL' hI' hW' z)) (Or.inl c)
      · by_cases hat : 0 < d ∧ x_openSlot (d - 1) = -1
        · refine tagT hx hat (Or.inr (Or.inr (Or.inl c))) ?_
          rw [c]; rintro (q | q)
          · exact absurd q.2 (by decide)
          · exact absurd q (by decide)
        · exact st_open hT F hx (fun h e => hat ⟨h, e⟩) hslot hkP hP hb hbL hpL eb (fun _ => (fun z => ih _ _ _ _ _ _ _ _ _ _ _ _ _ _ _ _ _ _ _ _ _ _ _ _ _ _ _ _ _ _ _ _ _ _ _ _ _ _ _ _ (by omega) hpL' hI' hW' z)) (fun w => by rw [c] at w; exact absurd w (by decide)) (Or.inr c)
      · by_cases hat : 0 < d' ∧ x_openSlot (d' - 1) = -1
        · refine tagT hx hat (Or.inr (Or.inr (Or.inr (Or.inr (Or.inr c))))) ?_
          rcases c with c | c | c <;> rw [c]
          all_goals
            rintro (q | q)
            · exact absurd q.2 (by decide)
            · exact absurd q (by decide)
        · exact st_lit hT F hx (fun h e => hat ⟨h, e⟩) hslot hkP hP hb hbL hpL eb c (fun z => ih _ _ _ _ _ _ _ _ _ _ _ _ _ _ _ _ _ _ _ _ _ _ _ _ _ _ _ _ _ _ _ _ _ _ _ _ _ _ _ _ (by omega) hpL' hI' hW' z)
      · by_cases hat : 0 < d' ∧ x_openSlot (d' - 1) = -1
        · have := tg_x0 F hx hat.1 hat.2
          subst this
          obtain ⟨d0, rfl⟩ : ∃ d0, d' = d0 + 1 := ⟨d' - 1, by omega⟩
          exact st_tag hT F hat.2 hkP hP hb hbL hpL eb ee ew hB hS (fun _ _ _ _ _ _ _ z => ih _ _ _ _ _ _ _ _ _ _ _ _ _ _ _ _ _ _ _ _ _ _ _ _ _ _ _ _ _ _ _ _ _ _ _ _ _ _ _ _ (by omega) hpL' hI' hW' z)
        · exact st_num hT F hx (fun h e => hat ⟨h, e⟩) hslot hkP hP hb hbL hpL eb ee ew hB hS (fun z => ih _ _ _ _ _ _ _ _ _ _ _ _ _ _ _ _ _ _ _ _ _ _ _ _ _ _ _ _ _ _ _ _ _ _ _ _ _ _ _ _ (by omega) hpL' hI' hW' z)
      · by_cases hat : 0 < d' ∧ x_openSlot (d' - 1) = -1
        · refine tagT hx hat (Or.inr (Or.inr (Or.inr (Or.inl c)))) ?_
          rw [c]; rintro (q | q)
          · exact absurd q.2 (by decide)
          · exact absurd q (by decide)
        · exact st_txt hT F hx (fun h e => hat ⟨h, e⟩) hslot hkP hP hb hbL hpL eb ee ew c hS (fun z => ih _ _ _ _ _ _ _ _ _ _ _ _ _ _ _ _ _ _ _ _ _ _ _ _ _ _ _ _ _ _ _ _ _ _ _ _ _ _ _ _ (by omega) hpL' hI' hW' z)
    · obtain ⟨b, hb, hbL, eb, ew, hcs⟩ := hXp
      have hk1 : k + 1 = P := by omega
      rcases hcs with ⟨hB, hx, hX, hbz, ee⟩ | ⟨c, hx, q, e, hX, ee⟩ | ⟨c, hx, q, e, hX, ee⟩
      · by_cases hat : 0 < d ∧ x_openSlot (d - 1) = -1
        · have := tg_x0 F hx hat.1 hat.2
          subst this
          obtain ⟨d0, rfl⟩ : ∃ d0, d = d0 + 1 := ⟨d - 1, by omega⟩
          rw [ebad]
          exact st_tagX hT F hat.2 hk1 hP hb hbL eb ew hB hX
        · exact st_numX hT F hx (fun h e => hat ⟨h, e⟩) hslot hk1 hP hb hbL eb ew hB hX ebad
      · by_cases hat : 0 < d ∧ x_openSlot (d - 1) = -1
        · have := tg_x0 F hx hat.1 hat.2
          subst this
          obtain ⟨d0, rfl⟩ : ∃ d0, d = d0 + 1 := ⟨d - 1, by omega⟩
          refine st_tagT hT F hat.2 hkP hP hb hbL eb (Or.inr (Or.inr (Or.inr (Or.inl c)))) ?_
          rw [c]; rintro (q | q)
          · exact absurd q.2 (by decide)
          · exact absurd q (by decide)
        · exact st_txtX hT F hx (fun h e => hat ⟨h, e⟩) hslot hk1 hP hb hbL eb ee ew c hX ebad
      · obtain ⟨d0, rfl⟩ : ∃ d0, d = d0 + 1 := ⟨d - 1, by have := (hI.2.2.1 (by omega)).1; omega⟩
        rw [ebad]
        exact st_ncut hT hx F hk1 hP hb hbL eb ew c hX
end
