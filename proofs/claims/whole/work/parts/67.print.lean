/-! printing -/
section
variable {x_bound x_fault x_faultPlace x_mode x_at x_tokenStart x_textCount x_escaped x_valueSlot x_valueName : Int32} {x_text x_typeKind x_typeDetail x_typeLeast x_typeMost x_fieldCount x_fieldName x_fieldType x_fieldNeeded x_tagType x_nodeKind x_nodeValue x_nodeParent x_nodeName x_nodeSlot x_nodeStart x_nodeTag x_completeCount x_openNames : Nat → Int32} {y_parts y_bad y_fault y_depth y_nextName y_wantsName y_wantsTag : Int32} {y_typeA y_typeB y_typeC y_fields y_tags y_begin y_end y_inside y_whole y_kind y_value y_parent y_name y_slotOf y_placeOf y_complete y_openNode y_openType y_openCount y_openNames y_openChoice : Nat → Int32} {dp : Nat → Nat} {L N : Nat}
theorem pr_node (hT : rl_T L x_text x_typeKind x_typeDetail x_typeLeast x_typeMost x_fieldCount x_fieldName x_fieldType x_fieldNeeded x_tagType y_typeA y_typeB y_typeC y_fields y_tags) (e1 : pe_N N x_nodeKind y_kind) (e2 : pe_N N x_nodeValue y_value) (e3 : pe_N N x_nodeParent y_parent) (e4 : pe_N N x_nodeName y_name) (e5 : pe_N N x_nodeSlot y_slotOf) (e6 : pe_N N x_nodeStart y_placeOf) (A : nd_A x_text x_typeKind y_begin y_end L N x_nodeKind x_nodeValue x_nodeParent x_nodeName x_nodeSlot x_nodeStart x_nodeTag dp (fun _ => False)) : ∀ (f n : Nat), n < N → 7 ≤ dp n + f → ∃ (l : List Int32) (K : Nat), (l).length + 5 ≤ 110 * wt_N x_nodeParent dp N n ∧ K + 1 ≤ 2 * wt_N x_nodeParent dp N n ∧ (∀ (post : Int32 → SX → Prop) (c0 m : Nat) (o oN oS oP oC : Nat → Int32), m + (l).length < 60000 → c0 + K ≤ 80 → (∀ (oN' oS' oP' oC' : Nat → Int32), pe_N (dp n) oN oN' → pe_N (dp n) oS oS' → pe_N (dp n) oP oP' → pe_N (dp n) oC oC' → ∃ fu, wX_print_26 post fu (nI (c0 + K)) (nI L) (nI N) x_bound x_fault x_faultPlace x_mode x_at x_tokenStart x_textCount x_escaped x_valueSlot x_valueName (nI (dp n)) (nI (m + (l).length)) x_text x_typeKind x_typeDetail x_typeLeast x_typeMost x_fieldCount x_fieldName x_fieldType x_fieldNeeded x_tagType x_nodeKind x_nodeValue x_nodeParent x_nodeName x_nodeSlot x_nodeStart x_nodeTag x_completeCount (oN') (oS') x_openNames (oP') (oC') (ow_L o m (l))) → ∃ (fu d' m' : Nat) (o' oN' oS' oP' oC' : Nat → Int32), wX_print_26 post fu (nI (c0)) (nI L) (nI N) x_bound x_fault x_faultPlace x_mode x_at x_tokenStart x_textCount x_escaped x_valueSlot x_valueName (nI (d')) (nI (m')) x_text x_typeKind x_typeDetail x_typeLeast x_typeMost x_fieldCount x_fieldName x_fieldType x_fieldNeeded x_tagType x_nodeKind x_nodeValue x_nodeParent x_nodeName x_nodeSlot x_nodeStart x_nodeTag x_completeCount (oN') (oS') x_openNames (oP') (oC') (o') ∧ ∀ Q : SX → Prop, Q (nI L, nI N, x_bound, x_fault, x_faultPlace, x_mode, x_at, x_tokenStart, x_textCount, x_escaped, x_valueSlot, x_valueName, nI (d'), nI (m'), x_text, x_typeKind, x_typeDetail, x_typeLeast, x_typeMost, x_fieldCount, x_fieldName, x_fieldType, x_fieldNeeded, x_tagType, x_nodeKind, x_nodeValue, x_nodeParent, x_nodeName, x_nodeSlot, x_nodeStart, x_nodeTag, x_completeCount, oN', oS', x_openNames, oP', oC', o') → wpX_writeNode Q (nI L, nI N, x_bound, x_fault, x_faultPlace, x_mode, x_at, x_tokenStart, x_textCount, x_escaped, x_valueSlot, x_valueName, nI (dp n), nI (m), x_text, x_typeKind, x_typeDetail, x_typeLeast, x_typeMost, x_fieldCount, x_fieldName, x_fieldType, x_fieldNeeded, x_tagType, x_nodeKind, x_nodeValue, x_nodeParent, x_nodeName, x_nodeSlot, x_nodeStart, x_nodeTag, x_completeCount, oN, oS, x_openNames, oP, oC, o) (nI n)) ∧ (∀ (post : Int32 → SY → Prop) (s : List Int32) (a : Nat → Int32) (m : Nat) (o : Nat → Int32) (sc : Int32), hol a (nI (100 + n) :: s) → s.length ≤ 41 * dp n → m + (l).length < 60000 → (∀ (a' : Nat → Int32) (sc' : Int32), hol a' s → ∃ k, wY_print_23 post k (nI L) y_parts y_bad (nI N) y_fault x_faultPlace x_bound y_depth y_nextName y_wantsName y_wantsTag (nI (m + (l).length)) (nI (s.length)) (sc') x_typeKind y_typeA y_typeB y_typeC x_fieldName x_fieldType y_fields y_tags x_fieldNeeded x_text y_begin y_end y_inside y_whole y_kind y_value y_parent y_name y_slotOf y_placeOf y_complete y_openNode y_openType y_openCount y_openNames y_openChoice (ow_L o m (l)) (a')) → ∃ k, wY_print_23 post k (nI L) y_parts y_bad (nI N) y_fault x_faultPlace x_bound y_depth y_nextName y_wantsName y_wantsTag (nI (m)) (nI (s.length + 1)) sc x_typeKind y_typeA y_typeB y_typeC x_fieldName x_fieldType y_fields y_tags x_fieldNeeded x_text y_begin y_end y_inside y_whole y_kind y_value y_parent y_name y_slotOf y_placeOf y_complete y_openNode y_openType y_openCount y_openNames y_openChoice o a) := by
  intro f
  have hN := A.1
  have hU := A.2.2
  have hL := hT.1
  induction f with
  | zero =>
    intro n hn hf
    have := nd_6 A hn
    omega
  | succ f ih =>
    intro n hn hf
    have n40 : n < 40 := by omega
    have ecn : (nI n).toNatClampNeg = n := nI_clamp (by omega)
    have vn : vp_in (nI n) 40 := vp_in_nI n40 (by decide)
    obtain ⟨k, s, b, hk, hs, hb, ek, es, eb, -, h34, h0, h1, h3, h4⟩ := A.2.1 n hn
    have ecs : (nI s).toNatClampNeg = s := nI_clamp (by omega)
    have ekY : y_kind n = nI k := by rw [e1 n hn]; exact ek
    have esY : y_slotOf n = nI s := by rw [e5 n hn]; exact es
    have ebY : y_placeOf n = nI b := by rw [e6 n hn]; exact eb
    have evY : y_value n = x_nodeValue n := e2 n hn
    have tS := hT.2.2 s hs
    have kx : ∀ {j : Int32}, x_nodeKind n = j → x_nodeKind (nI n).toNatClampNeg = j := fun z => by rw [ecn]; exact z
    have ky : ∀ {j : Int32}, y_kind n = j → y_kind (nI n).toNatClampNeg = j := fun z => by rw [ecn]; exact z
    have hlt : ∀ c, c < N → y_parent c = nI n → n < c := fun c hc z => (nd_ch A hn hc (by rw [← e3 c hc]; exact z)).1
    obtain ⟨g, hg⟩ : ∃ g : Nat → List Int32 × Nat, ∀ c, (c < N ∧ x_nodeParent c = nI n) → ((g c).1).length + 5 ≤ 110 * wt_N x_nodeParent dp N c ∧ (g c).2 + 1 ≤ 2 * wt_N x_nodeParent dp N c ∧ (∀ (post : Int32 → SX → Prop) (c0 m : Nat) (o oN oS oP oC : Nat → Int32), m + ((g c).1).length < 60000 → c0 + (g c).2 ≤ 80 → (∀ (oN' oS' oP' oC' : Nat → Int32), pe_N (dp c) oN oN' → pe_N (dp c) oS oS' → pe_N (dp c) oP oP' → pe_N (dp c) oC oC' → ∃ fu, wX_print_26 post fu (nI (c0 + (g c).2)) (nI L) (nI N) x_bound x_fault x_faultPlace x_mode x_at x_tokenStart x_textCount x_escaped x_valueSlot x_valueName (nI (dp c)) (nI (m + ((g c).1).length)) x_text x_typeKind x_typeDetail x_typeLeast x_typeMost x_fieldCount x_fieldName x_fieldType x_fieldNeeded x_tagType x_nodeKind x_nodeValue x_nodeParent x_nodeName x_nodeSlot x_nodeStart x_nodeTag x_completeCount (oN') (oS') x_openNames (oP') (oC') (ow_L o m ((g c).1))) → ∃ (fu d' m' : Nat) (o' oN' oS' oP' oC' : Nat → Int32), wX_print_26 post fu (nI (c0)) (nI L) (nI N) x_bound x_fault x_faultPlace x_mode x_at x_tokenStart x_textCount x_escaped x_valueSlot x_valueName (nI (d')) (nI (m')) x_text x_typeKind x_typeDetail x_typeLeast x_typeMost x_fieldCount x_fieldName x_fieldType x_fieldNeeded x_tagType x_nodeKind x_nodeValue x_nodeParent x_nodeName x_nodeSlot x_nodeStart x_nodeTag x_completeCount (oN') (oS') x_openNames (oP') (oC') (o') ∧ ∀ Q : SX → Prop, Q (nI L, nI N, x_bound, x_fault, x_faultPlace, x_mode, x_at, x_tokenStart, x_textCount, x_escaped, x_valueSlot, x_valueName, nI (d'), nI (m'), x_text, x_typeKind, x_typeDetail, x_typeLeast, x_typeMost, x_fieldCount, x_fieldName, x_fieldType, x_fieldNeeded, x_tagType, x_nodeKind, x_nodeValue, x_nodeParent, x_nodeName, x_nodeSlot, x_nodeStart, x_nodeTag, x_completeCount, oN', oS', x_openNames, oP', oC', o') → wpX_writeNode Q (nI L, nI N, x_bound, x_fault, x_faultPlace, x_mode, x_at, x_tokenStart, x_textCount, x_escaped, x_valueSlot, x_valueName, nI (dp c), nI (m), x_text, x_typeKind, x_typeDetail, x_typeLeast, x_typeMost, x_fieldCount, x_fieldName, x_fieldType, x_fieldNeeded, x_tagType, x_nodeKind, x_nodeValue, x_nodeParent, x_nodeName, x_nodeSlot, x_nodeStart, x_nodeTag, x_completeCount, oN, oS, x_openNames, oP, oC, o) (nI c)) ∧ (∀ (post : Int32 → SY → Prop) (s : List Int32) (a : Nat → Int32) (m : Nat) (o : Nat → Int32) (sc : Int32), hol a (nI (100 + c) :: s) → s.length ≤ 41 * dp c → m + ((g c).1).length < 60000 → (∀ (a' : Nat → Int32) (sc' : Int32), hol a' s → ∃ k, wY_print_23 post k (nI L) y_parts y_bad (nI N) y_fault x_faultPlace x_bound y_depth y_nextName y_wantsName y_wantsTag (nI (m + ((g c).1).length)) (nI (s.length)) (sc') x_typeKind y_typeA y_typeB y_typeC x_fieldName x_fieldType y_fields y_tags x_fieldNeeded x_text y_begin y_end y_inside y_whole y_kind y_value y_parent y_name y_slotOf y_placeOf y_complete y_openNode y_openType y_openCount y_openNames y_openChoice (ow_L o m ((g c).1)) (a')) → ∃ k, wY_print_23 post k (nI L) y_parts y_bad (nI N) y_fault x_faultPlace x_bound y_depth y_nextName y_wantsName y_wantsTag (nI (m)) (nI (s.length + 1)) sc x_typeKind y_typeA y_typeB y_typeC x_fieldName x_fieldType y_fields y_tags x_fieldNeeded x_text y_begin y_end y_inside y_whole y_kind y_value y_parent y_name y_slotOf y_placeOf y_complete y_openNode y_openType y_openCount y_openNames y_openChoice o a) := pk_ax (β := List Int32 × Nat) (B := fun (c : Nat) (x : List Int32 × Nat) => (x.1).length + 5 ≤ 110 * wt_N x_nodeParent dp N c ∧ x.2 + 1 ≤ 2 * wt_N x_nodeParent dp N c ∧ (∀ (post : Int32 → SX → Prop) (c0 m : Nat) (o oN oS oP oC : Nat → Int32), m + (x.1).length < 60000 → c0 + x.2 ≤ 80 → (∀ (oN' oS' oP' oC' : Nat → Int32), pe_N (dp c) oN oN' → pe_N (dp c) oS oS' → pe_N (dp c) oP oP' → pe_N (dp c) oC oC' → ∃ fu, wX_print_26 post fu (nI (c0 + x.2)) (nI L) (nI N) x_bound x_fault x_faultPlace x_mode x_at x_tokenStart x_textCount x_escaped x_valueSlot x_valueName (nI (dp c)) (nI (m + (x.1).length)) x_text x_typeKind x_typeDetail x_typeLeast x_typeMost x_fieldCount x_fieldName x_fieldType x_fieldNeeded x_tagType x_nodeKind x_nodeValue x_nodeParent x_nodeName x_nodeSlot x_nodeStart x_nodeTag x_completeCount (oN') (oS') x_openNames (oP') (oC') (ow_L o m (x.1))) → ∃ (fu d' m' : Nat) (o' oN' oS' oP' oC' : Nat → Int32), wX_print_26 post fu (nI (c0)) (nI L) (nI N) x_bound x_fault x_faultPlace x_mode x_at x_tokenStart x_textCount x_escaped x_valueSlot x_valueName (nI (d')) (nI (m')) x_text x_typeKind x_typeDetail x_typeLeast x_typeMost x_fieldCount x_fieldName x_fieldType x_fieldNeeded x_tagType x_nodeKind x_nodeValue x_nodeParent x_nodeName x_nodeSlot x_nodeStart x_nodeTag x_completeCount (oN') (oS') x_openNames (oP') (oC') (o') ∧ ∀ Q : SX → Prop, Q (nI L, nI N, x_bound, x_fault, x_faultPlace, x_mode, x_at, x_tokenStart, x_textCount, x_escaped, x_valueSlot, x_valueName, nI (d'), nI (m'), x_text, x_typeKind, x_typeDetail, x_typeLeast, x_typeMost, x_fieldCount, x_fieldName, x_fieldType, x_fieldNeeded, x_tagType, x_nodeKind, x_nodeValue, x_nodeParent, x_nodeName, x_nodeSlot, x_nodeStart, x_nodeTag, x_completeCount, oN', oS', x_openNames, oP', oC', o') → wpX_writeNode Q (nI L, nI N, x_bound, x_fault, x_faultPlace, x_mode, x_at, x_tokenStart, x_textCount, x_escaped, x_valueSlot, x_valueName, nI (dp c), nI (m), x_text, x_typeKind, x_typeDetail, x_typeLeast, x_typeMost, x_fieldCount, x_fieldName, x_fieldType, x_fieldNeeded, x_tagType, x_nodeKind, x_nodeValue, x_nodeParent, x_nodeName, x_nodeSlot, x_nodeStart, x_nodeTag, x_completeCount, oN, oS, x_openNames, oP, oC, o) (nI c)) ∧ (∀ (post : Int32 → SY → Prop) (s : List Int32) (a : Nat → Int32) (m : Nat) (o : Nat → Int32) (sc : Int32), hol a (nI (100 + c) :: s) → s.length ≤ 41 * dp c → m + (x.1).length < 60000 → (∀ (a' : Nat → Int32) (sc' : Int32), hol a' s → ∃ k, wY_print_23 post k (nI L) y_parts y_bad (nI N) y_fault x_faultPlace x_bound y_depth y_nextName y_wantsName y_wantsTag (nI (m + (x.1).length)) (nI (s.length)) (sc') x_typeKind y_typeA y_typeB y_typeC x_fieldName x_fieldType y_fields y_tags x_fieldNeeded x_text y_begin y_end y_inside y_whole y_kind y_value y_parent y_name y_slotOf y_placeOf y_complete y_openNode y_openType y_openCount y_openNames y_openChoice (ow_L o m (x.1)) (a')) → ∃ k, wY_print_23 post k (nI L) y_parts y_bad (nI N) y_fault x_faultPlace x_bound y_depth y_nextName y_wantsName y_wantsTag (nI (m)) (nI (s.length + 1)) sc x_typeKind y_typeA y_typeB y_typeC x_fieldName x_fieldType y_fields y_tags x_fieldNeeded x_text y_begin y_end y_inside y_whole y_kind y_value y_parent y_name y_slotOf y_placeOf y_complete y_openNode y_openType y_openCount y_openNames y_openChoice o a)) (fun c hc => by
      obtain ⟨l, K, h⟩ := ih c hc.1 (by have := (nd_ch A hn hc.1 hc.2).2; omega)
      exact ⟨(l, K), h⟩)
    have kk : k = 0 ∨ k = 1 ∨ k = 2 ∨ k = 3 ∨ k = 4 ∨ k = 5 ∨ k = 6 := by omega
    rcases kk with rfl | rfl | rfl | rfl | rfl | rfl | rfl
    · have ek' : x_nodeKind n = 0 := ek
      have ekY' : y_kind n = 0 := ekY
      obtain ⟨eA, -, -, D, hD, eD⟩ := tS.2.1 (h0 rfl)
      obtain ⟨l, hl, hX, hY⟩ := pr_num (x_nodeValue n) hD
      refine pr_leaf (l := l) A hn (by omega) (fun Q m o oN oS oP oC hm hQ => ?_) (fun Q m o wa a sc hm hQ => ?_)
      · refine ⟨vn, nm_r (kx ek') (br_f (by decide) (br_f (by decide) (br_t rfl ⟨vn, vn, ?_⟩)))⟩
        rw [ecn, es]
        refine ⟨vp_in_nI hs (by decide), ?_⟩
        rw [ecs, eD]
        exact hX _ m o (by omega) hQ
      · refine ⟨vn, nm_r (ky ekY') (br_t rfl ⟨vn, vn, ?_⟩)⟩
        rw [ecn, esY]
        refine ⟨vp_in_nI hs (by decide), ?_⟩
        rw [ecs, eA, eD, evY]
        exact hY _ m o (by omega) hQ
    · have ek' : x_nodeKind n = 1 := ek
      have ekY' : y_kind n = 1 := ekY
      obtain ⟨b16, q, hW⟩ := h1 rfl
      obtain ⟨l, hl, hX, hY⟩ := pr_txt hL hb b16 hW
      refine pr_leaf (l := l) A hn (by omega) (fun Q m o oN oS oP oC hm hQ => ?_) (fun Q m o wa a sc hm hQ => ?_)
      · refine ⟨vn, nm_r (kx ek') (br_f (by decide) (br_f (by decide) (br_f (by decide) (br_t rfl ⟨vn, ?_⟩))))⟩
        rw [ecn, eb]
        exact hX _ m o (by omega) hQ
      · refine ⟨vn, nm_r (ky ekY') (br_f (by decide) (br_t rfl ⟨vn, ?_⟩))⟩
        rw [ecn, ebY]
        exact hY _ m o (by omega) hQ
    · have ek' : x_nodeKind n = 2 := ek
      have ekY' : y_kind n = 2 := ekY
      by_cases z : x_nodeValue n = 1
      · refine pr_leaf (l := [28]) A hn (by decide) (fun Q m o oN oS oP oC hm hQ => ?_) (fun Q m o wa a sc hm hQ => ?_)
        · refine ⟨vn, nm_r (kx ek') (br_f (by decide) (br_f (by decide) (br_f (by decide) (br_f (by decide) (br_t rfl ⟨vn, br_t (by rw [ecn]; exact z) ?_⟩)))))⟩
          unfold wX_writeNode_103
          exact wr_x (by omega) hQ
        · refine ⟨vn, nm_r (ky ekY') (br_f (by decide) (br_f (by decide) (br_t rfl ⟨vn, br_t (by rw [ecn, evY]; exact z) ?_⟩)))⟩
          unfold wY_show_76
          exact ou_y (by omega) hQ
      · refine pr_leaf (l := [29]) A hn (by decide) (fun Q m o oN oS oP oC hm hQ => ?_) (fun Q m o wa a sc hm hQ => ?_)
        · refine ⟨vn, nm_r (kx ek') (br_f (by decide) (br_f (by decide) (br_f (by decide) (br_f (by decide) (br_t rfl ⟨vn, br_f (by rw [ecn]; exact z) ?_⟩)))))⟩
          unfold wX_writeNode_103
          exact wr_x (by omega) hQ
        · refine ⟨vn, nm_r (ky ekY') (br_f (by decide) (br_f (by decide) (br_t rfl ⟨vn, br_f (by rw [ecn, evY]; exact z) ?_⟩)))⟩
          unfold wY_show_76
          exact ou_y (by omega) hQ
    · obtain ⟨-, et, q, hq, ev, hc1, hc2⟩ := h3 rfl
      exact pr_list e1 e2 e3 e4 e5 e6 A hn hg ek et (h34 (Or.inl rfl)) hq ev hc1 hc2
    · have ek' : x_nodeKind n = 4 := ek
      have ekY' : y_kind n = 4 := ekY
      have hd5 := h34 (Or.inr rfl)
      rcases h4 rfl with ⟨so5, et⟩ | ⟨-, -, hF⟩ | ⟨so6, tg, rs, K, ok, htg, hrs, et, ev, so5, hK, u1, u2, u3⟩
      · obtain ⟨efs, mq, hmq, efc, hfs, hfu⟩ := tS.2.2.2.2.1 so5
        obtain ⟨rr, hrr⟩ : ∃ rr : Nat → Int32, ∀ i, i < mq → fd_R N x_nodeParent x_nodeName (nI n) (x_fieldName (4 * s + i)) (rr i) := pk_ax (fun i _ => fd_ex hU _ _)
        have hrr2 : ∀ i, i < mq → rr i = -1 ∨ ∃ c, c < N ∧ rr i = nI c := fun i hi => by
          rcases hrr i hi with ⟨c, hc, -, -, -, e⟩ | ⟨-, e⟩
          · exact Or.inr ⟨c, hc, e⟩
          · exact Or.inl e
        refine pr_rec (z := 0) (opl := [10]) e1 e2 e3 e4 e5 e6 A hn hg ek' hd5 (by omega) hs hmq efc (fun i hi => by
          obtain ⟨a, -, -, ha, -, -, ea, -, -⟩ := hfs i hi
          exact ⟨a, ha, ea⟩) hfu (by decide) hrr (fun Q m o oN oS oP oC hm hQ => ?_) (fun post st a m o sc ha hst hm h => ?_)
        · refine ⟨vn, nm_r (kx ek') (br_f (by decide) (br_f (by decide) (br_f (by decide) (br_f (by decide) (br_f (by decide) (br_f (by decide) (br_t rfl ?_)))))))⟩
          unfold wX_writeNode_109
          exact wo_r n40 (by omega) (by omega) ek' et es hQ
        · exact yo_r hN hn hlt hs hmq (by rw [efs]; exact efc) (fun i hi => fd_e e3 e4 (hrr i hi)) hrr2 ekY' esY so5 ha hst hm (fun a' ha' => h a' sc ha')
      · exact hF.elim
      · have tR := hT.2.2 rs hrs
        obtain ⟨efs, mq, hmq, efc, hfs, hfu⟩ := tR.2.2.2.2.1 so5
        obtain ⟨eA, -, -⟩ := tS.2.2.2.2.2.1 so6
        obtain ⟨rr, hrr⟩ : ∃ rr : Nat → Int32, ∀ i, i < mq → fd_R N x_nodeParent x_nodeName (nI n) (x_fieldName (4 * rs + i)) (rr i) := pk_ax (fun i _ => fd_ex hU _ _)
        have hrr2 : ∀ i, i < mq → rr i = -1 ∨ ∃ c, c < N ∧ rr i = nI c := fun i hi => by
          rcases hrr i hi with ⟨c, hc, -, -, -, e⟩ | ⟨-, e⟩
          · exact Or.inr ⟨c, hc, e⟩
          · exact Or.inl e
        refine pr_rec (z := 1) (opl := [10, 16, 21 + x_typeDetail s, 16, 14, nI tg]) e1 e2 e3 e4 e5 e6 A hn hg ek' hd5 (by omega) hrs hmq efc (fun i hi => by
          obtain ⟨a, -, -, ha, -, -, ea, -, -⟩ := hfs i hi
          exact ⟨a, ha, ea⟩) hfu (by exact Nat.le_refl 6) hrr (fun Q m o oN oS oP oC hm hQ => ?_) (fun post st a m o sc ha hst hm h => ?_)
        · refine ⟨vn, nm_r (kx ek') (br_f (by decide) (br_f (by decide) (br_f (by decide) (br_f (by decide) (br_f (by decide) (br_f (by decide) (br_t rfl ?_)))))))⟩
          unfold wX_writeNode_109
          exact wo_t n40 hs (by omega) (by omega) ek' et (hh_m1 (by omega)) es ev hQ
        · exact yo_t hN hn hlt hrs hmq (by rw [efs]; exact efc) (fun i hi => fd_e e3 e4 (hrr i hi)) hrr2 ekY' hs esY so6 (by rw [evY]; exact ev) hK u1 u2 ebY u3 ha hst hm (fun a' ha' => by
            rw [eA]; exact h a' _ ha')
    · have ek' : x_nodeKind n = 5 := ek
      have ekY' : y_kind n = 5 := ekY
      refine pr_leaf (l := [27]) A hn (by decide) (fun Q m o oN oS oP oC hm hQ => ?_) (fun Q m o wa a sc hm hQ => ?_)
      · refine ⟨vn, nm_r (kx ek') (br_f (by decide) (br_f (by decide) (br_f (by decide) (br_f (by decide) (br_f (by decide) (br_f (by decide) (br_f (by decide) (br_t rfl ?_))))))))⟩
        unfold wX_writeNode_131
        exact wr_x (by omega) hQ
      · exact ⟨vn, nm_r (ky ekY') (br_f (by decide) (br_f (by decide) (br_f (by decide) (br_f (by decide) (br_f (by decide) (br_t rfl (ou_y (by omega) hQ)))))))⟩
    · have ek' : x_nodeKind n = 6 := ek
      have ekY' : y_kind n = 6 := ekY
      obtain ⟨l, hl, hX, hY⟩ := pr_num (x_nodeValue n) (D := 0) (by omega)
      refine pr_leaf (l := l) A hn (by omega) (fun Q m o oN oS oP oC hm hQ => ?_) (fun Q m o wa a sc hm hQ => ?_)
      · refine ⟨vn, nm_r (kx ek') (br_f (by decide) (br_f (by decide) (br_f (by decide) (br_f (by decide) (br_f (by decide) (br_f (by decide) (br_f (by decide) (br_f (by decide) (br_t rfl ⟨vn, ?_⟩)))))))))⟩
        rw [ecn]
        exact hX _ m o (by omega) hQ
      · refine ⟨vn, nm_r (ky ekY') (br_f (by decide) (br_f (by decide) (br_f (by decide) (br_f (by decide) (br_f (by decide) (br_f (by decide) ⟨vn, ?_⟩))))))⟩
        rw [ecn, evY]
        exact hY _ m o (by omega) hQ
end
theorem i_vc_print {k : Nat} {u : SX} {v : SY} (I : i_Rel k u v) (hk : k + 6 ≤ 3072) : wpX_print (fun r u' => wpY_print (fun r' v' => r' = r ∧ i_Rel (k + 6) u' v') v) u := by
  obtain ⟨x_nodeCount, x_bound, x_fault, x_faultPlace, x_mode, x_at, x_tokenStart, x_textCount, x_escaped, x_valueSlot, x_valueName, x_depth, x_outputLength, x_text, x_typeKind, x_typeDetail, x_typeLeast, x_typeMost, x_fieldCount, x_fieldName, x_fieldType, x_fieldNeeded, x_tagType, x_nodeKind, x_nodeValue, x_nodeParent, x_nodeName, x_nodeSlot, x_nodeStart, x_nodeTag, x_completeCount, x_openNode, x_openSlot, x_openNames, x_openNext, x_openComma, x_output, y_parts, y_bad, y_nodes, y_fault, y_depth, y_nextName, y_wantsName, y_wantsTag, y_waiting, y_scaled, y_typeA, y_typeB, y_typeC, y_fields, y_tags, y_begin, y_end, y_inside, y_whole, y_kind, y_value, y_parent, y_name, y_slotOf, y_placeOf, y_complete, y_openNode, y_openType, y_openCount, y_openNames, y_openChoice, y_todo, L, rfl, rfl, hT, hB⟩ := I
  rcases hB with rfl | ⟨rfl, N, dp, hN1, rfl, rfl, e1, e2, e3, e4, e5, e6, A⟩
  · exact br_t rfl (br_t rfl ⟨0 + 1, br_t (by decide) ⟨rfl, rl_mk hT (Or.inl rfl)⟩⟩)
  · have hN := A.1
    have dp0 : dp 0 = 0 := by
      obtain ⟨k0, s0, b0, -, -, -, -, -, -, w, -⟩ := A.2.1 0 (by omega)
      rcases w with ⟨-, -, -, e⟩ | ⟨p, j, hp, -⟩
      · exact e
      · omega
    obtain ⟨l, K, hl, hK, hX, hY⟩ := pr_node (x_fault := x_fault) (x_faultPlace := x_faultPlace) (x_mode := x_mode) (x_at := x_at) (x_tokenStart := x_tokenStart) (x_textCount := x_textCount) (x_escaped := x_escaped) (x_valueSlot := x_valueSlot) (x_valueName := x_valueName) (x_text := x_text) (x_typeKind := x_typeKind) (x_typeDetail := x_typeDetail) (x_typeLeast := x_typeLeast) (x_typeMost := x_typeMost) (x_fieldCount := x_fieldCount) (x_fieldName := x_fieldName) (x_fieldType := x_fieldType) (x_fieldNeeded := x_fieldNeeded) (x_tagType := x_tagType) (x_nodeKind := x_nodeKind) (x_nodeValue := x_nodeValue) (x_nodeParent := x_nodeParent) (x_nodeName := x_nodeName) (x_nodeSlot := x_nodeSlot) (x_nodeStart := x_nodeStart) (x_nodeTag := x_nodeTag) (x_completeCount := x_completeCount) (x_openNames := x_openNames) (x_bound := 1) (y_parts := y_parts) (y_bad := y_bad) (y_fault := y_fault) (y_depth := y_depth) (y_nextName := y_nextName) (y_wantsName := y_wantsName) (y_wantsTag := y_wantsTag) (y_typeA := y_typeA) (y_typeB := y_typeB) (y_typeC := y_typeC) (y_fields := y_fields) (y_tags := y_tags) (y_begin := y_begin) (y_end := y_end) (y_inside := y_inside) (y_whole := y_whole) (y_kind := y_kind) (y_value := y_value) (y_parent := y_parent) (y_name := y_name) (y_slotOf := y_slotOf) (y_placeOf := y_placeOf) (y_complete := y_complete) (y_openNode := y_openNode) (y_openType := y_openType) (y_openCount := y_openCount) (y_openNames := y_openNames) (y_openChoice := y_openChoice) hT e1 e2 e3 e4 e5 e6 A 7 0 (by omega) (by omega)
    have hw : wt_N x_nodeParent dp N 0 ≤ N := cq_le _ _
    rw [dp0] at hX hY
    have hend : ∀ (oN' oS' oP' oC' : Nat → Int32), wpY_print (fun r' v' => r' = nI (0 + l.length) ∧ i_Rel (k + 6) (nI L, nI N, 1, x_fault, x_faultPlace, x_mode, x_at, x_tokenStart, x_textCount, x_escaped, x_valueSlot, x_valueName, nI 0, nI (0 + l.length), x_text, x_typeKind, x_typeDetail, x_typeLeast, x_typeMost, x_fieldCount, x_fieldName, x_fieldType, x_fieldNeeded, x_tagType, x_nodeKind, x_nodeValue, x_nodeParent, x_nodeName, x_nodeSlot, x_nodeStart, x_nodeTag, x_completeCount, oN', oS', x_openNames, oP', oC', ow_L x_output 0 l) v') (nI L, y_parts, y_bad, nI N, y_fault, x_faultPlace, 1, y_depth, y_nextName, y_wantsName, y_wantsTag, x_outputLength, y_waiting, y_scaled, x_typeKind, y_typeA, y_typeB, y_typeC, x_fieldName, x_fieldType, y_fields, y_tags, x_fieldNeeded, x_text, y_begin, y_end, y_inside, y_whole, y_kind, y_value, y_parent, y_name, y_slotOf, y_placeOf, y_complete, y_openNode, y_openType, y_openCount, y_openNames, y_openChoice, x_output, y_todo) := by
      intro oN' oS' oP' oC'
      refine br_f (by decide) (la_y (w := 0) (by omega) ?_)
      exact hY _ [] (upd y_todo 0 100) 0 x_output y_scaled ⟨pk_us, trivial⟩ (Nat.zero_le _) (by omega) (fun a' sc' _ => ⟨0 + 1, br_t (by decide) ⟨rfl, rl_mk hT (Or.inr ⟨rfl, N, dp, hN1, rfl, rfl, e1, e2, e3, e4, e5, e6, A⟩)⟩⟩)
    obtain ⟨fu, d', m', o', b1, b2, b3, b4, hL, hW⟩ := hX (fun r u' => wpY_print (fun r' v' => r' = r ∧ i_Rel (k + 6) u' v') (nI L, y_parts, y_bad, nI N, y_fault, x_faultPlace, 1, y_depth, y_nextName, y_wantsName, y_wantsTag, x_outputLength, y_waiting, y_scaled, x_typeKind, y_typeA, y_typeB, y_typeC, x_fieldName, x_fieldType, y_fields, y_tags, x_fieldNeeded, x_text, y_begin, y_end, y_inside, y_whole, y_kind, y_value, y_parent, y_name, y_slotOf, y_placeOf, y_complete, y_openNode, y_openType, y_openCount, y_openNames, y_openChoice, x_output, y_todo)) 0 0 x_output x_openNode x_openSlot x_openNext x_openComma (by omega) (by omega) (fun oN' oS' oP' oC' _ _ _ _ => ⟨0 + 1, br_c (fun _ => hend oN' oS' oP' oC') (fun _ => br_t (by decide) (hend oN' oS' oP' oC'))⟩)
    exact br_f (by decide) (hW _ ⟨fu, hL⟩)
