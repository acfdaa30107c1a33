/-! printing: the component, level by level -/
def kl_N (Kc : Nat → Nat) : List (List Int32 × Nat) → Nat
  | [] => 1
  | e :: r => 1 + Kc e.2 + kl_N Kc r
section
variable {x_length x_bound x_fault x_faultPlace x_mode x_at x_tokenStart x_textCount x_escaped x_valueSlot x_valueName : Int32} {x_text x_typeKind x_typeDetail x_typeLeast x_typeMost x_fieldCount x_fieldName x_fieldType x_fieldNeeded x_tagType x_nodeKind x_nodeValue x_nodeParent x_nodeName x_nodeSlot x_nodeStart x_nodeTag x_completeCount x_openNames : Nat → Int32} {dp : Nat → Nat} {N n d : Nat} {lc : Nat → List Int32} {Kc : Nat → Nat} {post : Int32 → SX → Prop}
theorem pe_d {a a' : Nat → Int32} {x : Int32} (h : pe_N (d + 1) (upd a d x) a') : pe_N d a a' ∧ a' d = x := by
  refine ⟨fun i hi => ?_, ?_⟩
  · rw [h i (by omega), pk_un (by omega)]
  · rw [h d (by omega), pk_us]
theorem pe_t {a a' : Nat → Int32} (h : pe_N (d + 1) a a') : pe_N d a a' ∧ a' d = a d := ⟨fun i hi => h i (by omega), h d (by omega)⟩
theorem pe_tt {a a' a'' : Nat → Int32} (h : pe_N d a a') (h' : pe_N d a' a'') : pe_N d a a'' := fun i hi => by rw [h' i hi, h i hi]
theorem xl_l (hN : N ≤ 40) (hn : n < N) (hd : d < 6) (ek : x_nodeKind n = 3) {q : Nat} {ch : Nat → Nat} (hq : q ≤ 20) (hch : ∀ j, j < q → fd_R N x_nodeParent x_nodeName (nI n) (nI j) (nI (ch j))) (hend : fd_R N x_nodeParent x_nodeName (nI n) (nI q) (-1)) (hch2 : ∀ j, j < q → ch j < N ∧ dp (ch j) = d + 1 ∧ ∀ (post : Int32 → SX → Prop) (c0 m : Nat) (o oN oS oP oC : Nat → Int32), m + (lc (ch j)).length < 60000 → c0 + Kc (ch j) ≤ 80 → (∀ (oN' oS' oP' oC' : Nat → Int32), pe_N (dp (ch j)) oN oN' → pe_N (dp (ch j)) oS oS' → pe_N (dp (ch j)) oP oP' → pe_N (dp (ch j)) oC oC' → ∃ fu, wX_print_26 post fu (nI (c0 + Kc (ch j))) x_length (nI N) x_bound x_fault x_faultPlace x_mode x_at x_tokenStart x_textCount x_escaped x_valueSlot x_valueName (nI (dp (ch j))) (nI (m + (lc (ch j)).length)) x_text x_typeKind x_typeDetail x_typeLeast x_typeMost x_fieldCount x_fieldName x_fieldType x_fieldNeeded x_tagType x_nodeKind x_nodeValue x_nodeParent x_nodeName x_nodeSlot x_nodeStart x_nodeTag x_completeCount (oN') (oS') x_openNames (oP') (oC') (ow_L o m (lc (ch j)))) → ∃ (fu d' m' : Nat) (o' oN' oS' oP' oC' : Nat → Int32), wX_print_26 post fu (nI (c0)) x_length (nI N) x_bound x_fault x_faultPlace x_mode x_at x_tokenStart x_textCount x_escaped x_valueSlot x_valueName (nI (d')) (nI (m')) x_text x_typeKind x_typeDetail x_typeLeast x_typeMost x_fieldCount x_fieldName x_fieldType x_fieldNeeded x_tagType x_nodeKind x_nodeValue x_nodeParent x_nodeName x_nodeSlot x_nodeStart x_nodeTag x_completeCount (oN') (oS') x_openNames (oP') (oC') (o') ∧ ∀ Q : SX → Prop, Q (x_length, nI N, x_bound, x_fault, x_faultPlace, x_mode, x_at, x_tokenStart, x_textCount, x_escaped, x_valueSlot, x_valueName, nI (d'), nI (m'), x_text, x_typeKind, x_typeDetail, x_typeLeast, x_typeMost, x_fieldCount, x_fieldName, x_fieldType, x_fieldNeeded, x_tagType, x_nodeKind, x_nodeValue, x_nodeParent, x_nodeName, x_nodeSlot, x_nodeStart, x_nodeTag, x_completeCount, oN', oS', x_openNames, oP', oC', o') → wpX_writeNode Q (x_length, nI N, x_bound, x_fault, x_faultPlace, x_mode, x_at, x_tokenStart, x_textCount, x_escaped, x_valueSlot, x_valueName, nI (dp (ch j)), nI (m), x_text, x_typeKind, x_typeDetail, x_typeLeast, x_typeMost, x_fieldCount, x_fieldName, x_fieldType, x_fieldNeeded, x_tagType, x_nodeKind, x_nodeValue, x_nodeParent, x_nodeName, x_nodeSlot, x_nodeStart, x_nodeTag, x_completeCount, oN, oS, x_openNames, oP, oC, o) (nI (ch j))) :
    ∀ (r k c0 m : Nat) (o oN oS oP oC : Nat → Int32), k + r = q → oN d = nI n → oP d = nI k → (k = 0 → oC d = 0) → (¬ k = 0 → oC d = 1) → m + (pt_L lc (eL_L ch k r)).length + 1 < 60000 → c0 + kl_N Kc (eL_L ch k r) ≤ 80 →
    (∀ (oN' oS' oP' oC' : Nat → Int32), pe_N d oN oN' → pe_N d oS oS' → pe_N d oP oP' → pe_N d oC oC' → ∃ fu, wX_print_26 post fu (nI (c0 + kl_N Kc (eL_L ch k r))) x_length (nI N) x_bound x_fault x_faultPlace x_mode x_at x_tokenStart x_textCount x_escaped x_valueSlot x_valueName (nI (d)) (nI (m + ((pt_L lc (eL_L ch k r)).length + 1))) x_text x_typeKind x_typeDetail x_typeLeast x_typeMost x_fieldCount x_fieldName x_fieldType x_fieldNeeded x_tagType x_nodeKind x_nodeValue x_nodeParent x_nodeName x_nodeSlot x_nodeStart x_nodeTag x_completeCount (oN') (oS') x_openNames (oP') (oC') (ow_L o m (pt_L lc (eL_L ch k r) ++ [13]))) → ∃ fu, wX_print_26 post fu (nI (c0)) x_length (nI N) x_bound x_fault x_faultPlace x_mode x_at x_tokenStart x_textCount x_escaped x_valueSlot x_valueName (nI (d + 1)) (nI (m)) x_text x_typeKind x_typeDetail x_typeLeast x_typeMost x_fieldCount x_fieldName x_fieldType x_fieldNeeded x_tagType x_nodeKind x_nodeValue x_nodeParent x_nodeName x_nodeSlot x_nodeStart x_nodeTag x_completeCount oN oS x_openNames oP oC o := by
  intro r
  induction r with
  | zero =>
    intro k c0 m o oN oS oP oC hk e1 e2 h0 h1 hm hc h
    have : k = q := by omega
    subst this
    have hm2 : m + 0 + 1 < 60000 := hm
    have hc2 : c0 + 1 ≤ 80 := hc
    obtain ⟨fu, hf⟩ := h oN oS (upd oP d (nI (k + 1))) oC (fun _ _ => rfl) (fun _ _ => rfl) (fun i hi => pk_un (by omega)) (fun _ _ => rfl)
    refine ⟨fu + 1, br_f (nI_ge (b := 80) (by omega) (by decide)) (br_f (nI_nle (by omega) (by omega)) (nc_l (k := k) hN hn hd (by omega) rfl e1 ek e2 hend (br_t rfl (wc_l hd (by omega) (by omega) e1 ek (nm_r (nI_1 c0) hf)))))⟩
  | succ r ih =>
    intro k c0 m o oN oS oP oC hk e1 e2 h0 h1 hm hc h
    obtain ⟨g1, g2, g3⟩ := hch2 k (by omega)
    have es2 : pt_L lc (eL_L ch k (r + 1)) = (if k = 0 then [] else [15]) ++ (lc (ch k) ++ pt_L lc (eL_L ch (k + 1) r)) := rfl
    have ek2 : kl_N Kc (eL_L ch k (r + 1)) = 1 + Kc (ch k) + kl_N Kc (eL_L ch (k + 1) r) := rfl
    rw [es2, ek2] at h
    rw [es2] at hm
    rw [ek2] at hc
    have hl2 : ((if k = 0 then ([] : List Int32) else [15]) ++ (lc (ch k) ++ pt_L lc (eL_L ch (k + 1) r))).length = (if k = 0 then ([] : List Int32) else [15]).length + ((lc (ch k)).length + (pt_L lc (eL_L ch (k + 1) r)).length) := by rw [List.length_append, List.length_append]
    rw [hl2] at hm h
    obtain ⟨fu, d', m', o', b1, b2, b3, b4, hL, hW⟩ := g3 post (c0 + 1) (m + (if k = 0 then ([] : List Int32) else [15]).length) (ow_L o m (if k = 0 then [] else [15])) oN oS (upd oP d (nI (k + 1))) (upd oC d 1) (by omega) (by omega) (fun oN' oS' oP' oC' p1 p2 p3 p4 => by
      rw [g2] at p1 p2 p3 p4 ⊢
      obtain ⟨p1, q1⟩ := pe_t p1
      obtain ⟨p2, -⟩ := pe_t p2
      obtain ⟨p3, q3⟩ := pe_d p3
      obtain ⟨p4, q4⟩ := pe_d p4
      refine ih (k + 1) (c0 + 1 + Kc (ch k)) _ _ oN' oS' oP' oC' (by omega) (by rw [q1]; exact e1) q3 (fun z => absurd z (by omega)) (fun _ => q4) (by omega) (by omega) (fun s1 s2 s3 s4 t1 t2 t3 t4 => ?_)
      obtain ⟨fu, hf⟩ := h s1 s2 s3 s4 (pe_tt p1 t1) (pe_tt p2 t2) (pe_tt p3 t3) (pe_tt p4 t4)
      refine ⟨fu, ?_⟩
      rw [List.append_assoc, List.append_assoc, ow_app, ow_app] at hf
      rw [show c0 + 1 + Kc (ch k) + kl_N Kc (eL_L ch (k + 1) r) = c0 + (1 + Kc (ch k) + kl_N Kc (eL_L ch (k + 1) r)) from by omega, show m + (if k = 0 then ([] : List Int32) else [15]).length + (lc (ch k)).length + ((pt_L lc (eL_L ch (k + 1) r)).length + 1) = m + ((if k = 0 then ([] : List Int32) else [15]).length + ((lc (ch k)).length + (pt_L lc (eL_L ch (k + 1) r)).length) + 1) from by omega]
      exact hf)
    rw [g2] at hW
    exact ⟨fu + 1, br_f (nI_ge (b := 80) (by omega) (by decide)) (br_f (nI_nle (by omega) (by omega)) (nc_l (k := k) hN hn hd (by omega) rfl e1 ek e2 (hch k (by omega)) (br_f (hh_m1 (by omega)) (wl_l (k := k) hd (by omega) (by omega) e1 ek h0 h1 (hW _ (nm_r (nI_1 c0) hL))))))⟩
theorem xl_r (hN : N ≤ 40) (hn : n < N) (hd : d < 6) (ek : ¬ x_nodeKind n = 3) {rs mq z : Nat} {rr : Nat → Int32} (hrs : rs < 12) (hq : mq ≤ 4) (ef : x_fieldCount rs = nI mq) (hrr : ∀ i, i < mq → fd_R N x_nodeParent x_nodeName (nI n) (x_fieldName (4 * rs + i)) (rr i)) (hch2 : ∀ i c, i < mq → c < N → rr i = nI c → dp c = d + 1 ∧ ∀ (post : Int32 → SX → Prop) (c0 m : Nat) (o oN oS oP oC : Nat → Int32), m + (lc c).length < 60000 → c0 + Kc c ≤ 80 → (∀ (oN' oS' oP' oC' : Nat → Int32), pe_N (dp c) oN oN' → pe_N (dp c) oS oS' → pe_N (dp c) oP oP' → pe_N (dp c) oC oC' → ∃ fu, wX_print_26 post fu (nI (c0 + Kc c)) x_length (nI N) x_bound x_fault x_faultPlace x_mode x_at x_tokenStart x_textCount x_escaped x_valueSlot x_valueName (nI (dp c)) (nI (m + (lc c).length)) x_text x_typeKind x_typeDetail x_typeLeast x_typeMost x_fieldCount x_fieldName x_fieldType x_fieldNeeded x_tagType x_nodeKind x_nodeValue x_nodeParent x_nodeName x_nodeSlot x_nodeStart x_nodeTag x_completeCount (oN') (oS') x_openNames (oP') (oC') (ow_L o m (lc c))) → ∃ (fu d' m' : Nat) (o' oN' oS' oP' oC' : Nat → Int32), wX_print_26 post fu (nI (c0)) x_length (nI N) x_bound x_fault x_faultPlace x_mode x_at x_tokenStart x_textCount x_escaped x_valueSlot x_valueName (nI (d')) (nI (m')) x_text x_typeKind x_typeDetail x_typeLeast x_typeMost x_fieldCount x_fieldName x_fieldType x_fieldNeeded x_tagType x_nodeKind x_nodeValue x_nodeParent x_nodeName x_nodeSlot x_nodeStart x_nodeTag x_completeCount (oN') (oS') x_openNames (oP') (oC') (o') ∧ ∀ Q : SX → Prop, Q (x_length, nI N, x_bound, x_fault, x_faultPlace, x_mode, x_at, x_tokenStart, x_textCount, x_escaped, x_valueSlot, x_valueName, nI (d'), nI (m'), x_text, x_typeKind, x_typeDetail, x_typeLeast, x_typeMost, x_fieldCount, x_fieldName, x_fieldType, x_fieldNeeded, x_tagType, x_nodeKind, x_nodeValue, x_nodeParent, x_nodeName, x_nodeSlot, x_nodeStart, x_nodeTag, x_completeCount, oN', oS', x_openNames, oP', oC', o') → wpX_writeNode Q (x_length, nI N, x_bound, x_fault, x_faultPlace, x_mode, x_at, x_tokenStart, x_textCount, x_escaped, x_valueSlot, x_valueName, nI (dp c), nI (m), x_text, x_typeKind, x_typeDetail, x_typeLeast, x_typeMost, x_fieldCount, x_fieldName, x_fieldType, x_fieldNeeded, x_tagType, x_nodeKind, x_nodeValue, x_nodeParent, x_nodeName, x_nodeSlot, x_nodeStart, x_nodeTag, x_completeCount, oN, oS, x_openNames, oP, oC, o) (nI c)) :
    ∀ (r k k0 c0 m : Nat) (o oN oS oP oC : Nat → Int32), k + r = mq → k0 ≤ k → (∀ j, k0 ≤ j → j < k → rr j = -1) → oN d = nI n → oS d = nI rs → oP d = nI k0 → (pc_N rr z k = 0 → oC d = 0) → (¬ pc_N rr z k = 0 → oC d = 1) → m + (pt_L lc (eR_L rr (pc_N rr z) (fun i => x_fieldName (4 * rs + i)) k r)).length + 1 < 60000 → c0 + kl_N Kc (eR_L rr (pc_N rr z) (fun i => x_fieldName (4 * rs + i)) k r) ≤ 80 →
    (∀ (oN' oS' oP' oC' : Nat → Int32), pe_N d oN oN' → pe_N d oS oS' → pe_N d oP oP' → pe_N d oC oC' → ∃ fu, wX_print_26 post fu (nI (c0 + kl_N Kc (eR_L rr (pc_N rr z) (fun i => x_fieldName (4 * rs + i)) k r))) x_length (nI N) x_bound x_fault x_faultPlace x_mode x_at x_tokenStart x_textCount x_escaped x_valueSlot x_valueName (nI (d)) (nI (m + ((pt_L lc (eR_L rr (pc_N rr z) (fun i => x_fieldName (4 * rs + i)) k r)).length + 1))) x_text x_typeKind x_typeDetail x_typeLeast x_typeMost x_fieldCount x_fieldName x_fieldType x_fieldNeeded x_tagType x_nodeKind x_nodeValue x_nodeParent x_nodeName x_nodeSlot x_nodeStart x_nodeTag x_completeCount (oN') (oS') x_openNames (oP') (oC') (ow_L o m (pt_L lc (eR_L rr (pc_N rr z) (fun i => x_fieldName (4 * rs + i)) k r) ++ [11]))) → ∃ fu, wX_print_26 post fu (nI (c0)) x_length (nI N) x_bound x_fault x_faultPlace x_mode x_at x_tokenStart x_textCount x_escaped x_valueSlot x_valueName (nI (d + 1)) (nI (m)) x_text x_typeKind x_typeDetail x_typeLeast x_typeMost x_fieldCount x_fieldName x_fieldType x_fieldNeeded x_tagType x_nodeKind x_nodeValue x_nodeParent x_nodeName x_nodeSlot x_nodeStart x_nodeTag x_completeCount oN oS x_openNames oP oC o := by
  intro r
  induction r with
  | zero =>
    intro k k0 c0 m o oN oS oP oC hk hk0 hab e1 eS e2 h0 h1 hm hc h
    have : k = mq := by omega
    subst this
    have hm2 : m + 0 + 1 < 60000 := hm
    have hc2 : c0 + 1 ≤ 80 := hc
    obtain ⟨fu, hf⟩ := h oN oS oP oC (fun _ _ => rfl) (fun _ _ => rfl) (fun _ _ => rfl) (fun _ _ => rfl)
    exact ⟨fu + 1, br_f (nI_ge (b := 80) (by omega) (by decide)) (br_f (nI_nle (by omega) (by omega)) (nc_r (k := k0) hN hn hd hrs hq rfl ef hrr e1 ek eS e2 hk0 (Or.inr ⟨hab, br_t rfl (wc_r hd (by omega) (by omega) e1 ek (nm_r (nI_1 c0) hf))⟩)))⟩
  | succ r ih =>
    intro k k0 c0 m o oN oS oP oC hk hk0 hab e1 eS e2 h0 h1 hm hc h
    have ep : pc_N rr z (k + 1) = pc_N rr z k + (if rr k = -1 then 0 else 1) := rfl
    have eR : eR_L rr (pc_N rr z) (fun i => x_fieldName (4 * rs + i)) k (r + 1) = if rr k = -1 then eR_L rr (pc_N rr z) (fun i => x_fieldName (4 * rs + i)) (k + 1) r else (((if pc_N rr z k = 0 then [] else [15]) ++ [16, 21 + x_fieldName (4 * rs + k), 16, 14]), (rr k).toNatClampNeg) :: eR_L rr (pc_N rr z) (fun i => x_fieldName (4 * rs + i)) (k + 1) r := rfl
    rcases hrr k (by omega) with ⟨c, hc1, -, hnm, -, e⟩ | ⟨-, e⟩
    · have hne : ¬ rr k = -1 := by rw [e]; exact hh_m1 (by omega)
      obtain ⟨g2, g3⟩ := hch2 k c (by omega) hc1 e
      rw [if_neg hne] at ep eR
      rw [show (rr k).toNatClampNeg = c by rw [e]; exact nI_clamp (by omega)] at eR
      rw [eR] at hm hc h
      have es2 : pt_L lc ((((if pc_N rr z k = 0 then [] else [15]) ++ [16, 21 + x_fieldName (4 * rs + k), 16, 14]), c) :: eR_L rr (pc_N rr z) (fun i => x_fieldName (4 * rs + i)) (k + 1) r) = ((if pc_N rr z k = 0 then [] else [15]) ++ [16, 21 + x_fieldName (4 * rs + k), 16, 14]) ++ (lc c ++ pt_L lc (eR_L rr (pc_N rr z) (fun i => x_fieldName (4 * rs + i)) (k + 1) r)) := rfl
      have ek2 : kl_N Kc ((((if pc_N rr z k = 0 then [] else [15]) ++ [16, 21 + x_fieldName (4 * rs + k), 16, 14]), c) :: eR_L rr (pc_N rr z) (fun i => x_fieldName (4 * rs + i)) (k + 1) r) = 1 + Kc c + kl_N Kc (eR_L rr (pc_N rr z) (fun i => x_fieldName (4 * rs + i)) (k + 1) r) := rfl
      rw [es2, ek2] at h
      rw [es2] at hm
      rw [ek2] at hc
      have hwl : ∀ {Q : SX → Prop} {o : Nat → Int32}, Q (x_length, nI N, x_bound, x_fault, x_faultPlace, x_mode, x_at, x_tokenStart, x_textCount, x_escaped, x_valueSlot, x_valueName, nI (d + 1), nI (m + ((if pc_N rr z k = 0 then ([] : List Int32) else [15]) ++ [16, 21 + x_fieldName (4 * rs + k), 16, 14]).length), x_text, x_typeKind, x_typeDetail, x_typeLeast, x_typeMost, x_fieldCount, x_fieldName, x_fieldType, x_fieldNeeded, x_tagType, x_nodeKind, x_nodeValue, x_nodeParent, x_nodeName, x_nodeSlot, x_nodeStart, x_nodeTag, x_completeCount, oN, oS, x_openNames, upd oP d (nI (k + 1)), upd oC d 1, ow_L o m ((if pc_N rr z k = 0 then [] else [15]) ++ [16, 21 + x_fieldName (4 * rs + k), 16, 14])) → wpX_writeLead Q (x_length, nI N, x_bound, x_fault, x_faultPlace, x_mode, x_at, x_tokenStart, x_textCount, x_escaped, x_valueSlot, x_valueName, nI (d + 1), nI (m), x_text, x_typeKind, x_typeDetail, x_typeLeast, x_typeMost, x_fieldCount, x_fieldName, x_fieldType, x_fieldNeeded, x_tagType, x_nodeKind, x_nodeValue, x_nodeParent, x_nodeName, x_nodeSlot, x_nodeStart, x_nodeTag, x_completeCount, oN, oS, x_openNames, upd oP d (nI (k + 1)), oC, o) (nI c) := fun hq => wl_r (k := pc_N rr z k) hd (by omega) (by omega) (by omega) e1 ek h0 h1 hnm hq
      generalize (if pc_N rr z k = 0 then ([] : List Int32) else [15]) ++ [16, 21 + x_fieldName (4 * rs + k), 16, 14] = ld at hm h hwl
      have ihk := ih (k + 1) (k + 1) (c0 + 1 + Kc c)
      generalize eR_L rr (pc_N rr z) (fun i => x_fieldName (4 * rs + i)) (k + 1) r = T at hm hc h ihk
      have hl2 : (ld ++ (lc c ++ pt_L lc T)).length = ld.length + ((lc c).length + (pt_L lc T).length) := by rw [List.length_append, List.length_append]
      rw [hl2] at hm h
      obtain ⟨fu, d', m', o', b1, b2, b3, b4, hL, hW⟩ := g3 post (c0 + 1) (m + ld.length) (ow_L o m ld) oN oS (upd oP d (nI (k + 1))) (upd oC d 1) (by omega) (by omega) (fun oN' oS' oP' oC' p1 p2 p3 p4 => by
        rw [g2] at p1 p2 p3 p4 ⊢
        obtain ⟨p1, q1⟩ := pe_t p1
        obtain ⟨p2, q2⟩ := pe_t p2
        obtain ⟨p3, q3⟩ := pe_d p3
        obtain ⟨p4, q4⟩ := pe_d p4
        refine ihk _ _ oN' oS' oP' oC' (by omega) (by omega) (fun j w1 w2 => absurd w2 (by omega)) (by rw [q1]; exact e1) (by rw [q2]; exact eS) q3 (fun w => absurd w (by omega)) (fun _ => q4) (by omega) (by omega) (fun s1 s2 s3 s4 t1 t2 t3 t4 => ?_)
        obtain ⟨fu, hf⟩ := h s1 s2 s3 s4 (pe_tt p1 t1) (pe_tt p2 t2) (pe_tt p3 t3) (pe_tt p4 t4)
        refine ⟨fu, ?_⟩
        rw [List.append_assoc, List.append_assoc, ow_app, ow_app] at hf
        rw [show c0 + 1 + Kc c + kl_N Kc T = c0 + (1 + Kc c + kl_N Kc T) from by omega, show m + ld.length + (lc c).length + ((pt_L lc T).length + 1) = m + (ld.length + ((lc c).length + (pt_L lc T).length) + 1) from by omega]
        exact hf)
      rw [g2] at hW
      exact ⟨fu + 1, br_f (nI_ge (b := 80) (by omega) (by decide)) (br_f (nI_nle (by omega) (by omega)) (nc_r (k := k0) hN hn hd hrs hq rfl ef hrr e1 ek eS e2 (by omega) (Or.inl ⟨k, hk0, by omega, hab, hne, by
        rw [e]
        exact br_f (hh_m1 (by omega)) (hwl (hW _ (nm_r (nI_1 c0) hL)))⟩)))⟩
    · rw [if_pos e] at ep eR
      rw [eR] at hm hc h
      exact ih (k + 1) k0 c0 m o oN oS oP oC (by omega) (by omega) (fun j w1 w2 => by
        rcases Nat.lt_or_ge j k with w | w
        · exact hab j w1 w
        · have : j = k := by omega
          subst this; exact e) e1 eS e2 (by rw [ep]; exact h0) (by rw [ep]; exact h1) hm hc h
end
