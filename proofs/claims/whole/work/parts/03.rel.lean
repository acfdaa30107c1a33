/-! the relation -/
/-- the type in slot s, as both hold it -/
def ty_S (so tD tL tM fC fN fT fB gX tA tB tC fs gY : Nat → Int32) (s : Nat) : Prop :=
  (∃ j, j ≤ 8 ∧ so s = nI j) ∧
  (so s = 1 → tA s = tD s ∧ tB s = tL s ∧ tC s = tM s ∧ ∃ d, d ≤ 4 ∧ tD s = nI d) ∧
  (so s = 2 → tA s = tD s ∧ ∃ d, d ≤ 40 ∧ tD s = nI d) ∧
  (so s = 4 → tA s = tD s ∧ tB s = tL s ∧ tC s = tM s ∧ ∃ d a b, d < 12 ∧ tD s = nI d ∧ a ≤ b ∧ b ≤ 20 ∧ tL s = nI a ∧ tM s = nI b) ∧
  (so s = 5 → fs s = fC s ∧ ∃ m, m ≤ 4 ∧ fC s = nI m ∧ (∀ i, i < m → ∃ a b c, a < 6 ∧ b < 12 ∧ c < 2 ∧ fN (4 * s + i) = nI a ∧ fT (4 * s + i) = nI b ∧ fB (4 * s + i) = nI c) ∧ ∀ i j, i < m → j < m → fN (4 * s + i) = fN (4 * s + j) → i = j) ∧
  (so s = 6 → tA s = tD s ∧ (∃ d, d < 6 ∧ tD s = nI d) ∧ ∀ i, i < 6 → gY (6 * s + i) = gX (6 * s + i) ∧ (gX (6 * s + i) = -1 ∨ ∃ j, j < 12 ∧ gX (6 * s + i) = nI j)) ∧
  (so s = 7 ∨ so s = 8 → tA s = tD s ∧ ∃ d, d < 12 ∧ tD s = nI d)
theorem ty_c {so tD tL tM fC fN fT fB gX tA tB tC fs gY so' tD' tL' tM' fC' fN' fT' fB' gX' tA' tB' tC' fs' gY' : Nat → Int32} {s : Nat}
    (h : ty_S so tD tL tM fC fN fT fB gX tA tB tC fs gY s)
    (e1 : so' s = so s) (e2 : tD' s = tD s) (e3 : tL' s = tL s) (e4 : tM' s = tM s) (e5 : fC' s = fC s)
    (eN : ∀ i, i < 4 → fN' (4 * s + i) = fN (4 * s + i)) (eT : ∀ i, i < 4 → fT' (4 * s + i) = fT (4 * s + i)) (eB : ∀ i, i < 4 → fB' (4 * s + i) = fB (4 * s + i))
    (eG : ∀ i, i < 6 → gX' (6 * s + i) = gX (6 * s + i))
    (e6 : tA' s = tA s) (e7 : tB' s = tB s) (e8 : tC' s = tC s) (e9 : fs' s = fs s) (eH : ∀ i, i < 6 → gY' (6 * s + i) = gY (6 * s + i)) :
    ty_S so' tD' tL' tM' fC' fN' fT' fB' gX' tA' tB' tC' fs' gY' s := by
  obtain ⟨h0, h1, h2, h4, h5, h6, h7⟩ := h
  unfold ty_S
  rw [e1, e2, e3, e4, e5, e6, e7, e8, e9]
  refine ⟨h0, h1, h2, h4, fun z => ?_, fun z => ?_, h7⟩
  · obtain ⟨a, m, hm, b, c, d⟩ := h5 z
    refine ⟨a, m, hm, b, fun i hi => ?_, fun i j hi hj e => d i j hi hj ?_⟩
    · rw [eN i (by omega), eT i (by omega), eB i (by omega)]; exact c i hi
    · rw [eN i (by omega), eN j (by omega)] at e; exact e
  · obtain ⟨a, b, c⟩ := h6 z
    refine ⟨a, b, fun i hi => ?_⟩
    rw [eG i hi, eH i hi]; exact c i hi
/-- two arrays agree below n -/
def pe_N (n : Nat) (a b : Nat → Int32) : Prop := ∀ i, i < n → b i = a i
theorem pe_u {n : Nat} {a b : Nat → Int32} {k : Nat} {x : Int32} (h : pe_N n a b) : pe_N n (upd a k x) (upd b k x) := by
  intro i hi
  unfold upd
  rw [h i hi]
theorem pe_s {n : Nat} {a b : Nat → Int32} {x : Int32} (h : pe_N n a b) : pe_N (n + 1) (upd a n x) (upd b n x) := by
  intro i hi
  unfold upd
  by_cases z : i = n
  · rw [if_pos z, if_pos z]
  · rw [if_neg z, if_neg z, h i (by omega)]
/-- the reference's units of part k: its answer, and what it leaves in scaled -/
def un_Y (t bg en : Nat → Int32) (k : Nat) (d ok sc : Int32) : Prop :=
  ∀ (y_length y_parts y_bad y_nodes y_fault y_place y_bound y_depth y_nextName y_wantsName y_wantsTag y_printed y_waiting y_scaled : Int32) (y_sort y_typeA y_typeB y_typeC y_fieldName y_fieldType y_fields y_tags y_needed y_inside y_whole y_kind y_value y_parent y_name y_slotOf y_placeOf y_complete y_openNode y_openType y_openCount y_openNames y_openChoice y_output y_todo : Nat → Int32) (post : Int32 → SY → Prop), post ok (y_length, y_parts, y_bad, y_nodes, y_fault, y_place, y_bound, y_depth, y_nextName, y_wantsName, y_wantsTag, y_printed, y_waiting, sc, y_sort, y_typeA, y_typeB, y_typeC, y_fieldName, y_fieldType, y_fields, y_tags, y_needed, t, bg, en, y_inside, y_whole, y_kind, y_value, y_parent, y_name, y_slotOf, y_placeOf, y_complete, y_openNode, y_openType, y_openCount, y_openNames, y_openChoice, y_output, y_todo) → wpY_units post (y_length, y_parts, y_bad, y_nodes, y_fault, y_place, y_bound, y_depth, y_nextName, y_wantsName, y_wantsTag, y_printed, y_waiting, y_scaled, y_sort, y_typeA, y_typeB, y_typeC, y_fieldName, y_fieldType, y_fields, y_tags, y_needed, t, bg, en, y_inside, y_whole, y_kind, y_value, y_parent, y_name, y_slotOf, y_placeOf, y_complete, y_openNode, y_openType, y_openCount, y_openNames, y_openChoice, y_output, y_todo) (nI k) d
/-- what holds of node i; op: the node is an open choice without its tag -/
def nd_F (t so bg en : Nat → Int32) (L N : Nat) (kd vl pa nm sl st tg : Nat → Int32) (dp : Nat → Nat) (op : Nat → Prop) (i : Nat) : Prop :=
  ∃ k s b, k ≤ 6 ∧ s < 12 ∧ b < L ∧ kd i = nI k ∧ sl i = nI s ∧ st i = nI b ∧
   (i = 0 ∧ pa i = -1 ∧ nm i = -1 ∧ dp i = 0 ∨ ∃ p j, p < i ∧ j < 21 ∧ pa i = nI p ∧ nm i = nI j ∧ dp i = dp p + 1 ∧ (kd p = 3 ∨ kd p = 4)) ∧
   (k = 3 ∨ k = 4 → dp i ≤ 5) ∧
   (k = 0 → so s = 1) ∧
   (k = 1 → t b = 16 ∧ ∃ q, ss_W t L (b + 1) q) ∧
   (k = 3 → so s = 4 ∧ tg i = -1 ∧ ∃ n, n ≤ 20 ∧ vl i = nI n ∧ (∀ j, j < n → ∃ c, c < N ∧ pa c = nI i ∧ nm c = nI j) ∧ (∀ c, c < N → pa c = nI i → ∃ j, j < n ∧ nm c = nI j)) ∧
   (k = 4 → (so s = 5 ∧ tg i = -1) ∨ (so s = 6 ∧ tg i = -1 ∧ op i) ∨ (so s = 6 ∧ ∃ g r K ok, g < 6 ∧ r < 12 ∧ tg i = nI g ∧ vl i = nI r ∧ so r = 5 ∧ K < 96 ∧ bg K = nI b ∧ (∀ j, j < K → bg j ≠ nI b) ∧ un_Y t bg en (K + 3) 0 ok (nI g)))
/-- the nodes together -/
def nd_A (t so bg en : Nat → Int32) (L N : Nat) (kd vl pa nm sl st tg : Nat → Int32) (dp : Nat → Nat) (op : Nat → Prop) : Prop :=
  N ≤ 40 ∧ (∀ i, i < N → nd_F t so bg en L N kd vl pa nm sl st tg dp op i) ∧ ∀ c c', c < N → c' < N → pa c = pa c' → nm c = nm c' → c = c'
/-- text and types -/
def rl_T (L : Nat) (t so tD tL tM fC fN fT fB gX tA tB tC fs gY : Nat → Int32) : Prop :=
  L ≤ 96 ∧ tt_C t ∧ ∀ s, s < 12 → ty_S so tD tL tM fC fN fT fB gX tA tB tC fs gY s
/-- what is bound -/
def rl_B (t so bg en : Nat → Int32) (L : Nat) (bd nc ns : Int32) (kd vl pa nm sl st tg kd' vl' pa' nm' sl' st' : Nat → Int32) : Prop :=
  bd = 0 ∨ bd = 1 ∧ ∃ (N : Nat) (dp : Nat → Nat), 1 ≤ N ∧ nc = nI N ∧ ns = nI N ∧ pe_N N kd kd' ∧ pe_N N vl vl' ∧ pe_N N pa pa' ∧ pe_N N nm nm' ∧ pe_N N sl sl' ∧ pe_N N st st' ∧ nd_A t so bg en L N kd vl pa nm sl st tg dp (fun _ => False)
def i_Rel (k : Nat) (u : SX) (v : SY) : Prop :=
  ∃ (x_nodeCount x_bound x_fault x_faultPlace x_mode x_at x_tokenStart x_textCount x_escaped x_valueSlot x_valueName x_depth x_outputLength : Int32) (x_text x_typeKind x_typeDetail x_typeLeast x_typeMost x_fieldCount x_fieldName x_fieldType x_fieldNeeded x_tagType x_nodeKind x_nodeValue x_nodeParent x_nodeName x_nodeSlot x_nodeStart x_nodeTag x_completeCount x_openNode x_openSlot x_openNames x_openNext x_openComma x_output : Nat → Int32) (y_parts y_bad y_nodes y_fault y_depth y_nextName y_wantsName y_wantsTag y_waiting y_scaled : Int32) (y_typeA y_typeB y_typeC y_fields y_tags y_begin y_end y_inside y_whole y_kind y_value y_parent y_name y_slotOf y_placeOf y_complete y_openNode y_openType y_openCount y_openNames y_openChoice y_todo : Nat → Int32) (L : Nat), u = (nI L, x_nodeCount, x_bound, x_fault, x_faultPlace, x_mode, x_at, x_tokenStart, x_textCount, x_escaped, x_valueSlot, x_valueName, x_depth, x_outputLength, x_text, x_typeKind, x_typeDetail, x_typeLeast, x_typeMost, x_fieldCount, x_fieldName, x_fieldType, x_fieldNeeded, x_tagType, x_nodeKind, x_nodeValue, x_nodeParent, x_nodeName, x_nodeSlot, x_nodeStart, x_nodeTag, x_completeCount, x_openNode, x_openSlot, x_openNames, x_openNext, x_openComma, x_output) ∧ v = (nI L, y_parts, y_bad, y_nodes, y_fault, x_faultPlace, x_bound, y_depth, y_nextName, y_wantsName, y_wantsTag, x_outputLength, y_waiting, y_scaled, x_typeKind, y_typeA, y_typeB, y_typeC, x_fieldName, x_fieldType, y_fields, y_tags, x_fieldNeeded, x_text, y_begin, y_end, y_inside, y_whole, y_kind, y_value, y_parent, y_name, y_slotOf, y_placeOf, y_complete, y_openNode, y_openType, y_openCount, y_openNames, y_openChoice, x_output, y_todo) ∧
    rl_T L x_text x_typeKind x_typeDetail x_typeLeast x_typeMost x_fieldCount x_fieldName x_fieldType x_fieldNeeded x_tagType y_typeA y_typeB y_typeC y_fields y_tags ∧
    rl_B x_text x_typeKind y_begin y_end L x_bound x_nodeCount y_nodes x_nodeKind x_nodeValue x_nodeParent x_nodeName x_nodeSlot x_nodeStart x_nodeTag y_kind y_value y_parent y_name y_slotOf y_placeOf
section
variable {x_nodeCount x_bound x_fault x_faultPlace x_mode x_at x_tokenStart x_textCount x_escaped x_valueSlot x_valueName x_depth x_outputLength : Int32} {x_text x_typeKind x_typeDetail x_typeLeast x_typeMost x_fieldCount x_fieldName x_fieldType x_fieldNeeded x_tagType x_nodeKind x_nodeValue x_nodeParent x_nodeName x_nodeSlot x_nodeStart x_nodeTag x_completeCount x_openNode x_openSlot x_openNames x_openNext x_openComma x_output : Nat → Int32} {y_parts y_bad y_nodes y_fault y_depth y_nextName y_wantsName y_wantsTag y_waiting y_scaled : Int32} {y_typeA y_typeB y_typeC y_fields y_tags y_begin y_end y_inside y_whole y_kind y_value y_parent y_name y_slotOf y_placeOf y_complete y_openNode y_openType y_openCount y_openNames y_openChoice y_todo : Nat → Int32} {L : Nat}
theorem rl_mk {k : Nat}
    (hT : rl_T L x_text x_typeKind x_typeDetail x_typeLeast x_typeMost x_fieldCount x_fieldName x_fieldType x_fieldNeeded x_tagType y_typeA y_typeB y_typeC y_fields y_tags)
    (hB : rl_B x_text x_typeKind y_begin y_end L x_bound x_nodeCount y_nodes x_nodeKind x_nodeValue x_nodeParent x_nodeName x_nodeSlot x_nodeStart x_nodeTag y_kind y_value y_parent y_name y_slotOf y_placeOf) :
    i_Rel k (nI L, x_nodeCount, x_bound, x_fault, x_faultPlace, x_mode, x_at, x_tokenStart, x_textCount, x_escaped, x_valueSlot, x_valueName, x_depth, x_outputLength, x_text, x_typeKind, x_typeDetail, x_typeLeast, x_typeMost, x_fieldCount, x_fieldName, x_fieldType, x_fieldNeeded, x_tagType, x_nodeKind, x_nodeValue, x_nodeParent, x_nodeName, x_nodeSlot, x_nodeStart, x_nodeTag, x_completeCount, x_openNode, x_openSlot, x_openNames, x_openNext, x_openComma, x_output) (nI L, y_parts, y_bad, y_nodes, y_fault, x_faultPlace, x_bound, y_depth, y_nextName, y_wantsName, y_wantsTag, x_outputLength, y_waiting, y_scaled, x_typeKind, y_typeA, y_typeB, y_typeC, x_fieldName, x_fieldType, y_fields, y_tags, x_fieldNeeded, x_text, y_begin, y_end, y_inside, y_whole, y_kind, y_value, y_parent, y_name, y_slotOf, y_placeOf, y_complete, y_openNode, y_openType, y_openCount, y_openNames, y_openChoice, x_output, y_todo) := ⟨x_nodeCount, x_bound, x_fault, x_faultPlace, x_mode, x_at, x_tokenStart, x_textCount, x_escaped, x_valueSlot, x_valueName, x_depth, x_outputLength, x_text, x_typeKind, x_typeDetail, x_typeLeast, x_typeMost, x_fieldCount, x_fieldName, x_fieldType, x_fieldNeeded, x_tagType, x_nodeKind, x_nodeValue, x_nodeParent, x_nodeName, x_nodeSlot, x_nodeStart, x_nodeTag, x_completeCount, x_openNode, x_openSlot, x_openNames, x_openNext, x_openComma, x_output, y_parts, y_bad, y_nodes, y_fault, y_depth, y_nextName, y_wantsName, y_wantsTag, y_waiting, y_scaled, y_typeA, y_typeB, y_typeC, y_fields, y_tags, y_begin, y_end, y_inside, y_whole, y_kind, y_value, y_parent, y_name, y_slotOf, y_placeOf, y_complete, y_openNode, y_openType, y_openCount, y_openNames, y_openChoice, y_todo, L, rfl, rfl, hT, hB⟩
end
theorem i_up {k : Nat} {u : SX} {v : SY} (h : i_Rel k u v) : i_Rel (k + 6) u v := h
theorem tt_u {t : Nat → Int32} (h : tt_C t) {c : Nat} (hc : c < 32) (k : Nat) : tt_C (upd t k (nI c)) := by
  intro i
  unfold upd
  by_cases z : i = k
  · rw [if_pos z]; exact ⟨c, hc, rfl⟩
  · rw [if_neg z]; exact h i
