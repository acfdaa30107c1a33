/-! the bind: what holds with the new node -/
theorem yv_fin {N d K : Nat} {g kd vl pa nm on om oc vl1 oc1 kd0 vl0 : Nat → Int32} {x3 x4 v : Int32} (hN : N < 40) (hp : pr_F d N g kd vl pa nm on om oc x3 x4 vl1 oc1) (e1 : pe_N N kd kd0) (e2 : pe_N N vl vl0) :
    ∃ VF, pe_N (N + 1) (upd vl1 N v) VF ∧ ∀ {y_length y_parts y_bad y_nodes y_fault y_place y_bound y_depth y_nextName y_wantsName y_wantsTag y_printed y_waiting y_scaled : Int32} {y_sort y_typeA y_typeB y_typeC y_fieldName y_fieldType y_fields y_tags y_needed y_text y_begin y_end y_inside y_whole y_parent y_name y_slotOf y_placeOf y_complete y_openNode y_openType y_openCount y_openNames y_openChoice y_output y_todo : Nat → Int32} (R : SY → Prop), R (y_length, y_parts, y_bad, y_nodes, y_fault, y_place, y_bound, y_depth, y_nextName, y_wantsName, y_wantsTag, y_printed, y_waiting, y_scaled, y_sort, y_typeA, y_typeB, y_typeC, y_fieldName, y_fieldType, y_fields, y_tags, y_needed, y_text, y_begin, y_end, y_inside, y_whole, upd kd0 N (nI K), VF, y_parent, y_name, y_slotOf, y_placeOf, y_complete, y_openNode, y_openType, y_openCount, y_openNames, y_openChoice, y_output, y_todo) → wY_bindValue_564 R x3 y_length y_parts y_bad y_nodes y_fault y_place y_bound y_depth y_nextName y_wantsName y_wantsTag y_printed y_waiting y_scaled y_sort y_typeA y_typeB y_typeC y_fieldName y_fieldType y_fields y_tags y_needed y_text y_begin y_end y_inside y_whole (upd kd0 N (nI K)) (upd vl0 N v) y_parent y_name y_slotOf y_placeOf y_complete y_openNode y_openType y_openCount y_openNames y_openChoice y_output y_todo := by
  rcases pe_add (v := v) hN hp e2 with ⟨n, j, hn, e3, k3, ev, -, pe⟩ | ⟨h3, -, pe⟩
  · refine ⟨_, pe, fun R r => ?_⟩
    subst e3
    have ne : n ≠ N := by omega
    refine yv_564n (by omega) (fun _ => ?_) (fun z => ?_)
    · rw [pk_un ne, e2 n hn, ev, nI_1]; exact r
    · rw [pk_un ne, e1 n hn] at z; exact absurd k3 z
  · refine ⟨_, pe, fun R r => ?_⟩
    rcases h3 with rfl | ⟨n, hn, rfl, k4⟩
    · exact yv_564r r
    · have ne : n ≠ N := by omega
      refine yv_564n (by omega) (fun z => ?_) (fun _ => r)
      rw [pk_un ne, e1 n hn, k4] at z; exact absurd z (by decide)
section
variable {x_bound x_at x_tokenStart x_textCount x_escaped x_valueSlot x_valueName x_outputLength : Int32} {x_text x_typeKind x_typeDetail x_typeLeast x_typeMost x_fieldCount x_fieldName x_fieldType x_fieldNeeded x_tagType x_nodeKind x_nodeValue x_nodeParent x_nodeName x_nodeSlot x_nodeStart x_nodeTag x_completeCount x_openNode x_openSlot x_openNames x_openNext x_openComma x_output : Nat → Int32} {y_bad y_nextName y_wantsName y_wantsTag y_waiting y_scaled : Int32} {y_typeA y_typeB y_typeC y_fields y_tags y_begin y_end y_inside y_whole y_kind y_value y_parent y_name y_slotOf y_placeOf y_complete y_openNode y_openType y_openCount y_openNames y_openChoice y_todo : Nat → Int32} {L P k p x d N : Nat} {g : Nat → Int32} {dp : Nat → Nat} {slot : Int32}
theorem bf_lit (F : br_F slot L k p x d N g x_text x_typeKind x_fieldCount x_fieldName x_fieldType y_begin y_end x_nodeKind x_nodeValue x_nodeParent x_nodeName x_nodeSlot x_nodeStart x_nodeTag x_completeCount x_openNode x_openSlot x_openNames x_valueSlot x_valueName dp y_kind y_value y_parent y_name y_slotOf y_placeOf y_complete y_openNode y_openType y_openCount y_openNames y_openChoice y_nextName y_wantsName y_wantsTag) (hnt : 0 < d → ¬ x_openSlot (d - 1) = -1) (hN40 : N < 40) {w K b p' : Nat} {x3 x4 v vs vn : Int32} {oc1 vl1 VF : Nat → Int32} (hw : w < 12) (hbL : b < L) (hL : L ≤ 96) (hpL : p ≤ L) (hpb : p ≤ b) (hbp : b < p') (hp' : p' ≤ L) (eb : y_begin k = nI b) (hp : pr_F d N g x_nodeKind x_nodeValue x_nodeParent x_nodeName x_openNode x_openNames y_openCount x3 x4 vl1 oc1) (hVF : pe_N (N + 1) (upd vl1 N v) VF) (hK : K ≤ 6) (h3 : K ≠ 3) (h4 : K ≠ 4) (h0 : K = 0 → x_typeKind w = 1) (h1 : K = 1 → x_text b = 16 ∧ ∃ q, ss_W x_text L (b + 1) q) (wt0 : 0 < d → y_wantsTag = 0) :
    br_F slot L (k + 1) (p') 5 d (N + 1) g x_text x_typeKind x_fieldCount x_fieldName x_fieldType y_begin y_end (upd x_nodeKind N (nI K)) (upd vl1 N v) (upd x_nodeParent N x3) (upd x_nodeName N x4) (upd x_nodeSlot N (nI w)) (upd x_nodeStart N (nI b)) (upd x_nodeTag N (-1)) x_completeCount x_openNode x_openSlot x_openNames vs vn (fun i => if i = N then d else dp i) (upd y_kind N (nI K)) VF (upd y_parent N x3) (upd y_name N x4) (upd y_slotOf N (nI w)) (upd y_placeOf N (nI b)) y_complete y_openNode y_openType oc1 y_openNames y_openChoice y_nextName y_wantsName y_wantsTag := by
  obtain ⟨⟨e1, e2, e3, e4, e5, e6⟩, hA, hd6, hlv, hc, hbg, hx⟩ := F
  have hdp : ∀ d' n, d = d' + 1 → x_openNode d' = nI n → n < N → dp n = d' := by
    rintro d' n rfl eo hn
    obtain ⟨n', s', q1, -, q3, -, q5, -⟩ := hlv d' (by omega)
    have : n' = n := hh_i (by omega) (by omega) (q3.symm.trans eo)
    subst this; exact q5
  have hop : ∀ i, i < N → ¬ op_F d x_openNode x_openSlot i := fun i _ z => hnt z.1 z.2.2
  refine ⟨⟨pe_s e1, hVF, pe_s e3, pe_s e4, pe_s e5, pe_s e6⟩, nd_add hA hN40 hop hp hdp hK hw hbL (fun z => absurd z (by omega)) h0 h1 (fun z => absurd z h3) (fun z => absurd z h4), hd6, fun l hl => lv_add hN40 (hlv l hl) hl hp hdp, cm_s hc, bg_s hbg (by omega) hpb hbp (by omega) eb, ?_⟩
  exact Or.inr (Or.inr (Or.inr (Or.inr (Or.inr (Or.inr (Or.inr (Or.inr (Or.inr ⟨rfl, by omega, fun z => ⟨wt0 z, hnt z⟩⟩))))))))
theorem bf_open (F : br_F slot L k p x d N g x_text x_typeKind x_fieldCount x_fieldName x_fieldType y_begin y_end x_nodeKind x_nodeValue x_nodeParent x_nodeName x_nodeSlot x_nodeStart x_nodeTag x_completeCount x_openNode x_openSlot x_openNames x_valueSlot x_valueName dp y_kind y_value y_parent y_name y_slotOf y_placeOf y_complete y_openNode y_openType y_openCount y_openNames y_openChoice y_nextName y_wantsName y_wantsTag) (hnt : 0 < d → ¬ x_openSlot (d - 1) = -1) (hN40 : N < 40) {w K b x' : Nat} {x3 x4 v vs vn ev os om och : Int32} {oc1 vl1 VF : Nat → Int32} (hw : w < 12) (hbL : b < L) (hL : L ≤ 96) (hpL : p ≤ L) (hpb : p ≤ b) (eb : y_begin k = nI b) (hp : pr_F d N g x_nodeKind x_nodeValue x_nodeParent x_nodeName x_openNode x_openNames y_openCount x3 x4 vl1 oc1) (hVF : pe_N (N + 1) (upd vl1 N v) VF) (hd5 : d ≤ 5)
    (hc : (K = 3 ∧ x_typeKind w = 4 ∧ v = nI 0 ∧ ev = 12 ∧ os = nI w ∧ x' = 1) ∨ (K = 4 ∧ x_typeKind w = 5 ∧ ev = 10 ∧ os = nI w ∧ om = 0 ∧ och = -1 ∧ x' = 2) ∨ (K = 4 ∧ x_typeKind w = 6 ∧ ev = 10 ∧ os = -1 ∧ (∃ j, j < 6 ∧ om = nI (2 ^ j)) ∧ och = nI w ∧ x' = 2))
    (hom : K = 3 → True) {om2 : Nat → Int32} (hom2 : K = 3 ∧ (∀ l, l < d → om2 l = x_openNames l) ∨ K = 4 ∧ om2 = upd x_openNames d om) :
    br_F slot L (k + 1) (b + 1) (x') (d + 1) (N + 1) (upd g (d + 1) ev) x_text x_typeKind x_fieldCount x_fieldName x_fieldType y_begin y_end (upd x_nodeKind N (nI K)) (upd vl1 N v) (upd x_nodeParent N x3) (upd x_nodeName N x4) (upd x_nodeSlot N (nI w)) (upd x_nodeStart N (nI b)) (upd x_nodeTag N (-1)) x_completeCount (upd x_openNode d (nI N)) (upd x_openSlot d os) om2 vs vn (fun i => if i = N then d else dp i) (upd y_kind N (nI K)) VF (upd y_parent N x3) (upd y_name N x4) (upd y_slotOf N (nI w)) (upd y_placeOf N (nI b)) y_complete (upd y_openNode d (nI N)) (upd y_openType d os) (upd oc1 d 0) (upd y_openNames d om) (upd y_openChoice d och) y_nextName 1 0 := by
  obtain ⟨⟨e1, e2, e3, e4, e5, e6⟩, hA, hd6, hlv, hcm, hbg, hx⟩ := F
  have hdp : ∀ d' n, d = d' + 1 → x_openNode d' = nI n → n < N → dp n = d' := by
    rintro d' n rfl eo hn
    obtain ⟨n', s', q1, -, q3, -, q5, -⟩ := hlv d' (by omega)
    have : n' = n := hh_i (by omega) (by omega) (q3.symm.trans eo)
    subst this; exact q5
  have hop : ∀ i, i < N → ¬ op_F d x_openNode x_openSlot i := fun i _ z => hnt z.1 z.2.2
  have hK : K ≤ 6 := by rcases hc with q | q | q <;> omega
  have nch : ∀ c, c < N + 1 → upd x_nodeParent N x3 c ≠ nI N := by
    intro c hc' e
    by_cases z : c = N
    · subst z
      rw [pk_us] at e
      rcases hp with h | ⟨d', n, j, h⟩ | ⟨d', n, j, M, h⟩
      · rw [h.2.2.1] at e; exact hh_m1' (by omega) e
      · rw [h.2.2.2.2.1] at e; have := hh_i (by omega) (by omega) e; have := h.2.1; omega
      · rw [h.2.2.2.2.1] at e; have := hh_i (by omega) (by omega) e; have := h.2.1; omega
    · rw [pk_un z] at e
      obtain ⟨k', s', b', -, -, -, -, -, -, h7, -⟩ := hA.2.1 c (by omega)
      rcases h7 with ⟨-, h, -⟩ | ⟨p', j, h1, h2, h3, -⟩
      · rw [h] at e; exact hh_m1' (by omega) e
      · rw [h3] at e
        have := hh_i (by omega) (by omega) e
        omega
  refine ⟨⟨pe_s e1, hVF, pe_s e3, pe_s e4, pe_s e5, pe_s e6⟩, nd_add hA hN40 hop hp hdp hK hw hbL (fun _ => hd5) (fun z => ?_) (fun z => ?_) (fun z => ?_) (fun z => ?_), by omega, fun l hl => ?_, cm_s hcm, bg_s hbg (by omega) hpb (by omega : b < b + 1) (by omega) eb, ?_⟩
  · rcases hc with q | q | q <;> omega
  · rcases hc with q | q | q <;> omega
  · rcases hc with q | q | q
    · exact ⟨q.2.1, q.2.2.1⟩
    · omega
    · omega
  · rcases hc with q | q | q
    · omega
    · exact Or.inl q.2.1
    · refine Or.inr ⟨q.2.1, by omega, ?_, ?_⟩
      · show upd x_openNode d (nI N) (d + 1 - 1) = nI N
        exact pk_us
      · show upd x_openSlot d os (d + 1 - 1) = -1
        exact (pk_us (f := x_openSlot) (k := d)).trans q.2.2.2.1
  · by_cases z : l = d
    · subst z
      refine ⟨N, w, by omega, hw, pk_us, pk_us, ?_, by rw [pk_us, pk_us], pk_us, ?_⟩
      · show (if N = N then l else dp N) = l
        rw [if_pos rfl]
      · rw [pk_us, pk_us, pk_us, pk_us, pk_us, pk_us, pk_us]
        rcases hc with q | q | q
        · exact Or.inl ⟨q.2.2.2.1, by rw [q.1]; rfl, q.2.1, q.2.2.2.2.1, by rw [q.2.2.1]; rfl⟩
        · have ho2 : om2 = upd x_openNames l om := by
            rcases hom2 with h | h
            · omega
            · exact h.2
          refine Or.inr ⟨q.2.2.1, by rw [q.1]; rfl, by rw [ho2, pk_us], ⟨0, by omega, by rw [ho2, pk_us]; exact q.2.2.2.2.1, fun c hc' e => absurd e (nch c hc')⟩, Or.inl ⟨q.2.1, q.2.2.2.1, q.2.2.2.2.2.1, pk_us⟩⟩
        · have ho2 : om2 = upd x_openNames l om := by
            rcases hom2 with h | h
            · omega
            · exact h.2
          obtain ⟨j, hj, ej⟩ := q.2.2.2.2.1
          refine Or.inr ⟨q.2.2.1, by rw [q.1]; rfl, by rw [ho2, pk_us], ⟨2 ^ j, (bt_1 j hj).2, by rw [ho2, pk_us]; exact ej, fun c hc' e => absurd e (nch c hc')⟩, Or.inr (Or.inl ⟨q.2.1, q.2.2.2.2.2.1, q.2.2.2.1, pk_us, rfl⟩)⟩
    · have hld : l < d := by omega
      have base := lv_add (K := K) (s := w) (v := v) hN40 (hlv l hld) hld hp hdp
      have nos : ¬ x_openSlot l = -1 := by
        by_cases y : l + 1 = d
        · subst y; exact hnt (by omega)
        · exact lv_ne (hlv l hld) y
      have om2l : om2 l = x_openNames l := by
        rcases hom2 with h | h
        · exact h.2 l hld
        · rw [h.2, pk_un z]
      refine lv_c (lv_up base nos (d + 1)) (pk_un (by omega)) (pk_un z) (pk_un z) om2l (pk_un z) (pk_un z) (pk_un z) (pk_un z) (pk_un z)
  · rcases hc with q | q | q
    · exact Or.inr (Or.inr (Or.inr (Or.inr (Or.inl ⟨q.2.2.2.2.2, by omega, pk_us.trans q.2.2.2.1, rfl⟩))))
    · refine Or.inr (Or.inr (Or.inr (Or.inr (Or.inr (Or.inl ⟨q.2.2.2.2.2.2, by omega, pk_us.trans q.2.2.1, rfl, rfl, fun z => ?_⟩)))))
      have z' : upd x_openSlot d os d = -1 := z
      rw [pk_us, q.2.2.2.1] at z'
      exact absurd z' (hh_m1 (by omega))
    · refine Or.inr (Or.inr (Or.inr (Or.inr (Or.inr (Or.inl ⟨q.2.2.2.2.2.2, by omega, pk_us.trans q.2.2.1, rfl, rfl, fun _ => ⟨N, k, b, ?_, hN40, rfl, eb, pk_us⟩⟩)))))
      show upd x_openNode d (nI N) d = nI N
      exact pk_us
end
