/-! printing: the child of a name, and what waits -/
/-- r is the child of p under the name v, or -1 -/
def fd_R (N : Nat) (pa nm : Nat → Int32) (p v r : Int32) : Prop :=
  (∃ c, c < N ∧ pa c = p ∧ nm c = v ∧ (∀ c', c' < N → pa c' = p → nm c' = v → c' = c) ∧ r = nI c) ∨ ((∀ c, c < N → ¬ (pa c = p ∧ nm c = v)) ∧ r = -1)
theorem fd_e {N : Nat} {pa nm pa' nm' : Nat → Int32} {p v r : Int32} (e1 : pe_N N pa pa') (e2 : pe_N N nm nm') (h : fd_R N pa nm p v r) : fd_R N pa' nm' p v r := by
  rcases h with ⟨c, hc, a, b, u, rfl⟩ | ⟨u, rfl⟩
  · exact Or.inl ⟨c, hc, by rw [e1 c hc]; exact a, by rw [e2 c hc]; exact b, fun c' hc' a' b' => u c' hc' (by rw [← e1 c' hc']; exact a') (by rw [← e2 c' hc']; exact b'), rfl⟩
  · exact Or.inr ⟨fun c hc z => u c hc ⟨by rw [← e1 c hc]; exact z.1, by rw [← e2 c hc]; exact z.2⟩, rfl⟩
theorem fd_u {N : Nat} {pa nm : Nat → Int32} {p v r r' : Int32} (h : fd_R N pa nm p v r) (h' : fd_R N pa nm p v r') : r = r' := by
  rcases h with ⟨c, hc, a, b, u, rfl⟩ | ⟨u, rfl⟩
  · rcases h' with ⟨c', hc', a', b', u', rfl⟩ | ⟨u', rfl⟩
    · rw [u c' hc' a' b']
    · exact absurd ⟨a, b⟩ (u' c hc)
  · rcases h' with ⟨c', hc', a', b', u', rfl⟩ | ⟨u', rfl⟩
    · exact absurd ⟨a', b'⟩ (u c' hc')
    · rfl
section
variable {x_length x_bound x_fault x_faultPlace x_mode x_at x_tokenStart x_textCount x_escaped x_valueSlot x_valueName x_depth x_outputLength : Int32} {x_text x_typeKind x_typeDetail x_typeLeast x_typeMost x_fieldCount x_fieldName x_fieldType x_fieldNeeded x_tagType x_nodeKind x_nodeValue x_nodeParent x_nodeName x_nodeSlot x_nodeStart x_nodeTag x_completeCount x_openNode x_openSlot x_openNames x_openNext x_openComma x_output : Nat → Int32} {N : Nat} {p v r : Int32} {post : Int32 → Prop}
theorem fc_w (hN : N ≤ 40) (h : fd_R N x_nodeParent x_nodeName p v r) (hp : post r) : ∀ (j i : Nat), i + j = N → (∀ c, c < i → ¬ (x_nodeParent c = p ∧ x_nodeName c = v)) → ∃ k, wX_findChild_2 post p v x_length (nI N) x_bound x_fault x_faultPlace x_mode x_at x_tokenStart x_textCount x_escaped x_valueSlot x_valueName x_depth x_outputLength x_text x_typeKind x_typeDetail x_typeLeast x_typeMost x_fieldCount x_fieldName x_fieldType x_fieldNeeded x_tagType x_nodeKind x_nodeValue x_nodeParent x_nodeName x_nodeSlot x_nodeStart x_nodeTag x_completeCount x_openNode x_openSlot x_openNames x_openNext x_openComma x_output k (nI i) := by
  intro j
  induction j with
  | zero =>
    intro i hi hb
    have : i = N := by omega
    subst this
    rcases h with ⟨c, hc, a, b, -, -⟩ | ⟨-, rfl⟩
    · exact absurd ⟨a, b⟩ (hb c hc)
    · exact ⟨0 + 1, br_t (nI_le (Nat.le_refl i) (by omega)) hp⟩
  | succ j ih =>
    intro i hi hb
    by_cases z : x_nodeParent i = p ∧ x_nodeName i = v
    · have er : r = nI i := by
        rcases h with ⟨c, hc, a, b, u, rfl⟩ | ⟨u, rfl⟩
        · rw [u i (by omega) z.1 z.2]
        · exact absurd z (u i (by omega))
      subst er
      refine ⟨0 + 1, br_f (nI_ge (by omega) (by omega)) ⟨vp_in_nI (by omega) (by decide), ?_⟩⟩
      rw [nI_clamp (by omega)]
      exact br_t z.1 ⟨vp_in_nI (by omega) (by decide), br_t z.2 hp⟩
    · obtain ⟨k, hk⟩ := ih (i + 1) (by omega) (fun c hc y => by
        rcases Nat.lt_or_ge c i with w | w
        · exact hb c w y
        · have : c = i := by omega
          subst this; exact z y)
      refine ⟨k + 1, br_f (nI_ge (by omega) (by omega)) ⟨vp_in_nI (by omega) (by decide), ?_⟩⟩
      rw [nI_clamp (by omega)]
      exact br_c (fun e1 => ⟨vp_in_nI (by omega) (by decide), br_c (fun e2 => absurd ⟨e1, e2⟩ z) (fun _ => nm_r (nI_1 i) hk)⟩) (fun _ => nm_r (nI_1 i) hk)
theorem fc_x (hN : N ≤ 40) (h : fd_R N x_nodeParent x_nodeName p v r) (hp : post r) : wpX_findChild post (x_length, nI N, x_bound, x_fault, x_faultPlace, x_mode, x_at, x_tokenStart, x_textCount, x_escaped, x_valueSlot, x_valueName, x_depth, x_outputLength, x_text, x_typeKind, x_typeDetail, x_typeLeast, x_typeMost, x_fieldCount, x_fieldName, x_fieldType, x_fieldNeeded, x_tagType, x_nodeKind, x_nodeValue, x_nodeParent, x_nodeName, x_nodeSlot, x_nodeStart, x_nodeTag, x_completeCount, x_openNode, x_openSlot, x_openNames, x_openNext, x_openComma, x_output) p v :=
  fc_w hN h hp N 0 (by omega) (fun c hc => absurd hc (by omega))
end
section
variable {y_length y_parts y_bad y_fault y_place y_bound y_depth y_nextName y_wantsName y_wantsTag y_printed y_waiting y_scaled : Int32} {y_sort y_typeA y_typeB y_typeC y_fieldName y_fieldType y_fields y_tags y_needed y_text y_begin y_end y_inside y_whole y_kind y_value y_parent y_name y_slotOf y_placeOf y_complete y_openNode y_openType y_openCount y_openNames y_openChoice y_output y_todo : Nat → Int32} {N n : Nat} {v r : Int32} {post : Int32 → Prop}
theorem cy_w (hN : N ≤ 40) (h : fd_R N y_parent y_name (nI n) v r) (hp : post r) : ∀ (j i : Nat), i + j = N → (∀ c, c < i → ¬ (y_parent c = nI n ∧ y_name c = v)) → ∃ k, wY_child_4 post (nI n) v y_length y_parts y_bad (nI N) y_fault y_place y_bound y_depth y_nextName y_wantsName y_wantsTag y_printed y_waiting y_scaled y_sort y_typeA y_typeB y_typeC y_fieldName y_fieldType y_fields y_tags y_needed y_text y_begin y_end y_inside y_whole y_kind y_value y_parent y_name y_slotOf y_placeOf y_complete y_openNode y_openType y_openCount y_openNames y_openChoice y_output y_todo k (nI i) := by
  intro j
  induction j with
  | zero =>
    intro i hi hb
    have : i = N := by omega
    subst this
    rcases h with ⟨c, hc, a, b, -, -⟩ | ⟨-, rfl⟩
    · exact absurd ⟨a, b⟩ (hb c hc)
    · exact ⟨0 + 1, br_t (nI_le (Nat.le_refl i) (by omega)) hp⟩
  | succ j ih =>
    intro i hi hb
    by_cases z : y_parent i = nI n ∧ y_name i = v
    · have er : r = nI i := by
        rcases h with ⟨c, hc, a, b, u, rfl⟩ | ⟨u, rfl⟩
        · rw [u i (by omega) z.1 z.2]
        · exact absurd z (u i (by omega))
      subst er
      refine ⟨0 + 1, br_f (nI_ge (by omega) (by omega)) ⟨vp_in_nI (by omega) (by decide), ?_⟩⟩
      rw [nI_clamp (by omega)]
      exact br_t z.1 ⟨vp_in_nI (by omega) (by decide), br_t z.2 hp⟩
    · obtain ⟨k, hk⟩ := ih (i + 1) (by omega) (fun c hc y => by
        rcases Nat.lt_or_ge c i with w | w
        · exact hb c w y
        · have : c = i := by omega
          subst this; exact z y)
      refine ⟨k + 1, br_f (nI_ge (by omega) (by omega)) ⟨vp_in_nI (by omega) (by decide), ?_⟩⟩
      rw [nI_clamp (by omega)]
      exact br_c (fun e1 => ⟨vp_in_nI (by omega) (by decide), br_c (fun e2 => absurd ⟨e1, e2⟩ z) (fun _ => nm_r (nI_1 i) hk)⟩) (fun _ => nm_r (nI_1 i) hk)
theorem ch_y (hN : N ≤ 40) (hn : n < N) (hlt : ∀ c, c < N → y_parent c = nI n → n < c) (h : fd_R N y_parent y_name (nI n) v r) (hp : post r) : wpY_child post (y_length, y_parts, y_bad, nI N, y_fault, y_place, y_bound, y_depth, y_nextName, y_wantsName, y_wantsTag, y_printed, y_waiting, y_scaled, y_sort, y_typeA, y_typeB, y_typeC, y_fieldName, y_fieldType, y_fields, y_tags, y_needed, y_text, y_begin, y_end, y_inside, y_whole, y_kind, y_value, y_parent, y_name, y_slotOf, y_placeOf, y_complete, y_openNode, y_openType, y_openCount, y_openNames, y_openChoice, y_output, y_todo) (nI n) v :=
  nm_r (nI_1 n) (cy_w hN h hp (N - (n + 1)) (n + 1) (by omega) (fun c hc z => by
    have := hlt c (by omega) z.1
    omega))
end
/-- what waits, the next to come first -/
def hol (a : Nat → Int32) : List Int32 → Prop
  | [] => True
  | c :: r => a r.length = c ∧ hol a r
theorem hol_u {a : Nat → Int32} {x : Int32} : ∀ {s : List Int32} {k : Nat}, s.length ≤ k → hol a s → hol (upd a k x) s
  | [], _, _, _ => trivial
  | c :: r, k, hk, h => by
    rw [List.length_cons] at hk
    exact ⟨by rw [pk_un (by omega)]; exact h.1, hol_u (by omega) h.2⟩
theorem hol_p {a : Nat → Int32} {x : Int32} {s : List Int32} (h : hol a s) : hol (upd a s.length x) (x :: s) := ⟨pk_us, hol_u (Nat.le_refl _) h⟩
section
variable {y_length y_parts y_bad y_nodes y_fault y_place y_bound y_depth y_nextName y_wantsName y_wantsTag y_printed y_scaled : Int32} {y_sort y_typeA y_typeB y_typeC y_fieldName y_fieldType y_fields y_tags y_needed y_text y_begin y_end y_inside y_whole y_kind y_value y_parent y_name y_slotOf y_placeOf y_complete y_openNode y_openType y_openCount y_openNames y_openChoice y_output y_todo : Nat → Int32} {w : Nat} {c : Int32}
theorem la_y {Q : SY → Prop} (hw : w < 600) (h : Q (y_length, y_parts, y_bad, y_nodes, y_fault, y_place, y_bound, y_depth, y_nextName, y_wantsName, y_wantsTag, y_printed, nI (w + 1), y_scaled, y_sort, y_typeA, y_typeB, y_typeC, y_fieldName, y_fieldType, y_fields, y_tags, y_needed, y_text, y_begin, y_end, y_inside, y_whole, y_kind, y_value, y_parent, y_name, y_slotOf, y_placeOf, y_complete, y_openNode, y_openType, y_openCount, y_openNames, y_openChoice, y_output, upd y_todo w c)) : wpY_later Q (y_length, y_parts, y_bad, y_nodes, y_fault, y_place, y_bound, y_depth, y_nextName, y_wantsName, y_wantsTag, y_printed, nI w, y_scaled, y_sort, y_typeA, y_typeB, y_typeC, y_fieldName, y_fieldType, y_fields, y_tags, y_needed, y_text, y_begin, y_end, y_inside, y_whole, y_kind, y_value, y_parent, y_name, y_slotOf, y_placeOf, y_complete, y_openNode, y_openType, y_openCount, y_openNames, y_openChoice, y_output, y_todo) c := by
  refine ⟨vp_in_nI hw (by decide), ?_⟩
  rw [nI_clamp (by omega)]
  exact nm_e (nm_r (nI_1 w) h)
end
/-! counting -/
noncomputable def cq_N (P : Nat → Prop) : Nat → Nat
  | 0 => 0
  | k + 1 => cq_N P k + @ite Nat (P k) (Classical.propDecidable (P k)) 1 0
theorem cq_le (P : Nat → Prop) : ∀ N, cq_N P N ≤ N
  | 0 => Nat.le_refl 0
  | k + 1 => by
    have := cq_le P k
    unfold cq_N
    split <;> omega
theorem cq_m {P Q : Nat → Prop} : ∀ {N : Nat}, (∀ i, i < N → P i → Q i) → cq_N P N ≤ cq_N Q N
  | 0, _ => Nat.le_refl 0
  | k + 1, h => by
    have := cq_m (N := k) (fun i hi => h i (by omega))
    have h2 := h k (by omega)
    unfold cq_N
    by_cases a : P k
    · rw [if_pos a, if_pos (h2 a)]; omega
    · rw [if_neg a]; omega
theorem cq_a {P Q R : Nat → Prop} : ∀ {N : Nat}, (∀ i, i < N → P i → R i) → (∀ i, i < N → Q i → R i) → (∀ i, i < N → P i → ¬ Q i) → cq_N P N + cq_N Q N ≤ cq_N R N
  | 0, _, _, _ => Nat.le_refl 0
  | k + 1, h1, h2, h3 => by
    have := cq_a (N := k) (fun i hi => h1 i (by omega)) (fun i hi => h2 i (by omega)) (fun i hi => h3 i (by omega))
    have a1 := h1 k (by omega)
    have a2 := h2 k (by omega)
    have a3 := h3 k (by omega)
    unfold cq_N
    by_cases a : P k
    · rw [if_pos a, if_neg (a3 a), if_pos (a1 a)]; omega
    · rw [if_neg a]
      by_cases b : Q k
      · rw [if_pos b, if_pos (a2 b)]; omega
      · rw [if_neg b]; omega
theorem cq_1 {P : Nat → Prop} : ∀ {N n : Nat}, n < N → P n → 1 ≤ cq_N P N
  | 0, _, h, _ => absurd h (by omega)
  | k + 1, n, h, hp => by
    unfold cq_N
    by_cases e : n = k
    · subst e; rw [if_pos hp]; omega
    · have := cq_1 (N := k) (n := n) (by omega) hp
      omega
