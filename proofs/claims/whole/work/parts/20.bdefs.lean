/-! the bind: what holds between two parts -/
def by_L (slot : Int32) (post : Int32 → SY → Prop) (k : Nat) (v : SY) : Prop := match v with | (y_length, y_parts, y_bad, y_nodes, y_fault, y_place, y_bound, y_depth, y_nextName, y_wantsName, y_wantsTag, y_printed, y_waiting, y_scaled, y_sort, y_typeA, y_typeB, y_typeC, y_fieldName, y_fieldType, y_fields, y_tags, y_needed, y_text, y_begin, y_end, y_inside, y_whole, y_kind, y_value, y_parent, y_name, y_slotOf, y_placeOf, y_complete, y_openNode, y_openType, y_openCount, y_openNames, y_openChoice, y_output, y_todo) => ∃ n, wY_bind_73 post slot n (nI k) y_length y_parts y_bad y_nodes y_fault y_place y_bound y_depth y_nextName y_wantsName y_wantsTag y_printed y_waiting y_scaled y_sort y_typeA y_typeB y_typeC y_fieldName y_fieldType y_fields y_tags y_needed y_text y_begin y_end y_inside y_whole y_kind y_value y_parent y_name y_slotOf y_placeOf y_complete y_openNode y_openType y_openCount y_openNames y_openChoice y_output y_todo
def by_R (slot : Int32) (k : Nat) (v : SY) (k' : Nat) (v' : SY) : Prop := ∀ post, by_L slot post k' v' → by_L slot post k v
/-- both end the bind with one answer, in related states -/
def bo_O (slot : Int32) (p k : Nat) (u : SX) (v : SY) : Prop := ∃ r u' v', (∀ post : Int32 → SX → Prop, post r u' → bx_L post p u) ∧ (∀ post : Int32 → SY → Prop, post r v' → by_L slot post k v) ∧ i_Rel 0 u' v'
theorem bo_step {slot : Int32} {p k p' k' : Nat} {u u' : SX} {v v' : SY} (hx : bx_R p u p' u') (hy : by_R slot k v k' v') (h : bo_O slot p' k' u' v') : bo_O slot p k u v := by
  obtain ⟨r, a, b, h1, h2, h3⟩ := h
  exact ⟨r, a, b, fun post q => hx post (h1 post q), fun post q => hy post (h2 post q), h3⟩
theorem bo_x {slot : Int32} {p k p' : Nat} {u u' : SX} {v : SY} (hx : bx_R p u p' u') (h : bo_O slot p' k u' v) : bo_O slot p k u v :=
  bo_step hx (fun _ h => h) h
section
variable {y_length y_parts y_bad y_nodes y_fault y_place y_bound y_depth y_nextName y_wantsName y_wantsTag y_printed y_waiting y_scaled : Int32} {y_sort y_typeA y_typeB y_typeC y_fieldName y_fieldType y_fields y_tags y_needed y_text y_begin y_end y_inside y_whole y_kind y_value y_parent y_name y_slotOf y_placeOf y_complete y_openNode y_openType y_openCount y_openNames y_openChoice y_output y_todo : Nat → Int32} {P k : Nat} {slot : Int32}
theorem by_1 (hk : k < P) (hP : P ≤ 96) (v' : SY) (h : ∀ Q : SY → Prop, Q v' → wpY_part Q (y_length, nI P, y_bad, y_nodes, 0, y_place, y_bound, y_depth, y_nextName, y_wantsName, y_wantsTag, y_printed, y_waiting, y_scaled, y_sort, y_typeA, y_typeB, y_typeC, y_fieldName, y_fieldType, y_fields, y_tags, y_needed, y_text, y_begin, y_end, y_inside, y_whole, y_kind, y_value, y_parent, y_name, y_slotOf, y_placeOf, y_complete, y_openNode, y_openType, y_openCount, y_openNames, y_openChoice, y_output, y_todo) (nI k) slot) : by_R slot k (y_length, nI P, y_bad, y_nodes, 0, y_place, y_bound, y_depth, y_nextName, y_wantsName, y_wantsTag, y_printed, y_waiting, y_scaled, y_sort, y_typeA, y_typeB, y_typeC, y_fieldName, y_fieldType, y_fields, y_tags, y_needed, y_text, y_begin, y_end, y_inside, y_whole, y_kind, y_value, y_parent, y_name, y_slotOf, y_placeOf, y_complete, y_openNode, y_openType, y_openCount, y_openNames, y_openChoice, y_output, y_todo) (k + 1) v' := by
  intro post hn
  obtain ⟨z_length, z_parts, z_bad, z_nodes, z_fault, z_place, z_bound, z_depth, z_nextName, z_wantsName, z_wantsTag, z_printed, z_waiting, z_scaled, z_sort, z_typeA, z_typeB, z_typeC, z_fieldName, z_fieldType, z_fields, z_tags, z_needed, z_text, z_begin, z_end, z_inside, z_whole, z_kind, z_value, z_parent, z_name, z_slotOf, z_placeOf, z_complete, z_openNode, z_openType, z_openCount, z_openNames, z_openChoice, z_output, z_todo⟩ := v'
  obtain ⟨n, hn⟩ := hn
  exact ⟨n + 1, br_f (nI_ge hk (by omega)) (br_t rfl (h _ (nm_r (nI_1 k) hn)))⟩
theorem by_F {post : Int32 → SY → Prop} (hf : ¬ y_fault = 0) (h : post y_fault (y_length, y_parts, y_bad, y_nodes, y_fault, y_place, 0, y_depth, y_nextName, y_wantsName, y_wantsTag, y_printed, y_waiting, y_scaled, y_sort, y_typeA, y_typeB, y_typeC, y_fieldName, y_fieldType, y_fields, y_tags, y_needed, y_text, y_begin, y_end, y_inside, y_whole, y_kind, y_value, y_parent, y_name, y_slotOf, y_placeOf, y_complete, y_openNode, y_openType, y_openCount, y_openNames, y_openChoice, y_output, y_todo)) : by_L slot post k (y_length, y_parts, y_bad, y_nodes, y_fault, y_place, y_bound, y_depth, y_nextName, y_wantsName, y_wantsTag, y_printed, y_waiting, y_scaled, y_sort, y_typeA, y_typeB, y_typeC, y_fieldName, y_fieldType, y_fields, y_tags, y_needed, y_text, y_begin, y_end, y_inside, y_whole, y_kind, y_value, y_parent, y_name, y_slotOf, y_placeOf, y_complete, y_openNode, y_openType, y_openCount, y_openNames, y_openChoice, y_output, y_todo) := by
  have e : wY_bind_100 post y_length y_parts y_bad y_nodes y_fault y_place y_bound y_depth y_nextName y_wantsName y_wantsTag y_printed y_waiting y_scaled y_sort y_typeA y_typeB y_typeC y_fieldName y_fieldType y_fields y_tags y_needed y_text y_begin y_end y_inside y_whole y_kind y_value y_parent y_name y_slotOf y_placeOf y_complete y_openNode y_openType y_openCount y_openNames y_openChoice y_output y_todo := by
    by_cases z : y_bad < 0
    · exact br_t z (br_f hf h)
    · exact br_f z (br_f hf (br_f hf h))
  by_cases z : y_parts ≤ nI k
  · exact ⟨1, br_t z e⟩
  · exact ⟨1, br_f z (br_f hf e)⟩
theorem by_E0 {post : Int32 → SY → Prop} (hP : P ≤ 96) (h : post 0 (y_length, nI P, -1, y_nodes, 0, y_place, 1, y_depth, y_nextName, y_wantsName, y_wantsTag, y_printed, y_waiting, y_scaled, y_sort, y_typeA, y_typeB, y_typeC, y_fieldName, y_fieldType, y_fields, y_tags, y_needed, y_text, y_begin, y_end, y_inside, y_whole, y_kind, y_value, y_parent, y_name, y_slotOf, y_placeOf, y_complete, y_openNode, y_openType, y_openCount, y_openNames, y_openChoice, y_output, y_todo)) : by_L slot post P (y_length, nI P, -1, y_nodes, 0, y_place, y_bound, y_depth, y_nextName, y_wantsName, y_wantsTag, y_printed, y_waiting, y_scaled, y_sort, y_typeA, y_typeB, y_typeC, y_fieldName, y_fieldType, y_fields, y_tags, y_needed, y_text, y_begin, y_end, y_inside, y_whole, y_kind, y_value, y_parent, y_name, y_slotOf, y_placeOf, y_complete, y_openNode, y_openType, y_openCount, y_openNames, y_openChoice, y_output, y_todo) :=
  ⟨1, br_t (nI_le (Nat.le_refl _) (by omega)) (br_t (by decide) (br_t rfl h))⟩
theorem by_E1 {post : Int32 → SY → Prop} {z : Nat} (hP : P ≤ 96) (hz : z ≤ 96) (h : post 1 (y_length, nI P, nI z, y_nodes, 1, nI z, 0, y_depth, y_nextName, y_wantsName, y_wantsTag, y_printed, y_waiting, y_scaled, y_sort, y_typeA, y_typeB, y_typeC, y_fieldName, y_fieldType, y_fields, y_tags, y_needed, y_text, y_begin, y_end, y_inside, y_whole, y_kind, y_value, y_parent, y_name, y_slotOf, y_placeOf, y_complete, y_openNode, y_openType, y_openCount, y_openNames, y_openChoice, y_output, y_todo)) : by_L slot post P (y_length, nI P, nI z, y_nodes, 0, y_place, y_bound, y_depth, y_nextName, y_wantsName, y_wantsTag, y_printed, y_waiting, y_scaled, y_sort, y_typeA, y_typeB, y_typeC, y_fieldName, y_fieldType, y_fields, y_tags, y_needed, y_text, y_begin, y_end, y_inside, y_whole, y_kind, y_value, y_parent, y_name, y_slotOf, y_placeOf, y_complete, y_openNode, y_openType, y_openCount, y_openNames, y_openChoice, y_output, y_todo) :=
  ⟨1, br_t (nI_le (Nat.le_refl _) (by omega)) (br_f (nI_pos (by omega)) (br_t rfl (br_f (by decide) h)))⟩
end
/-- the mode where x is expected -/
def md_x (x : Nat) : Int32 := if x = 0 then 0 else if x = 1 then 1 else if x = 2 then 3 else if x = 3 then 4 else if x = 4 then 5 else 2
theorem md_lt (x : Nat) : md_x x < 8 ∧ ¬ md_x x = 6 ∧ ¬ md_x x = 7 := by
  unfold md_x
  by_cases h0 : x = 0
  · rw [if_pos h0]; decide
  rw [if_neg h0]
  by_cases h1 : x = 1
  · rw [if_pos h1]; decide
  rw [if_neg h1]
  by_cases h2 : x = 2
  · rw [if_pos h2]; decide
  rw [if_neg h2]
  by_cases h3 : x = 3
  · rw [if_pos h3]; decide
  rw [if_neg h3]
  by_cases h4 : x = 4
  · rw [if_pos h4]; decide
  rw [if_neg h4]; decide
/-- an open level -/
def lv_F (so : Nat → Int32) (N d : Nat) (g kd vl pa nm sl tg : Nat → Int32) (dp : Nat → Nat) (on os om on' ot oc om' och : Nat → Int32) (l : Nat) : Prop :=
  ∃ n s, n < N ∧ s < 12 ∧ on l = nI n ∧ on' l = nI n ∧ dp n = l ∧ ot l = os l ∧ sl n = nI s ∧
   ((g (l + 1) = 12 ∧ kd n = 3 ∧ so s = 4 ∧ os l = nI s ∧ oc l = vl n) ∨
    (g (l + 1) = 10 ∧ kd n = 4 ∧ om' l = om l ∧ (∃ M, M < 64 ∧ om l = nI M ∧ ∀ c, c < N → pa c = nI n → ∃ j, j < 6 ∧ nm c = nI j ∧ M.testBit j = true) ∧
      ((so s = 5 ∧ os l = nI s ∧ och l = -1 ∧ tg n = -1) ∨
       (so s = 6 ∧ och l = nI s ∧ os l = -1 ∧ tg n = -1 ∧ l + 1 = d) ∨
       (so s = 6 ∧ och l = nI s ∧ ∃ r q, r < 12 ∧ so r = 5 ∧ os l = nI r ∧ q < 6 ∧ tg n = nI q))))
/-- a field whose name has been read -/
def pd_F (N d : Nat) (fC fN fT pa nm on os om : Nat → Int32) (vs vn nx : Int32) : Prop :=
  ∃ n r m i j M, on (d - 1) = nI n ∧ n < N ∧ os (d - 1) = nI r ∧ r < 12 ∧ fC r = nI m ∧ m ≤ 4 ∧ i < m ∧ j < 6 ∧ fN (4 * r + i) = nI j ∧ vs = fT (4 * r + i) ∧ vn = nI j ∧ nx = nI j ∧ om (d - 1) = nI M ∧ M < 64 ∧ M.testBit j = true ∧ ∀ c, c < N → pa c = nI n → nm c ≠ nI j
/-- a choice that was opened h parts ago -/
def ph_F (d k h : Nat) (on st bg : Nat → Int32) : Prop := ∃ n K b, on (d - 1) = nI n ∧ n < 40 ∧ K + h = k ∧ bg K = nI b ∧ st n = nI b
/-- what is expected, and what is held for it -/
def xp_F (slot : Int32) (k x d N : Nat) (g fC fN fT pa nm on os om st bg : Nat → Int32) (vs vn nx wn wt : Int32) : Prop :=
  (x = 0 ∧ d = 0 ∧ N = 0 ∧ vs = slot ∧ vn = -1) ∨
  (x = 0 ∧ 0 < d ∧ g d = 12 ∧ wt = 0) ∨
  (x = 0 ∧ 0 < d ∧ g d = 10 ∧ wn = 0 ∧ os (d - 1) = -1 ∧ wt = 1 ∧ ph_F d k 3 on st bg) ∨
  (x = 0 ∧ 0 < d ∧ g d = 10 ∧ wn = 0 ∧ ¬ os (d - 1) = -1 ∧ wt = 0 ∧ pd_F N d fC fN fT pa nm on os om vs vn nx) ∨
  (x = 1 ∧ 0 < d ∧ g d = 12 ∧ wt = 0) ∨
  (x = 2 ∧ 0 < d ∧ g d = 10 ∧ wn = 1 ∧ wt = 0 ∧ (os (d - 1) = -1 → ph_F d k 1 on st bg)) ∨
  (x = 3 ∧ 0 < d ∧ g d = 10 ∧ wn = 1 ∧ wt = 0 ∧ ¬ os (d - 1) = -1) ∨
  (x = 4 ∧ 0 < d ∧ g d = 10 ∧ os (d - 1) = -1 ∧ wt = 1 ∧ ph_F d k 2 on st bg) ∨
  (x = 4 ∧ 0 < d ∧ g d = 10 ∧ ¬ os (d - 1) = -1 ∧ wt = 0 ∧ pd_F N d fC fN fT pa nm on os om vs vn nx) ∨
  (x = 5 ∧ 1 ≤ N ∧ (0 < d → wt = 0 ∧ ¬ os (d - 1) = -1))
/-- complete records -/
def cm_F (so cc cy : Nat → Int32) (k : Nat) : Prop := ∀ s, s < 12 → cy s = cc s ∧ (∃ c, c ≤ k ∧ cc s = nI c) ∧ (¬ so s = 5 → cc s = 0)
/-- where the parts so far begin -/
def bg_F (bg : Nat → Int32) (k p : Nat) : Prop := (∀ i, i < k → ∃ b, b < p ∧ bg i = nI b) ∧ ∀ i j, i < j → j < k → bg i ≠ bg j
/-- the open choice without its tag -/
def op_F (d : Nat) (on os : Nat → Int32) (i : Nat) : Prop := 0 < d ∧ on (d - 1) = nI i ∧ os (d - 1) = -1
theorem bg_s {bg : Nat → Int32} {k p b p' : Nat} (h : bg_F bg k p) (hp : p ≤ 96) (hb : p ≤ b) (hb2 : b < p') (hp' : p' ≤ 96) (e : bg k = nI b) : bg_F bg (k + 1) p' := by
  refine ⟨fun i hi => ?_, fun i j hij hj => ?_⟩
  · by_cases z : i = k
    · subst z; exact ⟨b, hb2, e⟩
    · obtain ⟨b', h1, h2⟩ := h.1 i (by omega)
      exact ⟨b', by omega, h2⟩
  · by_cases z : j = k
    · subst z
      obtain ⟨b', h1, h2⟩ := h.1 i hij
      rw [e, h2]
      intro w
      have := hh_i (by omega) (by omega) w
      omega
    · exact h.2 i j hij (by omega)
theorem cm_s {so cc cy : Nat → Int32} {k : Nat} (h : cm_F so cc cy k) : cm_F so cc cy (k + 1) := by
  intro s hs
  obtain ⟨a, ⟨c, h1, h2⟩, b⟩ := h s hs
  exact ⟨a, ⟨c, by omega, h2⟩, b⟩
theorem nd_op {t so bg en : Nat → Int32} {L N : Nat} {kd vl pa nm sl st tg : Nat → Int32} {dp : Nat → Nat} {op op' : Nat → Prop} (h : nd_A t so bg en L N kd vl pa nm sl st tg dp op) (ho : ∀ i, op i → op' i) : nd_A t so bg en L N kd vl pa nm sl st tg dp op' := by
  refine ⟨h.1, fun i hi => ?_, h.2.2⟩
  obtain ⟨k, s, b, h1, h2, h3, h4, h5, h6, h7, h8, h9, h10, h11, h12⟩ := h.2.1 i hi
  refine ⟨k, s, b, h1, h2, h3, h4, h5, h6, h7, h8, h9, h10, h11, fun z => ?_⟩
  rcases h12 z with w | w | w
  · exact Or.inl w
  · exact Or.inr (Or.inl ⟨w.1, w.2.1, ho i w.2.2⟩)
  · exact Or.inr (Or.inr w)
/-- all that is held between two parts -/
def br_F (slot : Int32) (L k p x d N : Nat) (g t so fC fN fT bg en kd vl pa nm sl st tg cc on os om : Nat → Int32) (vs vn : Int32) (dp : Nat → Nat) (kd' vl' pa' nm' sl' st' cy on' ot oc om' och : Nat → Int32) (nx wn wt : Int32) : Prop :=
  (pe_N N kd kd' ∧ pe_N N vl vl' ∧ pe_N N pa pa' ∧ pe_N N nm nm' ∧ pe_N N sl sl' ∧ pe_N N st st') ∧
  nd_A t so bg en L N kd vl pa nm sl st tg dp (op_F d on os) ∧ d ≤ 6 ∧
  (∀ l, l < d → lv_F so N d g kd vl pa nm sl tg dp on os om on' ot oc om' och l) ∧
  cm_F so cc cy k ∧ bg_F bg k p ∧ xp_F slot k x d N g fC fN fT pa nm on os om st bg vs vn nx wn wt
