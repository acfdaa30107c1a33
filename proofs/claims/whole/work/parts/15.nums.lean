/-! a number's shape as the reckoning needs it -/
def nu_P (t : Nat → Int32) (b a e Q : Nat) : Prop :=
  b < a ∧ a ≤ e ∧ e ≤ Q ∧ Q ≤ 96 ∧ (e < Q → e + 1 < Q) ∧
  (∀ j, b ≤ j → j < Q → (t j = 18 ↔ a < e ∧ j = a)) ∧ (∀ j, b ≤ j → j < Q → (t j = 19 ↔ e < Q ∧ j = e)) ∧
  (∀ j, b < j → j < e → t j ≤ 9 ∨ j = a) ∧ (t b ≤ 9 ∨ t b = 17)
theorem hh_9 {x : Int32} {n : Nat} (h : x ≤ 9) (hn : 9 < n) (hn2 : n < 1000) : ¬ x = nI n := by
  rintro rfl
  exact nI_ge (b := n) (a := 9) hn (by omega) h
theorem nu_of {t : Nat → Int32} {L b Q : Nat} (hL : L ≤ 96) (hW : ns_W t L b Q) : ∃ a e, nu_P t b a e Q := by
  obtain ⟨i, a, e, s, h1, h2, h3⟩ := hW
  have x1 := ns_I_le h1
  have x2 := ns_F_le h2 x1.2.2
  have x3 := ns_E_le h3 x2.2
  have hb : t b ≤ 9 ∨ t b = 17 := by
    rcases h1.1 with h | h
    · exact Or.inr h.1
    · exact Or.inl h.1
  -- the whole part
  have dI : ∀ j, b ≤ j → j < a → t j ≤ 9 ∨ (j = b ∧ t j = 17) := by
    intro j p q
    obtain ⟨g1, g2, g3, g4⟩ := h1
    by_cases w : j < i
    · have : j = b := by rcases g1 with g | g <;> omega
      subst this
      rcases g1 with g | g
      · exact Or.inr ⟨rfl, g.1⟩
      · omega
    · refine Or.inl ?_
      rcases g4 with ⟨-, g4⟩ | ⟨-, -, g4, -⟩
      · have : j = i := by omega
        subst this; exact g3
      · exact g4.2.2 j (by omega) q
  have dF : ∀ j, a ≤ j → j < e → t j ≤ 9 ∨ (j = a ∧ t j = 18) := by
    intro j p q
    rcases h2 with ⟨-, g⟩ | ⟨-, g1, -, g3, -⟩
    · omega
    · by_cases w : j = a
      · subst w; exact Or.inr ⟨rfl, g1⟩
      · exact Or.inl (g3.2.2 j (by omega) q)
  have dE : ∀ j, e ≤ j → j < Q → t j ≤ 9 ∨ (j = e ∧ t j = 19) ∨ (j = e + 1 ∧ (t j = 17 ∨ t j = 31)) := by
    intro j p q
    rcases h3 with ⟨-, g⟩ | ⟨-, g1, g2, -, g4, -⟩
    · omega
    · by_cases w : j = e
      · subst w; exact Or.inr (Or.inl ⟨rfl, g1⟩)
      · rcases g2 with ⟨g2, -⟩ | ⟨g2, -, g3⟩
        · exact Or.inl (g4.2.2 j (by omega) q)
        · by_cases w2 : j = e + 1
          · subst w2; exact Or.inr (Or.inr ⟨rfl, g3⟩)
          · exact Or.inl (g4.2.2 j (by omega) q)
  have fr : a < e → t a = 18 := by
    intro w
    rcases h2 with ⟨-, g⟩ | ⟨-, g1, -⟩
    · omega
    · exact g1
  have ex : e < Q → t e = 19 ∧ e + 1 < Q := by
    intro w
    rcases h3 with ⟨-, g⟩ | ⟨-, g1, g2, g3, -⟩
    · omega
    · refine ⟨g1, ?_⟩
      rcases g2 with ⟨g2, -⟩ | ⟨g2, -⟩ <;> omega
  refine ⟨a, e, by omega, by omega, by omega, by omega, fun w => (ex w).2, fun j p q => ⟨fun z => ?_, fun z => ?_⟩, fun j p q => ⟨fun z => ?_, fun z => ?_⟩, fun j p q => ?_, hb⟩
  · rcases Nat.lt_or_ge j a with w | w
    · rcases dI j p w with g | ⟨-, g⟩
      · exact absurd z (hh_9 (n := 18) g (by decide) (by decide))
      · rw [z] at g; exact absurd g (by decide)
    · rcases Nat.lt_or_ge j e with w2 | w2
      · rcases dF j w w2 with g | ⟨g, -⟩
        · exact absurd z (hh_9 (n := 18) g (by decide) (by decide))
        · exact ⟨by omega, g⟩
      · rcases dE j w2 q with g | ⟨-, g⟩ | ⟨-, g⟩
        · exact absurd z (hh_9 (n := 18) g (by decide) (by decide))
        · rw [z] at g; exact absurd g (by decide)
        · rw [z] at g; exact absurd g (by decide)
  · obtain ⟨z1, rfl⟩ := z; exact fr z1
  · rcases Nat.lt_or_ge j a with w | w
    · rcases dI j p w with g | ⟨-, g⟩
      · exact absurd z (hh_9 (n := 19) g (by decide) (by decide))
      · rw [z] at g; exact absurd g (by decide)
    · rcases Nat.lt_or_ge j e with w2 | w2
      · rcases dF j w w2 with g | ⟨-, g⟩
        · exact absurd z (hh_9 (n := 19) g (by decide) (by decide))
        · rw [z] at g; exact absurd g (by decide)
      · rcases dE j w2 q with g | ⟨g, -⟩ | ⟨-, g⟩
        · exact absurd z (hh_9 (n := 19) g (by decide) (by decide))
        · exact ⟨by omega, g⟩
        · rw [z] at g; exact absurd g (by decide)
  · obtain ⟨z1, rfl⟩ := z; exact (ex z1).1
  · rcases Nat.lt_or_ge j a with w | w
    · rcases dI j (by omega) w with g | ⟨g, -⟩
      · exact Or.inl g
      · omega
    · rcases dF j w q with g | ⟨g, -⟩
      · exact Or.inl g
      · exact Or.inr g
/-! the component: where the point and the e stand -/
section
variable {x_length x_nodeCount x_bound x_fault x_faultPlace x_mode x_at x_tokenStart x_textCount x_escaped x_valueSlot x_valueName x_depth x_outputLength : Int32} {x_text x_typeKind x_typeDetail x_typeLeast x_typeMost x_fieldCount x_fieldName x_fieldType x_fieldNeeded x_tagType x_nodeKind x_nodeValue x_nodeParent x_nodeName x_nodeSlot x_nodeStart x_nodeTag x_completeCount x_openNode x_openSlot x_openNames x_openNext x_openComma x_output : Nat → Int32}
theorem xu_find {post : Int32 → Prop} {c : Int32} : ∀ (m j r E : Nat), j + m = r → r ≤ E → E ≤ 96 → (∀ i, j ≤ i → i < r → ¬ x_text i = c) → (r < E → x_text r = c) → post (nI r) → ∃ n, wX_findInNumber_5 post c (nI E) x_length x_nodeCount x_bound x_fault x_faultPlace x_mode x_at x_tokenStart x_textCount x_escaped x_valueSlot x_valueName x_depth x_outputLength x_text x_typeKind x_typeDetail x_typeLeast x_typeMost x_fieldCount x_fieldName x_fieldType x_fieldNeeded x_tagType x_nodeKind x_nodeValue x_nodeParent x_nodeName x_nodeSlot x_nodeStart x_nodeTag x_completeCount x_openNode x_openSlot x_openNames x_openNext x_openComma x_output n (nI j) := by
  intro m
  induction m with
  | zero =>
    intro j r E h1 h2 h3 h4 h5 h
    have : j = r := by omega
    subst this
    rcases Nat.lt_or_ge j E with w | w
    · refine ⟨1, br_f (nI_ge w (by omega)) ⟨vp_in_nI (by omega) (by decide), ?_⟩⟩
      rw [nI_clamp (by omega)]
      exact br_t (h5 w) h
    · have : j = E := by omega
      subst this
      exact ⟨1, br_t (nI_le (Nat.le_refl _) (by omega)) h⟩
  | succ m ih =>
    intro j r E h1 h2 h3 h4 h5 h
    obtain ⟨n, hn⟩ := ih (j + 1) r E (by omega) h2 h3 (fun i p q => h4 i (by omega) q) h5 h
    refine ⟨n + 1, br_f (nI_ge (by omega) (by omega)) ⟨vp_in_nI (by omega) (by decide), ?_⟩⟩
    rw [nI_clamp (by omega)]
    exact br_f (h4 j (by omega) (by omega)) (nm_r (nI_1 j) hn)
end
/-! the power's digits, as both add them up -/
def nu_V (px py : Nat) : Prop := (px = py ∧ py ≤ 99999) ∨ (10000 ≤ py ∧ py ≤ 99999 ∧ 10000 ≤ px ∧ px ≤ 999999)
theorem nu_10 (p c : Nat) : (10 : Int32) * nI p + nI c = nI (10 * p + c) := by
  show nI 10 * nI p + nI c = _
  rw [pk_mul, nI_add]
section
variable {x_length x_nodeCount x_bound x_fault x_faultPlace x_mode x_at x_tokenStart x_textCount x_escaped x_valueSlot x_valueName x_depth x_outputLength : Int32} {x_text x_typeKind x_typeDetail x_typeLeast x_typeMost x_fieldCount x_fieldName x_fieldType x_fieldNeeded x_tagType x_nodeKind x_nodeValue x_nodeParent x_nodeName x_nodeSlot x_nodeStart x_nodeTag x_completeCount x_openNode x_openSlot x_openNames x_openNext x_openComma x_output : Nat → Int32}
theorem nu_pow {Q f : Nat} (hC : tt_C x_text) (hQ : Q ≤ 96) : ∀ (m j px py : Nat), j + m = Q → nu_V px py →
    ∃ px' py', nu_V px' py' ∧
      (∀ postX : Int32 → Prop, (∃ n, wX_readPower_4 postX (nI f) x_length x_nodeCount x_bound x_fault x_faultPlace x_mode (nI Q) x_tokenStart x_textCount x_escaped x_valueSlot x_valueName x_depth x_outputLength x_text x_typeKind x_typeDetail x_typeLeast x_typeMost x_fieldCount x_fieldName x_fieldType x_fieldNeeded x_tagType x_nodeKind x_nodeValue x_nodeParent x_nodeName x_nodeSlot x_nodeStart x_nodeTag x_completeCount x_openNode x_openSlot x_openNames x_openNext x_openComma x_output n (nI px') (nI Q)) → ∃ n, wX_readPower_4 postX (nI f) x_length x_nodeCount x_bound x_fault x_faultPlace x_mode (nI Q) x_tokenStart x_textCount x_escaped x_valueSlot x_valueName x_depth x_outputLength x_text x_typeKind x_typeDetail x_typeLeast x_typeMost x_fieldCount x_fieldName x_fieldType x_fieldNeeded x_tagType x_nodeKind x_nodeValue x_nodeParent x_nodeName x_nodeSlot x_nodeStart x_nodeTag x_completeCount x_openNode x_openSlot x_openNames x_openNext x_openComma x_output n (nI px) (nI j)) ∧
      (∀ {y_length y_parts y_bad y_nodes y_fault y_place y_bound y_depth y_nextName y_wantsName y_wantsTag y_printed y_waiting y_scaled : Int32} {y_sort y_typeA y_typeB y_typeC y_fieldName y_fieldType y_fields y_tags y_needed y_begin y_end y_inside y_whole y_kind y_value y_parent y_name y_slotOf y_placeOf y_complete y_openNode y_openType y_openCount y_openNames y_openChoice y_output y_todo : Nat → Int32} (postY : Int32 → SY → Prop) (x2 x3 x4 x5 x8 : Int32), (∃ n, wY_units_108 postY x2 x3 x4 x5 (nI (Q - 1)) x8 y_length y_parts y_bad y_nodes y_fault y_place y_bound y_depth y_nextName y_wantsName y_wantsTag y_printed y_waiting y_scaled y_sort y_typeA y_typeB y_typeC y_fieldName y_fieldType y_fields y_tags y_needed x_text y_begin y_end y_inside y_whole y_kind y_value y_parent y_name y_slotOf y_placeOf y_complete y_openNode y_openType y_openCount y_openNames y_openChoice y_output y_todo n (nI py') (nI Q)) → ∃ n, wY_units_108 postY x2 x3 x4 x5 (nI (Q - 1)) x8 y_length y_parts y_bad y_nodes y_fault y_place y_bound y_depth y_nextName y_wantsName y_wantsTag y_printed y_waiting y_scaled y_sort y_typeA y_typeB y_typeC y_fieldName y_fieldType y_fields y_tags y_needed x_text y_begin y_end y_inside y_whole y_kind y_value y_parent y_name y_slotOf y_placeOf y_complete y_openNode y_openType y_openCount y_openNames y_openChoice y_output y_todo n (nI py) (nI j)) := by
  intro m
  induction m with
  | zero =>
    intro j px py h1 hV
    have : j = Q := by omega
    subst this
    exact ⟨px, py, hV, fun _ h => h, fun _ _ _ _ _ _ h => h⟩
  | succ m ih =>
    intro j px py h1 hV
    obtain ⟨c, hc, ec⟩ := hC j
    have bx : px < 1000000 ∧ py < 100000 := by unfold nu_V at hV; omega
    have hj : (nI j).toNatClampNeg = j := nI_clamp (by omega)
    have ij : vp_in (nI j) 96 := vp_in_nI (by omega) (by decide)
    have nX : ¬ nI Q ≤ nI j := nI_ge (by omega) (by omega)
    have nY : ¬ nI (Q - 1) < nI j := nI_nlt (by omega) (by omega)
    by_cases dg : c ≤ 9
    · have d1 : ¬ 9 < nI c := nI_nlt (b := c) (a := 9) dg (by decide)
      have d2 : ¬ (10 : Int32) ≤ nI c := nI_ge (b := 10) (by omega) (by decide)
      obtain ⟨qx, hqx, sx⟩ : ∃ qx, (qx = if px < 100000 then 10 * px + c else px) ∧ ∀ postX : Int32 → Prop, (∃ n, wX_readPower_4 postX (nI f) x_length x_nodeCount x_bound x_fault x_faultPlace x_mode (nI Q) x_tokenStart x_textCount x_escaped x_valueSlot x_valueName x_depth x_outputLength x_text x_typeKind x_typeDetail x_typeLeast x_typeMost x_fieldCount x_fieldName x_fieldType x_fieldNeeded x_tagType x_nodeKind x_nodeValue x_nodeParent x_nodeName x_nodeSlot x_nodeStart x_nodeTag x_completeCount x_openNode x_openSlot x_openNames x_openNext x_openComma x_output n (nI qx) (nI (j + 1))) → ∃ n, wX_readPower_4 postX (nI f) x_length x_nodeCount x_bound x_fault x_faultPlace x_mode (nI Q) x_tokenStart x_textCount x_escaped x_valueSlot x_valueName x_depth x_outputLength x_text x_typeKind x_typeDetail x_typeLeast x_typeMost x_fieldCount x_fieldName x_fieldType x_fieldNeeded x_tagType x_nodeKind x_nodeValue x_nodeParent x_nodeName x_nodeSlot x_nodeStart x_nodeTag x_completeCount x_openNode x_openSlot x_openNames x_openNext x_openComma x_output n (nI px) (nI j) := by
        refine ⟨_, rfl, fun postX ⟨n, hn⟩ => ⟨n + 1, br_f nX ⟨ij, ?_⟩⟩⟩
        rw [hj, ec]
        refine br_f d1 ?_
        by_cases w : px < 100000
        · rw [if_pos w] at hn
          exact br_f (nI_ge (b := 100000) w (by decide)) ⟨ij, nm_r (nu_10 px c) (nm_r (nI_1 j) hn)⟩
        · rw [if_neg w] at hn
          exact br_t (nI_le (a := 100000) (by omega) (by omega)) (nm_r (nI_1 j) hn)
      obtain ⟨qy, hqy, sy⟩ : ∃ qy, (qy = if py < 10000 then 10 * py + c else py) ∧ ∀ {y_length y_parts y_bad y_nodes y_fault y_place y_bound y_depth y_nextName y_wantsName y_wantsTag y_printed y_waiting y_scaled : Int32} {y_sort y_typeA y_typeB y_typeC y_fieldName y_fieldType y_fields y_tags y_needed y_begin y_end y_inside y_whole y_kind y_value y_parent y_name y_slotOf y_placeOf y_complete y_openNode y_openType y_openCount y_openNames y_openChoice y_output y_todo : Nat → Int32} (postY : Int32 → SY → Prop) (x2 x3 x4 x5 x8 : Int32), (∃ n, wY_units_108 postY x2 x3 x4 x5 (nI (Q - 1)) x8 y_length y_parts y_bad y_nodes y_fault y_place y_bound y_depth y_nextName y_wantsName y_wantsTag y_printed y_waiting y_scaled y_sort y_typeA y_typeB y_typeC y_fieldName y_fieldType y_fields y_tags y_needed x_text y_begin y_end y_inside y_whole y_kind y_value y_parent y_name y_slotOf y_placeOf y_complete y_openNode y_openType y_openCount y_openNames y_openChoice y_output y_todo n (nI qy) (nI (j + 1))) → ∃ n, wY_units_108 postY x2 x3 x4 x5 (nI (Q - 1)) x8 y_length y_parts y_bad y_nodes y_fault y_place y_bound y_depth y_nextName y_wantsName y_wantsTag y_printed y_waiting y_scaled y_sort y_typeA y_typeB y_typeC y_fieldName y_fieldType y_fields y_tags y_needed x_text y_begin y_end y_inside y_whole y_kind y_value y_parent y_name y_slotOf y_placeOf y_complete y_openNode y_openType y_openCount y_openNames y_openChoice y_output y_todo n (nI py) (nI j) := by
        refine ⟨_, rfl, fun postY x2 x3 x4 x5 x8 ⟨n, hn⟩ => ⟨n + 1, br_f nY ⟨ij, ?_⟩⟩⟩
        rw [hj, ec]
        refine br_f d2 ?_
        by_cases w : py < 10000
        · rw [if_pos w] at hn
          exact br_f (nI_ge (b := 10000) w (by decide)) ⟨ij, nm_r (nu_10 py c) (nm_r (nI_1 j) hn)⟩
        · rw [if_neg w] at hn
          exact br_t (nI_le (a := 10000) (by omega) (by omega)) (nm_r (nI_1 j) hn)
      have hV' : nu_V qx qy := by
        unfold nu_V at hV ⊢
        split at hqx <;> split at hqy <;> omega
      obtain ⟨px', py', v, hx, hy⟩ := ih (j + 1) qx qy (by omega) hV'
      exact ⟨px', py', v, fun pX h => sx pX (hx pX h), fun pY x2 x3 x4 x5 x8 h => sy pY x2 x3 x4 x5 x8 (hy pY x2 x3 x4 x5 x8 h)⟩
    · have d1 : 9 < nI c := nI_lt (a := 9) (by omega) (by omega)
      have d2 : (10 : Int32) ≤ nI c := nI_le (a := 10) (by omega) (by omega)
      obtain ⟨px', py', v, hx, hy⟩ := ih (j + 1) px py (by omega) hV
      refine ⟨px', py', v, fun pX h => ?_, fun pY x2 x3 x4 x5 x8 h => ?_⟩
      · obtain ⟨n, hn⟩ := hx pX h
        refine ⟨n + 1, br_f nX ⟨ij, ?_⟩⟩
        rw [hj, ec]; exact br_t d1 (nm_r (nI_1 j) hn)
      · obtain ⟨n, hn⟩ := hy pY x2 x3 x4 x5 x8 h
        refine ⟨n + 1, br_f nY ⟨ij, ?_⟩⟩
        rw [hj, ec]; exact br_t d2 (nm_r (nI_1 j) hn)
end
