/-! the reference's parts: at, digit, digits, over -/
theorem tt_lo {t : Nat → Int32} (h : tt_C t) (i : Nat) : ¬ t i < 0 := by
  obtain ⟨c, hc, e⟩ := h i
  rw [e]; exact nI_pos (by omega)
theorem hh_sub2 (a : Nat) : (-2 : Int32) - nI a = -1 - nI (a + 1) := by
  rw [← nI_1]
  have : (-2 : Int32) = -1 - 1 := by decide
  rw [this]
  grind
section
variable {y_length y_parts y_bad y_nodes y_fault y_place y_bound y_depth y_nextName y_wantsName y_wantsTag y_printed y_waiting y_scaled : Int32} {y_sort y_typeA y_typeB y_typeC y_fieldName y_fieldType y_fields y_tags y_needed y_text y_begin y_end y_inside y_whole y_kind y_value y_parent y_name y_slotOf y_placeOf y_complete y_openNode y_openType y_openCount y_openNames y_openChoice y_output y_todo : Nat → Int32} {L p : Nat}
theorem ya_at {post : Int32 → Prop} (hL : L ≤ 96) (hp : p < 1000) (h : post (tt_at y_text L p)) : wpY_at post (nI L, y_parts, y_bad, y_nodes, y_fault, y_place, y_bound, y_depth, y_nextName, y_wantsName, y_wantsTag, y_printed, y_waiting, y_scaled, y_sort, y_typeA, y_typeB, y_typeC, y_fieldName, y_fieldType, y_fields, y_tags, y_needed, y_text, y_begin, y_end, y_inside, y_whole, y_kind, y_value, y_parent, y_name, y_slotOf, y_placeOf, y_complete, y_openNode, y_openType, y_openCount, y_openNames, y_openChoice, y_output, y_todo) (nI p) := by
  rcases Nat.lt_or_ge p L with z | z
  · rw [tt_in z] at h
    refine br_f (nI_ge z (by omega)) ⟨vp_in_nI (by omega) (by decide), ?_⟩
    rw [nI_clamp (by omega)]; exact h
  · rw [tt_out z] at h
    exact br_t (nI_le z (by omega)) h
theorem ya_in {post : Int32 → Prop} (hL : L ≤ 96) (hp : p < L) (h : post (y_text p)) : wpY_at post (nI L, y_parts, y_bad, y_nodes, y_fault, y_place, y_bound, y_depth, y_nextName, y_wantsName, y_wantsTag, y_printed, y_waiting, y_scaled, y_sort, y_typeA, y_typeB, y_typeC, y_fieldName, y_fieldType, y_fields, y_tags, y_needed, y_text, y_begin, y_end, y_inside, y_whole, y_kind, y_value, y_parent, y_name, y_slotOf, y_placeOf, y_complete, y_openNode, y_openType, y_openCount, y_openNames, y_openChoice, y_output, y_todo) (nI p) :=
  ya_at hL (by omega) (by rw [tt_in hp]; exact h)
theorem ya_out {post : Int32 → Prop} (hL : L ≤ 96) (hp : L ≤ p) (h1 : p < 1000) (h : post (-1)) : wpY_at post (nI L, y_parts, y_bad, y_nodes, y_fault, y_place, y_bound, y_depth, y_nextName, y_wantsName, y_wantsTag, y_printed, y_waiting, y_scaled, y_sort, y_typeA, y_typeB, y_typeC, y_fieldName, y_fieldType, y_fields, y_tags, y_needed, y_text, y_begin, y_end, y_inside, y_whole, y_kind, y_value, y_parent, y_name, y_slotOf, y_placeOf, y_complete, y_openNode, y_openType, y_openCount, y_openNames, y_openChoice, y_output, y_todo) (nI p) :=
  ya_at hL (by omega) (by rw [tt_out hp]; exact h)
theorem ya_d1 {post : Int32 → Prop} (hL : L ≤ 96) (hC : tt_C y_text) (hp : p < L) (hd : y_text p ≤ 9) (h : post 1) : wpY_digit post (nI L, y_parts, y_bad, y_nodes, y_fault, y_place, y_bound, y_depth, y_nextName, y_wantsName, y_wantsTag, y_printed, y_waiting, y_scaled, y_sort, y_typeA, y_typeB, y_typeC, y_fieldName, y_fieldType, y_fields, y_tags, y_needed, y_text, y_begin, y_end, y_inside, y_whole, y_kind, y_value, y_parent, y_name, y_slotOf, y_placeOf, y_complete, y_openNode, y_openType, y_openCount, y_openNames, y_openChoice, y_output, y_todo) (nI p) := by
  unfold wpY_digit
  dsimp only
  exact ya_in hL hp (br_f (tt_lo hC p) (br_f (Int32.not_lt.mpr hd) ⟨rfl, h⟩))
theorem ya_d0 {post : Int32 → Prop} (hL : L ≤ 96) (hC : tt_C y_text) (hp : p < 1000) (hd : ns_N y_text L p) (h : post 0) : wpY_digit post (nI L, y_parts, y_bad, y_nodes, y_fault, y_place, y_bound, y_depth, y_nextName, y_wantsName, y_wantsTag, y_printed, y_waiting, y_scaled, y_sort, y_typeA, y_typeB, y_typeC, y_fieldName, y_fieldType, y_fields, y_tags, y_needed, y_text, y_begin, y_end, y_inside, y_whole, y_kind, y_value, y_parent, y_name, y_slotOf, y_placeOf, y_complete, y_openNode, y_openType, y_openCount, y_openNames, y_openChoice, y_output, y_todo) (nI p) := by
  unfold wpY_digit
  dsimp only
  rcases Nat.lt_or_ge p L with z | z
  · have hd' : 9 < y_text p := hd.resolve_left (by omega)
    exact ya_in hL z (br_f (tt_lo hC p) (br_t hd' ⟨rfl, h⟩))
  · exact ya_out hL z hp (br_t (by decide) ⟨rfl, h⟩)
theorem ya_dec (t : Nat → Int32) (L p : Nat) : (p < L ∧ t p ≤ 9) ∨ ns_N t L p := by
  rcases Nat.lt_or_ge p L with z | z
  · by_cases w : t p ≤ 9
    · exact Or.inl ⟨z, w⟩
    · exact Or.inr (Or.inr (Int32.not_le.mp w))
  · exact Or.inr (Or.inl z)
theorem ya_ds (hL : L ≤ 96) (hC : tt_C y_text) : ∀ d i, L ≤ i + d → i ≤ L → ∃ j, ns_D y_text L i j ∧ ns_N y_text L j ∧ ∀ post : Int32 → Prop, post (nI j) → ∃ n, wY_digits_2 post (nI L) y_parts y_bad y_nodes y_fault y_place y_bound y_depth y_nextName y_wantsName y_wantsTag y_printed y_waiting y_scaled y_sort y_typeA y_typeB y_typeC y_fieldName y_fieldType y_fields y_tags y_needed y_text y_begin y_end y_inside y_whole y_kind y_value y_parent y_name y_slotOf y_placeOf y_complete y_openNode y_openType y_openCount y_openNames y_openChoice y_output y_todo n (nI i) := by
  intro d
  induction d with
  | zero =>
    intro i h1 h2
    exact ⟨i, ⟨Nat.le_refl _, h2, fun k a b => absurd b (by omega)⟩, Or.inl (by omega), fun post hp => ⟨0 + 1, by rw [wY_digits_2]; exact ya_d0 hL hC (by omega) (Or.inl (by omega)) (br_t rfl hp)⟩⟩
  | succ d ih =>
    intro i h1 h2
    rcases ya_dec y_text L i with ⟨a, b⟩ | a
    · obtain ⟨j, hj, hN, hw⟩ := ih (i + 1) (by omega) a
      refine ⟨j, ⟨by have := hj.1; omega, hj.2.1, fun k h3 h4 => ?_⟩, hN, fun post hp => ?_⟩
      · rcases Nat.lt_or_ge i k with w | w
        · exact hj.2.2 k w h4
        · have : k = i := by omega
          subst this; exact b
      · obtain ⟨n, hn⟩ := hw post hp
        exact ⟨n + 1, by rw [wY_digits_2]; exact ya_d1 hL hC a b (br_f (by decide) (nm_r (nI_1 i) hn))⟩
    · exact ⟨i, ⟨Nat.le_refl _, h2, fun k c e => absurd e (by omega)⟩, a, fun post hp => ⟨0 + 1, by rw [wY_digits_2]; exact ya_d0 hL hC (by omega) a (br_t rfl hp)⟩⟩
theorem yo_92 {post J : Int32 → Prop} {i w : Nat} (hL : L ≤ 96) (hi : i + w < 1000) (h1 : i + w < L → J (nI (i + w))) (h2 : L ≤ i + w → post (-1 - nI L)) : wY_over_92 post J (nI w) (nI i) (nI L) y_parts y_bad y_nodes y_fault y_place y_bound y_depth y_nextName y_wantsName y_wantsTag y_printed y_waiting y_scaled y_sort y_typeA y_typeB y_typeC y_fieldName y_fieldType y_fields y_tags y_needed y_text y_begin y_end y_inside y_whole y_kind y_value y_parent y_name y_slotOf y_placeOf y_complete y_openNode y_openType y_openCount y_openNames y_openChoice y_output y_todo := by
  refine nm_r (nI_add i w) ?_
  rcases Nat.lt_or_ge (i + w) L with z | z
  · exact br_t (nI_lt z (by omega)) (h1 z)
  · exact br_f (nI_nlt z (by omega)) (h2 z)
theorem yo_76 {post J : Int32 → Prop} {i : Nat} (hL : L ≤ 96) (hi : i < 1000) (h1 : tt_at y_text L i = 30 → wY_over_92 post J (nI 2) (nI i) (nI L) y_parts y_bad y_nodes y_fault y_place y_bound y_depth y_nextName y_wantsName y_wantsTag y_printed y_waiting y_scaled y_sort y_typeA y_typeB y_typeC y_fieldName y_fieldType y_fields y_tags y_needed y_text y_begin y_end y_inside y_whole y_kind y_value y_parent y_name y_slotOf y_placeOf y_complete y_openNode y_openType y_openCount y_openNames y_openChoice y_output y_todo) (h0 : ¬ tt_at y_text L i = 30 → wY_over_92 post J (nI 1) (nI i) (nI L) y_parts y_bad y_nodes y_fault y_place y_bound y_depth y_nextName y_wantsName y_wantsTag y_printed y_waiting y_scaled y_sort y_typeA y_typeB y_typeC y_fieldName y_fieldType y_fields y_tags y_needed y_text y_begin y_end y_inside y_whole y_kind y_value y_parent y_name y_slotOf y_placeOf y_complete y_openNode y_openType y_openCount y_openNames y_openChoice y_output y_todo) : wY_over_76 post J (nI i) (nI L) y_parts y_bad y_nodes y_fault y_place y_bound y_depth y_nextName y_wantsName y_wantsTag y_printed y_waiting y_scaled y_sort y_typeA y_typeB y_typeC y_fieldName y_fieldType y_fields y_tags y_needed y_text y_begin y_end y_inside y_whole y_kind y_value y_parent y_name y_slotOf y_placeOf y_complete y_openNode y_openType y_openCount y_openNames y_openChoice y_output y_todo := by
  unfold wY_over_76
  exact ya_at hL hi ⟨h1, h0⟩
theorem yo_17a {post : Int32 → Prop} {i n : Nat} (hL : L ≤ 96) (hi : i < L) (h16 : y_text i = 16) (h : post (nI (i + 1))) : wY_over_17 post (nI L) y_parts y_bad y_nodes y_fault y_place y_bound y_depth y_nextName y_wantsName y_wantsTag y_printed y_waiting y_scaled y_sort y_typeA y_typeB y_typeC y_fieldName y_fieldType y_fields y_tags y_needed y_text y_begin y_end y_inside y_whole y_kind y_value y_parent y_name y_slotOf y_placeOf y_complete y_openNode y_openType y_openCount y_openNames y_openChoice y_output y_todo (n + 1) (nI i) := by
  rw [wY_over_17]
  refine ya_in hL hi (br_t h16 ?_)
  rw [nI_1]; exact h
theorem yo_17b {post : Int32 → Prop} {i n : Nat} (hL : L ≤ 96) (hi : i < 1000) (h16 : ¬ tt_at y_text L i = 16) (h30 : ¬ tt_at y_text L i = 30) (h : wY_over_92 post (wY_over_17 post (nI L) y_parts y_bad y_nodes y_fault y_place y_bound y_depth y_nextName y_wantsName y_wantsTag y_printed y_waiting y_scaled y_sort y_typeA y_typeB y_typeC y_fieldName y_fieldType y_fields y_tags y_needed y_text y_begin y_end y_inside y_whole y_kind y_value y_parent y_name y_slotOf y_placeOf y_complete y_openNode y_openType y_openCount y_openNames y_openChoice y_output y_todo n) (nI 1) (nI i) (nI L) y_parts y_bad y_nodes y_fault y_place y_bound y_depth y_nextName y_wantsName y_wantsTag y_printed y_waiting y_scaled y_sort y_typeA y_typeB y_typeC y_fieldName y_fieldType y_fields y_tags y_needed y_text y_begin y_end y_inside y_whole y_kind y_value y_parent y_name y_slotOf y_placeOf y_complete y_openNode y_openType y_openCount y_openNames y_openChoice y_output y_todo) : wY_over_17 post (nI L) y_parts y_bad y_nodes y_fault y_place y_bound y_depth y_nextName y_wantsName y_wantsTag y_printed y_waiting y_scaled y_sort y_typeA y_typeB y_typeC y_fieldName y_fieldType y_fields y_tags y_needed y_text y_begin y_end y_inside y_whole y_kind y_value y_parent y_name y_slotOf y_placeOf y_complete y_openNode y_openType y_openCount y_openNames y_openChoice y_output y_todo (n + 1) (nI i) := by
  rw [wY_over_17]
  exact ya_at hL hi (br_f h16 (ya_at hL hi (br_f h30 (yo_76 hL hi (fun w => absurd w h30) (fun _ => h)))))
theorem yo_17c {post : Int32 → Prop} {i n : Nat} (hL : L ≤ 96) (hi : i < L) (h30 : y_text i = 30) (hg : L ≤ i + 1 ∨ y_text (i + 1) = 16 ∨ y_text (i + 1) = 30) (h : wY_over_92 post (wY_over_17 post (nI L) y_parts y_bad y_nodes y_fault y_place y_bound y_depth y_nextName y_wantsName y_wantsTag y_printed y_waiting y_scaled y_sort y_typeA y_typeB y_typeC y_fieldName y_fieldType y_fields y_tags y_needed y_text y_begin y_end y_inside y_whole y_kind y_value y_parent y_name y_slotOf y_placeOf y_complete y_openNode y_openType y_openCount y_openNames y_openChoice y_output y_todo n) (nI 2) (nI i) (nI L) y_parts y_bad y_nodes y_fault y_place y_bound y_depth y_nextName y_wantsName y_wantsTag y_printed y_waiting y_scaled y_sort y_typeA y_typeB y_typeC y_fieldName y_fieldType y_fields y_tags y_needed y_text y_begin y_end y_inside y_whole y_kind y_value y_parent y_name y_slotOf y_placeOf y_complete y_openNode y_openType y_openCount y_openNames y_openChoice y_output y_todo) : wY_over_17 post (nI L) y_parts y_bad y_nodes y_fault y_place y_bound y_depth y_nextName y_wantsName y_wantsTag y_printed y_waiting y_scaled y_sort y_typeA y_typeB y_typeC y_fieldName y_fieldType y_fields y_tags y_needed y_text y_begin y_end y_inside y_whole y_kind y_value y_parent y_name y_slotOf y_placeOf y_complete y_openNode y_openType y_openCount y_openNames y_openChoice y_output y_todo (n + 1) (nI i) := by
  have h16 : ¬ y_text i = 16 := by rw [h30]; decide
  have w : wY_over_76 post (wY_over_17 post (nI L) y_parts y_bad y_nodes y_fault y_place y_bound y_depth y_nextName y_wantsName y_wantsTag y_printed y_waiting y_scaled y_sort y_typeA y_typeB y_typeC y_fieldName y_fieldType y_fields y_tags y_needed y_text y_begin y_end y_inside y_whole y_kind y_value y_parent y_name y_slotOf y_placeOf y_complete y_openNode y_openType y_openCount y_openNames y_openChoice y_output y_todo n) (nI i) (nI L) y_parts y_bad y_nodes y_fault y_place y_bound y_depth y_nextName y_wantsName y_wantsTag y_printed y_waiting y_scaled y_sort y_typeA y_typeB y_typeC y_fieldName y_fieldType y_fields y_tags y_needed y_text y_begin y_end y_inside y_whole y_kind y_value y_parent y_name y_slotOf y_placeOf y_complete y_openNode y_openType y_openCount y_openNames y_openChoice y_output y_todo := yo_76 hL (by omega) (fun _ => h) (fun w => absurd (by rw [tt_in hi]; exact h30) w)
  rw [wY_over_17]
  refine ya_in hL hi (br_f h16 (ya_in hL hi (br_t h30 ?_)))
  rw [nI_1]
  rcases Nat.lt_or_ge (i + 1) L with z | z
  · refine br_f (nI_ge z (by omega)) (ya_in hL z ?_)
    by_cases d16 : y_text (i + 1) = 16
    · exact br_t d16 w
    · exact br_f d16 (ya_in hL z (br_t ((hg.resolve_left (by omega)).resolve_left d16) w))
  · exact br_t (nI_le z (by omega)) w
theorem yo_17d {post : Int32 → Prop} {i n : Nat} (hL : L ≤ 96) (hi : i + 1 < L) (h30 : y_text i = 30) (d16 : ¬ y_text (i + 1) = 16) (d30 : ¬ y_text (i + 1) = 30) (h : post (-1 - nI (i + 1))) : wY_over_17 post (nI L) y_parts y_bad y_nodes y_fault y_place y_bound y_depth y_nextName y_wantsName y_wantsTag y_printed y_waiting y_scaled y_sort y_typeA y_typeB y_typeC y_fieldName y_fieldType y_fields y_tags y_needed y_text y_begin y_end y_inside y_whole y_kind y_value y_parent y_name y_slotOf y_placeOf y_complete y_openNode y_openType y_openCount y_openNames y_openChoice y_output y_todo (n + 1) (nI i) := by
  have h16 : ¬ y_text i = 16 := by rw [h30]; decide
  rw [wY_over_17]
  refine ya_in hL (by omega) (br_f h16 (ya_in hL (by omega) (br_t h30 ?_)))
  rw [nI_1]
  refine br_f (nI_ge hi (by omega)) (ya_in hL hi (br_f d16 (ya_in hL hi (br_f d30 ?_))))
  rw [hh_sub2]; exact h
/-- a string: its end, or where it is cut off -/
theorem yo_str (hL : L ≤ 96) (hL1 : 1 ≤ L) : ∀ d i, L < i + d → i ≤ L → (∃ q, ss_W y_text L i q ∧ ∀ post : Int32 → Prop, post (nI (q + 1)) → ∃ n, wY_over_17 post (nI L) y_parts y_bad y_nodes y_fault y_place y_bound y_depth y_nextName y_wantsName y_wantsTag y_printed y_waiting y_scaled y_sort y_typeA y_typeB y_typeC y_fieldName y_fieldType y_fields y_tags y_needed y_text y_begin y_end y_inside y_whole y_kind y_value y_parent y_name y_slotOf y_placeOf y_complete y_openNode y_openType y_openCount y_openNames y_openChoice y_output y_todo n (nI i)) ∨ (∃ q e z, ss_X y_text L i q e z ∧ ∀ post : Int32 → Prop, post (-1 - nI z) → ∃ n, wY_over_17 post (nI L) y_parts y_bad y_nodes y_fault y_place y_bound y_depth y_nextName y_wantsName y_wantsTag y_printed y_waiting y_scaled y_sort y_typeA y_typeB y_typeC y_fieldName y_fieldType y_fields y_tags y_needed y_text y_begin y_end y_inside y_whole y_kind y_value y_parent y_name y_slotOf y_placeOf y_complete y_openNode y_openType y_openCount y_openNames y_openChoice y_output y_todo n (nI i)) := by
  intro d
  induction d with
  | zero => intro i h1 h2; omega
  | succ d ih =>
    intro i h1 h2
    rcases Nat.lt_or_ge i L with hi | hi
    case inr =>
      have hi : i = L := by omega
      subst hi
      refine Or.inr ⟨i, i - 1, i, ⟨⟨0, rfl⟩, Or.inl ⟨rfl, by omega, rfl⟩⟩, fun post hp => ⟨0 + 1, yo_17b hL (by omega) ?_ ?_ (yo_92 hL (by omega) (fun z => absurd z (by omega)) (fun _ => hp))⟩⟩
      · rw [tt_out (Nat.le_refl _)]; decide
      · rw [tt_out (Nat.le_refl _)]; decide
    by_cases c16 : y_text i = 16
    · exact Or.inl ⟨i, ⟨hi, c16, 0, rfl⟩, fun post hp => ⟨0 + 1, yo_17a hL hi c16 hp⟩⟩
    by_cases c30 : y_text i = 30
    · rcases Nat.lt_or_ge (i + 1) L with z | z
      case inr => exact Or.inr ⟨i, i, L, ⟨⟨0, rfl⟩, Or.inr (Or.inl ⟨by omega, c30, rfl, rfl⟩)⟩, fun post hp => ⟨0 + 1, yo_17c hL hi c30 (Or.inl z) (yo_92 hL (by omega) (fun z => absurd z (by omega)) (fun _ => hp))⟩⟩
      by_cases good : y_text (i + 1) = 16 ∨ y_text (i + 1) = 30
      · have G : ss_G y_text L i (i + 2) := Or.inr ⟨z, c30, good, rfl⟩
        rcases Nat.lt_or_ge (i + 2) L with z2 | z2
        · rcases ih (i + 2) (by omega) (by omega) with ⟨q, ⟨a, b, m, hm⟩, hw⟩ | ⟨q, e, y, ⟨⟨m, hm⟩, hx⟩, hw⟩
          · refine Or.inl ⟨q, ⟨a, b, m + 1, _, G, hm⟩, fun post hp => ?_⟩
            obtain ⟨n, hn⟩ := hw post hp
            exact ⟨n + 1, yo_17c hL hi c30 (Or.inr good) (yo_92 hL (by omega) (fun _ => hn) (fun z => absurd z (by omega)))⟩
          · refine Or.inr ⟨q, e, y, ⟨⟨m + 1, _, G, hm⟩, hx⟩, fun post hp => ?_⟩
            obtain ⟨n, hn⟩ := hw post hp
            exact ⟨n + 1, yo_17c hL hi c30 (Or.inr good) (yo_92 hL (by omega) (fun _ => hn) (fun z => absurd z (by omega)))⟩
        · exact Or.inr ⟨i + 2, i + 1, L, ⟨⟨1, _, G, rfl⟩, Or.inl ⟨by omega, by omega, rfl⟩⟩, fun post hp => ⟨0 + 1, yo_17c hL hi c30 (Or.inr good) (yo_92 hL (by omega) (fun z => absurd z (by omega)) (fun _ => hp))⟩⟩
      · have d16 : ¬ y_text (i + 1) = 16 := fun h => good (Or.inl h)
        have d30 : ¬ y_text (i + 1) = 30 := fun h => good (Or.inr h)
        exact Or.inr ⟨i, i, i + 1, ⟨⟨0, rfl⟩, Or.inr (Or.inr ⟨z, c30, d16, d30, rfl, rfl⟩)⟩, fun post hp => ⟨0 + 1, yo_17d hL z c30 d16 d30 hp⟩⟩
    · have G : ss_G y_text L i (i + 1) := Or.inl ⟨hi, c16, c30, rfl⟩
      have t16 : ¬ tt_at y_text L i = 16 := by rw [tt_in hi]; exact c16
      have t30 : ¬ tt_at y_text L i = 30 := by rw [tt_in hi]; exact c30
      rcases Nat.lt_or_ge (i + 1) L with z2 | z2
      · rcases ih (i + 1) (by omega) (by omega) with ⟨q, ⟨a, b, m, hm⟩, hw⟩ | ⟨q, e, y, ⟨⟨m, hm⟩, hx⟩, hw⟩
        · refine Or.inl ⟨q, ⟨a, b, m + 1, _, G, hm⟩, fun post hp => ?_⟩
          obtain ⟨n, hn⟩ := hw post hp
          exact ⟨n + 1, yo_17b hL (by omega) t16 t30 (yo_92 hL (by omega) (fun _ => hn) (fun z => absurd z (by omega)))⟩
        · refine Or.inr ⟨q, e, y, ⟨⟨m + 1, _, G, hm⟩, hx⟩, fun post hp => ?_⟩
          obtain ⟨n, hn⟩ := hw post hp
          exact ⟨n + 1, yo_17b hL (by omega) t16 t30 (yo_92 hL (by omega) (fun _ => hn) (fun z => absurd z (by omega)))⟩
      · exact Or.inr ⟨i + 1, i, L, ⟨⟨1, _, G, rfl⟩, Or.inl ⟨by omega, by omega, rfl⟩⟩, fun post hp => ⟨0 + 1, yo_17b hL (by omega) t16 t30 (yo_92 hL (by omega) (fun z => absurd z (by omega)) (fun _ => hp))⟩⟩
end
