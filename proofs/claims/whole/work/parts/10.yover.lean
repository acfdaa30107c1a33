/-! the reference's over: numbers, and all -/
theorem ns_E_le {t : Nat → Int32} {L e s q : Nat} (h : ns_E t L e s q) (he : e ≤ L) : e ≤ q ∧ q ≤ L := by
  rcases h with ⟨-, rfl⟩ | ⟨a, -, b, c, d, -⟩
  · exact ⟨Nat.le_refl _, he⟩
  · have := d.2.1
    rcases b with ⟨b, -⟩ | ⟨b, -⟩ <;> exact ⟨by omega, this⟩
theorem ns_F_le {t : Nat → Int32} {L a e : Nat} (h : ns_F t L a e) (ha : a ≤ L) : a ≤ e ∧ e ≤ L := by
  rcases h with ⟨-, rfl⟩ | ⟨-, -, b, d, -⟩
  · exact ⟨Nat.le_refl _, ha⟩
  · exact ⟨by omega, d.2.1⟩
theorem ns_I_le {t : Nat → Int32} {L b i a : Nat} (h : ns_I t L b i a) : b ≤ i ∧ i < a ∧ a ≤ L := by
  obtain ⟨h1, h2, -, h3⟩ := h
  have hb : b ≤ i := by rcases h1 with ⟨-, h1⟩ | ⟨-, h1⟩ <;> omega
  rcases h3 with ⟨-, h3⟩ | ⟨-, h3, h4, -⟩
  · exact ⟨hb, by omega, by omega⟩
  · exact ⟨hb, h3, h4.2.1⟩
theorem ns_W_le {t : Nat → Int32} {L b q : Nat} (h : ns_W t L b q) : b < q ∧ q ≤ L := by
  obtain ⟨i, a, e, s, h1, h2, h3⟩ := h
  have x1 := ns_I_le h1
  have x2 := ns_F_le h2 x1.2.2
  have x3 := ns_E_le h3 x2.2
  omega
theorem ns_X_le {t : Nat → Int32} {L b z : Nat} (hb : b < L) (h : ns_X t L b z) : b < z ∧ z ≤ L := by
  rcases h with ⟨-, h, -⟩ | ⟨i, a, h1, h2, -, h3, -⟩ | ⟨i, a, e, h1, h2, h3, -, h4, -⟩
  · omega
  · have := ns_I_le h1; omega
  · have x1 := ns_I_le h1
    have x2 := ns_F_le h2 x1.2.2
    rcases h4 with ⟨h4, -⟩ | ⟨h4, h5, -⟩ <;> omega
section
variable {y_length y_parts y_bad y_nodes y_fault y_place y_bound y_depth y_nextName y_wantsName y_wantsTag y_printed y_waiting y_scaled : Int32} {y_sort y_typeA y_typeB y_typeC y_fieldName y_fieldType y_fields y_tags y_needed y_text y_begin y_end y_inside y_whole y_kind y_value y_parent y_name y_slotOf y_placeOf y_complete y_openNode y_openType y_openCount y_openNames y_openChoice y_output y_todo : Nat → Int32} {L : Nat}
theorem yo_243 (hL : L ≤ 96) (hC : tt_C y_text) {s : Nat} (hs : s ≤ L) : (∃ q, s < q ∧ ns_D y_text L s q ∧ ns_N y_text L q ∧ ∀ post : Int32 → Prop, post (nI q) → wY_over_243 post (nI s) (nI L) y_parts y_bad y_nodes y_fault y_place y_bound y_depth y_nextName y_wantsName y_wantsTag y_printed y_waiting y_scaled y_sort y_typeA y_typeB y_typeC y_fieldName y_fieldType y_fields y_tags y_needed y_text y_begin y_end y_inside y_whole y_kind y_value y_parent y_name y_slotOf y_placeOf y_complete y_openNode y_openType y_openCount y_openNames y_openChoice y_output y_todo) ∨ (ns_N y_text L s ∧ ∀ post : Int32 → Prop, post (-1 - nI s) → wY_over_243 post (nI s) (nI L) y_parts y_bad y_nodes y_fault y_place y_bound y_depth y_nextName y_wantsName y_wantsTag y_printed y_waiting y_scaled y_sort y_typeA y_typeB y_typeC y_fieldName y_fieldType y_fields y_tags y_needed y_text y_begin y_end y_inside y_whole y_kind y_value y_parent y_name y_slotOf y_placeOf y_complete y_openNode y_openType y_openCount y_openNames y_openChoice y_output y_todo) := by
  rcases ya_dec y_text L s with ⟨a, b⟩ | a
  · obtain ⟨q, h1, h2, h3⟩ := ya_ds (y_parts := y_parts) (y_bad := y_bad) (y_nodes := y_nodes) (y_fault := y_fault) (y_place := y_place) (y_bound := y_bound) (y_depth := y_depth) (y_nextName := y_nextName) (y_wantsName := y_wantsName) (y_wantsTag := y_wantsTag) (y_printed := y_printed) (y_waiting := y_waiting) (y_scaled := y_scaled) (y_sort := y_sort) (y_typeA := y_typeA) (y_typeB := y_typeB) (y_typeC := y_typeC) (y_fieldName := y_fieldName) (y_fieldType := y_fieldType) (y_fields := y_fields) (y_tags := y_tags) (y_needed := y_needed) (y_text := y_text) (y_begin := y_begin) (y_end := y_end) (y_inside := y_inside) (y_whole := y_whole) (y_kind := y_kind) (y_value := y_value) (y_parent := y_parent) (y_name := y_name) (y_slotOf := y_slotOf) (y_placeOf := y_placeOf) (y_complete := y_complete) (y_openNode := y_openNode) (y_openType := y_openType) (y_openCount := y_openCount) (y_openNames := y_openNames) (y_openChoice := y_openChoice) (y_output := y_output) (y_todo := y_todo) hL hC (L - s) s (by omega) hs
    have hq : s < q := by
      rcases Nat.lt_or_ge s q with w | w
      · exact w
      · have : q = s := by have := h1.1; omega
        subst this
        rcases h2 with h2 | h2
        · omega
        · exact absurd h2 (Int32.not_lt.mpr b)
    exact Or.inl ⟨q, hq, h1, h2, fun post hp => by unfold wY_over_243; exact ya_d1 hL hC a b (br_f (by decide) (h3 _ hp))⟩
  · exact Or.inr ⟨a, fun post hp => by unfold wY_over_243; exact ya_d0 hL hC (by omega) a (br_t rfl hp)⟩
theorem yo_207 (hL : L ≤ 96) (hC : tt_C y_text) {e : Nat} (he : e ≤ L) : (∃ s q, ns_E y_text L e s q ∧ ∀ post : Int32 → Prop, post (nI q) → wY_over_207 post (nI e) (nI L) y_parts y_bad y_nodes y_fault y_place y_bound y_depth y_nextName y_wantsName y_wantsTag y_printed y_waiting y_scaled y_sort y_typeA y_typeB y_typeC y_fieldName y_fieldType y_fields y_tags y_needed y_text y_begin y_end y_inside y_whole y_kind y_value y_parent y_name y_slotOf y_placeOf y_complete y_openNode y_openType y_openCount y_openNames y_openChoice y_output y_todo) ∨ (∃ s, e < L ∧ y_text e = 19 ∧ ns_S y_text L e s ∧ ns_N y_text L s ∧ ∀ post : Int32 → Prop, post (-1 - nI s) → wY_over_207 post (nI e) (nI L) y_parts y_bad y_nodes y_fault y_place y_bound y_depth y_nextName y_wantsName y_wantsTag y_printed y_waiting y_scaled y_sort y_typeA y_typeB y_typeC y_fieldName y_fieldType y_fields y_tags y_needed y_text y_begin y_end y_inside y_whole y_kind y_value y_parent y_name y_slotOf y_placeOf y_complete y_openNode y_openType y_openCount y_openNames y_openChoice y_output y_todo) := by
  by_cases h : e < L ∧ y_text e = 19
  case neg =>
    refine Or.inl ⟨0, e, Or.inl ⟨h, rfl⟩, fun post hp => ?_⟩
    unfold wY_over_207
    rcases Nat.lt_or_ge e L with z | z
    · exact ya_in hL z (br_f (fun w => h ⟨z, w⟩) hp)
    · exact ya_out hL z (by omega) (br_f (by decide) hp)
  obtain ⟨h1, h2⟩ := h
  by_cases sg : e + 1 < L ∧ (y_text (e + 1) = 17 ∨ y_text (e + 1) = 31)
  · obtain ⟨g1, g2⟩ := sg
    have walk : ∀ post : Int32 → Prop, wY_over_243 post (nI (e + 2)) (nI L) y_parts y_bad y_nodes y_fault y_place y_bound y_depth y_nextName y_wantsName y_wantsTag y_printed y_waiting y_scaled y_sort y_typeA y_typeB y_typeC y_fieldName y_fieldType y_fields y_tags y_needed y_text y_begin y_end y_inside y_whole y_kind y_value y_parent y_name y_slotOf y_placeOf y_complete y_openNode y_openType y_openCount y_openNames y_openChoice y_output y_todo → wY_over_207 post (nI e) (nI L) y_parts y_bad y_nodes y_fault y_place y_bound y_depth y_nextName y_wantsName y_wantsTag y_printed y_waiting y_scaled y_sort y_typeA y_typeB y_typeC y_fieldName y_fieldType y_fields y_tags y_needed y_text y_begin y_end y_inside y_whole y_kind y_value y_parent y_name y_slotOf y_placeOf y_complete y_openNode y_openType y_openCount y_openNames y_openChoice y_output y_todo := by
      intro post w
      unfold wY_over_207
      refine ya_in hL h1 (br_t h2 (nm_r (nI_1 e) ?_))
      refine ya_in hL g1 ?_
      by_cases c17 : y_text (e + 1) = 17
      · exact br_t c17 (nm_r (nI_1 (e + 1)) w)
      · exact br_f c17 (ya_in hL g1 (br_t (g2.resolve_left c17) (nm_r (nI_1 (e + 1)) w)))
    rcases yo_243 (y_parts := y_parts) (y_bad := y_bad) (y_nodes := y_nodes) (y_fault := y_fault) (y_place := y_place) (y_bound := y_bound) (y_depth := y_depth) (y_nextName := y_nextName) (y_wantsName := y_wantsName) (y_wantsTag := y_wantsTag) (y_printed := y_printed) (y_waiting := y_waiting) (y_scaled := y_scaled) (y_sort := y_sort) (y_typeA := y_typeA) (y_typeB := y_typeB) (y_typeC := y_typeC) (y_fieldName := y_fieldName) (y_fieldType := y_fieldType) (y_fields := y_fields) (y_tags := y_tags) (y_needed := y_needed) (y_text := y_text) (y_begin := y_begin) (y_end := y_end) (y_inside := y_inside) (y_whole := y_whole) (y_kind := y_kind) (y_value := y_value) (y_parent := y_parent) (y_name := y_name) (y_slotOf := y_slotOf) (y_placeOf := y_placeOf) (y_complete := y_complete) (y_openNode := y_openNode) (y_openType := y_openType) (y_openCount := y_openCount) (y_openNames := y_openNames) (y_openChoice := y_openChoice) (y_output := y_output) (y_todo := y_todo) hL hC (s := e + 2) (by omega) with ⟨q, a, b, c, d⟩ | ⟨a, d⟩
    · exact Or.inl ⟨e + 2, q, Or.inr ⟨h1, h2, Or.inr ⟨rfl, g1, g2⟩, a, b, c⟩, fun post hp => walk post (d post hp)⟩
    · exact Or.inr ⟨e + 2, h1, h2, Or.inr ⟨rfl, g1, g2⟩, a, fun post hp => walk post (d post hp)⟩
  · have walk : ∀ post : Int32 → Prop, wY_over_243 post (nI (e + 1)) (nI L) y_parts y_bad y_nodes y_fault y_place y_bound y_depth y_nextName y_wantsName y_wantsTag y_printed y_waiting y_scaled y_sort y_typeA y_typeB y_typeC y_fieldName y_fieldType y_fields y_tags y_needed y_text y_begin y_end y_inside y_whole y_kind y_value y_parent y_name y_slotOf y_placeOf y_complete y_openNode y_openType y_openCount y_openNames y_openChoice y_output y_todo → wY_over_207 post (nI e) (nI L) y_parts y_bad y_nodes y_fault y_place y_bound y_depth y_nextName y_wantsName y_wantsTag y_printed y_waiting y_scaled y_sort y_typeA y_typeB y_typeC y_fieldName y_fieldType y_fields y_tags y_needed y_text y_begin y_end y_inside y_whole y_kind y_value y_parent y_name y_slotOf y_placeOf y_complete y_openNode y_openType y_openCount y_openNames y_openChoice y_output y_todo := by
      intro post w
      unfold wY_over_207
      refine ya_in hL h1 (br_t h2 (nm_r (nI_1 e) ?_))
      rcases Nat.lt_or_ge (e + 1) L with z | z
      · exact ya_in hL z (br_f (fun w => sg ⟨z, Or.inl w⟩) (ya_in hL z (br_f (fun w => sg ⟨z, Or.inr w⟩) w)))
      · exact ya_out hL z (by omega) (br_f (by decide) (ya_out hL z (by omega) (br_f (by decide) w)))
    rcases yo_243 (y_parts := y_parts) (y_bad := y_bad) (y_nodes := y_nodes) (y_fault := y_fault) (y_place := y_place) (y_bound := y_bound) (y_depth := y_depth) (y_nextName := y_nextName) (y_wantsName := y_wantsName) (y_wantsTag := y_wantsTag) (y_printed := y_printed) (y_waiting := y_waiting) (y_scaled := y_scaled) (y_sort := y_sort) (y_typeA := y_typeA) (y_typeB := y_typeB) (y_typeC := y_typeC) (y_fieldName := y_fieldName) (y_fieldType := y_fieldType) (y_fields := y_fields) (y_tags := y_tags) (y_needed := y_needed) (y_text := y_text) (y_begin := y_begin) (y_end := y_end) (y_inside := y_inside) (y_whole := y_whole) (y_kind := y_kind) (y_value := y_value) (y_parent := y_parent) (y_name := y_name) (y_slotOf := y_slotOf) (y_placeOf := y_placeOf) (y_complete := y_complete) (y_openNode := y_openNode) (y_openType := y_openType) (y_openCount := y_openCount) (y_openNames := y_openNames) (y_openChoice := y_openChoice) (y_output := y_output) (y_todo := y_todo) hL hC (s := e + 1) (by omega) with ⟨q, a, b, c, d⟩ | ⟨a, d⟩
    · exact Or.inl ⟨e + 1, q, Or.inr ⟨h1, h2, Or.inl ⟨rfl, sg⟩, a, b, c⟩, fun post hp => walk post (d post hp)⟩
    · exact Or.inr ⟨e + 1, h1, h2, Or.inl ⟨rfl, sg⟩, a, fun post hp => walk post (d post hp)⟩
theorem yo_173 (hL : L ≤ 96) (hC : tt_C y_text) {a : Nat} (ha : a ≤ L) : (∃ e s q, ns_F y_text L a e ∧ ns_E y_text L e s q ∧ ∀ post : Int32 → Prop, post (nI q) → wY_over_173 post (nI a) (nI L) y_parts y_bad y_nodes y_fault y_place y_bound y_depth y_nextName y_wantsName y_wantsTag y_printed y_waiting y_scaled y_sort y_typeA y_typeB y_typeC y_fieldName y_fieldType y_fields y_tags y_needed y_text y_begin y_end y_inside y_whole y_kind y_value y_parent y_name y_slotOf y_placeOf y_complete y_openNode y_openType y_openCount y_openNames y_openChoice y_output y_todo) ∨ (∃ z, ((a < L ∧ y_text a = 18 ∧ z = a + 1 ∧ ns_N y_text L z) ∨ ∃ e, ns_F y_text L a e ∧ e < L ∧ y_text e = 19 ∧ ns_S y_text L e z ∧ ns_N y_text L z) ∧ ∀ post : Int32 → Prop, post (-1 - nI z) → wY_over_173 post (nI a) (nI L) y_parts y_bad y_nodes y_fault y_place y_bound y_depth y_nextName y_wantsName y_wantsTag y_printed y_waiting y_scaled y_sort y_typeA y_typeB y_typeC y_fieldName y_fieldType y_fields y_tags y_needed y_text y_begin y_end y_inside y_whole y_kind y_value y_parent y_name y_slotOf y_placeOf y_complete y_openNode y_openType y_openCount y_openNames y_openChoice y_output y_todo) := by
  by_cases h : a < L ∧ y_text a = 18
  · obtain ⟨h1, h2⟩ := h
    rcases ya_dec y_text L (a + 1) with ⟨b1, b2⟩ | b
    · obtain ⟨e, d1, d2, d3⟩ := ya_ds (y_parts := y_parts) (y_bad := y_bad) (y_nodes := y_nodes) (y_fault := y_fault) (y_place := y_place) (y_bound := y_bound) (y_depth := y_depth) (y_nextName := y_nextName) (y_wantsName := y_wantsName) (y_wantsTag := y_wantsTag) (y_printed := y_printed) (y_waiting := y_waiting) (y_scaled := y_scaled) (y_sort := y_sort) (y_typeA := y_typeA) (y_typeB := y_typeB) (y_typeC := y_typeC) (y_fieldName := y_fieldName) (y_fieldType := y_fieldType) (y_fields := y_fields) (y_tags := y_tags) (y_needed := y_needed) (y_text := y_text) (y_begin := y_begin) (y_end := y_end) (y_inside := y_inside) (y_whole := y_whole) (y_kind := y_kind) (y_value := y_value) (y_parent := y_parent) (y_name := y_name) (y_slotOf := y_slotOf) (y_placeOf := y_placeOf) (y_complete := y_complete) (y_openNode := y_openNode) (y_openType := y_openType) (y_openCount := y_openCount) (y_openNames := y_openNames) (y_openChoice := y_openChoice) (y_output := y_output) (y_todo := y_todo) hL hC (L - (a + 1)) (a + 1) (by omega) (by omega)
      have he : a + 1 < e := by
        rcases Nat.lt_or_ge (a + 1) e with w | w
        · exact w
        · have : e = a + 1 := by have := d1.1; omega
          subst this
          rcases d2 with d2 | d2
          · omega
          · exact absurd d2 (Int32.not_lt.mpr b2)
      have F : ns_F y_text L a e := Or.inr ⟨h1, h2, he, d1, d2⟩
      have walk : ∀ post : Int32 → Prop, wY_over_207 post (nI e) (nI L) y_parts y_bad y_nodes y_fault y_place y_bound y_depth y_nextName y_wantsName y_wantsTag y_printed y_waiting y_scaled y_sort y_typeA y_typeB y_typeC y_fieldName y_fieldType y_fields y_tags y_needed y_text y_begin y_end y_inside y_whole y_kind y_value y_parent y_name y_slotOf y_placeOf y_complete y_openNode y_openType y_openCount y_openNames y_openChoice y_output y_todo → wY_over_173 post (nI a) (nI L) y_parts y_bad y_nodes y_fault y_place y_bound y_depth y_nextName y_wantsName y_wantsTag y_printed y_waiting y_scaled y_sort y_typeA y_typeB y_typeC y_fieldName y_fieldType y_fields y_tags y_needed y_text y_begin y_end y_inside y_whole y_kind y_value y_parent y_name y_slotOf y_placeOf y_complete y_openNode y_openType y_openCount y_openNames y_openChoice y_output y_todo := by
        intro post w
        unfold wY_over_173
        refine ya_in hL h1 (br_t h2 ?_)
        rw [nI_1]
        exact ya_d1 hL hC b1 b2 (br_f (by decide) (d3 _ w))
      rcases yo_207 (y_parts := y_parts) (y_bad := y_bad) (y_nodes := y_nodes) (y_fault := y_fault) (y_place := y_place) (y_bound := y_bound) (y_depth := y_depth) (y_nextName := y_nextName) (y_wantsName := y_wantsName) (y_wantsTag := y_wantsTag) (y_printed := y_printed) (y_waiting := y_waiting) (y_scaled := y_scaled) (y_sort := y_sort) (y_typeA := y_typeA) (y_typeB := y_typeB) (y_typeC := y_typeC) (y_fieldName := y_fieldName) (y_fieldType := y_fieldType) (y_fields := y_fields) (y_tags := y_tags) (y_needed := y_needed) (y_text := y_text) (y_begin := y_begin) (y_end := y_end) (y_inside := y_inside) (y_whole := y_whole) (y_kind := y_kind) (y_value := y_value) (y_parent := y_parent) (y_name := y_name) (y_slotOf := y_slotOf) (y_placeOf := y_placeOf) (y_complete := y_complete) (y_openNode := y_openNode) (y_openType := y_openType) (y_openCount := y_openCount) (y_openNames := y_openNames) (y_openChoice := y_openChoice) (y_output := y_output) (y_todo := y_todo) hL hC (e := e) d1.2.1 with ⟨s, q, x, y⟩ | ⟨s, x1, x2, x3, x4, y⟩
      · exact Or.inl ⟨e, s, q, F, x, fun post hp => walk post (y post hp)⟩
      · exact Or.inr ⟨s, Or.inr ⟨e, F, x1, x2, x3, x4⟩, fun post hp => walk post (y post hp)⟩
    · refine Or.inr ⟨a + 1, Or.inl ⟨h1, h2, rfl, b⟩, fun post hp => ?_⟩
      unfold wY_over_173
      refine ya_in hL h1 (br_t h2 ?_)
      rw [nI_1, hh_sub2]
      exact ya_d0 hL hC (by omega) b (br_t rfl hp)
  · have F : ns_F y_text L a a := Or.inl ⟨h, rfl⟩
    have walk : ∀ post : Int32 → Prop, wY_over_207 post (nI a) (nI L) y_parts y_bad y_nodes y_fault y_place y_bound y_depth y_nextName y_wantsName y_wantsTag y_printed y_waiting y_scaled y_sort y_typeA y_typeB y_typeC y_fieldName y_fieldType y_fields y_tags y_needed y_text y_begin y_end y_inside y_whole y_kind y_value y_parent y_name y_slotOf y_placeOf y_complete y_openNode y_openType y_openCount y_openNames y_openChoice y_output y_todo → wY_over_173 post (nI a) (nI L) y_parts y_bad y_nodes y_fault y_place y_bound y_depth y_nextName y_wantsName y_wantsTag y_printed y_waiting y_scaled y_sort y_typeA y_typeB y_typeC y_fieldName y_fieldType y_fields y_tags y_needed y_text y_begin y_end y_inside y_whole y_kind y_value y_parent y_name y_slotOf y_placeOf y_complete y_openNode y_openType y_openCount y_openNames y_openChoice y_output y_todo := by
      intro post w
      unfold wY_over_173
      rcases Nat.lt_or_ge a L with z | z
      · exact ya_in hL z (br_f (fun q => h ⟨z, q⟩) w)
      · exact ya_out hL z (by omega) (br_f (by decide) w)
    rcases yo_207 (y_parts := y_parts) (y_bad := y_bad) (y_nodes := y_nodes) (y_fault := y_fault) (y_place := y_place) (y_bound := y_bound) (y_depth := y_depth) (y_nextName := y_nextName) (y_wantsName := y_wantsName) (y_wantsTag := y_wantsTag) (y_printed := y_printed) (y_waiting := y_waiting) (y_scaled := y_scaled) (y_sort := y_sort) (y_typeA := y_typeA) (y_typeB := y_typeB) (y_typeC := y_typeC) (y_fieldName := y_fieldName) (y_fieldType := y_fieldType) (y_fields := y_fields) (y_tags := y_tags) (y_needed := y_needed) (y_text := y_text) (y_begin := y_begin) (y_end := y_end) (y_inside := y_inside) (y_whole := y_whole) (y_kind := y_kind) (y_value := y_value) (y_parent := y_parent) (y_name := y_name) (y_slotOf := y_slotOf) (y_placeOf := y_placeOf) (y_complete := y_complete) (y_openNode := y_openNode) (y_openType := y_openType) (y_openCount := y_openCount) (y_openNames := y_openNames) (y_openChoice := y_openChoice) (y_output := y_output) (y_todo := y_todo) hL hC (e := a) ha with ⟨s, q, x, y⟩ | ⟨s, x1, x2, x3, x4, y⟩
    · exact Or.inl ⟨a, s, q, F, x, fun post hp => walk post (y post hp)⟩
    · exact Or.inr ⟨s, Or.inr ⟨a, F, x1, x2, x3, x4⟩, fun post hp => walk post (y post hp)⟩
theorem yo_142 (hL : L ≤ 96) (hC : tt_C y_text) {i : Nat} (hi : i < L) (hd : y_text i ≤ 9) : ∃ a, (y_text i = 0 ∧ a = i + 1 ∨ y_text i ≠ 0 ∧ i < a ∧ ns_D y_text L i a ∧ ns_N y_text L a) ∧ a ≤ L ∧ ∀ post : Int32 → Prop, wY_over_173 post (nI a) (nI L) y_parts y_bad y_nodes y_fault y_place y_bound y_depth y_nextName y_wantsName y_wantsTag y_printed y_waiting y_scaled y_sort y_typeA y_typeB y_typeC y_fieldName y_fieldType y_fields y_tags y_needed y_text y_begin y_end y_inside y_whole y_kind y_value y_parent y_name y_slotOf y_placeOf y_complete y_openNode y_openType y_openCount y_openNames y_openChoice y_output y_todo → wY_over_142 post (nI i) (nI L) y_parts y_bad y_nodes y_fault y_place y_bound y_depth y_nextName y_wantsName y_wantsTag y_printed y_waiting y_scaled y_sort y_typeA y_typeB y_typeC y_fieldName y_fieldType y_fields y_tags y_needed y_text y_begin y_end y_inside y_whole y_kind y_value y_parent y_name y_slotOf y_placeOf y_complete y_openNode y_openType y_openCount y_openNames y_openChoice y_output y_todo := by
  by_cases z : y_text i = 0
  · refine ⟨i + 1, Or.inl ⟨z, rfl⟩, by omega, fun post w => ?_⟩
    unfold wY_over_142
    refine ya_d1 hL hC hi hd (br_f (by decide) (ya_in hL hi (br_t z ?_)))
    rw [nI_1]; exact w
  · obtain ⟨a, h1, h2, h3⟩ := ya_ds (y_parts := y_parts) (y_bad := y_bad) (y_nodes := y_nodes) (y_fault := y_fault) (y_place := y_place) (y_bound := y_bound) (y_depth := y_depth) (y_nextName := y_nextName) (y_wantsName := y_wantsName) (y_wantsTag := y_wantsTag) (y_printed := y_printed) (y_waiting := y_waiting) (y_scaled := y_scaled) (y_sort := y_sort) (y_typeA := y_typeA) (y_typeB := y_typeB) (y_typeC := y_typeC) (y_fieldName := y_fieldName) (y_fieldType := y_fieldType) (y_fields := y_fields) (y_tags := y_tags) (y_needed := y_needed) (y_text := y_text) (y_begin := y_begin) (y_end := y_end) (y_inside := y_inside) (y_whole := y_whole) (y_kind := y_kind) (y_value := y_value) (y_parent := y_parent) (y_name := y_name) (y_slotOf := y_slotOf) (y_placeOf := y_placeOf) (y_complete := y_complete) (y_openNode := y_openNode) (y_openType := y_openType) (y_openCount := y_openCount) (y_openNames := y_openNames) (y_openChoice := y_openChoice) (y_output := y_output) (y_todo := y_todo) hL hC (L - i) i (by omega) (by omega)
    have ha : i < a := by
      rcases Nat.lt_or_ge i a with w | w
      · exact w
      · have : a = i := by have := h1.1; omega
        subst this
        rcases h2 with h2 | h2
        · omega
        · exact absurd h2 (Int32.not_lt.mpr hd)
    exact ⟨a, Or.inr ⟨z, ha, h1, h2⟩, h1.2.1, fun post w => by unfold wY_over_142; exact ya_d1 hL hC hi hd (br_f (by decide) (ya_in hL hi (br_f z (h3 _ w))))⟩
/-- a number: its end, or where it is cut off -/
theorem yo_num (hL : L ≤ 96) (hC : tt_C y_text) {b : Nat} (hb : b < L) (hB : sp_B (y_text b)) : (∃ q, ns_W y_text L b q ∧ ∀ post : Int32 → Prop, post (nI q) → wpY_over post (nI L, y_parts, y_bad, y_nodes, y_fault, y_place, y_bound, y_depth, y_nextName, y_wantsName, y_wantsTag, y_printed, y_waiting, y_scaled, y_sort, y_typeA, y_typeB, y_typeC, y_fieldName, y_fieldType, y_fields, y_tags, y_needed, y_text, y_begin, y_end, y_inside, y_whole, y_kind, y_value, y_parent, y_name, y_slotOf, y_placeOf, y_complete, y_openNode, y_openType, y_openCount, y_openNames, y_openChoice, y_output, y_todo) (nI b)) ∨ (∃ z, ns_X y_text L b z ∧ ∀ post : Int32 → Prop, post (-1 - nI z) → wpY_over post (nI L, y_parts, y_bad, y_nodes, y_fault, y_place, y_bound, y_depth, y_nextName, y_wantsName, y_wantsTag, y_printed, y_waiting, y_scaled, y_sort, y_typeA, y_typeB, y_typeC, y_fieldName, y_fieldType, y_fields, y_tags, y_needed, y_text, y_begin, y_end, y_inside, y_whole, y_kind, y_value, y_parent, y_name, y_slotOf, y_placeOf, y_complete, y_openNode, y_openType, y_openCount, y_openNames, y_openChoice, y_output, y_todo) (nI b)) := by
  have n16 : ¬ y_text b = 16 := by
    intro e
    rw [e] at hB
    rcases hB with h | h
    · exact absurd h.2 (by decide)
    · exact absurd h (by decide)
  have walk : ∀ post : Int32 → Prop, wY_over_133 post (y_text b) (nI b) (nI L) y_parts y_bad y_nodes y_fault y_place y_bound y_depth y_nextName y_wantsName y_wantsTag y_printed y_waiting y_scaled y_sort y_typeA y_typeB y_typeC y_fieldName y_fieldType y_fields y_tags y_needed y_text y_begin y_end y_inside y_whole y_kind y_value y_parent y_name y_slotOf y_placeOf y_complete y_openNode y_openType y_openCount y_openNames y_openChoice y_output y_todo → wpY_over post (nI L, y_parts, y_bad, y_nodes, y_fault, y_place, y_bound, y_depth, y_nextName, y_wantsName, y_wantsTag, y_printed, y_waiting, y_scaled, y_sort, y_typeA, y_typeB, y_typeC, y_fieldName, y_fieldType, y_fields, y_tags, y_needed, y_text, y_begin, y_end, y_inside, y_whole, y_kind, y_value, y_parent, y_name, y_slotOf, y_placeOf, y_complete, y_openNode, y_openType, y_openCount, y_openNames, y_openChoice, y_output, y_todo) (nI b) := by
    intro post w
    unfold wpY_over
    dsimp only
    refine ya_in hL hb (br_f n16 ?_)
    rcases hB with ⟨h1, h2⟩ | h
    · exact br_f (Int32.not_lt.mpr h1) (br_f (Int32.not_lt.mpr h2) (br_f (by decide) w))
    · rw [h] at w ⊢
      exact br_f (by decide) (br_t (by decide) (br_t rfl (br_t rfl w)))
  by_cases c17 : y_text b = 17
  · have w2 : ∀ post : Int32 → Prop, wY_over_142 post (nI (b + 1)) (nI L) y_parts y_bad y_nodes y_fault y_place y_bound y_depth y_nextName y_wantsName y_wantsTag y_printed y_waiting y_scaled y_sort y_typeA y_typeB y_typeC y_fieldName y_fieldType y_fields y_tags y_needed y_text y_begin y_end y_inside y_whole y_kind y_value y_parent y_name y_slotOf y_placeOf y_complete y_openNode y_openType y_openCount y_openNames y_openChoice y_output y_todo → wpY_over post (nI L, y_parts, y_bad, y_nodes, y_fault, y_place, y_bound, y_depth, y_nextName, y_wantsName, y_wantsTag, y_printed, y_waiting, y_scaled, y_sort, y_typeA, y_typeB, y_typeC, y_fieldName, y_fieldType, y_fields, y_tags, y_needed, y_text, y_begin, y_end, y_inside, y_whole, y_kind, y_value, y_parent, y_name, y_slotOf, y_placeOf, y_complete, y_openNode, y_openType, y_openCount, y_openNames, y_openChoice, y_output, y_todo) (nI b) := fun post w => walk post (br_t c17 (nm_r (nI_1 b) w))
    rcases ya_dec y_text L (b + 1) with ⟨d1, d2⟩ | d
    · obtain ⟨a, h1, h2, h3⟩ := yo_142 (y_parts := y_parts) (y_bad := y_bad) (y_nodes := y_nodes) (y_fault := y_fault) (y_place := y_place) (y_bound := y_bound) (y_depth := y_depth) (y_nextName := y_nextName) (y_wantsName := y_wantsName) (y_wantsTag := y_wantsTag) (y_printed := y_printed) (y_waiting := y_waiting) (y_scaled := y_scaled) (y_sort := y_sort) (y_typeA := y_typeA) (y_typeB := y_typeB) (y_typeC := y_typeC) (y_fieldName := y_fieldName) (y_fieldType := y_fieldType) (y_fields := y_fields) (y_tags := y_tags) (y_needed := y_needed) (y_text := y_text) (y_begin := y_begin) (y_end := y_end) (y_inside := y_inside) (y_whole := y_whole) (y_kind := y_kind) (y_value := y_value) (y_parent := y_parent) (y_name := y_name) (y_slotOf := y_slotOf) (y_placeOf := y_placeOf) (y_complete := y_complete) (y_openNode := y_openNode) (y_openType := y_openType) (y_openCount := y_openCount) (y_openNames := y_openNames) (y_openChoice := y_openChoice) (y_output := y_output) (y_todo := y_todo) hL hC d1 d2
      have Ii : ns_I y_text L b (b + 1) a := ⟨Or.inl ⟨c17, rfl⟩, d1, d2, h1⟩
      rcases yo_173 (y_parts := y_parts) (y_bad := y_bad) (y_nodes := y_nodes) (y_fault := y_fault) (y_place := y_place) (y_bound := y_bound) (y_depth := y_depth) (y_nextName := y_nextName) (y_wantsName := y_wantsName) (y_wantsTag := y_wantsTag) (y_printed := y_printed) (y_waiting := y_waiting) (y_scaled := y_scaled) (y_sort := y_sort) (y_typeA := y_typeA) (y_typeB := y_typeB) (y_typeC := y_typeC) (y_fieldName := y_fieldName) (y_fieldType := y_fieldType) (y_fields := y_fields) (y_tags := y_tags) (y_needed := y_needed) (y_text := y_text) (y_begin := y_begin) (y_end := y_end) (y_inside := y_inside) (y_whole := y_whole) (y_kind := y_kind) (y_value := y_value) (y_parent := y_parent) (y_name := y_name) (y_slotOf := y_slotOf) (y_placeOf := y_placeOf) (y_complete := y_complete) (y_openNode := y_openNode) (y_openType := y_openType) (y_openCount := y_openCount) (y_openNames := y_openNames) (y_openChoice := y_openChoice) (y_output := y_output) (y_todo := y_todo) hL hC h2 with ⟨e, s, q, x1, x2, y⟩ | ⟨z, x, y⟩
      · exact Or.inl ⟨q, ⟨_, a, e, s, Ii, x1, x2⟩, fun post hp => w2 post (h3 post (y post hp))⟩
      · refine Or.inr ⟨z, ?_, fun post hp => w2 post (h3 post (y post hp))⟩
        rcases x with ⟨x1, x2, x3, x4⟩ | ⟨e, x1, x2, x3, x4, x5⟩
        · exact Or.inr (Or.inl ⟨_, a, Ii, x1, x2, x3, by rw [← x3]; exact x4⟩)
        · exact Or.inr (Or.inr ⟨_, a, e, Ii, x1, x2, x3, x4, x5⟩)
    · exact Or.inr ⟨b + 1, Or.inl ⟨c17, rfl, d⟩, fun post hp => w2 post (by unfold wY_over_142; exact ya_d0 hL hC (by omega) d (br_t rfl hp))⟩
  · have hd : y_text b ≤ 9 := by
      rcases hB with h | h
      · exact h.2
      · exact absurd h c17
    obtain ⟨a, h1, h2, h3⟩ := yo_142 (y_parts := y_parts) (y_bad := y_bad) (y_nodes := y_nodes) (y_fault := y_fault) (y_place := y_place) (y_bound := y_bound) (y_depth := y_depth) (y_nextName := y_nextName) (y_wantsName := y_wantsName) (y_wantsTag := y_wantsTag) (y_printed := y_printed) (y_waiting := y_waiting) (y_scaled := y_scaled) (y_sort := y_sort) (y_typeA := y_typeA) (y_typeB := y_typeB) (y_typeC := y_typeC) (y_fieldName := y_fieldName) (y_fieldType := y_fieldType) (y_fields := y_fields) (y_tags := y_tags) (y_needed := y_needed) (y_text := y_text) (y_begin := y_begin) (y_end := y_end) (y_inside := y_inside) (y_whole := y_whole) (y_kind := y_kind) (y_value := y_value) (y_parent := y_parent) (y_name := y_name) (y_slotOf := y_slotOf) (y_placeOf := y_placeOf) (y_complete := y_complete) (y_openNode := y_openNode) (y_openType := y_openType) (y_openCount := y_openCount) (y_openNames := y_openNames) (y_openChoice := y_openChoice) (y_output := y_output) (y_todo := y_todo) hL hC hb hd
    have Ii : ns_I y_text L b b a := ⟨Or.inr ⟨hd, rfl⟩, hb, hd, h1⟩
    have w2 : ∀ post : Int32 → Prop, wY_over_142 post (nI b) (nI L) y_parts y_bad y_nodes y_fault y_place y_bound y_depth y_nextName y_wantsName y_wantsTag y_printed y_waiting y_scaled y_sort y_typeA y_typeB y_typeC y_fieldName y_fieldType y_fields y_tags y_needed y_text y_begin y_end y_inside y_whole y_kind y_value y_parent y_name y_slotOf y_placeOf y_complete y_openNode y_openType y_openCount y_openNames y_openChoice y_output y_todo → wpY_over post (nI L, y_parts, y_bad, y_nodes, y_fault, y_place, y_bound, y_depth, y_nextName, y_wantsName, y_wantsTag, y_printed, y_waiting, y_scaled, y_sort, y_typeA, y_typeB, y_typeC, y_fieldName, y_fieldType, y_fields, y_tags, y_needed, y_text, y_begin, y_end, y_inside, y_whole, y_kind, y_value, y_parent, y_name, y_slotOf, y_placeOf, y_complete, y_openNode, y_openType, y_openCount, y_openNames, y_openChoice, y_output, y_todo) (nI b) := fun post w => walk post (br_f c17 w)
    rcases yo_173 (y_parts := y_parts) (y_bad := y_bad) (y_nodes := y_nodes) (y_fault := y_fault) (y_place := y_place) (y_bound := y_bound) (y_depth := y_depth) (y_nextName := y_nextName) (y_wantsName := y_wantsName) (y_wantsTag := y_wantsTag) (y_printed := y_printed) (y_waiting := y_waiting) (y_scaled := y_scaled) (y_sort := y_sort) (y_typeA := y_typeA) (y_typeB := y_typeB) (y_typeC := y_typeC) (y_fieldName := y_fieldName) (y_fieldType := y_fieldType) (y_fields := y_fields) (y_tags := y_tags) (y_needed := y_needed) (y_text := y_text) (y_begin := y_begin) (y_end := y_end) (y_inside := y_inside) (y_whole := y_whole) (y_kind := y_kind) (y_value := y_value) (y_parent := y_parent) (y_name := y_name) (y_slotOf := y_slotOf) (y_placeOf := y_placeOf) (y_complete := y_complete) (y_openNode := y_openNode) (y_openType := y_openType) (y_openCount := y_openCount) (y_openNames := y_openNames) (y_openChoice := y_openChoice) (y_output := y_output) (y_todo := y_todo) hL hC h2 with ⟨e, s, q, x1, x2, y⟩ | ⟨z, x, y⟩
    · exact Or.inl ⟨q, ⟨_, a, e, s, Ii, x1, x2⟩, fun post hp => w2 post (h3 post (y post hp))⟩
    · refine Or.inr ⟨z, ?_, fun post hp => w2 post (h3 post (y post hp))⟩
      rcases x with ⟨x1, x2, x3, x4⟩ | ⟨e, x1, x2, x3, x4, x5⟩
      · exact Or.inr (Or.inl ⟨_, a, Ii, x1, x2, x3, by rw [← x3]; exact x4⟩)
      · exact Or.inr (Or.inr ⟨_, a, e, Ii, x1, x2, x3, x4, x5⟩)
/-- a string -/
theorem yo_s (hL : L ≤ 96) {b : Nat} (hb : b < L) (hB : y_text b = 16) : (∃ q, ss_W y_text L (b + 1) q ∧ ∀ post : Int32 → Prop, post (nI (q + 1)) → wpY_over post (nI L, y_parts, y_bad, y_nodes, y_fault, y_place, y_bound, y_depth, y_nextName, y_wantsName, y_wantsTag, y_printed, y_waiting, y_scaled, y_sort, y_typeA, y_typeB, y_typeC, y_fieldName, y_fieldType, y_fields, y_tags, y_needed, y_text, y_begin, y_end, y_inside, y_whole, y_kind, y_value, y_parent, y_name, y_slotOf, y_placeOf, y_complete, y_openNode, y_openType, y_openCount, y_openNames, y_openChoice, y_output, y_todo) (nI b)) ∨ (∃ q e z, ss_X y_text L (b + 1) q e z ∧ ∀ post : Int32 → Prop, post (-1 - nI z) → wpY_over post (nI L, y_parts, y_bad, y_nodes, y_fault, y_place, y_bound, y_depth, y_nextName, y_wantsName, y_wantsTag, y_printed, y_waiting, y_scaled, y_sort, y_typeA, y_typeB, y_typeC, y_fieldName, y_fieldType, y_fields, y_tags, y_needed, y_text, y_begin, y_end, y_inside, y_whole, y_kind, y_value, y_parent, y_name, y_slotOf, y_placeOf, y_complete, y_openNode, y_openType, y_openCount, y_openNames, y_openChoice, y_output, y_todo) (nI b)) := by
  rcases yo_str (y_parts := y_parts) (y_bad := y_bad) (y_nodes := y_nodes) (y_fault := y_fault) (y_place := y_place) (y_bound := y_bound) (y_depth := y_depth) (y_nextName := y_nextName) (y_wantsName := y_wantsName) (y_wantsTag := y_wantsTag) (y_printed := y_printed) (y_waiting := y_waiting) (y_scaled := y_scaled) (y_sort := y_sort) (y_typeA := y_typeA) (y_typeB := y_typeB) (y_typeC := y_typeC) (y_fieldName := y_fieldName) (y_fieldType := y_fieldType) (y_fields := y_fields) (y_tags := y_tags) (y_needed := y_needed) (y_text := y_text) (y_begin := y_begin) (y_end := y_end) (y_inside := y_inside) (y_whole := y_whole) (y_kind := y_kind) (y_value := y_value) (y_parent := y_parent) (y_name := y_name) (y_slotOf := y_slotOf) (y_placeOf := y_placeOf) (y_complete := y_complete) (y_openNode := y_openNode) (y_openType := y_openType) (y_openCount := y_openCount) (y_openNames := y_openNames) (y_openChoice := y_openChoice) (y_output := y_output) (y_todo := y_todo) hL (by omega) (L - b) (b + 1) (by omega) (by omega) with ⟨q, x, y⟩ | ⟨q, e, z, x, y⟩
  · exact Or.inl ⟨q, x, fun post hp => by unfold wpY_over; dsimp only; exact ya_in hL hb (br_t hB (nm_r (nI_1 b) (y post hp)))⟩
  · exact Or.inr ⟨q, e, z, x, fun post hp => by unfold wpY_over; dsimp only; exact ya_in hL hb (br_t hB (nm_r (nI_1 b) (y post hp)))⟩
/-- any other character -/
theorem yo_1 (hL : L ≤ 96) (hC : tt_C y_text) {b : Nat} (hb : b < L) (h16 : ¬ y_text b = 16) (hB : ¬ sp_B (y_text b)) (post : Int32 → Prop) (hp : post (nI (b + 1))) : wpY_over post (nI L, y_parts, y_bad, y_nodes, y_fault, y_place, y_bound, y_depth, y_nextName, y_wantsName, y_wantsTag, y_printed, y_waiting, y_scaled, y_sort, y_typeA, y_typeB, y_typeC, y_fieldName, y_fieldType, y_fields, y_tags, y_needed, y_text, y_begin, y_end, y_inside, y_whole, y_kind, y_value, y_parent, y_name, y_slotOf, y_placeOf, y_complete, y_openNode, y_openType, y_openCount, y_openNames, y_openChoice, y_output, y_todo) (nI b) := by
  have h0 := tt_lo hC b
  have h9 : 9 < y_text b := Int32.not_le.mp (fun w => hB (Or.inl ⟨Int32.not_lt.mp h0, w⟩))
  unfold wpY_over
  dsimp only
  refine ya_in hL hb (br_f h16 (br_f h0 (br_t h9 (br_t rfl (br_f (fun w => hB (Or.inr w)) ?_)))))
  rw [nI_1]; exact hp
end
