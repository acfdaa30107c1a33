/-! the reference's split -/
theorem ys_skip (t : Nat → Int32) (L : Nat) : ∀ m p, L ≤ p + m → p ≤ L → ∃ b, p ≤ b ∧ b ≤ L ∧ (∀ i, p ≤ i → i < b → t i = 20) ∧ (b < L → t b ≠ 20) := by
  intro m
  induction m with
  | zero => intro p h1 h2; exact ⟨p, Nat.le_refl _, h2, fun i a b => absurd b (by omega), fun w => absurd w (by omega)⟩
  | succ m ih =>
    intro p h1 h2
    by_cases z : p < L ∧ t p = 20
    · obtain ⟨b, h3, h4, h5, h6⟩ := ih (p + 1) (by omega) (by omega)
      refine ⟨b, by omega, h4, fun i a c => ?_, h6⟩
      rcases Nat.lt_or_ge p i with w | w
      · exact h5 i w c
      · have : i = p := by omega
        subst this; exact z.2
    · exact ⟨p, Nat.le_refl _, h2, fun i a b => absurd b (by omega), fun w e => z ⟨w, e⟩⟩
theorem ys_sv {post : Int32 → Prop} {c : Int32} (h1 : sp_V c → post 1) (h0 : ¬ sp_V c → post 0) : wpY_startsValue post c := by
  have k : ∀ n : Nat, n < 100 → (nI n).toInt = n := fun n hn => nI_toInt (by omega)
  have k9 := k 9 (by decide); have k10 := k 10 (by decide); have k16 := k 16 (by decide); have k17 := k 17 (by decide)
  have k27 := k 27 (by decide); have k28 := k 28 (by decide); have k29 := k 29 (by decide); have k0 := k 0 (by decide); have k12 := k 12 (by decide)
  by_cases a : c < 0
  · refine br_t a (br_t rfl ?_)
    have n : ¬ sp_V c := by
      intro w
      rw [Int32.lt_iff_toInt_lt] at a
      rcases w with w | rfl | rfl | rfl | rfl | rfl | rfl | rfl
      · have := w.1; rw [Int32.le_iff_toInt_le] at this; omega
      all_goals exact absurd a (by decide)
    refine br_f (fun e => n (Or.inr (Or.inr (Or.inl e)))) ?_
    have a16 : c < 16 := Int32.lt_trans a (by decide)
    have a27 : c < 27 := Int32.lt_trans a (by decide)
    exact br_t a16 (br_t rfl (br_t a27 (br_t rfl (h0 n))))
  by_cases b : 10 < c
  case neg =>
    refine br_f a (br_f b (br_f (by decide) (h1 ?_)))
    by_cases e : c = 10
    · exact Or.inr (Or.inl e)
    · refine Or.inl ⟨Int32.not_lt.mp a, ?_⟩
      rw [Int32.lt_iff_toInt_lt] at b
      rw [← Int32.toInt_inj] at e
      rw [Int32.le_iff_toInt_le]
      have x9 : (9 : Int32).toInt = 9 := by decide
      have x10 : (10 : Int32).toInt = 10 := by decide
      omega
  refine br_f a (br_t b (br_t rfl ?_))
  by_cases e12 : c = 12
  · exact br_t e12 (h1 (Or.inr (Or.inr (Or.inl e12))))
  refine br_f e12 ?_
  have x9 : (9 : Int32).toInt = 9 := by decide
  have x10 : (10 : Int32).toInt = 10 := by decide
  have x16 : (16 : Int32).toInt = 16 := by decide
  have x17 : (17 : Int32).toInt = 17 := by decide
  have x27 : (27 : Int32).toInt = 27 := by decide
  have x28 : (28 : Int32).toInt = 28 := by decide
  have x29 : (29 : Int32).toInt = 29 := by decide
  by_cases p1 : c < 16
  · have n : ¬ sp_V c := by
      intro w
      rw [Int32.lt_iff_toInt_lt] at p1 b
      rcases w with w | rfl | rfl | rfl | rfl | rfl | rfl | rfl
      · have := w.2; rw [Int32.le_iff_toInt_le] at this; omega
      · exact absurd b (by decide)
      · exact e12 rfl
      all_goals exact absurd p1 (by decide)
    exact br_t p1 (br_t rfl (br_t (Int32.lt_trans p1 (by decide)) (br_t rfl (h0 n))))
  by_cases p2 : 17 < c
  case neg =>
    refine br_f p1 (br_f p2 (br_f (by decide) (h1 ?_)))
    by_cases e : c = 16
    · exact Or.inr (Or.inr (Or.inr (Or.inl e)))
    · refine Or.inr (Or.inr (Or.inr (Or.inr (Or.inl ?_))))
      rw [Int32.lt_iff_toInt_lt] at p1 p2
      rw [← Int32.toInt_inj] at e ⊢
      omega
  refine br_f p1 (br_t p2 (br_t rfl ?_))
  by_cases p3 : c < 27
  · have n : ¬ sp_V c := by
      intro w
      rw [Int32.lt_iff_toInt_lt] at p3 p2
      rcases w with w | rfl | rfl | rfl | rfl | rfl | rfl | rfl
      · have := w.2; rw [Int32.le_iff_toInt_le] at this; omega
      · exact absurd p2 (by decide)
      · exact e12 rfl
      · exact absurd p2 (by decide)
      · exact absurd p2 (by decide)
      all_goals exact absurd p3 (by decide)
    exact br_t p3 (br_t rfl (h0 n))
  by_cases p4 : 29 < c
  · have n : ¬ sp_V c := by
      intro w
      rw [Int32.lt_iff_toInt_lt] at p4
      rcases w with w | rfl | rfl | rfl | rfl | rfl | rfl | rfl
      · have := w.2; rw [Int32.le_iff_toInt_le] at this; omega
      all_goals exact absurd p4 (by decide)
    exact br_f p3 (br_t p4 (br_t rfl (h0 n)))
  refine br_f p3 (br_f p4 (br_f (by decide) (h1 ?_)))
  rw [Int32.lt_iff_toInt_lt] at p3 p4
  have : c.toInt = 27 ∨ c.toInt = 28 ∨ c.toInt = 29 := by omega
  rcases this with e | e | e
  · exact Or.inr (Or.inr (Or.inr (Or.inr (Or.inr (Or.inl (Int32.toInt_inj.mp (e.trans x27.symm)))))))
  · exact Or.inr (Or.inr (Or.inr (Or.inr (Or.inr (Or.inr (Or.inl (Int32.toInt_inj.mp (e.trans x28.symm))))))))
  · exact Or.inr (Or.inr (Or.inr (Or.inr (Or.inr (Or.inr (Or.inr (Int32.toInt_inj.mp (e.trans x29.symm))))))))
section
variable {y_nodes y_fault y_place y_bound y_depth y_nextName y_wantsName y_wantsTag y_printed y_waiting y_scaled : Int32} {y_sort y_typeA y_typeB y_typeC y_fieldName y_fieldType y_fields y_tags y_needed y_text y_kind y_value y_parent y_name y_slotOf y_placeOf y_complete y_openNode y_openType y_openCount y_openNames y_openChoice y_output y_todo : Nat → Int32} {L k x d : Nat} {bg en wh g : Nat → Int32} {post : SY → Prop} {J : Int32 → Int32 → Int32 → Int32 → Int32 → (Nat → Int32) → (Nat → Int32) → (Nat → Int32) → (Nat → Int32) → (Nat → Int32) → (Nat → Int32) → (Nat → Int32) → (Nat → Int32) → (Nat → Int32) → (Nat → Int32) → (Nat → Int32) → (Nat → Int32) → (Nat → Int32) → (Nat → Int32) → (Nat → Int32) → (Nat → Int32) → (Nat → Int32) → (Nat → Int32) → (Nat → Int32) → (Nat → Int32) → (Nat → Int32) → (Nat → Int32) → (Nat → Int32) → (Nat → Int32) → (Nat → Int32) → (Nat → Int32) → (Nat → Int32) → (Nat → Int32) → Prop}
theorem ys_23s (hL : L ≤ 96) (n : Nat) : ∀ m p b, p + m = b → b ≤ L → (∀ i, p ≤ i → i < b → y_text i = 20) → wY_split_23 post J (nI d) (nI x) (nI L) (nI k) (-1) y_nodes y_fault y_place y_bound y_depth y_nextName y_wantsName y_wantsTag y_printed y_waiting y_scaled y_sort y_typeA y_typeB y_typeC y_fieldName y_fieldType y_fields y_tags y_needed y_text bg en g wh y_kind y_value y_parent y_name y_slotOf y_placeOf y_complete y_openNode y_openType y_openCount y_openNames y_openChoice y_output y_todo n (nI b) → wY_split_23 post J (nI d) (nI x) (nI L) (nI k) (-1) y_nodes y_fault y_place y_bound y_depth y_nextName y_wantsName y_wantsTag y_printed y_waiting y_scaled y_sort y_typeA y_typeB y_typeC y_fieldName y_fieldType y_fields y_tags y_needed y_text bg en g wh y_kind y_value y_parent y_name y_slotOf y_placeOf y_complete y_openNode y_openType y_openCount y_openNames y_openChoice y_output y_todo (n + m) (nI p) := by
  intro m
  induction m with
  | zero =>
    intro p b h1 h2 h3 h
    have : p = b := by omega
    subst this; exact h
  | succ m ih =>
    intro p b h1 h2 h3 h
    show wY_split_23 post J (nI d) (nI x) (nI L) (nI k) (-1) y_nodes y_fault y_place y_bound y_depth y_nextName y_wantsName y_wantsTag y_printed y_waiting y_scaled y_sort y_typeA y_typeB y_typeC y_fieldName y_fieldType y_fields y_tags y_needed y_text bg en g wh y_kind y_value y_parent y_name y_slotOf y_placeOf y_complete y_openNode y_openType y_openCount y_openNames y_openChoice y_output y_todo (n + m + 1) (nI p)
    rw [wY_split_23]
    exact ya_in hL (by omega) (br_t (h3 p (by omega) (by omega)) (nm_r (nI_1 p) (ih (p + 1) b (by omega) h2 (fun i a c => h3 i (by omega) c) h)))
theorem ys_23c (hL : L ≤ 96) {b n : Nat} {c : Int32} (hb : b ≤ L) (hc : tt_at y_text L b = c) (h20 : ¬ c = 20) (hx : x ≤ 5) (hd : d ≤ 96)
    (h1 : sp_C x d g c → wY_split_123 post J (nI d) (nI x) (nI b) c 1 (nI L) (nI k) (-1) y_nodes y_fault y_place y_bound y_depth y_nextName y_wantsName y_wantsTag y_printed y_waiting y_scaled y_sort y_typeA y_typeB y_typeC y_fieldName y_fieldType y_fields y_tags y_needed y_text bg en g wh y_kind y_value y_parent y_name y_slotOf y_placeOf y_complete y_openNode y_openType y_openCount y_openNames y_openChoice y_output y_todo) (h0 : ¬ sp_C x d g c → wY_split_123 post J (nI d) (nI x) (nI b) c 0 (nI L) (nI k) (-1) y_nodes y_fault y_place y_bound y_depth y_nextName y_wantsName y_wantsTag y_printed y_waiting y_scaled y_sort y_typeA y_typeB y_typeC y_fieldName y_fieldType y_fields y_tags y_needed y_text bg en g wh y_kind y_value y_parent y_name y_slotOf y_placeOf y_complete y_openNode y_openType y_openCount y_openNames y_openChoice y_output y_todo) : wY_split_23 post J (nI d) (nI x) (nI L) (nI k) (-1) y_nodes y_fault y_place y_bound y_depth y_nextName y_wantsName y_wantsTag y_printed y_waiting y_scaled y_sort y_typeA y_typeB y_typeC y_fieldName y_fieldType y_fields y_tags y_needed y_text bg en g wh y_kind y_value y_parent y_name y_slotOf y_placeOf y_complete y_openNode y_openType y_openCount y_openNames y_openChoice y_output y_todo (n + 1) (nI b) := by
  rw [wY_split_23]
  refine ya_at hL (by omega) ?_
  rw [hc]
  refine br_f h20 (ya_at hL (by omega) ?_)
  rw [hc]
  have ed : (nI d).toNatClampNeg = d := nI_clamp (by omega)
  by_cases c13 : c = 13
  · have n11 : ¬ c = 11 := by rw [c13]; decide
    refine br_t c13 (pk_eq x 1 (fun e => h1 (Or.inl ⟨c13, Or.inl e⟩)) (fun e => pk_eq x 5 (fun e5 => pk_le d 0 (fun w => h0 ?_) (fun w => ⟨vp_in_nI (by omega) (by decide), ?_⟩)) (fun e5 => h0 ?_)))
    · rintro (⟨-, w1 | w1⟩ | ⟨w1, -⟩)
      · omega
      · omega
      · exact n11 w1
    · rw [ed]
      by_cases q : g d = 12
      · exact br_t q (h1 (Or.inl ⟨c13, Or.inr ⟨e5, w, q⟩⟩))
      · refine br_f q (h0 ?_)
        rintro (⟨-, w1 | w1⟩ | ⟨w1, -⟩)
        · omega
        · exact q w1.2.2
        · exact n11 w1
    · rintro (⟨-, w1 | w1⟩ | ⟨w1, -⟩)
      · omega
      · omega
      · exact n11 w1
  · refine br_f c13 ?_
    by_cases c11 : c = 11
    · refine br_t c11 (pk_eq x 2 (fun e => h1 (Or.inr ⟨c11, Or.inl e⟩)) (fun e => pk_eq x 5 (fun e5 => pk_le d 0 (fun w => h0 ?_) (fun w => ⟨vp_in_nI (by omega) (by decide), ?_⟩)) (fun e5 => h0 ?_)))
      · rintro (⟨w1, -⟩ | ⟨-, w1 | w1⟩)
        · exact c13 w1
        · omega
        · omega
      · rw [ed]
        by_cases q : g d = 10
        · exact br_t q (h1 (Or.inr ⟨c11, Or.inr ⟨e5, w, q⟩⟩))
        · refine br_f q (h0 ?_)
          rintro (⟨w1, -⟩ | ⟨-, w1 | w1⟩)
          · exact c13 w1
          · omega
          · exact q w1.2.2
      · rintro (⟨w1, -⟩ | ⟨-, w1 | w1⟩)
        · exact c13 w1
        · omega
        · omega
    · refine br_f c11 (h0 ?_)
      rintro (⟨w1, -⟩ | ⟨w1, -⟩)
      · exact c13 w1
      · exact c11 w1
theorem ys_123 {b : Nat} {c : Int32} (hx : x ≤ 5) (hd : d ≤ 96)
    (h1 : sp_Q x d c → wY_split_192 post J (nI d) (nI x) (nI b) c 0 1 (nI L) (nI k) (-1) y_nodes y_fault y_place y_bound y_depth y_nextName y_wantsName y_wantsTag y_printed y_waiting y_scaled y_sort y_typeA y_typeB y_typeC y_fieldName y_fieldType y_fields y_tags y_needed y_text bg en g wh y_kind y_value y_parent y_name y_slotOf y_placeOf y_complete y_openNode y_openType y_openCount y_openNames y_openChoice y_output y_todo) (h0 : ¬ sp_Q x d c → wY_split_192 post J (nI d) (nI x) (nI b) c 0 0 (nI L) (nI k) (-1) y_nodes y_fault y_place y_bound y_depth y_nextName y_wantsName y_wantsTag y_printed y_waiting y_scaled y_sort y_typeA y_typeB y_typeC y_fieldName y_fieldType y_fields y_tags y_needed y_text bg en g wh y_kind y_value y_parent y_name y_slotOf y_placeOf y_complete y_openNode y_openType y_openCount y_openNames y_openChoice y_output y_todo) : wY_split_123 post J (nI d) (nI x) (nI b) c 0 (nI L) (nI k) (-1) y_nodes y_fault y_place y_bound y_depth y_nextName y_wantsName y_wantsTag y_printed y_waiting y_scaled y_sort y_typeA y_typeB y_typeC y_fieldName y_fieldType y_fields y_tags y_needed y_text bg en g wh y_kind y_value y_parent y_name y_slotOf y_placeOf y_complete y_openNode y_openType y_openCount y_openNames y_openChoice y_output y_todo := by
  unfold wY_split_123
  refine br_t rfl (pk_le 2 x (fun a => pk_le 4 x (fun a4 => pk_eq x 4 (fun e => ?_) (fun e => ?_)) (fun a4 => ?_)) (fun a => ?_))
  · by_cases q : c = 14
    · exact br_t q (h1 (Or.inr (Or.inr (Or.inl ⟨e, q⟩))))
    · refine br_f q (h0 ?_)
      rintro (w | w | w | w)
      · omega
      · omega
      · exact q w.2
      · omega
  · by_cases q : c = 15
    · refine br_t q (pk_le d 0 (fun w => h0 ?_) (fun w => h1 (Or.inr (Or.inr (Or.inr ⟨by omega, q, w⟩)))))
      rintro (w | w | w | w) <;> omega
    · refine br_f q (h0 ?_)
      rintro (w | w | w | w)
      · omega
      · omega
      · omega
      · exact q w.2.1
  · by_cases q : c = 16
    · exact br_t q (h1 (Or.inr (Or.inl ⟨by omega, q⟩)))
    · refine br_f q (h0 ?_)
      rintro (w | w | w | w)
      · omega
      · exact q w.2
      · omega
      · omega
  · refine ys_sv (fun v => br_f (by decide) (h1 (Or.inl ⟨a, v⟩))) (fun v => br_t rfl (h0 ?_))
    rintro (w | w | w | w)
    · exact v w.2
    · omega
    · omega
    · omega
/-- a character that fits -/
theorem ys_fit (hL : L ≤ 96) (hC : tt_C y_text) {b n : Nat} {z : Int32} (hb : b < L) (h20 : ¬ y_text b = 20) (hx : x ≤ 5) (hd : d ≤ 96) (hT : sp_T x d g (y_text b)) (hz : z = 1 ∧ sp_C x d g (y_text b) ∨ z = 0 ∧ ¬ sp_C x d g (y_text b))
    (h : wY_split_209 post J (nI d) (nI x) (nI b) (y_text b) z 1 (nI L) (nI k) (-1) y_nodes y_fault y_place y_bound y_depth y_nextName y_wantsName y_wantsTag y_printed y_waiting y_scaled y_sort y_typeA y_typeB y_typeC y_fieldName y_fieldType y_fields y_tags y_needed y_text bg en g wh y_kind y_value y_parent y_name y_slotOf y_placeOf y_complete y_openNode y_openType y_openCount y_openNames y_openChoice y_output y_todo) : wY_split_23 post J (nI d) (nI x) (nI L) (nI k) (-1) y_nodes y_fault y_place y_bound y_depth y_nextName y_wantsName y_wantsTag y_printed y_waiting y_scaled y_sort y_typeA y_typeB y_typeC y_fieldName y_fieldType y_fields y_tags y_needed y_text bg en g wh y_kind y_value y_parent y_name y_slotOf y_placeOf y_complete y_openNode y_openType y_openCount y_openNames y_openChoice y_output y_todo (n + 1) (nI b) := by
  have c0 : 0 ≤ y_text b := Int32.not_lt.mp (tt_lo hC b)
  refine ys_23c hL (by omega) (tt_in hb) h20 hx hd (fun w => ?_) (fun w => ?_)
  · rcases hz with ⟨rfl, -⟩ | ⟨-, q⟩
    · exact br_f (by decide) (br_t c0 h)
    · exact absurd w q
  · rcases hz with ⟨-, q⟩ | ⟨rfl, -⟩
    · exact absurd q w
    · exact ys_123 hx hd (fun _ => br_t c0 h) (fun q => absurd (hT.resolve_left w) q)
/-- a character that does not fit -/
theorem ys_mis (hL : L ≤ 96) (hC : tt_C y_text) {b n : Nat} (hb : b < L) (h20 : ¬ y_text b = 20) (hx : x ≤ 5) (hd : d ≤ 96) (hT : ¬ sp_T x d g (y_text b))
    (h : post (nI L, nI k, nI b, y_nodes, y_fault, y_place, y_bound, y_depth, y_nextName, y_wantsName, y_wantsTag, y_printed, y_waiting, y_scaled, y_sort, y_typeA, y_typeB, y_typeC, y_fieldName, y_fieldType, y_fields, y_tags, y_needed, y_text, bg, en, g, wh, y_kind, y_value, y_parent, y_name, y_slotOf, y_placeOf, y_complete, y_openNode, y_openType, y_openCount, y_openNames, y_openChoice, y_output, y_todo)) : wY_split_23 post J (nI d) (nI x) (nI L) (nI k) (-1) y_nodes y_fault y_place y_bound y_depth y_nextName y_wantsName y_wantsTag y_printed y_waiting y_scaled y_sort y_typeA y_typeB y_typeC y_fieldName y_fieldType y_fields y_tags y_needed y_text bg en g wh y_kind y_value y_parent y_name y_slotOf y_placeOf y_complete y_openNode y_openType y_openCount y_openNames y_openChoice y_output y_todo (n + 1) (nI b) := by
  have c0 : 0 ≤ y_text b := Int32.not_lt.mp (tt_lo hC b)
  exact ys_23c hL (by omega) (tt_in hb) h20 hx hd (fun w => absurd (Or.inl w) hT) (fun _ => ys_123 hx hd (fun q => absurd (Or.inr q) hT) (fun _ => br_t c0 (br_t rfl h)))
theorem sp_T_m1 : ¬ sp_T x d g (-1) := by
  rintro ((w | w) | (w | w | w | w))
  · exact absurd w.1 (by decide)
  · exact absurd w.1 (by decide)
  · rcases w.2 with v | v | v | v | v | v | v | v
    · exact absurd v.1 (by decide)
    all_goals exact absurd v (by decide)
  · exact absurd w.2 (by decide)
  · exact absurd w.2 (by decide)
  · exact absurd w.2.1 (by decide)
/-- the end of the text -/
theorem ys_end (hL : L ≤ 96) {n : Nat} (hx : x ≤ 5) (hd : d ≤ 96)
    (h1 : x = 5 ∧ d = 0 → post (nI L, nI k, -1, y_nodes, y_fault, y_place, y_bound, y_depth, y_nextName, y_wantsName, y_wantsTag, y_printed, y_waiting, y_scaled, y_sort, y_typeA, y_typeB, y_typeC, y_fieldName, y_fieldType, y_fields, y_tags, y_needed, y_text, bg, en, g, wh, y_kind, y_value, y_parent, y_name, y_slotOf, y_placeOf, y_complete, y_openNode, y_openType, y_openCount, y_openNames, y_openChoice, y_output, y_todo))
    (h0 : ¬ (x = 5 ∧ d = 0) → post (nI L, nI k, nI L, y_nodes, y_fault, y_place, y_bound, y_depth, y_nextName, y_wantsName, y_wantsTag, y_printed, y_waiting, y_scaled, y_sort, y_typeA, y_typeB, y_typeC, y_fieldName, y_fieldType, y_fields, y_tags, y_needed, y_text, bg, en, g, wh, y_kind, y_value, y_parent, y_name, y_slotOf, y_placeOf, y_complete, y_openNode, y_openType, y_openCount, y_openNames, y_openChoice, y_output, y_todo)) : wY_split_23 post J (nI d) (nI x) (nI L) (nI k) (-1) y_nodes y_fault y_place y_bound y_depth y_nextName y_wantsName y_wantsTag y_printed y_waiting y_scaled y_sort y_typeA y_typeB y_typeC y_fieldName y_fieldType y_fields y_tags y_needed y_text bg en g wh y_kind y_value y_parent y_name y_slotOf y_placeOf y_complete y_openNode y_openType y_openCount y_openNames y_openChoice y_output y_todo (n + 1) (nI L) := by
  refine ys_23c hL (Nat.le_refl _) (tt_out (Nat.le_refl _)) (by decide) hx hd (fun w => absurd (a := sp_T x d g (-1)) (Or.inl w) sp_T_m1) (fun _ => ys_123 hx hd (fun q => absurd (a := sp_T x d g (-1)) (Or.inr q) sp_T_m1) (fun _ => br_f (by decide) (pk_eq x 5 (fun e5 => pk_eq d 0 (fun e0 => h1 ⟨e5, e0⟩) (fun e0 => br_t rfl (h0 (fun w => e0 w.2)))) (fun e5 => br_t rfl (h0 (fun w => e5 w.1))))))
/-- a part, whole -/
theorem ys_209w {b q : Nat} {c z : Int32} (hk : k < 96) (hq : q < 96) (ho : ∀ Q : Int32 → Prop, Q (nI (q + 1)) → wpY_over Q (nI L, nI k, -1, y_nodes, y_fault, y_place, y_bound, y_depth, y_nextName, y_wantsName, y_wantsTag, y_printed, y_waiting, y_scaled, y_sort, y_typeA, y_typeB, y_typeC, y_fieldName, y_fieldType, y_fields, y_tags, y_needed, y_text, bg, en, g, wh, y_kind, y_value, y_parent, y_name, y_slotOf, y_placeOf, y_complete, y_openNode, y_openType, y_openCount, y_openNames, y_openChoice, y_output, y_todo) (nI b))
    (h : wY_split_306 post J (nI d) (nI x) c z (nI (q + 1)) (-1) (nI L) (nI (k + 1)) (-1) y_nodes y_fault y_place y_bound y_depth y_nextName y_wantsName y_wantsTag y_printed y_waiting y_scaled y_sort y_typeA y_typeB y_typeC y_fieldName y_fieldType y_fields y_tags y_needed y_text (upd bg k (nI b)) (upd en k (nI q)) g (upd wh k 1) y_kind y_value y_parent y_name y_slotOf y_placeOf y_complete y_openNode y_openType y_openCount y_openNames y_openChoice y_output y_todo) : wY_split_209 post J (nI d) (nI x) (nI b) c z 1 (nI L) (nI k) (-1) y_nodes y_fault y_place y_bound y_depth y_nextName y_wantsName y_wantsTag y_printed y_waiting y_scaled y_sort y_typeA y_typeB y_typeC y_fieldName y_fieldType y_fields y_tags y_needed y_text bg en g wh y_kind y_value y_parent y_name y_slotOf y_placeOf y_complete y_openNode y_openType y_openCount y_openNames y_openChoice y_output y_todo := by
  have ek : (nI k).toNatClampNeg = k := nI_clamp (by omega)
  have ik : vp_in (nI k) 96 := vp_in_nI hk (by decide)
  have i0 : ¬ nI (q + 1) < 0 := nI_pos (by omega)
  refine br_f (by decide) (ho _ ⟨ik, nm_e (br_f i0 ⟨ik, nm_e (br_f i0 ⟨ik, nm_e (nm_r (nI_1 k) (br_t (Int32.not_lt.mp i0) ?_))⟩)⟩)⟩)
  rw [ek, nI_pred, show vp_nar FieldType.boolean 1 = 1 from rfl]
  exact h
theorem hh_c1 (z : Nat) : (-1 : Int32) - (-1 - nI z) = nI z := by grind
theorem hh_c2 (z : Nat) : (-2 : Int32) - (-1 - nI (z + 1)) = nI z := by
  rw [← nI_1]
  have : (-2 : Int32) = -1 - 1 := by decide
  rw [this]; grind
theorem hh_c3 {z : Nat} (h : z < 1000) : (-1 : Int32) - nI z < 0 := by
  rw [show (-1 : Int32) = ii_I (-1) from rfl, ← ii_nat, ii_sub, show (0 : Int32) = ii_I 0 from rfl, ii_lt (by omega) (by omega) (by omega) (by omega)]
  omega
/-- the last part, cut off -/
theorem ys_209x {b q : Nat} {c z : Int32} (hk : k < 96) (hq : q < 96) (ho : ∀ Q : Int32 → Prop, Q (-1 - nI (q + 1)) → wpY_over Q (nI L, nI k, -1, y_nodes, y_fault, y_place, y_bound, y_depth, y_nextName, y_wantsName, y_wantsTag, y_printed, y_waiting, y_scaled, y_sort, y_typeA, y_typeB, y_typeC, y_fieldName, y_fieldType, y_fields, y_tags, y_needed, y_text, bg, en, g, wh, y_kind, y_value, y_parent, y_name, y_slotOf, y_placeOf, y_complete, y_openNode, y_openType, y_openCount, y_openNames, y_openChoice, y_output, y_todo) (nI b))
    (h : wY_split_306 post J (nI d) (nI x) c z (-1 - nI (q + 1)) (nI (q + 1)) (nI L) (nI (k + 1)) (-1) y_nodes y_fault y_place y_bound y_depth y_nextName y_wantsName y_wantsTag y_printed y_waiting y_scaled y_sort y_typeA y_typeB y_typeC y_fieldName y_fieldType y_fields y_tags y_needed y_text (upd bg k (nI b)) (upd en k (nI q)) g (upd wh k 0) y_kind y_value y_parent y_name y_slotOf y_placeOf y_complete y_openNode y_openType y_openCount y_openNames y_openChoice y_output y_todo) : wY_split_209 post J (nI d) (nI x) (nI b) c z 1 (nI L) (nI k) (-1) y_nodes y_fault y_place y_bound y_depth y_nextName y_wantsName y_wantsTag y_printed y_waiting y_scaled y_sort y_typeA y_typeB y_typeC y_fieldName y_fieldType y_fields y_tags y_needed y_text bg en g wh y_kind y_value y_parent y_name y_slotOf y_placeOf y_complete y_openNode y_openType y_openCount y_openNames y_openChoice y_output y_todo := by
  have ek : (nI k).toNatClampNeg = k := nI_clamp (by omega)
  have ik : vp_in (nI k) 96 := vp_in_nI hk (by decide)
  have i0 : (-1 : Int32) - nI (q + 1) < 0 := hh_c3 (by omega)
  refine br_f (by decide) (ho _ ⟨ik, nm_e (br_t i0 ⟨ik, nm_e (br_t i0 ⟨ik, nm_e (nm_r (nI_1 k) (br_f (Int32.not_le.mpr i0) ?_))⟩)⟩)⟩)
  rw [ek, hh_c2, hh_c1, show vp_nar FieldType.boolean 0 = 0 from rfl]
  exact h
end
