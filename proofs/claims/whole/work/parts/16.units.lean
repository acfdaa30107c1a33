/-! the reckoning of a number: each digit by itself -/
theorem ii_n (n : Nat) : nI n = ii_I n := (ii_nat n).symm
theorem ub_1 {f : Int32} (h : f = 0 ∨ f = 1) : f &&& 1 = f := by rcases h with rfl | rfl <;> decide
theorem ub_0 {f : Int32} (h : f = 0 ∨ f = 1) : f &&& 0 = 0 := by rcases h with rfl | rfl <;> decide
/-- how many digits stand from i up to e, the point at a -/
def nu_c (a e i : Nat) : Int := (e : Int) - i - (if i ≤ a ∧ a < e then 1 else 0)
theorem xu_pow {post : Int64 → Prop} {W : Nat} (hW : W ≤ 9) (h : post (lN (10 ^ W))) : wpX_powerOfTen post (nI W) := by
  have key : ∀ m k, k + m = W → ∃ n, wX_powerOfTen_4 post (nI W) n (lN (10 ^ k)) (nI k) := by
    intro m
    induction m with
    | zero =>
      intro k hk
      have : k = W := by omega
      subst this
      exact ⟨1, br_t (nI_le (Nat.le_refl _) (by omega)) h⟩
    | succ m ih =>
      intro k hk
      obtain ⟨n, hn⟩ := ih (k + 1) (by omega)
      refine ⟨n + 1, br_f (nI_ge (by omega) (by omega)) (nm_r ?_ (nm_r (nI_1 k) hn))⟩
      show lN (10 ^ k) * lN 10 = _
      rw [lN_mul, Nat.pow_succ]
  exact key W 0 (by omega)
section
variable {y_length y_parts y_bad y_nodes y_fault y_place y_bound y_depth y_nextName y_wantsName y_wantsTag y_printed y_waiting y_scaled : Int32} {y_sort y_typeA y_typeB y_typeC y_fieldName y_fieldType y_fields y_tags y_needed y_begin y_end y_inside y_whole y_kind y_value y_parent y_name y_slotOf y_placeOf y_complete y_openNode y_openType y_openCount y_openNames y_openChoice y_output y_todo : Nat → Int32} {t : Nat → Int32} {b a e Q : Nat} {postY : Int32 → SY → Prop} {x8 : Int32} {Z : Int}
theorem yu_cnt (hP : nu_P t b a e Q) (hC : tt_C t) {J : Int64 → Int32 → Int32 → Prop} {v : Int64} {f : Int32} {j : Nat} : ∀ (m i : Nat) (w : Int), i + m = e → b < i → wY_units_260 postY J x8 (nI e) (ii_I Z) v f (nI j) y_length y_parts y_bad y_nodes y_fault y_place y_bound y_depth y_nextName y_wantsName y_wantsTag y_printed y_waiting y_scaled y_sort y_typeA y_typeB y_typeC y_fieldName y_fieldType y_fields y_tags y_needed t y_begin y_end y_inside y_whole y_kind y_value y_parent y_name y_slotOf y_placeOf y_complete y_openNode y_openType y_openCount y_openNames y_openChoice y_output y_todo 1 (ii_I (w + nu_c a e i)) (nI e) → ∃ n, wY_units_260 postY J x8 (nI e) (ii_I Z) v f (nI j) y_length y_parts y_bad y_nodes y_fault y_place y_bound y_depth y_nextName y_wantsName y_wantsTag y_printed y_waiting y_scaled y_sort y_typeA y_typeB y_typeC y_fieldName y_fieldType y_fields y_tags y_needed t y_begin y_end y_inside y_whole y_kind y_value y_parent y_name y_slotOf y_placeOf y_complete y_openNode y_openType y_openCount y_openNames y_openChoice y_output y_todo n (ii_I w) (nI i) := by
  have hQ := hP.2.2.2.1
  have he := hP.2.2.1
  intro m
  induction m with
  | zero =>
    intro i w h1 h2 h
    have : i = e := by omega
    subst this
    rw [show w + nu_c a i i = w from by unfold nu_c; rw [if_neg (by omega)]; omega] at h
    exact ⟨1, h⟩
  | succ m ih =>
    intro i w h1 h2 h
    have ei : (nI i).toNatClampNeg = i := nI_clamp (by omega)
    have nle : ¬ nI e ≤ nI i := nI_ge (by omega) (by omega)
    have ii : vp_in (nI i) 96 := vp_in_nI (by omega) (by decide)
    rcases hP.2.2.2.2.2.2.2.1 i h2 (by omega) with dg | rfl
    · by_cases ia : i = a
      · exfalso
        have := (hP.2.2.2.2.2.1 i (by omega) (by omega)).mpr ⟨by omega, ia⟩
        exact hh_9 (n := 18) dg (by decide) (by decide) this
      · obtain ⟨n, hn⟩ := ih (i + 1) (w + 1) (by omega) (by omega) (by
          rw [show w + 1 + nu_c a e (i + 1) = w + nu_c a e i from by
            unfold nu_c
            by_cases q : i ≤ a ∧ a < e
            · rw [if_pos q, if_pos (by omega)]; omega
            · rw [if_neg q, if_neg (by omega)]; omega]
          exact h)
        refine ⟨n + 1, br_f nle ⟨ii, ?_⟩⟩
        rw [ei]
        obtain ⟨c, hc, ec⟩ := hC i
        have d : ¬ (10 : Int32) ≤ t i := by
          rw [ec] at dg ⊢
          have := (nI_leI (b := 9) (by omega) (by decide)).mp dg
          exact nI_ge (b := 10) (by omega) (by decide)
        exact br_f d (nm_r (show ii_I w + 1 = ii_I (w + 1) from ii_add w 1) (nm_r (nI_1 i) hn))
    · obtain ⟨n, hn⟩ := ih (i + 1) w (by omega) (by omega) (by
        rw [show w + nu_c i e (i + 1) = w + nu_c i e i from by
          unfold nu_c
          rw [if_neg (by omega), if_pos (by omega)]; omega]
        exact h)
      refine ⟨n + 1, br_f nle ⟨ii, ?_⟩⟩
      rw [ei, (hP.2.2.2.2.2.1 i (by omega) (by omega)).mpr ⟨by omega, rfl⟩]
      exact br_t (by decide) (nm_r (nI_1 i) hn)
/-- the multiplications -/
theorem yu_mul {J : Int64 → Int32 → Int32 → Prop} {v : Int64} {f : Int32} {j c : Nat} {W : Nat} (hW : W ≤ 10) (h : J (v + lN (c * 10 ^ W)) f (nI (j + 1))) : ∀ (m k : Nat), k + m = W → ∃ n, wY_units_356 postY J x8 (nI e) (ii_I Z) v f (nI j) (nI W) y_length y_parts y_bad y_nodes y_fault y_place y_bound y_depth y_nextName y_wantsName y_wantsTag y_printed y_waiting y_scaled y_sort y_typeA y_typeB y_typeC y_fieldName y_fieldType y_fields y_tags y_needed t y_begin y_end y_inside y_whole y_kind y_value y_parent y_name y_slotOf y_placeOf y_complete y_openNode y_openType y_openCount y_openNames y_openChoice y_output y_todo n (lN (c * 10 ^ k)) (nI k) := by
  intro m
  induction m with
  | zero =>
    intro k hk
    have : k = W := by omega
    subst this
    exact ⟨1, br_t (nI_le (Nat.le_refl _) (by omega)) (nm_e (nm_r (nI_1 j) h))⟩
  | succ m ih =>
    intro k hk
    obtain ⟨n, hn⟩ := ih (k + 1) (by omega)
    refine ⟨n + 1, br_f (nI_ge (by omega) (by omega)) (br_f (nI_ge (b := 11) (by omega) (by decide)) (nm_r ?_ (nm_r (nI_1 k) hn)))⟩
    show lN (c * 10 ^ k) * lN 10 = _
    rw [lN_mul, Nat.pow_succ, Nat.mul_assoc]
/-- one digit -/
theorem yu_dig (hP : nu_P t b a e Q) {J : Int64 → Int32 → Int32 → Prop} {v : Int64} {f : Int32} {j c : Nat} {W : Int} (hf : f = 0 ∨ f = 1) (hj : j < 96) (hc : c ≤ 9) (ec : t j = nI c) (hW1 : -1000000000 < W) (hW2 : W < 1000000000)
    (h0 : c = 0 → J v f (nI (j + 1))) (h1 : 0 < c → W < 0 → J v 0 (nI (j + 1))) (h2 : 0 < c → 0 ≤ W → W ≤ 10 → J (v + lN (c * 10 ^ W.toNat)) f (nI (j + 1))) (h3 : 0 < c → 11 ≤ W → J (v + lN c) 0 (nI (j + 1))) :
    wY_units_260 postY J x8 (nI e) (ii_I Z) v f (nI j) y_length y_parts y_bad y_nodes y_fault y_place y_bound y_depth y_nextName y_wantsName y_wantsTag y_printed y_waiting y_scaled y_sort y_typeA y_typeB y_typeC y_fieldName y_fieldType y_fields y_tags y_needed t y_begin y_end y_inside y_whole y_kind y_value y_parent y_name y_slotOf y_placeOf y_complete y_openNode y_openType y_openCount y_openNames y_openChoice y_output y_todo 1 (ii_I W) (nI e) := by
  have he := hP.2.2.1
  have hQ := hP.2.2.2.1
  have ej : (nI j).toNatClampNeg = j := nI_clamp (by omega)
  have ij : vp_in (nI j) 96 := vp_in_nI hj (by decide)
  have nneg : (0 ≤ ii_I W) ↔ 0 ≤ W := by
    rw [show (0 : Int32) = ii_I 0 from rfl, ii_le (by omega) (by omega) (by omega) (by omega)]
  have n11 : ((11 : Int32) ≤ ii_I W) ↔ 11 ≤ W := by
    rw [show (11 : Int32) = ii_I 11 from rfl, ii_le (by omega) (by omega) (by omega) (by omega)]
  refine br_t (nI_le (Nat.le_refl _) (by omega)) ?_
  rw [nneg, n11, ej, ec]
  by_cases w0 : 0 ≤ W
  · refine br_t w0 ⟨ij, ?_⟩
    by_cases c0 : c = 0
    · subst c0
      exact br_t (by decide) (nm_r (nI_1 j) (h0 rfl))
    · refine br_f (nI_nle (by omega) (by omega)) ?_
      by_cases w11 : 11 ≤ W
      · refine br_t w11 (nm_r (ub_0 hf) ⟨ij, ?_⟩)
        rw [ej, ec]
        refine nm_r (nI_l (by omega)) ⟨1, br_f ?_ (br_t ?_ (nm_e (nm_r (nI_1 j) (h3 (by omega) w11))))⟩
        · rw [show (0 : Int32) = ii_I 0 from rfl, ii_le (by omega) (by omega) (by omega) (by omega)]; omega
        · rw [n11]; exact w11
      · refine br_f w11 (nm_r (ub_1 hf) ⟨ij, ?_⟩)
        rw [ej, ec]
        obtain ⟨k, rfl⟩ : ∃ k : Nat, W = k := ⟨W.toNat, by omega⟩
        have g := h2 (by omega) w0 (by omega)
        rw [Int.toNat_natCast] at g
        rw [ii_nat]
        have := yu_mul (y_length := y_length) (y_parts := y_parts) (y_bad := y_bad) (y_nodes := y_nodes) (y_fault := y_fault) (y_place := y_place) (y_bound := y_bound) (y_depth := y_depth) (y_nextName := y_nextName) (y_wantsName := y_wantsName) (y_wantsTag := y_wantsTag) (y_printed := y_printed) (y_waiting := y_waiting) (y_scaled := y_scaled) (y_sort := y_sort) (y_typeA := y_typeA) (y_typeB := y_typeB) (y_typeC := y_typeC) (y_fieldName := y_fieldName) (y_fieldType := y_fieldType) (y_fields := y_fields) (y_tags := y_tags) (y_needed := y_needed) (y_begin := y_begin) (y_end := y_end) (y_inside := y_inside) (y_whole := y_whole) (y_kind := y_kind) (y_value := y_value) (y_parent := y_parent) (y_name := y_name) (y_slotOf := y_slotOf) (y_placeOf := y_placeOf) (y_complete := y_complete) (y_openNode := y_openNode) (y_openType := y_openType) (y_openCount := y_openCount) (y_openNames := y_openNames) (y_openChoice := y_openChoice) (y_output := y_output) (y_todo := y_todo) (t := t) (e := e) (postY := postY) (x8 := x8) (Z := Z) (W := k) (by omega) g k 0 (by omega)
        rw [Nat.pow_zero, Nat.mul_one] at this
        exact nm_r (nI_l (by omega)) this
  · refine br_f w0 ⟨ij, ?_⟩
    by_cases c0 : c = 0
    · subst c0
      exact br_t (by decide) (nm_r (ub_1 hf) (nm_r (nI_1 j) (h0 rfl)))
    · refine br_f (nI_ne0 (by omega) (by omega)) (nm_r (ub_0 hf) (nm_r (nI_1 j) (h1 (by omega) (by omega))))
end
