/-! printing: what waits for the reference, level by level -/
def sg_Y : List (List Int32 × Nat) → List Int32
  | [] => []
  | e :: r => e.1 ++ nI (100 + e.2) :: sg_Y r
def pt_L (lc : Nat → List Int32) : List (List Int32 × Nat) → List Int32
  | [] => []
  | e :: r => e.1 ++ (lc e.2 ++ pt_L lc r)
/-- characters, none of them a node -/
def lo_L : List Int32 → Prop
  | [] => True
  | c :: r => (∃ j, j < 100 ∧ c = nI j) ∧ lo_L r
section
variable {y_length y_parts y_bad y_nodes y_fault y_place y_bound y_depth y_nextName y_wantsName y_wantsTag : Int32} {y_sort y_typeA y_typeB y_typeC y_fieldName y_fieldType y_fields y_tags y_needed y_text y_begin y_end y_inside y_whole y_kind y_value y_parent y_name y_slotOf y_placeOf y_complete y_openNode y_openType y_openCount y_openNames y_openChoice : Nat → Int32} {dp : Nat → Nat} {post : Int32 → SY → Prop}
theorem yp_c {s : List Int32} {a o : Nat → Int32} {m j : Nat} {x sc : Int32} (ha : hol a (x :: s)) (hx : x = nI j) (hj : j < 100) (hs : s.length < 600) (hm : m < 70000) (h : ∃ k, wY_print_23 post k y_length y_parts y_bad y_nodes y_fault y_place y_bound y_depth y_nextName y_wantsName y_wantsTag (nI (m + 1)) (nI (s.length)) sc y_sort y_typeA y_typeB y_typeC y_fieldName y_fieldType y_fields y_tags y_needed y_text y_begin y_end y_inside y_whole y_kind y_value y_parent y_name y_slotOf y_placeOf y_complete y_openNode y_openType y_openCount y_openNames y_openChoice (ow_1 o m x) a) : ∃ k, wY_print_23 post k y_length y_parts y_bad y_nodes y_fault y_place y_bound y_depth y_nextName y_wantsName y_wantsTag (nI (m)) (nI (s.length + 1)) sc y_sort y_typeA y_typeB y_typeC y_fieldName y_fieldType y_fields y_tags y_needed y_text y_begin y_end y_inside y_whole y_kind y_value y_parent y_name y_slotOf y_placeOf y_complete y_openNode y_openType y_openCount y_openNames y_openChoice o a := by
  obtain ⟨k, hk⟩ := h
  refine ⟨k + 1, br_f (nI_nle (by omega) (by omega)) (nm_r (nI_pred s.length) ⟨vp_in_nI hs (by decide), ?_⟩)⟩
  rw [nI_clamp (by omega), ha.1]
  refine nm_e (br_f ?_ (ou_y (by omega) hk))
  rw [hx]
  exact nI_ge (b := 100) hj (by decide)
theorem yp_l {s : List Int32} {a : Nat → Int32} {sc : Int32} : ∀ (ld : List Int32) (m : Nat) (o : Nat → Int32), hol a (ld ++ s) → lo_L ld → (ld ++ s).length < 600 → m + ld.length < 70000 → (∃ k, wY_print_23 post k y_length y_parts y_bad y_nodes y_fault y_place y_bound y_depth y_nextName y_wantsName y_wantsTag (nI (m + ld.length)) (nI (s.length)) sc y_sort y_typeA y_typeB y_typeC y_fieldName y_fieldType y_fields y_tags y_needed y_text y_begin y_end y_inside y_whole y_kind y_value y_parent y_name y_slotOf y_placeOf y_complete y_openNode y_openType y_openCount y_openNames y_openChoice (ow_L o m ld) a) → ∃ k, wY_print_23 post k y_length y_parts y_bad y_nodes y_fault y_place y_bound y_depth y_nextName y_wantsName y_wantsTag (nI (m)) (nI ((ld ++ s).length)) sc y_sort y_typeA y_typeB y_typeC y_fieldName y_fieldType y_fields y_tags y_needed y_text y_begin y_end y_inside y_whole y_kind y_value y_parent y_name y_slotOf y_placeOf y_complete y_openNode y_openType y_openCount y_openNames y_openChoice o a
  | [], m, o, ha, hl, hs, hm, h => h
  | c :: r, m, o, ha, hl, hs, hm, h => by
    obtain ⟨⟨j, hj, e⟩, hl'⟩ := hl
    rw [List.cons_append, List.length_cons] at hs ⊢
    rw [List.length_cons] at hm h
    refine yp_c ha e hj (by omega) (by omega) (yp_l r (m + 1) _ ha.2 hl' (by omega) (by omega) ?_)
    rw [show m + 1 + r.length = m + (r.length + 1) from by omega]
    exact h
theorem yp_lv {lc : Nat → List Int32} {d : Nat} {s : List Int32} {cl : Int32} (hcl : ∃ j, j < 100 ∧ cl = nI j) (hd : d ≤ 5) : ∀ (es : List (List Int32 × Nat)) (m : Nat) (a o : Nat → Int32) (sc : Int32),
    (∀ e, e ∈ es → lo_L e.1 ∧ dp e.2 = d + 1 ∧ ∀ (post : Int32 → SY → Prop) (s : List Int32) (a : Nat → Int32) (m : Nat) (o : Nat → Int32) (sc : Int32), hol a (nI (100 + e.2) :: s) → s.length ≤ 41 * dp e.2 → m + (lc e.2).length < 60000 → (∀ (a' : Nat → Int32) (sc' : Int32), hol a' s → ∃ k, wY_print_23 post k y_length y_parts y_bad y_nodes y_fault y_place y_bound y_depth y_nextName y_wantsName y_wantsTag (nI (m + (lc e.2).length)) (nI (s.length)) (sc') y_sort y_typeA y_typeB y_typeC y_fieldName y_fieldType y_fields y_tags y_needed y_text y_begin y_end y_inside y_whole y_kind y_value y_parent y_name y_slotOf y_placeOf y_complete y_openNode y_openType y_openCount y_openNames y_openChoice (ow_L o m (lc e.2)) (a')) → ∃ k, wY_print_23 post k y_length y_parts y_bad y_nodes y_fault y_place y_bound y_depth y_nextName y_wantsName y_wantsTag (nI (m)) (nI (s.length + 1)) sc y_sort y_typeA y_typeB y_typeC y_fieldName y_fieldType y_fields y_tags y_needed y_text y_begin y_end y_inside y_whole y_kind y_value y_parent y_name y_slotOf y_placeOf y_complete y_openNode y_openType y_openCount y_openNames y_openChoice o a) → hol a (sg_Y es ++ cl :: s) → (sg_Y es ++ cl :: s).length ≤ 41 * (d + 1) → m + (pt_L lc es).length + 1 < 60000 →
    (∀ (a' : Nat → Int32) (sc' : Int32), hol a' s → ∃ k, wY_print_23 post k y_length y_parts y_bad y_nodes y_fault y_place y_bound y_depth y_nextName y_wantsName y_wantsTag (nI (m + ((pt_L lc es).length + 1))) (nI (s.length)) (sc') y_sort y_typeA y_typeB y_typeC y_fieldName y_fieldType y_fields y_tags y_needed y_text y_begin y_end y_inside y_whole y_kind y_value y_parent y_name y_slotOf y_placeOf y_complete y_openNode y_openType y_openCount y_openNames y_openChoice (ow_L o m (pt_L lc es ++ [cl])) (a')) → ∃ k, wY_print_23 post k y_length y_parts y_bad y_nodes y_fault y_place y_bound y_depth y_nextName y_wantsName y_wantsTag (nI (m)) (nI ((sg_Y es ++ cl :: s).length)) sc y_sort y_typeA y_typeB y_typeC y_fieldName y_fieldType y_fields y_tags y_needed y_text y_begin y_end y_inside y_whole y_kind y_value y_parent y_name y_slotOf y_placeOf y_complete y_openNode y_openType y_openCount y_openNames y_openChoice o a
  | [], m, a, o, sc, hes, ha, hlen, hm, h => by
    obtain ⟨j, hj, e⟩ := hcl
    have hl2 : (cl :: s).length ≤ 41 * (d + 1) := hlen
    rw [List.length_cons] at hl2
    have hm2 : m + 0 + 1 < 60000 := hm
    exact yp_c ha e hj (by omega) (by omega) (h a sc ha.2)
  | e :: r, m, a, o, sc, hes, ha, hlen, hm, h => by
    obtain ⟨h1, h2, h3⟩ := hes e (.head _)
    have es1 : sg_Y (e :: r) ++ cl :: s = e.1 ++ (nI (100 + e.2) :: (sg_Y r ++ cl :: s)) := by
      show (e.1 ++ nI (100 + e.2) :: sg_Y r) ++ cl :: s = _
      rw [List.append_assoc, List.cons_append]
    have es2 : pt_L lc (e :: r) = e.1 ++ (lc e.2 ++ pt_L lc r) := rfl
    rw [es1] at ha hlen ⊢
    rw [es2] at hm h
    have hl1 : (e.1 ++ (nI (100 + e.2) :: (sg_Y r ++ cl :: s))).length = e.1.length + ((sg_Y r ++ cl :: s).length + 1) := by rw [List.length_append, List.length_cons]
    have hl2 : (e.1 ++ (lc e.2 ++ pt_L lc r)).length = e.1.length + ((lc e.2).length + (pt_L lc r).length) := by rw [List.length_append, List.length_append]
    rw [hl2] at hm h
    have ha2 : ∀ (l : List Int32) (s : List Int32), hol a (l ++ s) → hol a s := by
      intro l
      induction l with
      | nil => exact fun _ z => z
      | cons c l ih => exact fun s z => ih s z.2
    have ha3 := ha2 _ _ ha
    refine yp_l e.1 m o ha h1 (by omega) (by omega) ?_
    rw [List.length_cons]
    refine h3 post (sg_Y r ++ cl :: s) a (m + e.1.length) _ sc ha3 (by rw [h2]; omega) (by omega) (fun a' sc' ha' => ?_)
    refine yp_lv hcl hd r (m + e.1.length + (lc e.2).length) a' _ sc' (fun e' he' => hes e' (.tail _ he')) ha' (by omega) (by omega) (fun a2 sc2 ha2 => ?_)
    obtain ⟨k, hk⟩ := h a2 sc2 ha2
    refine ⟨k, ?_⟩
    rw [List.append_assoc, List.append_assoc, ow_app, ow_app] at hk
    rw [show m + e.1.length + (lc e.2).length + ((pt_L lc r).length + 1) = m + (e.1.length + ((lc e.2).length + (pt_L lc r).length) + 1) from by omega]
    exact hk
end
