/-! printing: how the reference lays records by -/
theorem pq_4 (a : Nat) : (4 : Int32) * nI a = nI (4 * a) := (Int32.ofNat_mul 4 a).symm
section
variable {y_length y_parts y_bad y_fault y_place y_bound y_depth y_nextName y_wantsName y_wantsTag y_printed y_scaled : Int32} {y_sort y_typeA y_typeB y_typeC y_fieldName y_fieldType y_fields y_tags y_needed y_text y_begin y_end y_inside y_whole y_kind y_value y_parent y_name y_slotOf y_placeOf y_complete y_openNode y_openType y_openCount y_openNames y_openChoice y_output : Nat → Int32} {N n : Nat} {s : List Int32}
theorem sr_c (hN : N ≤ 40) (hn : n < N) (hlt : ∀ c, c < N → y_parent c = nI n → n < c) {w rs mq z : Nat} {rr a : Nat → Int32} (hz : z ≤ 1) (hrs : rs < 12) (hq : mq ≤ 4) (ef : y_fields rs = nI mq) (hrr : ∀ i, i < mq → fd_R N y_parent y_name (nI n) (y_fieldName (4 * rs + i)) (rr i)) (hrr2 : ∀ i, i < mq → rr i = -1 ∨ ∃ c, c < N ∧ rr i = nI c) {x2 x4 : Int32} {Q : SY → Prop}
    (h : ∃ fu, wY_showRecord_56 Q (nI n) x2 (nI rs) x4 y_length y_parts y_bad (nI N) y_fault y_place y_bound y_depth y_nextName y_wantsName y_wantsTag y_printed (nI (w)) y_scaled y_sort y_typeA y_typeB y_typeC y_fieldName y_fieldType y_fields y_tags y_needed y_text y_begin y_end y_inside y_whole y_kind y_value y_parent y_name y_slotOf y_placeOf y_complete y_openNode y_openType y_openCount y_openNames y_openChoice y_output a fu (nI (pc_N rr z mq)) (nI (4 * rs + mq))) : ∀ j i, i + j = mq → ∃ fu, wY_showRecord_56 Q (nI n) x2 (nI rs) x4 y_length y_parts y_bad (nI N) y_fault y_place y_bound y_depth y_nextName y_wantsName y_wantsTag y_printed (nI (w)) y_scaled y_sort y_typeA y_typeB y_typeC y_fieldName y_fieldType y_fields y_tags y_needed y_text y_begin y_end y_inside y_whole y_kind y_value y_parent y_name y_slotOf y_placeOf y_complete y_openNode y_openType y_openCount y_openNames y_openChoice y_output a fu (nI (pc_N rr z i)) (nI (4 * rs + i)) := by
  intro j
  induction j with
  | zero =>
    intro i hi
    have : i = mq := by omega
    subst this
    exact h
  | succ j ih =>
    intro i hi
    obtain ⟨fu, hf⟩ := ih (i + 1) (by omega)
    have ep : pc_N rr z (i + 1) = pc_N rr z i + (if rr i = -1 then 0 else 1) := rfl
    refine ⟨fu + 1, And.intro (vp_in_nI hrs (by decide)) ?_⟩
    rw [nI_clamp (by omega), ef, pq_4, nI_add]
    refine br_f (nI_ge (by omega) (by omega)) ⟨vp_in_nI (by omega) (by decide), ?_⟩
    rw [nI_clamp (by omega)]
    refine ch_y hN hn hlt (hrr i (by omega)) ?_
    rcases hrr2 i (by omega) with e | ⟨c, hc, e⟩
    · rw [if_pos e] at ep
      rw [ep] at hf
      refine br_t (by rw [e]; decide) (nm_r (nI_1 _) hf)
    · rw [if_neg (by rw [e]; exact hh_m1 (by omega))] at ep
      rw [ep] at hf
      exact br_f (by rw [e]; exact nI_pos (by omega)) (nm_r (nI_1 _) (nm_r (nI_1 _) hf))
theorem sr_w (hN : N ≤ 40) (hn : n < N) (hlt : ∀ c, c < N → y_parent c = nI n → n < c) {rs mq z : Nat} {rr : Nat → Int32} (hz : z ≤ 1) (hrs : rs < 12) (hq : mq ≤ 4) (hrr : ∀ i, i < mq → fd_R N y_parent y_name (nI n) (y_fieldName (4 * rs + i)) (rr i)) (hrr2 : ∀ i, i < mq → rr i = -1 ∨ ∃ c, c < N ∧ rr i = nI c) (hs : s.length ≤ 250) :
    ∀ (k : Nat) (a : Nat → Int32), k ≤ mq → hol a (sg_Y (eR_L rr (pc_N rr z) (fun i => y_fieldName (4 * rs + i)) k (mq - k)) ++ 11 :: s) → ∃ a', hol a' (sg_Y (eR_L rr (pc_N rr z) (fun i => y_fieldName (4 * rs + i)) 0 mq) ++ 11 :: s) ∧ ∀ (Q : SY → Prop), Q (y_length, y_parts, y_bad, nI N, y_fault, y_place, y_bound, y_depth, y_nextName, y_wantsName, y_wantsTag, y_printed, nI ((sg_Y (eR_L rr (pc_N rr z) (fun i => y_fieldName (4 * rs + i)) 0 mq) ++ 11 :: s).length), y_scaled, y_sort, y_typeA, y_typeB, y_typeC, y_fieldName, y_fieldType, y_fields, y_tags, y_needed, y_text, y_begin, y_end, y_inside, y_whole, y_kind, y_value, y_parent, y_name, y_slotOf, y_placeOf, y_complete, y_openNode, y_openType, y_openCount, y_openNames, y_openChoice, y_output, a') → ∃ fu, wY_showRecord_167 Q (nI n) (nI rs) fu (nI (pc_N rr z k)) (nI (4 * rs + k) - 1) y_length y_parts y_bad (nI N) y_fault y_place y_bound y_depth y_nextName y_wantsName y_wantsTag y_printed (nI ((sg_Y (eR_L rr (pc_N rr z) (fun i => y_fieldName (4 * rs + i)) k (mq - k)) ++ 11 :: s).length)) y_scaled y_sort y_typeA y_typeB y_typeC y_fieldName y_fieldType y_fields y_tags y_needed y_text y_begin y_end y_inside y_whole y_kind y_value y_parent y_name y_slotOf y_placeOf y_complete y_openNode y_openType y_openCount y_openNames y_openChoice y_output a := by
  intro k
  induction k with
  | zero =>
    intro a _ ha
    rw [Nat.sub_zero] at ha
    refine ⟨a, ha, fun Q hQ => ⟨0 + 1, br_t ?_ hQ⟩⟩
    rw [pq_4]
    exact pq_lt (by omega)
  | succ k ih =>
    intro a hk ha
    have e1 : mq - k = (mq - (k + 1)) + 1 := by omega
    have ep : pc_N rr z (k + 1) = pc_N rr z k + (if rr k = -1 then 0 else 1) := rfl
    have hpc := pc_le rr z k
    have e6 : nI (4 * rs + (k + 1)) - 1 = nI (4 * rs + k) := nI_pred _
    have g6 : ¬ nI (4 * rs + k) < 4 * nI rs := by
      rw [pq_4]
      exact nI_nlt (by omega) (by omega)
    have eR : eR_L rr (pc_N rr z) (fun i => y_fieldName (4 * rs + i)) k (mq - k) = if rr k = -1 then eR_L rr (pc_N rr z) (fun i => y_fieldName (4 * rs + i)) (k + 1) (mq - (k + 1)) else (((if pc_N rr z k = 0 then [] else [15]) ++ [16, 21 + y_fieldName (4 * rs + k), 16, 14]), (rr k).toNatClampNeg) :: eR_L rr (pc_N rr z) (fun i => y_fieldName (4 * rs + i)) (k + 1) (mq - (k + 1)) := by
      rw [e1]; rfl
    have hl := eR_len rr (pc_N rr z) (fun i => y_fieldName (4 * rs + i)) (mq - (k + 1)) (k + 1)
    generalize eT : eR_L rr (pc_N rr z) (fun i => y_fieldName (4 * rs + i)) (k + 1) (mq - (k + 1)) = T at ha eR hl ⊢
    have hl2 : (sg_Y T ++ 11 :: s).length = (sg_Y T).length + (s.length + 1) := by rw [List.length_append, List.length_cons]
    rcases hrr2 k (by omega) with e | ⟨c, hc, e⟩
    · rw [if_pos e] at ep eR
      rw [eR] at ih
      obtain ⟨a', ha', hw⟩ := ih a (by omega) ha
      refine ⟨a', ha', fun Q hQ => ?_⟩
      obtain ⟨fu, hf⟩ := hw Q hQ
      refine ⟨fu + 1, ?_⟩
      rw [e6, ep]
      refine br_f g6 ⟨vp_in_nI (by omega) (by decide), ?_⟩
      rw [nI_clamp (by omega)]
      exact ch_y hN hn hlt (hrr k (by omega)) (br_f (by rw [e]; decide) (nm_r (pq_m _) hf))
    · have hne : ¬ rr k = -1 := by rw [e]; exact hh_m1 (by omega)
      rw [if_neg hne] at ep eR
      have ec : (rr k).toNatClampNeg = c := by rw [e]; exact nI_clamp (by omega)
      rw [ec] at eR
      have p1 := hol_p (x := nI (100 + c)) ha
      have p2 := hol_p (x := 14) p1
      have p3 := hol_p (x := 16) p2
      have p4 := hol_p (x := 21 + y_fieldName (4 * rs + k)) p3
      have p5 := hol_p (x := 16) p4
      by_cases zz : pc_N rr z k = 0
      · rw [if_pos zz] at eR
        have e3 : sg_Y (eR_L rr (pc_N rr z) (fun i => y_fieldName (4 * rs + i)) k (mq - k)) ++ 11 :: s = 16 :: (21 + y_fieldName (4 * rs + k)) :: 16 :: 14 :: nI (100 + c) :: (sg_Y T ++ 11 :: s) := by rw [eR]; rfl
        rw [← e3] at p5
        obtain ⟨a', ha', hw⟩ := ih _ (by omega) p5
        refine ⟨a', ha', fun Q hQ => ?_⟩
        obtain ⟨fu, hf⟩ := hw Q hQ
        rw [e3, List.length_cons, List.length_cons, List.length_cons, List.length_cons, List.length_cons] at hf
        refine ⟨fu + 1, ?_⟩
        rw [e6, ep]
        refine br_f g6 ⟨vp_in_nI (by omega) (by decide), ?_⟩
        rw [nI_clamp (by omega)]
        refine ch_y hN hn hlt (hrr k (by omega)) (br_t (by rw [e]; exact nI_le (a := 0) (by omega) (by omega)) ?_)
        rw [e, pq_100]
        refine la_y (by omega) (la_y (by omega) (la_y (by omega) (And.intro (vp_in_nI (by omega) (by decide)) ?_)))
        refine la_y (by omega) (la_y (by omega) (nm_r (pq_m _) ?_))
        rw [nI_pred]
        exact br_t (by rw [zz]; decide) (nm_r (pq_m _) hf)
      · rw [if_neg zz] at eR
        have p6 := hol_p (x := 15) p5
        have e3 : sg_Y (eR_L rr (pc_N rr z) (fun i => y_fieldName (4 * rs + i)) k (mq - k)) ++ 11 :: s = 15 :: 16 :: (21 + y_fieldName (4 * rs + k)) :: 16 :: 14 :: nI (100 + c) :: (sg_Y T ++ 11 :: s) := by rw [eR]; rfl
        rw [← e3] at p6
        obtain ⟨a', ha', hw⟩ := ih _ (by omega) p6
        refine ⟨a', ha', fun Q hQ => ?_⟩
        obtain ⟨fu, hf⟩ := hw Q hQ
        rw [e3, List.length_cons, List.length_cons, List.length_cons, List.length_cons, List.length_cons, List.length_cons] at hf
        refine ⟨fu + 1, ?_⟩
        rw [e6, ep]
        refine br_f g6 ⟨vp_in_nI (by omega) (by decide), ?_⟩
        rw [nI_clamp (by omega)]
        refine ch_y hN hn hlt (hrr k (by omega)) (br_t (by rw [e]; exact nI_le (a := 0) (by omega) (by omega)) ?_)
        rw [e, pq_100]
        refine la_y (by omega) (la_y (by omega) (la_y (by omega) (And.intro (vp_in_nI (by omega) (by decide)) ?_)))
        refine la_y (by omega) (la_y (by omega) (nm_r (pq_m _) ?_))
        rw [nI_pred]
        exact br_f (nI_nle (by omega) (by omega)) (la_y (by omega) (nm_r (pq_m _) hf))
end
section
variable {y_length y_parts y_bad y_nodes y_fault y_place y_bound y_depth y_nextName y_wantsName y_wantsTag y_printed y_waiting y_scaled : Int32} {y_sort y_typeA y_typeB y_typeC y_fieldName y_fieldType y_fields y_tags y_needed y_text y_begin y_end y_inside y_whole y_kind y_value y_parent y_name y_slotOf y_placeOf y_complete y_openNode y_openType y_openCount y_openNames y_openChoice y_output y_todo : Nat → Int32} {n b K : Nat} {ok g : Int32}
theorem ta_w {post : Int32 → SY → Prop} (hn : n < 40) (hK : K < 96) (e1 : y_begin K = nI b) (e2 : ∀ j, j < K → y_begin j ≠ nI b) (e3 : y_placeOf n = nI b) (hu : un_Y y_text y_begin y_end (K + 3) 0 ok g) (h : post g (y_length, y_parts, y_bad, y_nodes, y_fault, y_place, y_bound, y_depth, y_nextName, y_wantsName, y_wantsTag, y_printed, y_waiting, g, y_sort, y_typeA, y_typeB, y_typeC, y_fieldName, y_fieldType, y_fields, y_tags, y_needed, y_text, y_begin, y_end, y_inside, y_whole, y_kind, y_value, y_parent, y_name, y_slotOf, y_placeOf, y_complete, y_openNode, y_openType, y_openCount, y_openNames, y_openChoice, y_output, y_todo)) : ∀ (m j : Nat), j + m = K → ∃ fu, wY_tagOf_2 post (nI n) y_length y_parts y_bad y_nodes y_fault y_place y_bound y_depth y_nextName y_wantsName y_wantsTag y_printed y_waiting y_scaled y_sort y_typeA y_typeB y_typeC y_fieldName y_fieldType y_fields y_tags y_needed y_text y_begin y_end y_inside y_whole y_kind y_value y_parent y_name y_slotOf y_placeOf y_complete y_openNode y_openType y_openCount y_openNames y_openChoice y_output y_todo fu (nI j) := by
  intro m
  have en : (nI n).toNatClampNeg = n := nI_clamp (by omega)
  induction m with
  | zero =>
    intro j hj
    have : j = K := by omega
    subst this
    refine ⟨0 + 1, And.intro (vp_in_nI hK (by decide)) (And.intro (vp_in_nI hn (by decide)) ?_)⟩
    rw [nI_clamp (by omega), en]
    refine br_t (by rw [e1, e3]) ?_
    rw [show nI j + 3 = nI (j + 3) from nI_add j 3]
    exact hu y_length y_parts y_bad y_nodes y_fault y_place y_bound y_depth y_nextName y_wantsName y_wantsTag y_printed y_waiting y_scaled y_sort y_typeA y_typeB y_typeC y_fieldName y_fieldType y_fields y_tags y_needed y_inside y_whole y_kind y_value y_parent y_name y_slotOf y_placeOf y_complete y_openNode y_openType y_openCount y_openNames y_openChoice y_output y_todo _ h
  | succ m ih =>
    intro j hj
    obtain ⟨fu, hf⟩ := ih (j + 1) (by omega)
    refine ⟨fu + 1, And.intro (vp_in_nI (by omega) (by decide)) (And.intro (vp_in_nI hn (by decide)) ?_)⟩
    rw [nI_clamp (by omega), en]
    exact br_f (by rw [e3]; exact e2 j (by omega)) (nm_r (nI_1 j) hf)
end
