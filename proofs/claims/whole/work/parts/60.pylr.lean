/-! printing: how the reference lays lists and records by -/
theorem pq_m (x : Int32) : x + -1 = x - 1 := by grind
theorem pq_100 (c : Nat) : (100 : Int32) + nI c = nI (100 + c) := nI_add 100 c
theorem pq_lt {a : Nat} (h : a < 1000) : nI a - 1 < nI a := by
  rw [Int32.lt_iff_toInt_lt]
  cases a with
  | zero => decide
  | succ a =>
    rw [nI_pred, nI_toInt (by omega), nI_toInt (by omega)]
    omega
/-- a list's entries from k on -/
def eL_L (ch : Nat → Nat) (k : Nat) : Nat → List (List Int32 × Nat)
  | 0 => []
  | r + 1 => ((if k = 0 then [] else [15]), ch k) :: eL_L ch (k + 1) r
/-- a record's entries from field k on -/
def eR_L (rr : Nat → Int32) (pc : Nat → Nat) (fn : Nat → Int32) (k : Nat) : Nat → List (List Int32 × Nat)
  | 0 => []
  | r + 1 => if rr k = -1 then eR_L rr pc fn (k + 1) r else (((if pc k = 0 then [] else [15]) ++ [16, 21 + fn k, 16, 14]), (rr k).toNatClampNeg) :: eR_L rr pc fn (k + 1) r
/-- how many are there before field i -/
def pc_N (rr : Nat → Int32) (z : Nat) : Nat → Nat
  | 0 => z
  | i + 1 => pc_N rr z i + (if rr i = -1 then 0 else 1)
theorem pc_le (rr : Nat → Int32) (z : Nat) : ∀ i, pc_N rr z i ≤ z + i
  | 0 => Nat.le_refl _
  | i + 1 => by
    have := pc_le rr z i
    unfold pc_N
    split <;> omega
theorem eL_len (ch : Nat → Nat) : ∀ r k, (sg_Y (eL_L ch k r)).length ≤ 2 * r
  | 0, k => Nat.le_refl 0
  | r + 1, k => by
    have := eL_len ch r (k + 1)
    show ((if k = 0 then [] else [15]) ++ nI (100 + ch k) :: sg_Y (eL_L ch (k + 1) r)).length ≤ _
    rw [List.length_append, List.length_cons]
    split
    · rw [List.length_nil]; omega
    · rw [List.length_singleton]; omega
theorem eR_len (rr : Nat → Int32) (pc : Nat → Nat) (fn : Nat → Int32) : ∀ r k, (sg_Y (eR_L rr pc fn k r)).length ≤ 6 * r
  | 0, k => Nat.le_refl 0
  | r + 1, k => by
    have := eR_len rr pc fn r (k + 1)
    unfold eR_L
    by_cases z : rr k = -1
    · rw [if_pos z]; omega
    · rw [if_neg z]
      show (((if pc k = 0 then [] else [15]) ++ [16, 21 + fn k, 16, 14]) ++ nI (100 + (rr k).toNatClampNeg) :: sg_Y (eR_L rr pc fn (k + 1) r)).length ≤ _
      rw [List.length_append, List.length_cons, List.length_append]
      have : ([16, 21 + fn k, 16, 14] : List Int32).length = 4 := rfl
      split
      · rw [List.length_nil]; omega
      · rw [List.length_singleton]; omega
section
variable {y_length y_parts y_bad y_fault y_place y_bound y_depth y_nextName y_wantsName y_wantsTag y_printed y_scaled : Int32} {y_sort y_typeA y_typeB y_typeC y_fieldName y_fieldType y_fields y_tags y_needed y_text y_begin y_end y_inside y_whole y_kind y_value y_parent y_name y_slotOf y_placeOf y_complete y_openNode y_openType y_openCount y_openNames y_openChoice y_output : Nat → Int32} {N n : Nat} {s : List Int32}
theorem sl_w (hN : N ≤ 40) (hn : n < N) (hlt : ∀ c, c < N → y_parent c = nI n → n < c) {q : Nat} {ch : Nat → Nat} (hq : q ≤ 20) (hch : ∀ j, j < q → fd_R N y_parent y_name (nI n) (nI j) (nI (ch j))) (hs : s.length ≤ 250) :
    ∀ (k : Nat) (a : Nat → Int32), k ≤ q → hol a (sg_Y (eL_L ch k (q - k)) ++ 13 :: s) → ∃ a', hol a' (sg_Y (eL_L ch 0 q) ++ 13 :: s) ∧ ∀ (Q : SY → Prop), Q (y_length, y_parts, y_bad, nI N, y_fault, y_place, y_bound, y_depth, y_nextName, y_wantsName, y_wantsTag, y_printed, nI ((sg_Y (eL_L ch 0 q) ++ 13 :: s).length), y_scaled, y_sort, y_typeA, y_typeB, y_typeC, y_fieldName, y_fieldType, y_fields, y_tags, y_needed, y_text, y_begin, y_end, y_inside, y_whole, y_kind, y_value, y_parent, y_name, y_slotOf, y_placeOf, y_complete, y_openNode, y_openType, y_openCount, y_openNames, y_openChoice, y_output, a') → ∃ fu, wY_showList_21 Q (nI n) fu (nI k - 1) y_length y_parts y_bad (nI N) y_fault y_place y_bound y_depth y_nextName y_wantsName y_wantsTag y_printed (nI ((sg_Y (eL_L ch k (q - k)) ++ 13 :: s).length)) y_scaled y_sort y_typeA y_typeB y_typeC y_fieldName y_fieldType y_fields y_tags y_needed y_text y_begin y_end y_inside y_whole y_kind y_value y_parent y_name y_slotOf y_placeOf y_complete y_openNode y_openType y_openCount y_openNames y_openChoice y_output a := by
  intro k
  induction k with
  | zero =>
    intro a _ ha
    rw [Nat.sub_zero] at ha
    exact ⟨a, ha, fun Q hQ => ⟨0 + 1, br_t (by decide) hQ⟩⟩
  | succ k ih =>
    intro a hk ha
    have e1 : q - k = (q - (k + 1)) + 1 := by omega
    have e2 : sg_Y (eL_L ch k (q - k)) ++ 13 :: s = (if k = 0 then [] else [15]) ++ (nI (100 + ch k) :: (sg_Y (eL_L ch (k + 1) (q - (k + 1))) ++ 13 :: s)) := by
      rw [e1]
      show ((if k = 0 then [] else [15]) ++ nI (100 + ch k) :: sg_Y (eL_L ch (k + 1) (q - (k + 1)))) ++ 13 :: s = _
      rw [List.append_assoc, List.cons_append]
    have hl := eL_len ch (q - (k + 1)) (k + 1)
    have hl2 : (sg_Y (eL_L ch (k + 1) (q - (k + 1))) ++ 13 :: s).length = (sg_Y (eL_L ch (k + 1) (q - (k + 1)))).length + (s.length + 1) := by rw [List.length_append, List.length_cons]
    have p1 := hol_p (x := nI (100 + ch k)) ha
    by_cases z : k = 0
    · rw [if_pos z, List.nil_append] at e2
      rw [← e2] at p1
      obtain ⟨a', ha', hw⟩ := ih _ (by omega) p1
      refine ⟨a', ha', fun Q hQ => ?_⟩
      obtain ⟨fu, hf⟩ := hw Q hQ
      rw [e2, List.length_cons] at hf
      refine ⟨fu + 1, ?_⟩
      rw [nI_pred]
      refine br_f (nI_pos (by omega)) (ch_y hN hn hlt (hch k (by omega)) ?_)
      rw [pq_100]
      refine la_y (by omega) (br_t (by rw [z]; decide) (nm_r (pq_m _) hf))
    · rw [if_neg z] at e2
      have p2 := hol_p (x := 15) p1
      have e3 : sg_Y (eL_L ch k (q - k)) ++ 13 :: s = 15 :: nI (100 + ch k) :: (sg_Y (eL_L ch (k + 1) (q - (k + 1))) ++ 13 :: s) := e2
      rw [← e3] at p2
      obtain ⟨a', ha', hw⟩ := ih _ (by omega) p2
      refine ⟨a', ha', fun Q hQ => ?_⟩
      obtain ⟨fu, hf⟩ := hw Q hQ
      rw [e3, List.length_cons, List.length_cons] at hf
      refine ⟨fu + 1, ?_⟩
      rw [nI_pred]
      refine br_f (nI_pos (by omega)) (ch_y hN hn hlt (hch k (by omega)) ?_)
      rw [pq_100]
      exact la_y (by omega) (br_f (nI_nle (by omega) (by omega)) (la_y (by omega) (nm_r (pq_m _) hf)))
end
