/-! the reference's split: the whole run -/
theorem ss_X_e {t : Nat → Int32} {L i q e z : Nat} (h : ss_X t L i q e z) : z = e + 1 ∧ z ≤ L := by
  rcases h.2 with ⟨-, a, b⟩ | ⟨a, -, b, c⟩ | ⟨a, -, -, -, b, c⟩ <;> omega
theorem ss_G_lt {t : Nat → Int32} {L i j : Nat} (h : ss_G t L i j) : i < j ∧ j ≤ L := by
  rcases h with ⟨a, -, -, b⟩ | ⟨a, -, -, b⟩ <;> omega
theorem ss_R_le {t : Nat → Int32} {L : Nat} : ∀ {m i q : Nat}, ss_R t L m i q → i ≤ q
  | 0, _, _, h => Nat.le_of_eq h
  | m + 1, i, q, ⟨j, hj, h⟩ => Nat.le_trans (Nat.le_of_lt (ss_G_lt hj).1) (ss_R_le h)
section
variable {y_nodes y_fault y_place y_bound y_depth y_nextName y_wantsName y_wantsTag y_printed y_waiting y_scaled : Int32} {y_sort y_typeA y_typeB y_typeC y_fieldName y_fieldType y_fields y_tags y_needed y_text y_kind y_value y_parent y_name y_slotOf y_placeOf y_complete y_openNode y_openType y_openCount y_openNames y_openChoice y_output y_todo : Nat → Int32} {L : Nat}
theorem ys_run (hL : L ≤ 96) (hC : tt_C y_text) : ∀ (m p x d k : Nat) (g bg en wh : Nat → Int32), L < p + m → p ≤ L → k ≤ p → d ≤ p → sp_I x d g → ∃ (M : Nat) (bad : Int32) (g' bg' en' wh' : Nat → Int32), k + M ≤ L ∧ (∀ i, i < k → bg' i = bg i ∧ en' i = en i ∧ wh' i = wh i) ∧ sp_W y_text L bg' en' wh' bad M k p x d g ∧ ∀ post : SY → Prop, post (nI L, nI (k + M), bad, y_nodes, y_fault, y_place, y_bound, y_depth, y_nextName, y_wantsName, y_wantsTag, y_printed, y_waiting, y_scaled, y_sort, y_typeA, y_typeB, y_typeC, y_fieldName, y_fieldType, y_fields, y_tags, y_needed, y_text, bg', en', g', wh', y_kind, y_value, y_parent, y_name, y_slotOf, y_placeOf, y_complete, y_openNode, y_openType, y_openCount, y_openNames, y_openChoice, y_output, y_todo) → ∃ n, wY_split_16 post (nI L) y_nodes y_fault y_place y_bound y_depth y_nextName y_wantsName y_wantsTag y_printed y_waiting y_scaled n (nI d) (nI x) (nI p) (nI k) (-1) y_sort y_typeA y_typeB y_typeC y_fieldName y_fieldType y_fields y_tags y_needed y_text bg en g wh y_kind y_value y_parent y_name y_slotOf y_placeOf y_complete y_openNode y_openType y_openCount y_openNames y_openChoice y_output y_todo := by
  intro m
  induction m with
  | zero => intro p x d k g bg en wh h1 h2; omega
  | succ m ih =>
    intro p x d k g bg en wh h1 h2 h3 h4 hI
    obtain ⟨b, hb1, hb2, hsp, hb3⟩ := ys_skip y_text L (L - p) p (by omega) h2
    have hx : x ≤ 5 := hI.1
    have hd : d ≤ 96 := by omega
    have start : ∀ (post : SY → Prop) (n1 n : Nat), wY_split_23 post (wY_split_16 post (nI L) y_nodes y_fault y_place y_bound y_depth y_nextName y_wantsName y_wantsTag y_printed y_waiting y_scaled n) (nI d) (nI x) (nI L) (nI k) (-1) y_nodes y_fault y_place y_bound y_depth y_nextName y_wantsName y_wantsTag y_printed y_waiting y_scaled y_sort y_typeA y_typeB y_typeC y_fieldName y_fieldType y_fields y_tags y_needed y_text bg en g wh y_kind y_value y_parent y_name y_slotOf y_placeOf y_complete y_openNode y_openType y_openCount y_openNames y_openChoice y_output y_todo n1 (nI b) → wY_split_16 post (nI L) y_nodes y_fault y_place y_bound y_depth y_nextName y_wantsName y_wantsTag y_printed y_waiting y_scaled (n + 1) (nI d) (nI x) (nI p) (nI k) (-1) y_sort y_typeA y_typeB y_typeC y_fieldName y_fieldType y_fields y_tags y_needed y_text bg en g wh y_kind y_value y_parent y_name y_slotOf y_placeOf y_complete y_openNode y_openType y_openCount y_openNames y_openChoice y_output y_todo :=
      fun post n1 n w => br_f (by decide) ⟨n1 + (b - p), ys_23s hL n1 (b - p) p b (by omega) hb2 hsp w⟩
    rcases Nat.lt_or_ge b L with hb | hb
    case inr =>
      have e : b = L := by omega
      subst e
      by_cases w : x = 5 ∧ d = 0
      · exact ⟨0, -1, g, bg, en, wh, by omega, fun _ _ => ⟨rfl, rfl, rfl⟩, Or.inl ⟨rfl, w.1, w.2, hb1, hsp⟩, fun post hp => ⟨0 + 1, start post (0 + 1) 0 (ys_end hL hx hd (fun _ => hp) (fun q => absurd w q))⟩⟩
      · exact ⟨0, nI b, g, bg, en, wh, by omega, fun _ _ => ⟨rfl, rfl, rfl⟩, Or.inr ⟨b, rfl, Nat.le_refl _, ⟨hb1, hsp⟩, fun q => absurd q (by omega), fun _ => w⟩, fun post hp => ⟨0 + 1, start post (0 + 1) 0 (ys_end hL hx hd (fun q => absurd q w) (fun _ => hp))⟩⟩
    have h20 := hb3 hb
    by_cases hT : sp_T x d g (y_text b)
    case neg => exact ⟨0, nI b, g, bg, en, wh, by omega, fun _ _ => ⟨rfl, rfl, rfl⟩, Or.inr ⟨b, rfl, by omega, ⟨hb1, hsp⟩, fun _ => ⟨h20, hT⟩, fun q => absurd q (by omega)⟩, fun post hp => ⟨0 + 1, start post (0 + 1) 0 (ys_mis hL hC hb h20 hx hd hT hp)⟩⟩
    have hk : k < 96 := by omega
    have cons : ∀ (p' x' d' : Nat) (g1 : Nat → Int32) (q : Nat), b < p' → p' ≤ L → d' ≤ p' → sp_I x' d' g1 → sp_P y_text L (upd bg k (nI b)) (upd en k (nI q)) (upd wh k 1) k p x d g p' x' d' g1 →
        (∀ (post : SY → Prop) (n : Nat), wY_split_16 post (nI L) y_nodes y_fault y_place y_bound y_depth y_nextName y_wantsName y_wantsTag y_printed y_waiting y_scaled n (nI d') (nI x') (nI p') (nI (k + 1)) (-1) y_sort y_typeA y_typeB y_typeC y_fieldName y_fieldType y_fields y_tags y_needed y_text (upd bg k (nI b)) (upd en k (nI q)) g1 (upd wh k 1) y_kind y_value y_parent y_name y_slotOf y_placeOf y_complete y_openNode y_openType y_openCount y_openNames y_openChoice y_output y_todo → ∃ n', wY_split_16 post (nI L) y_nodes y_fault y_place y_bound y_depth y_nextName y_wantsName y_wantsTag y_printed y_waiting y_scaled n' (nI d) (nI x) (nI p) (nI k) (-1) y_sort y_typeA y_typeB y_typeC y_fieldName y_fieldType y_fields y_tags y_needed y_text bg en g wh y_kind y_value y_parent y_name y_slotOf y_placeOf y_complete y_openNode y_openType y_openCount y_openNames y_openChoice y_output y_todo) → ∃ (M : Nat) (bad : Int32) (g' bg' en' wh' : Nat → Int32), k + M ≤ L ∧ (∀ i, i < k → bg' i = bg i ∧ en' i = en i ∧ wh' i = wh i) ∧ sp_W y_text L bg' en' wh' bad M k p x d g ∧ ∀ post : SY → Prop, post (nI L, nI (k + M), bad, y_nodes, y_fault, y_place, y_bound, y_depth, y_nextName, y_wantsName, y_wantsTag, y_printed, y_waiting, y_scaled, y_sort, y_typeA, y_typeB, y_typeC, y_fieldName, y_fieldType, y_fields, y_tags, y_needed, y_text, bg', en', g', wh', y_kind, y_value, y_parent, y_name, y_slotOf, y_placeOf, y_complete, y_openNode, y_openType, y_openCount, y_openNames, y_openChoice, y_output, y_todo) → ∃ n, wY_split_16 post (nI L) y_nodes y_fault y_place y_bound y_depth y_nextName y_wantsName y_wantsTag y_printed y_waiting y_scaled n (nI d) (nI x) (nI p) (nI k) (-1) y_sort y_typeA y_typeB y_typeC y_fieldName y_fieldType y_fields y_tags y_needed y_text bg en g wh y_kind y_value y_parent y_name y_slotOf y_placeOf y_complete y_openNode y_openType y_openCount y_openNames y_openChoice y_output y_todo := by
      intro p' x' d' g1 q a1 a2 a3 a4 a5 a6
      obtain ⟨M, bad, g', bg', en', wh', r1, r2, r3, r4⟩ := ih p' x' d' (k + 1) g1 (upd bg k (nI b)) (upd en k (nI q)) (upd wh k 1) (by omega) a2 (by omega) a3 a4
      refine ⟨M + 1, bad, g', bg', en', wh', by omega, fun i hi => ?_, Or.inl ⟨p', x', d', g1, sp_P_congr a5 (r2 k (by omega)).1 (r2 k (by omega)).2.1 (r2 k (by omega)).2.2, r3⟩, fun post hp => ?_⟩
      · obtain ⟨e1, e2, e3⟩ := r2 i (by omega)
        rw [e1, e2, e3]
        exact ⟨pk_un (by omega), pk_un (by omega), pk_un (by omega)⟩
      · rw [show k + (M + 1) = k + 1 + M from by omega] at hp
        obtain ⟨n, hn⟩ := r4 post hp
        exact a6 post n hn
    have cut : ∀ (q : Nat), q < 96 → sp_X y_text L (upd bg k (nI b)) (upd en k (nI q)) (upd wh k 0) k p x (q + 1) →
        (∀ post : SY → Prop, post (nI L, nI (k + 1), nI (q + 1), y_nodes, y_fault, y_place, y_bound, y_depth, y_nextName, y_wantsName, y_wantsTag, y_printed, y_waiting, y_scaled, y_sort, y_typeA, y_typeB, y_typeC, y_fieldName, y_fieldType, y_fields, y_tags, y_needed, y_text, upd bg k (nI b), upd en k (nI q), g, upd wh k 0, y_kind, y_value, y_parent, y_name, y_slotOf, y_placeOf, y_complete, y_openNode, y_openType, y_openCount, y_openNames, y_openChoice, y_output, y_todo) → ∃ n', wY_split_16 post (nI L) y_nodes y_fault y_place y_bound y_depth y_nextName y_wantsName y_wantsTag y_printed y_waiting y_scaled n' (nI d) (nI x) (nI p) (nI k) (-1) y_sort y_typeA y_typeB y_typeC y_fieldName y_fieldType y_fields y_tags y_needed y_text bg en g wh y_kind y_value y_parent y_name y_slotOf y_placeOf y_complete y_openNode y_openType y_openCount y_openNames y_openChoice y_output y_todo) → ∃ (M : Nat) (bad : Int32) (g' bg' en' wh' : Nat → Int32), k + M ≤ L ∧ (∀ i, i < k → bg' i = bg i ∧ en' i = en i ∧ wh' i = wh i) ∧ sp_W y_text L bg' en' wh' bad M k p x d g ∧ ∀ post : SY → Prop, post (nI L, nI (k + M), bad, y_nodes, y_fault, y_place, y_bound, y_depth, y_nextName, y_wantsName, y_wantsTag, y_printed, y_waiting, y_scaled, y_sort, y_typeA, y_typeB, y_typeC, y_fieldName, y_fieldType, y_fields, y_tags, y_needed, y_text, bg', en', g', wh', y_kind, y_value, y_parent, y_name, y_slotOf, y_placeOf, y_complete, y_openNode, y_openType, y_openCount, y_openNames, y_openChoice, y_output, y_todo) → ∃ n, wY_split_16 post (nI L) y_nodes y_fault y_place y_bound y_depth y_nextName y_wantsName y_wantsTag y_printed y_waiting y_scaled n (nI d) (nI x) (nI p) (nI k) (-1) y_sort y_typeA y_typeB y_typeC y_fieldName y_fieldType y_fields y_tags y_needed y_text bg en g wh y_kind y_value y_parent y_name y_slotOf y_placeOf y_complete y_openNode y_openType y_openCount y_openNames y_openChoice y_output y_todo := by
      intro q a1 a2 a3
      exact ⟨1, nI (q + 1), g, _, _, _, by omega, fun i hi => ⟨pk_un (by omega), pk_un (by omega), pk_un (by omega)⟩, Or.inr ⟨rfl, q + 1, a2, rfl⟩, a3⟩
    have sB : ∃ b', sp_S y_text p b' ∧ b' < L ∧ upd bg k (nI b) k = nI b' ∧ b' = b := ⟨b, ⟨hb1, hsp⟩, hb, pk_us, rfl⟩
    by_cases hz : sp_C x d g (y_text b)
    · -- a level closes
      have wk : ∀ d', d = d' + 1 → ¬ y_text b = 16 → ¬ sp_B (y_text b) → ∀ (post : SY → Prop) (n : Nat), wY_split_16 post (nI L) y_nodes y_fault y_place y_bound y_depth y_nextName y_wantsName y_wantsTag y_printed y_waiting y_scaled n (nI d') (nI 5) (nI (b + 1)) (nI (k + 1)) (-1) y_sort y_typeA y_typeB y_typeC y_fieldName y_fieldType y_fields y_tags y_needed y_text (upd bg k (nI b)) (upd en k (nI b)) g (upd wh k 1) y_kind y_value y_parent y_name y_slotOf y_placeOf y_complete y_openNode y_openType y_openCount y_openNames y_openChoice y_output y_todo → ∃ n', wY_split_16 post (nI L) y_nodes y_fault y_place y_bound y_depth y_nextName y_wantsName y_wantsTag y_printed y_waiting y_scaled n' (nI d) (nI x) (nI p) (nI k) (-1) y_sort y_typeA y_typeB y_typeC y_fieldName y_fieldType y_fields y_tags y_needed y_text bg en g wh y_kind y_value y_parent y_name y_slotOf y_placeOf y_complete y_openNode y_openType y_openCount y_openNames y_openChoice y_output y_todo := by
        intro d' hd' n16 nB post n w
        subst hd'
        exact ⟨n + 1, start post (0 + 1) n (ys_fit hL hC hb h20 hx hd hT (Or.inl ⟨rfl, hz⟩) (ys_209w hk (by omega) (fun Q hQ => yo_1 hL hC hb n16 nB Q hQ) (br_f (by decide) (nm_r (pk_m1 d') w))))⟩
      rcases hz with ⟨c, h⟩ | ⟨c, h⟩
      · have n16 : ¬ y_text b = 16 := by rw [c]; decide
        have nB : ¬ sp_B (y_text b) := by
          rw [c]; rintro (w | w)
          · exact absurd w.2 (by decide)
          · exact absurd w (by decide)
        have hd0 : 0 < d ∧ g d = 12 := by
          rcases h with h | h
          · exact hI.2.1 h
          · exact h.2
        obtain ⟨d', hd'⟩ : ∃ d', d = d' + 1 := ⟨d - 1, by omega⟩
        refine cons (b + 1) 5 d' g b (by omega) (by omega) (by omega) ⟨by omega, fun z => absurd z (by decide), fun z => absurd z (by decide), fun l hl => hI.2.2.2 l (by omega)⟩ ⟨b, ⟨hb1, hsp⟩, hb, pk_us, pk_us, Or.inl ⟨c, by omega, hd', hd0.2, rfl, rfl, pk_us, rfl⟩⟩ (wk d' hd' n16 nB)
      · have n16 : ¬ y_text b = 16 := by rw [c]; decide
        have nB : ¬ sp_B (y_text b) := by
          rw [c]; rintro (w | w)
          · exact absurd w.2 (by decide)
          · exact absurd w (by decide)
        have hd0 : 0 < d ∧ g d = 10 := by
          rcases h with h | h
          · exact hI.2.2.1 (Or.inl h)
          · exact h.2
        obtain ⟨d', hd'⟩ : ∃ d', d = d' + 1 := ⟨d - 1, by omega⟩
        refine cons (b + 1) 5 d' g b (by omega) (by omega) (by omega) ⟨by omega, fun z => absurd z (by decide), fun z => absurd z (by decide), fun l hl => hI.2.2.2 l (by omega)⟩ ⟨b, ⟨hb1, hsp⟩, hb, pk_us, pk_us, Or.inr (Or.inl ⟨c, by omega, hd', hd0.2, rfl, rfl, pk_us, rfl⟩)⟩ (wk d' hd' n16 nB)
    have hQ : sp_Q x d (y_text b) := hT.resolve_left hz
    -- one character, and what follows
    have one : ∀ (post : SY → Prop) (n : Nat), ¬ y_text b = 16 → ¬ sp_B (y_text b) → wY_split_306 post (wY_split_16 post (nI L) y_nodes y_fault y_place y_bound y_depth y_nextName y_wantsName y_wantsTag y_printed y_waiting y_scaled n) (nI d) (nI x) (y_text b) 0 (nI (b + 1)) (-1) (nI L) (nI (k + 1)) (-1) y_nodes y_fault y_place y_bound y_depth y_nextName y_wantsName y_wantsTag y_printed y_waiting y_scaled y_sort y_typeA y_typeB y_typeC y_fieldName y_fieldType y_fields y_tags y_needed y_text (upd bg k (nI b)) (upd en k (nI b)) g (upd wh k 1) y_kind y_value y_parent y_name y_slotOf y_placeOf y_complete y_openNode y_openType y_openCount y_openNames y_openChoice y_output y_todo → ∃ n', wY_split_16 post (nI L) y_nodes y_fault y_place y_bound y_depth y_nextName y_wantsName y_wantsTag y_printed y_waiting y_scaled n' (nI d) (nI x) (nI p) (nI k) (-1) y_sort y_typeA y_typeB y_typeC y_fieldName y_fieldType y_fields y_tags y_needed y_text bg en g wh y_kind y_value y_parent y_name y_slotOf y_placeOf y_complete y_openNode y_openType y_openCount y_openNames y_openChoice y_output y_todo :=
      fun post n n16 nB w => ⟨n + 1, start post (0 + 1) n (ys_fit hL hC hb h20 hx hd hT (Or.inr ⟨rfl, hz⟩) (ys_209w hk (by omega) (fun Q hQ => yo_1 hL hC hb n16 nB Q hQ) w))⟩
    have lg : ∀ (post : SY → Prop) (n q : Nat), q < 96 → (∀ Q : Int32 → Prop, Q (nI (q + 1)) → wpY_over Q (nI L, nI k, -1, y_nodes, y_fault, y_place, y_bound, y_depth, y_nextName, y_wantsName, y_wantsTag, y_printed, y_waiting, y_scaled, y_sort, y_typeA, y_typeB, y_typeC, y_fieldName, y_fieldType, y_fields, y_tags, y_needed, y_text, bg, en, g, wh, y_kind, y_value, y_parent, y_name, y_slotOf, y_placeOf, y_complete, y_openNode, y_openType, y_openCount, y_openNames, y_openChoice, y_output, y_todo) (nI b)) → wY_split_306 post (wY_split_16 post (nI L) y_nodes y_fault y_place y_bound y_depth y_nextName y_wantsName y_wantsTag y_printed y_waiting y_scaled n) (nI d) (nI x) (y_text b) 0 (nI (q + 1)) (-1) (nI L) (nI (k + 1)) (-1) y_nodes y_fault y_place y_bound y_depth y_nextName y_wantsName y_wantsTag y_printed y_waiting y_scaled y_sort y_typeA y_typeB y_typeC y_fieldName y_fieldType y_fields y_tags y_needed y_text (upd bg k (nI b)) (upd en k (nI q)) g (upd wh k 1) y_kind y_value y_parent y_name y_slotOf y_placeOf y_complete y_openNode y_openType y_openCount y_openNames y_openChoice y_output y_todo → ∃ n', wY_split_16 post (nI L) y_nodes y_fault y_place y_bound y_depth y_nextName y_wantsName y_wantsTag y_printed y_waiting y_scaled n' (nI d) (nI x) (nI p) (nI k) (-1) y_sort y_typeA y_typeB y_typeC y_fieldName y_fieldType y_fields y_tags y_needed y_text bg en g wh y_kind y_value y_parent y_name y_slotOf y_placeOf y_complete y_openNode y_openType y_openCount y_openNames y_openChoice y_output y_todo :=
      fun post n q hq ho w => ⟨n + 1, start post (0 + 1) n (ys_fit hL hC hb h20 hx hd hT (Or.inr ⟨rfl, hz⟩) (ys_209w hk hq ho w))⟩
    have ct : ∀ (post : SY → Prop) (q : Nat), q < 96 → (∀ Q : Int32 → Prop, Q (-1 - nI (q + 1)) → wpY_over Q (nI L, nI k, -1, y_nodes, y_fault, y_place, y_bound, y_depth, y_nextName, y_wantsName, y_wantsTag, y_printed, y_waiting, y_scaled, y_sort, y_typeA, y_typeB, y_typeC, y_fieldName, y_fieldType, y_fields, y_tags, y_needed, y_text, bg, en, g, wh, y_kind, y_value, y_parent, y_name, y_slotOf, y_placeOf, y_complete, y_openNode, y_openType, y_openCount, y_openNames, y_openChoice, y_output, y_todo) (nI b)) → wY_split_306 post (wY_split_16 post (nI L) y_nodes y_fault y_place y_bound y_depth y_nextName y_wantsName y_wantsTag y_printed y_waiting y_scaled 1) (nI d) (nI x) (y_text b) 0 (-1 - nI (q + 1)) (nI (q + 1)) (nI L) (nI (k + 1)) (-1) y_nodes y_fault y_place y_bound y_depth y_nextName y_wantsName y_wantsTag y_printed y_waiting y_scaled y_sort y_typeA y_typeB y_typeC y_fieldName y_fieldType y_fields y_tags y_needed y_text (upd bg k (nI b)) (upd en k (nI q)) g (upd wh k 0) y_kind y_value y_parent y_name y_slotOf y_placeOf y_complete y_openNode y_openType y_openCount y_openNames y_openChoice y_output y_todo → ∃ n', wY_split_16 post (nI L) y_nodes y_fault y_place y_bound y_depth y_nextName y_wantsName y_wantsTag y_printed y_waiting y_scaled n' (nI d) (nI x) (nI p) (nI k) (-1) y_sort y_typeA y_typeB y_typeC y_fieldName y_fieldType y_fields y_tags y_needed y_text bg en g wh y_kind y_value y_parent y_name y_slotOf y_placeOf y_complete y_openNode y_openType y_openCount y_openNames y_openChoice y_output y_todo :=
      fun post q hq ho w => ⟨1 + 1, start post (0 + 1) 1 (ys_fit hL hC hb h20 hx hd hT (Or.inr ⟨rfl, hz⟩) (ys_209x hk hq ho w))⟩
    have I5 : sp_I 5 d g := ⟨by omega, fun z => absurd z (by decide), fun z => absurd z (by decide), hI.2.2.2⟩
    have nx2 : x < 2 → ¬ nI x = 2 := fun z e => by have := hh_i (by omega) (by decide) (m := 2) e; omega
    have nx3 : x < 2 → ¬ nI x = 3 := fun z e => by have := hh_i (by omega) (by decide) (m := 3) e; omega
    rcases hQ with ⟨hx2, hV⟩ | ⟨hx2, c⟩ | ⟨hx2, c⟩ | ⟨hx2, c, hd0⟩
    · by_cases hB : sp_B (y_text b)
      · have n15 : ¬ y_text b = 15 := by
          intro c; rw [c] at hB
          rcases hB with w | w
          · exact absurd w.2 (by decide)
          · exact absurd w (by decide)
        have n14 : ¬ y_text b = 14 := by
          intro c; rw [c] at hB
          rcases hB with w | w
          · exact absurd w.2 (by decide)
          · exact absurd w (by decide)
        have n10 : ¬ y_text b = 10 := by
          intro c; rw [c] at hB
          rcases hB with w | w
          · exact absurd w.2 (by decide)
          · exact absurd w (by decide)
        have n12 : ¬ y_text b = 12 := by
          intro c; rw [c] at hB
          rcases hB with w | w
          · exact absurd w.2 (by decide)
          · exact absurd w (by decide)
        rcases yo_num (y_parts := nI k) (y_bad := -1) (y_nodes := y_nodes) (y_fault := y_fault) (y_place := y_place) (y_bound := y_bound) (y_depth := y_depth) (y_nextName := y_nextName) (y_wantsName := y_wantsName) (y_wantsTag := y_wantsTag) (y_printed := y_printed) (y_waiting := y_waiting) (y_scaled := y_scaled) (y_sort := y_sort) (y_typeA := y_typeA) (y_typeB := y_typeB) (y_typeC := y_typeC) (y_fieldName := y_fieldName) (y_fieldType := y_fieldType) (y_fields := y_fields) (y_tags := y_tags) (y_needed := y_needed) (y_text := y_text) (y_begin := bg) (y_end := en) (y_inside := g) (y_whole := wh) (y_kind := y_kind) (y_value := y_value) (y_parent := y_parent) (y_name := y_name) (y_slotOf := y_slotOf) (y_placeOf := y_placeOf) (y_complete := y_complete) (y_openNode := y_openNode) (y_openType := y_openType) (y_openCount := y_openCount) (y_openNames := y_openNames) (y_openChoice := y_openChoice) (y_output := y_output) (y_todo := y_todo) hL hC hb hB with ⟨q, hW, ho⟩ | ⟨z, hX, ho⟩
        · have hle := ns_W_le hW
          obtain ⟨q, rfl⟩ : ∃ q', q = q' + 1 := ⟨q - 1, by omega⟩
          refine cons (q + 1) 5 d g q (by omega) (by omega) (by omega) I5 ⟨b, ⟨hb1, hsp⟩, hb, pk_us, pk_us, ?_⟩ (fun post n w => lg post n q (by omega) ho (br_t rfl (br_f n15 (br_f n14 (br_f (nx2 hx2) (br_f (nx3 hx2) (br_f n10 (br_f n12 w))))))))
          exact Or.inr (Or.inr (Or.inr (Or.inr (Or.inr (Or.inr (Or.inr (Or.inr (Or.inl ⟨hB, hx2, rfl, rfl, rfl, q, hW, by omega, pk_us, rfl⟩))))))))
        · have hle := ns_X_le hb hX
          obtain ⟨q, rfl⟩ : ∃ q', z = q' + 1 := ⟨z - 1, by omega⟩
          refine cut q (by omega) ⟨b, ⟨hb1, hsp⟩, hb, pk_us, pk_us, Or.inl ⟨hB, hx2, hX, hle.1, pk_us⟩⟩ (fun post hp => ct post q (by omega) ho (br_t rfl (br_f n15 (br_f n14 (br_f (nx2 hx2) (br_f (nx3 hx2) (br_f n10 (br_f n12 (br_t (nI_pos' (by omega)) hp)))))))))
      · rcases hV with w | c | c | c | c | c | c | c
        · exact absurd (Or.inl w) hB
        · refine cons (b + 1) 2 (d + 1) (upd g (d + 1) 10) b (by omega) (by omega) (by omega) ⟨by omega, fun z => absurd z (by decide), fun _ => ⟨by omega, pk_us⟩, fun l hl => ?_⟩ ⟨b, ⟨hb1, hsp⟩, hb, pk_us, pk_us, ?_⟩ (fun post n w => one post n (by rw [c]; decide) hB ?_)
          · by_cases q : l + 1 = d + 1
            · rw [q]; exact Or.inr pk_us
            · rw [pk_un q]; exact hI.2.2.2 l (by omega)
          · exact Or.inr (Or.inr (Or.inr (Or.inr (Or.inr (Or.inl ⟨c, hx2, rfl, rfl, rfl, pk_us, rfl⟩)))))
          · rw [c]
            refine br_t rfl (br_f (by decide) (br_f (by decide) (br_f (nx2 hx2) (br_f (nx3 hx2) (br_t rfl (nm_r (nI_1 d) ⟨vp_in_nI (by omega) (by decide), nm_e (br_t rfl ?_)⟩))))))
            rw [nI_clamp (by omega)]; exact w
        · refine cons (b + 1) 1 (d + 1) (upd g (d + 1) 12) b (by omega) (by omega) (by omega) ⟨by omega, fun _ => ⟨by omega, pk_us⟩, fun z => absurd z (by decide), fun l hl => ?_⟩ ⟨b, ⟨hb1, hsp⟩, hb, pk_us, pk_us, ?_⟩ (fun post n w => one post n (by rw [c]; decide) hB ?_)
          · by_cases q : l + 1 = d + 1
            · rw [q]; exact Or.inl pk_us
            · rw [pk_un q]; exact hI.2.2.2 l (by omega)
          · exact Or.inr (Or.inr (Or.inr (Or.inr (Or.inr (Or.inr (Or.inl ⟨c, hx2, rfl, rfl, rfl, pk_us, rfl⟩))))))
          · rw [c]
            refine br_t rfl (br_f (by decide) (br_f (by decide) (br_f (nx2 hx2) (br_f (nx3 hx2) (br_f (by decide) (br_t rfl (nm_r (nI_1 d) ⟨vp_in_nI (by omega) (by decide), nm_e (br_f (by decide) ?_)⟩)))))))
            rw [nI_clamp (by omega)]; exact w
        · rcases yo_s (y_parts := nI k) (y_bad := -1) (y_nodes := y_nodes) (y_fault := y_fault) (y_place := y_place) (y_bound := y_bound) (y_depth := y_depth) (y_nextName := y_nextName) (y_wantsName := y_wantsName) (y_wantsTag := y_wantsTag) (y_printed := y_printed) (y_waiting := y_waiting) (y_scaled := y_scaled) (y_sort := y_sort) (y_typeA := y_typeA) (y_typeB := y_typeB) (y_typeC := y_typeC) (y_fieldName := y_fieldName) (y_fieldType := y_fieldType) (y_fields := y_fields) (y_tags := y_tags) (y_needed := y_needed) (y_text := y_text) (y_begin := bg) (y_end := en) (y_inside := g) (y_whole := wh) (y_kind := y_kind) (y_value := y_value) (y_parent := y_parent) (y_name := y_name) (y_slotOf := y_slotOf) (y_placeOf := y_placeOf) (y_complete := y_complete) (y_openNode := y_openNode) (y_openType := y_openType) (y_openCount := y_openCount) (y_openNames := y_openNames) (y_openChoice := y_openChoice) (y_output := y_output) (y_todo := y_todo) hL hb c with ⟨q, hW, ho⟩ | ⟨q, e, z, hX, ho⟩
          · have hle : b + 1 ≤ q := by obtain ⟨-, -, m', hm'⟩ := hW; exact ss_R_le hm'
            have hq := hW.1
            refine cons (q + 1) 5 d g q (by omega) (by omega) (by omega) I5 ⟨b, ⟨hb1, hsp⟩, hb, pk_us, pk_us, ?_⟩ (fun post n w => lg post n q (by omega) ho ?_)
            · exact Or.inr (Or.inr (Or.inr (Or.inr (Or.inr (Or.inr (Or.inr (Or.inr (Or.inr ⟨c, hx2, rfl, rfl, rfl, q, hW, pk_us, rfl⟩))))))))
            · rw [c]; exact br_t rfl (br_f (by decide) (br_f (by decide) (br_f (nx2 hx2) (br_f (nx3 hx2) (br_f (by decide) (br_f (by decide) w))))))
          · obtain ⟨rfl, hzL⟩ := ss_X_e hX
            refine cut e (by omega) ⟨b, ⟨hb1, hsp⟩, hb, pk_us, pk_us, Or.inr (Or.inl ⟨c, hx2, q, e, hX, pk_us⟩)⟩ (fun post hp => ct post e (by omega) ho ?_)
            rw [c]; exact br_t rfl (br_f (by decide) (br_f (by decide) (br_f (nx2 hx2) (br_f (nx3 hx2) (br_f (by decide) (br_f (by decide) (br_t (nI_pos' (by omega)) hp)))))))
        · exact absurd (Or.inr c) hB
        all_goals
          refine cons (b + 1) 5 d g b (by omega) (by omega) (by omega) I5 ⟨b, ⟨hb1, hsp⟩, hb, pk_us, pk_us, Or.inr (Or.inr (Or.inr (Or.inr (Or.inr (Or.inr (Or.inr (Or.inl ⟨?_, hx2, rfl, rfl, rfl, pk_us, rfl⟩)))))))⟩ (fun post n w => one post n (by rw [c]; decide) hB ?_)
          · first | exact Or.inl c | exact Or.inr (Or.inl c) | exact Or.inr (Or.inr c)
          · rw [c]; exact br_t rfl (br_f (by decide) (br_f (by decide) (br_f (nx2 hx2) (br_f (nx3 hx2) (br_f (by decide) (br_f (by decide) w))))))
    · have I4 : sp_I 4 d g := ⟨by omega, fun z => absurd z (by decide), fun _ => hI.2.2.1 (by omega), hI.2.2.2⟩
      have e23 : ∀ A B C : Prop, A → (nI x = 2 → A) ∧ (¬ nI x = 2 → (nI x = 3 → A) ∧ (¬ nI x = 3 → C)) := by
        intro A B C a
        refine ⟨fun _ => a, fun q => ⟨fun _ => a, fun q' => ?_⟩⟩
        rcases hx2 with rfl | rfl
        · exact absurd rfl q
        · exact absurd rfl q'
      rcases yo_s (y_parts := nI k) (y_bad := -1) (y_nodes := y_nodes) (y_fault := y_fault) (y_place := y_place) (y_bound := y_bound) (y_depth := y_depth) (y_nextName := y_nextName) (y_wantsName := y_wantsName) (y_wantsTag := y_wantsTag) (y_printed := y_printed) (y_waiting := y_waiting) (y_scaled := y_scaled) (y_sort := y_sort) (y_typeA := y_typeA) (y_typeB := y_typeB) (y_typeC := y_typeC) (y_fieldName := y_fieldName) (y_fieldType := y_fieldType) (y_fields := y_fields) (y_tags := y_tags) (y_needed := y_needed) (y_text := y_text) (y_begin := bg) (y_end := en) (y_inside := g) (y_whole := wh) (y_kind := y_kind) (y_value := y_value) (y_parent := y_parent) (y_name := y_name) (y_slotOf := y_slotOf) (y_placeOf := y_placeOf) (y_complete := y_complete) (y_openNode := y_openNode) (y_openType := y_openType) (y_openCount := y_openCount) (y_openNames := y_openNames) (y_openChoice := y_openChoice) (y_output := y_output) (y_todo := y_todo) hL hb c with ⟨q, hW, ho⟩ | ⟨q, e, z, hX, ho⟩
      · have hle : b + 1 ≤ q := by obtain ⟨-, -, m', hm'⟩ := hW; exact ss_R_le hm'
        have hq := hW.1
        refine cons (q + 1) 4 d g q (by omega) (by omega) (by omega) I4 ⟨b, ⟨hb1, hsp⟩, hb, pk_us, pk_us, ?_⟩ (fun post n w => lg post n q (by omega) ho ?_)
        · exact Or.inr (Or.inr (Or.inr (Or.inr (Or.inl ⟨c, hx2, rfl, rfl, rfl, q, hW, pk_us, rfl⟩))))
        · rw [c]; exact br_t rfl (br_f (by decide) (br_f (by decide) (e23 _ True _ w)))
      · obtain ⟨rfl, hzL⟩ := ss_X_e hX
        refine cut e (by omega) ⟨b, ⟨hb1, hsp⟩, hb, pk_us, pk_us, Or.inr (Or.inr ⟨c, hx2, q, e, hX, pk_us⟩)⟩ (fun post hp => ct post e (by omega) ho ?_)
        rw [c]; exact br_t rfl (br_f (by decide) (br_f (by decide) (e23 _ True _ (br_t (nI_pos' (by omega)) hp))))
    · have nB : ¬ sp_B (y_text b) := by
        rw [c]; rintro (w | w)
        · exact absurd w.2 (by decide)
        · exact absurd w (by decide)
      refine cons (b + 1) 0 d g b (by omega) (by omega) (by omega) ⟨by omega, fun z => absurd z (by decide), fun z => absurd z (by decide), hI.2.2.2⟩ ⟨b, ⟨hb1, hsp⟩, hb, pk_us, pk_us, Or.inr (Or.inr (Or.inr (Or.inl ⟨c, hx2, rfl, rfl, rfl, pk_us, rfl⟩)))⟩ (fun post n w => one post n (by rw [c]; decide) nB ?_)
      rw [c]; exact br_t rfl (br_f (by decide) (br_t rfl w))
    · have nB : ¬ sp_B (y_text b) := by
        rw [c]; rintro (w | w)
        · exact absurd w.2 (by decide)
        · exact absurd w (by decide)
      have gd : g d = 12 ∨ g d = 10 := by
        obtain ⟨d', rfl⟩ : ∃ d', d = d' + 1 := ⟨d - 1, by omega⟩
        exact hI.2.2.2 d' (by omega)
      have ed : (nI d).toNatClampNeg = d := nI_clamp (by omega)
      rcases gd with e | e
      · refine cons (b + 1) 0 d g b (by omega) (by omega) (by omega) ⟨by omega, fun z => absurd z (by decide), fun z => absurd z (by decide), hI.2.2.2⟩ ⟨b, ⟨hb1, hsp⟩, hb, pk_us, pk_us, Or.inr (Or.inr (Or.inl ⟨c, hx2, hd0, rfl, rfl, Or.inl ⟨e, rfl⟩, pk_us, rfl⟩))⟩ (fun post n w => one post n (by rw [c]; decide) nB ?_)
        rw [c]
        refine br_t rfl (br_t rfl ⟨vp_in_nI (by omega) (by decide), ?_⟩)
        rw [ed]; exact br_t e w
      · refine cons (b + 1) 3 d g b (by omega) (by omega) (by omega) ⟨by omega, fun z => absurd z (by decide), fun _ => ⟨hd0, e⟩, hI.2.2.2⟩ ⟨b, ⟨hb1, hsp⟩, hb, pk_us, pk_us, Or.inr (Or.inr (Or.inl ⟨c, hx2, hd0, rfl, rfl, Or.inr ⟨e, rfl⟩, pk_us, rfl⟩))⟩ (fun post n w => one post n (by rw [c]; decide) nB ?_)
        rw [c]
        refine br_t rfl (br_t rfl ⟨vp_in_nI (by omega) (by decide), ?_⟩)
        rw [ed]; exact br_f (by rw [e]; decide) w
end
