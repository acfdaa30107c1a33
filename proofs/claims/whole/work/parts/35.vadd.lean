/-! the bind: a new node among the others -/
/-- where a new node hangs: nowhere, in a list, in a record -/
def pr_F (d N : Nat) (g kd vl pa nm on om oc : Nat → Int32) (x3 x4 : Int32) (vl1 oc1 : Nat → Int32) : Prop :=
  (d = 0 ∧ N = 0 ∧ x3 = -1 ∧ x4 = -1 ∧ vl1 = vl ∧ oc1 = oc) ∨
  (∃ d' n j, d = d' + 1 ∧ n < N ∧ on d' = nI n ∧ g d = 12 ∧ x3 = nI n ∧ x4 = nI j ∧ j < 20 ∧ vl n = nI j ∧ kd n = 3 ∧ vl1 = upd vl n (nI (j + 1)) ∧ oc1 = upd oc d' (nI (j + 1))) ∨
  (∃ d' n j M, d = d' + 1 ∧ n < N ∧ on d' = nI n ∧ g d = 10 ∧ x3 = nI n ∧ x4 = nI j ∧ j < 6 ∧ kd n = 4 ∧ om d' = nI M ∧ M < 64 ∧ M.testBit j = true ∧ (∀ c, c < N → pa c = nI n → nm c ≠ nI j) ∧ vl1 = vl ∧ oc1 = oc)
theorem nd_add {t so bg en : Nat → Int32} {L N d : Nat} {g kd vl pa nm sl st tg on om oc vl1 oc1 : Nat → Int32} {dp : Nat → Nat} {op op' : Nat → Prop} {x3 x4 v : Int32} (hA : nd_A t so bg en L N kd vl pa nm sl st tg dp op) (hN : N < 40) (hop : ∀ i, i < N → ¬ op i) (hp : pr_F d N g kd vl pa nm on om oc x3 x4 vl1 oc1) (hdp : ∀ d' n, d = d' + 1 → on d' = nI n → n < N → dp n = d') {K s b : Nat} (hK : K ≤ 6) (hs : s < 12) (hb : b < L) (hd : K = 3 ∨ K = 4 → d ≤ 5) (h0 : K = 0 → so s = 1) (h1 : K = 1 → t b = 16 ∧ ∃ q, ss_W t L (b + 1) q) (h3 : K = 3 → so s = 4 ∧ v = nI 0) (h4 : K = 4 → so s = 5 ∨ so s = 6 ∧ op' N) :
    nd_A t so bg en L (N + 1) (upd kd N (nI K)) (upd vl1 N v) (upd pa N x3) (upd nm N x4) (upd sl N (nI s)) (upd st N (nI b)) (upd tg N (-1)) (fun i => if i = N then d else dp i) op' := by
  -- parents of the old ones lie below N
  have pal : ∀ c, c < N → pa c ≠ nI N := by
    intro c hc e
    obtain ⟨k, s', b', -, -, -, -, -, -, h7, -⟩ := hA.2.1 c hc
    rcases h7 with ⟨-, h, -⟩ | ⟨p, j, h1, h2, h3, -⟩
    · rw [h] at e; exact hh_m1' (by omega) e
    · rw [h3] at e
      have := hh_i (by omega) (by omega) e
      omega
  have x3l : x3 ≠ nI N := by
    rcases hp with h | ⟨d', n, j, h⟩ | ⟨d', n, j, M, h⟩
    · rw [h.2.2.1]; exact hh_m1' (by omega)
    · rw [h.2.2.2.2.1]; intro e; have := hh_i (by omega) (by omega) e; have := h.2.1; omega
    · rw [h.2.2.2.2.1]; intro e; have := hh_i (by omega) (by omega) e; have := h.2.1; omega
  -- values of the old ones
  have vls : ∀ i, i < N → x3 ≠ nI i → vl1 i = vl i := by
    intro i hi ne
    rcases hp with h | ⟨d', n, j, h⟩ | ⟨d', n, j, M, h⟩
    · rw [h.2.2.2.2.1]
    · obtain ⟨-, -, -, -, e3, -, -, -, -, e, -⟩ := h
      rw [e]
      exact pk_un (fun z => ne (by rw [e3, z]))
    · obtain ⟨-, -, -, -, -, -, -, -, -, -, -, -, e, -⟩ := h
      rw [e]
  refine ⟨by omega, fun i hi => ?_, fun c c' hc hc' e1 e2 => ?_⟩
  · by_cases z : i = N
    · subst z
      refine ⟨K, s, b, hK, hs, hb, pk_us, pk_us, pk_us, ?_, ?_, h0, h1, ?_, ?_⟩
      · rcases hp with h | ⟨d', n, j, h⟩ | ⟨d', n, j, M, h⟩
        · refine Or.inl ⟨h.2.1, ?_, ?_, ?_⟩
          · rw [pk_us]; exact h.2.2.1
          · rw [pk_us]; exact h.2.2.2.1
          · show (if i = i then d else dp i) = 0
            rw [if_pos rfl]; exact h.1
        · obtain ⟨q1, q2, q3, -, q5, q6, q7, -, q9, -⟩ := h
          refine Or.inr ⟨n, j, q2, by omega, by rw [pk_us]; exact q5, by rw [pk_us]; exact q6, ?_, Or.inl (by rw [pk_un (by omega)]; exact q9)⟩
          show (if i = i then d else dp i) = (if n = i then d else dp n) + 1
          rw [if_pos rfl, if_neg (by omega), hdp d' n q1 q3 q2, q1]
        · obtain ⟨q1, q2, q3, -, q5, q6, q7, q9, -⟩ := h
          refine Or.inr ⟨n, j, q2, by omega, by rw [pk_us]; exact q5, by rw [pk_us]; exact q6, ?_, Or.inr (by rw [pk_un (by omega)]; exact q9)⟩
          show (if i = i then d else dp i) = (if n = i then d else dp n) + 1
          rw [if_pos rfl, if_neg (by omega), hdp d' n q1 q3 q2, q1]
      · intro k34
        show (if i = i then d else dp i) ≤ 5
        rw [if_pos rfl]; exact hd k34
      · intro k3
        refine ⟨(h3 k3).1, pk_us, 0, by omega, by rw [pk_us]; exact (h3 k3).2, fun j hj => absurd hj (by omega), fun c hc e => ?_⟩
        exfalso
        by_cases y : c = i
        · subst y; rw [pk_us] at e; exact x3l e
        · rw [pk_un y] at e; exact pal c (by omega) e
      · intro k4
        rcases h4 k4 with h | h
        · exact Or.inl ⟨h, pk_us⟩
        · exact Or.inr (Or.inl ⟨h.1, pk_us, h.2⟩)
    · have hi' : i < N := by omega
      obtain ⟨k, s', b', g1, g2, g3, g4, g5, g6, g7, g8, g9, g10, g11, g12⟩ := hA.2.1 i hi'
      refine ⟨k, s', b', g1, g2, g3, by rw [pk_un z]; exact g4, by rw [pk_un z]; exact g5, by rw [pk_un z]; exact g6, ?_, ?_, g9, g10, ?_, ?_⟩
      · rw [pk_un z, pk_un z]
        rcases g7 with ⟨q1, q2, q3, q4⟩ | ⟨p, j, q1, q2, q3, q4, q5, q6⟩
        · refine Or.inl ⟨q1, q2, q3, ?_⟩
          show (if i = N then d else dp i) = 0
          rw [if_neg z]; exact q4
        · refine Or.inr ⟨p, j, q1, q2, q3, q4, ?_, by rw [pk_un (by omega)]; exact q6⟩
          show (if i = N then d else dp i) = (if p = N then d else dp p) + 1
          rw [if_neg z, if_neg (by omega)]; exact q5
      · intro k34
        show (if i = N then d else dp i) ≤ 5
        rw [if_neg z]; exact g8 k34
      · intro k3
        obtain ⟨r1, r2, m, r3, r4, r5, r6⟩ := g11 k3
        rw [pk_un z, pk_un z]
        refine ⟨r1, r2, ?_⟩
        by_cases pe : x3 = nI i
        · -- the list grows
          rcases hp with h | ⟨d', n, j, h⟩ | ⟨d', n, j, M, h⟩
          · rw [h.2.2.1] at pe; exact absurd pe (hh_m1' (by omega))
          · obtain ⟨q1, q2, q3, -, q5, q6, q7, q8, q9, q10, -⟩ := h
            have en : n = i := hh_i (by omega) (by omega) (q5.symm.trans pe)
            subst en
            have em : m = j := hh_i (by omega) (by omega) (r4.symm.trans q8)
            subst em
            refine ⟨m + 1, by omega, by rw [q10, pk_us], fun j hj => ?_, fun c hc e => ?_⟩
            · by_cases y : j = m
              · subst y
                exact ⟨N, by omega, by rw [pk_us]; exact pe, by rw [pk_us]; exact q6⟩
              · obtain ⟨c, hc, e1, e2⟩ := r5 j (by omega)
                exact ⟨c, by omega, by rw [pk_un (by omega)]; exact e1, by rw [pk_un (by omega)]; exact e2⟩
            · by_cases y : c = N
              · subst y
                exact ⟨m, by omega, by rw [pk_us]; exact q6⟩
              · rw [pk_un y] at e ⊢
                obtain ⟨j, hj, e2⟩ := r6 c (by omega) e
                exact ⟨j, by omega, e2⟩
          · obtain ⟨q1, q2, q3, -, q5, q6, q7, q8, -⟩ := h
            have en : n = i := hh_i (by omega) (by omega) (q5.symm.trans pe)
            subst en
            rw [k3] at g4
            rw [q8] at g4
            exact absurd g4 (by decide)
        · refine ⟨m, r3, by rw [vls i hi' pe]; exact r4, fun j hj => ?_, fun c hc e => ?_⟩
          · obtain ⟨c, hc, e1, e2⟩ := r5 j hj
            exact ⟨c, by omega, by rw [pk_un (by omega)]; exact e1, by rw [pk_un (by omega)]; exact e2⟩
          · by_cases y : c = N
            · subst y; rw [pk_us] at e; exact absurd e pe
            · rw [pk_un y] at e ⊢; exact r6 c (by omega) e
      · intro k4
        rw [pk_un z, pk_un z]
        rcases g12 k4 with q | q | q
        · exact Or.inl q
        · exact absurd q.2.2 (hop i hi')
        · obtain ⟨q1, g, r, K', ok, p1, p2, p3, p4, p5⟩ := q
          refine Or.inr (Or.inr ⟨q1, g, r, K', ok, p1, p2, p3, ?_, p5⟩)
          by_cases pe : x3 = nI i
          · rcases hp with h | ⟨d', n, j, h⟩ | ⟨d', n, j, M, h⟩
            · rw [h.2.2.1] at pe; exact absurd pe (hh_m1' (by omega))
            · obtain ⟨-, q2, -, -, q5, -, -, -, q9, -⟩ := h
              have en : n = i := hh_i (by omega) (by omega) (q5.symm.trans pe)
              subst en
              rw [k4] at g4; rw [q9] at g4; exact absurd g4 (by decide)
            · obtain ⟨-, -, -, -, -, -, -, -, -, -, -, -, e, -⟩ := h
              rw [e]; exact p4
          · rw [vls i hi' pe]; exact p4
  · -- names are told apart
    have nw : ∀ c, c < N → pa c = x3 → nm c ≠ x4 := by
      intro c hc e
      rcases hp with h | ⟨d', n, j, h⟩ | ⟨d', n, j, M, h⟩
      · have := h.2.1; omega
      · obtain ⟨q1, q2, q3, -, q5, q6, q7, q8, q9, -⟩ := h
        obtain ⟨k, s', b', gk, -, -, g4, -, -, -, -, -, -, g11, -⟩ := hA.2.1 n q2
        have hk3 : k = 3 := hh_i (by omega) (by decide) (m := 3) (g4.symm.trans q9)
        obtain ⟨-, -, m, r3, r4, r5, r6⟩ := g11 hk3
        have em : m = j := hh_i (by omega) (by omega) (r4.symm.trans q8)
        obtain ⟨j', hj', e2⟩ := r6 c hc (e.trans q5)
        rw [e2, q6]
        intro w
        have := hh_i (by omega) (by omega) w
        omega
      · obtain ⟨-, -, -, -, q5, q6, -, -, -, -, -, q, -⟩ := h
        rw [q6]; exact q c hc (e.trans q5)
    by_cases z : c = N
    · by_cases z' : c' = N
      · omega
      · subst z
        rw [pk_us, pk_un z'] at e1 e2
        exact absurd e2.symm (nw c' (by omega) e1.symm)
    · by_cases z' : c' = N
      · subst z'
        rw [pk_us, pk_un z] at e1 e2
        exact absurd e2 (nw c (by omega) e1)
      · rw [pk_un z, pk_un z'] at e1 e2
        exact hA.2.2 c c' (by omega) (by omega) e1 e2
/-- the open levels keep -/
theorem lv_add {so : Nat → Int32} {N d : Nat} {g kd vl pa nm sl tg : Nat → Int32} {dp : Nat → Nat} {on os om on' ot oc om' och vl1 oc1 : Nat → Int32} {x3 x4 v : Int32} {l K s : Nat} (hN : N < 40) (h : lv_F so N d g kd vl pa nm sl tg dp on os om on' ot oc om' och l) (hl : l < d) (hp : pr_F d N g kd vl pa nm on om oc x3 x4 vl1 oc1) (hdp : ∀ d' n, d = d' + 1 → on d' = nI n → n < N → dp n = d') :
    lv_F so (N + 1) d g (upd kd N (nI K)) (upd vl1 N v) (upd pa N x3) (upd nm N x4) (upd sl N (nI s)) (upd tg N (-1)) (fun i => if i = N then d else dp i) on os om on' ot oc1 om' och l := by
  obtain ⟨n, s', h1, h2, h3, h4, h5, h6, h7, K'⟩ := h
  have ne : n ≠ N := by omega
  refine ⟨n, s', by omega, h2, h3, h4, ?_, h6, by rw [pk_un ne]; exact h7, ?_⟩
  · show (if n = N then d else dp n) = l
    rw [if_neg ne]; exact h5
  rw [pk_un ne, pk_un ne, pk_un ne]
  rcases K' with ⟨k1, k2, k3, k4, k5⟩ | ⟨k1, k2, k3, ⟨M, hM, eM, hch⟩, K'⟩
  · refine Or.inl ⟨k1, k2, k3, k4, ?_⟩
    rcases hp with q | ⟨d', n', j, q⟩ | ⟨d', n', j, M', q⟩
    · omega
    · obtain ⟨q1, q2, q3, -, q5, -, -, q8, -, q10, q11⟩ := q
      rw [q10, q11]
      by_cases z : l = d'
      · subst z
        have en : n = n' := hh_i (by omega) (by omega) (h3.symm.trans q3)
        subst en
        rw [pk_us, pk_us]
      · have nn : n ≠ n' := by
          rintro rfl
          exact z (h5.symm.trans (hdp d' n q1 q3 q2))
        rw [pk_un z, pk_un nn]; exact k5
    · obtain ⟨-, -, -, -, -, -, -, -, -, -, -, -, e1, e2⟩ := q
      rw [e1, e2]; exact k5
  · refine Or.inr ⟨k1, k2, k3, ⟨M, hM, eM, fun c hc e => ?_⟩, K'⟩
    by_cases z : c = N
    · subst z
      rw [pk_us] at e ⊢
      rcases hp with q | ⟨d', n', j, q⟩ | ⟨d', n', j, M', q⟩
      · omega
      · obtain ⟨q1, q2, q3, -, q5, -, -, -, q9, -⟩ := q
        have en : n' = n := hh_i (by omega) (by omega) (q5.symm.trans e)
        subst en
        rw [k2] at q9; exact absurd q9 (by decide)
      · obtain ⟨q1, q2, q3, -, q5, q6, q7, -, q9, q10, q11, -⟩ := q
        have en : n' = n := hh_i (by omega) (by omega) (q5.symm.trans e)
        subst en
        have ld : l = d' := h5.symm.trans (hdp d' n' q1 q3 q2)
        subst ld
        have eMM : M' = M := hh_i (by omega) (by omega) (q9.symm.trans eM)
        subst eMM
        exact ⟨j, q7, q6, q11⟩
    · rw [pk_un z] at e ⊢
      exact hch c (by omega) e
/-- the values of both sides -/
theorem pe_add {N d : Nat} {g kd vl pa nm on om oc vl1 oc1 vl' : Nat → Int32} {x3 x4 v : Int32} (hN : N < 40) (hp : pr_F d N g kd vl pa nm on om oc x3 x4 vl1 oc1) (e : pe_N N vl vl') : (∃ n j, n < N ∧ x3 = nI n ∧ kd n = 3 ∧ vl n = nI j ∧ vl1 = upd vl n (nI (j + 1)) ∧ pe_N (N + 1) (upd vl1 N v) (upd (upd vl' N v) n (nI (j + 1)))) ∨ ((x3 = -1 ∨ ∃ n, n < N ∧ x3 = nI n ∧ kd n = 4) ∧ vl1 = vl ∧ pe_N (N + 1) (upd vl1 N v) (upd vl' N v)) := by
  rcases hp with q | ⟨d', n, j, q⟩ | ⟨d', n, j, M, q⟩
  · refine Or.inr ⟨Or.inl q.2.2.1, q.2.2.2.2.1, ?_⟩
    rw [q.2.2.2.2.1]; exact pe_s e
  · obtain ⟨q1, q2, q3, -, q5, q6, q7, q8, q9, q10, -⟩ := q
    refine Or.inl ⟨n, j, q2, q5, q9, q8, q10, ?_⟩
    rw [q10]
    intro i hi
    by_cases z : i = N
    · subst z
      rw [pk_un (by omega), pk_us, pk_us]
    · by_cases y : i = n
      · subst y
        rw [pk_us, pk_un z, pk_us]
      · rw [pk_un y, pk_un z, pk_un z, pk_un y]; exact e i (by omega)
  · obtain ⟨-, q2, -, -, q5, -, -, q8, -, -, -, -, e1, -⟩ := q
    refine Or.inr ⟨Or.inr ⟨n, q2, q5, q8⟩, e1, ?_⟩
    rw [e1]; exact pe_s e
