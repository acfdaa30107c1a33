/-! the bind: how a value begins -/
/-- a value of kind K begins with c where the slot's type is qa, and S inside -/
def kc_R (qa S c : Int32) (K : Nat) : Prop :=
  (K = 0 ∧ sp_B c ∧ S = 1 ∧ ¬ qa = 8) ∨ (K = 1 ∧ c = 16 ∧ S = 2) ∨ (K = 2 ∧ (c = 28 ∨ c = 29) ∧ S = 3) ∨ (K = 3 ∧ c = 12 ∧ S = 4) ∨ (K = 4 ∧ c = 10 ∧ (S = 5 ∨ S = 6)) ∨ (K = 5 ∧ c = 27 ∧ qa = 7) ∨ (K = 6 ∧ sp_B c ∧ qa = 8)
/-- the type is defined -/
def kc_D (qa S : Int32) : Prop := (qa = 8 → S = 5) ∧ (¬ qa = 8 → ¬ S = 0 ∧ ¬ 7 ≤ S)
/-- the slot inside slot a -/
def kc_I (so tD : Nat → Int32) (a w : Nat) : Prop := a < 12 ∧ w < 12 ∧ (so a < 7 ∧ w = a ∨ ¬ so a < 7 ∧ tD a = nI w) ∧ (∃ j, j ≤ 8 ∧ so w = nI j) ∧ ∃ j, j ≤ 8 ∧ so a = nI j
section
variable {x_length x_nodeCount x_bound x_fault x_faultPlace x_mode x_at x_tokenStart x_textCount x_escaped x_valueSlot x_valueName x_depth x_outputLength : Int32} {x_text x_typeKind x_typeDetail x_typeLeast x_typeMost x_fieldCount x_fieldName x_fieldType x_fieldNeeded x_tagType x_nodeKind x_nodeValue x_nodeParent x_nodeName x_nodeSlot x_nodeStart x_nodeTag x_completeCount x_openNode x_openSlot x_openNames x_openNext x_openComma x_output : Nat → Int32} {a w : Nat} {c : Int32}
theorem si_x {post : Int32 → Prop} (h : kc_I x_typeKind x_typeDetail a w) (hp : post (nI w)) : wpX_slotInside post (x_length, x_nodeCount, x_bound, x_fault, x_faultPlace, x_mode, x_at, x_tokenStart, x_textCount, x_escaped, x_valueSlot, x_valueName, x_depth, x_outputLength, x_text, x_typeKind, x_typeDetail, x_typeLeast, x_typeMost, x_fieldCount, x_fieldName, x_fieldType, x_fieldNeeded, x_tagType, x_nodeKind, x_nodeValue, x_nodeParent, x_nodeName, x_nodeSlot, x_nodeStart, x_nodeTag, x_completeCount, x_openNode, x_openSlot, x_openNames, x_openNext, x_openComma, x_output) (nI a) := by
  obtain ⟨ha, hw, hi, -⟩ := h
  have ea : (nI a).toNatClampNeg = a := nI_clamp (by omega)
  have ia : vp_in (nI a) 12 := vp_in_nI ha (by decide)
  refine And.intro ia ?_
  rw [ea]
  rcases hi with ⟨h1, rfl⟩ | ⟨h1, h2⟩
  · exact br_t h1 hp
  · refine br_f h1 ⟨ia, ?_⟩
    rw [h2]; exact hp
theorem df_x {post : Int32 → Prop} (h : kc_I x_typeKind x_typeDetail a w) (h1 : kc_D (x_typeKind a) (x_typeKind w) → post 1) (h0 : ¬ kc_D (x_typeKind a) (x_typeKind w) → post 0) : wpX_isDefined post (x_length, x_nodeCount, x_bound, x_fault, x_faultPlace, x_mode, x_at, x_tokenStart, x_textCount, x_escaped, x_valueSlot, x_valueName, x_depth, x_outputLength, x_text, x_typeKind, x_typeDetail, x_typeLeast, x_typeMost, x_fieldCount, x_fieldName, x_fieldType, x_fieldNeeded, x_tagType, x_nodeKind, x_nodeValue, x_nodeParent, x_nodeName, x_nodeSlot, x_nodeStart, x_nodeTag, x_completeCount, x_openNode, x_openSlot, x_openNames, x_openNext, x_openComma, x_output) (nI a) := by
  have ea : (nI a).toNatClampNeg = a := nI_clamp (by have := h.1; omega)
  have ew : (nI w).toNatClampNeg = w := nI_clamp (by have := h.2.1; omega)
  unfold wpX_isDefined
  dsimp only
  rw [ea]
  refine si_x h ⟨vp_in_nI h.2.1 (by decide), ?_⟩
  rw [ew]
  refine nm_e ⟨vp_in_nI h.1 (by decide), ?_⟩
  by_cases e8 : x_typeKind a = 8
  · refine br_t e8 ?_
    by_cases e5 : x_typeKind w = 5
    · exact br_t e5 (h1 ⟨fun _ => e5, fun z => absurd e8 z⟩)
    · exact br_f e5 (h0 (fun z => e5 (z.1 e8)))
  · refine br_f e8 ?_
    by_cases e0 : x_typeKind w = 0
    · exact br_t e0 (h0 (fun z => (z.2 e8).1 e0))
    · refine br_f e0 ?_
      by_cases e7 : 7 ≤ x_typeKind w
      · exact br_t e7 (h0 (fun z => (z.2 e8).2 e7))
      · exact br_f e7 (h1 ⟨fun z => absurd z e8, fun _ => ⟨e0, e7⟩⟩)
theorem kb_x (h : kc_I x_typeKind x_typeDetail a w) (c0 : ¬ c < 0) : ∃ r : Int32, (∀ post : Int32 → Prop, post r → wpX_kindBegun post (x_length, x_nodeCount, x_bound, x_fault, x_faultPlace, x_mode, x_at, x_tokenStart, x_textCount, x_escaped, x_valueSlot, x_valueName, x_depth, x_outputLength, x_text, x_typeKind, x_typeDetail, x_typeLeast, x_typeMost, x_fieldCount, x_fieldName, x_fieldType, x_fieldNeeded, x_tagType, x_nodeKind, x_nodeValue, x_nodeParent, x_nodeName, x_nodeSlot, x_nodeStart, x_nodeTag, x_completeCount, x_openNode, x_openSlot, x_openNames, x_openNext, x_openComma, x_output) (nI a) c) ∧ (kc_D (x_typeKind a) (x_typeKind w) → (∃ K, K ≤ 6 ∧ r = nI K ∧ kc_R (x_typeKind a) (x_typeKind w) c K) ∨ (r = -1 ∧ ¬ ∃ K, kc_R (x_typeKind a) (x_typeKind w) c K)) := by
  have ea : (nI a).toNatClampNeg = a := nI_clamp (by have := h.1; omega)
  have ew : (nI w).toNatClampNeg = w := nI_clamp (by have := h.2.1; omega)
  have ia : vp_in (nI a) 12 := vp_in_nI h.1 (by decide)
  by_cases e7 : x_typeKind a = 7 ∧ c = 27
  · refine ⟨5, fun post hp => ?_, fun _ => Or.inl ⟨5, by omega, rfl, Or.inr (Or.inr (Or.inr (Or.inr (Or.inr (Or.inl ⟨rfl, e7.2, e7.1⟩)))))⟩⟩
    refine And.intro ia ?_
    rw [ea]; exact br_t e7.1 (br_t e7.2 hp)
  have t19 : ∀ post : Int32 → Prop, wX_kindBegun_19 post (nI a) c x_length x_nodeCount x_bound x_fault x_faultPlace x_mode x_at x_tokenStart x_textCount x_escaped x_valueSlot x_valueName x_depth x_outputLength x_text x_typeKind x_typeDetail x_typeLeast x_typeMost x_fieldCount x_fieldName x_fieldType x_fieldNeeded x_tagType x_nodeKind x_nodeValue x_nodeParent x_nodeName x_nodeSlot x_nodeStart x_nodeTag x_completeCount x_openNode x_openSlot x_openNames x_openNext x_openComma x_output → wpX_kindBegun post (x_length, x_nodeCount, x_bound, x_fault, x_faultPlace, x_mode, x_at, x_tokenStart, x_textCount, x_escaped, x_valueSlot, x_valueName, x_depth, x_outputLength, x_text, x_typeKind, x_typeDetail, x_typeLeast, x_typeMost, x_fieldCount, x_fieldName, x_fieldType, x_fieldNeeded, x_tagType, x_nodeKind, x_nodeValue, x_nodeParent, x_nodeName, x_nodeSlot, x_nodeStart, x_nodeTag, x_completeCount, x_openNode, x_openSlot, x_openNames, x_openNext, x_openComma, x_output) (nI a) c := by
    intro post w
    refine And.intro ia ?_
    rw [ea]
    by_cases q : x_typeKind a = 7
    · exact br_t q (br_f (fun z => e7 ⟨q, z⟩) w)
    · exact br_f q w
  by_cases e8 : x_typeKind a = 8 ∧ sp_B c
  · refine ⟨6, fun post hp => t19 post ?_, fun _ => Or.inl ⟨6, by omega, rfl, Or.inr (Or.inr (Or.inr (Or.inr (Or.inr (Or.inr ⟨rfl, e8.2, e8.1⟩)))))⟩⟩
    refine And.intro ia ?_
    rw [ea]; exact br_t e8.1 (bv_num e8.2 c0 (br_f (by decide) hp))
  have t40 : ∀ post : Int32 → Prop, wX_kindBegun_40 post (nI a) c x_length x_nodeCount x_bound x_fault x_faultPlace x_mode x_at x_tokenStart x_textCount x_escaped x_valueSlot x_valueName x_depth x_outputLength x_text x_typeKind x_typeDetail x_typeLeast x_typeMost x_fieldCount x_fieldName x_fieldType x_fieldNeeded x_tagType x_nodeKind x_nodeValue x_nodeParent x_nodeName x_nodeSlot x_nodeStart x_nodeTag x_completeCount x_openNode x_openSlot x_openNames x_openNext x_openComma x_output → wpX_kindBegun post (x_length, x_nodeCount, x_bound, x_fault, x_faultPlace, x_mode, x_at, x_tokenStart, x_textCount, x_escaped, x_valueSlot, x_valueName, x_depth, x_outputLength, x_text, x_typeKind, x_typeDetail, x_typeLeast, x_typeMost, x_fieldCount, x_fieldName, x_fieldType, x_fieldNeeded, x_tagType, x_nodeKind, x_nodeValue, x_nodeParent, x_nodeName, x_nodeSlot, x_nodeStart, x_nodeTag, x_completeCount, x_openNode, x_openSlot, x_openNames, x_openNext, x_openComma, x_output) (nI a) c := by
    intro post w
    refine t19 post (And.intro ia ?_)
    rw [ea]
    by_cases q : x_typeKind a = 8
    · exact br_t q (bv_nn (fun z => e8 ⟨q, z⟩) c0 (br_t rfl w))
    · exact br_f q w
  obtain ⟨j, hj, eS⟩ := h.2.2.2.1
  have t41 : ∀ post : Int32 → Prop, (∀ kk : Int32, kk = nI j → ((kk < 1 → ((c = 10 → post 4) ∧ (¬ c = 10 → post (-1)))) ∧ (¬ kk < 1 → ((4 < kk → ((c = 10 → post 4) ∧ (¬ c = 10 → post (-1)))) ∧ (¬ 4 < kk → ((kk = 1 → wpX_beginsNumber (fun r_51 => ((r_51 = 0 → post (-1)) ∧ (¬ r_51 = 0 → post 0))) c) ∧ (¬ kk = 1 → ((kk = 2 → ((c = 16 → post 1) ∧ (¬ c = 16 → post (-1)))) ∧ (¬ kk = 2 → ((kk = 3 → ((c = 28 → post 2) ∧ (¬ c = 28 → ((c = 29 → post 2) ∧ (¬ c = 29 → post (-1)))))) ∧ (¬ kk = 3 → ((kk = 4 → ((c = 12 → post 3) ∧ (¬ c = 12 → post (-1)))) ∧ (¬ kk = 4 → True))))))))))))) → wpX_kindBegun post (x_length, x_nodeCount, x_bound, x_fault, x_faultPlace, x_mode, x_at, x_tokenStart, x_textCount, x_escaped, x_valueSlot, x_valueName, x_depth, x_outputLength, x_text, x_typeKind, x_typeDetail, x_typeLeast, x_typeMost, x_fieldCount, x_fieldName, x_fieldType, x_fieldNeeded, x_tagType, x_nodeKind, x_nodeValue, x_nodeParent, x_nodeName, x_nodeSlot, x_nodeStart, x_nodeTag, x_completeCount, x_openNode, x_openSlot, x_openNames, x_openNext, x_openComma, x_output) (nI a) c := by
    intro post hk
    refine t40 post ?_
    unfold wX_kindBegun_40
    refine si_x h ⟨vp_in_nI h.2.1 (by decide), ?_⟩
    rw [ew, eS]
    exact hk
  have nb8 : ∀ S : Int32, x_typeKind w = S → kc_D (x_typeKind a) (x_typeKind w) → ¬ S = 5 → ¬ x_typeKind a = 8 := fun S e D n q => n (e.symm.trans (D.1 q))
  have nK : ∀ S : Int32, x_typeKind w = S → (S = 1 → ¬ sp_B c) → (S = 2 → ¬ c = 16) → (S = 3 → ¬ (c = 28 ∨ c = 29)) → (S = 4 → ¬ c = 12) → (S = 5 ∨ S = 6 → ¬ c = 10) → ¬ ∃ K, kc_R (x_typeKind a) (x_typeKind w) c K := by
    intro S e k1 k2 k3 k4 k5
    rw [e]
    rintro ⟨K, q | q | q | q | q | q | q⟩
    · exact k1 q.2.2.1 q.2.1
    · exact k2 q.2.2 q.2.1
    · exact k3 q.2.2 q.2.1
    · exact k4 q.2.2 q.2.1
    · exact k5 q.2.2 q.2.1
    · exact e7 ⟨q.2.2, q.2.1⟩
    · exact e8 ⟨q.2.2, q.2.1⟩
  have hjc : j = 0 ∨ j = 1 ∨ j = 2 ∨ j = 3 ∨ j = 4 ∨ j = 5 ∨ j = 6 ∨ j = 7 ∨ j = 8 := by omega
  rcases hjc with rfl | rfl | rfl | rfl | rfl | rfl | rfl | rfl | rfl
  · by_cases z : c = 10
    · refine ⟨4, fun post hp => t41 post (fun kk e => ?_), fun D => ?_⟩
      · subst e; exact br_t (by decide) (br_t z hp)
      · rw [eS] at D
        by_cases q : x_typeKind a = 8
        · exact absurd (D.1 q) (by decide)
        · exact absurd rfl (D.2 q).1
    · refine ⟨-1, fun post hp => t41 post (fun kk e => ?_), fun D => ?_⟩
      · subst e; exact br_t (by decide) (br_f z hp)
      · rw [eS] at D
        by_cases q : x_typeKind a = 8
        · exact absurd (D.1 q) (by decide)
        · exact absurd rfl (D.2 q).1
  · by_cases z : sp_B c
    · refine ⟨0, fun post hp => t41 post (fun kk e => ?_), fun D => Or.inl ⟨0, by omega, rfl, Or.inl ⟨rfl, z, eS, nb8 _ eS D (by decide)⟩⟩⟩
      subst e; exact br_f (by decide) (br_f (by decide) (br_t rfl (bv_num z c0 (br_f (by decide) hp))))
    · refine ⟨-1, fun post hp => t41 post (fun kk e => ?_), fun D => Or.inr ⟨rfl, nK _ eS (fun _ => z) (fun q => absurd q (by decide)) (fun q => absurd q (by decide)) (fun q => absurd q (by decide)) (fun q => absurd q (by decide))⟩⟩
      subst e; exact br_f (by decide) (br_f (by decide) (br_t rfl (bv_nn z c0 (br_t rfl hp))))
  · by_cases z : c = 16
    · refine ⟨1, fun post hp => t41 post (fun kk e => ?_), fun D => Or.inl ⟨1, by omega, rfl, Or.inr (Or.inl ⟨rfl, z, eS⟩)⟩⟩
      subst e; exact br_f (by decide) (br_f (by decide) (br_f (by decide) (br_t rfl (br_t z hp))))
    · refine ⟨-1, fun post hp => t41 post (fun kk e => ?_), fun D => Or.inr ⟨rfl, nK _ eS (fun q => absurd q (by decide)) (fun _ => z) (fun q => absurd q (by decide)) (fun q => absurd q (by decide)) (fun q => absurd q (by decide))⟩⟩
      subst e; exact br_f (by decide) (br_f (by decide) (br_f (by decide) (br_t rfl (br_f z hp))))
  · by_cases z : c = 28 ∨ c = 29
    · refine ⟨2, fun post hp => t41 post (fun kk e => ?_), fun D => Or.inl ⟨2, by omega, rfl, Or.inr (Or.inr (Or.inl ⟨rfl, z, eS⟩))⟩⟩
      subst e
      refine br_f (by decide) (br_f (by decide) (br_f (by decide) (br_f (by decide) (br_t rfl ?_))))
      by_cases z1 : c = 28
      · exact br_t z1 hp
      · exact br_f z1 (br_t (z.resolve_left z1) hp)
    · refine ⟨-1, fun post hp => t41 post (fun kk e => ?_), fun D => Or.inr ⟨rfl, nK _ eS (fun q => absurd q (by decide)) (fun q => absurd q (by decide)) (fun _ => z) (fun q => absurd q (by decide)) (fun q => absurd q (by decide))⟩⟩
      subst e; exact br_f (by decide) (br_f (by decide) (br_f (by decide) (br_f (by decide) (br_t rfl (br_f (fun y => z (Or.inl y)) (br_f (fun y => z (Or.inr y)) hp))))))
  · by_cases z : c = 12
    · refine ⟨3, fun post hp => t41 post (fun kk e => ?_), fun D => Or.inl ⟨3, by omega, rfl, Or.inr (Or.inr (Or.inr (Or.inl ⟨rfl, z, eS⟩)))⟩⟩
      subst e; exact br_f (by decide) (br_f (by decide) (br_f (by decide) (br_f (by decide) (br_f (by decide) (br_t rfl (br_t z hp))))))
    · refine ⟨-1, fun post hp => t41 post (fun kk e => ?_), fun D => Or.inr ⟨rfl, nK _ eS (fun q => absurd q (by decide)) (fun q => absurd q (by decide)) (fun q => absurd q (by decide)) (fun _ => z) (fun q => absurd q (by decide))⟩⟩
      subst e; exact br_f (by decide) (br_f (by decide) (br_f (by decide) (br_f (by decide) (br_f (by decide) (br_t rfl (br_f z hp))))))
  · by_cases z : c = 10
    · refine ⟨4, fun post hp => t41 post (fun kk e => ?_), fun D => Or.inl ⟨4, by omega, rfl, Or.inr (Or.inr (Or.inr (Or.inr (Or.inl ⟨rfl, z, Or.inl eS⟩))))⟩⟩
      subst e; exact br_f (by decide) (br_t (by decide) (br_t z hp))
    · refine ⟨-1, fun post hp => t41 post (fun kk e => ?_), fun D => Or.inr ⟨rfl, nK _ eS (fun q => absurd q (by decide)) (fun q => absurd q (by decide)) (fun q => absurd q (by decide)) (fun q => absurd q (by decide)) (fun _ => z)⟩⟩
      subst e; exact br_f (by decide) (br_t (by decide) (br_f z hp))
  · by_cases z : c = 10
    · refine ⟨4, fun post hp => t41 post (fun kk e => ?_), fun D => Or.inl ⟨4, by omega, rfl, Or.inr (Or.inr (Or.inr (Or.inr (Or.inl ⟨rfl, z, Or.inr eS⟩))))⟩⟩
      subst e; exact br_f (by decide) (br_t (by decide) (br_t z hp))
    · refine ⟨-1, fun post hp => t41 post (fun kk e => ?_), fun D => Or.inr ⟨rfl, nK _ eS (fun q => absurd q (by decide)) (fun q => absurd q (by decide)) (fun q => absurd q (by decide)) (fun q => absurd q (by decide)) (fun _ => z)⟩⟩
      subst e; exact br_f (by decide) (br_t (by decide) (br_f z hp))
  all_goals
    by_cases z : c = 10
    · refine ⟨4, fun post hp => t41 post (fun kk e => ?_), fun D => ?_⟩
      · subst e; exact br_f (by decide) (br_t (by decide) (br_t z hp))
      · rw [eS] at D
        by_cases q : x_typeKind a = 8
        · exact absurd (D.1 q) (by decide)
        · exact absurd (by decide) (D.2 q).2
    · refine ⟨-1, fun post hp => t41 post (fun kk e => ?_), fun D => ?_⟩
      · subst e; exact br_f (by decide) (br_t (by decide) (br_f z hp))
      · rw [eS] at D
        by_cases q : x_typeKind a = 8
        · exact absurd (D.1 q) (by decide)
        · exact absurd (by decide) (D.2 q).2
end
