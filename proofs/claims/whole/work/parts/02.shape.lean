/-! shapes of the text's parts: strings, numbers, the row of parts -/
def tt_at (t : Nat → Int32) (L p : Nat) : Int32 := if p < L then t p else -1
theorem tt_in {t : Nat → Int32} {L p : Nat} (h : p < L) : tt_at t L p = t p := if_pos h
theorem tt_out {t : Nat → Int32} {L p : Nat} (h : L ≤ p) : tt_at t L p = -1 := if_neg (by omega)
/-- every character is one of 0..31 -/
def tt_C (t : Nat → Int32) : Prop := ∀ i, ∃ c, c < 32 ∧ t i = nI c
/-- a unit of a string from i to j -/
def ss_G (t : Nat → Int32) (L i j : Nat) : Prop :=
  (i < L ∧ t i ≠ 16 ∧ t i ≠ 30 ∧ j = i + 1) ∨ (i + 1 < L ∧ t i = 30 ∧ (t (i + 1) = 16 ∨ t (i + 1) = 30) ∧ j = i + 2)
/-- m units from i to q -/
def ss_R (t : Nat → Int32) (L : Nat) : Nat → Nat → Nat → Prop
  | 0, i, q => i = q
  | m + 1, i, q => ∃ j, ss_G t L i j ∧ ss_R t L m j q
/-- a string whose first character behind the quote is i ends at the quote q -/
def ss_W (t : Nat → Int32) (L i q : Nat) : Prop := q < L ∧ t q = 16 ∧ ∃ m, ss_R t L m i q
/-- a string cut off: its units go to q, e is the last that stands, z the place of the fault -/
def ss_X (t : Nat → Int32) (L i q e z : Nat) : Prop :=
  (∃ m, ss_R t L m i q) ∧ ((q = L ∧ e + 1 = L ∧ z = L) ∨ (q + 1 = L ∧ t q = 30 ∧ e = q ∧ z = L) ∨ (q + 1 < L ∧ t q = 30 ∧ t (q + 1) ≠ 16 ∧ t (q + 1) ≠ 30 ∧ e = q ∧ z = q + 1))
/-- digits from i up to j -/
def ns_D (t : Nat → Int32) (L i j : Nat) : Prop := i ≤ j ∧ j ≤ L ∧ ∀ k, i ≤ k → k < j → t k ≤ 9
/-- no digit at j -/
def ns_N (t : Nat → Int32) (L j : Nat) : Prop := L ≤ j ∨ 9 < t j
/-- the whole part of a number that begins at b: digits from i to a -/
def ns_I (t : Nat → Int32) (L b i a : Nat) : Prop :=
  (t b = 17 ∧ i = b + 1 ∨ t b ≤ 9 ∧ i = b) ∧ i < L ∧ t i ≤ 9 ∧ (t i = 0 ∧ a = i + 1 ∨ t i ≠ 0 ∧ i < a ∧ ns_D t L i a ∧ ns_N t L a)
/-- its fraction, from a to e -/
def ns_F (t : Nat → Int32) (L a e : Nat) : Prop :=
  (¬ (a < L ∧ t a = 18) ∧ e = a) ∨ (a < L ∧ t a = 18 ∧ a + 1 < e ∧ ns_D t L (a + 1) e ∧ ns_N t L e)
/-- where its power's digits begin -/
def ns_S (t : Nat → Int32) (L e s : Nat) : Prop :=
  s = e + 1 ∧ ¬ (e + 1 < L ∧ (t (e + 1) = 17 ∨ t (e + 1) = 31)) ∨ s = e + 2 ∧ e + 1 < L ∧ (t (e + 1) = 17 ∨ t (e + 1) = 31)
/-- its power, from e to q -/
def ns_E (t : Nat → Int32) (L e s q : Nat) : Prop :=
  (¬ (e < L ∧ t e = 19) ∧ q = e) ∨ (e < L ∧ t e = 19 ∧ ns_S t L e s ∧ s < q ∧ ns_D t L s q ∧ ns_N t L q)
/-- a number from b to q -/
def ns_W (t : Nat → Int32) (L b q : Nat) : Prop := ∃ i a e s, ns_I t L b i a ∧ ns_F t L a e ∧ ns_E t L e s q
/-- a number from b that is cut off at z -/
def ns_X (t : Nat → Int32) (L b z : Nat) : Prop :=
  (t b = 17 ∧ z = b + 1 ∧ ns_N t L (b + 1)) ∨
  (∃ i a, ns_I t L b i a ∧ a < L ∧ t a = 18 ∧ z = a + 1 ∧ ns_N t L (a + 1)) ∨
  (∃ i a e, ns_I t L b i a ∧ ns_F t L a e ∧ e < L ∧ t e = 19 ∧ ns_S t L e z ∧ ns_N t L z)
/-- a character that begins a value -/
def sp_V (c : Int32) : Prop := (0 ≤ c ∧ c ≤ 9) ∨ c = 10 ∨ c = 12 ∨ c = 16 ∨ c = 17 ∨ c = 27 ∨ c = 28 ∨ c = 29
/-- a number's first character -/
def sp_B (c : Int32) : Prop := (0 ≤ c ∧ c ≤ 9) ∨ c = 17
/-- spaces from p up to b -/
def sp_S (t : Nat → Int32) (p b : Nat) : Prop := p ≤ b ∧ ∀ i, p ≤ i → i < b → t i = 20
/-- c closes the level -/
def sp_C (x d : Nat) (g : Nat → Int32) (c : Int32) : Prop :=
  (c = 13 ∧ (x = 1 ∨ x = 5 ∧ 0 < d ∧ g d = 12)) ∨ (c = 11 ∧ (x = 2 ∨ x = 5 ∧ 0 < d ∧ g d = 10))
/-- c fits otherwise -/
def sp_Q (x d : Nat) (c : Int32) : Prop :=
  (x < 2 ∧ sp_V c) ∨ ((x = 2 ∨ x = 3) ∧ c = 16) ∨ (x = 4 ∧ c = 14) ∨ (x = 5 ∧ c = 15 ∧ 0 < d)
/-- the character c fits where x is expected, d levels deep, the kinds of the levels in g -/
def sp_T (x d : Nat) (g : Nat → Int32) (c : Int32) : Prop := sp_C x d g c ∨ sp_Q x d c
/-- one part k, begin b, from (p x d g) to (p' x' d' g') -/
def sp_P (t : Nat → Int32) (L : Nat) (bg en wh : Nat → Int32) (k p x d : Nat) (g : Nat → Int32) (p' x' d' : Nat) (g' : Nat → Int32) : Prop :=
  ∃ b, sp_S t p b ∧ b < L ∧ bg k = nI b ∧ wh k = 1 ∧
  ((t b = 13 ∧ (x = 1 ∨ x = 5) ∧ d = d' + 1 ∧ g d = 12 ∧ g' = g ∧ x' = 5 ∧ en k = nI b ∧ p' = b + 1) ∨
   (t b = 11 ∧ (x = 2 ∨ x = 5) ∧ d = d' + 1 ∧ g d = 10 ∧ g' = g ∧ x' = 5 ∧ en k = nI b ∧ p' = b + 1) ∨
   (t b = 15 ∧ x = 5 ∧ 0 < d ∧ d' = d ∧ g' = g ∧ (g d = 12 ∧ x' = 0 ∨ g d = 10 ∧ x' = 3) ∧ en k = nI b ∧ p' = b + 1) ∨
   (t b = 14 ∧ x = 4 ∧ d' = d ∧ g' = g ∧ x' = 0 ∧ en k = nI b ∧ p' = b + 1) ∨
   (t b = 16 ∧ (x = 2 ∨ x = 3) ∧ d' = d ∧ g' = g ∧ x' = 4 ∧ ∃ q, ss_W t L (b + 1) q ∧ en k = nI q ∧ p' = q + 1) ∨
   (t b = 10 ∧ x < 2 ∧ d' = d + 1 ∧ g' = upd g (d + 1) 10 ∧ x' = 2 ∧ en k = nI b ∧ p' = b + 1) ∨
   (t b = 12 ∧ x < 2 ∧ d' = d + 1 ∧ g' = upd g (d + 1) 12 ∧ x' = 1 ∧ en k = nI b ∧ p' = b + 1) ∨
   ((t b = 27 ∨ t b = 28 ∨ t b = 29) ∧ x < 2 ∧ d' = d ∧ g' = g ∧ x' = 5 ∧ en k = nI b ∧ p' = b + 1) ∨
   (sp_B (t b) ∧ x < 2 ∧ d' = d ∧ g' = g ∧ x' = 5 ∧ ∃ q, ns_W t L b (q + 1) ∧ b ≤ q ∧ en k = nI q ∧ p' = q + 1) ∨
   (t b = 16 ∧ x < 2 ∧ d' = d ∧ g' = g ∧ x' = 5 ∧ ∃ q, ss_W t L (b + 1) q ∧ en k = nI q ∧ p' = q + 1))
/-- the last part k, cut off: its fault at z -/
def sp_X (t : Nat → Int32) (L : Nat) (bg en wh : Nat → Int32) (k p x : Nat) (z : Nat) : Prop :=
  ∃ b, sp_S t p b ∧ b < L ∧ bg k = nI b ∧ wh k = 0 ∧
  ((sp_B (t b) ∧ x < 2 ∧ ns_X t L b z ∧ b < z ∧ en k = nI (z - 1)) ∨
   (t b = 16 ∧ x < 2 ∧ ∃ q e, ss_X t L (b + 1) q e z ∧ en k = nI e) ∨
   (t b = 16 ∧ (x = 2 ∨ x = 3) ∧ ∃ q e, ss_X t L (b + 1) q e z ∧ en k = nI e))
/-- behind the last part: bad is -1 or the place of a character that does not fit, or the length -/
def sp_E (t : Nat → Int32) (L p x d : Nat) (g : Nat → Int32) (bad : Int32) : Prop :=
  (bad = -1 ∧ x = 5 ∧ d = 0 ∧ sp_S t p L) ∨
  (∃ z, bad = nI z ∧ z ≤ L ∧ sp_S t p z ∧ (z < L → t z ≠ 20 ∧ ¬ sp_T x d g (t z)) ∧ (z = L → ¬ (x = 5 ∧ d = 0)))
/-- what x says of the level it stands in -/
def sp_I (x d : Nat) (g : Nat → Int32) : Prop :=
  x ≤ 5 ∧ (x = 1 → 0 < d ∧ g d = 12) ∧ (x = 2 ∨ x = 3 ∨ x = 4 → 0 < d ∧ g d = 10) ∧ (∀ l, l < d → g (l + 1) = 12 ∨ g (l + 1) = 10)
/-- the row of m parts from part k on -/
def sp_W (t : Nat → Int32) (L : Nat) (bg en wh : Nat → Int32) (bad : Int32) : Nat → Nat → Nat → Nat → Nat → (Nat → Int32) → Prop
  | 0, _, p, x, d, g => sp_E t L p x d g bad
  | m + 1, k, p, x, d, g => (∃ p' x' d' g', sp_P t L bg en wh k p x d g p' x' d' g' ∧ sp_W t L bg en wh bad m (k + 1) p' x' d' g') ∨ (m = 0 ∧ ∃ z, sp_X t L bg en wh k p x z ∧ bad = nI z)
theorem ns_D_r {t : Nat → Int32} {L i j : Nat} (h : ns_D t L i j) (hj : j < L) (hd : t j ≤ 9) : ns_D t L i (j + 1) :=
  ⟨by have := h.1; omega, hj, fun k h1 h2 => by
    rcases Nat.lt_or_ge k j with z | z
    · exact h.2.2 k h1 z
    · have : k = j := by omega
      subst this; exact hd⟩
theorem sp_P_congr {t : Nat → Int32} {L : Nat} {bg en wh bg' en' wh' : Nat → Int32} {k p x d : Nat} {g : Nat → Int32} {p' x' d' : Nat} {g' : Nat → Int32}
    (h : sp_P t L bg en wh k p x d g p' x' d' g') (hb : bg' k = bg k) (he : en' k = en k) (hw : wh' k = wh k) : sp_P t L bg' en' wh' k p x d g p' x' d' g' := by
  unfold sp_P at h ⊢
  rw [hb, he, hw]; exact h
theorem sp_X_congr {t : Nat → Int32} {L : Nat} {bg en wh bg' en' wh' : Nat → Int32} {k p x z : Nat}
    (h : sp_X t L bg en wh k p x z) (hb : bg' k = bg k) (he : en' k = en k) (hw : wh' k = wh k) : sp_X t L bg' en' wh' k p x z := by
  unfold sp_X at h ⊢
  rw [hb, he, hw]; exact h
