section
/-! rows of kit/rows that this claim takes -/
theorem pk_us {f : Nat → Int32} {k : Nat} {x : Int32} : upd f k x k = x := if_pos rfl
theorem pk_un {f : Nat → Int32} {k j : Nat} {x : Int32} (h : j ≠ k) : upd f k x j = f j := if_neg h
theorem pk_sub {a b : Nat} (h : b ≤ a) : nI a - nI b = nI (a - b) := by
  obtain ⟨c, rfl⟩ : ∃ c, a = c + b := ⟨a - b, by omega⟩
  rw [← nI_add, Int32.add_sub_cancel, Nat.add_sub_cancel]
theorem pk_m1 (n : Nat) : nI (n + 1) + (-1) = nI n := by
  rw [← nI_1, Int32.add_assoc, show (1 : Int32) + (-1) = 0 from rfl, Int32.add_zero]
theorem pk_mul (a b : Nat) : nI a * nI b = nI (a * b) := (Int32.ofNat_mul a b).symm
theorem pk_div {a d : Nat} (ha : a < 2 ^ 31) (h0 : 0 < d) (hd : d < 2 ^ 31) : nI a / nI d = nI (a / d) := by
  apply Int32.toInt_inj.mp
  rw [lg_idiv_nonneg (by rw [nI_toInt ha]; omega) (by rw [nI_toInt hd]; omega), nI_toInt ha, nI_toInt hd, nI_toInt (Nat.lt_of_le_of_lt (Nat.div_le_self a d) ha)]
  first | rfl | exact (Int.natCast_ediv _ _).symm
theorem pk_rem {a d : Nat} (ha : a < 2 ^ 31) (h0 : 0 < d) (hd : d < 2 ^ 31) : nI a - nI a / nI d * nI d = nI (a % d) := by
  rw [pk_div ha h0 hd, pk_mul, pk_sub (Nat.div_mul_le_self a d)]
  exact congrArg nI (by have := Nat.div_add_mod' a d; omega)
theorem pk_sub_toInt {a b : Nat} (ha : a < 2 ^ 30) (hb : b < 2 ^ 30) : (nI a - nI b).toInt = (a : Int) - b := by
  rw [Int32.toInt_sub, nI_toInt (by omega), nI_toInt (by omega)]
  exact Int.bmod_eq_of_le (by omega) (by omega)
theorem pk_sneg {a b : Nat} (hb : b < 2 ^ 30) (h : a < b) : nI a - nI b < 0 := by
  rw [Int32.lt_iff_toInt_lt, pk_sub_toInt (by omega) hb, show (0 : Int32).toInt = 0 from by decide]
  omega
theorem pk_ix (x : Int32) {n : Nat} (hn : n < 2 ^ 31) : x < 0 ∨ nI n ≤ x ∨ ∃ j : Nat, j < n ∧ x = nI j := by
  by_cases h : x < 0
  · exact Or.inl h
  · obtain ⟨j, hj, rfl⟩ := nI_of h
    by_cases h2 : j < n
    · exact Or.inr (Or.inr ⟨j, h2, rfl⟩)
    · exact Or.inr (Or.inl (nI_le (by omega) hj))
theorem pk_le {x y : Int32} {A B : Prop} (a b : Nat) (f : a ≤ b → A) (g : b < a → B) (hx : x = nI a := by rfl) (hy : y = nI b := by rfl) (ha : a < 2 ^ 31 := by omega) (hb : b < 2 ^ 31 := by omega) : (x ≤ y → A) ∧ (¬ x ≤ y → B) := by
  subst hx hy
  rw [nI_leI ha hb]
  exact ⟨f, fun z => g (by omega)⟩
theorem pk_lt {x y : Int32} {A B : Prop} (a b : Nat) (f : a < b → A) (g : b ≤ a → B) (hx : x = nI a := by rfl) (hy : y = nI b := by rfl) (ha : a < 2 ^ 31 := by omega) (hb : b < 2 ^ 31 := by omega) : (x < y → A) ∧ (¬ x < y → B) := by
  subst hx hy
  rw [nI_ltI ha hb]
  exact ⟨f, fun z => g (by omega)⟩
theorem pk_eq {x y : Int32} {A B : Prop} (a b : Nat) (f : a = b → A) (g : a ≠ b → B) (hx : x = nI a := by rfl) (hy : y = nI b := by rfl) (ha : a < 2 ^ 31 := by omega) (hb : b < 2 ^ 31 := by omega) : (x = y → A) ∧ (¬ x = y → B) := by
  subst hx hy
  rw [nI_eq ha hb]
  exact ⟨f, g⟩
theorem pk_in {x : Int32} (n N : Nat) (h : n < N) (hx : x = nI n := by rfl) (hN : N < 2 ^ 31 := by omega) : vp_in x N := by
  subst hx
  exact vp_in_nI h hN
theorem pk_cl {x : Int32} (n : Nat) (hx : x = nI n := by rfl) (h : n < 2 ^ 31 := by omega) : x.toNatClampNeg = n := by
  subst hx
  exact nI_clamp h
theorem pk_tn {n : Nat} (h : n < 2 ^ 32) : (nI n).toBitVec.toNat = n := Nat.mod_eq_of_lt h
theorem pk_lT {n : Nat} (h : n < 2 ^ 63) : (lN n).toInt = (n : Int) := lg_ofNat_toInt h
theorem pk_lLT {a b : Nat} (ha : a < 2 ^ 63) (hb : b < 2 ^ 63) : lN a < lN b ↔ a < b := by
  rw [Int64.lt_iff_toInt_lt, pk_lT ha, pk_lT hb]; omega
theorem pk_lLE {a b : Nat} (ha : a < 2 ^ 63) (hb : b < 2 ^ 63) : lN a ≤ lN b ↔ a ≤ b := by
  rw [Int64.le_iff_toInt_le, pk_lT ha, pk_lT hb]; omega
theorem pk_lEQ {a b : Nat} (ha : a < 2 ^ 63) (hb : b < 2 ^ 63) : lN a = lN b ↔ a = b := by
  rw [← Int64.toInt_inj, pk_lT ha, pk_lT hb]; omega
theorem pk_lOf {x : Int64} (h : ¬ x < 0) : ∃ k : Nat, k < 2 ^ 63 ∧ x = lN k := by
  rw [Int64.lt_iff_toInt_lt] at h
  have h0 : (0 : Int64).toInt = 0 := by decide
  have hx := Int64.toInt_lt x
  refine ⟨x.toInt.toNat, by omega, Int64.toInt_inj.mp ?_⟩
  rw [pk_lT (by omega)]
  omega
theorem pk_lDiv {a b : Nat} (ha : a < 2 ^ 63) (h0 : 0 < b) (hb : b < 2 ^ 63) : lN a / lN b = lN (a / b) := by
  apply Int64.toInt_inj.mp
  rw [lg_ldiv_nonneg (by rw [pk_lT ha]; omega) (by rw [pk_lT hb]; omega), pk_lT ha, pk_lT hb, pk_lT (Nat.lt_of_le_of_lt (Nat.div_le_self a b) ha)]
  rfl
theorem pk_lRem {a b : Nat} (ha : a < 2 ^ 63) (h0 : 0 < b) (hb : b < 2 ^ 63) : lN a - lN a / lN b * lN b = lN (a % b) := by
  rw [pk_lDiv ha h0 hb, lN_mul, lN_sub (Nat.div_mul_le_self a b)]
  exact congrArg lN (by have := Nat.div_add_mod' a b; omega)
theorem lp1 {A1 : Type} (W : Nat → A1 → Prop) (I : A1 → Prop) (μ : A1 → Nat) (hs : ∀ (n : Nat) (a1 : A1), I a1 → (∀ (b1 : A1), I b1 → μ b1 < μ a1 → W n b1) → W (n + 1) a1) (a1 : A1) (h : I a1) : ∃ n, W n a1 :=
  loop_m (σ := A1) (fun n s => W n s) (fun s => I s) (fun s => μ s) (fun n s hI hk => hs n s hI (fun b1 h9 hm => hk b1 h9 hm)) a1 h
theorem lp2 {A1 A2 : Type} (W : Nat → A1 → A2 → Prop) (I : A1 → A2 → Prop) (μ : A1 → A2 → Nat) (hs : ∀ (n : Nat) (a1 : A1) (a2 : A2), I a1 a2 → (∀ (b1 : A1) (b2 : A2), I b1 b2 → μ b1 b2 < μ a1 a2 → W n b1 b2) → W (n + 1) a1 a2) (a1 : A1) (a2 : A2) (h : I a1 a2) : ∃ n, W n a1 a2 :=
  loop_m (σ := A1 × A2) (fun n s => W n s.1 s.2) (fun s => I s.1 s.2) (fun s => μ s.1 s.2) (fun n s hI hk => hs n s.1 s.2 hI (fun b1 b2 h9 hm => hk (b1, b2) h9 hm)) (a1, a2) h
theorem lp3 {A1 A2 A3 : Type} (W : Nat → A1 → A2 → A3 → Prop) (I : A1 → A2 → A3 → Prop) (μ : A1 → A2 → A3 → Nat) (hs : ∀ (n : Nat) (a1 : A1) (a2 : A2) (a3 : A3), I a1 a2 a3 → (∀ (b1 : A1) (b2 : A2) (b3 : A3), I b1 b2 b3 → μ b1 b2 b3 < μ a1 a2 a3 → W n b1 b2 b3) → W (n + 1) a1 a2 a3) (a1 : A1) (a2 : A2) (a3 : A3) (h : I a1 a2 a3) : ∃ n, W n a1 a2 a3 :=
  loop_m (σ := A1 × A2 × A3) (fun n s => W n s.1 s.2.1 s.2.2) (fun s => I s.1 s.2.1 s.2.2) (fun s => μ s.1 s.2.1 s.2.2) (fun n s hI hk => hs n s.1 s.2.1 s.2.2 hI (fun b1 b2 b3 h9 hm => hk (b1, b2, b3) h9 hm)) (a1, a2, a3) h
theorem lp4 {A1 A2 A3 A4 : Type} (W : Nat → A1 → A2 → A3 → A4 → Prop) (I : A1 → A2 → A3 → A4 → Prop) (μ : A1 → A2 → A3 → A4 → Nat) (hs : ∀ (n : Nat) (a1 : A1) (a2 : A2) (a3 : A3) (a4 : A4), I a1 a2 a3 a4 → (∀ (b1 : A1) (b2 : A2) (b3 : A3) (b4 : A4), I b1 b2 b3 b4 → μ b1 b2 b3 b4 < μ a1 a2 a3 a4 → W n b1 b2 b3 b4) → W (n + 1) a1 a2 a3 a4) (a1 : A1) (a2 : A2) (a3 : A3) (a4 : A4) (h : I a1 a2 a3 a4) : ∃ n, W n a1 a2 a3 a4 :=
  loop_m (σ := A1 × A2 × A3 × A4) (fun n s => W n s.1 s.2.1 s.2.2.1 s.2.2.2) (fun s => I s.1 s.2.1 s.2.2.1 s.2.2.2) (fun s => μ s.1 s.2.1 s.2.2.1 s.2.2.2) (fun n s hI hk => hs n s.1 s.2.1 s.2.2.1 s.2.2.2 hI (fun b1 b2 b3 b4 h9 hm => hk (b1, b2, b3, b4) h9 hm)) (a1, a2, a3, a4) h
theorem pk_least (P : Nat → Prop) (h : ∃ k, P k) : ∃ k, P k ∧ ∀ j, j < k → ¬ P j := by
  obtain ⟨k, hk⟩ := h
  induction k using Nat.strongRecOn with
  | ind k ih =>
    by_cases e : ∃ j, j < k ∧ P j
    · obtain ⟨j, hj, pj⟩ := e
      exact ih j hj pj
    · exact ⟨k, hk, fun j hj pj => e ⟨j, hj, pj⟩⟩
/-! ints as Int32 -/
def ii_I (z : Int) : Int32 := Int32.ofInt z
theorem ii_nat (n : Nat) : ii_I n = nI n := Int32.ofInt_eq_ofNat
theorem ii_T {z : Int} (h1 : -2147483648 ≤ z) (h2 : z < 2147483648) : (ii_I z).toInt = z := Int32.toInt_ofInt_of_le (by omega) (by omega)
theorem ii_add (a b : Int) : ii_I a + ii_I b = ii_I (a + b) := (Int32.ofInt_add a b).symm
theorem ii_sub (a b : Int) : ii_I a - ii_I b = ii_I (a - b) := (Int32.ofInt_sub a b).symm
theorem ii_neg (a : Int) : -ii_I a = ii_I (-a) := (Int32.ofInt_neg a).symm
theorem ii_lt {a b : Int} (ha : -2147483648 ≤ a) (ha' : a < 2147483648) (hb : -2147483648 ≤ b) (hb' : b < 2147483648) : ii_I a < ii_I b ↔ a < b := by
  rw [Int32.lt_iff_toInt_lt, ii_T ha ha', ii_T hb hb']
theorem ii_le {a b : Int} (ha : -2147483648 ≤ a) (ha' : a < 2147483648) (hb : -2147483648 ≤ b) (hb' : b < 2147483648) : ii_I a ≤ ii_I b ↔ a ≤ b := by
  rw [Int32.le_iff_toInt_le, ii_T ha ha', ii_T hb hb']
theorem ii_eq {a b : Int} (ha : -2147483648 ≤ a) (ha' : a < 2147483648) (hb : -2147483648 ≤ b) (hb' : b < 2147483648) : ii_I a = ii_I b ↔ a = b := by
  rw [← Int32.toInt_inj, ii_T ha ha', ii_T hb hb']
theorem ii_self (x : Int32) : x = ii_I x.toInt := (Int32.ofInt_toInt x).symm
/-! small facts -/
theorem hh_m1 {n : Nat} (h : n < 2147483648) : ¬ nI n = -1 := by
  intro e
  have := congrArg Int32.toInt e
  rw [nI_toInt h] at this
  have z : (-1 : Int32).toInt = -1 := by decide
  omega
theorem hh_m1' {n : Nat} (h : n < 2147483648) : ¬ (-1 : Int32) = nI n := fun e => hh_m1 h e.symm
theorem hh_i {n m : Nat} (hn : n < 2147483648) (hm : m < 2147483648) (h : nI n = nI m) : n = m := (nI_eq hn hm).mp h
end
section
/-! shapes of the text's parts: strings, numbers, the row of parts -/
def tt_at (t : Nat → Int32) (L p : Nat) : Int32 := if p < L then t p else -1
theorem tt_in {t : Nat → Int32} {L p : Nat} (h : p < L) : tt_at t L p = t p := if_pos h
theorem tt_out {t : Nat → Int32} {L p : Nat} (h : L ≤ p) : tt_at t L p = -1 := if_neg (by omega)
/-- every character is one of 0..31 -/
def tt_C (t : Nat → Int32) : Prop := ∀ i, ∃ c, c < 32 ∧ t i = nI c
/-- a unit of a string from i to j -/
def ss_G (t : Nat → Int32) (L i j : Nat) : Prop :=
  (i < L ∧ t i ≠ 16 ∧ t i ≠ 30 ∧ j = i + 1) ∨ (i + 1 < L ∧ t i = 30 ∧ (t (i + 1) = 16 ∨ t (i + 1) = 30) ∧ j = i + 2)
/-- m units from i to q -/
def ss_R (t : Nat → Int32) (L : Nat) : Nat → Nat → Nat → Prop
  | 0, i, q => i = q
  | m + 1, i, q => ∃ j, ss_G t L i j ∧ ss_R t L m j q
/-- a string whose first character behind the quote is i ends at the quote q -/
def ss_W (t : Nat → Int32) (L i q : Nat) : Prop := q < L ∧ t q = 16 ∧ ∃ m, ss_R t L m i q
/-- a string cut off: its units go to q, e is the last that stands, z the place of the fault -/
def ss_X (t : Nat → Int32) (L i q e z : Nat) : Prop :=
  (∃ m, ss_R t L m i q) ∧ ((q = L ∧ e + 1 = L ∧ z = L) ∨ (q + 1 = L ∧ t q = 30 ∧ e = q ∧ z = L) ∨ (q + 1 < L ∧ t q = 30 ∧ t (q + 1) ≠ 16 ∧ t (q + 1) ≠ 30 ∧ e = q ∧ z = q + 1))
/-- digits from i up to j -/
def ns_D (t : Nat → Int32) (L i j : Nat) : Prop := i ≤ j ∧ j ≤ L ∧ ∀ k, i ≤ k → k < j → t k ≤ 9
/-- no digit at j -/
def ns_N (t : Nat → Int32) (L j : Nat) : Prop := L ≤ j ∨ 9 < t j
/-- the whole part of a number that begins at b: digits from i to a -/
def ns_I (t : Nat → Int32) (L b i a : Nat) : Prop :=
  (t b = 17 ∧ i = b + 1 ∨ t b ≤ 9 ∧ i = b) ∧ i < L ∧ t i ≤ 9 ∧ (t i = 0 ∧ a = i + 1 ∨ t i ≠ 0 ∧ i < a ∧ ns_D t L i a ∧ ns_N t L a)
/-- its fraction, from a to e -/
def ns_F (t : Nat → Int32) (L a e : Nat) : Prop :=
  (¬ (a < L ∧ t a = 18) ∧ e = a) ∨ (a < L ∧ t a = 18 ∧ a + 1 < e ∧ ns_D t L (a + 1) e ∧ ns_N t L e)
/-- where its power's digits begin -/
def ns_S (t : Nat → Int32) (L e s : Nat) : Prop :=
  s = e + 1 ∧ ¬ (e + 1 < L ∧ (t (e + 1) = 17 ∨ t (e + 1) = 31)) ∨ s = e + 2 ∧ e + 1 < L ∧ (t (e + 1) = 17 ∨ t (e + 1) = 31)
/-- its power, from e to q -/
def ns_E (t : Nat → Int32) (L e s q : Nat) : Prop :=
  (¬ (e < L ∧ t e = 19) ∧ q = e) ∨ (e < L ∧ t e = 19 ∧ ns_S t L e s ∧ s < q ∧ ns_D t L s q ∧ ns_N t L q)
/-- a number from b to q -/
def ns_W (t : Nat → Int32) (L b q : Nat) : Prop := ∃ i a e s, ns_I t L b i a ∧ ns_F t L a e ∧ ns_E t L e s q
/-- a number from b that is cut off at z -/
def ns_X (t : Nat → Int32) (L b z : Nat) : Prop :=
  (t b = 17 ∧ z = b + 1 ∧ ns_N t L (b + 1)) ∨
  (∃ i a, ns_I t L b i a ∧ a < L ∧ t a = 18 ∧ z = a + 1 ∧ ns_N t L (a + 1)) ∨
  (∃ i a e, ns_I t L b i a ∧ ns_F t L a e ∧ e < L ∧ t e = 19 ∧ ns_S t L e z ∧ ns_N t L z)
/-- a character that begins a value -/
def sp_V (c : Int32) : Prop := (0 ≤ c ∧ c ≤ 9) ∨ c = 10 ∨ c = 12 ∨ c = 16 ∨ c = 17 ∨ c = 27 ∨ c = 28 ∨ c = 29
/-- a number's first character -/
def sp_B (c : Int32) : Prop := (0 ≤ c ∧ c ≤ 9) ∨ c = 17
/-- spaces from p up to b -/
def sp_S (t : Nat → Int32) (p b : Nat) : Prop := p ≤ b ∧ ∀ i, p ≤ i → i < b → t i = 20
/-- c closes the level -/
def sp_C (x d : Nat) (g : Nat → Int32) (c : Int32) : Prop :=
  (c = 13 ∧ (x = 1 ∨ x = 5 ∧ 0 < d ∧ g d = 12)) ∨ (c = 11 ∧ (x = 2 ∨ x = 5 ∧ 0 < d ∧ g d = 10))
/-- c fits otherwise -/
def sp_Q (x d : Nat) (c : Int32) : Prop :=
  (x < 2 ∧ sp_V c) ∨ ((x = 2 ∨ x = 3) ∧ c = 16) ∨ (x = 4 ∧ c = 14) ∨ (x = 5 ∧ c = 15 ∧ 0 < d)
/-- the character c fits where x is expected, d levels deep, the kinds of the levels in g -/
def sp_T (x d : Nat) (g : Nat → Int32) (c : Int32) : Prop := sp_C x d g c ∨ sp_Q x d c
/-- one part k, begin b, from (p x d g) to (p' x' d' g') -/
def sp_P (t : Nat → Int32) (L : Nat) (bg en wh : Nat → Int32) (k p x d : Nat) (g : Nat → Int32) (p' x' d' : Nat) (g' : Nat → Int32) : Prop :=
  ∃ b, sp_S t p b ∧ b < L ∧ bg k = nI b ∧ wh k = 1 ∧
  ((t b = 13 ∧ (x = 1 ∨ x = 5) ∧ d = d' + 1 ∧ g d = 12 ∧ g' = g ∧ x' = 5 ∧ en k = nI b ∧ p' = b + 1) ∨
   (t b = 11 ∧ (x = 2 ∨ x = 5) ∧ d = d' + 1 ∧ g d = 10 ∧ g' = g ∧ x' = 5 ∧ en k = nI b ∧ p' = b + 1) ∨
   (t b = 15 ∧ x = 5 ∧ 0 < d ∧ d' = d ∧ g' = g ∧ (g d = 12 ∧ x' = 0 ∨ g d = 10 ∧ x' = 3) ∧ en k = nI b ∧ p' = b + 1) ∨
   (t b = 14 ∧ x = 4 ∧ d' = d ∧ g' = g ∧ x' = 0 ∧ en k = nI b ∧ p' = b + 1) ∨
   (t b = 16 ∧ (x = 2 ∨ x = 3) ∧ d' = d ∧ g' = g ∧ x' = 4 ∧ ∃ q, ss_W t L (b + 1) q ∧ en k = nI q ∧ p' = q + 1) ∨
   (t b = 10 ∧ x < 2 ∧ d' = d + 1 ∧ g' = upd g (d + 1) 10 ∧ x' = 2 ∧ en k = nI b ∧ p' = b + 1) ∨
   (t b = 12 ∧ x < 2 ∧ d' = d + 1 ∧ g' = upd g (d + 1) 12 ∧ x' = 1 ∧ en k = nI b ∧ p' = b + 1) ∨
   ((t b = 27 ∨ t b = 28 ∨ t b = 29) ∧ x < 2 ∧ d' = d ∧ g' = g ∧ x' = 5 ∧ en k = nI b ∧ p' = b + 1) ∨
   (sp_B (t b) ∧ x < 2 ∧ d' = d ∧ g' = g ∧ x' = 5 ∧ ∃ q, ns_W t L b (q + 1) ∧ b ≤ q ∧ en k = nI q ∧ p' = q + 1) ∨
   (t b = 16 ∧ x < 2 ∧ d' = d ∧ g' = g ∧ x' = 5 ∧ ∃ q, ss_W t L (b + 1) q ∧ en k = nI q ∧ p' = q + 1))
/-- the last part k, cut off: its fault at z -/
def sp_X (t : Nat → Int32) (L : Nat) (bg en wh : Nat → Int32) (k p x : Nat) (z : Nat) : Prop :=
  ∃ b, sp_S t p b ∧ b < L ∧ bg k = nI b ∧ wh k = 0 ∧
  ((sp_B (t b) ∧ x < 2 ∧ ns_X t L b z ∧ b < z ∧ en k = nI (z - 1)) ∨
   (t b = 16 ∧ x < 2 ∧ ∃ q e, ss_X t L (b + 1) q e z ∧ en k = nI e) ∨
   (t b = 16 ∧ (x = 2 ∨ x = 3) ∧ ∃ q e, ss_X t L (b + 1) q e z ∧ en k = nI e))
/-- behind the last part: bad is -1 or the place of a character that does not fit, or the length -/
def sp_E (t : Nat → Int32) (L p x d : Nat) (g : Nat → Int32) (bad : Int32) : Prop :=
  (bad = -1 ∧ x = 5 ∧ d = 0 ∧ sp_S t p L) ∨
  (∃ z, bad = nI z ∧ z ≤ L ∧ sp_S t p z ∧ (z < L → t z ≠ 20 ∧ ¬ sp_T x d g (t z)) ∧ (z = L → ¬ (x = 5 ∧ d = 0)))
/-- what x says of the level it stands in -/
def sp_I (x d : Nat) (g : Nat → Int32) : Prop :=
  x ≤ 5 ∧ (x = 1 → 0 < d ∧ g d = 12) ∧ (x = 2 ∨ x = 3 ∨ x = 4 → 0 < d ∧ g d = 10) ∧ (∀ l, l < d → g (l + 1) = 12 ∨ g (l + 1) = 10)
/-- the row of m parts from part k on -/
def sp_W (t : Nat → Int32) (L : Nat) (bg en wh : Nat → Int32) (bad : Int32) : Nat → Nat → Nat → Nat → Nat → (Nat → Int32) → Prop
  | 0, _, p, x, d, g => sp_E t L p x d g bad
  | m + 1, k, p, x, d, g => (∃ p' x' d' g', sp_P t L bg en wh k p x d g p' x' d' g' ∧ sp_W t L bg en wh bad m (k + 1) p' x' d' g') ∨ (m = 0 ∧ ∃ z, sp_X t L bg en wh k p x z ∧ bad = nI z)
theorem ns_D_r {t : Nat → Int32} {L i j : Nat} (h : ns_D t L i j) (hj : j < L) (hd : t j ≤ 9) : ns_D t L i (j + 1) :=
  ⟨by have := h.1; omega, hj, fun k h1 h2 => by
    rcases Nat.lt_or_ge k j with z | z
    · exact h.2.2 k h1 z
    · have : k = j := by omega
      subst this; exact hd⟩
theorem sp_P_congr {t : Nat → Int32} {L : Nat} {bg en wh bg' en' wh' : Nat → Int32} {k p x d : Nat} {g : Nat → Int32} {p' x' d' : Nat} {g' : Nat → Int32}
    (h : sp_P t L bg en wh k p x d g p' x' d' g') (hb : bg' k = bg k) (he : en' k = en k) (hw : wh' k = wh k) : sp_P t L bg' en' wh' k p x d g p' x' d' g' := by
  unfold sp_P at h ⊢
  rw [hb, he, hw]; exact h
theorem sp_X_congr {t : Nat → Int32} {L : Nat} {bg en wh bg' en' wh' : Nat → Int32} {k p x z : Nat}
    (h : sp_X t L bg en wh k p x z) (hb : bg' k = bg k) (he : en' k = en k) (hw : wh' k = wh k) : sp_X t L bg' en' wh' k p x z := by
  unfold sp_X at h ⊢
  rw [hb, he, hw]; exact h
end
section
/-! the relation -/
/-- the type in slot s, as both hold it -/
def ty_S (so tD tL tM fC fN fT fB gX tA tB tC fs gY : Nat → Int32) (s : Nat) : Prop :=
  (∃ j, j ≤ 8 ∧ so s = nI j) ∧
  (so s = 1 → tA s = tD s ∧ tB s = tL s ∧ tC s = tM s ∧ ∃ d, d ≤ 4 ∧ tD s = nI d) ∧
  (so s = 2 → tA s = tD s ∧ ∃ d, d ≤ 40 ∧ tD s = nI d) ∧
  (so s = 4 → tA s = tD s ∧ tB s = tL s ∧ tC s = tM s ∧ ∃ d a b, d < 12 ∧ tD s = nI d ∧ a ≤ b ∧ b ≤ 20 ∧ tL s = nI a ∧ tM s = nI b) ∧
  (so s = 5 → fs s = fC s ∧ ∃ m, m ≤ 4 ∧ fC s = nI m ∧ (∀ i, i < m → ∃ a b c, a < 6 ∧ b < 12 ∧ c < 2 ∧ fN (4 * s + i) = nI a ∧ fT (4 * s + i) = nI b ∧ fB (4 * s + i) = nI c) ∧ ∀ i j, i < m → j < m → fN (4 * s + i) = fN (4 * s + j) → i = j) ∧
  (so s = 6 → tA s = tD s ∧ (∃ d, d < 6 ∧ tD s = nI d) ∧ ∀ i, i < 6 → gY (6 * s + i) = gX (6 * s + i) ∧ (gX (6 * s + i) = -1 ∨ ∃ j, j < 12 ∧ gX (6 * s + i) = nI j)) ∧
  (so s = 7 ∨ so s = 8 → tA s = tD s ∧ ∃ d, d < 12 ∧ tD s = nI d)
theorem ty_c {so tD tL tM fC fN fT fB gX tA tB tC fs gY so' tD' tL' tM' fC' fN' fT' fB' gX' tA' tB' tC' fs' gY' : Nat → Int32} {s : Nat}
    (h : ty_S so tD tL tM fC fN fT fB gX tA tB tC fs gY s)
    (e1 : so' s = so s) (e2 : tD' s = tD s) (e3 : tL' s = tL s) (e4 : tM' s = tM s) (e5 : fC' s = fC s)
    (eN : ∀ i, i < 4 → fN' (4 * s + i) = fN (4 * s + i)) (eT : ∀ i, i < 4 → fT' (4 * s + i) = fT (4 * s + i)) (eB : ∀ i, i < 4 → fB' (4 * s + i) = fB (4 * s + i))
    (eG : ∀ i, i < 6 → gX' (6 * s + i) = gX (6 * s + i))
    (e6 : tA' s = tA s) (e7 : tB' s = tB s) (e8 : tC' s = tC s) (e9 : fs' s = fs s) (eH : ∀ i, i < 6 → gY' (6 * s + i) = gY (6 * s + i)) :
    ty_S so' tD' tL' tM' fC' fN' fT' fB' gX' tA' tB' tC' fs' gY' s := by
  obtain ⟨h0, h1, h2, h4, h5, h6, h7⟩ := h
  unfold ty_S
  rw [e1, e2, e3, e4, e5, e6, e7, e8, e9]
  refine ⟨h0, h1, h2, h4, fun z => ?_, fun z => ?_, h7⟩
  · obtain ⟨a, m, hm, b, c, d⟩ := h5 z
    refine ⟨a, m, hm, b, fun i hi => ?_, fun i j hi hj e => d i j hi hj ?_⟩
    · rw [eN i (by omega), eT i (by omega), eB i (by omega)]; exact c i hi
    · rw [eN i (by omega), eN j (by omega)] at e; exact e
  · obtain ⟨a, b, c⟩ := h6 z
    refine ⟨a, b, fun i hi => ?_⟩
    rw [eG i hi, eH i hi]; exact c i hi
/-- two arrays agree below n -/
def pe_N (n : Nat) (a b : Nat → Int32) : Prop := ∀ i, i < n → b i = a i
theorem pe_u {n : Nat} {a b : Nat → Int32} {k : Nat} {x : Int32} (h : pe_N n a b) : pe_N n (upd a k x) (upd b k x) := by
  intro i hi
  unfold upd
  rw [h i hi]
theorem pe_s {n : Nat} {a b : Nat → Int32} {x : Int32} (h : pe_N n a b) : pe_N (n + 1) (upd a n x) (upd b n x) := by
  intro i hi
  unfold upd
  by_cases z : i = n
  · rw [if_pos z, if_pos z]
  · rw [if_neg z, if_neg z, h i (by omega)]
/-- the reference's units of part k: its answer, and what it leaves in scaled -/
def un_Y (t bg en : Nat → Int32) (k : Nat) (d ok sc : Int32) : Prop :=
  ∀ (y_length y_parts y_bad y_nodes y_fault y_place y_bound y_depth y_nextName y_wantsName y_wantsTag y_printed y_waiting y_scaled : Int32) (y_sort y_typeA y_typeB y_typeC y_fieldName y_fieldType y_fields y_tags y_needed y_inside y_whole y_kind y_value y_parent y_name y_slotOf y_placeOf y_complete y_openNode y_openType y_openCount y_openNames y_openChoice y_output y_todo : Nat → Int32) (post : Int32 → SY → Prop), post ok (y_length, y_parts, y_bad, y_nodes, y_fault, y_place, y_bound, y_depth, y_nextName, y_wantsName, y_wantsTag, y_printed, y_waiting, sc, y_sort, y_typeA, y_typeB, y_typeC, y_fieldName, y_fieldType, y_fields, y_tags, y_needed, t, bg, en, y_inside, y_whole, y_kind, y_value, y_parent, y_name, y_slotOf, y_placeOf, y_complete, y_openNode, y_openType, y_openCount, y_openNames, y_openChoice, y_output, y_todo) → wpY_units post (y_length, y_parts, y_bad, y_nodes, y_fault, y_place, y_bound, y_depth, y_nextName, y_wantsName, y_wantsTag, y_printed, y_waiting, y_scaled, y_sort, y_typeA, y_typeB, y_typeC, y_fieldName, y_fieldType, y_fields, y_tags, y_needed, t, bg, en, y_inside, y_whole, y_kind, y_value, y_parent, y_name, y_slotOf, y_placeOf, y_complete, y_openNode, y_openType, y_openCount, y_openNames, y_openChoice, y_output, y_todo) (nI k) d
/-- what holds of node i; op: the node is an open choice without its tag -/
def nd_F (t so bg en : Nat → Int32) (L N : Nat) (kd vl pa nm sl st tg : Nat → Int32) (dp : Nat → Nat) (op : Nat → Prop) (i : Nat) : Prop :=
  ∃ k s b, k ≤ 6 ∧ s < 12 ∧ b < L ∧ kd i = nI k ∧ sl i = nI s ∧ st i = nI b ∧
   (i = 0 ∧ pa i = -1 ∧ nm i = -1 ∧ dp i = 0 ∨ ∃ p j, p < i ∧ j < 21 ∧ pa i = nI p ∧ nm i = nI j ∧ dp i = dp p + 1 ∧ (kd p = 3 ∨ kd p = 4)) ∧
   (k = 3 ∨ k = 4 → dp i ≤ 5) ∧
   (k = 0 → so s = 1) ∧
   (k = 1 → t b = 16 ∧ ∃ q, ss_W t L (b + 1) q) ∧
   (k = 3 → so s = 4 ∧ tg i = -1 ∧ ∃ n, n ≤ 20 ∧ vl i = nI n ∧ (∀ j, j < n → ∃ c, c < N ∧ pa c = nI i ∧ nm c = nI j) ∧ (∀ c, c < N → pa c = nI i → ∃ j, j < n ∧ nm c = nI j)) ∧
   (k = 4 → (so s = 5 ∧ tg i = -1) ∨ (so s = 6 ∧ tg i = -1 ∧ op i) ∨ (so s = 6 ∧ ∃ g r K ok, g < 6 ∧ r < 12 ∧ tg i = nI g ∧ vl i = nI r ∧ so r = 5 ∧ K < 96 ∧ bg K = nI b ∧ (∀ j, j < K → bg j ≠ nI b) ∧ un_Y t bg en (K + 3) 0 ok (nI g)))
/-- the nodes together -/
def nd_A (t so bg en : Nat → Int32) (L N : Nat) (kd vl pa nm sl st tg : Nat → Int32) (dp : Nat → Nat) (op : Nat → Prop) : Prop :=
  N ≤ 40 ∧ (∀ i, i < N → nd_F t so bg en L N kd vl pa nm sl st tg dp op i) ∧ ∀ c c', c < N → c' < N → pa c = pa c' → nm c = nm c' → c = c'
/-- text and types -/
def rl_T (L : Nat) (t so tD tL tM fC fN fT fB gX tA tB tC fs gY : Nat → Int32) : Prop :=
  L ≤ 96 ∧ tt_C t ∧ ∀ s, s < 12 → ty_S so tD tL tM fC fN fT fB gX tA tB tC fs gY s
/-- what is bound -/
def rl_B (t so bg en : Nat → Int32) (L : Nat) (bd nc ns : Int32) (kd vl pa nm sl st tg kd' vl' pa' nm' sl' st' : Nat → Int32) : Prop :=
  bd = 0 ∨ bd = 1 ∧ ∃ (N : Nat) (dp : Nat → Nat), 1 ≤ N ∧ nc = nI N ∧ ns = nI N ∧ pe_N N kd kd' ∧ pe_N N vl vl' ∧ pe_N N pa pa' ∧ pe_N N nm nm' ∧ pe_N N sl sl' ∧ pe_N N st st' ∧ nd_A t so bg en L N kd vl pa nm sl st tg dp (fun _ => False)
def i_Rel (k : Nat) (u : SX) (v : SY) : Prop :=
  ∃ (x_nodeCount x_bound x_fault x_faultPlace x_mode x_at x_tokenStart x_textCount x_escaped x_valueSlot x_valueName x_depth x_outputLength : Int32) (x_text x_typeKind x_typeDetail x_typeLeast x_typeMost x_fieldCount x_fieldName x_fieldType x_fieldNeeded x_tagType x_nodeKind x_nodeValue x_nodeParent x_nodeName x_nodeSlot x_nodeStart x_nodeTag x_completeCount x_openNode x_openSlot x_openNames x_openNext x_openComma x_output : Nat → Int32) (y_parts y_bad y_nodes y_fault y_depth y_nextName y_wantsName y_wantsTag y_waiting y_scaled : Int32) (y_typeA y_typeB y_typeC y_fields y_tags y_begin y_end y_inside y_whole y_kind y_value y_parent y_name y_slotOf y_placeOf y_complete y_openNode y_openType y_openCount y_openNames y_openChoice y_todo : Nat → Int32) (L : Nat), u = (nI L, x_nodeCount, x_bound, x_fault, x_faultPlace, x_mode, x_at, x_tokenStart, x_textCount, x_escaped, x_valueSlot, x_valueName, x_depth, x_outputLength, x_text, x_typeKind, x_typeDetail, x_typeLeast, x_typeMost, x_fieldCount, x_fieldName, x_fieldType, x_fieldNeeded, x_tagType, x_nodeKind, x_nodeValue, x_nodeParent, x_nodeName, x_nodeSlot, x_nodeStart, x_nodeTag, x_completeCount, x_openNode, x_openSlot, x_openNames, x_openNext, x_openComma, x_output) ∧ v = (nI L, y_parts, y_bad, y_nodes, y_fault, x_faultPlace, x_bound, y_depth, y_nextName, y_wantsName, y_wantsTag, x_outputLength, y_waiting, y_scaled, x_typeKind, y_typeA, y_typeB, y_typeC, x_fieldName, x_fieldType, y_fields, y_tags, x_fieldNeeded, x_text, y_begin, y_end, y_inside, y_whole, y_kind, y_value, y_parent, y_name, y_slotOf, y_placeOf, y_complete, y_openNode, y_openType, y_openCount, y_openNames, y_openChoice, x_output, y_todo) ∧
    rl_T L x_text x_typeKind x_typeDetail x_typeLeast x_typeMost x_fieldCount x_fieldName x_fieldType x_fieldNeeded x_tagType y_typeA y_typeB y_typeC y_fields y_tags ∧
    rl_B x_text x_typeKind y_begin y_end L x_bound x_nodeCount y_nodes x_nodeKind x_nodeValue x_nodeParent x_nodeName x_nodeSlot x_nodeStart x_nodeTag y_kind y_value y_parent y_name y_slotOf y_placeOf
section
variable {x_nodeCount x_bound x_fault x_faultPlace x_mode x_at x_tokenStart x_textCount x_escaped x_valueSlot x_valueName x_depth x_outputLength : Int32} {x_text x_typeKind x_typeDetail x_typeLeast x_typeMost x_fieldCount x_fieldName x_fieldType x_fieldNeeded x_tagType x_nodeKind x_nodeValue x_nodeParent x_nodeName x_nodeSlot x_nodeStart x_nodeTag x_completeCount x_openNode x_openSlot x_openNames x_openNext x_openComma x_output : Nat → Int32} {y_parts y_bad y_nodes y_fault y_depth y_nextName y_wantsName y_wantsTag y_waiting y_scaled : Int32} {y_typeA y_typeB y_typeC y_fields y_tags y_begin y_end y_inside y_whole y_kind y_value y_parent y_name y_slotOf y_placeOf y_complete y_openNode y_openType y_openCount y_openNames y_openChoice y_todo : Nat → Int32} {L : Nat}
theorem rl_mk {k : Nat}
    (hT : rl_T L x_text x_typeKind x_typeDetail x_typeLeast x_typeMost x_fieldCount x_fieldName x_fieldType x_fieldNeeded x_tagType y_typeA y_typeB y_typeC y_fields y_tags)
    (hB : rl_B x_text x_typeKind y_begin y_end L x_bound x_nodeCount y_nodes x_nodeKind x_nodeValue x_nodeParent x_nodeName x_nodeSlot x_nodeStart x_nodeTag y_kind y_value y_parent y_name y_slotOf y_placeOf) :
    i_Rel k (nI L, x_nodeCount, x_bound, x_fault, x_faultPlace, x_mode, x_at, x_tokenStart, x_textCount, x_escaped, x_valueSlot, x_valueName, x_depth, x_outputLength, x_text, x_typeKind, x_typeDetail, x_typeLeast, x_typeMost, x_fieldCount, x_fieldName, x_fieldType, x_fieldNeeded, x_tagType, x_nodeKind, x_nodeValue, x_nodeParent, x_nodeName, x_nodeSlot, x_nodeStart, x_nodeTag, x_completeCount, x_openNode, x_openSlot, x_openNames, x_openNext, x_openComma, x_output) (nI L, y_parts, y_bad, y_nodes, y_fault, x_faultPlace, x_bound, y_depth, y_nextName, y_wantsName, y_wantsTag, x_outputLength, y_waiting, y_scaled, x_typeKind, y_typeA, y_typeB, y_typeC, x_fieldName, x_fieldType, y_fields, y_tags, x_fieldNeeded, x_text, y_begin, y_end, y_inside, y_whole, y_kind, y_value, y_parent, y_name, y_slotOf, y_placeOf, y_complete, y_openNode, y_openType, y_openCount, y_openNames, y_openChoice, x_output, y_todo) := ⟨x_nodeCount, x_bound, x_fault, x_faultPlace, x_mode, x_at, x_tokenStart, x_textCount, x_escaped, x_valueSlot, x_valueName, x_depth, x_outputLength, x_text, x_typeKind, x_typeDetail, x_typeLeast, x_typeMost, x_fieldCount, x_fieldName, x_fieldType, x_fieldNeeded, x_tagType, x_nodeKind, x_nodeValue, x_nodeParent, x_nodeName, x_nodeSlot, x_nodeStart, x_nodeTag, x_completeCount, x_openNode, x_openSlot, x_openNames, x_openNext, x_openComma, x_output, y_parts, y_bad, y_nodes, y_fault, y_depth, y_nextName, y_wantsName, y_wantsTag, y_waiting, y_scaled, y_typeA, y_typeB, y_typeC, y_fields, y_tags, y_begin, y_end, y_inside, y_whole, y_kind, y_value, y_parent, y_name, y_slotOf, y_placeOf, y_complete, y_openNode, y_openType, y_openCount, y_openNames, y_openChoice, y_todo, L, rfl, rfl, hT, hB⟩
end
theorem i_up {k : Nat} {u : SX} {v : SY} (h : i_Rel k u v) : i_Rel (k + 6) u v := h
theorem tt_u {t : Nat → Int32} (h : tt_C t) {c : Nat} (hc : c < 32) (k : Nat) : tt_C (upd t k (nI c)) := by
  intro i
  unfold upd
  by_cases z : i = k
  · rw [if_pos z]; exact ⟨c, hc, rfl⟩
  · rw [if_neg z]; exact h i
end
section
/-! the calls that set and ask: put to wrap, place, nodes, node, printed -/
theorem hh_ge0 {n : Nat} {x : Int32} (h : nI n ≤ x) (hn : n < 2147483648) : ¬ x < 0 := by
  rw [Int32.le_iff_toInt_le, nI_toInt hn] at h
  rw [Int32.lt_iff_toInt_lt]
  have z : (0 : Int32).toInt = 0 := by decide
  omega
theorem hh_gt {n : Nat} {x : Int32} (h : nI (n + 1) ≤ x) (hn : n + 1 < 2147483648) : nI n < x := by
  rw [Int32.le_iff_toInt_le, nI_toInt hn] at h
  rw [Int32.lt_iff_toInt_lt, nI_toInt (by omega)]
  omega
theorem hh_n0 {n : Nat} (h : n < 2147483648) : ¬ nI n < 0 := nI_pos h
theorem i_vc_put {k : Nat} {u : SX} {v : SY} (I : i_Rel k u v) (hk : k + 6 ≤ 3072) (v1 : Int32) : wpX_put (fun r u' => wpY_put (fun r' v' => r' = r ∧ i_Rel (k + 6) u' v') v v1) u v1 := by
  obtain ⟨x_nodeCount, x_bound, x_fault, x_faultPlace, x_mode, x_at, x_tokenStart, x_textCount, x_escaped, x_valueSlot, x_valueName, x_depth, x_outputLength, x_text, x_typeKind, x_typeDetail, x_typeLeast, x_typeMost, x_fieldCount, x_fieldName, x_fieldType, x_fieldNeeded, x_tagType, x_nodeKind, x_nodeValue, x_nodeParent, x_nodeName, x_nodeSlot, x_nodeStart, x_nodeTag, x_completeCount, x_openNode, x_openSlot, x_openNames, x_openNext, x_openComma, x_output, y_parts, y_bad, y_nodes, y_fault, y_depth, y_nextName, y_wantsName, y_wantsTag, y_waiting, y_scaled, y_typeA, y_typeB, y_typeC, y_fields, y_tags, y_begin, y_end, y_inside, y_whole, y_kind, y_value, y_parent, y_name, y_slotOf, y_placeOf, y_complete, y_openNode, y_openType, y_openCount, y_openNames, y_openChoice, y_todo, L, rfl, rfl, hT, hB⟩ := I
  rcases pk_ix v1 (n := 32) (by decide) with h | h | ⟨c, hc, rfl⟩
  · exact br_t h (br_t h (br_t rfl ⟨rfl, rl_mk hT hB⟩))
  · exact br_f (hh_ge0 h (by decide)) (br_t h (br_f (hh_ge0 h (by decide)) (br_t (hh_gt (n := 31) h (by decide)) (br_t rfl ⟨rfl, rl_mk hT hB⟩))))
  · have h0 : ¬ nI c < 0 := nI_pos (by omega)
    have h1 : ¬ (32 : Int32) ≤ nI c := nI_ge (b := 32) hc (by decide)
    have h2 : ¬ (31 : Int32) < nI c := nI_nlt (b := c) (a := 31) (by omega) (by omega)
    have hL := hT.1
    rcases Nat.lt_or_ge L 96 with z | z
    · have e : nI L < 96 := nI_lt (b := 96) z (by decide)
      have e' : ¬ nI L = 96 := fun q => by have := hh_i (by omega) (by decide) (m := 96) q; omega
      have i : vp_in (nI L) 96 := vp_in_nI z (by decide)
      exact br_f h0 (br_f h1 (br_t e ⟨i, nm_e (nm_r (nI_1 L) (br_f h0 (br_f h2 (br_f (by decide) (br_f e' ⟨i, nm_e (nm_r (nI_1 L) ⟨rfl, rl_mk (L := L + 1) ⟨by omega, tt_u hT.2.1 hc _, hT.2.2⟩ (Or.inl rfl)⟩)⟩)))))⟩))
    · have e : L = 96 := by omega
      subst e
      exact br_f h0 (br_f h1 (br_f (by decide) (br_f h0 (br_f h2 (br_f (by decide) (br_t rfl ⟨rfl, rl_mk hT hB⟩))))))
theorem i_vc_wipe {k : Nat} {u : SX} {v : SY} (I : i_Rel k u v) (hk : k + 6 ≤ 3072) : wpX_wipe (fun r u' => wpY_wipe (fun r' v' => r' = r ∧ i_Rel (k + 6) u' v') v) u := by
  obtain ⟨x_nodeCount, x_bound, x_fault, x_faultPlace, x_mode, x_at, x_tokenStart, x_textCount, x_escaped, x_valueSlot, x_valueName, x_depth, x_outputLength, x_text, x_typeKind, x_typeDetail, x_typeLeast, x_typeMost, x_fieldCount, x_fieldName, x_fieldType, x_fieldNeeded, x_tagType, x_nodeKind, x_nodeValue, x_nodeParent, x_nodeName, x_nodeSlot, x_nodeStart, x_nodeTag, x_completeCount, x_openNode, x_openSlot, x_openNames, x_openNext, x_openComma, x_output, y_parts, y_bad, y_nodes, y_fault, y_depth, y_nextName, y_wantsName, y_wantsTag, y_waiting, y_scaled, y_typeA, y_typeB, y_typeC, y_fields, y_tags, y_begin, y_end, y_inside, y_whole, y_kind, y_value, y_parent, y_name, y_slotOf, y_placeOf, y_complete, y_openNode, y_openType, y_openCount, y_openNames, y_openChoice, y_todo, L, rfl, rfl, hT, hB⟩ := I
  exact ⟨rfl, rl_mk (L := 0) ⟨by omega, hT.2⟩ (Or.inl rfl)⟩
theorem i_vc_place {k : Nat} {u : SX} {v : SY} (I : i_Rel k u v) (hk : k + 6 ≤ 3072) : wpX_place (fun r => wpY_place (fun r' => r' = r ∧ i_Rel (k + 6) u v) v) u := by
  obtain ⟨x_nodeCount, x_bound, x_fault, x_faultPlace, x_mode, x_at, x_tokenStart, x_textCount, x_escaped, x_valueSlot, x_valueName, x_depth, x_outputLength, x_text, x_typeKind, x_typeDetail, x_typeLeast, x_typeMost, x_fieldCount, x_fieldName, x_fieldType, x_fieldNeeded, x_tagType, x_nodeKind, x_nodeValue, x_nodeParent, x_nodeName, x_nodeSlot, x_nodeStart, x_nodeTag, x_completeCount, x_openNode, x_openSlot, x_openNames, x_openNext, x_openComma, x_output, y_parts, y_bad, y_nodes, y_fault, y_depth, y_nextName, y_wantsName, y_wantsTag, y_waiting, y_scaled, y_typeA, y_typeB, y_typeC, y_fields, y_tags, y_begin, y_end, y_inside, y_whole, y_kind, y_value, y_parent, y_name, y_slotOf, y_placeOf, y_complete, y_openNode, y_openType, y_openCount, y_openNames, y_openChoice, y_todo, L, rfl, rfl, hT, hB⟩ := I
  exact ⟨rfl, rl_mk hT hB⟩
theorem i_vc_nodes {k : Nat} {u : SX} {v : SY} (I : i_Rel k u v) (hk : k + 6 ≤ 3072) : wpX_nodes (fun r => wpY_nodes (fun r' => r' = r ∧ i_Rel (k + 6) u v) v) u := by
  obtain ⟨x_nodeCount, x_bound, x_fault, x_faultPlace, x_mode, x_at, x_tokenStart, x_textCount, x_escaped, x_valueSlot, x_valueName, x_depth, x_outputLength, x_text, x_typeKind, x_typeDetail, x_typeLeast, x_typeMost, x_fieldCount, x_fieldName, x_fieldType, x_fieldNeeded, x_tagType, x_nodeKind, x_nodeValue, x_nodeParent, x_nodeName, x_nodeSlot, x_nodeStart, x_nodeTag, x_completeCount, x_openNode, x_openSlot, x_openNames, x_openNext, x_openComma, x_output, y_parts, y_bad, y_nodes, y_fault, y_depth, y_nextName, y_wantsName, y_wantsTag, y_waiting, y_scaled, y_typeA, y_typeB, y_typeC, y_fields, y_tags, y_begin, y_end, y_inside, y_whole, y_kind, y_value, y_parent, y_name, y_slotOf, y_placeOf, y_complete, y_openNode, y_openType, y_openCount, y_openNames, y_openChoice, y_todo, L, rfl, rfl, hT, hB⟩ := I
  have hB' := hB
  rcases hB' with rfl | ⟨rfl, N, dp, -, rfl, rfl, -⟩
  · exact br_t rfl (br_t rfl ⟨rfl, rl_mk hT hB⟩)
  · exact br_f (by decide) (br_f (by decide) ⟨rfl, rl_mk hT hB⟩)
theorem i_vc_printed {k : Nat} {u : SX} {v : SY} (I : i_Rel k u v) (hk : k + 6 ≤ 3072) (v1 : Int32) : wpX_printed (fun r => wpY_printed (fun r' => r' = r ∧ i_Rel (k + 6) u v) v v1) u v1 := by
  obtain ⟨x_nodeCount, x_bound, x_fault, x_faultPlace, x_mode, x_at, x_tokenStart, x_textCount, x_escaped, x_valueSlot, x_valueName, x_depth, x_outputLength, x_text, x_typeKind, x_typeDetail, x_typeLeast, x_typeMost, x_fieldCount, x_fieldName, x_fieldType, x_fieldNeeded, x_tagType, x_nodeKind, x_nodeValue, x_nodeParent, x_nodeName, x_nodeSlot, x_nodeStart, x_nodeTag, x_completeCount, x_openNode, x_openSlot, x_openNames, x_openNext, x_openComma, x_output, y_parts, y_bad, y_nodes, y_fault, y_depth, y_nextName, y_wantsName, y_wantsTag, y_waiting, y_scaled, y_typeA, y_typeB, y_typeC, y_fields, y_tags, y_begin, y_end, y_inside, y_whole, y_kind, y_value, y_parent, y_name, y_slotOf, y_placeOf, y_complete, y_openNode, y_openType, y_openCount, y_openNames, y_openChoice, y_todo, L, rfl, rfl, hT, hB⟩ := I
  have R : i_Rel (k + 6) (nI L, x_nodeCount, x_bound, x_fault, x_faultPlace, x_mode, x_at, x_tokenStart, x_textCount, x_escaped, x_valueSlot, x_valueName, x_depth, x_outputLength, x_text, x_typeKind, x_typeDetail, x_typeLeast, x_typeMost, x_fieldCount, x_fieldName, x_fieldType, x_fieldNeeded, x_tagType, x_nodeKind, x_nodeValue, x_nodeParent, x_nodeName, x_nodeSlot, x_nodeStart, x_nodeTag, x_completeCount, x_openNode, x_openSlot, x_openNames, x_openNext, x_openComma, x_output) (nI L, y_parts, y_bad, y_nodes, y_fault, x_faultPlace, x_bound, y_depth, y_nextName, y_wantsName, y_wantsTag, x_outputLength, y_waiting, y_scaled, x_typeKind, y_typeA, y_typeB, y_typeC, x_fieldName, x_fieldType, y_fields, y_tags, x_fieldNeeded, x_text, y_begin, y_end, y_inside, y_whole, y_kind, y_value, y_parent, y_name, y_slotOf, y_placeOf, y_complete, y_openNode, y_openType, y_openCount, y_openNames, y_openChoice, x_output, y_todo) := rl_mk hT hB
  by_cases h0 : v1 < 0
  · exact br_t h0 (br_t h0 ⟨rfl, R⟩)
  · by_cases h1 : x_outputLength ≤ v1
    · exact br_f h0 (br_t h1 (br_f h0 (br_t h1 ⟨rfl, R⟩)))
    · rcases pk_ix v1 (n := 192) (by decide) with h | h | ⟨c, hc, rfl⟩
      · exact absurd h h0
      · have h2 : ¬ v1 < 192 := Int32.not_lt.mpr h
        have h3 : ¬ v1 ≤ 191 := Int32.not_le.mpr (hh_gt (n := 191) h (by decide))
        exact br_f h0 (br_f h1 (br_f h2 (br_f h0 (br_f h1 (br_f h3 ⟨rfl, R⟩)))))
      · have h2 : nI c < 192 := nI_lt (b := 192) hc (by decide)
        have h3 : nI c ≤ 191 := nI_le (b := 191) (by omega) (by decide)
        have i : vp_in (nI c) 192 := vp_in_nI hc (by decide)
        exact br_f h0 (br_f h1 (br_t h2 ⟨i, br_f h0 (br_f h1 (br_t h3 ⟨i, rfl, R⟩))⟩))
theorem i_vc_node {k : Nat} {u : SX} {v : SY} (I : i_Rel k u v) (hk : k + 6 ≤ 3072) (v1 : Int32) (v2 : Int32) : wpX_node (fun r => wpY_node (fun r' => r' = r ∧ i_Rel (k + 6) u v) v v1 v2) u v1 v2 := by
  obtain ⟨x_nodeCount, x_bound, x_fault, x_faultPlace, x_mode, x_at, x_tokenStart, x_textCount, x_escaped, x_valueSlot, x_valueName, x_depth, x_outputLength, x_text, x_typeKind, x_typeDetail, x_typeLeast, x_typeMost, x_fieldCount, x_fieldName, x_fieldType, x_fieldNeeded, x_tagType, x_nodeKind, x_nodeValue, x_nodeParent, x_nodeName, x_nodeSlot, x_nodeStart, x_nodeTag, x_completeCount, x_openNode, x_openSlot, x_openNames, x_openNext, x_openComma, x_output, y_parts, y_bad, y_nodes, y_fault, y_depth, y_nextName, y_wantsName, y_wantsTag, y_waiting, y_scaled, y_typeA, y_typeB, y_typeC, y_fields, y_tags, y_begin, y_end, y_inside, y_whole, y_kind, y_value, y_parent, y_name, y_slotOf, y_placeOf, y_complete, y_openNode, y_openType, y_openCount, y_openNames, y_openChoice, y_todo, L, rfl, rfl, hT, hB⟩ := I
  have R : i_Rel (k + 6) (nI L, x_nodeCount, x_bound, x_fault, x_faultPlace, x_mode, x_at, x_tokenStart, x_textCount, x_escaped, x_valueSlot, x_valueName, x_depth, x_outputLength, x_text, x_typeKind, x_typeDetail, x_typeLeast, x_typeMost, x_fieldCount, x_fieldName, x_fieldType, x_fieldNeeded, x_tagType, x_nodeKind, x_nodeValue, x_nodeParent, x_nodeName, x_nodeSlot, x_nodeStart, x_nodeTag, x_completeCount, x_openNode, x_openSlot, x_openNames, x_openNext, x_openComma, x_output) (nI L, y_parts, y_bad, y_nodes, y_fault, x_faultPlace, x_bound, y_depth, y_nextName, y_wantsName, y_wantsTag, x_outputLength, y_waiting, y_scaled, x_typeKind, y_typeA, y_typeB, y_typeC, x_fieldName, x_fieldType, y_fields, y_tags, x_fieldNeeded, x_text, y_begin, y_end, y_inside, y_whole, y_kind, y_value, y_parent, y_name, y_slotOf, y_placeOf, y_complete, y_openNode, y_openType, y_openCount, y_openNames, y_openChoice, x_output, y_todo) := rl_mk hT hB
  rcases hB with rfl | ⟨rfl, N, dp, -, rfl, rfl, e0, e1, e2, e3, -, -, hN, -⟩
  · exact br_t rfl (br_t rfl ⟨rfl, R⟩)
  · have hb : ¬ (1 : Int32) = 0 := by decide
    rcases pk_ix v1 (n := N) (by omega) with h | h | ⟨c, hc, rfl⟩
    · exact br_f hb (br_t h (br_f hb (br_t h ⟨rfl, R⟩)))
    · have h0 := hh_ge0 h (by omega)
      exact br_f hb (br_f h0 (br_f (Int32.not_lt.mpr h) (br_f hb (br_f h0 (br_t h ⟨rfl, R⟩)))))
    · have h0 : ¬ nI c < 0 := nI_pos (by omega)
      have h1 : nI c < nI N := nI_lt hc (by omega)
      have h2 : ¬ nI N ≤ nI c := nI_ge hc (by omega)
      have i : vp_in (nI c) 40 := vp_in_nI (by omega) (by decide)
      have ec : (nI c).toNatClampNeg = c := nI_clamp (by omega)
      refine br_f hb (br_f h0 (br_t h1 ?_))
      rcases pk_ix v2 (n := 4) (by decide) with w | w | ⟨d, hd, rfl⟩
      · exact br_t w (br_f hb (br_f h0 (br_f h2 (br_t w (br_t rfl ⟨rfl, R⟩)))))
      · have w0 := hh_ge0 w (by decide)
        have w3 : (3 : Int32) < v2 := hh_gt (n := 3) w (by decide)
        exact br_f w0 (br_t w3 (br_f hb (br_f h0 (br_f h2 (br_f w0 (br_t w3 (br_t rfl ⟨rfl, R⟩)))))))
      · have w0 : ¬ nI d < 0 := nI_pos (by omega)
        have w3 : ¬ (3 : Int32) < nI d := nI_nlt (b := d) (a := 3) (by omega) (by omega)
        refine br_f w0 (br_f w3 ?_)
        have hd' : d = 0 ∨ d = 1 ∨ d = 2 ∨ d = 3 := by omega
        rcases hd' with rfl | rfl | rfl | rfl
        · exact br_t rfl ⟨i, br_f hb (br_f h0 (br_f h2 (br_f w0 (br_f w3 (br_f (by decide) (br_t rfl ⟨i, by rw [ec]; exact e0 c hc, R⟩))))))⟩
        · exact br_f (by decide) (br_t rfl ⟨i, br_f hb (br_f h0 (br_f h2 (br_f w0 (br_f w3 (br_f (by decide) (br_f (by decide) (br_t rfl ⟨i, by rw [ec]; exact e1 c hc, R⟩)))))))⟩)
        · exact br_f (by decide) (br_f (by decide) (br_t rfl ⟨i, br_f hb (br_f h0 (br_f h2 (br_f w0 (br_f w3 (br_f (by decide) (br_f (by decide) (br_f (by decide) (br_t rfl ⟨i, by rw [ec]; exact e2 c hc, R⟩))))))))⟩))
        · exact br_f (by decide) (br_f (by decide) (br_f (by decide) (br_t rfl ⟨i, br_f hb (br_f h0 (br_f h2 (br_f w0 (br_f w3 (br_f (by decide) (br_f (by decide) (br_f (by decide) (br_f (by decide) ⟨i, by rw [ec]; exact e3 c hc, R⟩))))))))⟩)))
end
section
/-! the types: simple, list, members, field, tag, wrap -/
def yd_F (f : Nat → Int32) (i e : Nat) : Nat → Int32 := fun j => if i ≤ j ∧ j < e then -1 else f j
theorem yd_0 (f : Nat → Int32) (i : Nat) : yd_F f i i = f := by
  funext j; unfold yd_F; rw [if_neg (by omega)]
theorem yd_1 (f : Nat → Int32) {i e : Nat} (h : i < e) : yd_F (upd f i (-1)) (i + 1) e = yd_F f i e := by
  funext j; unfold yd_F upd
  by_cases a : j = i
  · rw [if_neg (by omega), if_pos a, if_pos (by omega)]
  · rw [if_neg a]
    by_cases b : i ≤ j ∧ j < e
    · rw [if_pos (by omega), if_pos b]
    · rw [if_neg (by omega), if_neg b]
theorem yd_in {f : Nat → Int32} {i e j : Nat} (h : i ≤ j) (h' : j < e) : yd_F f i e j = -1 := if_pos ⟨h, h'⟩
theorem yd_out {f : Nat → Int32} {i e j : Nat} (h : ¬ (i ≤ j ∧ j < e)) : yd_F f i e j = f j := if_neg h
theorem xs_0 {post : Int32 → Prop} {x : Int32} (h : x < 0 ∨ nI 12 ≤ x) (hp : post 0) : wpX_isSlot post x := by
  by_cases z : x < 0
  · exact br_t z hp
  · exact br_f z (br_t (h.resolve_left z) hp)
theorem xs_1 {post : Int32 → Prop} {s : Nat} (hs : s < 12) (hp : post 1) : wpX_isSlot post (nI s) :=
  br_f (nI_pos (by omega)) (br_f (nI_ge (b := 12) hs (by decide)) hp)
theorem yi_0 {post : Int32 → Prop} {x : Int32} (n : Nat) (hn : n < 1000) (h : x < 0 ∨ nI (n + 1) ≤ x) (hp : post 0) : wpY_in post x 0 (nI n) := by
  by_cases z : x < 0
  · exact br_t z hp
  · exact br_f z (br_t (hh_gt (h.resolve_left z) (by omega)) hp)
theorem yi_1 {post : Int32 → Prop} {c : Nat} (n : Nat) (hn : n < 1000) (h : c ≤ n) (hp : post 1) : wpY_in post (nI c) 0 (nI n) :=
  br_f (nI_pos (by omega)) (br_f (nI_nlt h (by omega)) hp)
section
variable {x_length x_nodeCount x_bound x_fault x_faultPlace x_mode x_at x_tokenStart x_textCount x_escaped x_valueSlot x_valueName x_depth x_outputLength : Int32} {x_text x_typeKind x_typeDetail x_typeLeast x_typeMost x_fieldCount x_fieldName x_fieldType x_fieldNeeded x_tagType x_nodeKind x_nodeValue x_nodeParent x_nodeName x_nodeSlot x_nodeStart x_nodeTag x_completeCount x_openNode x_openSlot x_openNames x_openNext x_openComma x_output : Nat → Int32} {y_length y_parts y_bad y_nodes y_fault y_place y_bound y_depth y_nextName y_wantsName y_wantsTag y_printed y_waiting y_scaled : Int32} {y_sort y_typeA y_typeB y_typeC y_fieldName y_fieldType y_fields y_tags y_needed y_text y_begin y_end y_inside y_whole y_kind y_value y_parent y_name y_slotOf y_placeOf y_complete y_openNode y_openType y_openCount y_openNames y_openChoice y_output y_todo : Nat → Int32}
theorem xs_set {post : SX → Prop} {s : Nat} (hs : s < 12) {kd d l m : Int32} (h : post (x_length, x_nodeCount, 0, x_fault, x_faultPlace, x_mode, x_at, x_tokenStart, x_textCount, x_escaped, x_valueSlot, x_valueName, x_depth, x_outputLength, x_text, upd x_typeKind s kd, upd x_typeDetail s d, upd x_typeLeast s l, upd x_typeMost s m, x_fieldCount, x_fieldName, x_fieldType, x_fieldNeeded, x_tagType, x_nodeKind, x_nodeValue, x_nodeParent, x_nodeName, x_nodeSlot, x_nodeStart, x_nodeTag, x_completeCount, x_openNode, x_openSlot, x_openNames, x_openNext, x_openComma, x_output)) : wpX_setType post (x_length, x_nodeCount, x_bound, x_fault, x_faultPlace, x_mode, x_at, x_tokenStart, x_textCount, x_escaped, x_valueSlot, x_valueName, x_depth, x_outputLength, x_text, x_typeKind, x_typeDetail, x_typeLeast, x_typeMost, x_fieldCount, x_fieldName, x_fieldType, x_fieldNeeded, x_tagType, x_nodeKind, x_nodeValue, x_nodeParent, x_nodeName, x_nodeSlot, x_nodeStart, x_nodeTag, x_completeCount, x_openNode, x_openSlot, x_openNames, x_openNext, x_openComma, x_output) (nI s) kd d l m := by
  have e : (nI s).toNatClampNeg = s := nI_clamp (by omega)
  have i : vp_in (nI s) 12 := vp_in_nI hs (by decide)
  unfold wpX_setType
  dsimp only
  rw [e]
  exact ⟨i, nm_e ⟨i, nm_e ⟨i, nm_e ⟨i, nm_e h⟩⟩⟩⟩
theorem yd_loop {post : Int32 → SY → Prop} {s : Nat} (hs : s < 12) : ∀ (m i : Nat) (g : Nat → Int32), i + m = 6 * s + 6 → post 1 (y_length, y_parts, y_bad, y_nodes, y_fault, y_place, 0, y_depth, y_nextName, y_wantsName, y_wantsTag, y_printed, y_waiting, y_scaled, y_sort, y_typeA, y_typeB, y_typeC, y_fieldName, y_fieldType, y_fields, yd_F g i (6 * s + 6), y_needed, y_text, y_begin, y_end, y_inside, y_whole, y_kind, y_value, y_parent, y_name, y_slotOf, y_placeOf, y_complete, y_openNode, y_openType, y_openCount, y_openNames, y_openChoice, y_output, y_todo) → wY_define_43 post (nI s) y_length y_parts y_bad y_nodes y_fault y_place y_bound y_depth y_nextName y_wantsName y_wantsTag y_printed y_waiting y_scaled (m + 1) (nI i) y_sort y_typeA y_typeB y_typeC y_fieldName y_fieldType y_fields g y_needed y_text y_begin y_end y_inside y_whole y_kind y_value y_parent y_name y_slotOf y_placeOf y_complete y_openNode y_openType y_openCount y_openNames y_openChoice y_output y_todo := by
  have e6 : (6 : Int32) * nI s + 6 = nI (6 * s + 6) := by
    show nI 6 * nI s + nI 6 = _
    rw [pk_mul, nI_add]
  intro m
  induction m with
  | zero =>
    intro i g hi h
    have hi' : i = 6 * s + 6 := by omega
    subst hi'
    rw [yd_0] at h
    refine br_t ?_ h
    rw [e6]; exact nI_le (by omega) (by omega)
  | succ m ih =>
    intro i g hi h
    refine br_f ?_ ⟨vp_in_nI (by omega) (by decide), nm_e (nm_r (nI_1 i) ?_)⟩
    · rw [e6]; exact nI_ge (by omega) (by omega)
    · rw [nI_clamp (by omega)]
      refine ih (i + 1) _ (by omega) ?_
      rw [yd_1 g (by omega)]; exact h
theorem yd_def {post : Int32 → SY → Prop} {s : Nat} (hs : s < 12) {kd a b c : Int32} (h : post 1 (y_length, y_parts, y_bad, y_nodes, y_fault, y_place, 0, y_depth, y_nextName, y_wantsName, y_wantsTag, y_printed, y_waiting, y_scaled, upd y_sort s kd, upd y_typeA s a, upd y_typeB s b, upd y_typeC s c, y_fieldName, y_fieldType, upd y_fields s 0, yd_F y_tags (6 * s) (6 * s + 6), y_needed, y_text, y_begin, y_end, y_inside, y_whole, y_kind, y_value, y_parent, y_name, y_slotOf, y_placeOf, y_complete, y_openNode, y_openType, y_openCount, y_openNames, y_openChoice, y_output, y_todo)) : wpY_define post (y_length, y_parts, y_bad, y_nodes, y_fault, y_place, y_bound, y_depth, y_nextName, y_wantsName, y_wantsTag, y_printed, y_waiting, y_scaled, y_sort, y_typeA, y_typeB, y_typeC, y_fieldName, y_fieldType, y_fields, y_tags, y_needed, y_text, y_begin, y_end, y_inside, y_whole, y_kind, y_value, y_parent, y_name, y_slotOf, y_placeOf, y_complete, y_openNode, y_openType, y_openCount, y_openNames, y_openChoice, y_output, y_todo) (nI s) kd a b c := by
  have e : (nI s).toNatClampNeg = s := nI_clamp (by omega)
  have i : vp_in (nI s) 12 := vp_in_nI hs (by decide)
  have e6 : (6 : Int32) * nI s = nI (6 * s) := by
    show nI 6 * nI s = _
    rw [pk_mul]
  unfold wpY_define
  dsimp only
  rw [e]
  refine ⟨i, nm_e ⟨i, nm_e ⟨i, nm_e ⟨i, nm_e ⟨i, nm_e (nm_r e6 ⟨6 + 1, ?_⟩)⟩⟩⟩⟩⟩
  exact yd_loop hs 6 (6 * s) y_tags (by omega) h
theorem xm_loop {post : Int32 → SX → Prop} {s : Nat} (hs : s < 12) : ∀ (m i : Nat) (g : Nat → Int32), i + m = 6 → post 1 (x_length, x_nodeCount, x_bound, x_fault, x_faultPlace, x_mode, x_at, x_tokenStart, x_textCount, x_escaped, x_valueSlot, x_valueName, x_depth, x_outputLength, x_text, x_typeKind, x_typeDetail, x_typeLeast, x_typeMost, x_fieldCount, x_fieldName, x_fieldType, x_fieldNeeded, yd_F g (6 * s + i) (6 * s + 6), x_nodeKind, x_nodeValue, x_nodeParent, x_nodeName, x_nodeSlot, x_nodeStart, x_nodeTag, x_completeCount, x_openNode, x_openSlot, x_openNames, x_openNext, x_openComma, x_output) → wX_members_51 post (nI s) x_length x_nodeCount x_bound x_fault x_faultPlace x_mode x_at x_tokenStart x_textCount x_escaped x_valueSlot x_valueName x_depth x_outputLength (m + 1) (nI i) x_text x_typeKind x_typeDetail x_typeLeast x_typeMost x_fieldCount x_fieldName x_fieldType x_fieldNeeded g x_nodeKind x_nodeValue x_nodeParent x_nodeName x_nodeSlot x_nodeStart x_nodeTag x_completeCount x_openNode x_openSlot x_openNames x_openNext x_openComma x_output := by
  intro m
  induction m with
  | zero =>
    intro i g hi h
    have hi' : i = 6 := by omega
    subst hi'
    rw [yd_0] at h
    exact br_t (by decide) h
  | succ m ih =>
    intro i g hi h
    have e6 : nI s * 6 + nI i = nI (6 * s + i) := by
      show nI s * nI 6 + nI i = _
      rw [pk_mul, nI_add, Nat.mul_comm]
    refine br_f (nI_ge (b := 6) (by omega) (by decide)) ?_
    rw [e6]
    refine ⟨vp_in_nI (by omega) (by decide), nm_e (nm_r (nI_1 i) ?_)⟩
    rw [nI_clamp (by omega)]
    refine ih (i + 1) _ (by omega) ?_
    rw [show 6 * s + (i + 1) = 6 * s + i + 1 from by omega, yd_1 g (by omega)]; exact h
end
theorem ty_n {so tD tL tM fN fT fB tA tB tC fs gY fC' gX' : Nat → Int32} {s : Nat} {kd d l m a b c : Int32}
    (h0 : ∃ j, j ≤ 8 ∧ kd = nI j)
    (h1 : kd = 1 → a = d ∧ b = l ∧ c = m ∧ ∃ e, e ≤ 4 ∧ d = nI e)
    (h2 : kd = 2 → a = d ∧ ∃ e, e ≤ 40 ∧ d = nI e)
    (h4 : kd = 4 → a = d ∧ b = l ∧ c = m ∧ ∃ e a' b', e < 12 ∧ d = nI e ∧ a' ≤ b' ∧ b' ≤ 20 ∧ l = nI a' ∧ m = nI b')
    (h5 : kd = 5 → fC' s = 0)
    (h6 : kd = 6 → a = d ∧ (∃ e, e < 6 ∧ d = nI e) ∧ ∀ i, i < 6 → gX' (6 * s + i) = -1)
    (h7 : kd = 7 ∨ kd = 8 → a = d ∧ ∃ e, e < 12 ∧ d = nI e) :
    ty_S (upd so s kd) (upd tD s d) (upd tL s l) (upd tM s m) fC' fN fT fB gX' (upd tA s a) (upd tB s b) (upd tC s c) (upd fs s 0) (yd_F gY (6 * s) (6 * s + 6)) s := by
  unfold ty_S
  simp only [pk_us]
  refine ⟨h0, h1, h2, h4, fun z => ⟨(h5 z).symm, 0, by omega, h5 z, fun i hi => absurd hi (by omega), fun i j hi => absurd hi (by omega)⟩, fun z => ?_, h7⟩
  obtain ⟨p, q, r⟩ := h6 z
  exact ⟨p, q, fun i hi => ⟨by rw [yd_in (by omega) (by omega), r i hi], Or.inl (r i hi)⟩⟩
theorem ty_u {L : Nat} {t so tD tL tM fC fN fT fB gX tA tB tC fs gY fC' gX' : Nat → Int32} (hT : rl_T L t so tD tL tM fC fN fT fB gX tA tB tC fs gY) {s : Nat} {kd d l m a b c : Int32}
    (hC : ∀ i, i ≠ s → fC' i = fC i) (hG : ∀ i, ¬ (6 * s ≤ i ∧ i < 6 * s + 6) → gX' i = gX i)
    (hn : ty_S (upd so s kd) (upd tD s d) (upd tL s l) (upd tM s m) fC' fN fT fB gX' (upd tA s a) (upd tB s b) (upd tC s c) (upd fs s 0) (yd_F gY (6 * s) (6 * s + 6)) s) :
    rl_T L t (upd so s kd) (upd tD s d) (upd tL s l) (upd tM s m) fC' fN fT fB gX' (upd tA s a) (upd tB s b) (upd tC s c) (upd fs s 0) (yd_F gY (6 * s) (6 * s + 6)) := by
  refine ⟨hT.1, hT.2.1, fun r hr => ?_⟩
  by_cases z : r = s
  · subst z; exact hn
  · exact ty_c (hT.2.2 r hr) (pk_un z) (pk_un z) (pk_un z) (pk_un z) (hC r z) (fun _ _ => rfl) (fun _ _ => rfl) (fun _ _ => rfl) (fun i hi => hG _ (by omega)) (pk_un z) (pk_un z) (pk_un z) (pk_un z) (fun i hi => yd_out (by omega))
end
section
/-! simple, list, members, wrap, tag, field -/
theorem hh_ne {x : Int32} {n c : Nat} (h : x < 0 ∨ nI n ≤ x) (hc : c < n) (hn : n < 1000) : ¬ x = nI c := by
  rintro rfl
  rcases h with h | h
  · exact nI_pos (by omega) h
  · exact nI_ge hc (by omega) h
theorem i_vc_simple {k : Nat} {u : SX} {v : SY} (I : i_Rel k u v) (hk : k + 6 ≤ 3072) (v1 : Int32) (v2 : Int32) (v3 : Int32) (v4 : Int32) (v5 : Int32) : wpX_simple (fun r u' => wpY_simple (fun r' v' => r' = r ∧ i_Rel (k + 6) u' v') v v1 v2 v3 v4 v5) u v1 v2 v3 v4 v5 := by
  obtain ⟨x_nodeCount, x_bound, x_fault, x_faultPlace, x_mode, x_at, x_tokenStart, x_textCount, x_escaped, x_valueSlot, x_valueName, x_depth, x_outputLength, x_text, x_typeKind, x_typeDetail, x_typeLeast, x_typeMost, x_fieldCount, x_fieldName, x_fieldType, x_fieldNeeded, x_tagType, x_nodeKind, x_nodeValue, x_nodeParent, x_nodeName, x_nodeSlot, x_nodeStart, x_nodeTag, x_completeCount, x_openNode, x_openSlot, x_openNames, x_openNext, x_openComma, x_output, y_parts, y_bad, y_nodes, y_fault, y_depth, y_nextName, y_wantsName, y_wantsTag, y_waiting, y_scaled, y_typeA, y_typeB, y_typeC, y_fields, y_tags, y_begin, y_end, y_inside, y_whole, y_kind, y_value, y_parent, y_name, y_slotOf, y_placeOf, y_complete, y_openNode, y_openType, y_openCount, y_openNames, y_openChoice, y_todo, L, rfl, rfl, hT, hB⟩ := I
  have R : i_Rel (k + 6) (nI L, x_nodeCount, x_bound, x_fault, x_faultPlace, x_mode, x_at, x_tokenStart, x_textCount, x_escaped, x_valueSlot, x_valueName, x_depth, x_outputLength, x_text, x_typeKind, x_typeDetail, x_typeLeast, x_typeMost, x_fieldCount, x_fieldName, x_fieldType, x_fieldNeeded, x_tagType, x_nodeKind, x_nodeValue, x_nodeParent, x_nodeName, x_nodeSlot, x_nodeStart, x_nodeTag, x_completeCount, x_openNode, x_openSlot, x_openNames, x_openNext, x_openComma, x_output) (nI L, y_parts, y_bad, y_nodes, y_fault, x_faultPlace, x_bound, y_depth, y_nextName, y_wantsName, y_wantsTag, x_outputLength, y_waiting, y_scaled, x_typeKind, y_typeA, y_typeB, y_typeC, x_fieldName, x_fieldType, y_fields, y_tags, x_fieldNeeded, x_text, y_begin, y_end, y_inside, y_whole, y_kind, y_value, y_parent, y_name, y_slotOf, y_placeOf, y_complete, y_openNode, y_openType, y_openCount, y_openNames, y_openChoice, x_output, y_todo) := rl_mk hT hB
  unfold wpX_simple wpY_simple
  dsimp only
  have slot : (v1 < 0 ∨ nI 12 ≤ v1) ∨ ∃ s, s < 12 ∧ v1 = nI s := by
    rcases pk_ix v1 (n := 12) (by decide) with h | h | h
    · exact Or.inl (Or.inl h)
    · exact Or.inl (Or.inr h)
    · exact Or.inr h
  rcases slot with h | ⟨s, hs, rfl⟩
  · exact xs_0 h (br_t rfl (yi_0 11 (by decide) h (br_t rfl ⟨rfl, R⟩)))
  refine xs_1 hs (br_f (by decide) ?_)
  have what : (v2 < 0 ∨ nI 3 ≤ v2) ∨ v2 = nI 0 ∨ v2 = nI 1 ∨ v2 = nI 2 := by
    rcases pk_ix v2 (n := 3) (by decide) with h | h | ⟨j, hj, rfl⟩
    · exact Or.inl (Or.inl h)
    · exact Or.inl (Or.inr h)
    · have : j = 0 ∨ j = 1 ∨ j = 2 := by omega
      rcases this with rfl | rfl | rfl
      · exact Or.inr (Or.inl rfl)
      · exact Or.inr (Or.inr (Or.inl rfl))
      · exact Or.inr (Or.inr (Or.inr rfl))
  rcases what with h | rfl | rfl | rfl
  · exact br_f (hh_ne (c := 0) h (by decide) (by decide)) (br_f (hh_ne (c := 1) h (by decide) (by decide)) (br_f (hh_ne (c := 2) h (by decide) (by decide)) (yi_1 11 (by decide) (by omega) (br_f (by decide) (yi_0 2 (by decide) h (br_t rfl ⟨rfl, R⟩))))))
  · refine br_t rfl ?_
    rcases pk_ix v3 (n := 5) (by decide) with h | h | ⟨d, hd, rfl⟩
    · exact br_t h (br_f (by decide) (br_f (by decide) (yi_1 11 (by decide) (by omega) (br_f (by decide) (yi_1 (c := 0) 2 (by decide) (by omega) (br_f (by decide) (br_t rfl (yi_0 4 (by decide) (Or.inl h) (br_t rfl ⟨rfl, R⟩)))))))))
    · exact br_f (hh_ge0 h (by decide)) (br_t (hh_gt (n := 4) h (by decide)) (br_f (by decide) (br_f (by decide) (yi_1 11 (by decide) (by omega) (br_f (by decide) (yi_1 (c := 0) 2 (by decide) (by omega) (br_f (by decide) (br_t rfl (yi_0 4 (by decide) (Or.inr h) (br_t rfl ⟨rfl, R⟩))))))))))
    · refine br_f (nI_pos (by omega)) (br_f (nI_nlt (b := d) (a := 4) (by omega) (by omega)) ?_)
      by_cases w : v5 < v4
      · exact br_t w (br_f (by decide) (br_f (by decide) (yi_1 11 (by decide) (by omega) (br_f (by decide) (yi_1 (c := 0) 2 (by decide) (by omega) (br_f (by decide) (br_t rfl (yi_1 4 (by decide) (by omega) (br_f (by decide) (br_t w ⟨rfl, R⟩))))))))))
      · refine br_f w (xs_set hs ?_)
        dsimp only
        refine yi_1 11 (by decide) (by omega) (br_f (by decide) (yi_1 (c := 0) 2 (by decide) (by omega) (br_f (by decide) (br_t rfl (yi_1 4 (by decide) (by omega) (br_f (by decide) (br_f w (br_f (by decide) (yd_def hs ⟨rfl, rfl, ?_⟩)))))))))
        rw [show (1 : Int32) + nI 0 = 1 from by decide]
        exact rl_mk (ty_u hT (fun _ _ => rfl) (fun _ _ => rfl) (ty_n ⟨1, by omega, rfl⟩ (fun _ => ⟨rfl, rfl, rfl, d, by omega, rfl⟩) (fun z => absurd z (by decide)) (fun z => absurd z (by decide)) (fun z => absurd z (by decide)) (fun z => absurd z (by decide)) (fun z => absurd z (by decide)))) (Or.inl rfl)
  · refine br_f (by decide) (br_t rfl ?_)
    rcases pk_ix v3 (n := 41) (by decide) with h | h | ⟨d, hd, rfl⟩
    · exact br_t h (br_f (by decide) (yi_1 11 (by decide) (by omega) (br_f (by decide) (yi_1 (c := 1) 2 (by decide) (by omega) (br_f (by decide) (br_f (by decide) (br_t rfl (yi_0 40 (by decide) (Or.inl h) (br_t rfl ⟨rfl, R⟩)))))))))
    · exact br_f (hh_ge0 h (by decide)) (br_t (hh_gt (n := 40) h (by decide)) (br_f (by decide) (yi_1 11 (by decide) (by omega) (br_f (by decide) (yi_1 (c := 1) 2 (by decide) (by omega) (br_f (by decide) (br_f (by decide) (br_t rfl (yi_0 40 (by decide) (Or.inr h) (br_t rfl ⟨rfl, R⟩))))))))))
    · refine br_f (nI_pos (by omega)) (br_f (nI_nlt (b := d) (a := 40) (by omega) (by omega)) (xs_set hs ?_))
      dsimp only
      refine yi_1 11 (by decide) (by omega) (br_f (by decide) (yi_1 (c := 1) 2 (by decide) (by omega) (br_f (by decide) (br_f (by decide) (br_t rfl (yi_1 40 (by decide) (by omega) (br_f (by decide) (yd_def hs ⟨rfl, rfl, ?_⟩))))))))
      rw [show (1 : Int32) + nI 1 = 2 from by decide]
      exact rl_mk (ty_u hT (fun _ _ => rfl) (fun _ _ => rfl) (ty_n ⟨2, by omega, rfl⟩ (fun z => absurd z (by decide)) (fun _ => ⟨rfl, d, by omega, rfl⟩) (fun z => absurd z (by decide)) (fun z => absurd z (by decide)) (fun z => absurd z (by decide)) (fun z => absurd z (by decide)))) (Or.inl rfl)
  · refine br_f (by decide) (br_f (by decide) (br_t rfl (xs_set hs ?_)))
    dsimp only
    refine yi_1 11 (by decide) (by omega) (br_f (by decide) (yi_1 (c := 2) 2 (by decide) (by omega) (br_f (by decide) (br_f (by decide) (br_f (by decide) (yd_def hs ⟨rfl, rfl, ?_⟩))))))
    rw [show (1 : Int32) + nI 2 = 3 from by decide]
    exact rl_mk (ty_u hT (fun _ _ => rfl) (fun _ _ => rfl) (ty_n ⟨3, by omega, rfl⟩ (fun z => absurd z (by decide)) (fun z => absurd z (by decide)) (fun z => absurd z (by decide)) (fun z => absurd z (by decide)) (fun z => absurd z (by decide)) (fun z => absurd z (by decide)))) (Or.inl rfl)
theorem hh_sl (x : Int32) : (x < 0 ∨ nI 12 ≤ x) ∨ ∃ s, s < 12 ∧ x = nI s := by
  rcases pk_ix x (n := 12) (by decide) with h | h | h
  · exact Or.inl (Or.inl h)
  · exact Or.inl (Or.inr h)
  · exact Or.inr h
theorem i_vc_list {k : Nat} {u : SX} {v : SY} (I : i_Rel k u v) (hk : k + 6 ≤ 3072) (v1 : Int32) (v2 : Int32) (v3 : Int32) (v4 : Int32) : wpX_list (fun r u' => wpY_list (fun r' v' => r' = r ∧ i_Rel (k + 6) u' v') v v1 v2 v3 v4) u v1 v2 v3 v4 := by
  obtain ⟨x_nodeCount, x_bound, x_fault, x_faultPlace, x_mode, x_at, x_tokenStart, x_textCount, x_escaped, x_valueSlot, x_valueName, x_depth, x_outputLength, x_text, x_typeKind, x_typeDetail, x_typeLeast, x_typeMost, x_fieldCount, x_fieldName, x_fieldType, x_fieldNeeded, x_tagType, x_nodeKind, x_nodeValue, x_nodeParent, x_nodeName, x_nodeSlot, x_nodeStart, x_nodeTag, x_completeCount, x_openNode, x_openSlot, x_openNames, x_openNext, x_openComma, x_output, y_parts, y_bad, y_nodes, y_fault, y_depth, y_nextName, y_wantsName, y_wantsTag, y_waiting, y_scaled, y_typeA, y_typeB, y_typeC, y_fields, y_tags, y_begin, y_end, y_inside, y_whole, y_kind, y_value, y_parent, y_name, y_slotOf, y_placeOf, y_complete, y_openNode, y_openType, y_openCount, y_openNames, y_openChoice, y_todo, L, rfl, rfl, hT, hB⟩ := I
  have R : i_Rel (k + 6) (nI L, x_nodeCount, x_bound, x_fault, x_faultPlace, x_mode, x_at, x_tokenStart, x_textCount, x_escaped, x_valueSlot, x_valueName, x_depth, x_outputLength, x_text, x_typeKind, x_typeDetail, x_typeLeast, x_typeMost, x_fieldCount, x_fieldName, x_fieldType, x_fieldNeeded, x_tagType, x_nodeKind, x_nodeValue, x_nodeParent, x_nodeName, x_nodeSlot, x_nodeStart, x_nodeTag, x_completeCount, x_openNode, x_openSlot, x_openNames, x_openNext, x_openComma, x_output) (nI L, y_parts, y_bad, y_nodes, y_fault, x_faultPlace, x_bound, y_depth, y_nextName, y_wantsName, y_wantsTag, x_outputLength, y_waiting, y_scaled, x_typeKind, y_typeA, y_typeB, y_typeC, x_fieldName, x_fieldType, y_fields, y_tags, x_fieldNeeded, x_text, y_begin, y_end, y_inside, y_whole, y_kind, y_value, y_parent, y_name, y_slotOf, y_placeOf, y_complete, y_openNode, y_openType, y_openCount, y_openNames, y_openChoice, x_output, y_todo) := rl_mk hT hB
  unfold wpX_list wpY_list
  dsimp only
  rcases hh_sl v1 with h | ⟨s, hs, rfl⟩
  · exact xs_0 h (br_t rfl (yi_0 11 (by decide) h (br_t rfl ⟨rfl, R⟩)))
  refine xs_1 hs (br_f (by decide) ?_)
  rcases hh_sl v2 with h | ⟨o, ho, rfl⟩
  · exact xs_0 h (br_t rfl (yi_1 11 (by decide) (by omega) (br_f (by decide) (yi_0 11 (by decide) h (br_t rfl ⟨rfl, R⟩)))))
  refine xs_1 ho (br_f (by decide) ?_)
  by_cases h0 : v3 < 0
  · exact br_t h0 (yi_1 11 (by decide) (by omega) (br_f (by decide) (yi_1 11 (by decide) (by omega) (br_f (by decide) (br_t h0 ⟨rfl, R⟩)))))
  by_cases h1 : v4 < v3
  · exact br_f h0 (br_t h1 (yi_1 11 (by decide) (by omega) (br_f (by decide) (yi_1 11 (by decide) (by omega) (br_f (by decide) (br_f h0 (br_t h1 ⟨rfl, R⟩)))))))
  by_cases h2 : v4 ≤ 20
  · refine br_f h0 (br_f h1 (br_t h2 (xs_set hs ?_)))
    dsimp only
    refine yi_1 11 (by decide) (by omega) (br_f (by decide) (yi_1 11 (by decide) (by omega) (br_f (by decide) (br_f h0 (br_f h1 (br_t h2 (yd_def hs ⟨rfl, rfl, ?_⟩)))))))
    obtain ⟨a, ha, rfl⟩ := nI_of h0
    have h3 : ¬ v4 < 0 := fun z => h1 (Int32.lt_of_lt_of_le z (nI_pos' ha))
    obtain ⟨b, hb, rfl⟩ := nI_of h3
    have h4 : b ≤ 20 := (nI_leI (b := 20) hb (by decide)).mp h2
    have h5 : a ≤ b := by
      rw [nI_ltI hb ha] at h1
      omega
    exact rl_mk (ty_u hT (fun _ _ => rfl) (fun _ _ => rfl) (ty_n ⟨4, by omega, rfl⟩ (fun z => absurd z (by decide)) (fun z => absurd z (by decide)) (fun _ => ⟨rfl, rfl, rfl, o, a, b, ho, rfl, h5, h4, rfl, rfl⟩) (fun z => absurd z (by decide)) (fun z => absurd z (by decide)) (fun z => absurd z (by decide)))) (Or.inl rfl)
  · exact br_f h0 (br_f h1 (br_f h2 (yi_1 11 (by decide) (by omega) (br_f (by decide) (yi_1 11 (by decide) (by omega) (br_f (by decide) (br_f h0 (br_f h1 (br_f h2 ⟨rfl, R⟩)))))))))
theorem i_vc_wrap {k : Nat} {u : SX} {v : SY} (I : i_Rel k u v) (hk : k + 6 ≤ 3072) (v1 : Int32) (v2 : Int32) (v3 : Int32) : wpX_wrap (fun r u' => wpY_wrap (fun r' v' => r' = r ∧ i_Rel (k + 6) u' v') v v1 v2 v3) u v1 v2 v3 := by
  obtain ⟨x_nodeCount, x_bound, x_fault, x_faultPlace, x_mode, x_at, x_tokenStart, x_textCount, x_escaped, x_valueSlot, x_valueName, x_depth, x_outputLength, x_text, x_typeKind, x_typeDetail, x_typeLeast, x_typeMost, x_fieldCount, x_fieldName, x_fieldType, x_fieldNeeded, x_tagType, x_nodeKind, x_nodeValue, x_nodeParent, x_nodeName, x_nodeSlot, x_nodeStart, x_nodeTag, x_completeCount, x_openNode, x_openSlot, x_openNames, x_openNext, x_openComma, x_output, y_parts, y_bad, y_nodes, y_fault, y_depth, y_nextName, y_wantsName, y_wantsTag, y_waiting, y_scaled, y_typeA, y_typeB, y_typeC, y_fields, y_tags, y_begin, y_end, y_inside, y_whole, y_kind, y_value, y_parent, y_name, y_slotOf, y_placeOf, y_complete, y_openNode, y_openType, y_openCount, y_openNames, y_openChoice, y_todo, L, rfl, rfl, hT, hB⟩ := I
  have R : i_Rel (k + 6) (nI L, x_nodeCount, x_bound, x_fault, x_faultPlace, x_mode, x_at, x_tokenStart, x_textCount, x_escaped, x_valueSlot, x_valueName, x_depth, x_outputLength, x_text, x_typeKind, x_typeDetail, x_typeLeast, x_typeMost, x_fieldCount, x_fieldName, x_fieldType, x_fieldNeeded, x_tagType, x_nodeKind, x_nodeValue, x_nodeParent, x_nodeName, x_nodeSlot, x_nodeStart, x_nodeTag, x_completeCount, x_openNode, x_openSlot, x_openNames, x_openNext, x_openComma, x_output) (nI L, y_parts, y_bad, y_nodes, y_fault, x_faultPlace, x_bound, y_depth, y_nextName, y_wantsName, y_wantsTag, x_outputLength, y_waiting, y_scaled, x_typeKind, y_typeA, y_typeB, y_typeC, x_fieldName, x_fieldType, y_fields, y_tags, x_fieldNeeded, x_text, y_begin, y_end, y_inside, y_whole, y_kind, y_value, y_parent, y_name, y_slotOf, y_placeOf, y_complete, y_openNode, y_openType, y_openCount, y_openNames, y_openChoice, x_output, y_todo) := rl_mk hT hB
  unfold wpX_wrap wpY_wrap
  dsimp only
  rcases hh_sl v1 with h | ⟨s, hs, rfl⟩
  · exact xs_0 h (br_t rfl (yi_0 11 (by decide) h (br_t rfl ⟨rfl, R⟩)))
  refine xs_1 hs (br_f (by decide) ?_)
  rcases pk_ix v2 (n := 2) (by decide) with w | w | ⟨c, hc, rfl⟩
  · rcases hh_sl v3 with h | ⟨o, ho, rfl⟩
    · exact xs_0 h (br_t rfl (yi_1 11 (by decide) (by omega) (br_f (by decide) (yi_0 1 (by decide) (Or.inl w) (br_t rfl ⟨rfl, R⟩)))))
    · exact xs_1 ho (br_f (by decide) (br_t w (yi_1 11 (by decide) (by omega) (br_f (by decide) (yi_0 1 (by decide) (Or.inl w) (br_t rfl ⟨rfl, R⟩))))))
  · rcases hh_sl v3 with h | ⟨o, ho, rfl⟩
    · exact xs_0 h (br_t rfl (yi_1 11 (by decide) (by omega) (br_f (by decide) (yi_0 1 (by decide) (Or.inr w) (br_t rfl ⟨rfl, R⟩)))))
    · exact xs_1 ho (br_f (by decide) (br_f (hh_ge0 w (by decide)) (br_f (Int32.not_le.mpr (hh_gt (n := 1) w (by decide))) (yi_1 11 (by decide) (by omega) (br_f (by decide) (yi_0 1 (by decide) (Or.inr w) (br_t rfl ⟨rfl, R⟩)))))))
  · rcases hh_sl v3 with h | ⟨o, ho, rfl⟩
    · exact xs_0 h (br_t rfl (yi_1 11 (by decide) (by omega) (br_f (by decide) (yi_1 1 (by decide) (by omega) (br_f (by decide) (yi_0 11 (by decide) h (br_t rfl ⟨rfl, R⟩)))))))
    · refine xs_1 ho (br_f (by decide) (br_f (nI_pos (by omega)) (br_t (nI_le (b := 1) (by omega) (by decide)) ?_)))
      have hc' : c = 0 ∨ c = 1 := by omega
      rcases hc' with rfl | rfl
      · refine br_t rfl (xs_set hs ?_)
        dsimp only
        refine yi_1 11 (by decide) (by omega) (br_f (by decide) (yi_1 (c := 0) 1 (by decide) (by omega) (br_f (by decide) (yi_1 11 (by decide) (by omega) (br_f (by decide) (yd_def hs (br_f (by decide) ⟨rfl, ?_⟩)))))))
        rw [show (7 : Int32) + nI 0 = 7 from by decide]
        exact rl_mk (ty_u hT (fun _ _ => rfl) (fun _ _ => rfl) (ty_n ⟨7, by omega, rfl⟩ (fun z => absurd z (by decide)) (fun z => absurd z (by decide)) (fun z => absurd z (by decide)) (fun z => absurd z (by decide)) (fun z => absurd z (by decide)) (fun _ => ⟨rfl, o, ho, rfl⟩))) (Or.inl rfl)
      · refine br_f (by decide) (xs_set hs ?_)
        dsimp only
        refine yi_1 11 (by decide) (by omega) (br_f (by decide) (yi_1 (c := 1) 1 (by decide) (by omega) (br_f (by decide) (yi_1 11 (by decide) (by omega) (br_f (by decide) (yd_def hs (br_f (by decide) ⟨rfl, ?_⟩)))))))
        rw [show (7 : Int32) + nI 1 = 8 from by decide]
        exact rl_mk (ty_u hT (fun _ _ => rfl) (fun _ _ => rfl) (ty_n ⟨8, by omega, rfl⟩ (fun z => absurd z (by decide)) (fun z => absurd z (by decide)) (fun z => absurd z (by decide)) (fun z => absurd z (by decide)) (fun z => absurd z (by decide)) (fun _ => ⟨rfl, o, ho, rfl⟩))) (Or.inl rfl)
theorem hh_neg {x : Int32} (h : ¬ x < -1) (h' : ¬ x = -1) : ¬ x < 0 := by
  intro z
  rw [Int32.lt_iff_toInt_lt] at h z
  rw [← Int32.toInt_inj] at h'
  have a : (-1 : Int32).toInt = -1 := by decide
  have b : (0 : Int32).toInt = 0 := by decide
  omega
theorem i_vc_members {k : Nat} {u : SX} {v : SY} (I : i_Rel k u v) (hk : k + 6 ≤ 3072) (v1 : Int32) (v2 : Int32) : wpX_members (fun r u' => wpY_members (fun r' v' => r' = r ∧ i_Rel (k + 6) u' v') v v1 v2) u v1 v2 := by
  obtain ⟨x_nodeCount, x_bound, x_fault, x_faultPlace, x_mode, x_at, x_tokenStart, x_textCount, x_escaped, x_valueSlot, x_valueName, x_depth, x_outputLength, x_text, x_typeKind, x_typeDetail, x_typeLeast, x_typeMost, x_fieldCount, x_fieldName, x_fieldType, x_fieldNeeded, x_tagType, x_nodeKind, x_nodeValue, x_nodeParent, x_nodeName, x_nodeSlot, x_nodeStart, x_nodeTag, x_completeCount, x_openNode, x_openSlot, x_openNames, x_openNext, x_openComma, x_output, y_parts, y_bad, y_nodes, y_fault, y_depth, y_nextName, y_wantsName, y_wantsTag, y_waiting, y_scaled, y_typeA, y_typeB, y_typeC, y_fields, y_tags, y_begin, y_end, y_inside, y_whole, y_kind, y_value, y_parent, y_name, y_slotOf, y_placeOf, y_complete, y_openNode, y_openType, y_openCount, y_openNames, y_openChoice, y_todo, L, rfl, rfl, hT, hB⟩ := I
  have R : i_Rel (k + 6) (nI L, x_nodeCount, x_bound, x_fault, x_faultPlace, x_mode, x_at, x_tokenStart, x_textCount, x_escaped, x_valueSlot, x_valueName, x_depth, x_outputLength, x_text, x_typeKind, x_typeDetail, x_typeLeast, x_typeMost, x_fieldCount, x_fieldName, x_fieldType, x_fieldNeeded, x_tagType, x_nodeKind, x_nodeValue, x_nodeParent, x_nodeName, x_nodeSlot, x_nodeStart, x_nodeTag, x_completeCount, x_openNode, x_openSlot, x_openNames, x_openNext, x_openComma, x_output) (nI L, y_parts, y_bad, y_nodes, y_fault, x_faultPlace, x_bound, y_depth, y_nextName, y_wantsName, y_wantsTag, x_outputLength, y_waiting, y_scaled, x_typeKind, y_typeA, y_typeB, y_typeC, x_fieldName, x_fieldType, y_fields, y_tags, x_fieldNeeded, x_text, y_begin, y_end, y_inside, y_whole, y_kind, y_value, y_parent, y_name, y_slotOf, y_placeOf, y_complete, y_openNode, y_openType, y_openCount, y_openNames, y_openChoice, x_output, y_todo) := rl_mk hT hB
  unfold wpX_members wpY_members
  dsimp only
  rcases hh_sl v1 with h | ⟨s, hs, rfl⟩
  · exact xs_0 h (br_t rfl (yi_0 11 (by decide) h (br_t rfl ⟨rfl, R⟩)))
  refine xs_1 hs (br_f (by decide) ?_)
  have es : (nI s).toNatClampNeg = s := nI_clamp (by omega)
  by_cases h0 : v2 < -1
  · exact br_t h0 (yi_1 11 (by decide) (by omega) (br_f (by decide) (br_t h0 (br_t rfl ⟨rfl, R⟩))))
  by_cases h1 : v2 = -1
  · subst h1
    refine br_f h0 (br_t (by decide) (br_t rfl (xs_set hs ?_)))
    dsimp only
    rw [es]
    refine ⟨vp_in_nI hs (by decide), nm_e ⟨6 + 1, xm_loop hs 6 0 _ rfl ?_⟩⟩
    refine yi_1 11 (by decide) (by omega) (br_f (by decide) (br_f h0 (br_f (by decide) (br_f (by decide) (br_f (by decide) (yd_def hs (br_f (by decide) ⟨rfl, ?_⟩)))))))
    exact rl_mk (ty_u hT (fun _ z => pk_un z) (fun i z => yd_out z) (ty_n ⟨5, by omega, rfl⟩ (fun z => absurd z (by decide)) (fun z => absurd z (by decide)) (fun z => absurd z (by decide)) (fun _ => pk_us) (fun z => absurd z (by decide)) (fun z => absurd z (by decide)))) (Or.inl rfl)
  · have h2 := hh_neg h0 h1
    rcases pk_ix v2 (n := 6) (by decide) with w | w | ⟨c, hc, rfl⟩
    · exact absurd w h2
    · exact br_f h0 (br_f (Int32.not_lt.mpr w) (yi_1 11 (by decide) (by omega) (br_f (by decide) (br_f h0 (br_t (hh_gt (n := 5) w (by decide)) (br_t rfl ⟨rfl, R⟩))))))
    · refine br_f h0 (br_t (nI_lt (b := 6) hc (by decide)) (br_f h1 (xs_set hs ?_)))
      dsimp only
      rw [es]
      refine ⟨vp_in_nI hs (by decide), nm_e ⟨6 + 1, xm_loop hs 6 0 _ rfl ?_⟩⟩
      refine yi_1 11 (by decide) (by omega) (br_f (by decide) (br_f h0 (br_f (nI_nlt (b := c) (a := 5) (by omega) (by omega)) (br_f (by decide) (br_t (nI_pos' (by omega)) (yd_def hs (br_f (by decide) ⟨rfl, ?_⟩)))))))
      exact rl_mk (ty_u hT (fun _ z => pk_un z) (fun i z => yd_out z) (ty_n ⟨6, by omega, rfl⟩ (fun z => absurd z (by decide)) (fun z => absurd z (by decide)) (fun z => absurd z (by decide)) (fun z => absurd z (by decide)) (fun _ => ⟨rfl, ⟨c, hc, rfl⟩, fun i hi => yd_in (by omega) (by omega)⟩) (fun z => absurd z (by decide)))) (Or.inl rfl)
theorem i_vc_tag {k : Nat} {u : SX} {v : SY} (I : i_Rel k u v) (hk : k + 6 ≤ 3072) (v1 : Int32) (v2 : Int32) (v3 : Int32) : wpX_tag (fun r u' => wpY_tag (fun r' v' => r' = r ∧ i_Rel (k + 6) u' v') v v1 v2 v3) u v1 v2 v3 := by
  obtain ⟨x_nodeCount, x_bound, x_fault, x_faultPlace, x_mode, x_at, x_tokenStart, x_textCount, x_escaped, x_valueSlot, x_valueName, x_depth, x_outputLength, x_text, x_typeKind, x_typeDetail, x_typeLeast, x_typeMost, x_fieldCount, x_fieldName, x_fieldType, x_fieldNeeded, x_tagType, x_nodeKind, x_nodeValue, x_nodeParent, x_nodeName, x_nodeSlot, x_nodeStart, x_nodeTag, x_completeCount, x_openNode, x_openSlot, x_openNames, x_openNext, x_openComma, x_output, y_parts, y_bad, y_nodes, y_fault, y_depth, y_nextName, y_wantsName, y_wantsTag, y_waiting, y_scaled, y_typeA, y_typeB, y_typeC, y_fields, y_tags, y_begin, y_end, y_inside, y_whole, y_kind, y_value, y_parent, y_name, y_slotOf, y_placeOf, y_complete, y_openNode, y_openType, y_openCount, y_openNames, y_openChoice, y_todo, L, rfl, rfl, hT, hB⟩ := I
  have R : i_Rel (k + 6) (nI L, x_nodeCount, x_bound, x_fault, x_faultPlace, x_mode, x_at, x_tokenStart, x_textCount, x_escaped, x_valueSlot, x_valueName, x_depth, x_outputLength, x_text, x_typeKind, x_typeDetail, x_typeLeast, x_typeMost, x_fieldCount, x_fieldName, x_fieldType, x_fieldNeeded, x_tagType, x_nodeKind, x_nodeValue, x_nodeParent, x_nodeName, x_nodeSlot, x_nodeStart, x_nodeTag, x_completeCount, x_openNode, x_openSlot, x_openNames, x_openNext, x_openComma, x_output) (nI L, y_parts, y_bad, y_nodes, y_fault, x_faultPlace, x_bound, y_depth, y_nextName, y_wantsName, y_wantsTag, x_outputLength, y_waiting, y_scaled, x_typeKind, y_typeA, y_typeB, y_typeC, x_fieldName, x_fieldType, y_fields, y_tags, x_fieldNeeded, x_text, y_begin, y_end, y_inside, y_whole, y_kind, y_value, y_parent, y_name, y_slotOf, y_placeOf, y_complete, y_openNode, y_openType, y_openCount, y_openNames, y_openChoice, x_output, y_todo) := rl_mk hT hB
  unfold wpX_tag wpY_tag wpY_isSort
  dsimp only
  rcases hh_sl v1 with h | ⟨s, hs, rfl⟩
  · exact xs_0 h (br_t rfl (yi_0 11 (by decide) h (br_t rfl (br_t rfl ⟨rfl, R⟩))))
  refine xs_1 hs (br_f (by decide) ?_)
  have es : (nI s).toNatClampNeg = s := nI_clamp (by omega)
  have iS : vp_in (nI s) 12 := vp_in_nI hs (by decide)
  rw [es]
  by_cases q : x_typeKind s = 6
  · rcases pk_ix v2 (n := 6) (by decide) with w | w | ⟨c, hc, rfl⟩
    · rcases hh_sl v3 with h | ⟨o, ho, rfl⟩
      · exact xs_0 h (br_t rfl (yi_1 11 (by decide) (by omega) (br_f (by decide) ⟨iS, br_t q (br_f (by decide) (yi_0 5 (by decide) (Or.inl w) (br_t rfl ⟨rfl, R⟩)))⟩)))
      · exact xs_1 ho (br_f (by decide) (br_t w (yi_1 11 (by decide) (by omega) (br_f (by decide) ⟨iS, br_t q (br_f (by decide) (yi_0 5 (by decide) (Or.inl w) (br_t rfl ⟨rfl, R⟩)))⟩))))
    · rcases hh_sl v3 with h | ⟨o, ho, rfl⟩
      · exact xs_0 h (br_t rfl (yi_1 11 (by decide) (by omega) (br_f (by decide) ⟨iS, br_t q (br_f (by decide) (yi_0 5 (by decide) (Or.inr w) (br_t rfl ⟨rfl, R⟩)))⟩)))
      · exact xs_1 ho (br_f (by decide) (br_f (hh_ge0 w (by decide)) (br_f (Int32.not_lt.mpr w) (yi_1 11 (by decide) (by omega) (br_f (by decide) ⟨iS, br_t q (br_f (by decide) (yi_0 5 (by decide) (Or.inr w) (br_t rfl ⟨rfl, R⟩)))⟩)))))
    · rcases hh_sl v3 with h | ⟨o, ho, rfl⟩
      · exact xs_0 h (br_t rfl (yi_1 11 (by decide) (by omega) (br_f (by decide) ⟨iS, br_t q (br_f (by decide) (yi_1 5 (by decide) (by omega) (br_f (by decide) (yi_0 11 (by decide) h (br_t rfl ⟨rfl, R⟩)))))⟩)))
      · have e1 : nI s * 6 + nI c = nI (6 * s + c) := by
          show nI s * nI 6 + nI c = _
          rw [pk_mul, nI_add, Nat.mul_comm]
        have e2 : (6 : Int32) * nI s + nI c = nI (6 * s + c) := by
          show nI 6 * nI s + nI c = _
          rw [pk_mul, nI_add]
        have e3 : (nI (6 * s + c)).toNatClampNeg = 6 * s + c := nI_clamp (by omega)
        have iT : vp_in (nI (6 * s + c)) 72 := vp_in_nI (by omega) (by decide)
        rw [e1, e2, e3]
        refine xs_1 ho (br_f (by decide) (br_f (nI_pos (by omega)) (br_t (nI_lt (b := 6) hc (by decide)) ⟨iS, br_t q ⟨iT, nm_e (yi_1 11 (by decide) (by omega) (br_f (by decide) ⟨iS, br_t q (br_f (by decide) (yi_1 5 (by decide) (by omega) (br_f (by decide) (yi_1 11 (by decide) (by omega) (br_f (by decide) ⟨iT, nm_e ⟨rfl, ?_⟩⟩)))))⟩))⟩⟩)))
        refine rl_mk ⟨hT.1, hT.2.1, fun r hr => ?_⟩ (Or.inl rfl)
        by_cases z : r = s
        · subst z
          obtain ⟨h0, h1, h2, h4, h5, h6, h7⟩ := hT.2.2 r hr
          refine ⟨h0, h1, h2, h4, h5, fun y => ?_, h7⟩
          obtain ⟨a1, a2, a3⟩ := h6 y
          refine ⟨a1, a2, fun i hi => ?_⟩
          unfold upd
          by_cases f : 6 * r + i = 6 * r + c
          · rw [if_pos f, if_pos f]; exact ⟨rfl, Or.inr ⟨o, ho, rfl⟩⟩
          · rw [if_neg f, if_neg f]; exact a3 i hi
        · exact ty_c (hT.2.2 r hr) rfl rfl rfl rfl rfl (fun _ _ => rfl) (fun _ _ => rfl) (fun _ _ => rfl) (fun i hi => pk_un (by omega)) rfl rfl rfl rfl (fun i hi => pk_un (by omega))
  · rcases hh_sl v3 with h | ⟨o, ho, rfl⟩
    · exact xs_0 h (br_t rfl (yi_1 11 (by decide) (by omega) (br_f (by decide) ⟨iS, br_f q (br_t rfl ⟨rfl, R⟩)⟩)))
    · refine xs_1 ho (br_f (by decide) ?_)
      rcases pk_ix v2 (n := 6) (by decide) with w | w | ⟨c, hc, rfl⟩
      · exact br_t w (yi_1 11 (by decide) (by omega) (br_f (by decide) ⟨iS, br_f q (br_t rfl ⟨rfl, R⟩)⟩))
      · exact br_f (hh_ge0 w (by decide)) (br_f (Int32.not_lt.mpr w) (yi_1 11 (by decide) (by omega) (br_f (by decide) ⟨iS, br_f q (br_t rfl ⟨rfl, R⟩)⟩)))
      · exact br_f (nI_pos (by omega)) (br_t (nI_lt (b := 6) hc (by decide)) ⟨iS, br_f q (yi_1 11 (by decide) (by omega) (br_f (by decide) ⟨iS, br_f q (br_t rfl ⟨rfl, R⟩)⟩))⟩)
end
section
/-! field, and the beginning -/
def ff_F (fN : Nat → Int32) (s : Nat) (nm : Int32) : Nat → Nat → Int32
  | 0, _ => -1
  | m + 1, i => if fN (4 * s + i) = nm then nI (4 * s + i) else ff_F fN s nm m (i + 1)
theorem ff_S (fN : Nat → Int32) (s : Nat) (nm : Int32) : ∀ m i, (ff_F fN s nm m i = -1 ∧ ∀ j, i ≤ j → j < i + m → fN (4 * s + j) ≠ nm) ∨ ∃ j, i ≤ j ∧ j < i + m ∧ ff_F fN s nm m i = nI (4 * s + j) ∧ fN (4 * s + j) = nm
  | 0, i => Or.inl ⟨rfl, fun j h1 h2 => absurd h2 (by omega)⟩
  | m + 1, i => by
    unfold ff_F
    by_cases z : fN (4 * s + i) = nm
    · rw [if_pos z]; exact Or.inr ⟨i, by omega, by omega, rfl, z⟩
    · rw [if_neg z]
      rcases ff_S fN s nm m (i + 1) with ⟨a, b⟩ | ⟨j, a, b, c, d⟩
      · refine Or.inl ⟨a, fun j h1 h2 => ?_⟩
        rcases Nat.lt_or_ge i j with w | w
        · exact b j w (by omega)
        · have : j = i := by omega
          subst this; exact z
      · exact Or.inr ⟨j, by omega, by omega, c, d⟩
theorem hh_rg (x : Int32) (n : Nat) (hn : n < 1000) : (x < 0 ∨ nI n ≤ x) ∨ ∃ c, c < n ∧ x = nI c := by
  rcases pk_ix x (n := n) (by omega) with h | h | h
  · exact Or.inl (Or.inl h)
  · exact Or.inl (Or.inr h)
  · exact Or.inr h
section
variable {x_length x_nodeCount x_bound x_fault x_faultPlace x_mode x_at x_tokenStart x_textCount x_escaped x_valueSlot x_valueName x_depth x_outputLength : Int32} {x_text x_typeKind x_typeDetail x_typeLeast x_typeMost x_fieldCount x_fieldName x_fieldType x_fieldNeeded x_tagType x_nodeKind x_nodeValue x_nodeParent x_nodeName x_nodeSlot x_nodeStart x_nodeTag x_completeCount x_openNode x_openSlot x_openNames x_openNext x_openComma x_output : Nat → Int32} {y_length y_parts y_bad y_nodes y_fault y_place y_bound y_depth y_nextName y_wantsName y_wantsTag y_printed y_waiting y_scaled : Int32} {y_sort y_typeA y_typeB y_typeC y_fieldName y_fieldType y_fields y_tags y_needed y_text y_begin y_end y_inside y_whole y_kind y_value y_parent y_name y_slotOf y_placeOf y_complete y_openNode y_openType y_openCount y_openNames y_openChoice y_output y_todo : Nat → Int32}
theorem xf_loop {post : Int32 → Prop} {s M : Nat} (hs : s < 12) (hM : M ≤ 4) (hc : x_fieldCount s = nI M) {nm : Int32} : ∀ m i, i + m = M → post (ff_F x_fieldName s nm m i) → wX_findField_2 post (nI s) nm x_length x_nodeCount x_bound x_fault x_faultPlace x_mode x_at x_tokenStart x_textCount x_escaped x_valueSlot x_valueName x_depth x_outputLength x_text x_typeKind x_typeDetail x_typeLeast x_typeMost x_fieldCount x_fieldName x_fieldType x_fieldNeeded x_tagType x_nodeKind x_nodeValue x_nodeParent x_nodeName x_nodeSlot x_nodeStart x_nodeTag x_completeCount x_openNode x_openSlot x_openNames x_openNext x_openComma x_output (m + 1) (nI i) := by
  have es : (nI s).toNatClampNeg = s := nI_clamp (by omega)
  have iS : vp_in (nI s) 12 := vp_in_nI hs (by decide)
  intro m
  induction m with
  | zero =>
    intro i hi h
    refine And.intro iS (br_t ?_ h)
    rw [es, hc]; exact nI_le (by omega) (by omega)
  | succ m ih =>
    intro i hi h
    have e1 : nI s * 4 + nI i = nI (4 * s + i) := by
      show nI s * nI 4 + nI i = _
      rw [pk_mul, nI_add, Nat.mul_comm]
    have e3 : (nI (4 * s + i)).toNatClampNeg = 4 * s + i := nI_clamp (by omega)
    refine And.intro iS (br_f ?_ (nm_r e1 (And.intro (vp_in_nI (by omega) (by decide)) ?_)))
    · rw [es, hc]; exact nI_ge (by omega) (by omega)
    · unfold ff_F at h
      rw [e3]
      by_cases z : x_fieldName (4 * s + i) = nm
      · rw [if_pos z] at h; exact br_t z h
      · rw [if_neg z] at h; exact br_f z (nm_r (nI_1 i) (ih (i + 1) (by omega) h))
theorem xf_find {post : Int32 → Prop} {s M : Nat} (hs : s < 12) (hM : M ≤ 4) (hc : x_fieldCount s = nI M) {nm : Int32} (h : post (ff_F x_fieldName s nm M 0)) : wpX_findField post (x_length, x_nodeCount, x_bound, x_fault, x_faultPlace, x_mode, x_at, x_tokenStart, x_textCount, x_escaped, x_valueSlot, x_valueName, x_depth, x_outputLength, x_text, x_typeKind, x_typeDetail, x_typeLeast, x_typeMost, x_fieldCount, x_fieldName, x_fieldType, x_fieldNeeded, x_tagType, x_nodeKind, x_nodeValue, x_nodeParent, x_nodeName, x_nodeSlot, x_nodeStart, x_nodeTag, x_completeCount, x_openNode, x_openSlot, x_openNames, x_openNext, x_openComma, x_output) (nI s) nm :=
  ⟨M + 1, xf_loop hs hM hc M 0 (by omega) h⟩
theorem yf_loop {post : Int32 → Prop} {s M : Nat} (hs : s < 12) (hM : M ≤ 4) (hc : y_fields s = nI M) {nm : Int32} : ∀ m i, i + m = M → post (ff_F y_fieldName s nm m i) → wY_fieldOf_4 post (nI s) nm y_length y_parts y_bad y_nodes y_fault y_place y_bound y_depth y_nextName y_wantsName y_wantsTag y_printed y_waiting y_scaled y_sort y_typeA y_typeB y_typeC y_fieldName y_fieldType y_fields y_tags y_needed y_text y_begin y_end y_inside y_whole y_kind y_value y_parent y_name y_slotOf y_placeOf y_complete y_openNode y_openType y_openCount y_openNames y_openChoice y_output y_todo (m + 1) (nI (4 * s + i)) := by
  have es : (nI s).toNatClampNeg = s := nI_clamp (by omega)
  have iS : vp_in (nI s) 12 := vp_in_nI hs (by decide)
  have e4 : (4 : Int32) * nI s + nI M = nI (4 * s + M) := by
    show nI 4 * nI s + nI M = _
    rw [pk_mul, nI_add]
  intro m
  induction m with
  | zero =>
    intro i hi h
    refine And.intro iS (br_t ?_ h)
    rw [es, hc, e4]; exact nI_le (by omega) (by omega)
  | succ m ih =>
    intro i hi h
    have e3 : (nI (4 * s + i)).toNatClampNeg = 4 * s + i := nI_clamp (by omega)
    refine And.intro iS (br_f ?_ (And.intro (vp_in_nI (by omega) (by decide)) ?_))
    · rw [es, hc, e4]; exact nI_ge (by omega) (by omega)
    · unfold ff_F at h
      rw [e3]
      by_cases z : y_fieldName (4 * s + i) = nm
      · rw [if_pos z] at h; exact br_t z h
      · rw [if_neg z] at h; exact br_f z (nm_r (nI_1 _) (ih (i + 1) (by omega) h))
theorem yf_find {post : Int32 → Prop} {s M : Nat} (hs : s < 12) (hM : M ≤ 4) (hc : y_fields s = nI M) {nm : Int32} (h : post (ff_F y_fieldName s nm M 0)) : wpY_fieldOf post (y_length, y_parts, y_bad, y_nodes, y_fault, y_place, y_bound, y_depth, y_nextName, y_wantsName, y_wantsTag, y_printed, y_waiting, y_scaled, y_sort, y_typeA, y_typeB, y_typeC, y_fieldName, y_fieldType, y_fields, y_tags, y_needed, y_text, y_begin, y_end, y_inside, y_whole, y_kind, y_value, y_parent, y_name, y_slotOf, y_placeOf, y_complete, y_openNode, y_openType, y_openCount, y_openNames, y_openChoice, y_output, y_todo) (nI s) nm := by
  have e4 : (4 : Int32) * nI s = nI (4 * s + 0) := by
    show nI 4 * nI s = _
    rw [pk_mul]; rfl
  exact nm_r e4 ⟨M + 1, yf_loop hs hM hc M 0 (by omega) h⟩
theorem yf_no {post : Int32 → SY → Prop} {s : Nat} (hs : s < 12) {v2 v3 b : Int32} (h : ¬ y_sort s = 5 ∨ (v2 < 0 ∨ nI 6 ≤ v2) ∨ (v3 < 0 ∨ nI 12 ≤ v3)) (hp : post 0 (y_length, y_parts, y_bad, y_nodes, y_fault, y_place, y_bound, y_depth, y_nextName, y_wantsName, y_wantsTag, y_printed, y_waiting, y_scaled, y_sort, y_typeA, y_typeB, y_typeC, y_fieldName, y_fieldType, y_fields, y_tags, y_needed, y_text, y_begin, y_end, y_inside, y_whole, y_kind, y_value, y_parent, y_name, y_slotOf, y_placeOf, y_complete, y_openNode, y_openType, y_openCount, y_openNames, y_openChoice, y_output, y_todo)) : wpY_field post (y_length, y_parts, y_bad, y_nodes, y_fault, y_place, y_bound, y_depth, y_nextName, y_wantsName, y_wantsTag, y_printed, y_waiting, y_scaled, y_sort, y_typeA, y_typeB, y_typeC, y_fieldName, y_fieldType, y_fields, y_tags, y_needed, y_text, y_begin, y_end, y_inside, y_whole, y_kind, y_value, y_parent, y_name, y_slotOf, y_placeOf, y_complete, y_openNode, y_openType, y_openCount, y_openNames, y_openChoice, y_output, y_todo) (nI s) v2 v3 b := by
  have es : (nI s).toNatClampNeg = s := nI_clamp (by omega)
  have iS : vp_in (nI s) 12 := vp_in_nI hs (by decide)
  unfold wpY_field wpY_isSort
  dsimp only
  rw [es]
  by_cases q : y_sort s = 5
  · rcases hh_rg v2 6 (by decide) with w | ⟨c, hc, rfl⟩
    · exact yi_1 11 (by decide) (by omega) (br_f (by decide) ⟨iS, br_t q (br_f (by decide) (yi_0 5 (by decide) w (br_t rfl hp)))⟩)
    · have h3 : v3 < 0 ∨ nI 12 ≤ v3 := by
        rcases h with h | h | h
        · exact absurd q h
        · rcases h with h | h
          · exact absurd h (nI_pos (by omega))
          · exact absurd h (nI_ge hc (by omega))
        · exact h
      exact yi_1 11 (by decide) (by omega) (br_f (by decide) ⟨iS, br_t q (br_f (by decide) (yi_1 5 (by decide) (by omega) (br_f (by decide) (yi_0 11 (by decide) h3 (br_t rfl hp)))))⟩)
  · exact yi_1 11 (by decide) (by omega) (br_f (by decide) ⟨iS, br_f q (br_t rfl hp)⟩)
end
theorem ty_f {so tD tL tM fC fN fT fB gX tA tB tC fs gY : Nat → Int32} {s m c o z : Nat} (h : ty_S so tD tL tM fC fN fT fB gX tA tB tC fs gY s) (q : so s = 5) (hm : fC s = nI m) (hm4 : m < 4) (hc : c < 6) (ho : o < 12) (hz : z < 2)
    (hn : ∀ j, j < m → fN (4 * s + j) ≠ nI c) :
    ty_S so tD tL tM (upd fC s (fC s + 1)) (upd fN (4 * s + m) (nI c)) (upd fT (4 * s + m) (nI o)) (upd fB (4 * s + m) (nI z)) gX tA tB tC (upd fs s (fs s + 1)) gY s := by
  obtain ⟨h0, h1, h2, h4, h5, h6, h7⟩ := h
  refine ⟨h0, h1, h2, h4, fun y => ?_, h6, h7⟩
  obtain ⟨a, m', b, d, e, f⟩ := h5 y
  have : m' = m := hh_i (by omega) (by omega) (d.symm.trans hm)
  subst this
  simp only [pk_us]
  refine ⟨by rw [a], m' + 1, by omega, by rw [hm, nI_1], fun i hi => ?_, fun i j hi hj => ?_⟩
  · unfold upd
    by_cases w : 4 * s + i = 4 * s + m'
    · rw [if_pos w, if_pos w, if_pos w]; exact ⟨c, o, z, hc, ho, hz, rfl, rfl, rfl⟩
    · rw [if_neg w, if_neg w, if_neg w]; exact e i (by omega)
  · unfold upd
    by_cases w : 4 * s + i = 4 * s + m'
    · rw [if_pos w]
      by_cases w2 : 4 * s + j = 4 * s + m'
      · intro _; omega
      · rw [if_neg w2]; intro x; exact absurd x.symm (hn j (by omega))
    · rw [if_neg w]
      by_cases w2 : 4 * s + j = 4 * s + m'
      · rw [if_pos w2]; intro x; exact absurd x (hn i (by omega))
      · rw [if_neg w2]; intro x; exact f i j (by omega) (by omega) x
theorem i_vc_field {k : Nat} {u : SX} {v : SY} (I : i_Rel k u v) (hk : k + 6 ≤ 3072) (v1 : Int32) (v2 : Int32) (v3 : Int32) (v4 : Int32) : wpX_field (fun r u' => wpY_field (fun r' v' => r' = r ∧ i_Rel (k + 6) u' v') v v1 v2 v3 (lw_bz v4)) u v1 v2 v3 (lw_bz v4) := by
  obtain ⟨x_nodeCount, x_bound, x_fault, x_faultPlace, x_mode, x_at, x_tokenStart, x_textCount, x_escaped, x_valueSlot, x_valueName, x_depth, x_outputLength, x_text, x_typeKind, x_typeDetail, x_typeLeast, x_typeMost, x_fieldCount, x_fieldName, x_fieldType, x_fieldNeeded, x_tagType, x_nodeKind, x_nodeValue, x_nodeParent, x_nodeName, x_nodeSlot, x_nodeStart, x_nodeTag, x_completeCount, x_openNode, x_openSlot, x_openNames, x_openNext, x_openComma, x_output, y_parts, y_bad, y_nodes, y_fault, y_depth, y_nextName, y_wantsName, y_wantsTag, y_waiting, y_scaled, y_typeA, y_typeB, y_typeC, y_fields, y_tags, y_begin, y_end, y_inside, y_whole, y_kind, y_value, y_parent, y_name, y_slotOf, y_placeOf, y_complete, y_openNode, y_openType, y_openCount, y_openNames, y_openChoice, y_todo, L, rfl, rfl, hT, hB⟩ := I
  have R : i_Rel (k + 6) (nI L, x_nodeCount, x_bound, x_fault, x_faultPlace, x_mode, x_at, x_tokenStart, x_textCount, x_escaped, x_valueSlot, x_valueName, x_depth, x_outputLength, x_text, x_typeKind, x_typeDetail, x_typeLeast, x_typeMost, x_fieldCount, x_fieldName, x_fieldType, x_fieldNeeded, x_tagType, x_nodeKind, x_nodeValue, x_nodeParent, x_nodeName, x_nodeSlot, x_nodeStart, x_nodeTag, x_completeCount, x_openNode, x_openSlot, x_openNames, x_openNext, x_openComma, x_output) (nI L, y_parts, y_bad, y_nodes, y_fault, x_faultPlace, x_bound, y_depth, y_nextName, y_wantsName, y_wantsTag, x_outputLength, y_waiting, y_scaled, x_typeKind, y_typeA, y_typeB, y_typeC, x_fieldName, x_fieldType, y_fields, y_tags, x_fieldNeeded, x_text, y_begin, y_end, y_inside, y_whole, y_kind, y_value, y_parent, y_name, y_slotOf, y_placeOf, y_complete, y_openNode, y_openType, y_openCount, y_openNames, y_openChoice, x_output, y_todo) := rl_mk hT hB
  unfold wpX_field
  dsimp only
  rcases hh_sl v1 with h | ⟨s, hs, rfl⟩
  · refine xs_0 h (br_t rfl ?_)
    unfold wpY_field wpY_isSort
    exact yi_0 11 (by decide) h (br_t rfl (br_t rfl ⟨rfl, R⟩))
  have es : (nI s).toNatClampNeg = s := nI_clamp (by omega)
  have iS : vp_in (nI s) 12 := vp_in_nI hs (by decide)
  rw [es]
  refine xs_1 hs (br_f (by decide) ?_)
  rcases hh_sl v3 with h | ⟨o, ho, rfl⟩
  · exact xs_0 h (br_t rfl (yf_no hs (Or.inr (Or.inr h)) ⟨rfl, R⟩))
  refine xs_1 ho (br_f (by decide) ?_)
  rcases pk_ix v2 (n := 6) (by decide) with w | w | ⟨c, hc, rfl⟩
  · exact br_t w (yf_no hs (Or.inr (Or.inl (Or.inl w))) ⟨rfl, R⟩)
  · exact br_f (hh_ge0 w (by decide)) (br_f (Int32.not_lt.mpr w) (yf_no hs (Or.inr (Or.inl (Or.inr w))) ⟨rfl, R⟩))
  refine br_f (nI_pos (by omega)) (br_t (nI_lt (b := 6) hc (by decide)) ⟨iS, ?_⟩)
  by_cases q : x_typeKind s = 5
  case neg => exact br_f q (yf_no hs (Or.inl q) ⟨rfl, R⟩)
  refine br_t q ⟨iS, ?_⟩
  have TS := hT.2.2 s hs
  obtain ⟨eF, m, hm4, hm, -, -⟩ := TS.2.2.2.2.1 q
  have hmY : y_fields s = nI m := eF.trans hm
  -- the reference, up to its count
  have Y0 : ∀ post : Int32 → SY → Prop, ((nI m = 4 → post 0 (nI L, y_parts, y_bad, y_nodes, y_fault, x_faultPlace, x_bound, y_depth, y_nextName, y_wantsName, y_wantsTag, x_outputLength, y_waiting, y_scaled, x_typeKind, y_typeA, y_typeB, y_typeC, x_fieldName, x_fieldType, y_fields, y_tags, x_fieldNeeded, x_text, y_begin, y_end, y_inside, y_whole, y_kind, y_value, y_parent, y_name, y_slotOf, y_placeOf, y_complete, y_openNode, y_openType, y_openCount, y_openNames, y_openChoice, x_output, y_todo)) ∧ (¬ nI m = 4 → wpY_fieldOf (fun r_51 => ((r_51 < 0 → (vp_in (nI s) 12 ∧ (∀ x5 : Int32, x5 = (4 * (nI s)) + nI m → (vp_in x5 48 ∧ ∀ a1 : Nat → Int32, a1 = upd x_fieldName x5.toNatClampNeg (nI c) → (vp_in x5 48 ∧ ∀ a2 : Nat → Int32, a2 = upd x_fieldType x5.toNatClampNeg (nI o) → (vp_in x5 48 ∧ ∀ a3 : Nat → Int32, a3 = upd x_fieldNeeded x5.toNatClampNeg (vp_nar .boolean (lw_bz v4)) → (vp_in (nI s) 12 ∧ (vp_in (nI s) 12 ∧ ∀ a4 : Nat → Int32, a4 = upd y_fields s (nI m + 1) → (post 1 (nI L, y_parts, y_bad, y_nodes, y_fault, x_faultPlace, 0, y_depth, y_nextName, y_wantsName, y_wantsTag, x_outputLength, y_waiting, y_scaled, x_typeKind, y_typeA, y_typeB, y_typeC, a1, a2, a4, y_tags, a3, x_text, y_begin, y_end, y_inside, y_whole, y_kind, y_value, y_parent, y_name, y_slotOf, y_placeOf, y_complete, y_openNode, y_openType, y_openCount, y_openNames, y_openChoice, x_output, y_todo)))))))))) ∧ (¬ r_51 < 0 → post 0 (nI L, y_parts, y_bad, y_nodes, y_fault, x_faultPlace, x_bound, y_depth, y_nextName, y_wantsName, y_wantsTag, x_outputLength, y_waiting, y_scaled, x_typeKind, y_typeA, y_typeB, y_typeC, x_fieldName, x_fieldType, y_fields, y_tags, x_fieldNeeded, x_text, y_begin, y_end, y_inside, y_whole, y_kind, y_value, y_parent, y_name, y_slotOf, y_placeOf, y_complete, y_openNode, y_openType, y_openCount, y_openNames, y_openChoice, x_output, y_todo)))) (nI L, y_parts, y_bad, y_nodes, y_fault, x_faultPlace, x_bound, y_depth, y_nextName, y_wantsName, y_wantsTag, x_outputLength, y_waiting, y_scaled, x_typeKind, y_typeA, y_typeB, y_typeC, x_fieldName, x_fieldType, y_fields, y_tags, x_fieldNeeded, x_text, y_begin, y_end, y_inside, y_whole, y_kind, y_value, y_parent, y_name, y_slotOf, y_placeOf, y_complete, y_openNode, y_openType, y_openCount, y_openNames, y_openChoice, x_output, y_todo) (nI s) (nI c))) → wpY_field post (nI L, y_parts, y_bad, y_nodes, y_fault, x_faultPlace, x_bound, y_depth, y_nextName, y_wantsName, y_wantsTag, x_outputLength, y_waiting, y_scaled, x_typeKind, y_typeA, y_typeB, y_typeC, x_fieldName, x_fieldType, y_fields, y_tags, x_fieldNeeded, x_text, y_begin, y_end, y_inside, y_whole, y_kind, y_value, y_parent, y_name, y_slotOf, y_placeOf, y_complete, y_openNode, y_openType, y_openCount, y_openNames, y_openChoice, x_output, y_todo) (nI s) (nI c) (nI o) (lw_bz v4) := by
    intro post h
    unfold wpY_field wpY_isSort
    dsimp only
    rw [es, hmY]
    exact yi_1 11 (by decide) (by omega) (br_f (by decide) ⟨iS, br_t q (br_f (by decide) (yi_1 5 (by decide) (by omega) (br_f (by decide) (yi_1 11 (by decide) (by omega) (br_f (by decide) ⟨iS, h⟩)))))⟩)
  rw [hm]
  rcases Nat.lt_or_ge m 4 with h4 | h4
  case inr =>
    have e : m = 4 := by omega
    subst e
    exact br_f (by decide) (Y0 _ (br_t rfl ⟨rfl, R⟩))
  have n4 : ¬ nI m = 4 := fun z => by have := hh_i (by omega) (by decide) (m := 4) z; omega
  refine br_t (nI_lt (b := 4) h4 (by decide)) (xf_find hs hm4 hm ?_)
  have e1 : nI s * 4 + nI m = nI (4 * s + m) := by
    show nI s * nI 4 + nI m = _
    rw [pk_mul, nI_add, Nat.mul_comm]
  have e2 : (4 : Int32) * nI s + nI m = nI (4 * s + m) := by
    show nI 4 * nI s + nI m = _
    rw [pk_mul, nI_add]
  have e3 : (nI (4 * s + m)).toNatClampNeg = 4 * s + m := nI_clamp (by omega)
  have iE : vp_in (nI (4 * s + m)) 48 := vp_in_nI (by omega) (by decide)
  have bz : ∃ z, z < 2 ∧ vp_nar .boolean (lw_bz v4) = nI z := by
    rcases lw_bz_01 v4 with e | e
    · rw [e]; exact ⟨0, by omega, rfl⟩
    · rw [e]; exact ⟨1, by omega, rfl⟩
  obtain ⟨z, hz, ez⟩ := bz
  rcases ff_S x_fieldName s (nI c) m 0 with ⟨f1, f2⟩ | ⟨j, -, hj, f1, f2⟩
  · rw [f1]
    refine br_t rfl ⟨iS, nm_r e1 ?_⟩
    rw [e3, ez]
    refine ⟨iE, nm_e ⟨iE, nm_e ⟨iE, nm_e ⟨iS, iS, nm_e ?_⟩⟩⟩⟩
    refine Y0 _ (br_f n4 (yf_find hs hm4 hmY ?_))
    rw [f1]
    refine br_t (by decide) ⟨iS, nm_r e2 ?_⟩
    rw [e3, ez]
    refine ⟨iE, nm_e ⟨iE, nm_e ⟨iE, nm_e ⟨iS, iS, nm_e ⟨rfl, ?_⟩⟩⟩⟩⟩
    refine rl_mk ⟨hT.1, hT.2.1, fun r hr => ?_⟩ (Or.inl rfl)
    by_cases w : r = s
    · subst w
      have F := ty_f TS q hm h4 hc ho hz (fun j hj => f2 j (by omega) (by omega))
      rw [hm, hmY] at F
      exact F
    · exact ty_c (hT.2.2 r hr) rfl rfl rfl rfl (pk_un w) (fun i hi => pk_un (by omega)) (fun i hi => pk_un (by omega)) (fun i hi => pk_un (by omega)) (fun _ _ => rfl) rfl rfl rfl (pk_un w) (fun _ _ => rfl)
  · rw [f1]
    refine br_f (hh_m1 (by omega)) (Y0 _ (br_f n4 (yf_find hs hm4 hmY ?_)))
    rw [f1]
    exact br_f (nI_pos (by omega)) ⟨rfl, R⟩
theorem yz_loop {post : SY → Prop} {y_length y_parts y_bad y_nodes y_fault y_place y_bound y_depth y_nextName y_wantsName y_wantsTag y_printed y_waiting y_scaled : Int32} {y_sort y_typeA y_typeB y_typeC y_fieldName y_fieldType y_fields y_needed y_text y_begin y_end y_inside y_whole y_kind y_value y_parent y_name y_slotOf y_placeOf y_complete y_openNode y_openType y_openCount y_openNames y_openChoice y_output y_todo : Nat → Int32} : ∀ (m i : Nat) (g : Nat → Int32), i + m = 72 → post (y_length, y_parts, y_bad, y_nodes, y_fault, y_place, y_bound, y_depth, y_nextName, y_wantsName, y_wantsTag, y_printed, y_waiting, y_scaled, y_sort, y_typeA, y_typeB, y_typeC, y_fieldName, y_fieldType, y_fields, yd_F g i 72, y_needed, y_text, y_begin, y_end, y_inside, y_whole, y_kind, y_value, y_parent, y_name, y_slotOf, y_placeOf, y_complete, y_openNode, y_openType, y_openCount, y_openNames, y_openChoice, y_output, y_todo) → wY_init_237 post y_length y_parts y_bad y_nodes y_fault y_place y_bound y_depth y_nextName y_wantsName y_wantsTag y_printed y_waiting y_scaled (m + 1) (nI i) y_sort y_typeA y_typeB y_typeC y_fieldName y_fieldType y_fields g y_needed y_text y_begin y_end y_inside y_whole y_kind y_value y_parent y_name y_slotOf y_placeOf y_complete y_openNode y_openType y_openCount y_openNames y_openChoice y_output y_todo := by
  intro m
  induction m with
  | zero =>
    intro i g hi h
    have hi' : i = 72 := by omega
    subst hi'
    rw [yd_0] at h
    exact br_t (by decide) h
  | succ m ih =>
    intro i g hi h
    refine br_f (nI_ge (b := 72) (by omega) (by decide)) ⟨vp_in_nI (by omega) (by decide), nm_e (nm_r (nI_1 i) ?_)⟩
    rw [nI_clamp (by omega)]
    refine ih (i + 1) _ (by omega) ?_
    rw [yd_1 g (by omega)]; exact h
theorem i_vc0 : wpX_init (fun u => wpY_init (fun v => i_Rel 0 u v)) := by
  refine ⟨72 + 1, yz_loop 72 0 _ (by omega) ?_⟩
  refine rl_mk (L := 0) ⟨by omega, fun i => ⟨0, by omega, rfl⟩, fun s hs => ?_⟩ (Or.inl rfl)
  refine ⟨⟨0, by omega, rfl⟩, ?_, ?_, ?_, ?_, ?_, ?_⟩
  · intro z; exact absurd (a := (0 : Int32) = 1) z (by decide)
  · intro z; exact absurd (a := (0 : Int32) = 2) z (by decide)
  · intro z; exact absurd (a := (0 : Int32) = 4) z (by decide)
  · intro z; exact absurd (a := (0 : Int32) = 5) z (by decide)
  · intro z; exact absurd (a := (0 : Int32) = 6) z (by decide)
  · intro z; exact absurd (a := (0 : Int32) = 7 ∨ (0 : Int32) = 8) z (by decide)
end
section
/-! the component reads: one character at a time -/
theorem gx_e (P : SX → Prop) : (fun u : SX => match u with | (x_length, x_nodeCount, x_bound, x_fault, x_faultPlace, x_mode, x_at, x_tokenStart, x_textCount, x_escaped, x_valueSlot, x_valueName, x_depth, x_outputLength, x_text, x_typeKind, x_typeDetail, x_typeLeast, x_typeMost, x_fieldCount, x_fieldName, x_fieldType, x_fieldNeeded, x_tagType, x_nodeKind, x_nodeValue, x_nodeParent, x_nodeName, x_nodeSlot, x_nodeStart, x_nodeTag, x_completeCount, x_openNode, x_openSlot, x_openNames, x_openNext, x_openComma, x_output) => P (x_length, x_nodeCount, x_bound, x_fault, x_faultPlace, x_mode, x_at, x_tokenStart, x_textCount, x_escaped, x_valueSlot, x_valueName, x_depth, x_outputLength, x_text, x_typeKind, x_typeDetail, x_typeLeast, x_typeMost, x_fieldCount, x_fieldName, x_fieldType, x_fieldNeeded, x_tagType, x_nodeKind, x_nodeValue, x_nodeParent, x_nodeName, x_nodeSlot, x_nodeStart, x_nodeTag, x_completeCount, x_openNode, x_openSlot, x_openNames, x_openNext, x_openComma, x_output)) = P := by
  funext u
  obtain ⟨x_length, x_nodeCount, x_bound, x_fault, x_faultPlace, x_mode, x_at, x_tokenStart, x_textCount, x_escaped, x_valueSlot, x_valueName, x_depth, x_outputLength, x_text, x_typeKind, x_typeDetail, x_typeLeast, x_typeMost, x_fieldCount, x_fieldName, x_fieldType, x_fieldNeeded, x_tagType, x_nodeKind, x_nodeValue, x_nodeParent, x_nodeName, x_nodeSlot, x_nodeStart, x_nodeTag, x_completeCount, x_openNode, x_openSlot, x_openNames, x_openNext, x_openComma, x_output⟩ := u
  rfl
section
variable {x_length x_nodeCount x_bound x_fault x_faultPlace x_mode x_at x_tokenStart x_textCount x_escaped x_valueSlot x_valueName x_depth x_outputLength : Int32} {x_text x_typeKind x_typeDetail x_typeLeast x_typeMost x_fieldCount x_fieldName x_fieldType x_fieldNeeded x_tagType x_nodeKind x_nodeValue x_nodeParent x_nodeName x_nodeSlot x_nodeStart x_nodeTag x_completeCount x_openNode x_openSlot x_openNames x_openNext x_openComma x_output : Nat → Int32} {P : SX → Prop} {c : Int32}
theorem rc_sp (h8 : x_mode < 8) (h6 : ¬ x_mode = 6) (h7 : ¬ x_mode = 7) (h : P (x_length, x_nodeCount, x_bound, 0, x_faultPlace, x_mode, x_at, x_tokenStart, x_textCount, x_escaped, x_valueSlot, x_valueName, x_depth, x_outputLength, x_text, x_typeKind, x_typeDetail, x_typeLeast, x_typeMost, x_fieldCount, x_fieldName, x_fieldType, x_fieldNeeded, x_tagType, x_nodeKind, x_nodeValue, x_nodeParent, x_nodeName, x_nodeSlot, x_nodeStart, x_nodeTag, x_completeCount, x_openNode, x_openSlot, x_openNames, x_openNext, x_openComma, x_output)) : wpX_readCharacter P (x_length, x_nodeCount, x_bound, 0, x_faultPlace, x_mode, x_at, x_tokenStart, x_textCount, x_escaped, x_valueSlot, x_valueName, x_depth, x_outputLength, x_text, x_typeKind, x_typeDetail, x_typeLeast, x_typeMost, x_fieldCount, x_fieldName, x_fieldType, x_fieldNeeded, x_tagType, x_nodeKind, x_nodeValue, x_nodeParent, x_nodeName, x_nodeSlot, x_nodeStart, x_nodeTag, x_completeCount, x_openNode, x_openSlot, x_openNames, x_openNext, x_openComma, x_output) 20 :=
  br_t h8 (br_t rfl (br_f h6 (br_f h7 (br_t rfl h))))
theorem rc_val (hc : ¬ c = 20) (hm : x_mode = 0 ∨ x_mode = 1 ∧ ¬ c = 13) (h : wpX_beginValue P (x_length, x_nodeCount, x_bound, 0, x_faultPlace, x_mode, x_at, x_tokenStart, x_textCount, x_escaped, x_valueSlot, x_valueName, x_depth, x_outputLength, x_text, x_typeKind, x_typeDetail, x_typeLeast, x_typeMost, x_fieldCount, x_fieldName, x_fieldType, x_fieldNeeded, x_tagType, x_nodeKind, x_nodeValue, x_nodeParent, x_nodeName, x_nodeSlot, x_nodeStart, x_nodeTag, x_completeCount, x_openNode, x_openSlot, x_openNames, x_openNext, x_openComma, x_output) c) : wpX_readCharacter P (x_length, x_nodeCount, x_bound, 0, x_faultPlace, x_mode, x_at, x_tokenStart, x_textCount, x_escaped, x_valueSlot, x_valueName, x_depth, x_outputLength, x_text, x_typeKind, x_typeDetail, x_typeLeast, x_typeMost, x_fieldCount, x_fieldName, x_fieldType, x_fieldNeeded, x_tagType, x_nodeKind, x_nodeValue, x_nodeParent, x_nodeName, x_nodeSlot, x_nodeStart, x_nodeTag, x_completeCount, x_openNode, x_openSlot, x_openNames, x_openNext, x_openComma, x_output) c := by
  rcases hm with rfl | ⟨rfl, h13⟩
  · exact br_t (by decide) (br_t rfl (br_f (by decide) (br_f (by decide) (br_f hc (br_f (by decide) (br_t rfl h))))))
  · exact br_t (by decide) (br_t rfl (br_f (by decide) (br_f (by decide) (br_f hc (br_t rfl (br_f h13 (br_f (by decide) (br_t rfl h))))))))
theorem rc_cl1 (h : wpX_closeList P (x_length, x_nodeCount, x_bound, 0, x_faultPlace, 1, x_at, x_tokenStart, x_textCount, x_escaped, x_valueSlot, x_valueName, x_depth, x_outputLength, x_text, x_typeKind, x_typeDetail, x_typeLeast, x_typeMost, x_fieldCount, x_fieldName, x_fieldType, x_fieldNeeded, x_tagType, x_nodeKind, x_nodeValue, x_nodeParent, x_nodeName, x_nodeSlot, x_nodeStart, x_nodeTag, x_completeCount, x_openNode, x_openSlot, x_openNames, x_openNext, x_openComma, x_output)) : wpX_readCharacter P (x_length, x_nodeCount, x_bound, 0, x_faultPlace, 1, x_at, x_tokenStart, x_textCount, x_escaped, x_valueSlot, x_valueName, x_depth, x_outputLength, x_text, x_typeKind, x_typeDetail, x_typeLeast, x_typeMost, x_fieldCount, x_fieldName, x_fieldType, x_fieldNeeded, x_tagType, x_nodeKind, x_nodeValue, x_nodeParent, x_nodeName, x_nodeSlot, x_nodeStart, x_nodeTag, x_completeCount, x_openNode, x_openSlot, x_openNames, x_openNext, x_openComma, x_output) 13 :=
  br_t (by decide) (br_t rfl (br_f (by decide) (br_f (by decide) (br_f (by decide) (br_t rfl (br_t rfl h))))))
theorem rc_cr3 (h : wpX_closeRecord P (x_length, x_nodeCount, x_bound, 0, x_faultPlace, 3, x_at, x_tokenStart, x_textCount, x_escaped, x_valueSlot, x_valueName, x_depth, x_outputLength, x_text, x_typeKind, x_typeDetail, x_typeLeast, x_typeMost, x_fieldCount, x_fieldName, x_fieldType, x_fieldNeeded, x_tagType, x_nodeKind, x_nodeValue, x_nodeParent, x_nodeName, x_nodeSlot, x_nodeStart, x_nodeTag, x_completeCount, x_openNode, x_openSlot, x_openNames, x_openNext, x_openComma, x_output)) : wpX_readCharacter P (x_length, x_nodeCount, x_bound, 0, x_faultPlace, 3, x_at, x_tokenStart, x_textCount, x_escaped, x_valueSlot, x_valueName, x_depth, x_outputLength, x_text, x_typeKind, x_typeDetail, x_typeLeast, x_typeMost, x_fieldCount, x_fieldName, x_fieldType, x_fieldNeeded, x_tagType, x_nodeKind, x_nodeValue, x_nodeParent, x_nodeName, x_nodeSlot, x_nodeStart, x_nodeTag, x_completeCount, x_openNode, x_openSlot, x_openNames, x_openNext, x_openComma, x_output) 11 :=
  br_t (by decide) (br_t rfl (br_f (by decide) (br_f (by decide) (br_f (by decide) (br_f (by decide) (br_f (by decide) (br_f (by decide) (br_t rfl (br_t rfl h)))))))))
theorem rc_nm (hm : x_mode = 3 ∨ x_mode = 4) (h : P (x_length, x_nodeCount, x_bound, 0, x_faultPlace, 6, x_at, x_at, 0, 0, x_valueSlot, x_valueName, x_depth, x_outputLength, x_text, x_typeKind, x_typeDetail, x_typeLeast, x_typeMost, x_fieldCount, x_fieldName, x_fieldType, x_fieldNeeded, x_tagType, x_nodeKind, x_nodeValue, x_nodeParent, x_nodeName, x_nodeSlot, x_nodeStart, x_nodeTag, x_completeCount, x_openNode, x_openSlot, x_openNames, x_openNext, x_openComma, x_output)) : wpX_readCharacter P (x_length, x_nodeCount, x_bound, 0, x_faultPlace, x_mode, x_at, x_tokenStart, x_textCount, x_escaped, x_valueSlot, x_valueName, x_depth, x_outputLength, x_text, x_typeKind, x_typeDetail, x_typeLeast, x_typeMost, x_fieldCount, x_fieldName, x_fieldType, x_fieldNeeded, x_tagType, x_nodeKind, x_nodeValue, x_nodeParent, x_nodeName, x_nodeSlot, x_nodeStart, x_nodeTag, x_completeCount, x_openNode, x_openSlot, x_openNames, x_openNext, x_openComma, x_output) 16 := by
  rcases hm with rfl | rfl
  · exact br_t (by decide) (br_t rfl (br_f (by decide) (br_f (by decide) (br_f (by decide) (br_f (by decide) (br_f (by decide) (br_f (by decide) (br_t rfl (br_f (by decide) (br_t rfl (br_t rfl h)))))))))))
  · exact br_t (by decide) (br_t rfl (br_f (by decide) (br_f (by decide) (br_f (by decide) (br_f (by decide) (br_f (by decide) (br_f (by decide) (br_f (by decide) (br_f (by decide) (br_t rfl (br_t rfl h)))))))))))
theorem rc_colon (h : P (x_length, x_nodeCount, x_bound, 0, x_faultPlace, 0, x_at, x_tokenStart, x_textCount, x_escaped, x_valueSlot, x_valueName, x_depth, x_outputLength, x_text, x_typeKind, x_typeDetail, x_typeLeast, x_typeMost, x_fieldCount, x_fieldName, x_fieldType, x_fieldNeeded, x_tagType, x_nodeKind, x_nodeValue, x_nodeParent, x_nodeName, x_nodeSlot, x_nodeStart, x_nodeTag, x_completeCount, x_openNode, x_openSlot, x_openNames, x_openNext, x_openComma, x_output)) : wpX_readCharacter P (x_length, x_nodeCount, x_bound, 0, x_faultPlace, 5, x_at, x_tokenStart, x_textCount, x_escaped, x_valueSlot, x_valueName, x_depth, x_outputLength, x_text, x_typeKind, x_typeDetail, x_typeLeast, x_typeMost, x_fieldCount, x_fieldName, x_fieldType, x_fieldNeeded, x_tagType, x_nodeKind, x_nodeValue, x_nodeParent, x_nodeName, x_nodeSlot, x_nodeStart, x_nodeTag, x_completeCount, x_openNode, x_openSlot, x_openNames, x_openNext, x_openComma, x_output) 14 :=
  br_t (by decide) (br_t rfl (br_f (by decide) (br_f (by decide) (br_f (by decide) (br_f (by decide) (br_f (by decide) (br_f (by decide) (br_f (by decide) (br_f (by decide) (br_f (by decide) (br_t rfl (br_t rfl h))))))))))))
theorem rc_bm (hc : ¬ c = 20) (hd : ¬ x_depth ≤ 0) (h : wpX_readBehindMember P (x_length, x_nodeCount, x_bound, 0, x_faultPlace, 2, x_at, x_tokenStart, x_textCount, x_escaped, x_valueSlot, x_valueName, x_depth, x_outputLength, x_text, x_typeKind, x_typeDetail, x_typeLeast, x_typeMost, x_fieldCount, x_fieldName, x_fieldType, x_fieldNeeded, x_tagType, x_nodeKind, x_nodeValue, x_nodeParent, x_nodeName, x_nodeSlot, x_nodeStart, x_nodeTag, x_completeCount, x_openNode, x_openSlot, x_openNames, x_openNext, x_openComma, x_output) c) : wpX_readCharacter P (x_length, x_nodeCount, x_bound, 0, x_faultPlace, 2, x_at, x_tokenStart, x_textCount, x_escaped, x_valueSlot, x_valueName, x_depth, x_outputLength, x_text, x_typeKind, x_typeDetail, x_typeLeast, x_typeMost, x_fieldCount, x_fieldName, x_fieldType, x_fieldNeeded, x_tagType, x_nodeKind, x_nodeValue, x_nodeParent, x_nodeName, x_nodeSlot, x_nodeStart, x_nodeTag, x_completeCount, x_openNode, x_openSlot, x_openNames, x_openNext, x_openComma, x_output) c :=
  br_t (by decide) (br_t rfl (br_f (by decide) (br_f (by decide) (br_f hc (br_f (by decide) (br_f (by decide) (br_f (by decide) (br_f (by decide) (br_f (by decide) (br_f (by decide) (br_f (by decide) (br_t rfl (br_f hd h)))))))))))))
theorem rc_bad2 (hc : ¬ c = 20) (hd : x_depth ≤ 0) (h : P (x_length, x_nodeCount, x_bound, 1, x_at, 2, x_at, x_tokenStart, x_textCount, x_escaped, x_valueSlot, x_valueName, x_depth, x_outputLength, x_text, x_typeKind, x_typeDetail, x_typeLeast, x_typeMost, x_fieldCount, x_fieldName, x_fieldType, x_fieldNeeded, x_tagType, x_nodeKind, x_nodeValue, x_nodeParent, x_nodeName, x_nodeSlot, x_nodeStart, x_nodeTag, x_completeCount, x_openNode, x_openSlot, x_openNames, x_openNext, x_openComma, x_output)) : wpX_readCharacter P (x_length, x_nodeCount, x_bound, 0, x_faultPlace, 2, x_at, x_tokenStart, x_textCount, x_escaped, x_valueSlot, x_valueName, x_depth, x_outputLength, x_text, x_typeKind, x_typeDetail, x_typeLeast, x_typeMost, x_fieldCount, x_fieldName, x_fieldType, x_fieldNeeded, x_tagType, x_nodeKind, x_nodeValue, x_nodeParent, x_nodeName, x_nodeSlot, x_nodeStart, x_nodeTag, x_completeCount, x_openNode, x_openSlot, x_openNames, x_openNext, x_openComma, x_output) c :=
  br_t (by decide) (br_t rfl (br_f (by decide) (br_f (by decide) (br_f hc (br_f (by decide) (br_f (by decide) (br_f (by decide) (br_f (by decide) (br_f (by decide) (br_f (by decide) (br_f (by decide) (br_t rfl (br_t hd h)))))))))))))
theorem rc_bad3 (hc : ¬ c = 20) (h1 : ¬ c = 11) (h2 : ¬ c = 16) (h : P (x_length, x_nodeCount, x_bound, 1, x_at, 3, x_at, x_tokenStart, x_textCount, x_escaped, x_valueSlot, x_valueName, x_depth, x_outputLength, x_text, x_typeKind, x_typeDetail, x_typeLeast, x_typeMost, x_fieldCount, x_fieldName, x_fieldType, x_fieldNeeded, x_tagType, x_nodeKind, x_nodeValue, x_nodeParent, x_nodeName, x_nodeSlot, x_nodeStart, x_nodeTag, x_completeCount, x_openNode, x_openSlot, x_openNames, x_openNext, x_openComma, x_output)) : wpX_readCharacter P (x_length, x_nodeCount, x_bound, 0, x_faultPlace, 3, x_at, x_tokenStart, x_textCount, x_escaped, x_valueSlot, x_valueName, x_depth, x_outputLength, x_text, x_typeKind, x_typeDetail, x_typeLeast, x_typeMost, x_fieldCount, x_fieldName, x_fieldType, x_fieldNeeded, x_tagType, x_nodeKind, x_nodeValue, x_nodeParent, x_nodeName, x_nodeSlot, x_nodeStart, x_nodeTag, x_completeCount, x_openNode, x_openSlot, x_openNames, x_openNext, x_openComma, x_output) c :=
  br_t (by decide) (br_t rfl (br_f (by decide) (br_f (by decide) (br_f hc (br_f (by decide) (br_f (by decide) (br_f (by decide) (br_t rfl (br_f h1 (br_t rfl (br_f h2 (br_f (by decide) (br_f (by decide) h)))))))))))))
theorem rc_bad4 (hc : ¬ c = 20) (h2 : ¬ c = 16) (h : P (x_length, x_nodeCount, x_bound, 1, x_at, 4, x_at, x_tokenStart, x_textCount, x_escaped, x_valueSlot, x_valueName, x_depth, x_outputLength, x_text, x_typeKind, x_typeDetail, x_typeLeast, x_typeMost, x_fieldCount, x_fieldName, x_fieldType, x_fieldNeeded, x_tagType, x_nodeKind, x_nodeValue, x_nodeParent, x_nodeName, x_nodeSlot, x_nodeStart, x_nodeTag, x_completeCount, x_openNode, x_openSlot, x_openNames, x_openNext, x_openComma, x_output)) : wpX_readCharacter P (x_length, x_nodeCount, x_bound, 0, x_faultPlace, 4, x_at, x_tokenStart, x_textCount, x_escaped, x_valueSlot, x_valueName, x_depth, x_outputLength, x_text, x_typeKind, x_typeDetail, x_typeLeast, x_typeMost, x_fieldCount, x_fieldName, x_fieldType, x_fieldNeeded, x_tagType, x_nodeKind, x_nodeValue, x_nodeParent, x_nodeName, x_nodeSlot, x_nodeStart, x_nodeTag, x_completeCount, x_openNode, x_openSlot, x_openNames, x_openNext, x_openComma, x_output) c :=
  br_t (by decide) (br_t rfl (br_f (by decide) (br_f (by decide) (br_f hc (br_f (by decide) (br_f (by decide) (br_f (by decide) (br_f (by decide) (br_f (by decide) (br_t rfl (br_f h2 (br_f (by decide) (br_f (by decide) h)))))))))))))
theorem rc_bad5 (hc : ¬ c = 20) (h2 : ¬ c = 14) (h : P (x_length, x_nodeCount, x_bound, 1, x_at, 5, x_at, x_tokenStart, x_textCount, x_escaped, x_valueSlot, x_valueName, x_depth, x_outputLength, x_text, x_typeKind, x_typeDetail, x_typeLeast, x_typeMost, x_fieldCount, x_fieldName, x_fieldType, x_fieldNeeded, x_tagType, x_nodeKind, x_nodeValue, x_nodeParent, x_nodeName, x_nodeSlot, x_nodeStart, x_nodeTag, x_completeCount, x_openNode, x_openSlot, x_openNames, x_openNext, x_openComma, x_output)) : wpX_readCharacter P (x_length, x_nodeCount, x_bound, 0, x_faultPlace, 5, x_at, x_tokenStart, x_textCount, x_escaped, x_valueSlot, x_valueName, x_depth, x_outputLength, x_text, x_typeKind, x_typeDetail, x_typeLeast, x_typeMost, x_fieldCount, x_fieldName, x_fieldType, x_fieldNeeded, x_tagType, x_nodeKind, x_nodeValue, x_nodeParent, x_nodeName, x_nodeSlot, x_nodeStart, x_nodeTag, x_completeCount, x_openNode, x_openSlot, x_openNames, x_openNext, x_openComma, x_output) c :=
  br_t (by decide) (br_t rfl (br_f (by decide) (br_f (by decide) (br_f hc (br_f (by decide) (br_f (by decide) (br_f (by decide) (br_f (by decide) (br_f (by decide) (br_f (by decide) (br_t rfl (br_f h2 (br_f (by decide) h)))))))))))))
theorem rc_str (hm : x_mode = 6 ∨ x_mode = 7) (h : wpX_readStringCharacter P (x_length, x_nodeCount, x_bound, 0, x_faultPlace, x_mode, x_at, x_tokenStart, x_textCount, x_escaped, x_valueSlot, x_valueName, x_depth, x_outputLength, x_text, x_typeKind, x_typeDetail, x_typeLeast, x_typeMost, x_fieldCount, x_fieldName, x_fieldType, x_fieldNeeded, x_tagType, x_nodeKind, x_nodeValue, x_nodeParent, x_nodeName, x_nodeSlot, x_nodeStart, x_nodeTag, x_completeCount, x_openNode, x_openSlot, x_openNames, x_openNext, x_openComma, x_output) c) : wpX_readCharacter P (x_length, x_nodeCount, x_bound, 0, x_faultPlace, x_mode, x_at, x_tokenStart, x_textCount, x_escaped, x_valueSlot, x_valueName, x_depth, x_outputLength, x_text, x_typeKind, x_typeDetail, x_typeLeast, x_typeMost, x_fieldCount, x_fieldName, x_fieldType, x_fieldNeeded, x_tagType, x_nodeKind, x_nodeValue, x_nodeParent, x_nodeName, x_nodeSlot, x_nodeStart, x_nodeTag, x_completeCount, x_openNode, x_openSlot, x_openNames, x_openNext, x_openComma, x_output) c := by
  rcases hm with rfl | rfl
  · exact br_t (by decide) (br_t rfl (br_t rfl h))
  · exact br_t (by decide) (br_t rfl (br_f (by decide) (br_t rfl h)))
/-! the loop of bind -/
end
def bx_L (post : Int32 → SX → Prop) (p : Nat) (u : SX) : Prop := match u with | (x_length, x_nodeCount, x_bound, x_fault, x_faultPlace, x_mode, x_at, x_tokenStart, x_textCount, x_escaped, x_valueSlot, x_valueName, x_depth, x_outputLength, x_text, x_typeKind, x_typeDetail, x_typeLeast, x_typeMost, x_fieldCount, x_fieldName, x_fieldType, x_fieldNeeded, x_tagType, x_nodeKind, x_nodeValue, x_nodeParent, x_nodeName, x_nodeSlot, x_nodeStart, x_nodeTag, x_completeCount, x_openNode, x_openSlot, x_openNames, x_openNext, x_openComma, x_output) => ∃ n, wX_bind_20 post n (nI p) x_length x_nodeCount x_bound x_fault x_faultPlace x_mode x_at x_tokenStart x_textCount x_escaped x_valueSlot x_valueName x_depth x_outputLength x_text x_typeKind x_typeDetail x_typeLeast x_typeMost x_fieldCount x_fieldName x_fieldType x_fieldNeeded x_tagType x_nodeKind x_nodeValue x_nodeParent x_nodeName x_nodeSlot x_nodeStart x_nodeTag x_completeCount x_openNode x_openSlot x_openNames x_openNext x_openComma x_output
/-- the component goes from place p in state u to place p' in state u' -/
def bx_R (p : Nat) (u : SX) (p' : Nat) (u' : SX) : Prop := ∀ post, bx_L post p' u' → bx_L post p u
theorem bx_0 (p : Nat) (u : SX) : bx_R p u p u := fun _ h => h
theorem bx_T {p p' p'' : Nat} {u u' u'' : SX} (h : bx_R p u p' u') (h' : bx_R p' u' p'' u'') : bx_R p u p'' u'' := fun post z => h post (h' post z)
section
variable {x_length x_nodeCount x_bound x_fault x_faultPlace x_mode x_at x_tokenStart x_textCount x_escaped x_valueSlot x_valueName x_depth x_outputLength : Int32} {x_text x_typeKind x_typeDetail x_typeLeast x_typeMost x_fieldCount x_fieldName x_fieldType x_fieldNeeded x_tagType x_nodeKind x_nodeValue x_nodeParent x_nodeName x_nodeSlot x_nodeStart x_nodeTag x_completeCount x_openNode x_openSlot x_openNames x_openNext x_openComma x_output : Nat → Int32} {L p : Nat}
theorem bx_1 (hp : p < L) (hL : L ≤ 96) (u' : SX) (h : ∀ P : SX → Prop, P u' → wpX_readCharacter P (nI L, x_nodeCount, x_bound, 0, x_faultPlace, x_mode, nI p, x_tokenStart, x_textCount, x_escaped, x_valueSlot, x_valueName, x_depth, x_outputLength, x_text, x_typeKind, x_typeDetail, x_typeLeast, x_typeMost, x_fieldCount, x_fieldName, x_fieldType, x_fieldNeeded, x_tagType, x_nodeKind, x_nodeValue, x_nodeParent, x_nodeName, x_nodeSlot, x_nodeStart, x_nodeTag, x_completeCount, x_openNode, x_openSlot, x_openNames, x_openNext, x_openComma, x_output) (x_text p)) : bx_R p (nI L, x_nodeCount, x_bound, 0, x_faultPlace, x_mode, x_at, x_tokenStart, x_textCount, x_escaped, x_valueSlot, x_valueName, x_depth, x_outputLength, x_text, x_typeKind, x_typeDetail, x_typeLeast, x_typeMost, x_fieldCount, x_fieldName, x_fieldType, x_fieldNeeded, x_tagType, x_nodeKind, x_nodeValue, x_nodeParent, x_nodeName, x_nodeSlot, x_nodeStart, x_nodeTag, x_completeCount, x_openNode, x_openSlot, x_openNames, x_openNext, x_openComma, x_output) (p + 1) u' := by
  intro post hn
  obtain ⟨z_length, z_nodeCount, z_bound, z_fault, z_faultPlace, z_mode, z_at, z_tokenStart, z_textCount, z_escaped, z_valueSlot, z_valueName, z_depth, z_outputLength, z_text, z_typeKind, z_typeDetail, z_typeLeast, z_typeMost, z_fieldCount, z_fieldName, z_fieldType, z_fieldNeeded, z_tagType, z_nodeKind, z_nodeValue, z_nodeParent, z_nodeName, z_nodeSlot, z_nodeStart, z_nodeTag, z_completeCount, z_openNode, z_openSlot, z_openNames, z_openNext, z_openComma, z_output⟩ := u'
  obtain ⟨n, hn⟩ := hn
  refine ⟨n + 1, br_f (nI_ge hp (by omega)) (br_t rfl ⟨vp_in_nI (by omega) (by decide), ?_⟩)⟩
  rw [nI_clamp (by omega)]
  exact h _ (nm_r (nI_1 p) hn)
theorem bx_F {post : Int32 → SX → Prop} (hf : ¬ x_fault = 0) (h : post x_fault (x_length, x_nodeCount, 0, x_fault, x_faultPlace, x_mode, x_at, x_tokenStart, x_textCount, x_escaped, x_valueSlot, x_valueName, x_depth, x_outputLength, x_text, x_typeKind, x_typeDetail, x_typeLeast, x_typeMost, x_fieldCount, x_fieldName, x_fieldType, x_fieldNeeded, x_tagType, x_nodeKind, x_nodeValue, x_nodeParent, x_nodeName, x_nodeSlot, x_nodeStart, x_nodeTag, x_completeCount, x_openNode, x_openSlot, x_openNames, x_openNext, x_openComma, x_output)) : bx_L post p (x_length, x_nodeCount, x_bound, x_fault, x_faultPlace, x_mode, x_at, x_tokenStart, x_textCount, x_escaped, x_valueSlot, x_valueName, x_depth, x_outputLength, x_text, x_typeKind, x_typeDetail, x_typeLeast, x_typeMost, x_fieldCount, x_fieldName, x_fieldType, x_fieldNeeded, x_tagType, x_nodeKind, x_nodeValue, x_nodeParent, x_nodeName, x_nodeSlot, x_nodeStart, x_nodeTag, x_completeCount, x_openNode, x_openSlot, x_openNames, x_openNext, x_openComma, x_output) := by
  by_cases z : x_length ≤ nI p
  · exact ⟨1, br_t z (br_f hf (br_f hf h))⟩
  · exact ⟨1, br_f z (br_f hf (br_f hf (br_f hf h)))⟩
theorem bx_E {post : Int32 → SX → Prop} (hL : L ≤ 96) (h : wX_bind_56 post (nI L) x_nodeCount x_bound x_fault x_faultPlace x_mode x_at x_tokenStart x_textCount x_escaped x_valueSlot x_valueName x_depth x_outputLength x_text x_typeKind x_typeDetail x_typeLeast x_typeMost x_fieldCount x_fieldName x_fieldType x_fieldNeeded x_tagType x_nodeKind x_nodeValue x_nodeParent x_nodeName x_nodeSlot x_nodeStart x_nodeTag x_completeCount x_openNode x_openSlot x_openNames x_openNext x_openComma x_output) : bx_L post L (nI L, x_nodeCount, x_bound, x_fault, x_faultPlace, x_mode, x_at, x_tokenStart, x_textCount, x_escaped, x_valueSlot, x_valueName, x_depth, x_outputLength, x_text, x_typeKind, x_typeDetail, x_typeLeast, x_typeMost, x_fieldCount, x_fieldName, x_fieldType, x_fieldNeeded, x_tagType, x_nodeKind, x_nodeValue, x_nodeParent, x_nodeName, x_nodeSlot, x_nodeStart, x_nodeTag, x_completeCount, x_openNode, x_openSlot, x_openNames, x_openNext, x_openComma, x_output) :=
  ⟨1, br_t (nI_le (Nat.le_refl _) (by omega)) h⟩
/-- spaces -/
theorem bx_sp (hL : L ≤ 96) (h8 : x_mode < 8) (h6 : ¬ x_mode = 6) (h7 : ¬ x_mode = 7) : ∀ (m p b : Nat) (at' : Int32), p + m = b → b ≤ L → (∀ i, p ≤ i → i < b → x_text i = 20) → ∃ at'', bx_R p (nI L, x_nodeCount, x_bound, 0, x_faultPlace, x_mode, at', x_tokenStart, x_textCount, x_escaped, x_valueSlot, x_valueName, x_depth, x_outputLength, x_text, x_typeKind, x_typeDetail, x_typeLeast, x_typeMost, x_fieldCount, x_fieldName, x_fieldType, x_fieldNeeded, x_tagType, x_nodeKind, x_nodeValue, x_nodeParent, x_nodeName, x_nodeSlot, x_nodeStart, x_nodeTag, x_completeCount, x_openNode, x_openSlot, x_openNames, x_openNext, x_openComma, x_output) b (nI L, x_nodeCount, x_bound, 0, x_faultPlace, x_mode, at'', x_tokenStart, x_textCount, x_escaped, x_valueSlot, x_valueName, x_depth, x_outputLength, x_text, x_typeKind, x_typeDetail, x_typeLeast, x_typeMost, x_fieldCount, x_fieldName, x_fieldType, x_fieldNeeded, x_tagType, x_nodeKind, x_nodeValue, x_nodeParent, x_nodeName, x_nodeSlot, x_nodeStart, x_nodeTag, x_completeCount, x_openNode, x_openSlot, x_openNames, x_openNext, x_openComma, x_output) := by
  intro m
  induction m with
  | zero =>
    intro p b a hp hb hs
    have : p = b := by omega
    subst this
    exact ⟨a, bx_0 _ _⟩
  | succ m ih =>
    intro p b a hp hb hs
    obtain ⟨a', h'⟩ := ih (p + 1) b (nI p) (by omega) hb (fun i h1 h2 => hs i (by omega) h2)
    refine ⟨a', bx_T (bx_1 (by omega) hL _ ?_) h'⟩
    intro P hP
    rw [hs p (by omega) (by omega)]
    exact rc_sp h8 h6 h7 hP
end
end
section
/-! the reference's parts: at, digit, digits, over -/
theorem tt_lo {t : Nat → Int32} (h : tt_C t) (i : Nat) : ¬ t i < 0 := by
  obtain ⟨c, hc, e⟩ := h i
  rw [e]; exact nI_pos (by omega)
theorem hh_sub2 (a : Nat) : (-2 : Int32) - nI a = -1 - nI (a + 1) := by
  rw [← nI_1]
  have : (-2 : Int32) = -1 - 1 := by decide
  rw [this]
  grind
section
variable {y_length y_parts y_bad y_nodes y_fault y_place y_bound y_depth y_nextName y_wantsName y_wantsTag y_printed y_waiting y_scaled : Int32} {y_sort y_typeA y_typeB y_typeC y_fieldName y_fieldType y_fields y_tags y_needed y_text y_begin y_end y_inside y_whole y_kind y_value y_parent y_name y_slotOf y_placeOf y_complete y_openNode y_openType y_openCount y_openNames y_openChoice y_output y_todo : Nat → Int32} {L p : Nat}
theorem ya_at {post : Int32 → Prop} (hL : L ≤ 96) (hp : p < 1000) (h : post (tt_at y_text L p)) : wpY_at post (nI L, y_parts, y_bad, y_nodes, y_fault, y_place, y_bound, y_depth, y_nextName, y_wantsName, y_wantsTag, y_printed, y_waiting, y_scaled, y_sort, y_typeA, y_typeB, y_typeC, y_fieldName, y_fieldType, y_fields, y_tags, y_needed, y_text, y_begin, y_end, y_inside, y_whole, y_kind, y_value, y_parent, y_name, y_slotOf, y_placeOf, y_complete, y_openNode, y_openType, y_openCount, y_openNames, y_openChoice, y_output, y_todo) (nI p) := by
  rcases Nat.lt_or_ge p L with z | z
  · rw [tt_in z] at h
    refine br_f (nI_ge z (by omega)) ⟨vp_in_nI (by omega) (by decide), ?_⟩
    rw [nI_clamp (by omega)]; exact h
  · rw [tt_out z] at h
    exact br_t (nI_le z (by omega)) h
theorem ya_in {post : Int32 → Prop} (hL : L ≤ 96) (hp : p < L) (h : post (y_text p)) : wpY_at post (nI L, y_parts, y_bad, y_nodes, y_fault, y_place, y_bound, y_depth, y_nextName, y_wantsName, y_wantsTag, y_printed, y_waiting, y_scaled, y_sort, y_typeA, y_typeB, y_typeC, y_fieldName, y_fieldType, y_fields, y_tags, y_needed, y_text, y_begin, y_end, y_inside, y_whole, y_kind, y_value, y_parent, y_name, y_slotOf, y_placeOf, y_complete, y_openNode, y_openType, y_openCount, y_openNames, y_openChoice, y_output, y_todo) (nI p) :=
  ya_at hL (by omega) (by rw [tt_in hp]; exact h)
theorem ya_out {post : Int32 → Prop} (hL : L ≤ 96) (hp : L ≤ p) (h1 : p < 1000) (h : post (-1)) : wpY_at post (nI L, y_parts, y_bad, y_nodes, y_fault, y_place, y_bound, y_depth, y_nextName, y_wantsName, y_wantsTag, y_printed, y_waiting, y_scaled, y_sort, y_typeA, y_typeB, y_typeC, y_fieldName, y_fieldType, y_fields, y_tags, y_needed, y_text, y_begin, y_end, y_inside, y_whole, y_kind, y_value, y_parent, y_name, y_slotOf, y_placeOf, y_complete, y_openNode, y_openType, y_openCount, y_openNames, y_openChoice, y_output, y_todo) (nI p) :=
  ya_at hL (by omega) (by rw [tt_out hp]; exact h)
theorem ya_d1 {post : Int32 → Prop} (hL : L ≤ 96) (hC : tt_C y_text) (hp : p < L) (hd : y_text p ≤ 9) (h : post 1) : wpY_digit post (nI L, y_parts, y_bad, y_nodes, y_fault, y_place, y_bound, y_depth, y_nextName, y_wantsName, y_wantsTag, y_printed, y_waiting, y_scaled, y_sort, y_typeA, y_typeB, y_typeC, y_fieldName, y_fieldType, y_fields, y_tags, y_needed, y_text, y_begin, y_end, y_inside, y_whole, y_kind, y_value, y_parent, y_name, y_slotOf, y_placeOf, y_complete, y_openNode, y_openType, y_openCount, y_openNames, y_openChoice, y_output, y_todo) (nI p) := by
  unfold wpY_digit
  dsimp only
  exact ya_in hL hp (br_f (tt_lo hC p) (br_f (Int32.not_lt.mpr hd) ⟨rfl, h⟩))
theorem ya_d0 {post : Int32 → Prop} (hL : L ≤ 96) (hC : tt_C y_text) (hp : p < 1000) (hd : ns_N y_text L p) (h : post 0) : wpY_digit post (nI L, y_parts, y_bad, y_nodes, y_fault, y_place, y_bound, y_depth, y_nextName, y_wantsName, y_wantsTag, y_printed, y_waiting, y_scaled, y_sort, y_typeA, y_typeB, y_typeC, y_fieldName, y_fieldType, y_fields, y_tags, y_needed, y_text, y_begin, y_end, y_inside, y_whole, y_kind, y_value, y_parent, y_name, y_slotOf, y_placeOf, y_complete, y_openNode, y_openType, y_openCount, y_openNames, y_openChoice, y_output, y_todo) (nI p) := by
  unfold wpY_digit
  dsimp only
  rcases Nat.lt_or_ge p L with z | z
  · have hd' : 9 < y_text p := hd.resolve_left (by omega)
    exact ya_in hL z (br_f (tt_lo hC p) (br_t hd' ⟨rfl, h⟩))
  · exact ya_out hL z hp (br_t (by decide) ⟨rfl, h⟩)
theorem ya_dec (t : Nat → Int32) (L p : Nat) : (p < L ∧ t p ≤ 9) ∨ ns_N t L p := by
  rcases Nat.lt_or_ge p L with z | z
  · by_cases w : t p ≤ 9
    · exact Or.inl ⟨z, w⟩
    · exact Or.inr (Or.inr (Int32.not_le.mp w))
  · exact Or.inr (Or.inl z)
theorem ya_ds (hL : L ≤ 96) (hC : tt_C y_text) : ∀ d i, L ≤ i + d → i ≤ L → ∃ j, ns_D y_text L i j ∧ ns_N y_text L j ∧ ∀ post : Int32 → Prop, post (nI j) → ∃ n, wY_digits_2 post (nI L) y_parts y_bad y_nodes y_fault y_place y_bound y_depth y_nextName y_wantsName y_wantsTag y_printed y_waiting y_scaled y_sort y_typeA y_typeB y_typeC y_fieldName y_fieldType y_fields y_tags y_needed y_text y_begin y_end y_inside y_whole y_kind y_value y_parent y_name y_slotOf y_placeOf y_complete y_openNode y_openType y_openCount y_openNames y_openChoice y_output y_todo n (nI i) := by
  intro d
  induction d with
  | zero =>
    intro i h1 h2
    exact ⟨i, ⟨Nat.le_refl _, h2, fun k a b => absurd b (by omega)⟩, Or.inl (by omega), fun post hp => ⟨0 + 1, by rw [wY_digits_2]; exact ya_d0 hL hC (by omega) (Or.inl (by omega)) (br_t rfl hp)⟩⟩
  | succ d ih =>
    intro i h1 h2
    rcases ya_dec y_text L i with ⟨a, b⟩ | a
    · obtain ⟨j, hj, hN, hw⟩ := ih (i + 1) (by omega) a
      refine ⟨j, ⟨by have := hj.1; omega, hj.2.1, fun k h3 h4 => ?_⟩, hN, fun post hp => ?_⟩
      · rcases Nat.lt_or_ge i k with w | w
        · exact hj.2.2 k w h4
        · have : k = i := by omega
          subst this; exact b
      · obtain ⟨n, hn⟩ := hw post hp
        exact ⟨n + 1, by rw [wY_digits_2]; exact ya_d1 hL hC a b (br_f (by decide) (nm_r (nI_1 i) hn))⟩
    · exact ⟨i, ⟨Nat.le_refl _, h2, fun k c e => absurd e (by omega)⟩, a, fun post hp => ⟨0 + 1, by rw [wY_digits_2]; exact ya_d0 hL hC (by omega) a (br_t rfl hp)⟩⟩
theorem yo_92 {post J : Int32 → Prop} {i w : Nat} (hL : L ≤ 96) (hi : i + w < 1000) (h1 : i + w < L → J (nI (i + w))) (h2 : L ≤ i + w → post (-1 - nI L)) : wY_over_92 post J (nI w) (nI i) (nI L) y_parts y_bad y_nodes y_fault y_place y_bound y_depth y_nextName y_wantsName y_wantsTag y_printed y_waiting y_scaled y_sort y_typeA y_typeB y_typeC y_fieldName y_fieldType y_fields y_tags y_needed y_text y_begin y_end y_inside y_whole y_kind y_value y_parent y_name y_slotOf y_placeOf y_complete y_openNode y_openType y_openCount y_openNames y_openChoice y_output y_todo := by
  refine nm_r (nI_add i w) ?_
  rcases Nat.lt_or_ge (i + w) L with z | z
  · exact br_t (nI_lt z (by omega)) (h1 z)
  · exact br_f (nI_nlt z (by omega)) (h2 z)
theorem yo_76 {post J : Int32 → Prop} {i : Nat} (hL : L ≤ 96) (hi : i < 1000) (h1 : tt_at y_text L i = 30 → wY_over_92 post J (nI 2) (nI i) (nI L) y_parts y_bad y_nodes y_fault y_place y_bound y_depth y_nextName y_wantsName y_wantsTag y_printed y_waiting y_scaled y_sort y_typeA y_typeB y_typeC y_fieldName y_fieldType y_fields y_tags y_needed y_text y_begin y_end y_inside y_whole y_kind y_value y_parent y_name y_slotOf y_placeOf y_complete y_openNode y_openType y_openCount y_openNames y_openChoice y_output y_todo) (h0 : ¬ tt_at y_text L i = 30 → wY_over_92 post J (nI 1) (nI i) (nI L) y_parts y_bad y_nodes y_fault y_place y_bound y_depth y_nextName y_wantsName y_wantsTag y_printed y_waiting y_scaled y_sort y_typeA y_typeB y_typeC y_fieldName y_fieldType y_fields y_tags y_needed y_text y_begin y_end y_inside y_whole y_kind y_value y_parent y_name y_slotOf y_placeOf y_complete y_openNode y_openType y_openCount y_openNames y_openChoice y_output y_todo) : wY_over_76 post J (nI i) (nI L) y_parts y_bad y_nodes y_fault y_place y_bound y_depth y_nextName y_wantsName y_wantsTag y_printed y_waiting y_scaled y_sort y_typeA y_typeB y_typeC y_fieldName y_fieldType y_fields y_tags y_needed y_text y_begin y_end y_inside y_whole y_kind y_value y_parent y_name y_slotOf y_placeOf y_complete y_openNode y_openType y_openCount y_openNames y_openChoice y_output y_todo := by
  unfold wY_over_76
  exact ya_at hL hi ⟨h1, h0⟩
theorem yo_17a {post : Int32 → Prop} {i n : Nat} (hL : L ≤ 96) (hi : i < L) (h16 : y_text i = 16) (h : post (nI (i + 1))) : wY_over_17 post (nI L) y_parts y_bad y_nodes y_fault y_place y_bound y_depth y_nextName y_wantsName y_wantsTag y_printed y_waiting y_scaled y_sort y_typeA y_typeB y_typeC y_fieldName y_fieldType y_fields y_tags y_needed y_text y_begin y_end y_inside y_whole y_kind y_value y_parent y_name y_slotOf y_placeOf y_complete y_openNode y_openType y_openCount y_openNames y_openChoice y_output y_todo (n + 1) (nI i) := by
  rw [wY_over_17]
  refine ya_in hL hi (br_t h16 ?_)
  rw [nI_1]; exact h
theorem yo_17b {post : Int32 → Prop} {i n : Nat} (hL : L ≤ 96) (hi : i < 1000) (h16 : ¬ tt_at y_text L i = 16) (h30 : ¬ tt_at y_text L i = 30) (h : wY_over_92 post (wY_over_17 post (nI L) y_parts y_bad y_nodes y_fault y_place y_bound y_depth y_nextName y_wantsName y_wantsTag y_printed y_waiting y_scaled y_sort y_typeA y_typeB y_typeC y_fieldName y_fieldType y_fields y_tags y_needed y_text y_begin y_end y_inside y_whole y_kind y_value y_parent y_name y_slotOf y_placeOf y_complete y_openNode y_openType y_openCount y_openNames y_openChoice y_output y_todo n) (nI 1) (nI i) (nI L) y_parts y_bad y_nodes y_fault y_place y_bound y_depth y_nextName y_wantsName y_wantsTag y_printed y_waiting y_scaled y_sort y_typeA y_typeB y_typeC y_fieldName y_fieldType y_fields y_tags y_needed y_text y_begin y_end y_inside y_whole y_kind y_value y_parent y_name y_slotOf y_placeOf y_complete y_openNode y_openType y_openCount y_openNames y_openChoice y_output y_todo) : wY_over_17 post (nI L) y_parts y_bad y_nodes y_fault y_place y_bound y_depth y_nextName y_wantsName y_wantsTag y_printed y_waiting y_scaled y_sort y_typeA y_typeB y_typeC y_fieldName y_fieldType y_fields y_tags y_needed y_text y_begin y_end y_inside y_whole y_kind y_value y_parent y_name y_slotOf y_placeOf y_complete y_openNode y_openType y_openCount y_openNames y_openChoice y_output y_todo (n + 1) (nI i) := by
  rw [wY_over_17]
  exact ya_at hL hi (br_f h16 (ya_at hL hi (br_f h30 (yo_76 hL hi (fun w => absurd w h30) (fun _ => h)))))
theorem yo_17c {post : Int32 → Prop} {i n : Nat} (hL : L ≤ 96) (hi : i < L) (h30 : y_text i = 30) (hg : L ≤ i + 1 ∨ y_text (i + 1) = 16 ∨ y_text (i + 1) = 30) (h : wY_over_92 post (wY_over_17 post (nI L) y_parts y_bad y_nodes y_fault y_place y_bound y_depth y_nextName y_wantsName y_wantsTag y_printed y_waiting y_scaled y_sort y_typeA y_typeB y_typeC y_fieldName y_fieldType y_fields y_tags y_needed y_text y_begin y_end y_inside y_whole y_kind y_value y_parent y_name y_slotOf y_placeOf y_complete y_openNode y_openType y_openCount y_openNames y_openChoice y_output y_todo n) (nI 2) (nI i) (nI L) y_parts y_bad y_nodes y_fault y_place y_bound y_depth y_nextName y_wantsName y_wantsTag y_printed y_waiting y_scaled y_sort y_typeA y_typeB y_typeC y_fieldName y_fieldType y_fields y_tags y_needed y_text y_begin y_end y_inside y_whole y_kind y_value y_parent y_name y_slotOf y_placeOf y_complete y_openNode y_openType y_openCount y_openNames y_openChoice y_output y_todo) : wY_over_17 post (nI L) y_parts y_bad y_nodes y_fault y_place y_bound y_depth y_nextName y_wantsName y_wantsTag y_printed y_waiting y_scaled y_sort y_typeA y_typeB y_typeC y_fieldName y_fieldType y_fields y_tags y_needed y_text y_begin y_end y_inside y_whole y_kind y_value y_parent y_name y_slotOf y_placeOf y_complete y_openNode y_openType y_openCount y_openNames y_openChoice y_output y_todo (n + 1) (nI i) := by
  have h16 : ¬ y_text i = 16 := by rw [h30]; decide
  have w : wY_over_76 post (wY_over_17 post (nI L) y_parts y_bad y_nodes y_fault y_place y_bound y_depth y_nextName y_wantsName y_wantsTag y_printed y_waiting y_scaled y_sort y_typeA y_typeB y_typeC y_fieldName y_fieldType y_fields y_tags y_needed y_text y_begin y_end y_inside y_whole y_kind y_value y_parent y_name y_slotOf y_placeOf y_complete y_openNode y_openType y_openCount y_openNames y_openChoice y_output y_todo n) (nI i) (nI L) y_parts y_bad y_nodes y_fault y_place y_bound y_depth y_nextName y_wantsName y_wantsTag y_printed y_waiting y_scaled y_sort y_typeA y_typeB y_typeC y_fieldName y_fieldType y_fields y_tags y_needed y_text y_begin y_end y_inside y_whole y_kind y_value y_parent y_name y_slotOf y_placeOf y_complete y_openNode y_openType y_openCount y_openNames y_openChoice y_output y_todo := yo_76 hL (by omega) (fun _ => h) (fun w => absurd (by rw [tt_in hi]; exact h30) w)
  rw [wY_over_17]
  refine ya_in hL hi (br_f h16 (ya_in hL hi (br_t h30 ?_)))
  rw [nI_1]
  rcases Nat.lt_or_ge (i + 1) L with z | z
  · refine br_f (nI_ge z (by omega)) (ya_in hL z ?_)
    by_cases d16 : y_text (i + 1) = 16
    · exact br_t d16 w
    · exact br_f d16 (ya_in hL z (br_t ((hg.resolve_left (by omega)).resolve_left d16) w))
  · exact br_t (nI_le z (by omega)) w
theorem yo_17d {post : Int32 → Prop} {i n : Nat} (hL : L ≤ 96) (hi : i + 1 < L) (h30 : y_text i = 30) (d16 : ¬ y_text (i + 1) = 16) (d30 : ¬ y_text (i + 1) = 30) (h : post (-1 - nI (i + 1))) : wY_over_17 post (nI L) y_parts y_bad y_nodes y_fault y_place y_bound y_depth y_nextName y_wantsName y_wantsTag y_printed y_waiting y_scaled y_sort y_typeA y_typeB y_typeC y_fieldName y_fieldType y_fields y_tags y_needed y_text y_begin y_end y_inside y_whole y_kind y_value y_parent y_name y_slotOf y_placeOf y_complete y_openNode y_openType y_openCount y_openNames y_openChoice y_output y_todo (n + 1) (nI i) := by
  have h16 : ¬ y_text i = 16 := by rw [h30]; decide
  rw [wY_over_17]
  refine ya_in hL (by omega) (br_f h16 (ya_in hL (by omega) (br_t h30 ?_)))
  rw [nI_1]
  refine br_f (nI_ge hi (by omega)) (ya_in hL hi (br_f d16 (ya_in hL hi (br_f d30 ?_))))
  rw [hh_sub2]; exact h
/-- a string: its end, or where it is cut off -/
theorem yo_str (hL : L ≤ 96) (hL1 : 1 ≤ L) : ∀ d i, L < i + d → i ≤ L → (∃ q, ss_W y_text L i q ∧ ∀ post : Int32 → Prop, post (nI (q + 1)) → ∃ n, wY_over_17 post (nI L) y_parts y_bad y_nodes y_fault y_place y_bound y_depth y_nextName y_wantsName y_wantsTag y_printed y_waiting y_scaled y_sort y_typeA y_typeB y_typeC y_fieldName y_fieldType y_fields y_tags y_needed y_text y_begin y_end y_inside y_whole y_kind y_value y_parent y_name y_slotOf y_placeOf y_complete y_openNode y_openType y_openCount y_openNames y_openChoice y_output y_todo n (nI i)) ∨ (∃ q e z, ss_X y_text L i q e z ∧ ∀ post : Int32 → Prop, post (-1 - nI z) → ∃ n, wY_over_17 post (nI L) y_parts y_bad y_nodes y_fault y_place y_bound y_depth y_nextName y_wantsName y_wantsTag y_printed y_waiting y_scaled y_sort y_typeA y_typeB y_typeC y_fieldName y_fieldType y_fields y_tags y_needed y_text y_begin y_end y_inside y_whole y_kind y_value y_parent y_name y_slotOf y_placeOf y_complete y_openNode y_openType y_openCount y_openNames y_openChoice y_output y_todo n (nI i)) := by
  intro d
  induction d with
  | zero => intro i h1 h2; omega
  | succ d ih =>
    intro i h1 h2
    rcases Nat.lt_or_ge i L with hi | hi
    case inr =>
      have hi : i = L := by omega
      subst hi
      refine Or.inr ⟨i, i - 1, i, ⟨⟨0, rfl⟩, Or.inl ⟨rfl, by omega, rfl⟩⟩, fun post hp => ⟨0 + 1, yo_17b hL (by omega) ?_ ?_ (yo_92 hL (by omega) (fun z => absurd z (by omega)) (fun _ => hp))⟩⟩
      · rw [tt_out (Nat.le_refl _)]; decide
      · rw [tt_out (Nat.le_refl _)]; decide
    by_cases c16 : y_text i = 16
    · exact Or.inl ⟨i, ⟨hi, c16, 0, rfl⟩, fun post hp => ⟨0 + 1, yo_17a hL hi c16 hp⟩⟩
    by_cases c30 : y_text i = 30
    · rcases Nat.lt_or_ge (i + 1) L with z | z
      case inr => exact Or.inr ⟨i, i, L, ⟨⟨0, rfl⟩, Or.inr (Or.inl ⟨by omega, c30, rfl, rfl⟩)⟩, fun post hp => ⟨0 + 1, yo_17c hL hi c30 (Or.inl z) (yo_92 hL (by omega) (fun z => absurd z (by omega)) (fun _ => hp))⟩⟩
      by_cases good : y_text (i + 1) = 16 ∨ y_text (i + 1) = 30
      · have G : ss_G y_text L i (i + 2) := Or.inr ⟨z, c30, good, rfl⟩
        rcases Nat.lt_or_ge (i + 2) L with z2 | z2
        · rcases ih (i + 2) (by omega) (by omega) with ⟨q, ⟨a, b, m, hm⟩, hw⟩ | ⟨q, e, y, ⟨⟨m, hm⟩, hx⟩, hw⟩
          · refine Or.inl ⟨q, ⟨a, b, m + 1, _, G, hm⟩, fun post hp => ?_⟩
            obtain ⟨n, hn⟩ := hw post hp
            exact ⟨n + 1, yo_17c hL hi c30 (Or.inr good) (yo_92 hL (by omega) (fun _ => hn) (fun z => absurd z (by omega)))⟩
          · refine Or.inr ⟨q, e, y, ⟨⟨m + 1, _, G, hm⟩, hx⟩, fun post hp => ?_⟩
            obtain ⟨n, hn⟩ := hw post hp
            exact ⟨n + 1, yo_17c hL hi c30 (Or.inr good) (yo_92 hL (by omega) (fun _ => hn) (fun z => absurd z (by omega)))⟩
        · exact Or.inr ⟨i + 2, i + 1, L, ⟨⟨1, _, G, rfl⟩, Or.inl ⟨by omega, by omega, rfl⟩⟩, fun post hp => ⟨0 + 1, yo_17c hL hi c30 (Or.inr good) (yo_92 hL (by omega) (fun z => absurd z (by omega)) (fun _ => hp))⟩⟩
      · have d16 : ¬ y_text (i + 1) = 16 := fun h => good (Or.inl h)
        have d30 : ¬ y_text (i + 1) = 30 := fun h => good (Or.inr h)
        exact Or.inr ⟨i, i, i + 1, ⟨⟨0, rfl⟩, Or.inr (Or.inr ⟨z, c30, d16, d30, rfl, rfl⟩)⟩, fun post hp => ⟨0 + 1, yo_17d hL z c30 d16 d30 hp⟩⟩
    · have G : ss_G y_text L i (i + 1) := Or.inl ⟨hi, c16, c30, rfl⟩
      have t16 : ¬ tt_at y_text L i = 16 := by rw [tt_in hi]; exact c16
      have t30 : ¬ tt_at y_text L i = 30 := by rw [tt_in hi]; exact c30
      rcases Nat.lt_or_ge (i + 1) L with z2 | z2
      · rcases ih (i + 1) (by omega) (by omega) with ⟨q, ⟨a, b, m, hm⟩, hw⟩ | ⟨q, e, y, ⟨⟨m, hm⟩, hx⟩, hw⟩
        · refine Or.inl ⟨q, ⟨a, b, m + 1, _, G, hm⟩, fun post hp => ?_⟩
          obtain ⟨n, hn⟩ := hw post hp
          exact ⟨n + 1, yo_17b hL (by omega) t16 t30 (yo_92 hL (by omega) (fun _ => hn) (fun z => absurd z (by omega)))⟩
        · refine Or.inr ⟨q, e, y, ⟨⟨m + 1, _, G, hm⟩, hx⟩, fun post hp => ?_⟩
          obtain ⟨n, hn⟩ := hw post hp
          exact ⟨n + 1, yo_17b hL (by omega) t16 t30 (yo_92 hL (by omega) (fun _ => hn) (fun z => absurd z (by omega)))⟩
      · exact Or.inr ⟨i + 1, i, L, ⟨⟨1, _, G, rfl⟩, Or.inl ⟨by omega, by omega, rfl⟩⟩, fun post hp => ⟨0 + 1, yo_17b hL (by omega) t16 t30 (yo_92 hL (by omega) (fun z => absurd z (by omega)) (fun _ => hp))⟩⟩
end
end
section
/-! the reference's over: numbers, and all -/
theorem ns_E_le {t : Nat → Int32} {L e s q : Nat} (h : ns_E t L e s q) (he : e ≤ L) : e ≤ q ∧ q ≤ L := by
  rcases h with ⟨-, rfl⟩ | ⟨a, -, b, c, d, -⟩
  · exact ⟨Nat.le_refl _, he⟩
  · have := d.2.1
    rcases b with ⟨b, -⟩ | ⟨b, -⟩ <;> exact ⟨by omega, this⟩
theorem ns_F_le {t : Nat → Int32} {L a e : Nat} (h : ns_F t L a e) (ha : a ≤ L) : a ≤ e ∧ e ≤ L := by
  rcases h with ⟨-, rfl⟩ | ⟨-, -, b, d, -⟩
  · exact ⟨Nat.le_refl _, ha⟩
  · exact ⟨by omega, d.2.1⟩
theorem ns_I_le {t : Nat → Int32} {L b i a : Nat} (h : ns_I t L b i a) : b ≤ i ∧ i < a ∧ a ≤ L := by
  obtain ⟨h1, h2, -, h3⟩ := h
  have hb : b ≤ i := by rcases h1 with ⟨-, h1⟩ | ⟨-, h1⟩ <;> omega
  rcases h3 with ⟨-, h3⟩ | ⟨-, h3, h4, -⟩
  · exact ⟨hb, by omega, by omega⟩
  · exact ⟨hb, h3, h4.2.1⟩
theorem ns_W_le {t : Nat → Int32} {L b q : Nat} (h : ns_W t L b q) : b < q ∧ q ≤ L := by
  obtain ⟨i, a, e, s, h1, h2, h3⟩ := h
  have x1 := ns_I_le h1
  have x2 := ns_F_le h2 x1.2.2
  have x3 := ns_E_le h3 x2.2
  omega
theorem ns_X_le {t : Nat → Int32} {L b z : Nat} (hb : b < L) (h : ns_X t L b z) : b < z ∧ z ≤ L := by
  rcases h with ⟨-, h, -⟩ | ⟨i, a, h1, h2, -, h3, -⟩ | ⟨i, a, e, h1, h2, h3, -, h4, -⟩
  · omega
  · have := ns_I_le h1; omega
  · have x1 := ns_I_le h1
    have x2 := ns_F_le h2 x1.2.2
    rcases h4 with ⟨h4, -⟩ | ⟨h4, h5, -⟩ <;> omega
section
variable {y_length y_parts y_bad y_nodes y_fault y_place y_bound y_depth y_nextName y_wantsName y_wantsTag y_printed y_waiting y_scaled : Int32} {y_sort y_typeA y_typeB y_typeC y_fieldName y_fieldType y_fields y_tags y_needed y_text y_begin y_end y_inside y_whole y_kind y_value y_parent y_name y_slotOf y_placeOf y_complete y_openNode y_openType y_openCount y_openNames y_openChoice y_output y_todo : Nat → Int32} {L : Nat}
theorem yo_243 (hL : L ≤ 96) (hC : tt_C y_text) {s : Nat} (hs : s ≤ L) : (∃ q, s < q ∧ ns_D y_text L s q ∧ ns_N y_text L q ∧ ∀ post : Int32 → Prop, post (nI q) → wY_over_243 post (nI s) (nI L) y_parts y_bad y_nodes y_fault y_place y_bound y_depth y_nextName y_wantsName y_wantsTag y_printed y_waiting y_scaled y_sort y_typeA y_typeB y_typeC y_fieldName y_fieldType y_fields y_tags y_needed y_text y_begin y_end y_inside y_whole y_kind y_value y_parent y_name y_slotOf y_placeOf y_complete y_openNode y_openType y_openCount y_openNames y_openChoice y_output y_todo) ∨ (ns_N y_text L s ∧ ∀ post : Int32 → Prop, post (-1 - nI s) → wY_over_243 post (nI s) (nI L) y_parts y_bad y_nodes y_fault y_place y_bound y_depth y_nextName y_wantsName y_wantsTag y_printed y_waiting y_scaled y_sort y_typeA y_typeB y_typeC y_fieldName y_fieldType y_fields y_tags y_needed y_text y_begin y_end y_inside y_whole y_kind y_value y_parent y_name y_slotOf y_placeOf y_complete y_openNode y_openType y_openCount y_openNames y_openChoice y_output y_todo) := by
  rcases ya_dec y_text L s with ⟨a, b⟩ | a
  · obtain ⟨q, h1, h2, h3⟩ := ya_ds (y_parts := y_parts) (y_bad := y_bad) (y_nodes := y_nodes) (y_fault := y_fault) (y_place := y_place) (y_bound := y_bound) (y_depth := y_depth) (y_nextName := y_nextName) (y_wantsName := y_wantsName) (y_wantsTag := y_wantsTag) (y_printed := y_printed) (y_waiting := y_waiting) (y_scaled := y_scaled) (y_sort := y_sort) (y_typeA := y_typeA) (y_typeB := y_typeB) (y_typeC := y_typeC) (y_fieldName := y_fieldName) (y_fieldType := y_fieldType) (y_fields := y_fields) (y_tags := y_tags) (y_needed := y_needed) (y_text := y_text) (y_begin := y_begin) (y_end := y_end) (y_inside := y_inside) (y_whole := y_whole) (y_kind := y_kind) (y_value := y_value) (y_parent := y_parent) (y_name := y_name) (y_slotOf := y_slotOf) (y_placeOf := y_placeOf) (y_complete := y_complete) (y_openNode := y_openNode) (y_openType := y_openType) (y_openCount := y_openCount) (y_openNames := y_openNames) (y_openChoice := y_openChoice) (y_output := y_output) (y_todo := y_todo) hL hC (L - s) s (by omega) hs
    have hq : s < q := by
      rcases Nat.lt_or_ge s q with w | w
      · exact w
      · have : q = s := by have := h1.1; omega
        subst this
        rcases h2 with h2 | h2
        · omega
        · exact absurd h2 (Int32.not_lt.mpr b)
    exact Or.inl ⟨q, hq, h1, h2, fun post hp => by unfold wY_over_243; exact ya_d1 hL hC a b (br_f (by decide) (h3 _ hp))⟩
  · exact Or.inr ⟨a, fun post hp => by unfold wY_over_243; exact ya_d0 hL hC (by omega) a (br_t rfl hp)⟩
theorem yo_207 (hL : L ≤ 96) (hC : tt_C y_text) {e : Nat} (he : e ≤ L) : (∃ s q, ns_E y_text L e s q ∧ ∀ post : Int32 → Prop, post (nI q) → wY_over_207 post (nI e) (nI L) y_parts y_bad y_nodes y_fault y_place y_bound y_depth y_nextName y_wantsName y_wantsTag y_printed y_waiting y_scaled y_sort y_typeA y_typeB y_typeC y_fieldName y_fieldType y_fields y_tags y_needed y_text y_begin y_end y_inside y_whole y_kind y_value y_parent y_name y_slotOf y_placeOf y_complete y_openNode y_openType y_openCount y_openNames y_openChoice y_output y_todo) ∨ (∃ s, e < L ∧ y_text e = 19 ∧ ns_S y_text L e s ∧ ns_N y_text L s ∧ ∀ post : Int32 → Prop, post (-1 - nI s) → wY_over_207 post (nI e) (nI L) y_parts y_bad y_nodes y_fault y_place y_bound y_depth y_nextName y_wantsName y_wantsTag y_printed y_waiting y_scaled y_sort y_typeA y_typeB y_typeC y_fieldName y_fieldType y_fields y_tags y_needed y_text y_begin y_end y_inside y_whole y_kind y_value y_parent y_name y_slotOf y_placeOf y_complete y_openNode y_openType y_openCount y_openNames y_openChoice y_output y_todo) := by
  by_cases h : e < L ∧ y_text e = 19
  case neg =>
    refine Or.inl ⟨0, e, Or.inl ⟨h, rfl⟩, fun post hp => ?_⟩
    unfold wY_over_207
    rcases Nat.lt_or_ge e L with z | z
    · exact ya_in hL z (br_f (fun w => h ⟨z, w⟩) hp)
    · exact ya_out hL z (by omega) (br_f (by decide) hp)
  obtain ⟨h1, h2⟩ := h
  by_cases sg : e + 1 < L ∧ (y_text (e + 1) = 17 ∨ y_text (e + 1) = 31)
  · obtain ⟨g1, g2⟩ := sg
    have walk : ∀ post : Int32 → Prop, wY_over_243 post (nI (e + 2)) (nI L) y_parts y_bad y_nodes y_fault y_place y_bound y_depth y_nextName y_wantsName y_wantsTag y_printed y_waiting y_scaled y_sort y_typeA y_typeB y_typeC y_fieldName y_fieldType y_fields y_tags y_needed y_text y_begin y_end y_inside y_whole y_kind y_value y_parent y_name y_slotOf y_placeOf y_complete y_openNode y_openType y_openCount y_openNames y_openChoice y_output y_todo → wY_over_207 post (nI e) (nI L) y_parts y_bad y_nodes y_fault y_place y_bound y_depth y_nextName y_wantsName y_wantsTag y_printed y_waiting y_scaled y_sort y_typeA y_typeB y_typeC y_fieldName y_fieldType y_fields y_tags y_needed y_text y_begin y_end y_inside y_whole y_kind y_value y_parent y_name y_slotOf y_placeOf y_complete y_openNode y_openType y_openCount y_openNames y_openChoice y_output y_todo := by
      intro post w
      unfold wY_over_207
      refine ya_in hL h1 (br_t h2 (nm_r (nI_1 e) ?_))
      refine ya_in hL g1 ?_
      by_cases c17 : y_text (e + 1) = 17
      · exact br_t c17 (nm_r (nI_1 (e + 1)) w)
      · exact br_f c17 (ya_in hL g1 (br_t (g2.resolve_left c17) (nm_r (nI_1 (e + 1)) w)))
    rcases yo_243 (y_parts := y_parts) (y_bad := y_bad) (y_nodes := y_nodes) (y_fault := y_fault) (y_place := y_place) (y_bound := y_bound) (y_depth := y_depth) (y_nextName := y_nextName) (y_wantsName := y_wantsName) (y_wantsTag := y_wantsTag) (y_printed := y_printed) (y_waiting := y_waiting) (y_scaled := y_scaled) (y_sort := y_sort) (y_typeA := y_typeA) (y_typeB := y_typeB) (y_typeC := y_typeC) (y_fieldName := y_fieldName) (y_fieldType := y_fieldType) (y_fields := y_fields) (y_tags := y_tags) (y_needed := y_needed) (y_text := y_text) (y_begin := y_begin) (y_end := y_end) (y_inside := y_inside) (y_whole := y_whole) (y_kind := y_kind) (y_value := y_value) (y_parent := y_parent) (y_name := y_name) (y_slotOf := y_slotOf) (y_placeOf := y_placeOf) (y_complete := y_complete) (y_openNode := y_openNode) (y_openType := y_openType) (y_openCount := y_openCount) (y_openNames := y_openNames) (y_openChoice := y_openChoice) (y_output := y_output) (y_todo := y_todo) hL hC (s := e + 2) (by omega) with ⟨q, a, b, c, d⟩ | ⟨a, d⟩
    · exact Or.inl ⟨e + 2, q, Or.inr ⟨h1, h2, Or.inr ⟨rfl, g1, g2⟩, a, b, c⟩, fun post hp => walk post (d post hp)⟩
    · exact Or.inr ⟨e + 2, h1, h2, Or.inr ⟨rfl, g1, g2⟩, a, fun post hp => walk post (d post hp)⟩
  · have walk : ∀ post : Int32 → Prop, wY_over_243 post (nI (e + 1)) (nI L) y_parts y_bad y_nodes y_fault y_place y_bound y_depth y_nextName y_wantsName y_wantsTag y_printed y_waiting y_scaled y_sort y_typeA y_typeB y_typeC y_fieldName y_fieldType y_fields y_tags y_needed y_text y_begin y_end y_inside y_whole y_kind y_value y_parent y_name y_slotOf y_placeOf y_complete y_openNode y_openType y_openCount y_openNames y_openChoice y_output y_todo → wY_over_207 post (nI e) (nI L) y_parts y_bad y_nodes y_fault y_place y_bound y_depth y_nextName y_wantsName y_wantsTag y_printed y_waiting y_scaled y_sort y_typeA y_typeB y_typeC y_fieldName y_fieldType y_fields y_tags y_needed y_text y_begin y_end y_inside y_whole y_kind y_value y_parent y_name y_slotOf y_placeOf y_complete y_openNode y_openType y_openCount y_openNames y_openChoice y_output y_todo := by
      intro post w
      unfold wY_over_207
      refine ya_in hL h1 (br_t h2 (nm_r (nI_1 e) ?_))
      rcases Nat.lt_or_ge (e + 1) L with z | z
      · exact ya_in hL z (br_f (fun w => sg ⟨z, Or.inl w⟩) (ya_in hL z (br_f (fun w => sg ⟨z, Or.inr w⟩) w)))
      · exact ya_out hL z (by omega) (br_f (by decide) (ya_out hL z (by omega) (br_f (by decide) w)))
    rcases yo_243 (y_parts := y_parts) (y_bad := y_bad) (y_nodes := y_nodes) (y_fault := y_fault) (y_place := y_place) (y_bound := y_bound) (y_depth := y_depth) (y_nextName := y_nextName) (y_wantsName := y_wantsName) (y_wantsTag := y_wantsTag) (y_printed := y_printed) (y_waiting := y_waiting) (y_scaled := y_scaled) (y_sort := y_sort) (y_typeA := y_typeA) (y_typeB := y_typeB) (y_typeC := y_typeC) (y_fieldName := y_fieldName) (y_fieldType := y_fieldType) (y_fields := y_fields) (y_tags := y_tags) (y_needed := y_needed) (y_text := y_text) (y_begin := y_begin) (y_end := y_end) (y_inside := y_inside) (y_whole := y_whole) (y_kind := y_kind) (y_value := y_value) (y_parent := y_parent) (y_name := y_name) (y_slotOf := y_slotOf) (y_placeOf := y_placeOf) (y_complete := y_complete) (y_openNode := y_openNode) (y_openType := y_openType) (y_openCount := y_openCount) (y_openNames := y_openNames) (y_openChoice := y_openChoice) (y_output := y_output) (y_todo := y_todo) hL hC (s := e + 1) (by omega) with ⟨q, a, b, c, d⟩ | ⟨a, d⟩
    · exact Or.inl ⟨e + 1, q, Or.inr ⟨h1, h2, Or.inl ⟨rfl, sg⟩, a, b, c⟩, fun post hp => walk post (d post hp)⟩
    · exact Or.inr ⟨e + 1, h1, h2, Or.inl ⟨rfl, sg⟩, a, fun post hp => walk post (d post hp)⟩
theorem yo_173 (hL : L ≤ 96) (hC : tt_C y_text) {a : Nat} (ha : a ≤ L) : (∃ e s q, ns_F y_text L a e ∧ ns_E y_text L e s q ∧ ∀ post : Int32 → Prop, post (nI q) → wY_over_173 post (nI a) (nI L) y_parts y_bad y_nodes y_fault y_place y_bound y_depth y_nextName y_wantsName y_wantsTag y_printed y_waiting y_scaled y_sort y_typeA y_typeB y_typeC y_fieldName y_fieldType y_fields y_tags y_needed y_text y_begin y_end y_inside y_whole y_kind y_value y_parent y_name y_slotOf y_placeOf y_complete y_openNode y_openType y_openCount y_openNames y_openChoice y_output y_todo) ∨ (∃ z, ((a < L ∧ y_text a = 18 ∧ z = a + 1 ∧ ns_N y_text L z) ∨ ∃ e, ns_F y_text L a e ∧ e < L ∧ y_text e = 19 ∧ ns_S y_text L e z ∧ ns_N y_text L z) ∧ ∀ post : Int32 → Prop, post (-1 - nI z) → wY_over_173 post (nI a) (nI L) y_parts y_bad y_nodes y_fault y_place y_bound y_depth y_nextName y_wantsName y_wantsTag y_printed y_waiting y_scaled y_sort y_typeA y_typeB y_typeC y_fieldName y_fieldType y_fields y_tags y_needed y_text y_begin y_end y_inside y_whole y_kind y_value y_parent y_name y_slotOf y_placeOf y_complete y_openNode y_openType y_openCount y_openNames y_openChoice y_output y_todo) := by
  by_cases h : a < L ∧ y_text a = 18
  · obtain ⟨h1, h2⟩ := h
    rcases ya_dec y_text L (a + 1) with ⟨b1, b2⟩ | b
    · obtain ⟨e, d1, d2, d3⟩ := ya_ds (y_parts := y_parts) (y_bad := y_bad) (y_nodes := y_nodes) (y_fault := y_fault) (y_place := y_place) (y_bound := y_bound) (y_depth := y_depth) (y_nextName := y_nextName) (y_wantsName := y_wantsName) (y_wantsTag := y_wantsTag) (y_printed := y_printed) (y_waiting := y_waiting) (y_scaled := y_scaled) (y_sort := y_sort) (y_typeA := y_typeA) (y_typeB := y_typeB) (y_typeC := y_typeC) (y_fieldName := y_fieldName) (y_fieldType := y_fieldType) (y_fields := y_fields) (y_tags := y_tags) (y_needed := y_needed) (y_text := y_text) (y_begin := y_begin) (y_end := y_end) (y_inside := y_inside) (y_whole := y_whole) (y_kind := y_kind) (y_value := y_value) (y_parent := y_parent) (y_name := y_name) (y_slotOf := y_slotOf) (y_placeOf := y_placeOf) (y_complete := y_complete) (y_openNode := y_openNode) (y_openType := y_openType) (y_openCount := y_openCount) (y_openNames := y_openNames) (y_openChoice := y_openChoice) (y_output := y_output) (y_todo := y_todo) hL hC (L - (a + 1)) (a + 1) (by omega) (by omega)
      have he : a + 1 < e := by
        rcases Nat.lt_or_ge (a + 1) e with w | w
        · exact w
        · have : e = a + 1 := by have := d1.1; omega
          subst this
          rcases d2 with d2 | d2
          · omega
          · exact absurd d2 (Int32.not_lt.mpr b2)
      have F : ns_F y_text L a e := Or.inr ⟨h1, h2, he, d1, d2⟩
      have walk : ∀ post : Int32 → Prop, wY_over_207 post (nI e) (nI L) y_parts y_bad y_nodes y_fault y_place y_bound y_depth y_nextName y_wantsName y_wantsTag y_printed y_waiting y_scaled y_sort y_typeA y_typeB y_typeC y_fieldName y_fieldType y_fields y_tags y_needed y_text y_begin y_end y_inside y_whole y_kind y_value y_parent y_name y_slotOf y_placeOf y_complete y_openNode y_openType y_openCount y_openNames y_openChoice y_output y_todo → wY_over_173 post (nI a) (nI L) y_parts y_bad y_nodes y_fault y_place y_bound y_depth y_nextName y_wantsName y_wantsTag y_printed y_waiting y_scaled y_sort y_typeA y_typeB y_typeC y_fieldName y_fieldType y_fields y_tags y_needed y_text y_begin y_end y_inside y_whole y_kind y_value y_parent y_name y_slotOf y_placeOf y_complete y_openNode y_openType y_openCount y_openNames y_openChoice y_output y_todo := by
        intro post w
        unfold wY_over_173
        refine ya_in hL h1 (br_t h2 ?_)
        rw [nI_1]
        exact ya_d1 hL hC b1 b2 (br_f (by decide) (d3 _ w))
      rcases yo_207 (y_parts := y_parts) (y_bad := y_bad) (y_nodes := y_nodes) (y_fault := y_fault) (y_place := y_place) (y_bound := y_bound) (y_depth := y_depth) (y_nextName := y_nextName) (y_wantsName := y_wantsName) (y_wantsTag := y_wantsTag) (y_printed := y_printed) (y_waiting := y_waiting) (y_scaled := y_scaled) (y_sort := y_sort) (y_typeA := y_typeA) (y_typeB := y_typeB) (y_typeC := y_typeC) (y_fieldName := y_fieldName) (y_fieldType := y_fieldType) (y_fields := y_fields) (y_tags := y_tags) (y_needed := y_needed) (y_text := y_text) (y_begin := y_begin) (y_end := y_end) (y_inside := y_inside) (y_whole := y_whole) (y_kind := y_kind) (y_value := y_value) (y_parent := y_parent) (y_name := y_name) (y_slotOf := y_slotOf) (y_placeOf := y_placeOf) (y_complete := y_complete) (y_openNode := y_openNode) (y_openType := y_openType) (y_openCount := y_openCount) (y_openNames := y_openNames) (y_openChoice := y_openChoice) (y_output := y_output) (y_todo := y_todo) hL hC (e := e) d1.2.1 with ⟨s, q, x, y⟩ | ⟨s, x1, x2, x3, x4, y⟩
      · exact Or.inl ⟨e, s, q, F, x, fun post hp => walk post (y post hp)⟩
      · exact Or.inr ⟨s, Or.inr ⟨e, F, x1, x2, x3, x4⟩, fun post hp => walk post (y post hp)⟩
    · refine Or.inr ⟨a + 1, Or.inl ⟨h1, h2, rfl, b⟩, fun post hp => ?_⟩
      unfold wY_over_173
      refine ya_in hL h1 (br_t h2 ?_)
      rw [nI_1, hh_sub2]
      exact ya_d0 hL hC (by omega) b (br_t rfl hp)
  · have F : ns_F y_text L a a := Or.inl ⟨h, rfl⟩
    have walk : ∀ post : Int32 → Prop, wY_over_207 post (nI a) (nI L) y_parts y_bad y_nodes y_fault y_place y_bound y_depth y_nextName y_wantsName y_wantsTag y_printed y_waiting y_scaled y_sort y_typeA y_typeB y_typeC y_fieldName y_fieldType y_fields y_tags y_needed y_text y_begin y_end y_inside y_whole y_kind y_value y_parent y_name y_slotOf y_placeOf y_complete y_openNode y_openType y_openCount y_openNames y_openChoice y_output y_todo → wY_over_173 post (nI a) (nI L) y_parts y_bad y_nodes y_fault y_place y_bound y_depth y_nextName y_wantsName y_wantsTag y_printed y_waiting y_scaled y_sort y_typeA y_typeB y_typeC y_fieldName y_fieldType y_fields y_tags y_needed y_text y_begin y_end y_inside y_whole y_kind y_value y_parent y_name y_slotOf y_placeOf y_complete y_openNode y_openType y_openCount y_openNames y_openChoice y_output y_todo := by
      intro post w
      unfold wY_over_173
      rcases Nat.lt_or_ge a L with z | z
      · exact ya_in hL z (br_f (fun q => h ⟨z, q⟩) w)
      · exact ya_out hL z (by omega) (br_f (by decide) w)
    rcases yo_207 (y_parts := y_parts) (y_bad := y_bad) (y_nodes := y_nodes) (y_fault := y_fault) (y_place := y_place) (y_bound := y_bound) (y_depth := y_depth) (y_nextName := y_nextName) (y_wantsName := y_wantsName) (y_wantsTag := y_wantsTag) (y_printed := y_printed) (y_waiting := y_waiting) (y_scaled := y_scaled) (y_sort := y_sort) (y_typeA := y_typeA) (y_typeB := y_typeB) (y_typeC := y_typeC) (y_fieldName := y_fieldName) (y_fieldType := y_fieldType) (y_fields := y_fields) (y_tags := y_tags) (y_needed := y_needed) (y_text := y_text) (y_begin := y_begin) (y_end := y_end) (y_inside := y_inside) (y_whole := y_whole) (y_kind := y_kind) (y_value := y_value) (y_parent := y_parent) (y_name := y_name) (y_slotOf := y_slotOf) (y_placeOf := y_placeOf) (y_complete := y_complete) (y_openNode := y_openNode) (y_openType := y_openType) (y_openCount := y_openCount) (y_openNames := y_openNames) (y_openChoice := y_openChoice) (y_output := y_output) (y_todo := y_todo) hL hC (e := a) ha with ⟨s, q, x, y⟩ | ⟨s, x1, x2, x3, x4, y⟩
    · exact Or.inl ⟨a, s, q, F, x, fun post hp => walk post (y post hp)⟩
    · exact Or.inr ⟨s, Or.inr ⟨a, F, x1, x2, x3, x4⟩, fun post hp => walk post (y post hp)⟩
theorem yo_142 (hL : L ≤ 96) (hC : tt_C y_text) {i : Nat} (hi : i < L) (hd : y_text i ≤ 9) : ∃ a, (y_text i = 0 ∧ a = i + 1 ∨ y_text i ≠ 0 ∧ i < a ∧ ns_D y_text L i a ∧ ns_N y_text L a) ∧ a ≤ L ∧ ∀ post : Int32 → Prop, wY_over_173 post (nI a) (nI L) y_parts y_bad y_nodes y_fault y_place y_bound y_depth y_nextName y_wantsName y_wantsTag y_printed y_waiting y_scaled y_sort y_typeA y_typeB y_typeC y_fieldName y_fieldType y_fields y_tags y_needed y_text y_begin y_end y_inside y_whole y_kind y_value y_parent y_name y_slotOf y_placeOf y_complete y_openNode y_openType y_openCount y_openNames y_openChoice y_output y_todo → wY_over_142 post (nI i) (nI L) y_parts y_bad y_nodes y_fault y_place y_bound y_depth y_nextName y_wantsName y_wantsTag y_printed y_waiting y_scaled y_sort y_typeA y_typeB y_typeC y_fieldName y_fieldType y_fields y_tags y_needed y_text y_begin y_end y_inside y_whole y_kind y_value y_parent y_name y_slotOf y_placeOf y_complete y_openNode y_openType y_openCount y_openNames y_openChoice y_output y_todo := by
  by_cases z : y_text i = 0
  · refine ⟨i + 1, Or.inl ⟨z, rfl⟩, by omega, fun post w => ?_⟩
    unfold wY_over_142
    refine ya_d1 hL hC hi hd (br_f (by decide) (ya_in hL hi (br_t z ?_)))
    rw [nI_1]; exact w
  · obtain ⟨a, h1, h2, h3⟩ := ya_ds (y_parts := y_parts) (y_bad := y_bad) (y_nodes := y_nodes) (y_fault := y_fault) (y_place := y_place) (y_bound := y_bound) (y_depth := y_depth) (y_nextName := y_nextName) (y_wantsName := y_wantsName) (y_wantsTag := y_wantsTag) (y_printed := y_printed) (y_waiting := y_waiting) (y_scaled := y_scaled) (y_sort := y_sort) (y_typeA := y_typeA) (y_typeB := y_typeB) (y_typeC := y_typeC) (y_fieldName := y_fieldName) (y_fieldType := y_fieldType) (y_fields := y_fields) (y_tags := y_tags) (y_needed := y_needed) (y_text := y_text) (y_begin := y_begin) (y_end := y_end) (y_inside := y_inside) (y_whole := y_whole) (y_kind := y_kind) (y_value := y_value) (y_parent := y_parent) (y_name := y_name) (y_slotOf := y_slotOf) (y_placeOf := y_placeOf) (y_complete := y_complete) (y_openNode := y_openNode) (y_openType := y_openType) (y_openCount := y_openCount) (y_openNames := y_openNames) (y_openChoice := y_openChoice) (y_output := y_output) (y_todo := y_todo) hL hC (L - i) i (by omega) (by omega)
    have ha : i < a := by
      rcases Nat.lt_or_ge i a with w | w
      · exact w
      · have : a = i := by have := h1.1; omega
        subst this
        rcases h2 with h2 | h2
        · omega
        · exact absurd h2 (Int32.not_lt.mpr hd)
    exact ⟨a, Or.inr ⟨z, ha, h1, h2⟩, h1.2.1, fun post w => by unfold wY_over_142; exact ya_d1 hL hC hi hd (br_f (by decide) (ya_in hL hi (br_f z (h3 _ w))))⟩
/-- a number: its end, or where it is cut off -/
theorem yo_num (hL : L ≤ 96) (hC : tt_C y_text) {b : Nat} (hb : b < L) (hB : sp_B (y_text b)) : (∃ q, ns_W y_text L b q ∧ ∀ post : Int32 → Prop, post (nI q) → wpY_over post (nI L, y_parts, y_bad, y_nodes, y_fault, y_place, y_bound, y_depth, y_nextName, y_wantsName, y_wantsTag, y_printed, y_waiting, y_scaled, y_sort, y_typeA, y_typeB, y_typeC, y_fieldName, y_fieldType, y_fields, y_tags, y_needed, y_text, y_begin, y_end, y_inside, y_whole, y_kind, y_value, y_parent, y_name, y_slotOf, y_placeOf, y_complete, y_openNode, y_openType, y_openCount, y_openNames, y_openChoice, y_output, y_todo) (nI b)) ∨ (∃ z, ns_X y_text L b z ∧ ∀ post : Int32 → Prop, post (-1 - nI z) → wpY_over post (nI L, y_parts, y_bad, y_nodes, y_fault, y_place, y_bound, y_depth, y_nextName, y_wantsName, y_wantsTag, y_printed, y_waiting, y_scaled, y_sort, y_typeA, y_typeB, y_typeC, y_fieldName, y_fieldType, y_fields, y_tags, y_needed, y_text, y_begin, y_end, y_inside, y_whole, y_kind, y_value, y_parent, y_name, y_slotOf, y_placeOf, y_complete, y_openNode, y_openType, y_openCount, y_openNames, y_openChoice, y_output, y_todo) (nI b)) := by
  have n16 : ¬ y_text b = 16 := by
    intro e
    rw [e] at hB
    rcases hB with h | h
    · exact absurd h.2 (by decide)
    · exact absurd h (by decide)
  have walk : ∀ post : Int32 → Prop, wY_over_133 post (y_text b) (nI b) (nI L) y_parts y_bad y_nodes y_fault y_place y_bound y_depth y_nextName y_wantsName y_wantsTag y_printed y_waiting y_scaled y_sort y_typeA y_typeB y_typeC y_fieldName y_fieldType y_fields y_tags y_needed y_text y_begin y_end y_inside y_whole y_kind y_value y_parent y_name y_slotOf y_placeOf y_complete y_openNode y_openType y_openCount y_openNames y_openChoice y_output y_todo → wpY_over post (nI L, y_parts, y_bad, y_nodes, y_fault, y_place, y_bound, y_depth, y_nextName, y_wantsName, y_wantsTag, y_printed, y_waiting, y_scaled, y_sort, y_typeA, y_typeB, y_typeC, y_fieldName, y_fieldType, y_fields, y_tags, y_needed, y_text, y_begin, y_end, y_inside, y_whole, y_kind, y_value, y_parent, y_name, y_slotOf, y_placeOf, y_complete, y_openNode, y_openType, y_openCount, y_openNames, y_openChoice, y_output, y_todo) (nI b) := by
    intro post w
    unfold wpY_over
    dsimp only
    refine ya_in hL hb (br_f n16 ?_)
    rcases hB with ⟨h1, h2⟩ | h
    · exact br_f (Int32.not_lt.mpr h1) (br_f (Int32.not_lt.mpr h2) (br_f (by decide) w))
    · rw [h] at w ⊢
      exact br_f (by decide) (br_t (by decide) (br_t rfl (br_t rfl w)))
  by_cases c17 : y_text b = 17
  · have w2 : ∀ post : Int32 → Prop, wY_over_142 post (nI (b + 1)) (nI L) y_parts y_bad y_nodes y_fault y_place y_bound y_depth y_nextName y_wantsName y_wantsTag y_printed y_waiting y_scaled y_sort y_typeA y_typeB y_typeC y_fieldName y_fieldType y_fields y_tags y_needed y_text y_begin y_end y_inside y_whole y_kind y_value y_parent y_name y_slotOf y_placeOf y_complete y_openNode y_openType y_openCount y_openNames y_openChoice y_output y_todo → wpY_over post (nI L, y_parts, y_bad, y_nodes, y_fault, y_place, y_bound, y_depth, y_nextName, y_wantsName, y_wantsTag, y_printed, y_waiting, y_scaled, y_sort, y_typeA, y_typeB, y_typeC, y_fieldName, y_fieldType, y_fields, y_tags, y_needed, y_text, y_begin, y_end, y_inside, y_whole, y_kind, y_value, y_parent, y_name, y_slotOf, y_placeOf, y_complete, y_openNode, y_openType, y_openCount, y_openNames, y_openChoice, y_output, y_todo) (nI b) := fun post w => walk post (br_t c17 (nm_r (nI_1 b) w))
    rcases ya_dec y_text L (b + 1) with ⟨d1, d2⟩ | d
    · obtain ⟨a, h1, h2, h3⟩ := yo_142 (y_parts := y_parts) (y_bad := y_bad) (y_nodes := y_nodes) (y_fault := y_fault) (y_place := y_place) (y_bound := y_bound) (y_depth := y_depth) (y_nextName := y_nextName) (y_wantsName := y_wantsName) (y_wantsTag := y_wantsTag) (y_printed := y_printed) (y_waiting := y_waiting) (y_scaled := y_scaled) (y_sort := y_sort) (y_typeA := y_typeA) (y_typeB := y_typeB) (y_typeC := y_typeC) (y_fieldName := y_fieldName) (y_fieldType := y_fieldType) (y_fields := y_fields) (y_tags := y_tags) (y_needed := y_needed) (y_text := y_text) (y_begin := y_begin) (y_end := y_end) (y_inside := y_inside) (y_whole := y_whole) (y_kind := y_kind) (y_value := y_value) (y_parent := y_parent) (y_name := y_name) (y_slotOf := y_slotOf) (y_placeOf := y_placeOf) (y_complete := y_complete) (y_openNode := y_openNode) (y_openType := y_openType) (y_openCount := y_openCount) (y_openNames := y_openNames) (y_openChoice := y_openChoice) (y_output := y_output) (y_todo := y_todo) hL hC d1 d2
      have Ii : ns_I y_text L b (b + 1) a := ⟨Or.inl ⟨c17, rfl⟩, d1, d2, h1⟩
      rcases yo_173 (y_parts := y_parts) (y_bad := y_bad) (y_nodes := y_nodes) (y_fault := y_fault) (y_place := y_place) (y_bound := y_bound) (y_depth := y_depth) (y_nextName := y_nextName) (y_wantsName := y_wantsName) (y_wantsTag := y_wantsTag) (y_printed := y_printed) (y_waiting := y_waiting) (y_scaled := y_scaled) (y_sort := y_sort) (y_typeA := y_typeA) (y_typeB := y_typeB) (y_typeC := y_typeC) (y_fieldName := y_fieldName) (y_fieldType := y_fieldType) (y_fields := y_fields) (y_tags := y_tags) (y_needed := y_needed) (y_text := y_text) (y_begin := y_begin) (y_end := y_end) (y_inside := y_inside) (y_whole := y_whole) (y_kind := y_kind) (y_value := y_value) (y_parent := y_parent) (y_name := y_name) (y_slotOf := y_slotOf) (y_placeOf := y_placeOf) (y_complete := y_complete) (y_openNode := y_openNode) (y_openType := y_openType) (y_openCount := y_openCount) (y_openNames := y_openNames) (y_openChoice := y_openChoice) (y_output := y_output) (y_todo := y_todo) hL hC h2 with ⟨e, s, q, x1, x2, y⟩ | ⟨z, x, y⟩
      · exact Or.inl ⟨q, ⟨_, a, e, s, Ii, x1, x2⟩, fun post hp => w2 post (h3 post (y post hp))⟩
      · refine Or.inr ⟨z, ?_, fun post hp => w2 post (h3 post (y post hp))⟩
        rcases x with ⟨x1, x2, x3, x4⟩ | ⟨e, x1, x2, x3, x4, x5⟩
        · exact Or.inr (Or.inl ⟨_, a, Ii, x1, x2, x3, by rw [← x3]; exact x4⟩)
        · exact Or.inr (Or.inr ⟨_, a, e, Ii, x1, x2, x3, x4, x5⟩)
    · exact Or.inr ⟨b + 1, Or.inl ⟨c17, rfl, d⟩, fun post hp => w2 post (by unfold wY_over_142; exact ya_d0 hL hC (by omega) d (br_t rfl hp))⟩
  · have hd : y_text b ≤ 9 := by
      rcases hB with h | h
      · exact h.2
      · exact absurd h c17
    obtain ⟨a, h1, h2, h3⟩ := yo_142 (y_parts := y_parts) (y_bad := y_bad) (y_nodes := y_nodes) (y_fault := y_fault) (y_place := y_place) (y_bound := y_bound) (y_depth := y_depth) (y_nextName := y_nextName) (y_wantsName := y_wantsName) (y_wantsTag := y_wantsTag) (y_printed := y_printed) (y_waiting := y_waiting) (y_scaled := y_scaled) (y_sort := y_sort) (y_typeA := y_typeA) (y_typeB := y_typeB) (y_typeC := y_typeC) (y_fieldName := y_fieldName) (y_fieldType := y_fieldType) (y_fields := y_fields) (y_tags := y_tags) (y_needed := y_needed) (y_text := y_text) (y_begin := y_begin) (y_end := y_end) (y_inside := y_inside) (y_whole := y_whole) (y_kind := y_kind) (y_value := y_value) (y_parent := y_parent) (y_name := y_name) (y_slotOf := y_slotOf) (y_placeOf := y_placeOf) (y_complete := y_complete) (y_openNode := y_openNode) (y_openType := y_openType) (y_openCount := y_openCount) (y_openNames := y_openNames) (y_openChoice := y_openChoice) (y_output := y_output) (y_todo := y_todo) hL hC hb hd
    have Ii : ns_I y_text L b b a := ⟨Or.inr ⟨hd, rfl⟩, hb, hd, h1⟩
    have w2 : ∀ post : Int32 → Prop, wY_over_142 post (nI b) (nI L) y_parts y_bad y_nodes y_fault y_place y_bound y_depth y_nextName y_wantsName y_wantsTag y_printed y_waiting y_scaled y_sort y_typeA y_typeB y_typeC y_fieldName y_fieldType y_fields y_tags y_needed y_text y_begin y_end y_inside y_whole y_kind y_value y_parent y_name y_slotOf y_placeOf y_complete y_openNode y_openType y_openCount y_openNames y_openChoice y_output y_todo → wpY_over post (nI L, y_parts, y_bad, y_nodes, y_fault, y_place, y_bound, y_depth, y_nextName, y_wantsName, y_wantsTag, y_printed, y_waiting, y_scaled, y_sort, y_typeA, y_typeB, y_typeC, y_fieldName, y_fieldType, y_fields, y_tags, y_needed, y_text, y_begin, y_end, y_inside, y_whole, y_kind, y_value, y_parent, y_name, y_slotOf, y_placeOf, y_complete, y_openNode, y_openType, y_openCount, y_openNames, y_openChoice, y_output, y_todo) (nI b) := fun post w => walk post (br_f c17 w)
    rcases yo_173 (y_parts := y_parts) (y_bad := y_bad) (y_nodes := y_nodes) (y_fault := y_fault) (y_place := y_place) (y_bound := y_bound) (y_depth := y_depth) (y_nextName := y_nextName) (y_wantsName := y_wantsName) (y_wantsTag := y_wantsTag) (y_printed := y_printed) (y_waiting := y_waiting) (y_scaled := y_scaled) (y_sort := y_sort) (y_typeA := y_typeA) (y_typeB := y_typeB) (y_typeC := y_typeC) (y_fieldName := y_fieldName) (y_fieldType := y_fieldType) (y_fields := y_fields) (y_tags := y_tags) (y_needed := y_needed) (y_text := y_text) (y_begin := y_begin) (y_end := y_end) (y_inside := y_inside) (y_whole := y_whole) (y_kind := y_kind) (y_value := y_value) (y_parent := y_parent) (y_name := y_name) (y_slotOf := y_slotOf) (y_placeOf := y_placeOf) (y_complete := y_complete) (y_openNode := y_openNode) (y_openType := y_openType) (y_openCount := y_openCount) (y_openNames := y_openNames) (y_openChoice := y_openChoice) (y_output := y_output) (y_todo := y_todo) hL hC h2 with ⟨e, s, q, x1, x2, y⟩ | ⟨z, x, y⟩
    · exact Or.inl ⟨q, ⟨_, a, e, s, Ii, x1, x2⟩, fun post hp => w2 post (h3 post (y post hp))⟩
    · refine Or.inr ⟨z, ?_, fun post hp => w2 post (h3 post (y post hp))⟩
      rcases x with ⟨x1, x2, x3, x4⟩ | ⟨e, x1, x2, x3, x4, x5⟩
      · exact Or.inr (Or.inl ⟨_, a, Ii, x1, x2, x3, by rw [← x3]; exact x4⟩)
      · exact Or.inr (Or.inr ⟨_, a, e, Ii, x1, x2, x3, x4, x5⟩)
/-- a string -/
theorem yo_s (hL : L ≤ 96) {b : Nat} (hb : b < L) (hB : y_text b = 16) : (∃ q, ss_W y_text L (b + 1) q ∧ ∀ post : Int32 → Prop, post (nI (q + 1)) → wpY_over post (nI L, y_parts, y_bad, y_nodes, y_fault, y_place, y_bound, y_depth, y_nextName, y_wantsName, y_wantsTag, y_printed, y_waiting, y_scaled, y_sort, y_typeA, y_typeB, y_typeC, y_fieldName, y_fieldType, y_fields, y_tags, y_needed, y_text, y_begin, y_end, y_inside, y_whole, y_kind, y_value, y_parent, y_name, y_slotOf, y_placeOf, y_complete, y_openNode, y_openType, y_openCount, y_openNames, y_openChoice, y_output, y_todo) (nI b)) ∨ (∃ q e z, ss_X y_text L (b + 1) q e z ∧ ∀ post : Int32 → Prop, post (-1 - nI z) → wpY_over post (nI L, y_parts, y_bad, y_nodes, y_fault, y_place, y_bound, y_depth, y_nextName, y_wantsName, y_wantsTag, y_printed, y_waiting, y_scaled, y_sort, y_typeA, y_typeB, y_typeC, y_fieldName, y_fieldType, y_fields, y_tags, y_needed, y_text, y_begin, y_end, y_inside, y_whole, y_kind, y_value, y_parent, y_name, y_slotOf, y_placeOf, y_complete, y_openNode, y_openType, y_openCount, y_openNames, y_openChoice, y_output, y_todo) (nI b)) := by
  rcases yo_str (y_parts := y_parts) (y_bad := y_bad) (y_nodes := y_nodes) (y_fault := y_fault) (y_place := y_place) (y_bound := y_bound) (y_depth := y_depth) (y_nextName := y_nextName) (y_wantsName := y_wantsName) (y_wantsTag := y_wantsTag) (y_printed := y_printed) (y_waiting := y_waiting) (y_scaled := y_scaled) (y_sort := y_sort) (y_typeA := y_typeA) (y_typeB := y_typeB) (y_typeC := y_typeC) (y_fieldName := y_fieldName) (y_fieldType := y_fieldType) (y_fields := y_fields) (y_tags := y_tags) (y_needed := y_needed) (y_text := y_text) (y_begin := y_begin) (y_end := y_end) (y_inside := y_inside) (y_whole := y_whole) (y_kind := y_kind) (y_value := y_value) (y_parent := y_parent) (y_name := y_name) (y_slotOf := y_slotOf) (y_placeOf := y_placeOf) (y_complete := y_complete) (y_openNode := y_openNode) (y_openType := y_openType) (y_openCount := y_openCount) (y_openNames := y_openNames) (y_openChoice := y_openChoice) (y_output := y_output) (y_todo := y_todo) hL (by omega) (L - b) (b + 1) (by omega) (by omega) with ⟨q, x, y⟩ | ⟨q, e, z, x, y⟩
  · exact Or.inl ⟨q, x, fun post hp => by unfold wpY_over; dsimp only; exact ya_in hL hb (br_t hB (nm_r (nI_1 b) (y post hp)))⟩
  · exact Or.inr ⟨q, e, z, x, fun post hp => by unfold wpY_over; dsimp only; exact ya_in hL hb (br_t hB (nm_r (nI_1 b) (y post hp)))⟩
/-- any other character -/
theorem yo_1 (hL : L ≤ 96) (hC : tt_C y_text) {b : Nat} (hb : b < L) (h16 : ¬ y_text b = 16) (hB : ¬ sp_B (y_text b)) (post : Int32 → Prop) (hp : post (nI (b + 1))) : wpY_over post (nI L, y_parts, y_bad, y_nodes, y_fault, y_place, y_bound, y_depth, y_nextName, y_wantsName, y_wantsTag, y_printed, y_waiting, y_scaled, y_sort, y_typeA, y_typeB, y_typeC, y_fieldName, y_fieldType, y_fields, y_tags, y_needed, y_text, y_begin, y_end, y_inside, y_whole, y_kind, y_value, y_parent, y_name, y_slotOf, y_placeOf, y_complete, y_openNode, y_openType, y_openCount, y_openNames, y_openChoice, y_output, y_todo) (nI b) := by
  have h0 := tt_lo hC b
  have h9 : 9 < y_text b := Int32.not_le.mp (fun w => hB (Or.inl ⟨Int32.not_lt.mp h0, w⟩))
  unfold wpY_over
  dsimp only
  refine ya_in hL hb (br_f h16 (br_f h0 (br_t h9 (br_t rfl (br_f (fun w => hB (Or.inr w)) ?_)))))
  rw [nI_1]; exact hp
end
end
section
/-! the reference's split -/
theorem ys_skip (t : Nat → Int32) (L : Nat) : ∀ m p, L ≤ p + m → p ≤ L → ∃ b, p ≤ b ∧ b ≤ L ∧ (∀ i, p ≤ i → i < b → t i = 20) ∧ (b < L → t b ≠ 20) := by
  intro m
  induction m with
  | zero => intro p h1 h2; exact ⟨p, Nat.le_refl _, h2, fun i a b => absurd b (by omega), fun w => absurd w (by omega)⟩
  | succ m ih =>
    intro p h1 h2
    by_cases z : p < L ∧ t p = 20
    · obtain ⟨b, h3, h4, h5, h6⟩ := ih (p + 1) (by omega) (by omega)
      refine ⟨b, by omega, h4, fun i a c => ?_, h6⟩
      rcases Nat.lt_or_ge p i with w | w
      · exact h5 i w c
      · have : i = p := by omega
        subst this; exact z.2
    · exact ⟨p, Nat.le_refl _, h2, fun i a b => absurd b (by omega), fun w e => z ⟨w, e⟩⟩
theorem ys_sv {post : Int32 → Prop} {c : Int32} (h1 : sp_V c → post 1) (h0 : ¬ sp_V c → post 0) : wpY_startsValue post c := by
  have k : ∀ n : Nat, n < 100 → (nI n).toInt = n := fun n hn => nI_toInt (by omega)
  have k9 := k 9 (by decide); have k10 := k 10 (by decide); have k16 := k 16 (by decide); have k17 := k 17 (by decide)
  have k27 := k 27 (by decide); have k28 := k 28 (by decide); have k29 := k 29 (by decide); have k0 := k 0 (by decide); have k12 := k 12 (by decide)
  by_cases a : c < 0
  · refine br_t a (br_t rfl ?_)
    have n : ¬ sp_V c := by
      intro w
      rw [Int32.lt_iff_toInt_lt] at a
      rcases w with w | rfl | rfl | rfl | rfl | rfl | rfl | rfl
      · have := w.1; rw [Int32.le_iff_toInt_le] at this; omega
      all_goals exact absurd a (by decide)
    refine br_f (fun e => n (Or.inr (Or.inr (Or.inl e)))) ?_
    have a16 : c < 16 := Int32.lt_trans a (by decide)
    have a27 : c < 27 := Int32.lt_trans a (by decide)
    exact br_t a16 (br_t rfl (br_t a27 (br_t rfl (h0 n))))
  by_cases b : 10 < c
  case neg =>
    refine br_f a (br_f b (br_f (by decide) (h1 ?_)))
    by_cases e : c = 10
    · exact Or.inr (Or.inl e)
    · refine Or.inl ⟨Int32.not_lt.mp a, ?_⟩
      rw [Int32.lt_iff_toInt_lt] at b
      rw [← Int32.toInt_inj] at e
      rw [Int32.le_iff_toInt_le]
      have x9 : (9 : Int32).toInt = 9 := by decide
      have x10 : (10 : Int32).toInt = 10 := by decide
      omega
  refine br_f a (br_t b (br_t rfl ?_))
  by_cases e12 : c = 12
  · exact br_t e12 (h1 (Or.inr (Or.inr (Or.inl e12))))
  refine br_f e12 ?_
  have x9 : (9 : Int32).toInt = 9 := by decide
  have x10 : (10 : Int32).toInt = 10 := by decide
  have x16 : (16 : Int32).toInt = 16 := by decide
  have x17 : (17 : Int32).toInt = 17 := by decide
  have x27 : (27 : Int32).toInt = 27 := by decide
  have x28 : (28 : Int32).toInt = 28 := by decide
  have x29 : (29 : Int32).toInt = 29 := by decide
  by_cases p1 : c < 16
  · have n : ¬ sp_V c := by
      intro w
      rw [Int32.lt_iff_toInt_lt] at p1 b
      rcases w with w | rfl | rfl | rfl | rfl | rfl | rfl | rfl
      · have := w.2; rw [Int32.le_iff_toInt_le] at this; omega
      · exact absurd b (by decide)
      · exact e12 rfl
      all_goals exact absurd p1 (by decide)
    exact br_t p1 (br_t rfl (br_t (Int32.lt_trans p1 (by decide)) (br_t rfl (h0 n))))
  by_cases p2 : 17 < c
  case neg =>
    refine br_f p1 (br_f p2 (br_f (by decide) (h1 ?_)))
    by_cases e : c = 16
    · exact Or.inr (Or.inr (Or.inr (Or.inl e)))
    · refine Or.inr (Or.inr (Or.inr (Or.inr (Or.inl ?_))))
      rw [Int32.lt_iff_toInt_lt] at p1 p2
      rw [← Int32.toInt_inj] at e ⊢
      omega
  refine br_f p1 (br_t p2 (br_t rfl ?_))
  by_cases p3 : c < 27
  · have n : ¬ sp_V c := by
      intro w
      rw [Int32.lt_iff_toInt_lt] at p3 p2
      rcases w with w | rfl | rfl | rfl | rfl | rfl | rfl | rfl
      · have := w.2; rw [Int32.le_iff_toInt_le] at this; omega
      · exact absurd p2 (by decide)
      · exact e12 rfl
      · exact absurd p2 (by decide)
      · exact absurd p2 (by decide)
      all_goals exact absurd p3 (by decide)
    exact br_t p3 (br_t rfl (h0 n))
  by_cases p4 : 29 < c
  · have n : ¬ sp_V c := by
      intro w
      rw [Int32.lt_iff_toInt_lt] at p4
      rcases w with w | rfl | rfl | rfl | rfl | rfl | rfl | rfl
      · have := w.2; rw [Int32.le_iff_toInt_le] at this; omega
      all_goals exact absurd p4 (by decide)
    exact br_f p3 (br_t p4 (br_t rfl (h0 n)))
  refine br_f p3 (br_f p4 (br_f (by decide) (h1 ?_)))
  rw [Int32.lt_iff_toInt_lt] at p3 p4
  have : c.toInt = 27 ∨ c.toInt = 28 ∨ c.toInt = 29 := by omega
  rcases this with e | e | e
  · exact Or.inr (Or.inr (Or.inr (Or.inr (Or.inr (Or.inl (Int32.toInt_inj.mp (e.trans x27.symm)))))))
  · exact Or.inr (Or.inr (Or.inr (Or.inr (Or.inr (Or.inr (Or.inl (Int32.toInt_inj.mp (e.trans x28.symm))))))))
  · exact Or.inr (Or.inr (Or.inr (Or.inr (Or.inr (Or.inr (Or.inr (Int32.toInt_inj.mp (e.trans x29.symm))))))))
section
variable {y_nodes y_fault y_place y_bound y_depth y_nextName y_wantsName y_wantsTag y_printed y_waiting y_scaled : Int32} {y_sort y_typeA y_typeB y_typeC y_fieldName y_fieldType y_fields y_tags y_needed y_text y_kind y_value y_parent y_name y_slotOf y_placeOf y_complete y_openNode y_openType y_openCount y_openNames y_openChoice y_output y_todo : Nat → Int32} {L k x d : Nat} {bg en wh g : Nat → Int32} {post : SY → Prop} {J : Int32 → Int32 → Int32 → Int32 → Int32 → (Nat → Int32) → (Nat → Int32) → (Nat → Int32) → (Nat → Int32) → (Nat → Int32) → (Nat → Int32) → (Nat → Int32) → (Nat → Int32) → (Nat → Int32) → (Nat → Int32) → (Nat → Int32) → (Nat → Int32) → (Nat → Int32) → (Nat → Int32) → (Nat → Int32) → (Nat → Int32) → (Nat → Int32) → (Nat → Int32) → (Nat → Int32) → (Nat → Int32) → (Nat → Int32) → (Nat → Int32) → (Nat → Int32) → (Nat → Int32) → (Nat → Int32) → (Nat → Int32) → (Nat → Int32) → (Nat → Int32) → Prop}
theorem ys_23s (hL : L ≤ 96) (n : Nat) : ∀ m p b, p + m = b → b ≤ L → (∀ i, p ≤ i → i < b → y_text i = 20) → wY_split_23 post J (nI d) (nI x) (nI L) (nI k) (-1) y_nodes y_fault y_place y_bound y_depth y_nextName y_wantsName y_wantsTag y_printed y_waiting y_scaled y_sort y_typeA y_typeB y_typeC y_fieldName y_fieldType y_fields y_tags y_needed y_text bg en g wh y_kind y_value y_parent y_name y_slotOf y_placeOf y_complete y_openNode y_openType y_openCount y_openNames y_openChoice y_output y_todo n (nI b) → wY_split_23 post J (nI d) (nI x) (nI L) (nI k) (-1) y_nodes y_fault y_place y_bound y_depth y_nextName y_wantsName y_wantsTag y_printed y_waiting y_scaled y_sort y_typeA y_typeB y_typeC y_fieldName y_fieldType y_fields y_tags y_needed y_text bg en g wh y_kind y_value y_parent y_name y_slotOf y_placeOf y_complete y_openNode y_openType y_openCount y_openNames y_openChoice y_output y_todo (n + m) (nI p) := by
  intro m
  induction m with
  | zero =>
    intro p b h1 h2 h3 h
    have : p = b := by omega
    subst this; exact h
  | succ m ih =>
    intro p b h1 h2 h3 h
    show wY_split_23 post J (nI d) (nI x) (nI L) (nI k) (-1) y_nodes y_fault y_place y_bound y_depth y_nextName y_wantsName y_wantsTag y_printed y_waiting y_scaled y_sort y_typeA y_typeB y_typeC y_fieldName y_fieldType y_fields y_tags y_needed y_text bg en g wh y_kind y_value y_parent y_name y_slotOf y_placeOf y_complete y_openNode y_openType y_openCount y_openNames y_openChoice y_output y_todo (n + m + 1) (nI p)
    rw [wY_split_23]
    exact ya_in hL (by omega) (br_t (h3 p (by omega) (by omega)) (nm_r (nI_1 p) (ih (p + 1) b (by omega) h2 (fun i a c => h3 i (by omega) c) h)))
theorem ys_23c (hL : L ≤ 96) {b n : Nat} {c : Int32} (hb : b ≤ L) (hc : tt_at y_text L b = c) (h20 : ¬ c = 20) (hx : x ≤ 5) (hd : d ≤ 96)
    (h1 : sp_C x d g c → wY_split_123 post J (nI d) (nI x) (nI b) c 1 (nI L) (nI k) (-1) y_nodes y_fault y_place y_bound y_depth y_nextName y_wantsName y_wantsTag y_printed y_waiting y_scaled y_sort y_typeA y_typeB y_typeC y_fieldName y_fieldType y_fields y_tags y_needed y_text bg en g wh y_kind y_value y_parent y_name y_slotOf y_placeOf y_complete y_openNode y_openType y_openCount y_openNames y_openChoice y_output y_todo) (h0 : ¬ sp_C x d g c → wY_split_123 post J (nI d) (nI x) (nI b) c 0 (nI L) (nI k) (-1) y_nodes y_fault y_place y_bound y_depth y_nextName y_wantsName y_wantsTag y_printed y_waiting y_scaled y_sort y_typeA y_typeB y_typeC y_fieldName y_fieldType y_fields y_tags y_needed y_text bg en g wh y_kind y_value y_parent y_name y_slotOf y_placeOf y_complete y_openNode y_openType y_openCount y_openNames y_openChoice y_output y_todo) : wY_split_23 post J (nI d) (nI x) (nI L) (nI k) (-1) y_nodes y_fault y_place y_bound y_depth y_nextName y_wantsName y_wantsTag y_printed y_waiting y_scaled y_sort y_typeA y_typeB y_typeC y_fieldName y_fieldType y_fields y_tags y_needed y_text bg en g wh y_kind y_value y_parent y_name y_slotOf y_placeOf y_complete y_openNode y_openType y_openCount y_openNames y_openChoice y_output y_todo (n + 1) (nI b) := by
  rw [wY_split_23]
  refine ya_at hL (by omega) ?_
  rw [hc]
  refine br_f h20 (ya_at hL (by omega) ?_)
  rw [hc]
  have ed : (nI d).toNatClampNeg = d := nI_clamp (by omega)
  by_cases c13 : c = 13
  · have n11 : ¬ c = 11 := by rw [c13]; decide
    refine br_t c13 (pk_eq x 1 (fun e => h1 (Or.inl ⟨c13, Or.inl e⟩)) (fun e => pk_eq x 5 (fun e5 => pk_le d 0 (fun w => h0 ?_) (fun w => ⟨vp_in_nI (by omega) (by decide), ?_⟩)) (fun e5 => h0 ?_)))
    · rintro (⟨-, w1 | w1⟩ | ⟨w1, -⟩)
      · omega
      · omega
      · exact n11 w1
    · rw [ed]
      by_cases q : g d = 12
      · exact br_t q (h1 (Or.inl ⟨c13, Or.inr ⟨e5, w, q⟩⟩))
      · refine br_f q (h0 ?_)
        rintro (⟨-, w1 | w1⟩ | ⟨w1, -⟩)
        · omega
        · exact q w1.2.2
        · exact n11 w1
    · rintro (⟨-, w1 | w1⟩ | ⟨w1, -⟩)
      · omega
      · omega
      · exact n11 w1
  · refine br_f c13 ?_
    by_cases c11 : c = 11
    · refine br_t c11 (pk_eq x 2 (fun e => h1 (Or.inr ⟨c11, Or.inl e⟩)) (fun e => pk_eq x 5 (fun e5 => pk_le d 0 (fun w => h0 ?_) (fun w => ⟨vp_in_nI (by omega) (by decide), ?_⟩)) (fun e5 => h0 ?_)))
      · rintro (⟨w1, -⟩ | ⟨-, w1 | w1⟩)
        · exact c13 w1
        · omega
        · omega
      · rw [ed]
        by_cases q : g d = 10
        · exact br_t q (h1 (Or.inr ⟨c11, Or.inr ⟨e5, w, q⟩⟩))
        · refine br_f q (h0 ?_)
          rintro (⟨w1, -⟩ | ⟨-, w1 | w1⟩)
          · exact c13 w1
          · omega
          · exact q w1.2.2
      · rintro (⟨w1, -⟩ | ⟨-, w1 | w1⟩)
        · exact c13 w1
        · omega
        · omega
    · refine br_f c11 (h0 ?_)
      rintro (⟨w1, -⟩ | ⟨w1, -⟩)
      · exact c13 w1
      · exact c11 w1
theorem ys_123 {b : Nat} {c : Int32} (hx : x ≤ 5) (hd : d ≤ 96)
    (h1 : sp_Q x d c → wY_split_192 post J (nI d) (nI x) (nI b) c 0 1 (nI L) (nI k) (-1) y_nodes y_fault y_place y_bound y_depth y_nextName y_wantsName y_wantsTag y_printed y_waiting y_scaled y_sort y_typeA y_typeB y_typeC y_fieldName y_fieldType y_fields y_tags y_needed y_text bg en g wh y_kind y_value y_parent y_name y_slotOf y_placeOf y_complete y_openNode y_openType y_openCount y_openNames y_openChoice y_output y_todo) (h0 : ¬ sp_Q x d c → wY_split_192 post J (nI d) (nI x) (nI b) c 0 0 (nI L) (nI k) (-1) y_nodes y_fault y_place y_bound y_depth y_nextName y_wantsName y_wantsTag y_printed y_waiting y_scaled y_sort y_typeA y_typeB y_typeC y_fieldName y_fieldType y_fields y_tags y_needed y_text bg en g wh y_kind y_value y_parent y_name y_slotOf y_placeOf y_complete y_openNode y_openType y_openCount y_openNames y_openChoice y_output y_todo) : wY_split_123 post J (nI d) (nI x) (nI b) c 0 (nI L) (nI k) (-1) y_nodes y_fault y_place y_bound y_depth y_nextName y_wantsName y_wantsTag y_printed y_waiting y_scaled y_sort y_typeA y_typeB y_typeC y_fieldName y_fieldType y_fields y_tags y_needed y_text bg en g wh y_kind y_value y_parent y_name y_slotOf y_placeOf y_complete y_openNode y_openType y_openCount y_openNames y_openChoice y_output y_todo := by
  unfold wY_split_123
  refine br_t rfl (pk_le 2 x (fun a => pk_le 4 x (fun a4 => pk_eq x 4 (fun e => ?_) (fun e => ?_)) (fun a4 => ?_)) (fun a => ?_))
  · by_cases q : c = 14
    · exact br_t q (h1 (Or.inr (Or.inr (Or.inl ⟨e, q⟩))))
    · refine br_f q (h0 ?_)
      rintro (w | w | w | w)
      · omega
      · omega
      · exact q w.2
      · omega
  · by_cases q : c = 15
    · refine br_t q (pk_le d 0 (fun w => h0 ?_) (fun w => h1 (Or.inr (Or.inr (Or.inr ⟨by omega, q, w⟩)))))
      rintro (w | w | w | w) <;> omega
    · refine br_f q (h0 ?_)
      rintro (w | w | w | w)
      · omega
      · omega
      · omega
      · exact q w.2.1
  · by_cases q : c = 16
    · exact br_t q (h1 (Or.inr (Or.inl ⟨by omega, q⟩)))
    · refine br_f q (h0 ?_)
      rintro (w | w | w | w)
      · omega
      · exact q w.2
      · omega
      · omega
  · refine ys_sv (fun v => br_f (by decide) (h1 (Or.inl ⟨a, v⟩))) (fun v => br_t rfl (h0 ?_))
    rintro (w | w | w | w)
    · exact v w.2
    · omega
    · omega
    · omega
/-- a character that fits -/
theorem ys_fit (hL : L ≤ 96) (hC : tt_C y_text) {b n : Nat} {z : Int32} (hb : b < L) (h20 : ¬ y_text b = 20) (hx : x ≤ 5) (hd : d ≤ 96) (hT : sp_T x d g (y_text b)) (hz : z = 1 ∧ sp_C x d g (y_text b) ∨ z = 0 ∧ ¬ sp_C x d g (y_text b))
    (h : wY_split_209 post J (nI d) (nI x) (nI b) (y_text b) z 1 (nI L) (nI k) (-1) y_nodes y_fault y_place y_bound y_depth y_nextName y_wantsName y_wantsTag y_printed y_waiting y_scaled y_sort y_typeA y_typeB y_typeC y_fieldName y_fieldType y_fields y_tags y_needed y_text bg en g wh y_kind y_value y_parent y_name y_slotOf y_placeOf y_complete y_openNode y_openType y_openCount y_openNames y_openChoice y_output y_todo) : wY_split_23 post J (nI d) (nI x) (nI L) (nI k) (-1) y_nodes y_fault y_place y_bound y_depth y_nextName y_wantsName y_wantsTag y_printed y_waiting y_scaled y_sort y_typeA y_typeB y_typeC y_fieldName y_fieldType y_fields y_tags y_needed y_text bg en g wh y_kind y_value y_parent y_name y_slotOf y_placeOf y_complete y_openNode y_openType y_openCount y_openNames y_openChoice y_output y_todo (n + 1) (nI b) := by
  have c0 : 0 ≤ y_text b := Int32.not_lt.mp (tt_lo hC b)
  refine ys_23c hL (by omega) (tt_in hb) h20 hx hd (fun w => ?_) (fun w => ?_)
  · rcases hz with ⟨rfl, -⟩ | ⟨-, q⟩
    · exact br_f (by decide) (br_t c0 h)
    · exact absurd w q
  · rcases hz with ⟨-, q⟩ | ⟨rfl, -⟩
    · exact absurd q w
    · exact ys_123 hx hd (fun _ => br_t c0 h) (fun q => absurd (hT.resolve_left w) q)
/-- a character that does not fit -/
theorem ys_mis (hL : L ≤ 96) (hC : tt_C y_text) {b n : Nat} (hb : b < L) (h20 : ¬ y_text b = 20) (hx : x ≤ 5) (hd : d ≤ 96) (hT : ¬ sp_T x d g (y_text b))
    (h : post (nI L, nI k, nI b, y_nodes, y_fault, y_place, y_bound, y_depth, y_nextName, y_wantsName, y_wantsTag, y_printed, y_waiting, y_scaled, y_sort, y_typeA, y_typeB, y_typeC, y_fieldName, y_fieldType, y_fields, y_tags, y_needed, y_text, bg, en, g, wh, y_kind, y_value, y_parent, y_name, y_slotOf, y_placeOf, y_complete, y_openNode, y_openType, y_openCount, y_openNames, y_openChoice, y_output, y_todo)) : wY_split_23 post J (nI d) (nI x) (nI L) (nI k) (-1) y_nodes y_fault y_place y_bound y_depth y_nextName y_wantsName y_wantsTag y_printed y_waiting y_scaled y_sort y_typeA y_typeB y_typeC y_fieldName y_fieldType y_fields y_tags y_needed y_text bg en g wh y_kind y_value y_parent y_name y_slotOf y_placeOf y_complete y_openNode y_openType y_openCount y_openNames y_openChoice y_output y_todo (n + 1) (nI b) := by
  have c0 : 0 ≤ y_text b := Int32.not_lt.mp (tt_lo hC b)
  exact ys_23c hL (by omega) (tt_in hb) h20 hx hd (fun w => absurd (Or.inl w) hT) (fun _ => ys_123 hx hd (fun q => absurd (Or.inr q) hT) (fun _ => br_t c0 (br_t rfl h)))
theorem sp_T_m1 : ¬ sp_T x d g (-1) := by
  rintro ((w | w) | (w | w | w | w))
  · exact absurd w.1 (by decide)
  · exact absurd w.1 (by decide)
  · rcases w.2 with v | v | v | v | v | v | v | v
    · exact absurd v.1 (by decide)
    all_goals exact absurd v (by decide)
  · exact absurd w.2 (by decide)
  · exact absurd w.2 (by decide)
  · exact absurd w.2.1 (by decide)
/-- the end of the text -/
theorem ys_end (hL : L ≤ 96) {n : Nat} (hx : x ≤ 5) (hd : d ≤ 96)
    (h1 : x = 5 ∧ d = 0 → post (nI L, nI k, -1, y_nodes, y_fault, y_place, y_bound, y_depth, y_nextName, y_wantsName, y_wantsTag, y_printed, y_waiting, y_scaled, y_sort, y_typeA, y_typeB, y_typeC, y_fieldName, y_fieldType, y_fields, y_tags, y_needed, y_text, bg, en, g, wh, y_kind, y_value, y_parent, y_name, y_slotOf, y_placeOf, y_complete, y_openNode, y_openType, y_openCount, y_openNames, y_openChoice, y_output, y_todo))
    (h0 : ¬ (x = 5 ∧ d = 0) → post (nI L, nI k, nI L, y_nodes, y_fault, y_place, y_bound, y_depth, y_nextName, y_wantsName, y_wantsTag, y_printed, y_waiting, y_scaled, y_sort, y_typeA, y_typeB, y_typeC, y_fieldName, y_fieldType, y_fields, y_tags, y_needed, y_text, bg, en, g, wh, y_kind, y_value, y_parent, y_name, y_slotOf, y_placeOf, y_complete, y_openNode, y_openType, y_openCount, y_openNames, y_openChoice, y_output, y_todo)) : wY_split_23 post J (nI d) (nI x) (nI L) (nI k) (-1) y_nodes y_fault y_place y_bound y_depth y_nextName y_wantsName y_wantsTag y_printed y_waiting y_scaled y_sort y_typeA y_typeB y_typeC y_fieldName y_fieldType y_fields y_tags y_needed y_text bg en g wh y_kind y_value y_parent y_name y_slotOf y_placeOf y_complete y_openNode y_openType y_openCount y_openNames y_openChoice y_output y_todo (n + 1) (nI L) := by
  refine ys_23c hL (Nat.le_refl _) (tt_out (Nat.le_refl _)) (by decide) hx hd (fun w => absurd (a := sp_T x d g (-1)) (Or.inl w) sp_T_m1) (fun _ => ys_123 hx hd (fun q => absurd (a := sp_T x d g (-1)) (Or.inr q) sp_T_m1) (fun _ => br_f (by decide) (pk_eq x 5 (fun e5 => pk_eq d 0 (fun e0 => h1 ⟨e5, e0⟩) (fun e0 => br_t rfl (h0 (fun w => e0 w.2)))) (fun e5 => br_t rfl (h0 (fun w => e5 w.1))))))
/-- a part, whole -/
theorem ys_209w {b q : Nat} {c z : Int32} (hk : k < 96) (hq : q < 96) (ho : ∀ Q : Int32 → Prop, Q (nI (q + 1)) → wpY_over Q (nI L, nI k, -1, y_nodes, y_fault, y_place, y_bound, y_depth, y_nextName, y_wantsName, y_wantsTag, y_printed, y_waiting, y_scaled, y_sort, y_typeA, y_typeB, y_typeC, y_fieldName, y_fieldType, y_fields, y_tags, y_needed, y_text, bg, en, g, wh, y_kind, y_value, y_parent, y_name, y_slotOf, y_placeOf, y_complete, y_openNode, y_openType, y_openCount, y_openNames, y_openChoice, y_output, y_todo) (nI b))
    (h : wY_split_306 post J (nI d) (nI x) c z (nI (q + 1)) (-1) (nI L) (nI (k + 1)) (-1) y_nodes y_fault y_place y_bound y_depth y_nextName y_wantsName y_wantsTag y_printed y_waiting y_scaled y_sort y_typeA y_typeB y_typeC y_fieldName y_fieldType y_fields y_tags y_needed y_text (upd bg k (nI b)) (upd en k (nI q)) g (upd wh k 1) y_kind y_value y_parent y_name y_slotOf y_placeOf y_complete y_openNode y_openType y_openCount y_openNames y_openChoice y_output y_todo) : wY_split_209 post J (nI d) (nI x) (nI b) c z 1 (nI L) (nI k) (-1) y_nodes y_fault y_place y_bound y_depth y_nextName y_wantsName y_wantsTag y_printed y_waiting y_scaled y_sort y_typeA y_typeB y_typeC y_fieldName y_fieldType y_fields y_tags y_needed y_text bg en g wh y_kind y_value y_parent y_name y_slotOf y_placeOf y_complete y_openNode y_openType y_openCount y_openNames y_openChoice y_output y_todo := by
  have ek : (nI k).toNatClampNeg = k := nI_clamp (by omega)
  have ik : vp_in (nI k) 96 := vp_in_nI hk (by decide)
  have i0 : ¬ nI (q + 1) < 0 := nI_pos (by omega)
  refine br_f (by decide) (ho _ ⟨ik, nm_e (br_f i0 ⟨ik, nm_e (br_f i0 ⟨ik, nm_e (nm_r (nI_1 k) (br_t (Int32.not_lt.mp i0) ?_))⟩)⟩)⟩)
  rw [ek, nI_pred, show vp_nar FieldType.boolean 1 = 1 from rfl]
  exact h
theorem hh_c1 (z : Nat) : (-1 : Int32) - (-1 - nI z) = nI z := by grind
theorem hh_c2 (z : Nat) : (-2 : Int32) - (-1 - nI (z + 1)) = nI z := by
  rw [← nI_1]
  have : (-2 : Int32) = -1 - 1 := by decide
  rw [this]; grind
theorem hh_c3 {z : Nat} (h : z < 1000) : (-1 : Int32) - nI z < 0 := by
  rw [show (-1 : Int32) = ii_I (-1) from rfl, ← ii_nat, ii_sub, show (0 : Int32) = ii_I 0 from rfl, ii_lt (by omega) (by omega) (by omega) (by omega)]
  omega
/-- the last part, cut off -/
theorem ys_209x {b q : Nat} {c z : Int32} (hk : k < 96) (hq : q < 96) (ho : ∀ Q : Int32 → Prop, Q (-1 - nI (q + 1)) → wpY_over Q (nI L, nI k, -1, y_nodes, y_fault, y_place, y_bound, y_depth, y_nextName, y_wantsName, y_wantsTag, y_printed, y_waiting, y_scaled, y_sort, y_typeA, y_typeB, y_typeC, y_fieldName, y_fieldType, y_fields, y_tags, y_needed, y_text, bg, en, g, wh, y_kind, y_value, y_parent, y_name, y_slotOf, y_placeOf, y_complete, y_openNode, y_openType, y_openCount, y_openNames, y_openChoice, y_output, y_todo) (nI b))
    (h : wY_split_306 post J (nI d) (nI x) c z (-1 - nI (q + 1)) (nI (q + 1)) (nI L) (nI (k + 1)) (-1) y_nodes y_fault y_place y_bound y_depth y_nextName y_wantsName y_wantsTag y_printed y_waiting y_scaled y_sort y_typeA y_typeB y_typeC y_fieldName y_fieldType y_fields y_tags y_needed y_text (upd bg k (nI b)) (upd en k (nI q)) g (upd wh k 0) y_kind y_value y_parent y_name y_slotOf y_placeOf y_complete y_openNode y_openType y_openCount y_openNames y_openChoice y_output y_todo) : wY_split_209 post J (nI d) (nI x) (nI b) c z 1 (nI L) (nI k) (-1) y_nodes y_fault y_place y_bound y_depth y_nextName y_wantsName y_wantsTag y_printed y_waiting y_scaled y_sort y_typeA y_typeB y_typeC y_fieldName y_fieldType y_fields y_tags y_needed y_text bg en g wh y_kind y_value y_parent y_name y_slotOf y_placeOf y_complete y_openNode y_openType y_openCount y_openNames y_openChoice y_output y_todo := by
  have ek : (nI k).toNatClampNeg = k := nI_clamp (by omega)
  have ik : vp_in (nI k) 96 := vp_in_nI hk (by decide)
  have i0 : (-1 : Int32) - nI (q + 1) < 0 := hh_c3 (by omega)
  refine br_f (by decide) (ho _ ⟨ik, nm_e (br_t i0 ⟨ik, nm_e (br_t i0 ⟨ik, nm_e (nm_r (nI_1 k) (br_f (Int32.not_le.mpr i0) ?_))⟩)⟩)⟩)
  rw [ek, hh_c2, hh_c1, show vp_nar FieldType.boolean 0 = 0 from rfl]
  exact h
end
end
section
/-! the reference's split: the whole run -/
theorem ss_X_e {t : Nat → Int32} {L i q e z : Nat} (h : ss_X t L i q e z) : z = e + 1 ∧ z ≤ L := by
  rcases h.2 with ⟨-, a, b⟩ | ⟨a, -, b, c⟩ | ⟨a, -, -, -, b, c⟩ <;> omega
theorem ss_G_lt {t : Nat → Int32} {L i j : Nat} (h : ss_G t L i j) : i < j ∧ j ≤ L := by
  rcases h with ⟨a, -, -, b⟩ | ⟨a, -, -, b⟩ <;> omega
theorem ss_R_le {t : Nat → Int32} {L : Nat} : ∀ {m i q : Nat}, ss_R t L m i q → i ≤ q
  | 0, _, _, h => Nat.le_of_eq h
  | m + 1, i, q, ⟨j, hj, h⟩ => Nat.le_trans (Nat.le_of_lt (ss_G_lt hj).1) (ss_R_le h)
section
variable {y_nodes y_fault y_place y_bound y_depth y_nextName y_wantsName y_wantsTag y_printed y_waiting y_scaled : Int32} {y_sort y_typeA y_typeB y_typeC y_fieldName y_fieldType y_fields y_tags y_needed y_text y_kind y_value y_parent y_name y_slotOf y_placeOf y_complete y_openNode y_openType y_openCount y_openNames y_openChoice y_output y_todo : Nat → Int32} {L : Nat}
theorem ys_run (hL : L ≤ 96) (hC : tt_C y_text) : ∀ (m p x d k : Nat) (g bg en wh : Nat → Int32), L < p + m → p ≤ L → k ≤ p → d ≤ p → sp_I x d g → ∃ (M : Nat) (bad : Int32) (g' bg' en' wh' : Nat → Int32), k + M ≤ L ∧ (∀ i, i < k → bg' i = bg i ∧ en' i = en i ∧ wh' i = wh i) ∧ sp_W y_text L bg' en' wh' bad M k p x d g ∧ ∀ post : SY → Prop, post (nI L, nI (k + M), bad, y_nodes, y_fault, y_place, y_bound, y_depth, y_nextName, y_wantsName, y_wantsTag, y_printed, y_waiting, y_scaled, y_sort, y_typeA, y_typeB, y_typeC, y_fieldName, y_fieldType, y_fields, y_tags, y_needed, y_text, bg', en', g', wh', y_kind, y_value, y_parent, y_name, y_slotOf, y_placeOf, y_complete, y_openNode, y_openType, y_openCount, y_openNames, y_openChoice, y_output, y_todo) → ∃ n, wY_split_16 post (nI L) y_nodes y_fault y_place y_bound y_depth y_nextName y_wantsName y_wantsTag y_printed y_waiting y_scaled n (nI d) (nI x) (nI p) (nI k) (-1) y_sort y_typeA y_typeB y_typeC y_fieldName y_fieldType y_fields y_tags y_needed y_text bg en g wh y_kind y_value y_parent y_name y_slotOf y_placeOf y_complete y_openNode y_openType y_openCount y_openNames y_openChoice y_output y_todo := by
  intro m
  induction m with
  | zero => intro p x d k g bg en wh h1 h2; omega
  | succ m ih =>
    intro p x d k g bg en wh h1 h2 h3 h4 hI
    obtain ⟨b, hb1, hb2, hsp, hb3⟩ := ys_skip y_text L (L - p) p (by omega) h2
    have hx : x ≤ 5 := hI.1
    have hd : d ≤ 96 := by omega
    have start : ∀ (post : SY → Prop) (n1 n : Nat), wY_split_23 post (wY_split_16 post (nI L) y_nodes y_fault y_place y_bound y_depth y_nextName y_wantsName y_wantsTag y_printed y_waiting y_scaled n) (nI d) (nI x) (nI L) (nI k) (-1) y_nodes y_fault y_place y_bound y_depth y_nextName y_wantsName y_wantsTag y_printed y_waiting y_scaled y_sort y_typeA y_typeB y_typeC y_fieldName y_fieldType y_fields y_tags y_needed y_text bg en g wh y_kind y_value y_parent y_name y_slotOf y_placeOf y_complete y_openNode y_openType y_openCount y_openNames y_openChoice y_output y_todo n1 (nI b) → wY_split_16 post (nI L) y_nodes y_fault y_place y_bound y_depth y_nextName y_wantsName y_wantsTag y_printed y_waiting y_scaled (n + 1) (nI d) (nI x) (nI p) (nI k) (-1) y_sort y_typeA y_typeB y_typeC y_fieldName y_fieldType y_fields y_tags y_needed y_text bg en g wh y_kind y_value y_parent y_name y_slotOf y_placeOf y_complete y_openNode y_openType y_openCount y_openNames y_openChoice y_output y_todo :=
      fun post n1 n w => br_f (by decide) ⟨n1 + (b - p), ys_23s hL n1 (b - p) p b (by omega) hb2 hsp w⟩
    rcases Nat.lt_or_ge b L with hb | hb
    case inr =>
      have e : b = L := by omega
      subst e
      by_cases w : x = 5 ∧ d = 0
      · exact ⟨0, -1, g, bg, en, wh, by omega, fun _ _ => ⟨rfl, rfl, rfl⟩, Or.inl ⟨rfl, w.1, w.2, hb1, hsp⟩, fun post hp => ⟨0 + 1, start post (0 + 1) 0 (ys_end hL hx hd (fun _ => hp) (fun q => absurd w q))⟩⟩
      · exact ⟨0, nI b, g, bg, en, wh, by omega, fun _ _ => ⟨rfl, rfl, rfl⟩, Or.inr ⟨b, rfl, Nat.le_refl _, ⟨hb1, hsp⟩, fun q => absurd q (by omega), fun _ => w⟩, fun post hp => ⟨0 + 1, start post (0 + 1) 0 (ys_end hL hx hd (fun q => absurd q w) (fun _ => hp))⟩⟩
    have h20 := hb3 hb
    by_cases hT : sp_T x d g (y_text b)
    case neg => exact ⟨0, nI b, g, bg, en, wh, by omega, fun _ _ => ⟨rfl, rfl, rfl⟩, Or.inr ⟨b, rfl, by omega, ⟨hb1, hsp⟩, fun _ => ⟨h20, hT⟩, fun q => absurd q (by omega)⟩, fun post hp => ⟨0 + 1, start post (0 + 1) 0 (ys_mis hL hC hb h20 hx hd hT hp)⟩⟩
    have hk : k < 96 := by omega
    have cons : ∀ (p' x' d' : Nat) (g1 : Nat → Int32) (q : Nat), b < p' → p' ≤ L → d' ≤ p' → sp_I x' d' g1 → sp_P y_text L (upd bg k (nI b)) (upd en k (nI q)) (upd wh k 1) k p x d g p' x' d' g1 →
        (∀ (post : SY → Prop) (n : Nat), wY_split_16 post (nI L) y_nodes y_fault y_place y_bound y_depth y_nextName y_wantsName y_wantsTag y_printed y_waiting y_scaled n (nI d') (nI x') (nI p') (nI (k + 1)) (-1) y_sort y_typeA y_typeB y_typeC y_fieldName y_fieldType y_fields y_tags y_needed y_text (upd bg k (nI b)) (upd en k (nI q)) g1 (upd wh k 1) y_kind y_value y_parent y_name y_slotOf y_placeOf y_complete y_openNode y_openType y_openCount y_openNames y_openChoice y_output y_todo → ∃ n', wY_split_16 post (nI L) y_nodes y_fault y_place y_bound y_depth y_nextName y_wantsName y_wantsTag y_printed y_waiting y_scaled n' (nI d) (nI x) (nI p) (nI k) (-1) y_sort y_typeA y_typeB y_typeC y_fieldName y_fieldType y_fields y_tags y_needed y_text bg en g wh y_kind y_value y_parent y_name y_slotOf y_placeOf y_complete y_openNode y_openType y_openCount y_openNames y_openChoice y_output y_todo) → ∃ (M : Nat) (bad : Int32) (g' bg' en' wh' : Nat → Int32), k + M ≤ L ∧ (∀ i, i < k → bg' i = bg i ∧ en' i = en i ∧ wh' i = wh i) ∧ sp_W y_text L bg' en' wh' bad M k p x d g ∧ ∀ post : SY → Prop, post (nI L, nI (k + M), bad, y_nodes, y_fault, y_place, y_bound, y_depth, y_nextName, y_wantsName, y_wantsTag, y_printed, y_waiting, y_scaled, y_sort, y_typeA, y_typeB, y_typeC, y_fieldName, y_fieldType, y_fields, y_tags, y_needed, y_text, bg', en', g', wh', y_kind, y_value, y_parent, y_name, y_slotOf, y_placeOf, y_complete, y_openNode, y_openType, y_openCount, y_openNames, y_openChoice, y_output, y_todo) → ∃ n, wY_split_16 post (nI L) y_nodes y_fault y_place y_bound y_depth y_nextName y_wantsName y_wantsTag y_printed y_waiting y_scaled n (nI d) (nI x) (nI p) (nI k) (-1) y_sort y_typeA y_typeB y_typeC y_fieldName y_fieldType y_fields y_tags y_needed y_text bg en g wh y_kind y_value y_parent y_name y_slotOf y_placeOf y_complete y_openNode y_openType y_openCount y_openNames y_openChoice y_output y_todo := by
      intro p' x' d' g1 q a1 a2 a3 a4 a5 a6
      obtain ⟨M, bad, g', bg', en', wh', r1, r2, r3, r4⟩ := ih p' x' d' (k + 1) g1 (upd bg k (nI b)) (upd en k (nI q)) (upd wh k 1) (by omega) a2 (by omega) a3 a4
      refine ⟨M + 1, bad, g', bg', en', wh', by omega, fun i hi => ?_, Or.inl ⟨p', x', d', g1, sp_P_congr a5 (r2 k (by omega)).1 (r2 k (by omega)).2.1 (r2 k (by omega)).2.2, r3⟩, fun post hp => ?_⟩
      · obtain ⟨e1, e2, e3⟩ := r2 i (by omega)
        rw [e1, e2, e3]
        exact ⟨pk_un (by omega), pk_un (by omega), pk_un (by omega)⟩
      · rw [show k + (M + 1) = k + 1 + M from by omega] at hp
        obtain ⟨n, hn⟩ := r4 post hp
        exact a6 post n hn
    have cut : ∀ (q : Nat), q < 96 → sp_X y_text L (upd bg k (nI b)) (upd en k (nI q)) (upd wh k 0) k p x (q + 1) →
        (∀ post : SY → Prop, post (nI L, nI (k + 1), nI (q + 1), y_nodes, y_fault, y_place, y_bound, y_depth, y_nextName, y_wantsName, y_wantsTag, y_printed, y_waiting, y_scaled, y_sort, y_typeA, y_typeB, y_typeC, y_fieldName, y_fieldType, y_fields, y_tags, y_needed, y_text, upd bg k (nI b), upd en k (nI q), g, upd wh k 0, y_kind, y_value, y_parent, y_name, y_slotOf, y_placeOf, y_complete, y_openNode, y_openType, y_openCount, y_openNames, y_openChoice, y_output, y_todo) → ∃ n', wY_split_16 post (nI L) y_nodes y_fault y_place y_bound y_depth y_nextName y_wantsName y_wantsTag y_printed y_waiting y_scaled n' (nI d) (nI x) (nI p) (nI k) (-1) y_sort y_typeA y_typeB y_typeC y_fieldName y_fieldType y_fields y_tags y_needed y_text bg en g wh y_kind y_value y_parent y_name y_slotOf y_placeOf y_complete y_openNode y_openType y_openCount y_openNames y_openChoice y_output y_todo) → ∃ (M : Nat) (bad : Int32) (g' bg' en' wh' : Nat → Int32), k + M ≤ L ∧ (∀ i, i < k → bg' i = bg i ∧ en' i = en i ∧ wh' i = wh i) ∧ sp_W y_text L bg' en' wh' bad M k p x d g ∧ ∀ post : SY → Prop, post (nI L, nI (k + M), bad, y_nodes, y_fault, y_place, y_bound, y_depth, y_nextName, y_wantsName, y_wantsTag, y_printed, y_waiting, y_scaled, y_sort, y_typeA, y_typeB, y_typeC, y_fieldName, y_fieldType, y_fields, y_tags, y_needed, y_text, bg', en', g', wh', y_kind, y_value, y_parent, y_name, y_slotOf, y_placeOf, y_complete, y_openNode, y_openType, y_openCount, y_openNames, y_openChoice, y_output, y_todo) → ∃ n, wY_split_16 post (nI L) y_nodes y_fault y_place y_bound y_depth y_nextName y_wantsName y_wantsTag y_printed y_waiting y_scaled n (nI d) (nI x) (nI p) (nI k) (-1) y_sort y_typeA y_typeB y_typeC y_fieldName y_fieldType y_fields y_tags y_needed y_text bg en g wh y_kind y_value y_parent y_name y_slotOf y_placeOf y_complete y_openNode y_openType y_openCount y_openNames y_openChoice y_output y_todo := by
      intro q a1 a2 a3
      exact ⟨1, nI (q + 1), g, _, _, _, by omega, fun i hi => ⟨pk_un (by omega), pk_un (by omega), pk_un (by omega)⟩, Or.inr ⟨rfl, q + 1, a2, rfl⟩, a3⟩
    have sB : ∃ b', sp_S y_text p b' ∧ b' < L ∧ upd bg k (nI b) k = nI b' ∧ b' = b := ⟨b, ⟨hb1, hsp⟩, hb, pk_us, rfl⟩
    by_cases hz : sp_C x d g (y_text b)
    · -- a level closes
      have wk : ∀ d', d = d' + 1 → ¬ y_text b = 16 → ¬ sp_B (y_text b) → ∀ (post : SY → Prop) (n : Nat), wY_split_16 post (nI L) y_nodes y_fault y_place y_bound y_depth y_nextName y_wantsName y_wantsTag y_printed y_waiting y_scaled n (nI d') (nI 5) (nI (b + 1)) (nI (k + 1)) (-1) y_sort y_typeA y_typeB y_typeC y_fieldName y_fieldType y_fields y_tags y_needed y_text (upd bg k (nI b)) (upd en k (nI b)) g (upd wh k 1) y_kind y_value y_parent y_name y_slotOf y_placeOf y_complete y_openNode y_openType y_openCount y_openNames y_openChoice y_output y_todo → ∃ n', wY_split_16 post (nI L) y_nodes y_fault y_place y_bound y_depth y_nextName y_wantsName y_wantsTag y_printed y_waiting y_scaled n' (nI d) (nI x) (nI p) (nI k) (-1) y_sort y_typeA y_typeB y_typeC y_fieldName y_fieldType y_fields y_tags y_needed y_text bg en g wh y_kind y_value y_parent y_name y_slotOf y_placeOf y_complete y_openNode y_openType y_openCount y_openNames y_openChoice y_output y_todo := by
        intro d' hd' n16 nB post n w
        subst hd'
        exact ⟨n + 1, start post (0 + 1) n (ys_fit hL hC hb h20 hx hd hT (Or.inl ⟨rfl, hz⟩) (ys_209w hk (by omega) (fun Q hQ => yo_1 hL hC hb n16 nB Q hQ) (br_f (by decide) (nm_r (pk_m1 d') w))))⟩
      rcases hz with ⟨c, h⟩ | ⟨c, h⟩
      · have n16 : ¬ y_text b = 16 := by rw [c]; decide
        have nB : ¬ sp_B (y_text b) := by
          rw [c]; rintro (w | w)
          · exact absurd w.2 (by decide)
          · exact absurd w (by decide)
        have hd0 : 0 < d ∧ g d = 12 := by
          rcases h with h | h
          · exact hI.2.1 h
          · exact h.2
        obtain ⟨d', hd'⟩ : ∃ d', d = d' + 1 := ⟨d - 1, by omega⟩
        refine cons (b + 1) 5 d' g b (by omega) (by omega) (by omega) ⟨by omega, fun z => absurd z (by decide), fun z => absurd z (by decide), fun l hl => hI.2.2.2 l (by omega)⟩ ⟨b, ⟨hb1, hsp⟩, hb, pk_us, pk_us, Or.inl ⟨c, by omega, hd', hd0.2, rfl, rfl, pk_us, rfl⟩⟩ (wk d' hd' n16 nB)
      · have n16 : ¬ y_text b = 16 := by rw [c]; decide
        have nB : ¬ sp_B (y_text b) := by
          rw [c]; rintro (w | w)
          · exact absurd w.2 (by decide)
          · exact absurd w (by decide)
        have hd0 : 0 < d ∧ g d = 10 := by
          rcases h with h | h
          · exact hI.2.2.1 (Or.inl h)
          · exact h.2
        obtain ⟨d', hd'⟩ : ∃ d', d = d' + 1 := ⟨d - 1, by omega⟩
        refine cons (b + 1) 5 d' g b (by omega) (by omega) (by omega) ⟨by omega, fun z => absurd z (by decide), fun z => absurd z (by decide), fun l hl => hI.2.2.2 l (by omega)⟩ ⟨b, ⟨hb1, hsp⟩, hb, pk_us, pk_us, Or.inr (Or.inl ⟨c, by omega, hd', hd0.2, rfl, rfl, pk_us, rfl⟩)⟩ (wk d' hd' n16 nB)
    have hQ : sp_Q x d (y_text b) := hT.resolve_left hz
    -- one character, and what follows
    have one : ∀ (post : SY → Prop) (n : Nat), ¬ y_text b = 16 → ¬ sp_B (y_text b) → wY_split_306 post (wY_split_16 post (nI L) y_nodes y_fault y_place y_bound y_depth y_nextName y_wantsName y_wantsTag y_printed y_waiting y_scaled n) (nI d) (nI x) (y_text b) 0 (nI (b + 1)) (-1) (nI L) (nI (k + 1)) (-1) y_nodes y_fault y_place y_bound y_depth y_nextName y_wantsName y_wantsTag y_printed y_waiting y_scaled y_sort y_typeA y_typeB y_typeC y_fieldName y_fieldType y_fields y_tags y_needed y_text (upd bg k (nI b)) (upd en k (nI b)) g (upd wh k 1) y_kind y_value y_parent y_name y_slotOf y_placeOf y_complete y_openNode y_openType y_openCount y_openNames y_openChoice y_output y_todo → ∃ n', wY_split_16 post (nI L) y_nodes y_fault y_place y_bound y_depth y_nextName y_wantsName y_wantsTag y_printed y_waiting y_scaled n' (nI d) (nI x) (nI p) (nI k) (-1) y_sort y_typeA y_typeB y_typeC y_fieldName y_fieldType y_fields y_tags y_needed y_text bg en g wh y_kind y_value y_parent y_name y_slotOf y_placeOf y_complete y_openNode y_openType y_openCount y_openNames y_openChoice y_output y_todo :=
      fun post n n16 nB w => ⟨n + 1, start post (0 + 1) n (ys_fit hL hC hb h20 hx hd hT (Or.inr ⟨rfl, hz⟩) (ys_209w hk (by omega) (fun Q hQ => yo_1 hL hC hb n16 nB Q hQ) w))⟩
    have lg : ∀ (post : SY → Prop) (n q : Nat), q < 96 → (∀ Q : Int32 → Prop, Q (nI (q + 1)) → wpY_over Q (nI L, nI k, -1, y_nodes, y_fault, y_place, y_bound, y_depth, y_nextName, y_wantsName, y_wantsTag, y_printed, y_waiting, y_scaled, y_sort, y_typeA, y_typeB, y_typeC, y_fieldName, y_fieldType, y_fields, y_tags, y_needed, y_text, bg, en, g, wh, y_kind, y_value, y_parent, y_name, y_slotOf, y_placeOf, y_complete, y_openNode, y_openType, y_openCount, y_openNames, y_openChoice, y_output, y_todo) (nI b)) → wY_split_306 post (wY_split_16 post (nI L) y_nodes y_fault y_place y_bound y_depth y_nextName y_wantsName y_wantsTag y_printed y_waiting y_scaled n) (nI d) (nI x) (y_text b) 0 (nI (q + 1)) (-1) (nI L) (nI (k + 1)) (-1) y_nodes y_fault y_place y_bound y_depth y_nextName y_wantsName y_wantsTag y_printed y_waiting y_scaled y_sort y_typeA y_typeB y_typeC y_fieldName y_fieldType y_fields y_tags y_needed y_text (upd bg k (nI b)) (upd en k (nI q)) g (upd wh k 1) y_kind y_value y_parent y_name y_slotOf y_placeOf y_complete y_openNode y_openType y_openCount y_openNames y_openChoice y_output y_todo → ∃ n', wY_split_16 post (nI L) y_nodes y_fault y_place y_bound y_depth y_nextName y_wantsName y_wantsTag y_printed y_waiting y_scaled n' (nI d) (nI x) (nI p) (nI k) (-1) y_sort y_typeA y_typeB y_typeC y_fieldName y_fieldType y_fields y_tags y_needed y_text bg en g wh y_kind y_value y_parent y_name y_slotOf y_placeOf y_complete y_openNode y_openType y_openCount y_openNames y_openChoice y_output y_todo :=
      fun post n q hq ho w => ⟨n + 1, start post (0 + 1) n (ys_fit hL hC hb h20 hx hd hT (Or.inr ⟨rfl, hz⟩) (ys_209w hk hq ho w))⟩
    have ct : ∀ (post : SY → Prop) (q : Nat), q < 96 → (∀ Q : Int32 → Prop, Q (-1 - nI (q + 1)) → wpY_over Q (nI L, nI k, -1, y_nodes, y_fault, y_place, y_bound, y_depth, y_nextName, y_wantsName, y_wantsTag, y_printed, y_waiting, y_scaled, y_sort, y_typeA, y_typeB, y_typeC, y_fieldName, y_fieldType, y_fields, y_tags, y_needed, y_text, bg, en, g, wh, y_kind, y_value, y_parent, y_name, y_slotOf, y_placeOf, y_complete, y_openNode, y_openType, y_openCount, y_openNames, y_openChoice, y_output, y_todo) (nI b)) → wY_split_306 post (wY_split_16 post (nI L) y_nodes y_fault y_place y_bound y_depth y_nextName y_wantsName y_wantsTag y_printed y_waiting y_scaled 1) (nI d) (nI x) (y_text b) 0 (-1 - nI (q + 1)) (nI (q + 1)) (nI L) (nI (k + 1)) (-1) y_nodes y_fault y_place y_bound y_depth y_nextName y_wantsName y_wantsTag y_printed y_waiting y_scaled y_sort y_typeA y_typeB y_typeC y_fieldName y_fieldType y_fields y_tags y_needed y_text (upd bg k (nI b)) (upd en k (nI q)) g (upd wh k 0) y_kind y_value y_parent y_name y_slotOf y_placeOf y_complete y_openNode y_openType y_openCount y_openNames y_openChoice y_output y_todo → ∃ n', wY_split_16 post (nI L) y_nodes y_fault y_place y_bound y_depth y_nextName y_wantsName y_wantsTag y_printed y_waiting y_scaled n' (nI d) (nI x) (nI p) (nI k) (-1) y_sort y_typeA y_typeB y_typeC y_fieldName y_fieldType y_fields y_tags y_needed y_text bg en g wh y_kind y_value y_parent y_name y_slotOf y_placeOf y_complete y_openNode y_openType y_openCount y_openNames y_openChoice y_output y_todo :=
      fun post q hq ho w => ⟨1 + 1, start post (0 + 1) 1 (ys_fit hL hC hb h20 hx hd hT (Or.inr ⟨rfl, hz⟩) (ys_209x hk hq ho w))⟩
    have I5 : sp_I 5 d g := ⟨by omega, fun z => absurd z (by decide), fun z => absurd z (by decide), hI.2.2.2⟩
    have nx2 : x < 2 → ¬ nI x = 2 := fun z e => by have := hh_i (by omega) (by decide) (m := 2) e; omega
    have nx3 : x < 2 → ¬ nI x = 3 := fun z e => by have := hh_i (by omega) (by decide) (m := 3) e; omega
    rcases hQ with ⟨hx2, hV⟩ | ⟨hx2, c⟩ | ⟨hx2, c⟩ | ⟨hx2, c, hd0⟩
    · by_cases hB : sp_B (y_text b)
      · have n15 : ¬ y_text b = 15 := by
          intro c; rw [c] at hB
          rcases hB with w | w
          · exact absurd w.2 (by decide)
          · exact absurd w (by decide)
        have n14 : ¬ y_text b = 14 := by
          intro c; rw [c] at hB
          rcases hB with w | w
          · exact absurd w.2 (by decide)
          · exact absurd w (by decide)
        have n10 : ¬ y_text b = 10 := by
          intro c; rw [c] at hB
          rcases hB with w | w
          · exact absurd w.2 (by decide)
          · exact absurd w (by decide)
        have n12 : ¬ y_text b = 12 := by
          intro c; rw [c] at hB
          rcases hB with w | w
          · exact absurd w.2 (by decide)
          · exact absurd w (by decide)
        rcases yo_num (y_parts := nI k) (y_bad := -1) (y_nodes := y_nodes) (y_fault := y_fault) (y_place := y_place) (y_bound := y_bound) (y_depth := y_depth) (y_nextName := y_nextName) (y_wantsName := y_wantsName) (y_wantsTag := y_wantsTag) (y_printed := y_printed) (y_waiting := y_waiting) (y_scaled := y_scaled) (y_sort := y_sort) (y_typeA := y_typeA) (y_typeB := y_typeB) (y_typeC := y_typeC) (y_fieldName := y_fieldName) (y_fieldType := y_fieldType) (y_fields := y_fields) (y_tags := y_tags) (y_needed := y_needed) (y_text := y_text) (y_begin := bg) (y_end := en) (y_inside := g) (y_whole := wh) (y_kind := y_kind) (y_value := y_value) (y_parent := y_parent) (y_name := y_name) (y_slotOf := y_slotOf) (y_placeOf := y_placeOf) (y_complete := y_complete) (y_openNode := y_openNode) (y_openType := y_openType) (y_openCount := y_openCount) (y_openNames := y_openNames) (y_openChoice := y_openChoice) (y_output := y_output) (y_todo := y_todo) hL hC hb hB with ⟨q, hW, ho⟩ | ⟨z, hX, ho⟩
        · have hle := ns_W_le hW
          obtain ⟨q, rfl⟩ : ∃ q', q = q' + 1 := ⟨q - 1, by omega⟩
          refine cons (q + 1) 5 d g q (by omega) (by omega) (by omega) I5 ⟨b, ⟨hb1, hsp⟩, hb, pk_us, pk_us, ?_⟩ (fun post n w => lg post n q (by omega) ho (br_t rfl (br_f n15 (br_f n14 (br_f (nx2 hx2) (br_f (nx3 hx2) (br_f n10 (br_f n12 w))))))))
          exact Or.inr (Or.inr (Or.inr (Or.inr (Or.inr (Or.inr (Or.inr (Or.inr (Or.inl ⟨hB, hx2, rfl, rfl, rfl, q, hW, by omega, pk_us, rfl⟩))))))))
        · have hle := ns_X_le hb hX
          obtain ⟨q, rfl⟩ : ∃ q', z = q' + 1 := ⟨z - 1, by omega⟩
          refine cut q (by omega) ⟨b, ⟨hb1, hsp⟩, hb, pk_us, pk_us, Or.inl ⟨hB, hx2, hX, hle.1, pk_us⟩⟩ (fun post hp => ct post q (by omega) ho (br_t rfl (br_f n15 (br_f n14 (br_f (nx2 hx2) (br_f (nx3 hx2) (br_f n10 (br_f n12 (br_t (nI_pos' (by omega)) hp)))))))))
      · rcases hV with w | c | c | c | c | c | c | c
        · exact absurd (Or.inl w) hB
        · refine cons (b + 1) 2 (d + 1) (upd g (d + 1) 10) b (by omega) (by omega) (by omega) ⟨by omega, fun z => absurd z (by decide), fun _ => ⟨by omega, pk_us⟩, fun l hl => ?_⟩ ⟨b, ⟨hb1, hsp⟩, hb, pk_us, pk_us, ?_⟩ (fun post n w => one post n (by rw [c]; decide) hB ?_)
          · by_cases q : l + 1 = d + 1
            · rw [q]; exact Or.inr pk_us
            · rw [pk_un q]; exact hI.2.2.2 l (by omega)
          · exact Or.inr (Or.inr (Or.inr (Or.inr (Or.inr (Or.inl ⟨c, hx2, rfl, rfl, rfl, pk_us, rfl⟩)))))
          · rw [c]
            refine br_t rfl (br_f (by decide) (br_f (by decide) (br_f (nx2 hx2) (br_f (nx3 hx2) (br_t rfl (nm_r (nI_1 d) ⟨vp_in_nI (by omega) (by decide), nm_e (br_t rfl ?_)⟩))))))
            rw [nI_clamp (by omega)]; exact w
        · refine cons (b + 1) 1 (d + 1) (upd g (d + 1) 12) b (by omega) (by omega) (by omega) ⟨by omega, fun _ => ⟨by omega, pk_us⟩, fun z => absurd z (by decide), fun l hl => ?_⟩ ⟨b, ⟨hb1, hsp⟩, hb, pk_us, pk_us, ?_⟩ (fun post n w => one post n (by rw [c]; decide) hB ?_)
          · by_cases q : l + 1 = d + 1
            · rw [q]; exact Or.inl pk_us
            · rw [pk_un q]; exact hI.2.2.2 l (by omega)
          · exact Or.inr (Or.inr (Or.inr (Or.inr (Or.inr (Or.inr (Or.inl ⟨c, hx2, rfl, rfl, rfl, pk_us, rfl⟩))))))
          · rw [c]
            refine br_t rfl (br_f (by decide) (br_f (by decide) (br_f (nx2 hx2) (br_f (nx3 hx2) (br_f (by decide) (br_t rfl (nm_r (nI_1 d) ⟨vp_in_nI (by omega) (by decide), nm_e (br_f (by decide) ?_)⟩)))))))
            rw [nI_clamp (by omega)]; exact w
        · rcases yo_s (y_parts := nI k) (y_bad := -1) (y_nodes := y_nodes) (y_fault := y_fault) (y_place := y_place) (y_bound := y_bound) (y_depth := y_depth) (y_nextName := y_nextName) (y_wantsName := y_wantsName) (y_wantsTag := y_wantsTag) (y_printed := y_printed) (y_waiting := y_waiting) (y_scaled := y_scaled) (y_sort := y_sort) (y_typeA := y_typeA) (y_typeB := y_typeB) (y_typeC := y_typeC) (y_fieldName := y_fieldName) (y_fieldType := y_fieldType) (y_fields := y_fields) (y_tags := y_tags) (y_needed := y_needed) (y_text := y_text) (y_begin := bg) (y_end := en) (y_inside := g) (y_whole := wh) (y_kind := y_kind) (y_value := y_value) (y_parent := y_parent) (y_name := y_name) (y_slotOf := y_slotOf) (y_placeOf := y_placeOf) (y_complete := y_complete) (y_openNode := y_openNode) (y_openType := y_openType) (y_openCount := y_openCount) (y_openNames := y_openNames) (y_openChoice := y_openChoice) (y_output := y_output) (y_todo := y_todo) hL hb c with ⟨q, hW, ho⟩ | ⟨q, e, z, hX, ho⟩
          · have hle : b + 1 ≤ q := by obtain ⟨-, -, m', hm'⟩ := hW; exact ss_R_le hm'
            have hq := hW.1
            refine cons (q + 1) 5 d g q (by omega) (by omega) (by omega) I5 ⟨b, ⟨hb1, hsp⟩, hb, pk_us, pk_us, ?_⟩ (fun post n w => lg post n q (by omega) ho ?_)
            · exact Or.inr (Or.inr (Or.inr (Or.inr (Or.inr (Or.inr (Or.inr (Or.inr (Or.inr ⟨c, hx2, rfl, rfl, rfl, q, hW, pk_us, rfl⟩))))))))
            · rw [c]; exact br_t rfl (br_f (by decide) (br_f (by decide) (br_f (nx2 hx2) (br_f (nx3 hx2) (br_f (by decide) (br_f (by decide) w))))))
          · obtain ⟨rfl, hzL⟩ := ss_X_e hX
            refine cut e (by omega) ⟨b, ⟨hb1, hsp⟩, hb, pk_us, pk_us, Or.inr (Or.inl ⟨c, hx2, q, e, hX, pk_us⟩)⟩ (fun post hp => ct post e (by omega) ho ?_)
            rw [c]; exact br_t rfl (br_f (by decide) (br_f (by decide) (br_f (nx2 hx2) (br_f (nx3 hx2) (br_f (by decide) (br_f (by decide) (br_t (nI_pos' (by omega)) hp)))))))
        · exact absurd (Or.inr c) hB
        all_goals
          refine cons (b + 1) 5 d g b (by omega) (by omega) (by omega) I5 ⟨b, ⟨hb1, hsp⟩, hb, pk_us, pk_us, Or.inr (Or.inr (Or.inr (Or.inr (Or.inr (Or.inr (Or.inr (Or.inl ⟨?_, hx2, rfl, rfl, rfl, pk_us, rfl⟩)))))))⟩ (fun post n w => one post n (by rw [c]; decide) hB ?_)
          · first | exact Or.inl c | exact Or.inr (Or.inl c) | exact Or.inr (Or.inr c)
          · rw [c]; exact br_t rfl (br_f (by decide) (br_f (by decide) (br_f (nx2 hx2) (br_f (nx3 hx2) (br_f (by decide) (br_f (by decide) w))))))
    · have I4 : sp_I 4 d g := ⟨by omega, fun z => absurd z (by decide), fun _ => hI.2.2.1 (by omega), hI.2.2.2⟩
      have e23 : ∀ A B C : Prop, A → (nI x = 2 → A) ∧ (¬ nI x = 2 → (nI x = 3 → A) ∧ (¬ nI x = 3 → C)) := by
        intro A B C a
        refine ⟨fun _ => a, fun q => ⟨fun _ => a, fun q' => ?_⟩⟩
        rcases hx2 with rfl | rfl
        · exact absurd rfl q
        · exact absurd rfl q'
      rcases yo_s (y_parts := nI k) (y_bad := -1) (y_nodes := y_nodes) (y_fault := y_fault) (y_place := y_place) (y_bound := y_bound) (y_depth := y_depth) (y_nextName := y_nextName) (y_wantsName := y_wantsName) (y_wantsTag := y_wantsTag) (y_printed := y_printed) (y_waiting := y_waiting) (y_scaled := y_scaled) (y_sort := y_sort) (y_typeA := y_typeA) (y_typeB := y_typeB) (y_typeC := y_typeC) (y_fieldName := y_fieldName) (y_fieldType := y_fieldType) (y_fields := y_fields) (y_tags := y_tags) (y_needed := y_needed) (y_text := y_text) (y_begin := bg) (y_end := en) (y_inside := g) (y_whole := wh) (y_kind := y_kind) (y_value := y_value) (y_parent := y_parent) (y_name := y_name) (y_slotOf := y_slotOf) (y_placeOf := y_placeOf) (y_complete := y_complete) (y_openNode := y_openNode) (y_openType := y_openType) (y_openCount := y_openCount) (y_openNames := y_openNames) (y_openChoice := y_openChoice) (y_output := y_output) (y_todo := y_todo) hL hb c with ⟨q, hW, ho⟩ | ⟨q, e, z, hX, ho⟩
      · have hle : b + 1 ≤ q := by obtain ⟨-, -, m', hm'⟩ := hW; exact ss_R_le hm'
        have hq := hW.1
        refine cons (q + 1) 4 d g q (by omega) (by omega) (by omega) I4 ⟨b, ⟨hb1, hsp⟩, hb, pk_us, pk_us, ?_⟩ (fun post n w => lg post n q (by omega) ho ?_)
        · exact Or.inr (Or.inr (Or.inr (Or.inr (Or.inl ⟨c, hx2, rfl, rfl, rfl, q, hW, pk_us, rfl⟩))))
        · rw [c]; exact br_t rfl (br_f (by decide) (br_f (by decide) (e23 _ True _ w)))
      · obtain ⟨rfl, hzL⟩ := ss_X_e hX
        refine cut e (by omega) ⟨b, ⟨hb1, hsp⟩, hb, pk_us, pk_us, Or.inr (Or.inr ⟨c, hx2, q, e, hX, pk_us⟩)⟩ (fun post hp => ct post e (by omega) ho ?_)
        rw [c]; exact br_t rfl (br_f (by decide) (br_f (by decide) (e23 _ True _ (br_t (nI_pos' (by omega)) hp))))
    · have nB : ¬ sp_B (y_text b) := by
        rw [c]; rintro (w | w)
        · exact absurd w.2 (by decide)
        · exact absurd w (by decide)
      refine cons (b + 1) 0 d g b (by omega) (by omega) (by omega) ⟨by omega, fun z => absurd z (by decide), fun z => absurd z (by decide), hI.2.2.2⟩ ⟨b, ⟨hb1, hsp⟩, hb, pk_us, pk_us, Or.inr (Or.inr (Or.inr (Or.inl ⟨c, hx2, rfl, rfl, rfl, pk_us, rfl⟩)))⟩ (fun post n w => one post n (by rw [c]; decide) nB ?_)
      rw [c]; exact br_t rfl (br_f (by decide) (br_t rfl w))
    · have nB : ¬ sp_B (y_text b) := by
        rw [c]; rintro (w | w)
        · exact absurd w.2 (by decide)
        · exact absurd w (by decide)
      have gd : g d = 12 ∨ g d = 10 := by
        obtain ⟨d', rfl⟩ : ∃ d', d = d' + 1 := ⟨d - 1, by omega⟩
        exact hI.2.2.2 d' (by omega)
      have ed : (nI d).toNatClampNeg = d := nI_clamp (by omega)
      rcases gd with e | e
      · refine cons (b + 1) 0 d g b (by omega) (by omega) (by omega) ⟨by omega, fun z => absurd z (by decide), fun z => absurd z (by decide), hI.2.2.2⟩ ⟨b, ⟨hb1, hsp⟩, hb, pk_us, pk_us, Or.inr (Or.inr (Or.inl ⟨c, hx2, hd0, rfl, rfl, Or.inl ⟨e, rfl⟩, pk_us, rfl⟩))⟩ (fun post n w => one post n (by rw [c]; decide) nB ?_)
        rw [c]
        refine br_t rfl (br_t rfl ⟨vp_in_nI (by omega) (by decide), ?_⟩)
        rw [ed]; exact br_t e w
      · refine cons (b + 1) 3 d g b (by omega) (by omega) (by omega) ⟨by omega, fun z => absurd z (by decide), fun _ => ⟨hd0, e⟩, hI.2.2.2⟩ ⟨b, ⟨hb1, hsp⟩, hb, pk_us, pk_us, Or.inr (Or.inr (Or.inl ⟨c, hx2, hd0, rfl, rfl, Or.inr ⟨e, rfl⟩, pk_us, rfl⟩))⟩ (fun post n w => one post n (by rw [c]; decide) nB ?_)
        rw [c]
        refine br_t rfl (br_t rfl ⟨vp_in_nI (by omega) (by decide), ?_⟩)
        rw [ed]; exact br_f (by rw [e]; decide) w
end
end
section
/-! the component inside strings and numbers -/
theorem up_up (f : Nat → Int32) (k : Nat) (a b : Int32) : upd (upd f k a) k b = upd f k b := by
  funext j; unfold upd
  by_cases z : j = k
  · rw [if_pos z, if_pos z]
  · rw [if_neg z, if_neg z, if_neg z]
section
variable {x_length x_nodeCount x_bound x_fault x_faultPlace x_mode x_at x_tokenStart x_textCount x_escaped x_valueSlot x_valueName x_depth x_outputLength : Int32} {x_text x_typeKind x_typeDetail x_typeLeast x_typeMost x_fieldCount x_fieldName x_fieldType x_fieldNeeded x_tagType x_nodeKind x_nodeValue x_nodeParent x_nodeName x_nodeSlot x_nodeStart x_nodeTag x_completeCount x_openNode x_openSlot x_openNames x_openNext x_openComma x_output : Nat → Int32} {P : SX → Prop} {c : Int32}
theorem sc_n (h30 : ¬ c = 30) (h16 : ¬ c = 16) (h : P (x_length, x_nodeCount, x_bound, x_fault, x_faultPlace, 6, x_at, x_tokenStart, x_textCount, 0, x_valueSlot, x_valueName, x_depth, x_outputLength, x_text, x_typeKind, x_typeDetail, x_typeLeast, x_typeMost, x_fieldCount, x_fieldName, x_fieldType, x_fieldNeeded, x_tagType, x_nodeKind, x_nodeValue, x_nodeParent, x_nodeName, x_nodeSlot, x_nodeStart, x_nodeTag, x_completeCount, x_openNode, x_openSlot, x_openNames, x_openNext, x_openComma, x_output)) : wpX_readStringCharacter P (x_length, x_nodeCount, x_bound, x_fault, x_faultPlace, 6, x_at, x_tokenStart, x_textCount, 0, x_valueSlot, x_valueName, x_depth, x_outputLength, x_text, x_typeKind, x_typeDetail, x_typeLeast, x_typeMost, x_fieldCount, x_fieldName, x_fieldType, x_fieldNeeded, x_tagType, x_nodeKind, x_nodeValue, x_nodeParent, x_nodeName, x_nodeSlot, x_nodeStart, x_nodeTag, x_completeCount, x_openNode, x_openSlot, x_openNames, x_openNext, x_openComma, x_output) c :=
  br_t rfl (br_f h30 (br_t rfl (br_f h16 (br_t rfl (br_f h16 (br_t rfl (br_f (by decide) h)))))))
theorem sc_e (h : P (x_length, x_nodeCount, x_bound, x_fault, x_faultPlace, x_mode, x_at, x_tokenStart, x_textCount, 1, x_valueSlot, x_valueName, x_depth, x_outputLength, x_text, x_typeKind, x_typeDetail, x_typeLeast, x_typeMost, x_fieldCount, x_fieldName, x_fieldType, x_fieldNeeded, x_tagType, x_nodeKind, x_nodeValue, x_nodeParent, x_nodeName, x_nodeSlot, x_nodeStart, x_nodeTag, x_completeCount, x_openNode, x_openSlot, x_openNames, x_openNext, x_openComma, x_output)) : wpX_readStringCharacter P (x_length, x_nodeCount, x_bound, x_fault, x_faultPlace, x_mode, x_at, x_tokenStart, x_textCount, 0, x_valueSlot, x_valueName, x_depth, x_outputLength, x_text, x_typeKind, x_typeDetail, x_typeLeast, x_typeMost, x_fieldCount, x_fieldName, x_fieldType, x_fieldNeeded, x_tagType, x_nodeKind, x_nodeValue, x_nodeParent, x_nodeName, x_nodeSlot, x_nodeStart, x_nodeTag, x_completeCount, x_openNode, x_openSlot, x_openNames, x_openNext, x_openComma, x_output) 30 :=
  br_t rfl (br_t rfl h)
theorem sc_x6 (hc : c = 16 ∨ c = 30) (h : P (x_length, x_nodeCount, x_bound, x_fault, x_faultPlace, 6, x_at, x_tokenStart, x_textCount, 0, x_valueSlot, x_valueName, x_depth, x_outputLength, x_text, x_typeKind, x_typeDetail, x_typeLeast, x_typeMost, x_fieldCount, x_fieldName, x_fieldType, x_fieldNeeded, x_tagType, x_nodeKind, x_nodeValue, x_nodeParent, x_nodeName, x_nodeSlot, x_nodeStart, x_nodeTag, x_completeCount, x_openNode, x_openSlot, x_openNames, x_openNext, x_openComma, x_output)) : wpX_readStringCharacter P (x_length, x_nodeCount, x_bound, x_fault, x_faultPlace, 6, x_at, x_tokenStart, x_textCount, 1, x_valueSlot, x_valueName, x_depth, x_outputLength, x_text, x_typeKind, x_typeDetail, x_typeLeast, x_typeMost, x_fieldCount, x_fieldName, x_fieldType, x_fieldNeeded, x_tagType, x_nodeKind, x_nodeValue, x_nodeParent, x_nodeName, x_nodeSlot, x_nodeStart, x_nodeTag, x_completeCount, x_openNode, x_openSlot, x_openNames, x_openNext, x_openComma, x_output) c := by
  have e : ¬ (1 : Int32) = 0 := by decide
  refine br_f e (br_f e (br_f e (br_f e ?_)))
  by_cases z : c = 16
  · exact br_t z (br_f (by decide) h)
  · exact br_f z (br_t (hc.resolve_left z) (br_f (by decide) h))
theorem sc_t (h30 : ¬ c = 30) (h16 : ¬ c = 16) (h : wpX_addTextCharacter P (x_length, x_nodeCount, x_bound, x_fault, x_faultPlace, 7, x_at, x_tokenStart, x_textCount, 0, x_valueSlot, x_valueName, x_depth, x_outputLength, x_text, x_typeKind, x_typeDetail, x_typeLeast, x_typeMost, x_fieldCount, x_fieldName, x_fieldType, x_fieldNeeded, x_tagType, x_nodeKind, x_nodeValue, x_nodeParent, x_nodeName, x_nodeSlot, x_nodeStart, x_nodeTag, x_completeCount, x_openNode, x_openSlot, x_openNames, x_openNext, x_openComma, x_output) c) : wpX_readStringCharacter P (x_length, x_nodeCount, x_bound, x_fault, x_faultPlace, 7, x_at, x_tokenStart, x_textCount, 0, x_valueSlot, x_valueName, x_depth, x_outputLength, x_text, x_typeKind, x_typeDetail, x_typeLeast, x_typeMost, x_fieldCount, x_fieldName, x_fieldType, x_fieldNeeded, x_tagType, x_nodeKind, x_nodeValue, x_nodeParent, x_nodeName, x_nodeSlot, x_nodeStart, x_nodeTag, x_completeCount, x_openNode, x_openSlot, x_openNames, x_openNext, x_openComma, x_output) c :=
  br_t rfl (br_f h30 (br_t rfl (br_f h16 (br_t rfl (br_f h16 (br_t rfl (br_t rfl h)))))))
theorem sc_x7 (hc : c = 16 ∨ c = 30) (h : wpX_addTextCharacter P (x_length, x_nodeCount, x_bound, x_fault, x_faultPlace, 7, x_at, x_tokenStart, x_textCount, 0, x_valueSlot, x_valueName, x_depth, x_outputLength, x_text, x_typeKind, x_typeDetail, x_typeLeast, x_typeMost, x_fieldCount, x_fieldName, x_fieldType, x_fieldNeeded, x_tagType, x_nodeKind, x_nodeValue, x_nodeParent, x_nodeName, x_nodeSlot, x_nodeStart, x_nodeTag, x_completeCount, x_openNode, x_openSlot, x_openNames, x_openNext, x_openComma, x_output) c) : wpX_readStringCharacter P (x_length, x_nodeCount, x_bound, x_fault, x_faultPlace, 7, x_at, x_tokenStart, x_textCount, 1, x_valueSlot, x_valueName, x_depth, x_outputLength, x_text, x_typeKind, x_typeDetail, x_typeLeast, x_typeMost, x_fieldCount, x_fieldName, x_fieldType, x_fieldNeeded, x_tagType, x_nodeKind, x_nodeValue, x_nodeParent, x_nodeName, x_nodeSlot, x_nodeStart, x_nodeTag, x_completeCount, x_openNode, x_openSlot, x_openNames, x_openNext, x_openComma, x_output) c := by
  have e : ¬ (1 : Int32) = 0 := by decide
  refine br_f e (br_f e (br_f e (br_f e ?_)))
  by_cases z : c = 16
  · exact br_t z (br_t rfl h)
  · exact br_f z (br_t (hc.resolve_left z) (br_t rfl h))
theorem sc_bad (h30 : ¬ c = 30) (h16 : ¬ c = 16) (h : P (x_length, x_nodeCount, x_bound, 1, x_at, x_mode, x_at, x_tokenStart, x_textCount, 1, x_valueSlot, x_valueName, x_depth, x_outputLength, x_text, x_typeKind, x_typeDetail, x_typeLeast, x_typeMost, x_fieldCount, x_fieldName, x_fieldType, x_fieldNeeded, x_tagType, x_nodeKind, x_nodeValue, x_nodeParent, x_nodeName, x_nodeSlot, x_nodeStart, x_nodeTag, x_completeCount, x_openNode, x_openSlot, x_openNames, x_openNext, x_openComma, x_output)) : wpX_readStringCharacter P (x_length, x_nodeCount, x_bound, x_fault, x_faultPlace, x_mode, x_at, x_tokenStart, x_textCount, 1, x_valueSlot, x_valueName, x_depth, x_outputLength, x_text, x_typeKind, x_typeDetail, x_typeLeast, x_typeMost, x_fieldCount, x_fieldName, x_fieldType, x_fieldNeeded, x_tagType, x_nodeKind, x_nodeValue, x_nodeParent, x_nodeName, x_nodeSlot, x_nodeStart, x_nodeTag, x_completeCount, x_openNode, x_openSlot, x_openNames, x_openNext, x_openComma, x_output) c := by
  have e : ¬ (1 : Int32) = 0 := by decide
  exact br_f e (br_f e (br_f e (br_f e (br_f h16 (br_f h30 h)))))
theorem sc_q7 (h : P (x_length, x_nodeCount, x_bound, x_fault, x_faultPlace, 2, x_at, x_tokenStart, x_textCount, 0, x_valueSlot, x_valueName, x_depth, x_outputLength, x_text, x_typeKind, x_typeDetail, x_typeLeast, x_typeMost, x_fieldCount, x_fieldName, x_fieldType, x_fieldNeeded, x_tagType, x_nodeKind, x_nodeValue, x_nodeParent, x_nodeName, x_nodeSlot, x_nodeStart, x_nodeTag, x_completeCount, x_openNode, x_openSlot, x_openNames, x_openNext, x_openComma, x_output)) : wpX_readStringCharacter P (x_length, x_nodeCount, x_bound, x_fault, x_faultPlace, 7, x_at, x_tokenStart, x_textCount, 0, x_valueSlot, x_valueName, x_depth, x_outputLength, x_text, x_typeKind, x_typeDetail, x_typeLeast, x_typeMost, x_fieldCount, x_fieldName, x_fieldType, x_fieldNeeded, x_tagType, x_nodeKind, x_nodeValue, x_nodeParent, x_nodeName, x_nodeSlot, x_nodeStart, x_nodeTag, x_completeCount, x_openNode, x_openSlot, x_openNames, x_openNext, x_openComma, x_output) 16 :=
  br_t rfl (br_f (by decide) (br_t rfl (br_t rfl (br_t rfl h))))
theorem sc_q6 (h : wpX_endName P (x_length, x_nodeCount, x_bound, x_fault, x_faultPlace, 6, x_at, x_tokenStart, x_textCount, 0, x_valueSlot, x_valueName, x_depth, x_outputLength, x_text, x_typeKind, x_typeDetail, x_typeLeast, x_typeMost, x_fieldCount, x_fieldName, x_fieldType, x_fieldNeeded, x_tagType, x_nodeKind, x_nodeValue, x_nodeParent, x_nodeName, x_nodeSlot, x_nodeStart, x_nodeTag, x_completeCount, x_openNode, x_openSlot, x_openNames, x_openNext, x_openComma, x_output)) : wpX_readStringCharacter P (x_length, x_nodeCount, x_bound, x_fault, x_faultPlace, 6, x_at, x_tokenStart, x_textCount, 0, x_valueSlot, x_valueName, x_depth, x_outputLength, x_text, x_typeKind, x_typeDetail, x_typeLeast, x_typeMost, x_fieldCount, x_fieldName, x_fieldType, x_fieldNeeded, x_tagType, x_nodeKind, x_nodeValue, x_nodeParent, x_nodeName, x_nodeSlot, x_nodeStart, x_nodeTag, x_completeCount, x_openNode, x_openSlot, x_openNames, x_openNext, x_openComma, x_output) 16 :=
  br_t rfl (br_f (by decide) (br_t rfl (br_t rfl (br_f (by decide) (br_t rfl (br_t rfl h))))))
theorem at_ok {N s D j : Nat} {h : Int32} (hN : N < 40) (hs : s < 12) (hD : D ≤ 40) (eS : x_nodeSlot N = nI s) (eD : x_typeDetail s = nI D) (hj : j < D) (hp : P (x_length, nI (N + 1), x_bound, x_fault, x_faultPlace, x_mode, x_at, x_tokenStart, nI (j + 1), x_escaped, x_valueSlot, x_valueName, x_depth, x_outputLength, x_text, x_typeKind, x_typeDetail, x_typeLeast, x_typeMost, x_fieldCount, x_fieldName, x_fieldType, x_fieldNeeded, x_tagType, x_nodeKind, upd x_nodeValue N (32 * h + c), x_nodeParent, x_nodeName, x_nodeSlot, x_nodeStart, x_nodeTag, x_completeCount, x_openNode, x_openSlot, x_openNames, x_openNext, x_openComma, x_output)) : wpX_addTextCharacter P (x_length, nI (N + 1), x_bound, x_fault, x_faultPlace, x_mode, x_at, x_tokenStart, nI j, x_escaped, x_valueSlot, x_valueName, x_depth, x_outputLength, x_text, x_typeKind, x_typeDetail, x_typeLeast, x_typeMost, x_fieldCount, x_fieldName, x_fieldType, x_fieldNeeded, x_tagType, x_nodeKind, upd x_nodeValue N h, x_nodeParent, x_nodeName, x_nodeSlot, x_nodeStart, x_nodeTag, x_completeCount, x_openNode, x_openSlot, x_openNames, x_openNext, x_openComma, x_output) c := by
  have eN : (nI N).toNatClampNeg = N := nI_clamp (by omega)
  have es : (nI s).toNatClampNeg = s := nI_clamp (by omega)
  have iN : vp_in (nI N) 40 := vp_in_nI hN (by decide)
  refine nm_r (nI_pred N) ⟨iN, ?_⟩
  rw [eN, eS, es, eD]
  refine ⟨vp_in_nI hs (by decide), br_t (nI_lt hj (by omega)) (nm_r (nI_1 j) ⟨iN, iN, nm_e ?_⟩)⟩
  rw [up_up, pk_us]
  exact hp
theorem at_no {N s D j : Nat} {h : Int32} (hN : N < 40) (hs : s < 12) (hD : D ≤ 40) (eS : x_nodeSlot N = nI s) (eD : x_typeDetail s = nI D) (hj : D ≤ j) (hj2 : j < 1000) (hp : P (x_length, nI (N + 1), x_bound, 6, x_at, x_mode, x_at, x_tokenStart, nI j, x_escaped, x_valueSlot, x_valueName, x_depth, x_outputLength, x_text, x_typeKind, x_typeDetail, x_typeLeast, x_typeMost, x_fieldCount, x_fieldName, x_fieldType, x_fieldNeeded, x_tagType, x_nodeKind, upd x_nodeValue N h, x_nodeParent, x_nodeName, x_nodeSlot, x_nodeStart, x_nodeTag, x_completeCount, x_openNode, x_openSlot, x_openNames, x_openNext, x_openComma, x_output)) : wpX_addTextCharacter P (x_length, nI (N + 1), x_bound, x_fault, x_faultPlace, x_mode, x_at, x_tokenStart, nI j, x_escaped, x_valueSlot, x_valueName, x_depth, x_outputLength, x_text, x_typeKind, x_typeDetail, x_typeLeast, x_typeMost, x_fieldCount, x_fieldName, x_fieldType, x_fieldNeeded, x_tagType, x_nodeKind, upd x_nodeValue N h, x_nodeParent, x_nodeName, x_nodeSlot, x_nodeStart, x_nodeTag, x_completeCount, x_openNode, x_openSlot, x_openNames, x_openNext, x_openComma, x_output) c := by
  have eN : (nI N).toNatClampNeg = N := nI_clamp (by omega)
  have es : (nI s).toNatClampNeg = s := nI_clamp (by omega)
  have iN : vp_in (nI N) 40 := vp_in_nI hN (by decide)
  refine nm_r (nI_pred N) ⟨iN, ?_⟩
  rw [eN, eS, es, eD]
  exact ⟨vp_in_nI hs (by decide), br_f (nI_nlt hj (by omega)) hp⟩
end
section
variable {x_length x_nodeCount x_bound x_fault x_faultPlace x_mode x_at x_tokenStart x_textCount x_escaped x_valueSlot x_valueName x_depth x_outputLength : Int32} {x_text x_typeKind x_typeDetail x_typeLeast x_typeMost x_fieldCount x_fieldName x_fieldType x_fieldNeeded x_tagType x_nodeKind x_nodeValue x_nodeParent x_nodeName x_nodeSlot x_nodeStart x_nodeTag x_completeCount x_openNode x_openSlot x_openNames x_openNext x_openComma x_output : Nat → Int32} {L : Nat}
/-- the units of a name go by -/
theorem bx_nu (hL : L ≤ 96) : ∀ (m i q : Nat) (a : Int32), ss_R x_text L m i q → ∃ a', bx_R i (nI L, x_nodeCount, x_bound, 0, x_faultPlace, 6, a, x_tokenStart, x_textCount, 0, x_valueSlot, x_valueName, x_depth, x_outputLength, x_text, x_typeKind, x_typeDetail, x_typeLeast, x_typeMost, x_fieldCount, x_fieldName, x_fieldType, x_fieldNeeded, x_tagType, x_nodeKind, x_nodeValue, x_nodeParent, x_nodeName, x_nodeSlot, x_nodeStart, x_nodeTag, x_completeCount, x_openNode, x_openSlot, x_openNames, x_openNext, x_openComma, x_output) q (nI L, x_nodeCount, x_bound, 0, x_faultPlace, 6, a', x_tokenStart, x_textCount, 0, x_valueSlot, x_valueName, x_depth, x_outputLength, x_text, x_typeKind, x_typeDetail, x_typeLeast, x_typeMost, x_fieldCount, x_fieldName, x_fieldType, x_fieldNeeded, x_tagType, x_nodeKind, x_nodeValue, x_nodeParent, x_nodeName, x_nodeSlot, x_nodeStart, x_nodeTag, x_completeCount, x_openNode, x_openSlot, x_openNames, x_openNext, x_openComma, x_output) := by
  intro m
  induction m with
  | zero =>
    intro i q a h
    cases h
    exact ⟨a, bx_0 _ _⟩
  | succ m ih =>
    intro i q a ⟨j, hG, hR⟩
    rcases hG with ⟨h1, h2, h3, rfl⟩ | ⟨h1, h2, h3, rfl⟩
    · obtain ⟨a', h'⟩ := ih (i + 1) q (nI i) hR
      exact ⟨a', bx_T (bx_1 h1 hL _ (fun P hP => rc_str (Or.inl rfl) (sc_n h3 h2 hP))) h'⟩
    · obtain ⟨a', h'⟩ := ih (i + 2) q (nI (i + 1)) hR
      refine ⟨a', bx_T (bx_1 (by omega) hL (nI L, x_nodeCount, x_bound, 0, x_faultPlace, 6, nI i, x_tokenStart, x_textCount, 1, x_valueSlot, x_valueName, x_depth, x_outputLength, x_text, x_typeKind, x_typeDetail, x_typeLeast, x_typeMost, x_fieldCount, x_fieldName, x_fieldType, x_fieldNeeded, x_tagType, x_nodeKind, x_nodeValue, x_nodeParent, x_nodeName, x_nodeSlot, x_nodeStart, x_nodeTag, x_completeCount, x_openNode, x_openSlot, x_openNames, x_openNext, x_openComma, x_output) (fun P hP => ?_)) (bx_T (bx_1 h1 hL _ (fun P hP => rc_str (Or.inl rfl) (sc_x6 h3 hP))) h')⟩
      rw [h2]; exact rc_str (Or.inl rfl) (sc_e hP)
/-! numbers -/
theorem nn_d {post : Int32 → Prop} {M c : Int32} (hM : M = 10 ∨ M = 12 ∨ M = 15) (hc : ¬ 9 < c) (h : post M) : wpX_nextNumberMode post M c := by
  rcases hM with rfl | rfl | rfl
  · exact br_f hc (br_f (by decide) (br_f (by decide) (br_f (by decide) (br_f (by decide) (br_t rfl (br_f (by decide) (br_t rfl h)))))))
  · exact br_f hc (br_f (by decide) (br_f (by decide) (br_f (by decide) (br_f (by decide) (br_f (by decide) (br_f (by decide) (br_t rfl (br_f (by decide) h))))))))
  · exact br_f hc (br_f (by decide) (br_t (by decide) (br_f (by decide) h)))
theorem nn_8 {post : Int32 → Prop} {c : Int32} (hc : ¬ 9 < c) (h0 : c = 0 → post 9) (h1 : ¬ c = 0 → post 10) : wpX_nextNumberMode post 8 c :=
  br_f hc (br_f (by decide) (br_f (by decide) (br_t rfl (br_f (by decide) ⟨h0, h1⟩))))
theorem nn_p {post : Int32 → Prop} {M : Int32} (hM : M = 9 ∨ M = 10) (h : post 11) : wpX_nextNumberMode post M 18 := by
  rcases hM with rfl | rfl
  · exact br_t (by decide) (br_f (by decide) (br_f (by decide) (br_f (by decide) (br_t rfl (br_t rfl (br_t rfl h))))))
  · exact br_t (by decide) (br_f (by decide) (br_f (by decide) (br_f (by decide) (br_f (by decide) (br_t rfl (br_t rfl (br_t rfl h)))))))
theorem nn_e {post : Int32 → Prop} {M : Int32} (hM : M = 9 ∨ M = 10 ∨ M = 12) (h : post 13) : wpX_nextNumberMode post M 19 := by
  rcases hM with rfl | rfl | rfl
  · exact br_t (by decide) (br_f (by decide) (br_f (by decide) (br_f (by decide) (br_t rfl (br_t rfl (br_f (by decide) (br_t rfl h)))))))
  · exact br_t (by decide) (br_f (by decide) (br_f (by decide) (br_f (by decide) (br_f (by decide) (br_t rfl (br_t rfl (br_f (by decide) (br_t rfl h))))))))
  · exact br_t (by decide) (br_f (by decide) (br_f (by decide) (br_f (by decide) (br_f (by decide) (br_f (by decide) (br_f (by decide) (br_t rfl (br_t rfl (br_t rfl h)))))))))
theorem nn_11 {post : Int32 → Prop} {c : Int32} (hc : ¬ 9 < c) (h : post 12) : wpX_nextNumberMode post 11 c :=
  br_f hc (br_f (by decide) (br_f (by decide) (br_f (by decide) (br_f (by decide) (br_f (by decide) (br_t rfl (br_f (by decide) h)))))))
theorem nn_13s {post : Int32 → Prop} {c : Int32} (hc : c = 17 ∨ c = 31) (h : post 14) : wpX_nextNumberMode post 13 c := by
  rcases hc with rfl | rfl
  · exact br_t (by decide) (br_f (by decide) (br_f (by decide) (br_f (by decide) (br_f (by decide) (br_f (by decide) (br_f (by decide) (br_f (by decide) (br_t rfl (br_t rfl h)))))))))
  · exact br_t (by decide) (br_f (by decide) (br_f (by decide) (br_f (by decide) (br_f (by decide) (br_f (by decide) (br_f (by decide) (br_f (by decide) (br_t rfl (br_f (by decide) (br_t rfl h))))))))))
theorem nn_13d {post : Int32 → Prop} {c : Int32} (hc : ¬ 9 < c) (h : post 15) : wpX_nextNumberMode post 13 c := by
  have a : ¬ c = 17 := by rintro rfl; exact hc (by decide)
  have b : ¬ c = 31 := by rintro rfl; exact hc (by decide)
  exact br_f hc (br_f (by decide) (br_f (by decide) (br_f (by decide) (br_f (by decide) (br_f (by decide) (br_f (by decide) (br_f (by decide) (br_t rfl (br_f a (br_f b (br_f (by decide) h)))))))))))
theorem nn_14 {post : Int32 → Prop} {c : Int32} (hc : ¬ 9 < c) (h : post 15) : wpX_nextNumberMode post 14 c :=
  br_f hc (br_f (by decide) (br_t (by decide) (br_f (by decide) h)))
/-- no way on from mode M with c -/
def nn_S (M c : Int32) : Prop :=
  (M = 8 ∧ 9 < c) ∨ (M = 9 ∧ ¬ c = 18 ∧ ¬ c = 19) ∨ (M = 10 ∧ 9 < c ∧ ¬ c = 18 ∧ ¬ c = 19) ∨ (M = 11 ∧ 9 < c) ∨ (M = 12 ∧ 9 < c ∧ ¬ c = 19) ∨ (M = 13 ∧ 9 < c ∧ ¬ c = 17 ∧ ¬ c = 31) ∨ (M = 14 ∧ 9 < c) ∨ (M = 15 ∧ 9 < c)
theorem nn_no {post : Int32 → Prop} {M c : Int32} (hs : nn_S M c) (h : post (-1)) : wpX_nextNumberMode post M c := by
  rcases hs with ⟨rfl, a⟩ | ⟨rfl, a, b⟩ | ⟨rfl, a, b, d⟩ | ⟨rfl, a⟩ | ⟨rfl, a, b⟩ | ⟨rfl, a, b, d⟩ | ⟨rfl, a⟩ | ⟨rfl, a⟩
  · exact br_t a (br_f (by decide) (br_f (by decide) (br_t rfl (br_t rfl h))))
  · by_cases z : 9 < c
    · exact br_t z (br_f (by decide) (br_f (by decide) (br_f (by decide) (br_t rfl (br_t rfl (br_f a (br_f b h)))))))
    · exact br_f z (br_f (by decide) (br_f (by decide) (br_f (by decide) (br_t rfl (br_f (by decide) (br_f (by decide) h))))))
  · exact br_t a (br_f (by decide) (br_f (by decide) (br_f (by decide) (br_f (by decide) (br_t rfl (br_t rfl (br_f b (br_f d h))))))))
  · exact br_t a (br_f (by decide) (br_f (by decide) (br_f (by decide) (br_f (by decide) (br_f (by decide) (br_t rfl (br_t rfl h)))))))
  · exact br_t a (br_f (by decide) (br_f (by decide) (br_f (by decide) (br_f (by decide) (br_f (by decide) (br_f (by decide) (br_t rfl (br_t rfl (br_f b h)))))))))
  · exact br_t a (br_f (by decide) (br_f (by decide) (br_f (by decide) (br_f (by decide) (br_f (by decide) (br_f (by decide) (br_f (by decide) (br_t rfl (br_f b (br_f d (br_t rfl h)))))))))))
  · exact br_t a (br_f (by decide) (br_t (by decide) (br_t rfl h)))
  · exact br_t a (br_f (by decide) (br_t (by decide) (br_t rfl h)))
theorem rc_num {P : SX → Prop} {c M : Int32} (h8 : ¬ x_mode < 8) (hM : ¬ M = -1) (hn : ∀ Q : Int32 → Prop, Q M → wpX_nextNumberMode Q x_mode c) (h : P (x_length, x_nodeCount, x_bound, x_fault, x_faultPlace, M, x_at, x_tokenStart, x_textCount, x_escaped, x_valueSlot, x_valueName, x_depth, x_outputLength, x_text, x_typeKind, x_typeDetail, x_typeLeast, x_typeMost, x_fieldCount, x_fieldName, x_fieldType, x_fieldNeeded, x_tagType, x_nodeKind, x_nodeValue, x_nodeParent, x_nodeName, x_nodeSlot, x_nodeStart, x_nodeTag, x_completeCount, x_openNode, x_openSlot, x_openNames, x_openNext, x_openComma, x_output)) : wpX_readCharacter P (x_length, x_nodeCount, x_bound, x_fault, x_faultPlace, x_mode, x_at, x_tokenStart, x_textCount, x_escaped, x_valueSlot, x_valueName, x_depth, x_outputLength, x_text, x_typeKind, x_typeDetail, x_typeLeast, x_typeMost, x_fieldCount, x_fieldName, x_fieldType, x_fieldNeeded, x_tagType, x_nodeKind, x_nodeValue, x_nodeParent, x_nodeName, x_nodeSlot, x_nodeStart, x_nodeTag, x_completeCount, x_openNode, x_openSlot, x_openNames, x_openNext, x_openComma, x_output) c :=
  br_f h8 (hn _ (br_f hM h))
/-- digits go by -/
theorem bx_dg (hL : L ≤ 96) {M : Int32} (hM : M = 10 ∨ M = 12 ∨ M = 15) : ∀ (m i j : Nat) (a : Int32), i + m = j → j ≤ L → (∀ k, i ≤ k → k < j → x_text k ≤ 9) → ∃ a', bx_R i (nI L, x_nodeCount, x_bound, 0, x_faultPlace, M, a, x_tokenStart, x_textCount, x_escaped, x_valueSlot, x_valueName, x_depth, x_outputLength, x_text, x_typeKind, x_typeDetail, x_typeLeast, x_typeMost, x_fieldCount, x_fieldName, x_fieldType, x_fieldNeeded, x_tagType, x_nodeKind, x_nodeValue, x_nodeParent, x_nodeName, x_nodeSlot, x_nodeStart, x_nodeTag, x_completeCount, x_openNode, x_openSlot, x_openNames, x_openNext, x_openComma, x_output) j (nI L, x_nodeCount, x_bound, 0, x_faultPlace, M, a', x_tokenStart, x_textCount, x_escaped, x_valueSlot, x_valueName, x_depth, x_outputLength, x_text, x_typeKind, x_typeDetail, x_typeLeast, x_typeMost, x_fieldCount, x_fieldName, x_fieldType, x_fieldNeeded, x_tagType, x_nodeKind, x_nodeValue, x_nodeParent, x_nodeName, x_nodeSlot, x_nodeStart, x_nodeTag, x_completeCount, x_openNode, x_openSlot, x_openNames, x_openNext, x_openComma, x_output) := by
  have h8 : ¬ M < 8 := by rcases hM with rfl | rfl | rfl <;> decide
  have hm : ¬ M = -1 := by rcases hM with rfl | rfl | rfl <;> decide
  intro m
  induction m with
  | zero =>
    intro i j a h1 h2 h3
    have : i = j := by omega
    subst this
    exact ⟨a, bx_0 _ _⟩
  | succ m ih =>
    intro i j a h1 h2 h3
    obtain ⟨a', h'⟩ := ih (i + 1) j (nI i) (by omega) h2 (fun k b d => h3 k (by omega) d)
    exact ⟨a', bx_T (bx_1 (by omega) hL _ (fun P hP => rc_num h8 hm (fun Q hQ => nn_d hM (Int32.not_lt.mpr (h3 i (by omega) (by omega))) hQ) hP)) h'⟩
end
end
section
/-! the component's walk over a number -/
def xn_m (c : Int32) : Int32 := if c = 17 then 8 else if c = 0 then 9 else 10
/-- the mode M behind the whole part or the fraction that ends at e -/
def xn_M (t : Nat → Int32) (L e : Nat) (M : Int32) : Prop :=
  (M = 9 ∨ M = 10 ∨ M = 12) ∧ (M = 10 ∨ M = 12 → ns_N t L e) ∧ (e < L → M = 9 ∨ M = 10 → ¬ t e = 18)
section
variable {x_length x_nodeCount x_bound x_fault x_faultPlace x_mode x_at x_tokenStart x_textCount x_escaped x_valueSlot x_valueName x_depth x_outputLength : Int32} {x_text x_typeKind x_typeDetail x_typeLeast x_typeMost x_fieldCount x_fieldName x_fieldType x_fieldNeeded x_tagType x_nodeKind x_nodeValue x_nodeParent x_nodeName x_nodeSlot x_nodeStart x_nodeTag x_completeCount x_openNode x_openSlot x_openNames x_openNext x_openComma x_output : Nat → Int32} {L : Nat}
theorem xw_I (hL : L ≤ 96) {b i a : Nat} (hI : ns_I x_text L b i a) (a0 : Int32) : ∃ M a', (M = 9 ∨ M = 10 ∧ ns_N x_text L a) ∧ bx_R (b + 1) (nI L, x_nodeCount, x_bound, 0, x_faultPlace, xn_m (x_text b), a0, x_tokenStart, x_textCount, x_escaped, x_valueSlot, x_valueName, x_depth, x_outputLength, x_text, x_typeKind, x_typeDetail, x_typeLeast, x_typeMost, x_fieldCount, x_fieldName, x_fieldType, x_fieldNeeded, x_tagType, x_nodeKind, x_nodeValue, x_nodeParent, x_nodeName, x_nodeSlot, x_nodeStart, x_nodeTag, x_completeCount, x_openNode, x_openSlot, x_openNames, x_openNext, x_openComma, x_output) a (nI L, x_nodeCount, x_bound, 0, x_faultPlace, M, a', x_tokenStart, x_textCount, x_escaped, x_valueSlot, x_valueName, x_depth, x_outputLength, x_text, x_typeKind, x_typeDetail, x_typeLeast, x_typeMost, x_fieldCount, x_fieldName, x_fieldType, x_fieldNeeded, x_tagType, x_nodeKind, x_nodeValue, x_nodeParent, x_nodeName, x_nodeSlot, x_nodeStart, x_nodeTag, x_completeCount, x_openNode, x_openSlot, x_openNames, x_openNext, x_openComma, x_output) := by
  obtain ⟨h1, h2, h3, h4⟩ := hI
  have h3' : ¬ 9 < x_text i := Int32.not_lt.mpr h3
  rcases h1 with ⟨h1, rfl⟩ | ⟨h1, rfl⟩
  · have e0 : xn_m (x_text b) = 8 := by rw [h1]; rfl
    rw [e0]
    rcases h4 with ⟨z, rfl⟩ | ⟨z, l1, l2, l3⟩
    · exact ⟨9, nI (b + 1), Or.inl rfl, bx_1 h2 hL _ (fun P hP => rc_num (by decide) (by decide) (fun Q hQ => nn_8 h3' (fun _ => hQ) (fun w => absurd z w)) hP)⟩
    · obtain ⟨a', h'⟩ := bx_dg (x_nodeCount := x_nodeCount) (x_bound := x_bound) (x_faultPlace := x_faultPlace) (x_tokenStart := x_tokenStart) (x_textCount := x_textCount) (x_escaped := x_escaped) (x_valueSlot := x_valueSlot) (x_valueName := x_valueName) (x_depth := x_depth) (x_outputLength := x_outputLength) (x_text := x_text) (x_typeKind := x_typeKind) (x_typeDetail := x_typeDetail) (x_typeLeast := x_typeLeast) (x_typeMost := x_typeMost) (x_fieldCount := x_fieldCount) (x_fieldName := x_fieldName) (x_fieldType := x_fieldType) (x_fieldNeeded := x_fieldNeeded) (x_tagType := x_tagType) (x_nodeKind := x_nodeKind) (x_nodeValue := x_nodeValue) (x_nodeParent := x_nodeParent) (x_nodeName := x_nodeName) (x_nodeSlot := x_nodeSlot) (x_nodeStart := x_nodeStart) (x_nodeTag := x_nodeTag) (x_completeCount := x_completeCount) (x_openNode := x_openNode) (x_openSlot := x_openSlot) (x_openNames := x_openNames) (x_openNext := x_openNext) (x_openComma := x_openComma) (x_output := x_output) hL (Or.inl rfl) (a - (b + 1 + 1)) (b + 1 + 1) a (nI (b + 1)) (by omega) l2.2.1 (fun k p q => l2.2.2 k (by omega) q)
      exact ⟨10, a', Or.inr ⟨rfl, l3⟩, bx_T (bx_1 h2 hL _ (fun P hP => rc_num (by decide) (by decide) (fun Q hQ => nn_8 h3' (fun w => absurd w z) (fun _ => hQ)) hP)) h'⟩
  · have n17 : ¬ x_text i = 17 := by intro e; rw [e] at h1; exact absurd h1 (by decide)
    rcases h4 with ⟨z, rfl⟩ | ⟨z, l1, l2, l3⟩
    · have e0 : xn_m (x_text i) = 9 := by rw [z]; rfl
      rw [e0]
      exact ⟨9, a0, Or.inl rfl, bx_0 _ _⟩
    · have e0 : xn_m (x_text i) = 10 := by unfold xn_m; rw [if_neg n17, if_neg z]
      rw [e0]
      obtain ⟨a', h'⟩ := bx_dg (x_nodeCount := x_nodeCount) (x_bound := x_bound) (x_faultPlace := x_faultPlace) (x_tokenStart := x_tokenStart) (x_textCount := x_textCount) (x_escaped := x_escaped) (x_valueSlot := x_valueSlot) (x_valueName := x_valueName) (x_depth := x_depth) (x_outputLength := x_outputLength) (x_text := x_text) (x_typeKind := x_typeKind) (x_typeDetail := x_typeDetail) (x_typeLeast := x_typeLeast) (x_typeMost := x_typeMost) (x_fieldCount := x_fieldCount) (x_fieldName := x_fieldName) (x_fieldType := x_fieldType) (x_fieldNeeded := x_fieldNeeded) (x_tagType := x_tagType) (x_nodeKind := x_nodeKind) (x_nodeValue := x_nodeValue) (x_nodeParent := x_nodeParent) (x_nodeName := x_nodeName) (x_nodeSlot := x_nodeSlot) (x_nodeStart := x_nodeStart) (x_nodeTag := x_nodeTag) (x_completeCount := x_completeCount) (x_openNode := x_openNode) (x_openSlot := x_openSlot) (x_openNames := x_openNames) (x_openNext := x_openNext) (x_openComma := x_openComma) (x_output := x_output) hL (Or.inl rfl) (a - (i + 1)) (i + 1) a a0 (by omega) l2.2.1 (fun k p q => l2.2.2 k (by omega) q)
      exact ⟨10, a', Or.inr ⟨rfl, l3⟩, h'⟩
theorem xw_F (hL : L ≤ 96) {a e : Nat} {M : Int32} (hM : M = 9 ∨ M = 10 ∧ ns_N x_text L a) (hF : ns_F x_text L a e) (a0 : Int32) : ∃ M' a', xn_M x_text L e M' ∧ bx_R a (nI L, x_nodeCount, x_bound, 0, x_faultPlace, M, a0, x_tokenStart, x_textCount, x_escaped, x_valueSlot, x_valueName, x_depth, x_outputLength, x_text, x_typeKind, x_typeDetail, x_typeLeast, x_typeMost, x_fieldCount, x_fieldName, x_fieldType, x_fieldNeeded, x_tagType, x_nodeKind, x_nodeValue, x_nodeParent, x_nodeName, x_nodeSlot, x_nodeStart, x_nodeTag, x_completeCount, x_openNode, x_openSlot, x_openNames, x_openNext, x_openComma, x_output) e (nI L, x_nodeCount, x_bound, 0, x_faultPlace, M', a', x_tokenStart, x_textCount, x_escaped, x_valueSlot, x_valueName, x_depth, x_outputLength, x_text, x_typeKind, x_typeDetail, x_typeLeast, x_typeMost, x_fieldCount, x_fieldName, x_fieldType, x_fieldNeeded, x_tagType, x_nodeKind, x_nodeValue, x_nodeParent, x_nodeName, x_nodeSlot, x_nodeStart, x_nodeTag, x_completeCount, x_openNode, x_openSlot, x_openNames, x_openNext, x_openComma, x_output) := by
  rcases hF with ⟨h1, rfl⟩ | ⟨h1, h2, h3, h4, h5⟩
  · refine ⟨M, a0, ⟨by rcases hM with h | h; exact Or.inl h; exact Or.inr (Or.inl h.1), fun w => ?_, fun w _ q => h1 ⟨w, q⟩⟩, bx_0 _ _⟩
    rcases hM with h | h
    · rw [h] at w; exact absurd w (by decide)
    · exact h.2
  · have hM' : M = 9 ∨ M = 10 := by rcases hM with h | h; exact Or.inl h; exact Or.inr h.1
    have h8 : ¬ M < 8 := by rcases hM' with rfl | rfl <;> decide
    have heL := h4.2.1
    obtain ⟨a', h'⟩ := bx_dg (x_nodeCount := x_nodeCount) (x_bound := x_bound) (x_faultPlace := x_faultPlace) (x_tokenStart := x_tokenStart) (x_textCount := x_textCount) (x_escaped := x_escaped) (x_valueSlot := x_valueSlot) (x_valueName := x_valueName) (x_depth := x_depth) (x_outputLength := x_outputLength) (x_text := x_text) (x_typeKind := x_typeKind) (x_typeDetail := x_typeDetail) (x_typeLeast := x_typeLeast) (x_typeMost := x_typeMost) (x_fieldCount := x_fieldCount) (x_fieldName := x_fieldName) (x_fieldType := x_fieldType) (x_fieldNeeded := x_fieldNeeded) (x_tagType := x_tagType) (x_nodeKind := x_nodeKind) (x_nodeValue := x_nodeValue) (x_nodeParent := x_nodeParent) (x_nodeName := x_nodeName) (x_nodeSlot := x_nodeSlot) (x_nodeStart := x_nodeStart) (x_nodeTag := x_nodeTag) (x_completeCount := x_completeCount) (x_openNode := x_openNode) (x_openSlot := x_openSlot) (x_openNames := x_openNames) (x_openNext := x_openNext) (x_openComma := x_openComma) (x_output := x_output) hL (M := 12) (Or.inr (Or.inl rfl)) (e - (a + 1 + 1)) (a + 1 + 1) e (nI (a + 1)) (by omega) h4.2.1 (fun k p q => h4.2.2 k (by omega) q)
    refine ⟨12, a', ⟨Or.inr (Or.inr rfl), fun _ => h5, fun _ w => absurd w (by decide)⟩, ?_⟩
    refine bx_T (bx_1 h1 hL (nI L, x_nodeCount, x_bound, 0, x_faultPlace, 11, nI a, x_tokenStart, x_textCount, x_escaped, x_valueSlot, x_valueName, x_depth, x_outputLength, x_text, x_typeKind, x_typeDetail, x_typeLeast, x_typeMost, x_fieldCount, x_fieldName, x_fieldType, x_fieldNeeded, x_tagType, x_nodeKind, x_nodeValue, x_nodeParent, x_nodeName, x_nodeSlot, x_nodeStart, x_nodeTag, x_completeCount, x_openNode, x_openSlot, x_openNames, x_openNext, x_openComma, x_output) (fun P hP => ?_)) (bx_T (bx_1 (by omega) hL _ (fun P hP => rc_num (by decide) (by decide) (fun Q hQ => nn_11 (Int32.not_lt.mpr (h4.2.2 (a + 1) (by omega) (by omega))) hQ) hP)) h')
    rw [h2]
    exact rc_num h8 (by decide) (fun Q hQ => nn_p hM' hQ) hP
/-- to the power's digits -/
theorem xw_S (hL : L ≤ 96) {e s : Nat} {M : Int32} (hM : M = 9 ∨ M = 10 ∨ M = 12) (h1 : e < L) (h2 : x_text e = 19) (hS : ns_S x_text L e s) (a0 : Int32) : ∃ M' a', (M' = 13 ∧ s = e + 1 ∧ ¬ (e + 1 < L ∧ (x_text (e + 1) = 17 ∨ x_text (e + 1) = 31)) ∨ M' = 14) ∧ bx_R e (nI L, x_nodeCount, x_bound, 0, x_faultPlace, M, a0, x_tokenStart, x_textCount, x_escaped, x_valueSlot, x_valueName, x_depth, x_outputLength, x_text, x_typeKind, x_typeDetail, x_typeLeast, x_typeMost, x_fieldCount, x_fieldName, x_fieldType, x_fieldNeeded, x_tagType, x_nodeKind, x_nodeValue, x_nodeParent, x_nodeName, x_nodeSlot, x_nodeStart, x_nodeTag, x_completeCount, x_openNode, x_openSlot, x_openNames, x_openNext, x_openComma, x_output) s (nI L, x_nodeCount, x_bound, 0, x_faultPlace, M', a', x_tokenStart, x_textCount, x_escaped, x_valueSlot, x_valueName, x_depth, x_outputLength, x_text, x_typeKind, x_typeDetail, x_typeLeast, x_typeMost, x_fieldCount, x_fieldName, x_fieldType, x_fieldNeeded, x_tagType, x_nodeKind, x_nodeValue, x_nodeParent, x_nodeName, x_nodeSlot, x_nodeStart, x_nodeTag, x_completeCount, x_openNode, x_openSlot, x_openNames, x_openNext, x_openComma, x_output) := by
  have h8 : ¬ M < 8 := by rcases hM with rfl | rfl | rfl <;> decide
  have st : bx_R e (nI L, x_nodeCount, x_bound, 0, x_faultPlace, M, a0, x_tokenStart, x_textCount, x_escaped, x_valueSlot, x_valueName, x_depth, x_outputLength, x_text, x_typeKind, x_typeDetail, x_typeLeast, x_typeMost, x_fieldCount, x_fieldName, x_fieldType, x_fieldNeeded, x_tagType, x_nodeKind, x_nodeValue, x_nodeParent, x_nodeName, x_nodeSlot, x_nodeStart, x_nodeTag, x_completeCount, x_openNode, x_openSlot, x_openNames, x_openNext, x_openComma, x_output) (e + 1) (nI L, x_nodeCount, x_bound, 0, x_faultPlace, 13, nI e, x_tokenStart, x_textCount, x_escaped, x_valueSlot, x_valueName, x_depth, x_outputLength, x_text, x_typeKind, x_typeDetail, x_typeLeast, x_typeMost, x_fieldCount, x_fieldName, x_fieldType, x_fieldNeeded, x_tagType, x_nodeKind, x_nodeValue, x_nodeParent, x_nodeName, x_nodeSlot, x_nodeStart, x_nodeTag, x_completeCount, x_openNode, x_openSlot, x_openNames, x_openNext, x_openComma, x_output) := bx_1 h1 hL _ (fun P hP => by rw [h2]; exact rc_num h8 (by decide) (fun Q hQ => nn_e hM hQ) hP)
  rcases hS with ⟨rfl, g⟩ | ⟨rfl, g1, g2⟩
  · exact ⟨13, nI e, Or.inl ⟨rfl, rfl, g⟩, st⟩
  · exact ⟨14, nI (e + 1), Or.inr rfl, bx_T st (bx_1 g1 hL _ (fun P hP => rc_num (by decide) (by decide) (fun Q hQ => nn_13s g2 hQ) hP))⟩
theorem xw_E (hL : L ≤ 96) {e s q : Nat} {M : Int32} (hM : xn_M x_text L e M) (hE : ns_E x_text L e s q) (a0 : Int32) : ∃ M' a', (M' = 9 ∨ M' = 10 ∨ M' = 12 ∨ M' = 15) ∧ (q < L → nn_S M' (x_text q)) ∧ bx_R e (nI L, x_nodeCount, x_bound, 0, x_faultPlace, M, a0, x_tokenStart, x_textCount, x_escaped, x_valueSlot, x_valueName, x_depth, x_outputLength, x_text, x_typeKind, x_typeDetail, x_typeLeast, x_typeMost, x_fieldCount, x_fieldName, x_fieldType, x_fieldNeeded, x_tagType, x_nodeKind, x_nodeValue, x_nodeParent, x_nodeName, x_nodeSlot, x_nodeStart, x_nodeTag, x_completeCount, x_openNode, x_openSlot, x_openNames, x_openNext, x_openComma, x_output) q (nI L, x_nodeCount, x_bound, 0, x_faultPlace, M', a', x_tokenStart, x_textCount, x_escaped, x_valueSlot, x_valueName, x_depth, x_outputLength, x_text, x_typeKind, x_typeDetail, x_typeLeast, x_typeMost, x_fieldCount, x_fieldName, x_fieldType, x_fieldNeeded, x_tagType, x_nodeKind, x_nodeValue, x_nodeParent, x_nodeName, x_nodeSlot, x_nodeStart, x_nodeTag, x_completeCount, x_openNode, x_openSlot, x_openNames, x_openNext, x_openComma, x_output) := by
  obtain ⟨m1, m2, m3⟩ := hM
  rcases hE with ⟨h1, rfl⟩ | ⟨h1, h2, h3, h4, h5, h6⟩
  · refine ⟨M, a0, by rcases m1 with h | h | h <;> simp [h], fun w => ?_, bx_0 _ _⟩
    have n19 : ¬ x_text q = 19 := fun e => h1 ⟨w, e⟩
    have dg : M = 10 ∨ M = 12 → 9 < x_text q := fun z => (m2 z).resolve_left (by omega)
    rcases m1 with h | h | h
    · exact Or.inr (Or.inl ⟨h, m3 w (Or.inl h), n19⟩)
    · exact Or.inr (Or.inr (Or.inl ⟨h, dg (Or.inl h), m3 w (Or.inr h), n19⟩))
    · exact Or.inr (Or.inr (Or.inr (Or.inr (Or.inl ⟨h, dg (Or.inr h), n19⟩))))
  · obtain ⟨M', a', hM', st⟩ := xw_S (x_nodeCount := x_nodeCount) (x_bound := x_bound) (x_faultPlace := x_faultPlace) (x_tokenStart := x_tokenStart) (x_textCount := x_textCount) (x_escaped := x_escaped) (x_valueSlot := x_valueSlot) (x_valueName := x_valueName) (x_depth := x_depth) (x_outputLength := x_outputLength) (x_text := x_text) (x_typeKind := x_typeKind) (x_typeDetail := x_typeDetail) (x_typeLeast := x_typeLeast) (x_typeMost := x_typeMost) (x_fieldCount := x_fieldCount) (x_fieldName := x_fieldName) (x_fieldType := x_fieldType) (x_fieldNeeded := x_fieldNeeded) (x_tagType := x_tagType) (x_nodeKind := x_nodeKind) (x_nodeValue := x_nodeValue) (x_nodeParent := x_nodeParent) (x_nodeName := x_nodeName) (x_nodeSlot := x_nodeSlot) (x_nodeStart := x_nodeStart) (x_nodeTag := x_nodeTag) (x_completeCount := x_completeCount) (x_openNode := x_openNode) (x_openSlot := x_openSlot) (x_openNames := x_openNames) (x_openNext := x_openNext) (x_openComma := x_openComma) (x_output := x_output) hL m1 h1 h2 h3 a0
    have hs : s < L := by have := h5.2.1; omega
    have hd : ¬ 9 < x_text s := Int32.not_lt.mpr (h5.2.2 s (by omega) h4)
    have st2 : bx_R s (nI L, x_nodeCount, x_bound, 0, x_faultPlace, M', a', x_tokenStart, x_textCount, x_escaped, x_valueSlot, x_valueName, x_depth, x_outputLength, x_text, x_typeKind, x_typeDetail, x_typeLeast, x_typeMost, x_fieldCount, x_fieldName, x_fieldType, x_fieldNeeded, x_tagType, x_nodeKind, x_nodeValue, x_nodeParent, x_nodeName, x_nodeSlot, x_nodeStart, x_nodeTag, x_completeCount, x_openNode, x_openSlot, x_openNames, x_openNext, x_openComma, x_output) (s + 1) (nI L, x_nodeCount, x_bound, 0, x_faultPlace, 15, nI s, x_tokenStart, x_textCount, x_escaped, x_valueSlot, x_valueName, x_depth, x_outputLength, x_text, x_typeKind, x_typeDetail, x_typeLeast, x_typeMost, x_fieldCount, x_fieldName, x_fieldType, x_fieldNeeded, x_tagType, x_nodeKind, x_nodeValue, x_nodeParent, x_nodeName, x_nodeSlot, x_nodeStart, x_nodeTag, x_completeCount, x_openNode, x_openSlot, x_openNames, x_openNext, x_openComma, x_output) := by
      refine bx_1 hs hL _ (fun P hP => ?_)
      rcases hM' with ⟨rfl, -, -⟩ | rfl
      · exact rc_num (by decide) (by decide) (fun Q hQ => nn_13d hd hQ) hP
      · exact rc_num (by decide) (by decide) (fun Q hQ => nn_14 hd hQ) hP
    obtain ⟨a'', h''⟩ := bx_dg (x_nodeCount := x_nodeCount) (x_bound := x_bound) (x_faultPlace := x_faultPlace) (x_tokenStart := x_tokenStart) (x_textCount := x_textCount) (x_escaped := x_escaped) (x_valueSlot := x_valueSlot) (x_valueName := x_valueName) (x_depth := x_depth) (x_outputLength := x_outputLength) (x_text := x_text) (x_typeKind := x_typeKind) (x_typeDetail := x_typeDetail) (x_typeLeast := x_typeLeast) (x_typeMost := x_typeMost) (x_fieldCount := x_fieldCount) (x_fieldName := x_fieldName) (x_fieldType := x_fieldType) (x_fieldNeeded := x_fieldNeeded) (x_tagType := x_tagType) (x_nodeKind := x_nodeKind) (x_nodeValue := x_nodeValue) (x_nodeParent := x_nodeParent) (x_nodeName := x_nodeName) (x_nodeSlot := x_nodeSlot) (x_nodeStart := x_nodeStart) (x_nodeTag := x_nodeTag) (x_completeCount := x_completeCount) (x_openNode := x_openNode) (x_openSlot := x_openSlot) (x_openNames := x_openNames) (x_openNext := x_openNext) (x_openComma := x_openComma) (x_output := x_output) hL (M := 15) (Or.inr (Or.inr rfl)) (q - (s + 1)) (s + 1) q (nI s) (by omega) h5.2.1 (fun k p r => h5.2.2 k (by omega) r)
    exact ⟨15, a'', by simp, fun w => Or.inr (Or.inr (Or.inr (Or.inr (Or.inr (Or.inr (Or.inr ⟨rfl, h6.resolve_left (by omega)⟩)))))), bx_T st (bx_T st2 h'')⟩
theorem xw_W (hL : L ≤ 96) {b q : Nat} (hW : ns_W x_text L b q) (a0 : Int32) : ∃ M a', (M = 9 ∨ M = 10 ∨ M = 12 ∨ M = 15) ∧ (q < L → nn_S M (x_text q)) ∧ bx_R (b + 1) (nI L, x_nodeCount, x_bound, 0, x_faultPlace, xn_m (x_text b), a0, x_tokenStart, x_textCount, x_escaped, x_valueSlot, x_valueName, x_depth, x_outputLength, x_text, x_typeKind, x_typeDetail, x_typeLeast, x_typeMost, x_fieldCount, x_fieldName, x_fieldType, x_fieldNeeded, x_tagType, x_nodeKind, x_nodeValue, x_nodeParent, x_nodeName, x_nodeSlot, x_nodeStart, x_nodeTag, x_completeCount, x_openNode, x_openSlot, x_openNames, x_openNext, x_openComma, x_output) q (nI L, x_nodeCount, x_bound, 0, x_faultPlace, M, a', x_tokenStart, x_textCount, x_escaped, x_valueSlot, x_valueName, x_depth, x_outputLength, x_text, x_typeKind, x_typeDetail, x_typeLeast, x_typeMost, x_fieldCount, x_fieldName, x_fieldType, x_fieldNeeded, x_tagType, x_nodeKind, x_nodeValue, x_nodeParent, x_nodeName, x_nodeSlot, x_nodeStart, x_nodeTag, x_completeCount, x_openNode, x_openSlot, x_openNames, x_openNext, x_openComma, x_output) := by
  obtain ⟨i, a, e, s, h1, h2, h3⟩ := hW
  obtain ⟨M1, a1, w1, r1⟩ := xw_I (x_nodeCount := x_nodeCount) (x_bound := x_bound) (x_faultPlace := x_faultPlace) (x_tokenStart := x_tokenStart) (x_textCount := x_textCount) (x_escaped := x_escaped) (x_valueSlot := x_valueSlot) (x_valueName := x_valueName) (x_depth := x_depth) (x_outputLength := x_outputLength) (x_text := x_text) (x_typeKind := x_typeKind) (x_typeDetail := x_typeDetail) (x_typeLeast := x_typeLeast) (x_typeMost := x_typeMost) (x_fieldCount := x_fieldCount) (x_fieldName := x_fieldName) (x_fieldType := x_fieldType) (x_fieldNeeded := x_fieldNeeded) (x_tagType := x_tagType) (x_nodeKind := x_nodeKind) (x_nodeValue := x_nodeValue) (x_nodeParent := x_nodeParent) (x_nodeName := x_nodeName) (x_nodeSlot := x_nodeSlot) (x_nodeStart := x_nodeStart) (x_nodeTag := x_nodeTag) (x_completeCount := x_completeCount) (x_openNode := x_openNode) (x_openSlot := x_openSlot) (x_openNames := x_openNames) (x_openNext := x_openNext) (x_openComma := x_openComma) (x_output := x_output) hL h1 a0
  obtain ⟨M2, a2, w2, r2⟩ := xw_F (x_nodeCount := x_nodeCount) (x_bound := x_bound) (x_faultPlace := x_faultPlace) (x_tokenStart := x_tokenStart) (x_textCount := x_textCount) (x_escaped := x_escaped) (x_valueSlot := x_valueSlot) (x_valueName := x_valueName) (x_depth := x_depth) (x_outputLength := x_outputLength) (x_text := x_text) (x_typeKind := x_typeKind) (x_typeDetail := x_typeDetail) (x_typeLeast := x_typeLeast) (x_typeMost := x_typeMost) (x_fieldCount := x_fieldCount) (x_fieldName := x_fieldName) (x_fieldType := x_fieldType) (x_fieldNeeded := x_fieldNeeded) (x_tagType := x_tagType) (x_nodeKind := x_nodeKind) (x_nodeValue := x_nodeValue) (x_nodeParent := x_nodeParent) (x_nodeName := x_nodeName) (x_nodeSlot := x_nodeSlot) (x_nodeStart := x_nodeStart) (x_nodeTag := x_nodeTag) (x_completeCount := x_completeCount) (x_openNode := x_openNode) (x_openSlot := x_openSlot) (x_openNames := x_openNames) (x_openNext := x_openNext) (x_openComma := x_openComma) (x_output := x_output) hL w1 h2 a1
  obtain ⟨M3, a3, w3, w4, r3⟩ := xw_E (x_nodeCount := x_nodeCount) (x_bound := x_bound) (x_faultPlace := x_faultPlace) (x_tokenStart := x_tokenStart) (x_textCount := x_textCount) (x_escaped := x_escaped) (x_valueSlot := x_valueSlot) (x_valueName := x_valueName) (x_depth := x_depth) (x_outputLength := x_outputLength) (x_text := x_text) (x_typeKind := x_typeKind) (x_typeDetail := x_typeDetail) (x_typeLeast := x_typeLeast) (x_typeMost := x_typeMost) (x_fieldCount := x_fieldCount) (x_fieldName := x_fieldName) (x_fieldType := x_fieldType) (x_fieldNeeded := x_fieldNeeded) (x_tagType := x_tagType) (x_nodeKind := x_nodeKind) (x_nodeValue := x_nodeValue) (x_nodeParent := x_nodeParent) (x_nodeName := x_nodeName) (x_nodeSlot := x_nodeSlot) (x_nodeStart := x_nodeStart) (x_nodeTag := x_nodeTag) (x_completeCount := x_completeCount) (x_openNode := x_openNode) (x_openSlot := x_openSlot) (x_openNames := x_openNames) (x_openNext := x_openNext) (x_openComma := x_openComma) (x_output := x_output) hL w2 h3 a2
  exact ⟨M3, a3, w3, w4, bx_T r1 (bx_T r2 r3)⟩
theorem xw_X (hL : L ≤ 96) {b z : Nat} (hX : ns_X x_text L b z) (a0 : Int32) : ∃ M a', (M = 8 ∨ M = 11 ∨ M = 13 ∨ M = 14) ∧ (z < L → nn_S M (x_text z)) ∧ bx_R (b + 1) (nI L, x_nodeCount, x_bound, 0, x_faultPlace, xn_m (x_text b), a0, x_tokenStart, x_textCount, x_escaped, x_valueSlot, x_valueName, x_depth, x_outputLength, x_text, x_typeKind, x_typeDetail, x_typeLeast, x_typeMost, x_fieldCount, x_fieldName, x_fieldType, x_fieldNeeded, x_tagType, x_nodeKind, x_nodeValue, x_nodeParent, x_nodeName, x_nodeSlot, x_nodeStart, x_nodeTag, x_completeCount, x_openNode, x_openSlot, x_openNames, x_openNext, x_openComma, x_output) z (nI L, x_nodeCount, x_bound, 0, x_faultPlace, M, a', x_tokenStart, x_textCount, x_escaped, x_valueSlot, x_valueName, x_depth, x_outputLength, x_text, x_typeKind, x_typeDetail, x_typeLeast, x_typeMost, x_fieldCount, x_fieldName, x_fieldType, x_fieldNeeded, x_tagType, x_nodeKind, x_nodeValue, x_nodeParent, x_nodeName, x_nodeSlot, x_nodeStart, x_nodeTag, x_completeCount, x_openNode, x_openSlot, x_openNames, x_openNext, x_openComma, x_output) := by
  rcases hX with ⟨h1, rfl, h2⟩ | ⟨i, a, h1, h2, h3, rfl, h4⟩ | ⟨i, a, e, h1, h2, h3, h4, h5, h6⟩
  · have e0 : xn_m (x_text b) = 8 := by rw [h1]; rfl
    rw [e0]
    exact ⟨8, a0, Or.inl rfl, fun w => Or.inl ⟨rfl, h2.resolve_left (by omega)⟩, bx_0 _ _⟩
  · obtain ⟨M1, a1, w1, r1⟩ := xw_I (x_nodeCount := x_nodeCount) (x_bound := x_bound) (x_faultPlace := x_faultPlace) (x_tokenStart := x_tokenStart) (x_textCount := x_textCount) (x_escaped := x_escaped) (x_valueSlot := x_valueSlot) (x_valueName := x_valueName) (x_depth := x_depth) (x_outputLength := x_outputLength) (x_text := x_text) (x_typeKind := x_typeKind) (x_typeDetail := x_typeDetail) (x_typeLeast := x_typeLeast) (x_typeMost := x_typeMost) (x_fieldCount := x_fieldCount) (x_fieldName := x_fieldName) (x_fieldType := x_fieldType) (x_fieldNeeded := x_fieldNeeded) (x_tagType := x_tagType) (x_nodeKind := x_nodeKind) (x_nodeValue := x_nodeValue) (x_nodeParent := x_nodeParent) (x_nodeName := x_nodeName) (x_nodeSlot := x_nodeSlot) (x_nodeStart := x_nodeStart) (x_nodeTag := x_nodeTag) (x_completeCount := x_completeCount) (x_openNode := x_openNode) (x_openSlot := x_openSlot) (x_openNames := x_openNames) (x_openNext := x_openNext) (x_openComma := x_openComma) (x_output := x_output) hL h1 a0
    have hM' : M1 = 9 ∨ M1 = 10 := by rcases w1 with h | h; exact Or.inl h; exact Or.inr h.1
    have h8 : ¬ M1 < 8 := by rcases hM' with rfl | rfl <;> decide
    refine ⟨11, nI a, by simp, fun w => Or.inr (Or.inr (Or.inr (Or.inl ⟨rfl, h4.resolve_left (by omega)⟩))), bx_T r1 (bx_1 h2 hL _ (fun P hP => ?_))⟩
    rw [h3]; exact rc_num h8 (by decide) (fun Q hQ => nn_p hM' hQ) hP
  · obtain ⟨M1, a1, w1, r1⟩ := xw_I (x_nodeCount := x_nodeCount) (x_bound := x_bound) (x_faultPlace := x_faultPlace) (x_tokenStart := x_tokenStart) (x_textCount := x_textCount) (x_escaped := x_escaped) (x_valueSlot := x_valueSlot) (x_valueName := x_valueName) (x_depth := x_depth) (x_outputLength := x_outputLength) (x_text := x_text) (x_typeKind := x_typeKind) (x_typeDetail := x_typeDetail) (x_typeLeast := x_typeLeast) (x_typeMost := x_typeMost) (x_fieldCount := x_fieldCount) (x_fieldName := x_fieldName) (x_fieldType := x_fieldType) (x_fieldNeeded := x_fieldNeeded) (x_tagType := x_tagType) (x_nodeKind := x_nodeKind) (x_nodeValue := x_nodeValue) (x_nodeParent := x_nodeParent) (x_nodeName := x_nodeName) (x_nodeSlot := x_nodeSlot) (x_nodeStart := x_nodeStart) (x_nodeTag := x_nodeTag) (x_completeCount := x_completeCount) (x_openNode := x_openNode) (x_openSlot := x_openSlot) (x_openNames := x_openNames) (x_openNext := x_openNext) (x_openComma := x_openComma) (x_output := x_output) hL h1 a0
    obtain ⟨M2, a2, w2, r2⟩ := xw_F (x_nodeCount := x_nodeCount) (x_bound := x_bound) (x_faultPlace := x_faultPlace) (x_tokenStart := x_tokenStart) (x_textCount := x_textCount) (x_escaped := x_escaped) (x_valueSlot := x_valueSlot) (x_valueName := x_valueName) (x_depth := x_depth) (x_outputLength := x_outputLength) (x_text := x_text) (x_typeKind := x_typeKind) (x_typeDetail := x_typeDetail) (x_typeLeast := x_typeLeast) (x_typeMost := x_typeMost) (x_fieldCount := x_fieldCount) (x_fieldName := x_fieldName) (x_fieldType := x_fieldType) (x_fieldNeeded := x_fieldNeeded) (x_tagType := x_tagType) (x_nodeKind := x_nodeKind) (x_nodeValue := x_nodeValue) (x_nodeParent := x_nodeParent) (x_nodeName := x_nodeName) (x_nodeSlot := x_nodeSlot) (x_nodeStart := x_nodeStart) (x_nodeTag := x_nodeTag) (x_completeCount := x_completeCount) (x_openNode := x_openNode) (x_openSlot := x_openSlot) (x_openNames := x_openNames) (x_openNext := x_openNext) (x_openComma := x_openComma) (x_output := x_output) hL w1 h2 a1
    obtain ⟨M3, a3, w3, r3⟩ := xw_S (x_nodeCount := x_nodeCount) (x_bound := x_bound) (x_faultPlace := x_faultPlace) (x_tokenStart := x_tokenStart) (x_textCount := x_textCount) (x_escaped := x_escaped) (x_valueSlot := x_valueSlot) (x_valueName := x_valueName) (x_depth := x_depth) (x_outputLength := x_outputLength) (x_text := x_text) (x_typeKind := x_typeKind) (x_typeDetail := x_typeDetail) (x_typeLeast := x_typeLeast) (x_typeMost := x_typeMost) (x_fieldCount := x_fieldCount) (x_fieldName := x_fieldName) (x_fieldType := x_fieldType) (x_fieldNeeded := x_fieldNeeded) (x_tagType := x_tagType) (x_nodeKind := x_nodeKind) (x_nodeValue := x_nodeValue) (x_nodeParent := x_nodeParent) (x_nodeName := x_nodeName) (x_nodeSlot := x_nodeSlot) (x_nodeStart := x_nodeStart) (x_nodeTag := x_nodeTag) (x_completeCount := x_completeCount) (x_openNode := x_openNode) (x_openSlot := x_openSlot) (x_openNames := x_openNames) (x_openNext := x_openNext) (x_openComma := x_openComma) (x_output := x_output) hL w2.1 h3 h4 h5 a2
    refine ⟨M3, a3, by rcases w3 with h | h; simp [h.1]; simp [h], fun w => ?_, bx_T r1 (bx_T r2 r3)⟩
    have d9 := h6.resolve_left (by omega : ¬ L ≤ z)
    rcases w3 with ⟨rfl, rfl, g⟩ | rfl
    · exact Or.inr (Or.inr (Or.inr (Or.inr (Or.inr (Or.inl ⟨rfl, d9, fun c => g ⟨w, Or.inl c⟩, fun c => g ⟨w, Or.inr c⟩⟩)))))
    · exact Or.inr (Or.inr (Or.inr (Or.inr (Or.inr (Or.inr (Or.inl ⟨rfl, d9⟩))))))
end
end
section
/-! a number's shape as the reckoning needs it -/
def nu_P (t : Nat → Int32) (b a e Q : Nat) : Prop :=
  b < a ∧ a ≤ e ∧ e ≤ Q ∧ Q ≤ 96 ∧ (e < Q → e + 1 < Q) ∧
  (∀ j, b ≤ j → j < Q → (t j = 18 ↔ a < e ∧ j = a)) ∧ (∀ j, b ≤ j → j < Q → (t j = 19 ↔ e < Q ∧ j = e)) ∧
  (∀ j, b < j → j < e → t j ≤ 9 ∨ j = a) ∧ (t b ≤ 9 ∨ t b = 17)
theorem hh_9 {x : Int32} {n : Nat} (h : x ≤ 9) (hn : 9 < n) (hn2 : n < 1000) : ¬ x = nI n := by
  rintro rfl
  exact nI_ge (b := n) (a := 9) hn (by omega) h
theorem nu_of {t : Nat → Int32} {L b Q : Nat} (hL : L ≤ 96) (hW : ns_W t L b Q) : ∃ a e, nu_P t b a e Q := by
  obtain ⟨i, a, e, s, h1, h2, h3⟩ := hW
  have x1 := ns_I_le h1
  have x2 := ns_F_le h2 x1.2.2
  have x3 := ns_E_le h3 x2.2
  have hb : t b ≤ 9 ∨ t b = 17 := by
    rcases h1.1 with h | h
    · exact Or.inr h.1
    · exact Or.inl h.1
  -- the whole part
  have dI : ∀ j, b ≤ j → j < a → t j ≤ 9 ∨ (j = b ∧ t j = 17) := by
    intro j p q
    obtain ⟨g1, g2, g3, g4⟩ := h1
    by_cases w : j < i
    · have : j = b := by rcases g1 with g | g <;> omega
      subst this
      rcases g1 with g | g
      · exact Or.inr ⟨rfl, g.1⟩
      · omega
    · refine Or.inl ?_
      rcases g4 with ⟨-, g4⟩ | ⟨-, -, g4, -⟩
      · have : j = i := by omega
        subst this; exact g3
      · exact g4.2.2 j (by omega) q
  have dF : ∀ j, a ≤ j → j < e → t j ≤ 9 ∨ (j = a ∧ t j = 18) := by
    intro j p q
    rcases h2 with ⟨-, g⟩ | ⟨-, g1, -, g3, -⟩
    · omega
    · by_cases w : j = a
      · subst w; exact Or.inr ⟨rfl, g1⟩
      · exact Or.inl (g3.2.2 j (by omega) q)
  have dE : ∀ j, e ≤ j → j < Q → t j ≤ 9 ∨ (j = e ∧ t j = 19) ∨ (j = e + 1 ∧ (t j = 17 ∨ t j = 31)) := by
    intro j p q
    rcases h3 with ⟨-, g⟩ | ⟨-, g1, g2, -, g4, -⟩
    · omega
    · by_cases w : j = e
      · subst w; exact Or.inr (Or.inl ⟨rfl, g1⟩)
      · rcases g2 with ⟨g2, -⟩ | ⟨g2, -, g3⟩
        · exact Or.inl (g4.2.2 j (by omega) q)
        · by_cases w2 : j = e + 1
          · subst w2; exact Or.inr (Or.inr ⟨rfl, g3⟩)
          · exact Or.inl (g4.2.2 j (by omega) q)
  have fr : a < e → t a = 18 := by
    intro w
    rcases h2 with ⟨-, g⟩ | ⟨-, g1, -⟩
    · omega
    · exact g1
  have ex : e < Q → t e = 19 ∧ e + 1 < Q := by
    intro w
    rcases h3 with ⟨-, g⟩ | ⟨-, g1, g2, g3, -⟩
    · omega
    · refine ⟨g1, ?_⟩
      rcases g2 with ⟨g2, -⟩ | ⟨g2, -⟩ <;> omega
  refine ⟨a, e, by omega, by omega, by omega, by omega, fun w => (ex w).2, fun j p q => ⟨fun z => ?_, fun z => ?_⟩, fun j p q => ⟨fun z => ?_, fun z => ?_⟩, fun j p q => ?_, hb⟩
  · rcases Nat.lt_or_ge j a with w | w
    · rcases dI j p w with g | ⟨-, g⟩
      · exact absurd z (hh_9 (n := 18) g (by decide) (by decide))
      · rw [z] at g; exact absurd g (by decide)
    · rcases Nat.lt_or_ge j e with w2 | w2
      · rcases dF j w w2 with g | ⟨g, -⟩
        · exact absurd z (hh_9 (n := 18) g (by decide) (by decide))
        · exact ⟨by omega, g⟩
      · rcases dE j w2 q with g | ⟨-, g⟩ | ⟨-, g⟩
        · exact absurd z (hh_9 (n := 18) g (by decide) (by decide))
        · rw [z] at g; exact absurd g (by decide)
        · rw [z] at g; exact absurd g (by decide)
  · obtain ⟨z1, rfl⟩ := z; exact fr z1
  · rcases Nat.lt_or_ge j a with w | w
    · rcases dI j p w with g | ⟨-, g⟩
      · exact absurd z (hh_9 (n := 19) g (by decide) (by decide))
      · rw [z] at g; exact absurd g (by decide)
    · rcases Nat.lt_or_ge j e with w2 | w2
      · rcases dF j w w2 with g | ⟨-, g⟩
        · exact absurd z (hh_9 (n := 19) g (by decide) (by decide))
        · rw [z] at g; exact absurd g (by decide)
      · rcases dE j w2 q with g | ⟨g, -⟩ | ⟨-, g⟩
        · exact absurd z (hh_9 (n := 19) g (by decide) (by decide))
        · exact ⟨by omega, g⟩
        · rw [z] at g; exact absurd g (by decide)
  · obtain ⟨z1, rfl⟩ := z; exact (ex z1).1
  · rcases Nat.lt_or_ge j a with w | w
    · rcases dI j (by omega) w with g | ⟨g, -⟩
      · exact Or.inl g
      · omega
    · rcases dF j w q with g | ⟨g, -⟩
      · exact Or.inl g
      · exact Or.inr g
/-! the component: where the point and the e stand -/
section
variable {x_length x_nodeCount x_bound x_fault x_faultPlace x_mode x_at x_tokenStart x_textCount x_escaped x_valueSlot x_valueName x_depth x_outputLength : Int32} {x_text x_typeKind x_typeDetail x_typeLeast x_typeMost x_fieldCount x_fieldName x_fieldType x_fieldNeeded x_tagType x_nodeKind x_nodeValue x_nodeParent x_nodeName x_nodeSlot x_nodeStart x_nodeTag x_completeCount x_openNode x_openSlot x_openNames x_openNext x_openComma x_output : Nat → Int32}
theorem xu_find {post : Int32 → Prop} {c : Int32} : ∀ (m j r E : Nat), j + m = r → r ≤ E → E ≤ 96 → (∀ i, j ≤ i → i < r → ¬ x_text i = c) → (r < E → x_text r = c) → post (nI r) → ∃ n, wX_findInNumber_5 post c (nI E) x_length x_nodeCount x_bound x_fault x_faultPlace x_mode x_at x_tokenStart x_textCount x_escaped x_valueSlot x_valueName x_depth x_outputLength x_text x_typeKind x_typeDetail x_typeLeast x_typeMost x_fieldCount x_fieldName x_fieldType x_fieldNeeded x_tagType x_nodeKind x_nodeValue x_nodeParent x_nodeName x_nodeSlot x_nodeStart x_nodeTag x_completeCount x_openNode x_openSlot x_openNames x_openNext x_openComma x_output n (nI j) := by
  intro m
  induction m with
  | zero =>
    intro j r E h1 h2 h3 h4 h5 h
    have : j = r := by omega
    subst this
    rcases Nat.lt_or_ge j E with w | w
    · refine ⟨1, br_f (nI_ge w (by omega)) ⟨vp_in_nI (by omega) (by decide), ?_⟩⟩
      rw [nI_clamp (by omega)]
      exact br_t (h5 w) h
    · have : j = E := by omega
      subst this
      exact ⟨1, br_t (nI_le (Nat.le_refl _) (by omega)) h⟩
  | succ m ih =>
    intro j r E h1 h2 h3 h4 h5 h
    obtain ⟨n, hn⟩ := ih (j + 1) r E (by omega) h2 h3 (fun i p q => h4 i (by omega) q) h5 h
    refine ⟨n + 1, br_f (nI_ge (by omega) (by omega)) ⟨vp_in_nI (by omega) (by decide), ?_⟩⟩
    rw [nI_clamp (by omega)]
    exact br_f (h4 j (by omega) (by omega)) (nm_r (nI_1 j) hn)
end
/-! the power's digits, as both add them up -/
def nu_V (px py : Nat) : Prop := (px = py ∧ py ≤ 99999) ∨ (10000 ≤ py ∧ py ≤ 99999 ∧ 10000 ≤ px ∧ px ≤ 999999)
theorem nu_10 (p c : Nat) : (10 : Int32) * nI p + nI c = nI (10 * p + c) := by
  show nI 10 * nI p + nI c = _
  rw [pk_mul, nI_add]
section
variable {x_length x_nodeCount x_bound x_fault x_faultPlace x_mode x_at x_tokenStart x_textCount x_escaped x_valueSlot x_valueName x_depth x_outputLength : Int32} {x_text x_typeKind x_typeDetail x_typeLeast x_typeMost x_fieldCount x_fieldName x_fieldType x_fieldNeeded x_tagType x_nodeKind x_nodeValue x_nodeParent x_nodeName x_nodeSlot x_nodeStart x_nodeTag x_completeCount x_openNode x_openSlot x_openNames x_openNext x_openComma x_output : Nat → Int32}
theorem nu_pow {Q f : Nat} (hC : tt_C x_text) (hQ : Q ≤ 96) : ∀ (m j px py : Nat), j + m = Q → nu_V px py →
    ∃ px' py', nu_V px' py' ∧
      (∀ postX : Int32 → Prop, (∃ n, wX_readPower_4 postX (nI f) x_length x_nodeCount x_bound x_fault x_faultPlace x_mode (nI Q) x_tokenStart x_textCount x_escaped x_valueSlot x_valueName x_depth x_outputLength x_text x_typeKind x_typeDetail x_typeLeast x_typeMost x_fieldCount x_fieldName x_fieldType x_fieldNeeded x_tagType x_nodeKind x_nodeValue x_nodeParent x_nodeName x_nodeSlot x_nodeStart x_nodeTag x_completeCount x_openNode x_openSlot x_openNames x_openNext x_openComma x_output n (nI px') (nI Q)) → ∃ n, wX_readPower_4 postX (nI f) x_length x_nodeCount x_bound x_fault x_faultPlace x_mode (nI Q) x_tokenStart x_textCount x_escaped x_valueSlot x_valueName x_depth x_outputLength x_text x_typeKind x_typeDetail x_typeLeast x_typeMost x_fieldCount x_fieldName x_fieldType x_fieldNeeded x_tagType x_nodeKind x_nodeValue x_nodeParent x_nodeName x_nodeSlot x_nodeStart x_nodeTag x_completeCount x_openNode x_openSlot x_openNames x_openNext x_openComma x_output n (nI px) (nI j)) ∧
      (∀ {y_length y_parts y_bad y_nodes y_fault y_place y_bound y_depth y_nextName y_wantsName y_wantsTag y_printed y_waiting y_scaled : Int32} {y_sort y_typeA y_typeB y_typeC y_fieldName y_fieldType y_fields y_tags y_needed y_begin y_end y_inside y_whole y_kind y_value y_parent y_name y_slotOf y_placeOf y_complete y_openNode y_openType y_openCount y_openNames y_openChoice y_output y_todo : Nat → Int32} (postY : Int32 → SY → Prop) (x2 x3 x4 x5 x8 : Int32), (∃ n, wY_units_108 postY x2 x3 x4 x5 (nI (Q - 1)) x8 y_length y_parts y_bad y_nodes y_fault y_place y_bound y_depth y_nextName y_wantsName y_wantsTag y_printed y_waiting y_scaled y_sort y_typeA y_typeB y_typeC y_fieldName y_fieldType y_fields y_tags y_needed x_text y_begin y_end y_inside y_whole y_kind y_value y_parent y_name y_slotOf y_placeOf y_complete y_openNode y_openType y_openCount y_openNames y_openChoice y_output y_todo n (nI py') (nI Q)) → ∃ n, wY_units_108 postY x2 x3 x4 x5 (nI (Q - 1)) x8 y_length y_parts y_bad y_nodes y_fault y_place y_bound y_depth y_nextName y_wantsName y_wantsTag y_printed y_waiting y_scaled y_sort y_typeA y_typeB y_typeC y_fieldName y_fieldType y_fields y_tags y_needed x_text y_begin y_end y_inside y_whole y_kind y_value y_parent y_name y_slotOf y_placeOf y_complete y_openNode y_openType y_openCount y_openNames y_openChoice y_output y_todo n (nI py) (nI j)) := by
  intro m
  induction m with
  | zero =>
    intro j px py h1 hV
    have : j = Q := by omega
    subst this
    exact ⟨px, py, hV, fun _ h => h, fun _ _ _ _ _ _ h => h⟩
  | succ m ih =>
    intro j px py h1 hV
    obtain ⟨c, hc, ec⟩ := hC j
    have bx : px < 1000000 ∧ py < 100000 := by unfold nu_V at hV; omega
    have hj : (nI j).toNatClampNeg = j := nI_clamp (by omega)
    have ij : vp_in (nI j) 96 := vp_in_nI (by omega) (by decide)
    have nX : ¬ nI Q ≤ nI j := nI_ge (by omega) (by omega)
    have nY : ¬ nI (Q - 1) < nI j := nI_nlt (by omega) (by omega)
    by_cases dg : c ≤ 9
    · have d1 : ¬ 9 < nI c := nI_nlt (b := c) (a := 9) dg (by decide)
      have d2 : ¬ (10 : Int32) ≤ nI c := nI_ge (b := 10) (by omega) (by decide)
      obtain ⟨qx, hqx, sx⟩ : ∃ qx, (qx = if px < 100000 then 10 * px + c else px) ∧ ∀ postX : Int32 → Prop, (∃ n, wX_readPower_4 postX (nI f) x_length x_nodeCount x_bound x_fault x_faultPlace x_mode (nI Q) x_tokenStart x_textCount x_escaped x_valueSlot x_valueName x_depth x_outputLength x_text x_typeKind x_typeDetail x_typeLeast x_typeMost x_fieldCount x_fieldName x_fieldType x_fieldNeeded x_tagType x_nodeKind x_nodeValue x_nodeParent x_nodeName x_nodeSlot x_nodeStart x_nodeTag x_completeCount x_openNode x_openSlot x_openNames x_openNext x_openComma x_output n (nI qx) (nI (j + 1))) → ∃ n, wX_readPower_4 postX (nI f) x_length x_nodeCount x_bound x_fault x_faultPlace x_mode (nI Q) x_tokenStart x_textCount x_escaped x_valueSlot x_valueName x_depth x_outputLength x_text x_typeKind x_typeDetail x_typeLeast x_typeMost x_fieldCount x_fieldName x_fieldType x_fieldNeeded x_tagType x_nodeKind x_nodeValue x_nodeParent x_nodeName x_nodeSlot x_nodeStart x_nodeTag x_completeCount x_openNode x_openSlot x_openNames x_openNext x_openComma x_output n (nI px) (nI j) := by
        refine ⟨_, rfl, fun postX ⟨n, hn⟩ => ⟨n + 1, br_f nX ⟨ij, ?_⟩⟩⟩
        rw [hj, ec]
        refine br_f d1 ?_
        by_cases w : px < 100000
        · rw [if_pos w] at hn
          exact br_f (nI_ge (b := 100000) w (by decide)) ⟨ij, nm_r (nu_10 px c) (nm_r (nI_1 j) hn)⟩
        · rw [if_neg w] at hn
          exact br_t (nI_le (a := 100000) (by omega) (by omega)) (nm_r (nI_1 j) hn)
      obtain ⟨qy, hqy, sy⟩ : ∃ qy, (qy = if py < 10000 then 10 * py + c else py) ∧ ∀ {y_length y_parts y_bad y_nodes y_fault y_place y_bound y_depth y_nextName y_wantsName y_wantsTag y_printed y_waiting y_scaled : Int32} {y_sort y_typeA y_typeB y_typeC y_fieldName y_fieldType y_fields y_tags y_needed y_begin y_end y_inside y_whole y_kind y_value y_parent y_name y_slotOf y_placeOf y_complete y_openNode y_openType y_openCount y_openNames y_openChoice y_output y_todo : Nat → Int32} (postY : Int32 → SY → Prop) (x2 x3 x4 x5 x8 : Int32), (∃ n, wY_units_108 postY x2 x3 x4 x5 (nI (Q - 1)) x8 y_length y_parts y_bad y_nodes y_fault y_place y_bound y_depth y_nextName y_wantsName y_wantsTag y_printed y_waiting y_scaled y_sort y_typeA y_typeB y_typeC y_fieldName y_fieldType y_fields y_tags y_needed x_text y_begin y_end y_inside y_whole y_kind y_value y_parent y_name y_slotOf y_placeOf y_complete y_openNode y_openType y_openCount y_openNames y_openChoice y_output y_todo n (nI qy) (nI (j + 1))) → ∃ n, wY_units_108 postY x2 x3 x4 x5 (nI (Q - 1)) x8 y_length y_parts y_bad y_nodes y_fault y_place y_bound y_depth y_nextName y_wantsName y_wantsTag y_printed y_waiting y_scaled y_sort y_typeA y_typeB y_typeC y_fieldName y_fieldType y_fields y_tags y_needed x_text y_begin y_end y_inside y_whole y_kind y_value y_parent y_name y_slotOf y_placeOf y_complete y_openNode y_openType y_openCount y_openNames y_openChoice y_output y_todo n (nI py) (nI j) := by
        refine ⟨_, rfl, fun postY x2 x3 x4 x5 x8 ⟨n, hn⟩ => ⟨n + 1, br_f nY ⟨ij, ?_⟩⟩⟩
        rw [hj, ec]
        refine br_f d2 ?_
        by_cases w : py < 10000
        · rw [if_pos w] at hn
          exact br_f (nI_ge (b := 10000) w (by decide)) ⟨ij, nm_r (nu_10 py c) (nm_r (nI_1 j) hn)⟩
        · rw [if_neg w] at hn
          exact br_t (nI_le (a := 10000) (by omega) (by omega)) (nm_r (nI_1 j) hn)
      have hV' : nu_V qx qy := by
        unfold nu_V at hV ⊢
        split at hqx <;> split at hqy <;> omega
      obtain ⟨px', py', v, hx, hy⟩ := ih (j + 1) qx qy (by omega) hV'
      exact ⟨px', py', v, fun pX h => sx pX (hx pX h), fun pY x2 x3 x4 x5 x8 h => sy pY x2 x3 x4 x5 x8 (hy pY x2 x3 x4 x5 x8 h)⟩
    · have d1 : 9 < nI c := nI_lt (a := 9) (by omega) (by omega)
      have d2 : (10 : Int32) ≤ nI c := nI_le (a := 10) (by omega) (by omega)
      obtain ⟨px', py', v, hx, hy⟩ := ih (j + 1) px py (by omega) hV
      refine ⟨px', py', v, fun pX h => ?_, fun pY x2 x3 x4 x5 x8 h => ?_⟩
      · obtain ⟨n, hn⟩ := hx pX h
        refine ⟨n + 1, br_f nX ⟨ij, ?_⟩⟩
        rw [hj, ec]; exact br_t d1 (nm_r (nI_1 j) hn)
      · obtain ⟨n, hn⟩ := hy pY x2 x3 x4 x5 x8 h
        refine ⟨n + 1, br_f nY ⟨ij, ?_⟩⟩
        rw [hj, ec]; exact br_t d2 (nm_r (nI_1 j) hn)
end
end
section
/-! the reckoning of a number: each digit by itself -/
theorem ii_n (n : Nat) : nI n = ii_I n := (ii_nat n).symm
theorem ub_1 {f : Int32} (h : f = 0 ∨ f = 1) : f &&& 1 = f := by rcases h with rfl | rfl <;> decide
theorem ub_0 {f : Int32} (h : f = 0 ∨ f = 1) : f &&& 0 = 0 := by rcases h with rfl | rfl <;> decide
/-- how many digits stand from i up to e, the point at a -/
def nu_c (a e i : Nat) : Int := (e : Int) - i - (if i ≤ a ∧ a < e then 1 else 0)
theorem xu_pow {post : Int64 → Prop} {W : Nat} (hW : W ≤ 9) (h : post (lN (10 ^ W))) : wpX_powerOfTen post (nI W) := by
  have key : ∀ m k, k + m = W → ∃ n, wX_powerOfTen_4 post (nI W) n (lN (10 ^ k)) (nI k) := by
    intro m
    induction m with
    | zero =>
      intro k hk
      have : k = W := by omega
      subst this
      exact ⟨1, br_t (nI_le (Nat.le_refl _) (by omega)) h⟩
    | succ m ih =>
      intro k hk
      obtain ⟨n, hn⟩ := ih (k + 1) (by omega)
      refine ⟨n + 1, br_f (nI_ge (by omega) (by omega)) (nm_r ?_ (nm_r (nI_1 k) hn))⟩
      show lN (10 ^ k) * lN 10 = _
      rw [lN_mul, Nat.pow_succ]
  exact key W 0 (by omega)
section
variable {y_length y_parts y_bad y_nodes y_fault y_place y_bound y_depth y_nextName y_wantsName y_wantsTag y_printed y_waiting y_scaled : Int32} {y_sort y_typeA y_typeB y_typeC y_fieldName y_fieldType y_fields y_tags y_needed y_begin y_end y_inside y_whole y_kind y_value y_parent y_name y_slotOf y_placeOf y_complete y_openNode y_openType y_openCount y_openNames y_openChoice y_output y_todo : Nat → Int32} {t : Nat → Int32} {b a e Q : Nat} {postY : Int32 → SY → Prop} {x8 : Int32} {Z : Int}
theorem yu_cnt (hP : nu_P t b a e Q) (hC : tt_C t) {J : Int64 → Int32 → Int32 → Prop} {v : Int64} {f : Int32} {j : Nat} : ∀ (m i : Nat) (w : Int), i + m = e → b < i → wY_units_260 postY J x8 (nI e) (ii_I Z) v f (nI j) y_length y_parts y_bad y_nodes y_fault y_place y_bound y_depth y_nextName y_wantsName y_wantsTag y_printed y_waiting y_scaled y_sort y_typeA y_typeB y_typeC y_fieldName y_fieldType y_fields y_tags y_needed t y_begin y_end y_inside y_whole y_kind y_value y_parent y_name y_slotOf y_placeOf y_complete y_openNode y_openType y_openCount y_openNames y_openChoice y_output y_todo 1 (ii_I (w + nu_c a e i)) (nI e) → ∃ n, wY_units_260 postY J x8 (nI e) (ii_I Z) v f (nI j) y_length y_parts y_bad y_nodes y_fault y_place y_bound y_depth y_nextName y_wantsName y_wantsTag y_printed y_waiting y_scaled y_sort y_typeA y_typeB y_typeC y_fieldName y_fieldType y_fields y_tags y_needed t y_begin y_end y_inside y_whole y_kind y_value y_parent y_name y_slotOf y_placeOf y_complete y_openNode y_openType y_openCount y_openNames y_openChoice y_output y_todo n (ii_I w) (nI i) := by
  have hQ := hP.2.2.2.1
  have he := hP.2.2.1
  intro m
  induction m with
  | zero =>
    intro i w h1 h2 h
    have : i = e := by omega
    subst this
    rw [show w + nu_c a i i = w from by unfold nu_c; rw [if_neg (by omega)]; omega] at h
    exact ⟨1, h⟩
  | succ m ih =>
    intro i w h1 h2 h
    have ei : (nI i).toNatClampNeg = i := nI_clamp (by omega)
    have nle : ¬ nI e ≤ nI i := nI_ge (by omega) (by omega)
    have ii : vp_in (nI i) 96 := vp_in_nI (by omega) (by decide)
    rcases hP.2.2.2.2.2.2.2.1 i h2 (by omega) with dg | rfl
    · by_cases ia : i = a
      · exfalso
        have := (hP.2.2.2.2.2.1 i (by omega) (by omega)).mpr ⟨by omega, ia⟩
        exact hh_9 (n := 18) dg (by decide) (by decide) this
      · obtain ⟨n, hn⟩ := ih (i + 1) (w + 1) (by omega) (by omega) (by
          rw [show w + 1 + nu_c a e (i + 1) = w + nu_c a e i from by
            unfold nu_c
            by_cases q : i ≤ a ∧ a < e
            · rw [if_pos q, if_pos (by omega)]; omega
            · rw [if_neg q, if_neg (by omega)]; omega]
          exact h)
        refine ⟨n + 1, br_f nle ⟨ii, ?_⟩⟩
        rw [ei]
        obtain ⟨c, hc, ec⟩ := hC i
        have d : ¬ (10 : Int32) ≤ t i := by
          rw [ec] at dg ⊢
          have := (nI_leI (b := 9) (by omega) (by decide)).mp dg
          exact nI_ge (b := 10) (by omega) (by decide)
        exact br_f d (nm_r (show ii_I w + 1 = ii_I (w + 1) from ii_add w 1) (nm_r (nI_1 i) hn))
    · obtain ⟨n, hn⟩ := ih (i + 1) w (by omega) (by omega) (by
        rw [show w + nu_c i e (i + 1) = w + nu_c i e i from by
          unfold nu_c
          rw [if_neg (by omega), if_pos (by omega)]; omega]
        exact h)
      refine ⟨n + 1, br_f nle ⟨ii, ?_⟩⟩
      rw [ei, (hP.2.2.2.2.2.1 i (by omega) (by omega)).mpr ⟨by omega, rfl⟩]
      exact br_t (by decide) (nm_r (nI_1 i) hn)
/-- the multiplications -/
theorem yu_mul {J : Int64 → Int32 → Int32 → Prop} {v : Int64} {f : Int32} {j c : Nat} {W : Nat} (hW : W ≤ 10) (h : J (v + lN (c * 10 ^ W)) f (nI (j + 1))) : ∀ (m k : Nat), k + m = W → ∃ n, wY_units_356 postY J x8 (nI e) (ii_I Z) v f (nI j) (nI W) y_length y_parts y_bad y_nodes y_fault y_place y_bound y_depth y_nextName y_wantsName y_wantsTag y_printed y_waiting y_scaled y_sort y_typeA y_typeB y_typeC y_fieldName y_fieldType y_fields y_tags y_needed t y_begin y_end y_inside y_whole y_kind y_value y_parent y_name y_slotOf y_placeOf y_complete y_openNode y_openType y_openCount y_openNames y_openChoice y_output y_todo n (lN (c * 10 ^ k)) (nI k) := by
  intro m
  induction m with
  | zero =>
    intro k hk
    have : k = W := by omega
    subst this
    exact ⟨1, br_t (nI_le (Nat.le_refl _) (by omega)) (nm_e (nm_r (nI_1 j) h))⟩
  | succ m ih =>
    intro k hk
    obtain ⟨n, hn⟩ := ih (k + 1) (by omega)
    refine ⟨n + 1, br_f (nI_ge (by omega) (by omega)) (br_f (nI_ge (b := 11) (by omega) (by decide)) (nm_r ?_ (nm_r (nI_1 k) hn)))⟩
    show lN (c * 10 ^ k) * lN 10 = _
    rw [lN_mul, Nat.pow_succ, Nat.mul_assoc]
/-- one digit -/
theorem yu_dig (hP : nu_P t b a e Q) {J : Int64 → Int32 → Int32 → Prop} {v : Int64} {f : Int32} {j c : Nat} {W : Int} (hf : f = 0 ∨ f = 1) (hj : j < 96) (hc : c ≤ 9) (ec : t j = nI c) (hW1 : -1000000000 < W) (hW2 : W < 1000000000)
    (h0 : c = 0 → J v f (nI (j + 1))) (h1 : 0 < c → W < 0 → J v 0 (nI (j + 1))) (h2 : 0 < c → 0 ≤ W → W ≤ 10 → J (v + lN (c * 10 ^ W.toNat)) f (nI (j + 1))) (h3 : 0 < c → 11 ≤ W → J (v + lN c) 0 (nI (j + 1))) :
    wY_units_260 postY J x8 (nI e) (ii_I Z) v f (nI j) y_length y_parts y_bad y_nodes y_fault y_place y_bound y_depth y_nextName y_wantsName y_wantsTag y_printed y_waiting y_scaled y_sort y_typeA y_typeB y_typeC y_fieldName y_fieldType y_fields y_tags y_needed t y_begin y_end y_inside y_whole y_kind y_value y_parent y_name y_slotOf y_placeOf y_complete y_openNode y_openType y_openCount y_openNames y_openChoice y_output y_todo 1 (ii_I W) (nI e) := by
  have he := hP.2.2.1
  have hQ := hP.2.2.2.1
  have ej : (nI j).toNatClampNeg = j := nI_clamp (by omega)
  have ij : vp_in (nI j) 96 := vp_in_nI hj (by decide)
  have nneg : (0 ≤ ii_I W) ↔ 0 ≤ W := by
    rw [show (0 : Int32) = ii_I 0 from rfl, ii_le (by omega) (by omega) (by omega) (by omega)]
  have n11 : ((11 : Int32) ≤ ii_I W) ↔ 11 ≤ W := by
    rw [show (11 : Int32) = ii_I 11 from rfl, ii_le (by omega) (by omega) (by omega) (by omega)]
  refine br_t (nI_le (Nat.le_refl _) (by omega)) ?_
  rw [nneg, n11, ej, ec]
  by_cases w0 : 0 ≤ W
  · refine br_t w0 ⟨ij, ?_⟩
    by_cases c0 : c = 0
    · subst c0
      exact br_t (by decide) (nm_r (nI_1 j) (h0 rfl))
    · refine br_f (nI_nle (by omega) (by omega)) ?_
      by_cases w11 : 11 ≤ W
      · refine br_t w11 (nm_r (ub_0 hf) ⟨ij, ?_⟩)
        rw [ej, ec]
        refine nm_r (nI_l (by omega)) ⟨1, br_f ?_ (br_t ?_ (nm_e (nm_r (nI_1 j) (h3 (by omega) w11))))⟩
        · rw [show (0 : Int32) = ii_I 0 from rfl, ii_le (by omega) (by omega) (by omega) (by omega)]; omega
        · rw [n11]; exact w11
      · refine br_f w11 (nm_r (ub_1 hf) ⟨ij, ?_⟩)
        rw [ej, ec]
        obtain ⟨k, rfl⟩ : ∃ k : Nat, W = k := ⟨W.toNat, by omega⟩
        have g := h2 (by omega) w0 (by omega)
        rw [Int.toNat_natCast] at g
        rw [ii_nat]
        have := yu_mul (y_length := y_length) (y_parts := y_parts) (y_bad := y_bad) (y_nodes := y_nodes) (y_fault := y_fault) (y_place := y_place) (y_bound := y_bound) (y_depth := y_depth) (y_nextName := y_nextName) (y_wantsName := y_wantsName) (y_wantsTag := y_wantsTag) (y_printed := y_printed) (y_waiting := y_waiting) (y_scaled := y_scaled) (y_sort := y_sort) (y_typeA := y_typeA) (y_typeB := y_typeB) (y_typeC := y_typeC) (y_fieldName := y_fieldName) (y_fieldType := y_fieldType) (y_fields := y_fields) (y_tags := y_tags) (y_needed := y_needed) (y_begin := y_begin) (y_end := y_end) (y_inside := y_inside) (y_whole := y_whole) (y_kind := y_kind) (y_value := y_value) (y_parent := y_parent) (y_name := y_name) (y_slotOf := y_slotOf) (y_placeOf := y_placeOf) (y_complete := y_complete) (y_openNode := y_openNode) (y_openType := y_openType) (y_openCount := y_openCount) (y_openNames := y_openNames) (y_openChoice := y_openChoice) (y_output := y_output) (y_todo := y_todo) (t := t) (e := e) (postY := postY) (x8 := x8) (Z := Z) (W := k) (by omega) g k 0 (by omega)
        rw [Nat.pow_zero, Nat.mul_one] at this
        exact nm_r (nI_l (by omega)) this
  · refine br_f w0 ⟨ij, ?_⟩
    by_cases c0 : c = 0
    · subst c0
      exact br_t (by decide) (nm_r (ub_1 hf) (nm_r (nI_1 j) (h0 rfl)))
    · refine br_f (nI_ne0 (by omega) (by omega)) (nm_r (ub_0 hf) (nm_r (nI_1 j) (h1 (by omega) (by omega))))
end
end
section
/-! the reckoning of a number: both rows of digits -/
section
variable {y_length y_parts y_bad y_nodes y_fault y_place y_bound y_depth y_nextName y_wantsName y_wantsTag y_printed y_waiting y_scaled : Int32} {y_sort y_typeA y_typeB y_typeC y_fieldName y_fieldType y_fields y_tags y_needed y_begin y_end y_inside y_whole y_kind y_value y_parent y_name y_slotOf y_placeOf y_complete y_openNode y_openType y_openCount y_openNames y_openChoice y_output y_todo : Nat → Int32} {t : Nat → Int32} {b a e Q : Nat} {postY : Int32 → SY → Prop} {x8 : Int32} {Z : Int}
theorem yu_s9 (hP : nu_P t b a e Q) {v : Int64} {f : Int32} {j n : Nat} (hj : j < e) (h9 : ¬ t j ≤ 9) (h : wY_units_228 postY x8 (nI e) (ii_I Z) y_length y_parts y_bad y_nodes y_fault y_place y_bound y_depth y_nextName y_wantsName y_wantsTag y_printed y_waiting y_scaled y_sort y_typeA y_typeB y_typeC y_fieldName y_fieldType y_fields y_tags y_needed t y_begin y_end y_inside y_whole y_kind y_value y_parent y_name y_slotOf y_placeOf y_complete y_openNode y_openType y_openCount y_openNames y_openChoice y_output y_todo n v f (nI (j + 1))) : wY_units_228 postY x8 (nI e) (ii_I Z) y_length y_parts y_bad y_nodes y_fault y_place y_bound y_depth y_nextName y_wantsName y_wantsTag y_printed y_waiting y_scaled y_sort y_typeA y_typeB y_typeC y_fieldName y_fieldType y_fields y_tags y_needed t y_begin y_end y_inside y_whole y_kind y_value y_parent y_name y_slotOf y_placeOf y_complete y_openNode y_openType y_openCount y_openNames y_openChoice y_output y_todo (n + 1) v f (nI j) := by
  have he := hP.2.2.1
  have hQ := hP.2.2.2.1
  refine br_f (nI_ge hj (by omega)) ⟨vp_in_nI (by omega) (by decide), ?_⟩
  rw [nI_clamp (by omega)]
  exact br_f h9 (nm_r (nI_1 j) h)
theorem yu_s (hP : nu_P t b a e Q) (hC : tt_C t) {v : Int64} {f : Int32} {j n c : Nat} {W : Int} (hf : f = 0 ∨ f = 1) (hb : b ≤ j) (hj : j < e) (hc : c ≤ 9) (ec : t j = nI c) (hZ1 : -100000000 < Z) (hZ2 : Z < 100000000) (hW : W = Z + nu_c a e (j + 1))
    (h0 : c = 0 → wY_units_228 postY x8 (nI e) (ii_I Z) y_length y_parts y_bad y_nodes y_fault y_place y_bound y_depth y_nextName y_wantsName y_wantsTag y_printed y_waiting y_scaled y_sort y_typeA y_typeB y_typeC y_fieldName y_fieldType y_fields y_tags y_needed t y_begin y_end y_inside y_whole y_kind y_value y_parent y_name y_slotOf y_placeOf y_complete y_openNode y_openType y_openCount y_openNames y_openChoice y_output y_todo n v f (nI (j + 1))) (h1 : 0 < c → W < 0 → wY_units_228 postY x8 (nI e) (ii_I Z) y_length y_parts y_bad y_nodes y_fault y_place y_bound y_depth y_nextName y_wantsName y_wantsTag y_printed y_waiting y_scaled y_sort y_typeA y_typeB y_typeC y_fieldName y_fieldType y_fields y_tags y_needed t y_begin y_end y_inside y_whole y_kind y_value y_parent y_name y_slotOf y_placeOf y_complete y_openNode y_openType y_openCount y_openNames y_openChoice y_output y_todo n v 0 (nI (j + 1))) (h2 : 0 < c → 0 ≤ W → W ≤ 10 → wY_units_228 postY x8 (nI e) (ii_I Z) y_length y_parts y_bad y_nodes y_fault y_place y_bound y_depth y_nextName y_wantsName y_wantsTag y_printed y_waiting y_scaled y_sort y_typeA y_typeB y_typeC y_fieldName y_fieldType y_fields y_tags y_needed t y_begin y_end y_inside y_whole y_kind y_value y_parent y_name y_slotOf y_placeOf y_complete y_openNode y_openType y_openCount y_openNames y_openChoice y_output y_todo n (v + lN (c * 10 ^ W.toNat)) f (nI (j + 1))) (h3 : 0 < c → 11 ≤ W → wY_units_228 postY x8 (nI e) (ii_I Z) y_length y_parts y_bad y_nodes y_fault y_place y_bound y_depth y_nextName y_wantsName y_wantsTag y_printed y_waiting y_scaled y_sort y_typeA y_typeB y_typeC y_fieldName y_fieldType y_fields y_tags y_needed t y_begin y_end y_inside y_whole y_kind y_value y_parent y_name y_slotOf y_placeOf y_complete y_openNode y_openType y_openCount y_openNames y_openChoice y_output y_todo n (v + lN c) 0 (nI (j + 1))) : wY_units_228 postY x8 (nI e) (ii_I Z) y_length y_parts y_bad y_nodes y_fault y_place y_bound y_depth y_nextName y_wantsName y_wantsTag y_printed y_waiting y_scaled y_sort y_typeA y_typeB y_typeC y_fieldName y_fieldType y_fields y_tags y_needed t y_begin y_end y_inside y_whole y_kind y_value y_parent y_name y_slotOf y_placeOf y_complete y_openNode y_openType y_openCount y_openNames y_openChoice y_output y_todo (n + 1) v f (nI j) := by
  have he := hP.2.2.1
  have hQ := hP.2.2.2.1
  have hc2 : -1000 < nu_c a e (j + 1) ∧ nu_c a e (j + 1) < 1000 := by
    unfold nu_c
    by_cases q : j + 1 ≤ a ∧ a < e
    · rw [if_pos q]; omega
    · rw [if_neg q]; omega
  have le9 : t j ≤ 9 := by rw [ec]; exact nI_le (b := 9) hc (by decide)
  refine br_f (nI_ge hj (by omega)) ⟨vp_in_nI (by omega) (by decide), ?_⟩
  rw [nI_clamp (by omega)]
  refine br_t le9 (nm_r (nI_1 j) ?_)
  refine yu_cnt (y_length := y_length) (y_parts := y_parts) (y_bad := y_bad) (y_nodes := y_nodes) (y_fault := y_fault) (y_place := y_place) (y_bound := y_bound) (y_depth := y_depth) (y_nextName := y_nextName) (y_wantsName := y_wantsName) (y_wantsTag := y_wantsTag) (y_printed := y_printed) (y_waiting := y_waiting) (y_scaled := y_scaled) (y_sort := y_sort) (y_typeA := y_typeA) (y_typeB := y_typeB) (y_typeC := y_typeC) (y_fieldName := y_fieldName) (y_fieldType := y_fieldType) (y_fields := y_fields) (y_tags := y_tags) (y_needed := y_needed) (y_begin := y_begin) (y_end := y_end) (y_inside := y_inside) (y_whole := y_whole) (y_kind := y_kind) (y_value := y_value) (y_parent := y_parent) (y_name := y_name) (y_slotOf := y_slotOf) (y_placeOf := y_placeOf) (y_complete := y_complete) (y_openNode := y_openNode) (y_openType := y_openType) (y_openCount := y_openCount) (y_openNames := y_openNames) (y_openChoice := y_openChoice) (y_output := y_output) (y_todo := y_todo) (postY := postY) (x8 := x8) (Z := Z) hP hC (e - (j + 1)) (j + 1) Z (by omega) (by omega) ?_
  rw [← hW]
  exact yu_dig (y_length := y_length) (y_parts := y_parts) (y_bad := y_bad) (y_nodes := y_nodes) (y_fault := y_fault) (y_place := y_place) (y_bound := y_bound) (y_depth := y_depth) (y_nextName := y_nextName) (y_wantsName := y_wantsName) (y_wantsTag := y_wantsTag) (y_printed := y_printed) (y_waiting := y_waiting) (y_scaled := y_scaled) (y_sort := y_sort) (y_typeA := y_typeA) (y_typeB := y_typeB) (y_typeC := y_typeC) (y_fieldName := y_fieldName) (y_fieldType := y_fieldType) (y_fields := y_fields) (y_tags := y_tags) (y_needed := y_needed) (y_begin := y_begin) (y_end := y_end) (y_inside := y_inside) (y_whole := y_whole) (y_kind := y_kind) (y_value := y_value) (y_parent := y_parent) (y_name := y_name) (y_slotOf := y_slotOf) (y_placeOf := y_placeOf) (y_complete := y_complete) (y_openNode := y_openNode) (y_openType := y_openType) (y_openCount := y_openCount) (y_openNames := y_openNames) (y_openChoice := y_openChoice) (y_output := y_output) (y_todo := y_todo) (postY := postY) (x8 := x8) (Z := Z) hP hf (by omega) hc ec (by omega) (by omega) h0 h1 h2 h3
end
theorem lT_neg {V : Nat} (h : V < 2 ^ 62) : (-lN V).toInt = -(V : Int) := by
  rw [Int64.toInt_neg, pk_lT (by omega)]
  exact Int.bmod_eq_of_le (by omega) (by omega)
theorem lT_big {z : Int64} (h : z.toInt < -2147483648 ∨ 2147483647 < z.toInt) : ¬ z = z.toInt32.toInt64 := by
  intro e
  have e2 := congrArg Int64.toInt e
  rw [Int32.toInt_toInt64] at e2
  have a := Int32.le_toInt z.toInt32
  have b := Int32.toInt_lt z.toInt32
  omega
/-- once a digit has spoilt it, the reference says no -/
theorem yu_bad {t : Nat → Int32} {b a e Q : Nat} (hP : nu_P t b a e Q) (hC : tt_C t) {x8 : Int32} {Z : Int} (hZ1 : -100000000 < Z) (hZ2 : Z < 100000000) : ∀ (m j : Nat) (v : Int64) (f : Int32), j + m = e → b ≤ j → (f = 0 ∨ f = 1 ∧ ∃ V, v = lN V ∧ 10000000000 ≤ V ∧ V ≤ 1000000000000 * (j + 1)) →
    ∃ sc : Int32, ∀ {y_length y_parts y_bad y_nodes y_fault y_place y_bound y_depth y_nextName y_wantsName y_wantsTag y_printed y_waiting y_scaled : Int32} {y_sort y_typeA y_typeB y_typeC y_fieldName y_fieldType y_fields y_tags y_needed y_begin y_end y_inside y_whole y_kind y_value y_parent y_name y_slotOf y_placeOf y_complete y_openNode y_openType y_openCount y_openNames y_openChoice y_output y_todo : Nat → Int32} (postY : Int32 → SY → Prop), postY 0 (y_length, y_parts, y_bad, y_nodes, y_fault, y_place, y_bound, y_depth, y_nextName, y_wantsName, y_wantsTag, y_printed, y_waiting, sc, y_sort, y_typeA, y_typeB, y_typeC, y_fieldName, y_fieldType, y_fields, y_tags, y_needed, t, y_begin, y_end, y_inside, y_whole, y_kind, y_value, y_parent, y_name, y_slotOf, y_placeOf, y_complete, y_openNode, y_openType, y_openCount, y_openNames, y_openChoice, y_output, y_todo) → ∃ n, wY_units_228 postY x8 (nI e) (ii_I Z) y_length y_parts y_bad y_nodes y_fault y_place y_bound y_depth y_nextName y_wantsName y_wantsTag y_printed y_waiting y_scaled y_sort y_typeA y_typeB y_typeC y_fieldName y_fieldType y_fields y_tags y_needed t y_begin y_end y_inside y_whole y_kind y_value y_parent y_name y_slotOf y_placeOf y_complete y_openNode y_openType y_openCount y_openNames y_openChoice y_output y_todo n v f (nI j) := by
  have he := hP.2.2.1
  have hQ := hP.2.2.2.1
  intro m
  induction m with
  | zero =>
    intro j v f h1 h2 hf
    have : j = e := by omega
    subst this
    by_cases z8 : x8 = 0
    · refine ⟨v.toInt32, fun postY hp => ⟨1, br_t (nI_le (Nat.le_refl _) (by omega)) (br_t z8 ?_)⟩⟩
      rcases hf with rfl | ⟨rfl, V, rfl, h3, h4⟩
      · exact br_t rfl hp
      · exact br_f (by decide) (br_f (lT_big (Or.inr (by rw [pk_lT (by omega)]; omega))) hp)
    · refine ⟨(-v).toInt32, fun postY hp => ⟨1, br_t (nI_le (Nat.le_refl _) (by omega)) (br_f z8 ?_)⟩⟩
      rcases hf with rfl | ⟨rfl, V, rfl, h3, h4⟩
      · exact br_t rfl hp
      · exact br_f (by decide) (br_f (lT_big (Or.inl (by rw [lT_neg (by omega)]; omega))) hp)
  | succ m ih =>
    intro j v f h1 h2 hf
    have hf' : f = 0 ∨ f = 1 := by rcases hf with h | h; exact Or.inl h; exact Or.inr h.1
    have keep : f = 0 ∨ f = 1 ∧ ∃ V, v = lN V ∧ 10000000000 ≤ V ∧ V ≤ 1000000000000 * (j + 1 + 1) := by
      rcases hf with h | ⟨h, V, x, y, z⟩
      · exact Or.inl h
      · exact Or.inr ⟨h, V, x, y, by omega⟩
    obtain ⟨c, hc, ec⟩ := hC j
    by_cases c9 : c ≤ 9
    case neg =>
      obtain ⟨sc, h⟩ := ih (j + 1) v f (by omega) (by omega) keep
      refine ⟨sc, fun postY hp => ?_⟩
      obtain ⟨n, hn⟩ := h postY hp
      refine ⟨n + 1, yu_s9 hP (by omega) ?_ hn⟩
      rw [ec]; exact nI_ge (a := 9) (by omega) (by omega)
    by_cases c0 : c = 0
    · obtain ⟨sc, h⟩ := ih (j + 1) v f (by omega) (by omega) keep
      refine ⟨sc, fun postY hp => ?_⟩
      obtain ⟨n, hn⟩ := h postY hp
      exact ⟨n + 1, yu_s hP hC hf' h2 (by omega) c9 ec hZ1 hZ2 rfl (fun _ => hn) (fun w => absurd c0 (by omega)) (fun w => absurd c0 (by omega)) (fun w => absurd c0 (by omega))⟩
    by_cases w0 : Z + nu_c a e (j + 1) < 0
    · obtain ⟨sc, h⟩ := ih (j + 1) v 0 (by omega) (by omega) (Or.inl rfl)
      refine ⟨sc, fun postY hp => ?_⟩
      obtain ⟨n, hn⟩ := h postY hp
      exact ⟨n + 1, yu_s hP hC hf' h2 (by omega) c9 ec hZ1 hZ2 rfl (fun w => absurd w c0) (fun _ _ => hn) (fun _ w => absurd w0 (by omega)) (fun _ w => absurd w0 (by omega))⟩
    by_cases w11 : 11 ≤ Z + nu_c a e (j + 1)
    · obtain ⟨sc, h⟩ := ih (j + 1) (v + lN c) 0 (by omega) (by omega) (Or.inl rfl)
      refine ⟨sc, fun postY hp => ?_⟩
      obtain ⟨n, hn⟩ := h postY hp
      exact ⟨n + 1, yu_s hP hC hf' h2 (by omega) c9 ec hZ1 hZ2 rfl (fun w => absurd w c0) (fun _ w => absurd w w0) (fun _ _ w => absurd w11 (by omega)) (fun _ _ => hn)⟩
    · generalize hW : Z + nu_c a e (j + 1) = W at w0 w11
      have pw : 10 ^ W.toNat ≤ 10 ^ 10 := Nat.pow_le_pow_right (by decide) (by omega)
      have pw2 : c * 10 ^ W.toNat ≤ 9 * 10 ^ 10 := Nat.mul_le_mul c9 pw
      obtain ⟨sc, h⟩ := ih (j + 1) (v + lN (c * 10 ^ W.toNat)) f (by omega) (by omega) (by
        rcases hf with h | ⟨h, V, x, y, z⟩
        · exact Or.inl h
        · refine Or.inr ⟨h, V + c * 10 ^ W.toNat, by rw [x, lN_add], by omega, by omega⟩)
      refine ⟨sc, fun postY hp => ?_⟩
      obtain ⟨n, hn⟩ := h postY hp
      exact ⟨n + 1, yu_s hP hC hf' h2 (by omega) c9 ec hZ1 hZ2 hW.symm (fun w => absurd w c0) (fun _ w => absurd w w0) (fun _ _ _ => hn) (fun _ w => absurd w w11)⟩
section
variable {x_length x_nodeCount x_bound x_fault x_faultPlace x_mode x_at x_textCount x_escaped x_valueSlot x_valueName x_depth x_outputLength : Int32} {x_typeKind x_typeDetail x_typeLeast x_typeMost x_fieldCount x_fieldName x_fieldType x_fieldNeeded x_tagType x_nodeKind x_nodeValue x_nodeParent x_nodeName x_nodeSlot x_nodeStart x_nodeTag x_completeCount x_openNode x_openSlot x_openNames x_openNext x_openComma x_output : Nat → Int32} {t : Nat → Int32} {b a e Q : Nat} {postX : Int64 → Prop} {sx : Int}
/-- the weight of the digit at j -/
def nu_w (a j : Nat) : Int := if a ≤ j then (a : Int) - j else (a : Int) - j - 1
theorem xu_s0 (hP : nu_P t b a e Q) {v : Int64} {j n c : Nat} (hj : j < e) (hc : c < 32) (ec : t j = nI c) (h9 : c = 0 ∨ 9 < c) (h : wX_readUnits_39 postX (nI e) (nI a) (ii_I sx) x_length x_nodeCount x_bound x_fault x_faultPlace x_mode x_at (nI b) x_textCount x_escaped x_valueSlot x_valueName x_depth x_outputLength t x_typeKind x_typeDetail x_typeLeast x_typeMost x_fieldCount x_fieldName x_fieldType x_fieldNeeded x_tagType x_nodeKind x_nodeValue x_nodeParent x_nodeName x_nodeSlot x_nodeStart x_nodeTag x_completeCount x_openNode x_openSlot x_openNames x_openNext x_openComma x_output n v (nI (j + 1))) : wX_readUnits_39 postX (nI e) (nI a) (ii_I sx) x_length x_nodeCount x_bound x_fault x_faultPlace x_mode x_at (nI b) x_textCount x_escaped x_valueSlot x_valueName x_depth x_outputLength t x_typeKind x_typeDetail x_typeLeast x_typeMost x_fieldCount x_fieldName x_fieldType x_fieldNeeded x_tagType x_nodeKind x_nodeValue x_nodeParent x_nodeName x_nodeSlot x_nodeStart x_nodeTag x_completeCount x_openNode x_openSlot x_openNames x_openNext x_openComma x_output (n + 1) v (nI j) := by
  have he := hP.2.2.1
  have hQ := hP.2.2.2.1
  refine br_f (nI_ge hj (by omega)) ⟨vp_in_nI (by omega) (by decide), ?_⟩
  rw [nI_clamp (by omega)]
  refine nm_r ec ?_
  by_cases c0 : c = 0
  · subst c0
    exact br_t (by decide) (nm_r (nI_1 j) h)
  · exact br_f (nI_nlt (b := 1) (by omega) (by omega)) (br_t (nI_lt (a := 9) (by omega) (by omega)) (nm_r (nI_1 j) h))
theorem xu_s1 (hP : nu_P t b a e Q) {v : Int64} {j n c : Nat} (hb : b ≤ j) (hj : j < e) (hc0 : 0 < c) (hc : c ≤ 9) (ec : t j = nI c) (hs1 : -100000000 < sx) (hs2 : sx < 100000000)
    (h1 : nu_w a j + sx < 0 ∨ 9 < nu_w a j + sx → postX 1099511627776) (h2 : 0 ≤ nu_w a j + sx → nu_w a j + sx ≤ 9 → wX_readUnits_39 postX (nI e) (nI a) (ii_I sx) x_length x_nodeCount x_bound x_fault x_faultPlace x_mode x_at (nI b) x_textCount x_escaped x_valueSlot x_valueName x_depth x_outputLength t x_typeKind x_typeDetail x_typeLeast x_typeMost x_fieldCount x_fieldName x_fieldType x_fieldNeeded x_tagType x_nodeKind x_nodeValue x_nodeParent x_nodeName x_nodeSlot x_nodeStart x_nodeTag x_completeCount x_openNode x_openSlot x_openNames x_openNext x_openComma x_output n (v + lN (c * 10 ^ (nu_w a j + sx).toNat)) (nI (j + 1))) : wX_readUnits_39 postX (nI e) (nI a) (ii_I sx) x_length x_nodeCount x_bound x_fault x_faultPlace x_mode x_at (nI b) x_textCount x_escaped x_valueSlot x_valueName x_depth x_outputLength t x_typeKind x_typeDetail x_typeLeast x_typeMost x_fieldCount x_fieldName x_fieldType x_fieldNeeded x_tagType x_nodeKind x_nodeValue x_nodeParent x_nodeName x_nodeSlot x_nodeStart x_nodeTag x_completeCount x_openNode x_openSlot x_openNames x_openNext x_openComma x_output (n + 1) v (nI j) := by
  have ha := hP.2.1
  have he := hP.2.2.1
  have hQ := hP.2.2.2.1
  have key : ∀ W : Int, -200000000 < W → W < 200000000 → (W < 0 ∨ 9 < W → postX 1099511627776) → (0 ≤ W → W ≤ 9 → wX_readUnits_39 postX (nI e) (nI a) (ii_I sx) x_length x_nodeCount x_bound x_fault x_faultPlace x_mode x_at (nI b) x_textCount x_escaped x_valueSlot x_valueName x_depth x_outputLength t x_typeKind x_typeDetail x_typeLeast x_typeMost x_fieldCount x_fieldName x_fieldType x_fieldNeeded x_tagType x_nodeKind x_nodeValue x_nodeParent x_nodeName x_nodeSlot x_nodeStart x_nodeTag x_completeCount x_openNode x_openSlot x_openNames x_openNext x_openComma x_output n (v + lN (c * 10 ^ W.toNat)) (nI (j + 1))) → wX_readUnits_92 postX (wX_readUnits_39 postX (nI e) (nI a) (ii_I sx) x_length x_nodeCount x_bound x_fault x_faultPlace x_mode x_at (nI b) x_textCount x_escaped x_valueSlot x_valueName x_depth x_outputLength t x_typeKind x_typeDetail x_typeLeast x_typeMost x_fieldCount x_fieldName x_fieldType x_fieldNeeded x_tagType x_nodeKind x_nodeValue x_nodeParent x_nodeName x_nodeSlot x_nodeStart x_nodeTag x_completeCount x_openNode x_openSlot x_openNames x_openNext x_openComma x_output n) (nI e) (nI a) (ii_I sx) v (nI j) (nI c) (ii_I W) x_length x_nodeCount x_bound x_fault x_faultPlace x_mode x_at (nI b) x_textCount x_escaped x_valueSlot x_valueName x_depth x_outputLength t x_typeKind x_typeDetail x_typeLeast x_typeMost x_fieldCount x_fieldName x_fieldType x_fieldNeeded x_tagType x_nodeKind x_nodeValue x_nodeParent x_nodeName x_nodeSlot x_nodeStart x_nodeTag x_completeCount x_openNode x_openSlot x_openNames x_openNext x_openComma x_output := by
    intro W b1 b2 g1 g2
    have n0 : (ii_I W < 0) ↔ W < 0 := by rw [show (0 : Int32) = ii_I 0 from rfl, ii_lt (by omega) (by omega) (by omega) (by omega)]
    have n9 : (ii_I W ≤ 9) ↔ W ≤ 9 := by rw [show (9 : Int32) = ii_I 9 from rfl, ii_le (by omega) (by omega) (by omega) (by omega)]
    unfold wX_readUnits_92
    rw [n0, n9]
    by_cases w0 : W < 0
    · exact br_t w0 (g1 (Or.inl w0))
    · refine br_f w0 ?_
      by_cases w9 : W ≤ 9
      · obtain ⟨k, rfl⟩ : ∃ k : Nat, W = k := ⟨W.toNat, by omega⟩
        refine br_t w9 ?_
        rw [ii_nat]
        refine xu_pow (by omega) (nm_r ?_ (nm_r (nI_1 j) (g2 (by omega) w9)))
        rw [nI_l (by omega), lN_mul, Int.toNat_natCast]
      · exact br_f w9 (g1 (Or.inr (by omega)))
  have bw : -1000 < nu_w a j ∧ nu_w a j < 1000 := by
    unfold nu_w
    by_cases q : a ≤ j
    · rw [if_pos q]; omega
    · rw [if_neg q]; omega
  refine br_f (nI_ge hj (by omega)) ⟨vp_in_nI (by omega) (by decide), ?_⟩
  rw [nI_clamp (by omega)]
  refine nm_r ec (br_f (nI_nlt (b := 1) (by omega) (by omega)) (br_f (nI_nlt (a := 9) (by omega) (by omega)) ?_))
  have K := key (nu_w a j + sx) (by omega) (by omega) h1 h2
  by_cases q : a ≤ j
  · refine br_t (nI_le q (by omega)) ?_
    rw [show nI a - nI j + ii_I sx = ii_I (nu_w a j + sx) from by rw [ii_n, ii_n, ii_sub, ii_add]; unfold nu_w; rw [if_pos q]]
    exact K
  · refine br_f (nI_ge (by omega) (by omega)) ?_
    rw [show nI a - nI j - 1 + ii_I sx = ii_I (nu_w a j + sx) from by
      rw [ii_n, ii_n, show (1 : Int32) = ii_I 1 from rfl, ii_sub, ii_sub, ii_add]; unfold nu_w; rw [if_neg q]]
    exact K
end
end
section
/-! the reckoning of a number: both together -/
theorem nu_rel {a e j : Nat} {Z sy : Int} (hZ : Z = sy - (if a < e then (e : Int) - a - 1 else 0)) (hj : j ≠ a) (hje : j < e) (ha : a ≤ e) : Z + nu_c a e (j + 1) = nu_w a j + sy := by
  subst hZ
  unfold nu_c nu_w
  by_cases q : a < e
  · rw [if_pos q]
    by_cases r : a ≤ j
    · rw [if_pos r, if_neg (by omega)]; omega
    · rw [if_neg r, if_pos (by omega)]; omega
  · rw [if_neg q, if_neg (by omega), if_neg (by omega)]; omega
section
variable {x_length x_nodeCount x_bound x_fault x_faultPlace x_mode x_at x_textCount x_escaped x_valueSlot x_valueName x_depth x_outputLength : Int32} {x_typeKind x_typeDetail x_typeLeast x_typeMost x_fieldCount x_fieldName x_fieldType x_fieldNeeded x_tagType x_nodeKind x_nodeValue x_nodeParent x_nodeName x_nodeSlot x_nodeStart x_nodeTag x_completeCount x_openNode x_openSlot x_openNames x_openNext x_openComma x_output : Nat → Int32}
theorem nu_dig {t : Nat → Int32} {b a e Q : Nat} (hP : nu_P t b a e Q) (hC : tt_C t) {x8 : Int32} {sx sy Z : Int} (hK : sx = sy ∨ (9000 ≤ sx ∧ 9000 ≤ sy) ∨ (sx ≤ -9000 ∧ sy ≤ -9000)) (hx1 : -10000000 < sx) (hx2 : sx < 10000000) (hy1 : -10000000 < sy) (hy2 : sy < 10000000) (hZ : Z = sy - (if a < e then (e : Int) - a - 1 else 0)) : ∀ (m j U : Nat), j + m = e → b ≤ j → U ≤ 10000000000 * j →
    (∃ U', U' ≤ 10000000000 * e ∧ (∀ postX : Int64 → Prop, (∃ n, wX_readUnits_39 postX (nI e) (nI a) (ii_I sx) x_length x_nodeCount x_bound x_fault x_faultPlace x_mode x_at (nI b) x_textCount x_escaped x_valueSlot x_valueName x_depth x_outputLength t x_typeKind x_typeDetail x_typeLeast x_typeMost x_fieldCount x_fieldName x_fieldType x_fieldNeeded x_tagType x_nodeKind x_nodeValue x_nodeParent x_nodeName x_nodeSlot x_nodeStart x_nodeTag x_completeCount x_openNode x_openSlot x_openNames x_openNext x_openComma x_output n (lN U') (nI e)) → ∃ n, wX_readUnits_39 postX (nI e) (nI a) (ii_I sx) x_length x_nodeCount x_bound x_fault x_faultPlace x_mode x_at (nI b) x_textCount x_escaped x_valueSlot x_valueName x_depth x_outputLength t x_typeKind x_typeDetail x_typeLeast x_typeMost x_fieldCount x_fieldName x_fieldType x_fieldNeeded x_tagType x_nodeKind x_nodeValue x_nodeParent x_nodeName x_nodeSlot x_nodeStart x_nodeTag x_completeCount x_openNode x_openSlot x_openNames x_openNext x_openComma x_output n (lN U) (nI j)) ∧ (∀ {y_length y_parts y_bad y_nodes y_fault y_place y_bound y_depth y_nextName y_wantsName y_wantsTag y_printed y_waiting y_scaled : Int32} {y_sort y_typeA y_typeB y_typeC y_fieldName y_fieldType y_fields y_tags y_needed y_begin y_end y_inside y_whole y_kind y_value y_parent y_name y_slotOf y_placeOf y_complete y_openNode y_openType y_openCount y_openNames y_openChoice y_output y_todo : Nat → Int32} (postY : Int32 → SY → Prop), (∃ n, wY_units_228 postY x8 (nI e) (ii_I Z) y_length y_parts y_bad y_nodes y_fault y_place y_bound y_depth y_nextName y_wantsName y_wantsTag y_printed y_waiting y_scaled y_sort y_typeA y_typeB y_typeC y_fieldName y_fieldType y_fields y_tags y_needed t y_begin y_end y_inside y_whole y_kind y_value y_parent y_name y_slotOf y_placeOf y_complete y_openNode y_openType y_openCount y_openNames y_openChoice y_output y_todo n (lN U') 1 (nI e)) → ∃ n, wY_units_228 postY x8 (nI e) (ii_I Z) y_length y_parts y_bad y_nodes y_fault y_place y_bound y_depth y_nextName y_wantsName y_wantsTag y_printed y_waiting y_scaled y_sort y_typeA y_typeB y_typeC y_fieldName y_fieldType y_fields y_tags y_needed t y_begin y_end y_inside y_whole y_kind y_value y_parent y_name y_slotOf y_placeOf y_complete y_openNode y_openType y_openCount y_openNames y_openChoice y_output y_todo n (lN U) 1 (nI j))) ∨
    ((∀ postX : Int64 → Prop, postX 1099511627776 → ∃ n, wX_readUnits_39 postX (nI e) (nI a) (ii_I sx) x_length x_nodeCount x_bound x_fault x_faultPlace x_mode x_at (nI b) x_textCount x_escaped x_valueSlot x_valueName x_depth x_outputLength t x_typeKind x_typeDetail x_typeLeast x_typeMost x_fieldCount x_fieldName x_fieldType x_fieldNeeded x_tagType x_nodeKind x_nodeValue x_nodeParent x_nodeName x_nodeSlot x_nodeStart x_nodeTag x_completeCount x_openNode x_openSlot x_openNames x_openNext x_openComma x_output n (lN U) (nI j)) ∧ ∃ sc : Int32, ∀ {y_length y_parts y_bad y_nodes y_fault y_place y_bound y_depth y_nextName y_wantsName y_wantsTag y_printed y_waiting y_scaled : Int32} {y_sort y_typeA y_typeB y_typeC y_fieldName y_fieldType y_fields y_tags y_needed y_begin y_end y_inside y_whole y_kind y_value y_parent y_name y_slotOf y_placeOf y_complete y_openNode y_openType y_openCount y_openNames y_openChoice y_output y_todo : Nat → Int32} (postY : Int32 → SY → Prop), postY 0 (y_length, y_parts, y_bad, y_nodes, y_fault, y_place, y_bound, y_depth, y_nextName, y_wantsName, y_wantsTag, y_printed, y_waiting, sc, y_sort, y_typeA, y_typeB, y_typeC, y_fieldName, y_fieldType, y_fields, y_tags, y_needed, t, y_begin, y_end, y_inside, y_whole, y_kind, y_value, y_parent, y_name, y_slotOf, y_placeOf, y_complete, y_openNode, y_openType, y_openCount, y_openNames, y_openChoice, y_output, y_todo) → ∃ n, wY_units_228 postY x8 (nI e) (ii_I Z) y_length y_parts y_bad y_nodes y_fault y_place y_bound y_depth y_nextName y_wantsName y_wantsTag y_printed y_waiting y_scaled y_sort y_typeA y_typeB y_typeC y_fieldName y_fieldType y_fields y_tags y_needed t y_begin y_end y_inside y_whole y_kind y_value y_parent y_name y_slotOf y_placeOf y_complete y_openNode y_openType y_openCount y_openNames y_openChoice y_output y_todo n (lN U) 1 (nI j)) := by
  have ha := hP.2.1
  have he := hP.2.2.1
  have hQ := hP.2.2.2.1
  have hZb : -100000000 < Z ∧ Z < 100000000 := by
    subst hZ
    by_cases q : a < e
    · rw [if_pos q]; omega
    · rw [if_neg q]; omega
  intro m
  induction m with
  | zero =>
    intro j U h1 h2 h3
    have : j = e := by omega
    subst this
    exact Or.inl ⟨U, h3, fun _ h => h, fun _ h => h⟩
  | succ m ih =>
    intro j U h1 h2 h3
    obtain ⟨c, hc, ec⟩ := hC j
    by_cases skip : c = 0 ∨ 9 < c
    · have sX : ∀ postX : Int64 → Prop, (∃ n, wX_readUnits_39 postX (nI e) (nI a) (ii_I sx) x_length x_nodeCount x_bound x_fault x_faultPlace x_mode x_at (nI b) x_textCount x_escaped x_valueSlot x_valueName x_depth x_outputLength t x_typeKind x_typeDetail x_typeLeast x_typeMost x_fieldCount x_fieldName x_fieldType x_fieldNeeded x_tagType x_nodeKind x_nodeValue x_nodeParent x_nodeName x_nodeSlot x_nodeStart x_nodeTag x_completeCount x_openNode x_openSlot x_openNames x_openNext x_openComma x_output n (lN U) (nI (j + 1))) → ∃ n, wX_readUnits_39 postX (nI e) (nI a) (ii_I sx) x_length x_nodeCount x_bound x_fault x_faultPlace x_mode x_at (nI b) x_textCount x_escaped x_valueSlot x_valueName x_depth x_outputLength t x_typeKind x_typeDetail x_typeLeast x_typeMost x_fieldCount x_fieldName x_fieldType x_fieldNeeded x_tagType x_nodeKind x_nodeValue x_nodeParent x_nodeName x_nodeSlot x_nodeStart x_nodeTag x_completeCount x_openNode x_openSlot x_openNames x_openNext x_openComma x_output n (lN U) (nI j) := fun postX ⟨n, hn⟩ => ⟨n + 1, xu_s0 hP (by omega) hc ec skip hn⟩
      have sY : ∀ {y_length y_parts y_bad y_nodes y_fault y_place y_bound y_depth y_nextName y_wantsName y_wantsTag y_printed y_waiting y_scaled : Int32} {y_sort y_typeA y_typeB y_typeC y_fieldName y_fieldType y_fields y_tags y_needed y_begin y_end y_inside y_whole y_kind y_value y_parent y_name y_slotOf y_placeOf y_complete y_openNode y_openType y_openCount y_openNames y_openChoice y_output y_todo : Nat → Int32} (postY : Int32 → SY → Prop), (∃ n, wY_units_228 postY x8 (nI e) (ii_I Z) y_length y_parts y_bad y_nodes y_fault y_place y_bound y_depth y_nextName y_wantsName y_wantsTag y_printed y_waiting y_scaled y_sort y_typeA y_typeB y_typeC y_fieldName y_fieldType y_fields y_tags y_needed t y_begin y_end y_inside y_whole y_kind y_value y_parent y_name y_slotOf y_placeOf y_complete y_openNode y_openType y_openCount y_openNames y_openChoice y_output y_todo n (lN U) 1 (nI (j + 1))) → ∃ n, wY_units_228 postY x8 (nI e) (ii_I Z) y_length y_parts y_bad y_nodes y_fault y_place y_bound y_depth y_nextName y_wantsName y_wantsTag y_printed y_waiting y_scaled y_sort y_typeA y_typeB y_typeC y_fieldName y_fieldType y_fields y_tags y_needed t y_begin y_end y_inside y_whole y_kind y_value y_parent y_name y_slotOf y_placeOf y_complete y_openNode y_openType y_openCount y_openNames y_openChoice y_output y_todo n (lN U) 1 (nI j) := by
        intro y_length y_parts y_bad y_nodes y_fault y_place y_bound y_depth y_nextName y_wantsName y_wantsTag y_printed y_waiting y_scaled y_sort y_typeA y_typeB y_typeC y_fieldName y_fieldType y_fields y_tags y_needed y_begin y_end y_inside y_whole y_kind y_value y_parent y_name y_slotOf y_placeOf y_complete y_openNode y_openType y_openCount y_openNames y_openChoice y_output y_todo postY ⟨n, hn⟩
        rcases skip with c0 | c9
        · exact ⟨n + 1, yu_s hP hC (Or.inr rfl) h2 (by omega) (by omega) ec hZb.1 hZb.2 rfl (fun _ => hn) (fun w => absurd c0 (by omega)) (fun w => absurd c0 (by omega)) (fun w => absurd c0 (by omega))⟩
        · refine ⟨n + 1, yu_s9 hP (by omega) ?_ hn⟩
          rw [ec]; exact nI_ge (a := 9) (by omega) (by omega)
      rcases ih (j + 1) U (by omega) (by omega) (by omega) with ⟨U', u1, u2, u3⟩ | ⟨u1, sc, u2⟩
      · exact Or.inl ⟨U', u1, fun pX h => sX pX (u2 pX h), fun pY h => sY pY (u3 pY h)⟩
      · exact Or.inr ⟨fun pX h => sX pX (u1 pX h), sc, fun pY h => sY pY (u2 pY h)⟩
    have c1 : 0 < c := by omega
    have c9 : c ≤ 9 := by omega
    have hja : j ≠ a := by
      rintro rfl
      rcases Nat.lt_or_ge j e with w | w
      · have := (hP.2.2.2.2.2.1 j h2 (by omega)).mpr ⟨w, rfl⟩
        rw [ec] at this
        have := hh_i (by omega) (by decide) (m := 18) this
        omega
      · omega
    have rel := nu_rel hZ hja (by omega) ha
    have bw : -1000 < nu_w a j ∧ nu_w a j < 1000 := by
      unfold nu_w
      by_cases q : a ≤ j
      · rw [if_pos q]; omega
      · rw [if_neg q]; omega
    by_cases good : 0 ≤ nu_w a j + sx ∧ nu_w a j + sx ≤ 9
    · have es : sx = sy := by omega
      subst es
      generalize hW : nu_w a j + sx = W at good rel
      have pw : 10 ^ W.toNat ≤ 10 ^ 9 := Nat.pow_le_pow_right (by decide) (by omega)
      have pw2 : c * 10 ^ W.toNat ≤ 9 * 10 ^ 9 := Nat.mul_le_mul c9 pw
      have sX : ∀ postX : Int64 → Prop, (∃ n, wX_readUnits_39 postX (nI e) (nI a) (ii_I sx) x_length x_nodeCount x_bound x_fault x_faultPlace x_mode x_at (nI b) x_textCount x_escaped x_valueSlot x_valueName x_depth x_outputLength t x_typeKind x_typeDetail x_typeLeast x_typeMost x_fieldCount x_fieldName x_fieldType x_fieldNeeded x_tagType x_nodeKind x_nodeValue x_nodeParent x_nodeName x_nodeSlot x_nodeStart x_nodeTag x_completeCount x_openNode x_openSlot x_openNames x_openNext x_openComma x_output n (lN (U + c * 10 ^ W.toNat)) (nI (j + 1))) → ∃ n, wX_readUnits_39 postX (nI e) (nI a) (ii_I sx) x_length x_nodeCount x_bound x_fault x_faultPlace x_mode x_at (nI b) x_textCount x_escaped x_valueSlot x_valueName x_depth x_outputLength t x_typeKind x_typeDetail x_typeLeast x_typeMost x_fieldCount x_fieldName x_fieldType x_fieldNeeded x_tagType x_nodeKind x_nodeValue x_nodeParent x_nodeName x_nodeSlot x_nodeStart x_nodeTag x_completeCount x_openNode x_openSlot x_openNames x_openNext x_openComma x_output n (lN U) (nI j) := by
        intro postX ⟨n, hn⟩
        refine ⟨n + 1, xu_s1 hP h2 (by omega) c1 c9 ec (by omega) (by omega) (fun w => absurd w (by omega)) (fun _ _ => ?_)⟩
        rw [hW, lN_add]; exact hn
      have sY : ∀ {y_length y_parts y_bad y_nodes y_fault y_place y_bound y_depth y_nextName y_wantsName y_wantsTag y_printed y_waiting y_scaled : Int32} {y_sort y_typeA y_typeB y_typeC y_fieldName y_fieldType y_fields y_tags y_needed y_begin y_end y_inside y_whole y_kind y_value y_parent y_name y_slotOf y_placeOf y_complete y_openNode y_openType y_openCount y_openNames y_openChoice y_output y_todo : Nat → Int32} (postY : Int32 → SY → Prop), (∃ n, wY_units_228 postY x8 (nI e) (ii_I Z) y_length y_parts y_bad y_nodes y_fault y_place y_bound y_depth y_nextName y_wantsName y_wantsTag y_printed y_waiting y_scaled y_sort y_typeA y_typeB y_typeC y_fieldName y_fieldType y_fields y_tags y_needed t y_begin y_end y_inside y_whole y_kind y_value y_parent y_name y_slotOf y_placeOf y_complete y_openNode y_openType y_openCount y_openNames y_openChoice y_output y_todo n (lN (U + c * 10 ^ W.toNat)) 1 (nI (j + 1))) → ∃ n, wY_units_228 postY x8 (nI e) (ii_I Z) y_length y_parts y_bad y_nodes y_fault y_place y_bound y_depth y_nextName y_wantsName y_wantsTag y_printed y_waiting y_scaled y_sort y_typeA y_typeB y_typeC y_fieldName y_fieldType y_fields y_tags y_needed t y_begin y_end y_inside y_whole y_kind y_value y_parent y_name y_slotOf y_placeOf y_complete y_openNode y_openType y_openCount y_openNames y_openChoice y_output y_todo n (lN U) 1 (nI j) := by
        intro y_length y_parts y_bad y_nodes y_fault y_place y_bound y_depth y_nextName y_wantsName y_wantsTag y_printed y_waiting y_scaled y_sort y_typeA y_typeB y_typeC y_fieldName y_fieldType y_fields y_tags y_needed y_begin y_end y_inside y_whole y_kind y_value y_parent y_name y_slotOf y_placeOf y_complete y_openNode y_openType y_openCount y_openNames y_openChoice y_output y_todo postY ⟨n, hn⟩
        refine ⟨n + 1, yu_s hP hC (Or.inr rfl) h2 (by omega) c9 ec hZb.1 hZb.2 rel.symm (fun w => absurd w (by omega)) (fun _ w => absurd w (by omega)) (fun _ _ _ => ?_) (fun _ w => absurd w (by omega))⟩
        rw [lN_add]; exact hn
      rcases ih (j + 1) (U + c * 10 ^ W.toNat) (by omega) (by omega) (by omega) with ⟨U', u1, u2, u3⟩ | ⟨u1, sc, u2⟩
      · exact Or.inl ⟨U', u1, fun pX h => sX pX (u2 pX h), fun pY h => sY pY (u3 pY h)⟩
      · exact Or.inr ⟨fun pX h => sX pX (u1 pX h), sc, fun pY h => sY pY (u2 pY h)⟩
    · have sX : ∀ postX : Int64 → Prop, postX 1099511627776 → ∃ n, wX_readUnits_39 postX (nI e) (nI a) (ii_I sx) x_length x_nodeCount x_bound x_fault x_faultPlace x_mode x_at (nI b) x_textCount x_escaped x_valueSlot x_valueName x_depth x_outputLength t x_typeKind x_typeDetail x_typeLeast x_typeMost x_fieldCount x_fieldName x_fieldType x_fieldNeeded x_tagType x_nodeKind x_nodeValue x_nodeParent x_nodeName x_nodeSlot x_nodeStart x_nodeTag x_completeCount x_openNode x_openSlot x_openNames x_openNext x_openComma x_output n (lN U) (nI j) :=
        fun postX h => ⟨0 + 1, xu_s1 hP h2 (by omega) c1 c9 ec (by omega) (by omega) (fun _ => h) (fun w1 w2 => absurd ⟨w1, w2⟩ good)⟩
      refine Or.inr ⟨sX, ?_⟩
      generalize hW : Z + nu_c a e (j + 1) = W at rel
      by_cases w0 : W < 0
      · obtain ⟨sc, h⟩ := yu_bad hP hC (x8 := x8) hZb.1 hZb.2 m (j + 1) (lN U) 0 (by omega) (by omega) (Or.inl rfl)
        refine ⟨sc, fun postY hp => ?_⟩
        obtain ⟨n, hn⟩ := h postY hp
        exact ⟨n + 1, yu_s hP hC (Or.inr rfl) h2 (by omega) c9 ec hZb.1 hZb.2 hW.symm (fun w => absurd w (by omega)) (fun _ _ => hn) (fun _ w => absurd w (by omega)) (fun _ w => absurd w (by omega))⟩
      by_cases w11 : 11 ≤ W
      · obtain ⟨sc, h⟩ := yu_bad hP hC (x8 := x8) hZb.1 hZb.2 m (j + 1) (lN U + lN c) 0 (by omega) (by omega) (Or.inl rfl)
        refine ⟨sc, fun postY hp => ?_⟩
        obtain ⟨n, hn⟩ := h postY hp
        exact ⟨n + 1, yu_s hP hC (Or.inr rfl) h2 (by omega) c9 ec hZb.1 hZb.2 hW.symm (fun w => absurd w (by omega)) (fun _ w => absurd w w0) (fun _ _ w => absurd w (by omega)) (fun _ _ => hn)⟩
      · have eW : W = 10 := by omega
        subst eW
        obtain ⟨sc, h⟩ := yu_bad hP hC (x8 := x8) hZb.1 hZb.2 m (j + 1) (lN U + lN (c * 10 ^ (10 : Int).toNat)) 1 (by omega) (by omega) (Or.inr ⟨rfl, U + c * 10 ^ (10 : Int).toNat, lN_add _ _, by
          have : (10 : Int).toNat = 10 := rfl
          rw [this]; omega, by
          have : (10 : Int).toNat = 10 := rfl
          rw [this]; omega⟩)
        refine ⟨sc, fun postY hp => ?_⟩
        obtain ⟨n, hn⟩ := h postY hp
        exact ⟨n + 1, yu_s hP hC (Or.inr rfl) h2 (by omega) c9 ec hZb.1 hZb.2 hW.symm (fun w => absurd w (by omega)) (fun _ w => absurd w w0) (fun _ _ _ => hn) (fun _ w => absurd w w11)⟩
end
/-- where the reference finds point and e -/
theorem yu_scan {y_length y_parts y_bad y_nodes y_fault y_place y_bound y_depth y_nextName y_wantsName y_wantsTag y_printed y_waiting y_scaled : Int32} {y_sort y_typeA y_typeB y_typeC y_fieldName y_fieldType y_fields y_tags y_needed y_begin y_end y_inside y_whole y_kind y_value y_parent y_name y_slotOf y_placeOf y_complete y_openNode y_openType y_openCount y_openNames y_openChoice y_output y_todo : Nat → Int32} {t : Nat → Int32} {b a e Q : Nat} (hP : nu_P t b a e Q) {postY : Int32 → SY → Prop} {x2 x3 x7 x8 : Int32} : ∀ (m j : Nat), j + m = Q → b ≤ j →
    (∃ n, wY_units_45 postY x2 x3 (nI (Q - 1)) x7 x8 y_length y_parts y_bad y_nodes y_fault y_place y_bound y_depth y_nextName y_wantsName y_wantsTag y_printed y_waiting y_scaled y_sort y_typeA y_typeB y_typeC y_fieldName y_fieldType y_fields y_tags y_needed t y_begin y_end y_inside y_whole y_kind y_value y_parent y_name y_slotOf y_placeOf y_complete y_openNode y_openType y_openCount y_openNames y_openChoice y_output y_todo n (if a < e then nI a else -1) (if e < Q then nI e else -1) (nI Q)) → ∃ n, wY_units_45 postY x2 x3 (nI (Q - 1)) x7 x8 y_length y_parts y_bad y_nodes y_fault y_place y_bound y_depth y_nextName y_wantsName y_wantsTag y_printed y_waiting y_scaled y_sort y_typeA y_typeB y_typeC y_fieldName y_fieldType y_fields y_tags y_needed t y_begin y_end y_inside y_whole y_kind y_value y_parent y_name y_slotOf y_placeOf y_complete y_openNode y_openType y_openCount y_openNames y_openChoice y_output y_todo n (if a < e ∧ a < j then nI a else -1) (if e < j then nI e else -1) (nI j) := by
  have hQ := hP.2.2.2.1
  intro m
  induction m with
  | zero =>
    intro j h1 h2 h
    have : j = Q := by omega
    subst this
    rw [show (if a < e ∧ a < j then nI a else -1) = (if a < e then nI a else -1) from by
      by_cases q : a < e
      · rw [if_pos q, if_pos ⟨q, by have := hP.2.2.1; omega⟩]
      · rw [if_neg q, if_neg (fun w => q w.1)]]
    exact h
  | succ m ih =>
    intro j h1 h2 h
    obtain ⟨n, hn⟩ := ih (j + 1) (by omega) (by omega) h
    have ej : (nI j).toNatClampNeg = j := nI_clamp (by omega)
    have ij : vp_in (nI j) 96 := vp_in_nI (by omega) (by decide)
    refine ⟨n + 1, br_f (nI_nlt (by omega) (by omega)) ⟨ij, ?_⟩⟩
    have i18 := hP.2.2.2.2.2.1 j h2 (by omega)
    have i19 := hP.2.2.2.2.2.2.1 j h2 (by omega)
    rw [ej]
    by_cases p18 : t j = 18
    · have q := i18.mp p18
      have n19 : ¬ t j = 19 := by rw [p18]; decide
      refine br_t p18 ⟨ij, ?_⟩
      rw [ej]
      refine br_f n19 (nm_r (nI_1 j) ?_)
      have ne : ¬ (e < Q ∧ j = e) := fun w => n19 (i19.mpr w)
      rw [if_pos (by omega), q.2.symm, show (if e < j + 1 then nI e else -1) = (if e < j then nI e else (-1 : Int32)) from by
        by_cases r : e < j
        · rw [if_pos r, if_pos (by omega)]
        · rw [if_neg r, if_neg (by omega)]] at hn
      exact hn
    · have np : ¬ (a < e ∧ j = a) := fun w => p18 (i18.mpr w)
      have e1 : (if a < e ∧ a < j + 1 then nI a else -1) = (if a < e ∧ a < j then nI a else (-1 : Int32)) := by
        by_cases r : a < e ∧ a < j
        · rw [if_pos r, if_pos (by omega)]
        · rw [if_neg r, if_neg (by omega)]
      rw [e1] at hn
      refine br_f p18 ⟨ij, ?_⟩
      rw [ej]
      by_cases p19 : t j = 19
      · have q := i19.mp p19
        refine br_t p19 (nm_r (nI_1 j) ?_)
        obtain ⟨-, rfl⟩ := q
        rw [if_pos (by omega : j < j + 1)] at hn
        exact hn
      · have ne : ¬ (e < Q ∧ j = e) := fun w => p19 (i19.mpr w)
        refine br_f p19 (nm_r (nI_1 j) ?_)
        rw [show (if e < j + 1 then nI e else -1) = (if e < j then nI e else (-1 : Int32)) from by
          by_cases r : e < j
          · rw [if_pos r, if_pos (by omega)]
          · rw [if_neg r, if_neg (by omega)]] at hn
        exact hn
end
section
/-! the reckoning of a number: readUnits and units -/
/-- what the two answers have to do with each other -/
def nu_R (xu : Int64) (ok sc : Int32) : Prop := (ok = 1 ∧ xu = sc.toInt64) ∨ (ok = 0 ∧ (xu.toInt < -2147483648 ∨ 2147483647 < xu.toInt))
theorem nu_fit (z : Int64) : z = z.toInt32.toInt64 ∨ (z.toInt < -2147483648 ∨ 2147483647 < z.toInt) := by
  by_cases h : z.toInt < -2147483648 ∨ 2147483647 < z.toInt
  · exact Or.inr h
  · exact Or.inl (lg_i2l_l2i (by omega) (by omega)).symm
section
variable {x_length x_nodeCount x_bound x_fault x_faultPlace x_mode x_textCount x_escaped x_valueSlot x_valueName x_depth x_outputLength : Int32} {x_typeKind x_typeDetail x_typeLeast x_typeMost x_fieldCount x_fieldName x_fieldType x_fieldNeeded x_tagType x_nodeKind x_nodeValue x_nodeParent x_nodeName x_nodeSlot x_nodeStart x_nodeTag x_completeCount x_openNode x_openSlot x_openNames x_openNext x_openComma x_output : Nat → Int32} {t : Nat → Int32} {b a e Q : Nat}
theorem xu_top (hP : nu_P t b a e Q) {postX : Int64 → Prop} {d pw : Int32} (hpow : ∀ P : Int32 → Prop, P pw → wpX_readPower P (x_length, x_nodeCount, x_bound, x_fault, x_faultPlace, x_mode, nI Q, nI b, x_textCount, x_escaped, x_valueSlot, x_valueName, x_depth, x_outputLength, t, x_typeKind, x_typeDetail, x_typeLeast, x_typeMost, x_fieldCount, x_fieldName, x_fieldType, x_fieldNeeded, x_tagType, x_nodeKind, x_nodeValue, x_nodeParent, x_nodeName, x_nodeSlot, x_nodeStart, x_nodeTag, x_completeCount, x_openNode, x_openSlot, x_openNames, x_openNext, x_openComma, x_output) (nI (e + 1))) {sx : Int} (hs : d + pw = ii_I sx)
    (h : ∃ n, wX_readUnits_39 postX (nI e) (nI a) (ii_I sx) x_length x_nodeCount x_bound x_fault x_faultPlace x_mode (nI Q) (nI b) x_textCount x_escaped x_valueSlot x_valueName x_depth x_outputLength t x_typeKind x_typeDetail x_typeLeast x_typeMost x_fieldCount x_fieldName x_fieldType x_fieldNeeded x_tagType x_nodeKind x_nodeValue x_nodeParent x_nodeName x_nodeSlot x_nodeStart x_nodeTag x_completeCount x_openNode x_openSlot x_openNames x_openNext x_openComma x_output n (lN 0) (nI b)) : wpX_readUnits postX (x_length, x_nodeCount, x_bound, x_fault, x_faultPlace, x_mode, nI Q, nI b, x_textCount, x_escaped, x_valueSlot, x_valueName, x_depth, x_outputLength, t, x_typeKind, x_typeDetail, x_typeLeast, x_typeMost, x_fieldCount, x_fieldName, x_fieldType, x_fieldNeeded, x_tagType, x_nodeKind, x_nodeValue, x_nodeParent, x_nodeName, x_nodeSlot, x_nodeStart, x_nodeTag, x_completeCount, x_openNode, x_openSlot, x_openNames, x_openNext, x_openComma, x_output) d := by
  have hab := hP.1
  have hae := hP.2.1
  have he := hP.2.2.1
  have hQ := hP.2.2.2.1
  unfold wpX_readUnits
  dsimp only
  refine xu_find (e - b) b e Q (by omega) he hQ (fun i p q z => ?_) (fun w => ?_) ?_
  · have := (hP.2.2.2.2.2.2.1 i p (by omega)).mp z; omega
  · exact (hP.2.2.2.2.2.2.1 e (by omega) w).mpr ⟨w, rfl⟩
  refine xu_find (a - b) b a e (by omega) hae (by omega) (fun i p q z => ?_) (fun w => ?_) ?_
  · have := (hP.2.2.2.2.2.1 i p (by omega)).mp z; omega
  · exact (hP.2.2.2.2.2.1 a (by omega) (by omega)).mpr ⟨w, rfl⟩
  rw [nI_1]
  exact hpow _ (nm_r hs h)
end
section
variable {y_length y_parts y_bad y_nodes y_fault y_place y_bound y_depth y_nextName y_wantsName y_wantsTag y_printed y_waiting y_scaled : Int32} {y_sort y_typeA y_typeB y_typeC y_fieldName y_fieldType y_fields y_tags y_needed y_inside y_whole y_kind y_value y_parent y_name y_slotOf y_placeOf y_complete y_openNode y_openType y_openCount y_openNames y_openChoice y_output y_todo : Nat → Int32} {t bg en : Nat → Int32} {b a e Q k : Nat}
/-- from the power's value on -/
theorem yu_180 (hP : nu_P t b a e Q) {postY : Int32 → SY → Prop} {x8 : Int32} {d : Nat} (hd : d ≤ 4) {py : Int} {Z : Int} (hp1 : -1000000 < py) (hp2 : py < 1000000) (hZ : Z = py + d - (if a < e then (e : Int) - a - 1 else 0))
    (h : ∃ n, wY_units_228 postY x8 (nI e) (ii_I Z) y_length y_parts y_bad y_nodes y_fault y_place y_bound y_depth y_nextName y_wantsName y_wantsTag y_printed y_waiting y_scaled y_sort y_typeA y_typeB y_typeC y_fieldName y_fieldType y_fields y_tags y_needed t bg en y_inside y_whole y_kind y_value y_parent y_name y_slotOf y_placeOf y_complete y_openNode y_openType y_openCount y_openNames y_openChoice y_output y_todo n (lN 0) 1 (nI b)) : wY_units_180 postY (nI d) (nI b) (if a < e then nI a else -1) (if e < Q then nI e else -1) (nI (Q - 1)) (ii_I py) x8 y_length y_parts y_bad y_nodes y_fault y_place y_bound y_depth y_nextName y_wantsName y_wantsTag y_printed y_waiting y_scaled y_sort y_typeA y_typeB y_typeC y_fieldName y_fieldType y_fields y_tags y_needed t bg en y_inside y_whole y_kind y_value y_parent y_name y_slotOf y_placeOf y_complete y_openNode y_openType y_openCount y_openNames y_openChoice y_output y_todo := by
  have hab := hP.1
  have hae := hP.2.1
  have he := hP.2.2.1
  have hQ := hP.2.2.2.1
  have eD : ii_I py + nI d = ii_I (py + d) := by rw [ii_n, ii_add]
  have st : wY_units_194 postY (nI d) (nI b) (if a < e then nI a else -1) (ii_I py) x8 (nI e) y_length y_parts y_bad y_nodes y_fault y_place y_bound y_depth y_nextName y_wantsName y_wantsTag y_printed y_waiting y_scaled y_sort y_typeA y_typeB y_typeC y_fieldName y_fieldType y_fields y_tags y_needed t bg en y_inside y_whole y_kind y_value y_parent y_name y_slotOf y_placeOf y_complete y_openNode y_openType y_openCount y_openNames y_openChoice y_output y_todo := by
    unfold wY_units_194
    rw [eD]
    by_cases q : a < e
    · rw [if_pos q] at hZ ⊢
      refine br_t (nI_pos' (by omega)) (nm_r (e' := ii_I Z) ?_ h)
      rw [ii_n, ii_n, show (1 : Int32) = ii_I 1 from rfl, ii_sub, ii_sub, ii_sub, hZ]
    · rw [if_neg q] at hZ ⊢
      refine br_f (by decide) (nm_r (e' := ii_I Z) ?_ h)
      rw [show (0 : Int32) = ii_I 0 from rfl, ii_sub, hZ]
  unfold wY_units_180
  by_cases q : e < Q
  · rw [if_pos q]
    exact br_t (nI_pos' (by omega)) st
  · rw [if_neg q]
    refine br_f (by decide) ?_
    rw [nI_1, show Q - 1 + 1 = e from by omega]
    exact st
end
/-- the reference's reckoning, given the power -/
theorem yu_top {t bg en : Nat → Int32} {b a e Q k : Nat} (hP : nu_P t b a e Q) (hk : k < 96) (eb : bg k = nI b) (ee : en k = nI (Q - 1)) {d : Nat} (hd : d ≤ 4) {py : Int} {Z : Int} (hp1 : -1000000 < py) (hp2 : py < 1000000) (hZ : Z = py + d - (if a < e then (e : Int) - a - 1 else 0))
    (hpow : ∀ {y_length y_parts y_bad y_nodes y_fault y_place y_bound y_depth y_nextName y_wantsName y_wantsTag y_printed y_waiting y_scaled : Int32} {y_sort y_typeA y_typeB y_typeC y_fieldName y_fieldType y_fields y_tags y_needed y_inside y_whole y_kind y_value y_parent y_name y_slotOf y_placeOf y_complete y_openNode y_openType y_openCount y_openNames y_openChoice y_output y_todo : Nat → Int32} (postY : Int32 → SY → Prop) (x8 : Int32), wY_units_180 postY (nI d) (nI b) (if a < e then nI a else -1) (if e < Q then nI e else -1) (nI (Q - 1)) (ii_I py) x8 y_length y_parts y_bad y_nodes y_fault y_place y_bound y_depth y_nextName y_wantsName y_wantsTag y_printed y_waiting y_scaled y_sort y_typeA y_typeB y_typeC y_fieldName y_fieldType y_fields y_tags y_needed t bg en y_inside y_whole y_kind y_value y_parent y_name y_slotOf y_placeOf y_complete y_openNode y_openType y_openCount y_openNames y_openChoice y_output y_todo → wY_units_45 postY (nI d) (nI b) (nI (Q - 1)) 0 x8 y_length y_parts y_bad y_nodes y_fault y_place y_bound y_depth y_nextName y_wantsName y_wantsTag y_printed y_waiting y_scaled y_sort y_typeA y_typeB y_typeC y_fieldName y_fieldType y_fields y_tags y_needed t bg en y_inside y_whole y_kind y_value y_parent y_name y_slotOf y_placeOf y_complete y_openNode y_openType y_openCount y_openNames y_openChoice y_output y_todo 1 (if a < e then nI a else -1) (if e < Q then nI e else -1) (nI Q)) :
    ∀ {y_length y_parts y_bad y_nodes y_fault y_place y_bound y_depth y_nextName y_wantsName y_wantsTag y_printed y_waiting y_scaled : Int32} {y_sort y_typeA y_typeB y_typeC y_fieldName y_fieldType y_fields y_tags y_needed y_inside y_whole y_kind y_value y_parent y_name y_slotOf y_placeOf y_complete y_openNode y_openType y_openCount y_openNames y_openChoice y_output y_todo : Nat → Int32} (postY : Int32 → SY → Prop), (∀ x8 : Int32, x8 = (if t b = 17 then 1 else 0) → ∃ n, wY_units_228 postY x8 (nI e) (ii_I Z) y_length y_parts y_bad y_nodes y_fault y_place y_bound y_depth y_nextName y_wantsName y_wantsTag y_printed y_waiting y_scaled y_sort y_typeA y_typeB y_typeC y_fieldName y_fieldType y_fields y_tags y_needed t bg en y_inside y_whole y_kind y_value y_parent y_name y_slotOf y_placeOf y_complete y_openNode y_openType y_openCount y_openNames y_openChoice y_output y_todo n (lN 0) 1 (nI b)) → wpY_units postY (y_length, y_parts, y_bad, y_nodes, y_fault, y_place, y_bound, y_depth, y_nextName, y_wantsName, y_wantsTag, y_printed, y_waiting, y_scaled, y_sort, y_typeA, y_typeB, y_typeC, y_fieldName, y_fieldType, y_fields, y_tags, y_needed, t, bg, en, y_inside, y_whole, y_kind, y_value, y_parent, y_name, y_slotOf, y_placeOf, y_complete, y_openNode, y_openType, y_openCount, y_openNames, y_openChoice, y_output, y_todo) (nI k) (nI d) := by
  intro y_length y_parts y_bad y_nodes y_fault y_place y_bound y_depth y_nextName y_wantsName y_wantsTag y_printed y_waiting y_scaled y_sort y_typeA y_typeB y_typeC y_fieldName y_fieldType y_fields y_tags y_needed y_inside y_whole y_kind y_value y_parent y_name y_slotOf y_placeOf y_complete y_openNode y_openType y_openCount y_openNames y_openChoice y_output y_todo postY h
  have hab := hP.1
  have hae := hP.2.1
  have he := hP.2.2.1
  have hQ := hP.2.2.2.1
  have ek : (nI k).toNatClampNeg = k := nI_clamp (by omega)
  have ik : vp_in (nI k) 96 := vp_in_nI hk (by decide)
  have eB : (nI b).toNatClampNeg = b := nI_clamp (by omega)
  have iB : vp_in (nI b) 96 := vp_in_nI (by omega) (by decide)
  have go : ∀ x8 : Int32, x8 = (if t b = 17 then 1 else 0) → ∃ n, wY_units_45 postY (nI d) (nI b) (nI (Q - 1)) 0 x8 y_length y_parts y_bad y_nodes y_fault y_place y_bound y_depth y_nextName y_wantsName y_wantsTag y_printed y_waiting y_scaled y_sort y_typeA y_typeB y_typeC y_fieldName y_fieldType y_fields y_tags y_needed t bg en y_inside y_whole y_kind y_value y_parent y_name y_slotOf y_placeOf y_complete y_openNode y_openType y_openCount y_openNames y_openChoice y_output y_todo n (-1) (-1) (nI b) := by
    intro x8 h8
    have := yu_scan (postY := postY) (x2 := nI d) (x3 := nI b) (x7 := 0) (x8 := x8) (y_length := y_length) (y_parts := y_parts) (y_bad := y_bad) (y_nodes := y_nodes) (y_fault := y_fault) (y_place := y_place) (y_bound := y_bound) (y_depth := y_depth) (y_nextName := y_nextName) (y_wantsName := y_wantsName) (y_wantsTag := y_wantsTag) (y_printed := y_printed) (y_waiting := y_waiting) (y_scaled := y_scaled) (y_sort := y_sort) (y_typeA := y_typeA) (y_typeB := y_typeB) (y_typeC := y_typeC) (y_fieldName := y_fieldName) (y_fieldType := y_fieldType) (y_fields := y_fields) (y_tags := y_tags) (y_needed := y_needed) (y_begin := bg) (y_end := en) (y_inside := y_inside) (y_whole := y_whole) (y_kind := y_kind) (y_value := y_value) (y_parent := y_parent) (y_name := y_name) (y_slotOf := y_slotOf) (y_placeOf := y_placeOf) (y_complete := y_complete) (y_openNode := y_openNode) (y_openType := y_openType) (y_openCount := y_openCount) (y_openNames := y_openNames) (y_openChoice := y_openChoice) (y_output := y_output) (y_todo := y_todo) hP (Q - b) b (by omega) (by omega) ⟨1, hpow postY x8 (yu_180 hP hd hp1 hp2 hZ (h x8 h8))⟩
    rw [if_neg (by omega), if_neg (by omega)] at this
    exact this
  unfold wpY_units
  dsimp only
  rw [ek, eb, ee]
  refine ⟨ik, nm_e ⟨ik, nm_e ⟨iB, ?_⟩⟩⟩
  rw [eB]
  by_cases c17 : t b = 17
  · rw [if_pos c17] at go
    exact br_t c17 (go 1 rfl)
  · rw [if_neg c17] at go
    exact br_f c17 (go 0 rfl)
section
variable {x_length x_nodeCount x_bound x_fault x_faultPlace x_mode x_textCount x_escaped x_valueSlot x_valueName x_depth x_outputLength : Int32} {x_typeKind x_typeDetail x_typeLeast x_typeMost x_fieldCount x_fieldName x_fieldType x_fieldNeeded x_tagType x_nodeKind x_nodeValue x_nodeParent x_nodeName x_nodeSlot x_nodeStart x_nodeTag x_completeCount x_openNode x_openSlot x_openNames x_openNext x_openComma x_output : Nat → Int32}
/-- both reckon the number alike -/
theorem nu_units {t bg en : Nat → Int32} {L b Q k d : Nat} (hL : L ≤ 96) (hC : tt_C t) (hW : ns_W t L b Q) (hk : k < 96) (eb : bg k = nI b) (ee : en k = nI (Q - 1)) (hd : d ≤ 4) :
    ∃ (xu : Int64) (ok sc : Int32), nu_R xu ok sc ∧ (∀ postX : Int64 → Prop, postX xu → wpX_readUnits postX (x_length, x_nodeCount, x_bound, x_fault, x_faultPlace, x_mode, nI Q, nI b, x_textCount, x_escaped, x_valueSlot, x_valueName, x_depth, x_outputLength, t, x_typeKind, x_typeDetail, x_typeLeast, x_typeMost, x_fieldCount, x_fieldName, x_fieldType, x_fieldNeeded, x_tagType, x_nodeKind, x_nodeValue, x_nodeParent, x_nodeName, x_nodeSlot, x_nodeStart, x_nodeTag, x_completeCount, x_openNode, x_openSlot, x_openNames, x_openNext, x_openComma, x_output) (nI d)) ∧ un_Y t bg en k (nI d) ok sc := by
  obtain ⟨a, e, hP⟩ := nu_of hL hW
  have hab := hP.1
  have hae := hP.2.1
  have he := hP.2.2.1
  have hQ := hP.2.2.2.1
  -- the powers
  have pows : ∃ sx sy : Int, (sx = sy ∨ (9500 ≤ sx ∧ 9500 ≤ sy) ∨ (sx ≤ -9500 ∧ sy ≤ -9500)) ∧ (-1000000 ≤ sx ∧ sx ≤ 1000000) ∧ (-100000 ≤ sy ∧ sy ≤ 100000) ∧
      (∃ pw : Int32, nI d + pw = ii_I (sx + d) ∧ ∀ P : Int32 → Prop, P pw → wpX_readPower P (x_length, x_nodeCount, x_bound, x_fault, x_faultPlace, x_mode, nI Q, nI b, x_textCount, x_escaped, x_valueSlot, x_valueName, x_depth, x_outputLength, t, x_typeKind, x_typeDetail, x_typeLeast, x_typeMost, x_fieldCount, x_fieldName, x_fieldType, x_fieldNeeded, x_tagType, x_nodeKind, x_nodeValue, x_nodeParent, x_nodeName, x_nodeSlot, x_nodeStart, x_nodeTag, x_completeCount, x_openNode, x_openSlot, x_openNames, x_openNext, x_openComma, x_output) (nI (e + 1))) ∧
      (∀ {y_length y_parts y_bad y_nodes y_fault y_place y_bound y_depth y_nextName y_wantsName y_wantsTag y_printed y_waiting y_scaled : Int32} {y_sort y_typeA y_typeB y_typeC y_fieldName y_fieldType y_fields y_tags y_needed y_inside y_whole y_kind y_value y_parent y_name y_slotOf y_placeOf y_complete y_openNode y_openType y_openCount y_openNames y_openChoice y_output y_todo : Nat → Int32} (postY : Int32 → SY → Prop) (x8 : Int32), wY_units_180 postY (nI d) (nI b) (if a < e then nI a else -1) (if e < Q then nI e else -1) (nI (Q - 1)) (ii_I sy) x8 y_length y_parts y_bad y_nodes y_fault y_place y_bound y_depth y_nextName y_wantsName y_wantsTag y_printed y_waiting y_scaled y_sort y_typeA y_typeB y_typeC y_fieldName y_fieldType y_fields y_tags y_needed t bg en y_inside y_whole y_kind y_value y_parent y_name y_slotOf y_placeOf y_complete y_openNode y_openType y_openCount y_openNames y_openChoice y_output y_todo → wY_units_45 postY (nI d) (nI b) (nI (Q - 1)) 0 x8 y_length y_parts y_bad y_nodes y_fault y_place y_bound y_depth y_nextName y_wantsName y_wantsTag y_printed y_waiting y_scaled y_sort y_typeA y_typeB y_typeC y_fieldName y_fieldType y_fields y_tags y_needed t bg en y_inside y_whole y_kind y_value y_parent y_name y_slotOf y_placeOf y_complete y_openNode y_openType y_openCount y_openNames y_openChoice y_output y_todo 1 (if a < e then nI a else -1) (if e < Q then nI e else -1) (nI Q)) := by
    rcases Nat.lt_or_ge e Q with q | q
    · have q1 := hP.2.2.2.2.1 q
      obtain ⟨px, py, hV, hX, hY⟩ := nu_pow (f := e + 1) (x_length := x_length) (x_nodeCount := x_nodeCount) (x_bound := x_bound) (x_fault := x_fault) (x_faultPlace := x_faultPlace) (x_mode := x_mode) (x_tokenStart := nI b) (x_textCount := x_textCount) (x_escaped := x_escaped) (x_valueSlot := x_valueSlot) (x_valueName := x_valueName) (x_depth := x_depth) (x_outputLength := x_outputLength) (x_typeKind := x_typeKind) (x_typeDetail := x_typeDetail) (x_typeLeast := x_typeLeast) (x_typeMost := x_typeMost) (x_fieldCount := x_fieldCount) (x_fieldName := x_fieldName) (x_fieldType := x_fieldType) (x_fieldNeeded := x_fieldNeeded) (x_tagType := x_tagType) (x_nodeKind := x_nodeKind) (x_nodeValue := x_nodeValue) (x_nodeParent := x_nodeParent) (x_nodeName := x_nodeName) (x_nodeSlot := x_nodeSlot) (x_nodeStart := x_nodeStart) (x_nodeTag := x_nodeTag) (x_completeCount := x_completeCount) (x_openNode := x_openNode) (x_openSlot := x_openSlot) (x_openNames := x_openNames) (x_openNext := x_openNext) (x_openComma := x_openComma) (x_output := x_output) (x_text := t) hC hQ (Q - (e + 1)) (e + 1) 0 0 (by omega) (Or.inl ⟨rfl, by omega⟩)
      have e1 : (nI (e + 1)).toNatClampNeg = e + 1 := nI_clamp (by omega)
      have bx : px ≤ 999999 ∧ py ≤ 99999 := by unfold nu_V at hV; omega
      by_cases c17 : t (e + 1) = 17
      · refine ⟨-(px : Int), -(py : Int), by unfold nu_V at hV; omega, by omega, by omega, ⟨-nI px, ?_, fun P hp => ?_⟩, ?_⟩
        · rw [ii_n d, ii_n px, ii_neg, ii_add]; congr 1; omega
        · refine hX P ⟨1, br_t (nI_le (Nat.le_refl _) (by omega)) (br_f (nI_ge q1 (by omega)) ⟨vp_in_nI (by omega) (by decide), ?_⟩)⟩
          rw [e1]; exact br_t c17 hp
        · intro y_length y_parts y_bad y_nodes y_fault y_place y_bound y_depth y_nextName y_wantsName y_wantsTag y_printed y_waiting y_scaled y_sort y_typeA y_typeB y_typeC y_fieldName y_fieldType y_fields y_tags y_needed y_inside y_whole y_kind y_value y_parent y_name y_slotOf y_placeOf y_complete y_openNode y_openType y_openCount y_openNames y_openChoice y_output y_todo postY x8 w
          refine br_t (nI_lt (by omega) (by omega)) ?_
          rw [if_pos q] at w ⊢
          refine br_t (nI_pos' (by omega)) (nm_r (nI_1 e) ?_)
          refine hY (y_begin := bg) (y_end := en) postY (nI d) (nI b) _ (nI e) x8 ⟨1, br_t (nI_lt (by omega) (by omega)) (br_f (nI_pos (by omega)) ?_)⟩
          rw [nI_1]
          refine ⟨vp_in_nI (by omega) (by decide), ?_⟩
          rw [e1]
          refine br_t c17 (nm_r (e' := ii_I (-(py : Int))) ?_ w)
          rw [ii_n, ii_neg]
      · refine ⟨(px : Int), (py : Int), by unfold nu_V at hV; omega, by omega, by omega, ⟨nI px, ?_, fun P hp => ?_⟩, ?_⟩
        · rw [ii_n d, ii_n px, ii_add]; congr 1; omega
        · refine hX P ⟨1, br_t (nI_le (Nat.le_refl _) (by omega)) (br_f (nI_ge q1 (by omega)) ⟨vp_in_nI (by omega) (by decide), ?_⟩)⟩
          rw [e1]; exact br_f c17 hp
        · intro y_length y_parts y_bad y_nodes y_fault y_place y_bound y_depth y_nextName y_wantsName y_wantsTag y_printed y_waiting y_scaled y_sort y_typeA y_typeB y_typeC y_fieldName y_fieldType y_fields y_tags y_needed y_inside y_whole y_kind y_value y_parent y_name y_slotOf y_placeOf y_complete y_openNode y_openType y_openCount y_openNames y_openChoice y_output y_todo postY x8 w
          refine br_t (nI_lt (by omega) (by omega)) ?_
          rw [if_pos q] at w ⊢
          refine br_t (nI_pos' (by omega)) (nm_r (nI_1 e) ?_)
          refine hY (y_begin := bg) (y_end := en) postY (nI d) (nI b) _ (nI e) x8 ⟨1, br_t (nI_lt (by omega) (by omega)) (br_f (nI_pos (by omega)) ?_)⟩
          rw [nI_1]
          refine ⟨vp_in_nI (by omega) (by decide), ?_⟩
          rw [e1]
          refine br_f c17 ?_
          rw [ii_nat] at w
          exact w
    · have eq : e = Q := by omega
      subst eq
      refine ⟨0, 0, Or.inl rfl, by omega, by omega, ⟨0, ?_, fun P hp => ?_⟩, ?_⟩
      · rw [ii_n, show (0 : Int32) = ii_I 0 from rfl, ii_add]; congr 1; omega
      · exact ⟨1, br_t (nI_le (by omega) (by omega)) (br_t (nI_le (by omega) (by omega)) hp)⟩
      · intro y_length y_parts y_bad y_nodes y_fault y_place y_bound y_depth y_nextName y_wantsName y_wantsTag y_printed y_waiting y_scaled y_sort y_typeA y_typeB y_typeC y_fieldName y_fieldType y_fields y_tags y_needed y_inside y_whole y_kind y_value y_parent y_name y_slotOf y_placeOf y_complete y_openNode y_openType y_openCount y_openNames y_openChoice y_output y_todo postY x8 w
        refine br_t (nI_lt (by omega) (by omega)) ?_
        rw [if_neg (Nat.lt_irrefl e)] at w ⊢
        refine br_f (by decide) (nm_r (nI_1 _) ⟨1, ?_⟩)
        rw [show e - 1 + 1 = e from by omega]
        exact br_t (nI_lt (by omega) (by omega)) (br_t (by decide) w)
  obtain ⟨sx, sy, hK, bX, bY, ⟨pw, hpw, hpowX⟩, hpowY⟩ := pows
  have D := nu_dig (t := t) (x8 := (if t b = 17 then 1 else 0)) (sx := sx + d) (sy := sy + d) (Z := sy + d - (if a < e then (e : Int) - a - 1 else 0)) (x_length := x_length) (x_nodeCount := x_nodeCount) (x_bound := x_bound) (x_fault := x_fault) (x_faultPlace := x_faultPlace) (x_mode := x_mode) (x_at := nI Q) (x_textCount := x_textCount) (x_escaped := x_escaped) (x_valueSlot := x_valueSlot) (x_valueName := x_valueName) (x_depth := x_depth) (x_outputLength := x_outputLength) (x_typeKind := x_typeKind) (x_typeDetail := x_typeDetail) (x_typeLeast := x_typeLeast) (x_typeMost := x_typeMost) (x_fieldCount := x_fieldCount) (x_fieldName := x_fieldName) (x_fieldType := x_fieldType) (x_fieldNeeded := x_fieldNeeded) (x_tagType := x_tagType) (x_nodeKind := x_nodeKind) (x_nodeValue := x_nodeValue) (x_nodeParent := x_nodeParent) (x_nodeName := x_nodeName) (x_nodeSlot := x_nodeSlot) (x_nodeStart := x_nodeStart) (x_nodeTag := x_nodeTag) (x_completeCount := x_completeCount) (x_openNode := x_openNode) (x_openSlot := x_openSlot) (x_openNames := x_openNames) (x_openNext := x_openNext) (x_openComma := x_openComma) (x_output := x_output) hP hC (by omega) (by omega) (by omega) (by omega) (by omega) rfl (e - b) b 0 (by omega) (by omega) (by omega)
  have eB : (nI b).toNatClampNeg = b := nI_clamp (by omega)
  have iB : vp_in (nI b) 96 := vp_in_nI (by omega) (by decide)
  have leE : nI e ≤ nI e := nI_le (Nat.le_refl _) (by omega)
  rcases D with ⟨U, hU, dX, dY⟩ | ⟨dX, sc, dY⟩
  · -- the value
    have fin : ∀ z : Int64, z = (if t b = 17 then -lN U else lN U) → ∃ (xu : Int64) (ok sc : Int32), nu_R xu ok sc ∧ (∀ postX : Int64 → Prop, postX xu → wpX_readUnits postX (x_length, x_nodeCount, x_bound, x_fault, x_faultPlace, x_mode, nI Q, nI b, x_textCount, x_escaped, x_valueSlot, x_valueName, x_depth, x_outputLength, t, x_typeKind, x_typeDetail, x_typeLeast, x_typeMost, x_fieldCount, x_fieldName, x_fieldType, x_fieldNeeded, x_tagType, x_nodeKind, x_nodeValue, x_nodeParent, x_nodeName, x_nodeSlot, x_nodeStart, x_nodeTag, x_completeCount, x_openNode, x_openSlot, x_openNames, x_openNext, x_openComma, x_output) (nI d)) ∧ un_Y t bg en k (nI d) ok sc := by
      intro z hz
      have wx : ∀ postX : Int64 → Prop, postX z → wpX_readUnits postX (x_length, x_nodeCount, x_bound, x_fault, x_faultPlace, x_mode, nI Q, nI b, x_textCount, x_escaped, x_valueSlot, x_valueName, x_depth, x_outputLength, t, x_typeKind, x_typeDetail, x_typeLeast, x_typeMost, x_fieldCount, x_fieldName, x_fieldType, x_fieldNeeded, x_tagType, x_nodeKind, x_nodeValue, x_nodeParent, x_nodeName, x_nodeSlot, x_nodeStart, x_nodeTag, x_completeCount, x_openNode, x_openSlot, x_openNames, x_openNext, x_openComma, x_output) (nI d) := by
        intro postX hp
        refine xu_top hP hpowX hpw (dX postX ⟨1, br_t leE ⟨iB, ?_⟩⟩)
        rw [eB]
        by_cases c17 : t b = 17
        · rw [if_pos c17] at hz; subst hz; exact br_t c17 hp
        · rw [if_neg c17] at hz; subst hz; exact br_f c17 hp
      have wy : ∀ ok : Int32, (∀ {y_length y_parts y_bad y_nodes y_fault y_place y_bound y_depth y_nextName y_wantsName y_wantsTag y_printed y_waiting y_scaled : Int32} {y_sort y_typeA y_typeB y_typeC y_fieldName y_fieldType y_fields y_tags y_needed y_inside y_whole y_kind y_value y_parent y_name y_slotOf y_placeOf y_complete y_openNode y_openType y_openCount y_openNames y_openChoice y_output y_todo : Nat → Int32} (postY : Int32 → SY → Prop), postY ok (y_length, y_parts, y_bad, y_nodes, y_fault, y_place, y_bound, y_depth, y_nextName, y_wantsName, y_wantsTag, y_printed, y_waiting, z.toInt32, y_sort, y_typeA, y_typeB, y_typeC, y_fieldName, y_fieldType, y_fields, y_tags, y_needed, t, bg, en, y_inside, y_whole, y_kind, y_value, y_parent, y_name, y_slotOf, y_placeOf, y_complete, y_openNode, y_openType, y_openCount, y_openNames, y_openChoice, y_output, y_todo) → wY_units_410 postY 1 z y_length y_parts y_bad y_nodes y_fault y_place y_bound y_depth y_nextName y_wantsName y_wantsTag y_printed y_waiting y_scaled y_sort y_typeA y_typeB y_typeC y_fieldName y_fieldType y_fields y_tags y_needed t bg en y_inside y_whole y_kind y_value y_parent y_name y_slotOf y_placeOf y_complete y_openNode y_openType y_openCount y_openNames y_openChoice y_output y_todo) → un_Y t bg en k (nI d) ok z.toInt32 := by
        intro ok h4 y_length y_parts y_bad y_nodes y_fault y_place y_bound y_depth y_nextName y_wantsName y_wantsTag y_printed y_waiting y_scaled y_sort y_typeA y_typeB y_typeC y_fieldName y_fieldType y_fields y_tags y_needed y_inside y_whole y_kind y_value y_parent y_name y_slotOf y_placeOf y_complete y_openNode y_openType y_openCount y_openNames y_openChoice y_output y_todo postY hp
        refine yu_top hP hk eb ee hd (by omega) (by omega) rfl hpowY postY (fun x8 h8 => ?_)
        subst h8
        refine dY (y_begin := bg) (y_end := en) postY ⟨1, br_t leE ?_⟩
        by_cases c17 : t b = 17
        · rw [if_pos c17] at hz ⊢; rw [← hz]; exact br_f (by decide) (h4 postY hp)
        · rw [if_neg c17] at hz ⊢; rw [← hz]; exact br_t rfl (h4 postY hp)
      rcases nu_fit z with f | f
      · exact ⟨z, 1, z.toInt32, Or.inl ⟨rfl, f⟩, wx, wy 1 (fun postY hp => br_f (by decide) (br_t f hp))⟩
      · exact ⟨z, 0, z.toInt32, Or.inr ⟨rfl, f⟩, wx, wy 0 (fun postY hp => br_f (by decide) (br_f (lT_big f) hp))⟩
    exact fin _ rfl
  · refine ⟨1099511627776, 0, sc, Or.inr ⟨rfl, Or.inr (by decide)⟩, fun postX hp => xu_top hP hpowX hpw (dX postX hp), ?_⟩
    intro y_length y_parts y_bad y_nodes y_fault y_place y_bound y_depth y_nextName y_wantsName y_wantsTag y_printed y_waiting y_scaled y_sort y_typeA y_typeB y_typeC y_fieldName y_fieldType y_fields y_tags y_needed y_inside y_whole y_kind y_value y_parent y_name y_slotOf y_placeOf y_complete y_openNode y_openType y_openCount y_openNames y_openChoice y_output y_todo postY hp
    refine yu_top hP hk eb ee hd (by omega) (by omega) rfl hpowY postY (fun x8 h8 => ?_)
    subst h8
    exact dY (y_begin := bg) (y_end := en) postY hp
end
end
section
/-! the bind: what holds between two parts -/
def by_L (slot : Int32) (post : Int32 → SY → Prop) (k : Nat) (v : SY) : Prop := match v with | (y_length, y_parts, y_bad, y_nodes, y_fault, y_place, y_bound, y_depth, y_nextName, y_wantsName, y_wantsTag, y_printed, y_waiting, y_scaled, y_sort, y_typeA, y_typeB, y_typeC, y_fieldName, y_fieldType, y_fields, y_tags, y_needed, y_text, y_begin, y_end, y_inside, y_whole, y_kind, y_value, y_parent, y_name, y_slotOf, y_placeOf, y_complete, y_openNode, y_openType, y_openCount, y_openNames, y_openChoice, y_output, y_todo) => ∃ n, wY_bind_73 post slot n (nI k) y_length y_parts y_bad y_nodes y_fault y_place y_bound y_depth y_nextName y_wantsName y_wantsTag y_printed y_waiting y_scaled y_sort y_typeA y_typeB y_typeC y_fieldName y_fieldType y_fields y_tags y_needed y_text y_begin y_end y_inside y_whole y_kind y_value y_parent y_name y_slotOf y_placeOf y_complete y_openNode y_openType y_openCount y_openNames y_openChoice y_output y_todo
def by_R (slot : Int32) (k : Nat) (v : SY) (k' : Nat) (v' : SY) : Prop := ∀ post, by_L slot post k' v' → by_L slot post k v
/-- both end the bind with one answer, in related states -/
def bo_O (slot : Int32) (p k : Nat) (u : SX) (v : SY) : Prop := ∃ r u' v', (∀ post : Int32 → SX → Prop, post r u' → bx_L post p u) ∧ (∀ post : Int32 → SY → Prop, post r v' → by_L slot post k v) ∧ i_Rel 0 u' v'
theorem bo_step {slot : Int32} {p k p' k' : Nat} {u u' : SX} {v v' : SY} (hx : bx_R p u p' u') (hy : by_R slot k v k' v') (h : bo_O slot p' k' u' v') : bo_O slot p k u v := by
  obtain ⟨r, a, b, h1, h2, h3⟩ := h
  exact ⟨r, a, b, fun post q => hx post (h1 post q), fun post q => hy post (h2 post q), h3⟩
theorem bo_x {slot : Int32} {p k p' : Nat} {u u' : SX} {v : SY} (hx : bx_R p u p' u') (h : bo_O slot p' k u' v) : bo_O slot p k u v :=
  bo_step hx (fun _ h => h) h
section
variable {y_length y_parts y_bad y_nodes y_fault y_place y_bound y_depth y_nextName y_wantsName y_wantsTag y_printed y_waiting y_scaled : Int32} {y_sort y_typeA y_typeB y_typeC y_fieldName y_fieldType y_fields y_tags y_needed y_text y_begin y_end y_inside y_whole y_kind y_value y_parent y_name y_slotOf y_placeOf y_complete y_openNode y_openType y_openCount y_openNames y_openChoice y_output y_todo : Nat → Int32} {P k : Nat} {slot : Int32}
theorem by_1 (hk : k < P) (hP : P ≤ 96) (v' : SY) (h : ∀ Q : SY → Prop, Q v' → wpY_part Q (y_length, nI P, y_bad, y_nodes, 0, y_place, y_bound, y_depth, y_nextName, y_wantsName, y_wantsTag, y_printed, y_waiting, y_scaled, y_sort, y_typeA, y_typeB, y_typeC, y_fieldName, y_fieldType, y_fields, y_tags, y_needed, y_text, y_begin, y_end, y_inside, y_whole, y_kind, y_value, y_parent, y_name, y_slotOf, y_placeOf, y_complete, y_openNode, y_openType, y_openCount, y_openNames, y_openChoice, y_output, y_todo) (nI k) slot) : by_R slot k (y_length, nI P, y_bad, y_nodes, 0, y_place, y_bound, y_depth, y_nextName, y_wantsName, y_wantsTag, y_printed, y_waiting, y_scaled, y_sort, y_typeA, y_typeB, y_typeC, y_fieldName, y_fieldType, y_fields, y_tags, y_needed, y_text, y_begin, y_end, y_inside, y_whole, y_kind, y_value, y_parent, y_name, y_slotOf, y_placeOf, y_complete, y_openNode, y_openType, y_openCount, y_openNames, y_openChoice, y_output, y_todo) (k + 1) v' := by
  intro post hn
  obtain ⟨z_length, z_parts, z_bad, z_nodes, z_fault, z_place, z_bound, z_depth, z_nextName, z_wantsName, z_wantsTag, z_printed, z_waiting, z_scaled, z_sort, z_typeA, z_typeB, z_typeC, z_fieldName, z_fieldType, z_fields, z_tags, z_needed, z_text, z_begin, z_end, z_inside, z_whole, z_kind, z_value, z_parent, z_name, z_slotOf, z_placeOf, z_complete, z_openNode, z_openType, z_openCount, z_openNames, z_openChoice, z_output, z_todo⟩ := v'
  obtain ⟨n, hn⟩ := hn
  exact ⟨n + 1, br_f (nI_ge hk (by omega)) (br_t rfl (h _ (nm_r (nI_1 k) hn)))⟩
theorem by_F {post : Int32 → SY → Prop} (hf : ¬ y_fault = 0) (h : post y_fault (y_length, y_parts, y_bad, y_nodes, y_fault, y_place, 0, y_depth, y_nextName, y_wantsName, y_wantsTag, y_printed, y_waiting, y_scaled, y_sort, y_typeA, y_typeB, y_typeC, y_fieldName, y_fieldType, y_fields, y_tags, y_needed, y_text, y_begin, y_end, y_inside, y_whole, y_kind, y_value, y_parent, y_name, y_slotOf, y_placeOf, y_complete, y_openNode, y_openType, y_openCount, y_openNames, y_openChoice, y_output, y_todo)) : by_L slot post k (y_length, y_parts, y_bad, y_nodes, y_fault, y_place, y_bound, y_depth, y_nextName, y_wantsName, y_wantsTag, y_printed, y_waiting, y_scaled, y_sort, y_typeA, y_typeB, y_typeC, y_fieldName, y_fieldType, y_fields, y_tags, y_needed, y_text, y_begin, y_end, y_inside, y_whole, y_kind, y_value, y_parent, y_name, y_slotOf, y_placeOf, y_complete, y_openNode, y_openType, y_openCount, y_openNames, y_openChoice, y_output, y_todo) := by
  have e : wY_bind_100 post y_length y_parts y_bad y_nodes y_fault y_place y_bound y_depth y_nextName y_wantsName y_wantsTag y_printed y_waiting y_scaled y_sort y_typeA y_typeB y_typeC y_fieldName y_fieldType y_fields y_tags y_needed y_text y_begin y_end y_inside y_whole y_kind y_value y_parent y_name y_slotOf y_placeOf y_complete y_openNode y_openType y_openCount y_openNames y_openChoice y_output y_todo := by
    by_cases z : y_bad < 0
    · exact br_t z (br_f hf h)
    · exact br_f z (br_f hf (br_f hf h))
  by_cases z : y_parts ≤ nI k
  · exact ⟨1, br_t z e⟩
  · exact ⟨1, br_f z (br_f hf e)⟩
theorem by_E0 {post : Int32 → SY → Prop} (hP : P ≤ 96) (h : post 0 (y_length, nI P, -1, y_nodes, 0, y_place, 1, y_depth, y_nextName, y_wantsName, y_wantsTag, y_printed, y_waiting, y_scaled, y_sort, y_typeA, y_typeB, y_typeC, y_fieldName, y_fieldType, y_fields, y_tags, y_needed, y_text, y_begin, y_end, y_inside, y_whole, y_kind, y_value, y_parent, y_name, y_slotOf, y_placeOf, y_complete, y_openNode, y_openType, y_openCount, y_openNames, y_openChoice, y_output, y_todo)) : by_L slot post P (y_length, nI P, -1, y_nodes, 0, y_place, y_bound, y_depth, y_nextName, y_wantsName, y_wantsTag, y_printed, y_waiting, y_scaled, y_sort, y_typeA, y_typeB, y_typeC, y_fieldName, y_fieldType, y_fields, y_tags, y_needed, y_text, y_begin, y_end, y_inside, y_whole, y_kind, y_value, y_parent, y_name, y_slotOf, y_placeOf, y_complete, y_openNode, y_openType, y_openCount, y_openNames, y_openChoice, y_output, y_todo) :=
  ⟨1, br_t (nI_le (Nat.le_refl _) (by omega)) (br_t (by decide) (br_t rfl h))⟩
theorem by_E1 {post : Int32 → SY → Prop} {z : Nat} (hP : P ≤ 96) (hz : z ≤ 96) (h : post 1 (y_length, nI P, nI z, y_nodes, 1, nI z, 0, y_depth, y_nextName, y_wantsName, y_wantsTag, y_printed, y_waiting, y_scaled, y_sort, y_typeA, y_typeB, y_typeC, y_fieldName, y_fieldType, y_fields, y_tags, y_needed, y_text, y_begin, y_end, y_inside, y_whole, y_kind, y_value, y_parent, y_name, y_slotOf, y_placeOf, y_complete, y_openNode, y_openType, y_openCount, y_openNames, y_openChoice, y_output, y_todo)) : by_L slot post P (y_length, nI P, nI z, y_nodes, 0, y_place, y_bound, y_depth, y_nextName, y_wantsName, y_wantsTag, y_printed, y_waiting, y_scaled, y_sort, y_typeA, y_typeB, y_typeC, y_fieldName, y_fieldType, y_fields, y_tags, y_needed, y_text, y_begin, y_end, y_inside, y_whole, y_kind, y_value, y_parent, y_name, y_slotOf, y_placeOf, y_complete, y_openNode, y_openType, y_openCount, y_openNames, y_openChoice, y_output, y_todo) :=
  ⟨1, br_t (nI_le (Nat.le_refl _) (by omega)) (br_f (nI_pos (by omega)) (br_t rfl (br_f (by decide) h)))⟩
end
/-- the mode where x is expected -/
def md_x (x : Nat) : Int32 := if x = 0 then 0 else if x = 1 then 1 else if x = 2 then 3 else if x = 3 then 4 else if x = 4 then 5 else 2
theorem md_lt (x : Nat) : md_x x < 8 ∧ ¬ md_x x = 6 ∧ ¬ md_x x = 7 := by
  unfold md_x
  by_cases h0 : x = 0
  · rw [if_pos h0]; decide
  rw [if_neg h0]
  by_cases h1 : x = 1
  · rw [if_pos h1]; decide
  rw [if_neg h1]
  by_cases h2 : x = 2
  · rw [if_pos h2]; decide
  rw [if_neg h2]
  by_cases h3 : x = 3
  · rw [if_pos h3]; decide
  rw [if_neg h3]
  by_cases h4 : x = 4
  · rw [if_pos h4]; decide
  rw [if_neg h4]; decide
/-- an open level -/
def lv_F (so : Nat → Int32) (N d : Nat) (g kd vl pa nm sl tg : Nat → Int32) (dp : Nat → Nat) (on os om on' ot oc om' och : Nat → Int32) (l : Nat) : Prop :=
  ∃ n s, n < N ∧ s < 12 ∧ on l = nI n ∧ on' l = nI n ∧ dp n = l ∧ ot l = os l ∧ sl n = nI s ∧
   ((g (l + 1) = 12 ∧ kd n = 3 ∧ so s = 4 ∧ os l = nI s ∧ oc l = vl n) ∨
    (g (l + 1) = 10 ∧ kd n = 4 ∧ om' l = om l ∧ (∃ M, M < 64 ∧ om l = nI M ∧ ∀ c, c < N → pa c = nI n → ∃ j, j < 6 ∧ nm c = nI j ∧ M.testBit j = true) ∧
      ((so s = 5 ∧ os l = nI s ∧ och l = -1 ∧ tg n = -1) ∨
       (so s = 6 ∧ och l = nI s ∧ os l = -1 ∧ tg n = -1 ∧ l + 1 = d) ∨
       (so s = 6 ∧ och l = nI s ∧ ∃ r q, r < 12 ∧ so r = 5 ∧ os l = nI r ∧ q < 6 ∧ tg n = nI q))))
/-- a field whose name has been read -/
def pd_F (N d : Nat) (fC fN fT pa nm on os om : Nat → Int32) (vs vn nx : Int32) : Prop :=
  ∃ n r m i j M, on (d - 1) = nI n ∧ n < N ∧ os (d - 1) = nI r ∧ r < 12 ∧ fC r = nI m ∧ m ≤ 4 ∧ i < m ∧ j < 6 ∧ fN (4 * r + i) = nI j ∧ vs = fT (4 * r + i) ∧ vn = nI j ∧ nx = nI j ∧ om (d - 1) = nI M ∧ M < 64 ∧ M.testBit j = true ∧ ∀ c, c < N → pa c = nI n → nm c ≠ nI j
/-- a choice that was opened h parts ago -/
def ph_F (d k h : Nat) (on st bg : Nat → Int32) : Prop := ∃ n K b, on (d - 1) = nI n ∧ n < 40 ∧ K + h = k ∧ bg K = nI b ∧ st n = nI b
/-- what is expected, and what is held for it -/
def xp_F (slot : Int32) (k x d N : Nat) (g fC fN fT pa nm on os om st bg : Nat → Int32) (vs vn nx wn wt : Int32) : Prop :=
  (x = 0 ∧ d = 0 ∧ N = 0 ∧ vs = slot ∧ vn = -1) ∨
  (x = 0 ∧ 0 < d ∧ g d = 12 ∧ wt = 0) ∨
  (x = 0 ∧ 0 < d ∧ g d = 10 ∧ wn = 0 ∧ os (d - 1) = -1 ∧ wt = 1 ∧ ph_F d k 3 on st bg) ∨
  (x = 0 ∧ 0 < d ∧ g d = 10 ∧ wn = 0 ∧ ¬ os (d - 1) = -1 ∧ wt = 0 ∧ pd_F N d fC fN fT pa nm on os om vs vn nx) ∨
  (x = 1 ∧ 0 < d ∧ g d = 12 ∧ wt = 0) ∨
  (x = 2 ∧ 0 < d ∧ g d = 10 ∧ wn = 1 ∧ wt = 0 ∧ (os (d - 1) = -1 → ph_F d k 1 on st bg)) ∨
  (x = 3 ∧ 0 < d ∧ g d = 10 ∧ wn = 1 ∧ wt = 0 ∧ ¬ os (d - 1) = -1) ∨
  (x = 4 ∧ 0 < d ∧ g d = 10 ∧ os (d - 1) = -1 ∧ wt = 1 ∧ ph_F d k 2 on st bg) ∨
  (x = 4 ∧ 0 < d ∧ g d = 10 ∧ ¬ os (d - 1) = -1 ∧ wt = 0 ∧ pd_F N d fC fN fT pa nm on os om vs vn nx) ∨
  (x = 5 ∧ 1 ≤ N ∧ (0 < d → wt = 0 ∧ ¬ os (d - 1) = -1))
/-- complete records -/
def cm_F (so cc cy : Nat → Int32) (k : Nat) : Prop := ∀ s, s < 12 → cy s = cc s ∧ (∃ c, c ≤ k ∧ cc s = nI c) ∧ (¬ so s = 5 → cc s = 0)
/-- where the parts so far begin -/
def bg_F (bg : Nat → Int32) (k p : Nat) : Prop := (∀ i, i < k → ∃ b, b < p ∧ bg i = nI b) ∧ ∀ i j, i < j → j < k → bg i ≠ bg j
/-- the open choice without its tag -/
def op_F (d : Nat) (on os : Nat → Int32) (i : Nat) : Prop := 0 < d ∧ on (d - 1) = nI i ∧ os (d - 1) = -1
theorem bg_s {bg : Nat → Int32} {k p b p' : Nat} (h : bg_F bg k p) (hp : p ≤ 96) (hb : p ≤ b) (hb2 : b < p') (hp' : p' ≤ 96) (e : bg k = nI b) : bg_F bg (k + 1) p' := by
  refine ⟨fun i hi => ?_, fun i j hij hj => ?_⟩
  · by_cases z : i = k
    · subst z; exact ⟨b, hb2, e⟩
    · obtain ⟨b', h1, h2⟩ := h.1 i (by omega)
      exact ⟨b', by omega, h2⟩
  · by_cases z : j = k
    · subst z
      obtain ⟨b', h1, h2⟩ := h.1 i hij
      rw [e, h2]
      intro w
      have := hh_i (by omega) (by omega) w
      omega
    · exact h.2 i j hij (by omega)
theorem cm_s {so cc cy : Nat → Int32} {k : Nat} (h : cm_F so cc cy k) : cm_F so cc cy (k + 1) := by
  intro s hs
  obtain ⟨a, ⟨c, h1, h2⟩, b⟩ := h s hs
  exact ⟨a, ⟨c, by omega, h2⟩, b⟩
theorem nd_op {t so bg en : Nat → Int32} {L N : Nat} {kd vl pa nm sl st tg : Nat → Int32} {dp : Nat → Nat} {op op' : Nat → Prop} (h : nd_A t so bg en L N kd vl pa nm sl st tg dp op) (ho : ∀ i, op i → op' i) : nd_A t so bg en L N kd vl pa nm sl st tg dp op' := by
  refine ⟨h.1, fun i hi => ?_, h.2.2⟩
  obtain ⟨k, s, b, h1, h2, h3, h4, h5, h6, h7, h8, h9, h10, h11, h12⟩ := h.2.1 i hi
  refine ⟨k, s, b, h1, h2, h3, h4, h5, h6, h7, h8, h9, h10, h11, fun z => ?_⟩
  rcases h12 z with w | w | w
  · exact Or.inl w
  · exact Or.inr (Or.inl ⟨w.1, w.2.1, ho i w.2.2⟩)
  · exact Or.inr (Or.inr w)
/-- all that is held between two parts -/
def br_F (slot : Int32) (L k p x d N : Nat) (g t so fC fN fT bg en kd vl pa nm sl st tg cc on os om : Nat → Int32) (vs vn : Int32) (dp : Nat → Nat) (kd' vl' pa' nm' sl' st' cy on' ot oc om' och : Nat → Int32) (nx wn wt : Int32) : Prop :=
  (pe_N N kd kd' ∧ pe_N N vl vl' ∧ pe_N N pa pa' ∧ pe_N N nm nm' ∧ pe_N N sl sl' ∧ pe_N N st st') ∧
  nd_A t so bg en L N kd vl pa nm sl st tg dp (op_F d on os) ∧ d ≤ 6 ∧
  (∀ l, l < d → lv_F so N d g kd vl pa nm sl tg dp on os om on' ot oc om' och l) ∧
  cm_F so cc cy k ∧ bg_F bg k p ∧ xp_F slot k x d N g fC fN fT pa nm on os om st bg vs vn nx wn wt
end
section
/-! the bind: small asks, and its ends -/
section
variable {x_length x_nodeCount x_bound x_fault x_faultPlace x_mode x_at x_tokenStart x_textCount x_escaped x_valueSlot x_valueName x_depth x_outputLength : Int32} {x_text x_typeKind x_typeDetail x_typeLeast x_typeMost x_fieldCount x_fieldName x_fieldType x_fieldNeeded x_tagType x_nodeKind x_nodeValue x_nodeParent x_nodeName x_nodeSlot x_nodeStart x_nodeTag x_completeCount x_openNode x_openSlot x_openNames x_openNext x_openComma x_output : Nat → Int32} {d n : Nat} {post : Int32 → Prop}
theorem xi_0 (h : post 0) : wpX_isInList post (x_length, x_nodeCount, x_bound, x_fault, x_faultPlace, x_mode, x_at, x_tokenStart, x_textCount, x_escaped, x_valueSlot, x_valueName, nI 0, x_outputLength, x_text, x_typeKind, x_typeDetail, x_typeLeast, x_typeMost, x_fieldCount, x_fieldName, x_fieldType, x_fieldNeeded, x_tagType, x_nodeKind, x_nodeValue, x_nodeParent, x_nodeName, x_nodeSlot, x_nodeStart, x_nodeTag, x_completeCount, x_openNode, x_openSlot, x_openNames, x_openNext, x_openComma, x_output) := br_t (by decide) h
theorem xi_l (hd : d < 6) (hn : n < 40) (eo : x_openNode d = nI n) (ek : x_nodeKind n = 3) (h : post 1) : wpX_isInList post (x_length, x_nodeCount, x_bound, x_fault, x_faultPlace, x_mode, x_at, x_tokenStart, x_textCount, x_escaped, x_valueSlot, x_valueName, nI (d + 1), x_outputLength, x_text, x_typeKind, x_typeDetail, x_typeLeast, x_typeMost, x_fieldCount, x_fieldName, x_fieldType, x_fieldNeeded, x_tagType, x_nodeKind, x_nodeValue, x_nodeParent, x_nodeName, x_nodeSlot, x_nodeStart, x_nodeTag, x_completeCount, x_openNode, x_openSlot, x_openNames, x_openNext, x_openComma, x_output) := by
  have ed : (nI d).toNatClampNeg = d := nI_clamp (by omega)
  have en : (nI n).toNatClampNeg = n := nI_clamp (by omega)
  refine br_f (nI_nle (by omega) (by omega)) ?_
  rw [nI_pred, ed, eo, en]
  exact ⟨vp_in_nI hd (by decide), vp_in_nI hn (by decide), br_t ek h⟩
theorem xi_r (hd : d < 6) (hn : n < 40) (eo : x_openNode d = nI n) (ek : ¬ x_nodeKind n = 3) (h : post 0) : wpX_isInList post (x_length, x_nodeCount, x_bound, x_fault, x_faultPlace, x_mode, x_at, x_tokenStart, x_textCount, x_escaped, x_valueSlot, x_valueName, nI (d + 1), x_outputLength, x_text, x_typeKind, x_typeDetail, x_typeLeast, x_typeMost, x_fieldCount, x_fieldName, x_fieldType, x_fieldNeeded, x_tagType, x_nodeKind, x_nodeValue, x_nodeParent, x_nodeName, x_nodeSlot, x_nodeStart, x_nodeTag, x_completeCount, x_openNode, x_openSlot, x_openNames, x_openNext, x_openComma, x_output) := by
  have ed : (nI d).toNatClampNeg = d := nI_clamp (by omega)
  have en : (nI n).toNatClampNeg = n := nI_clamp (by omega)
  refine br_f (nI_nle (by omega) (by omega)) ?_
  rw [nI_pred, ed, eo, en]
  exact ⟨vp_in_nI hd (by decide), vp_in_nI hn (by decide), br_f ek h⟩
theorem xt_0 (h : post 0) : wpX_isAtTag post (x_length, x_nodeCount, x_bound, x_fault, x_faultPlace, x_mode, x_at, x_tokenStart, x_textCount, x_escaped, x_valueSlot, x_valueName, nI 0, x_outputLength, x_text, x_typeKind, x_typeDetail, x_typeLeast, x_typeMost, x_fieldCount, x_fieldName, x_fieldType, x_fieldNeeded, x_tagType, x_nodeKind, x_nodeValue, x_nodeParent, x_nodeName, x_nodeSlot, x_nodeStart, x_nodeTag, x_completeCount, x_openNode, x_openSlot, x_openNames, x_openNext, x_openComma, x_output) := br_t (by decide) h
theorem xt_t (hd : d < 6) (eo : x_openSlot d = -1) (h : post 1) : wpX_isAtTag post (x_length, x_nodeCount, x_bound, x_fault, x_faultPlace, x_mode, x_at, x_tokenStart, x_textCount, x_escaped, x_valueSlot, x_valueName, nI (d + 1), x_outputLength, x_text, x_typeKind, x_typeDetail, x_typeLeast, x_typeMost, x_fieldCount, x_fieldName, x_fieldType, x_fieldNeeded, x_tagType, x_nodeKind, x_nodeValue, x_nodeParent, x_nodeName, x_nodeSlot, x_nodeStart, x_nodeTag, x_completeCount, x_openNode, x_openSlot, x_openNames, x_openNext, x_openComma, x_output) := by
  have ed : (nI d).toNatClampNeg = d := nI_clamp (by omega)
  refine br_f (nI_nle (by omega) (by omega)) ?_
  rw [nI_pred, ed]
  exact ⟨vp_in_nI hd (by decide), br_t eo h⟩
theorem xt_f (hd : d < 6) (eo : ¬ x_openSlot d = -1) (h : post 0) : wpX_isAtTag post (x_length, x_nodeCount, x_bound, x_fault, x_faultPlace, x_mode, x_at, x_tokenStart, x_textCount, x_escaped, x_valueSlot, x_valueName, nI (d + 1), x_outputLength, x_text, x_typeKind, x_typeDetail, x_typeLeast, x_typeMost, x_fieldCount, x_fieldName, x_fieldType, x_fieldNeeded, x_tagType, x_nodeKind, x_nodeValue, x_nodeParent, x_nodeName, x_nodeSlot, x_nodeStart, x_nodeTag, x_completeCount, x_openNode, x_openSlot, x_openNames, x_openNext, x_openComma, x_output) := by
  have ed : (nI d).toNatClampNeg = d := nI_clamp (by omega)
  refine br_f (nI_nle (by omega) (by omega)) ?_
  rw [nI_pred, ed]
  exact ⟨vp_in_nI hd (by decide), br_f eo h⟩
end
section
variable {x_length x_nodeCount x_bound x_fault x_faultPlace x_mode x_at x_tokenStart x_textCount x_escaped x_valueSlot x_valueName x_depth x_outputLength : Int32} {x_text x_typeKind x_typeDetail x_typeLeast x_typeMost x_fieldCount x_fieldName x_fieldType x_fieldNeeded x_tagType x_nodeKind x_nodeValue x_nodeParent x_nodeName x_nodeSlot x_nodeStart x_nodeTag x_completeCount x_openNode x_openSlot x_openNames x_openNext x_openComma x_output : Nat → Int32} {d n : Nat} {P : SX → Prop} {c : Int32}
/-- behind a member: in a list -/
theorem bm_lc (hd : d < 6) (hn : n < 40) (eo : x_openNode d = nI n) (ek : x_nodeKind n = 3) (h : P (x_length, x_nodeCount, x_bound, x_fault, x_faultPlace, 0, x_at, x_tokenStart, x_textCount, x_escaped, x_valueSlot, x_valueName, nI (d + 1), x_outputLength, x_text, x_typeKind, x_typeDetail, x_typeLeast, x_typeMost, x_fieldCount, x_fieldName, x_fieldType, x_fieldNeeded, x_tagType, x_nodeKind, x_nodeValue, x_nodeParent, x_nodeName, x_nodeSlot, x_nodeStart, x_nodeTag, x_completeCount, x_openNode, x_openSlot, x_openNames, x_openNext, x_openComma, x_output)) : wpX_readBehindMember P (x_length, x_nodeCount, x_bound, x_fault, x_faultPlace, x_mode, x_at, x_tokenStart, x_textCount, x_escaped, x_valueSlot, x_valueName, nI (d + 1), x_outputLength, x_text, x_typeKind, x_typeDetail, x_typeLeast, x_typeMost, x_fieldCount, x_fieldName, x_fieldType, x_fieldNeeded, x_tagType, x_nodeKind, x_nodeValue, x_nodeParent, x_nodeName, x_nodeSlot, x_nodeStart, x_nodeTag, x_completeCount, x_openNode, x_openSlot, x_openNames, x_openNext, x_openComma, x_output) 15 := by
  unfold wpX_readBehindMember
  dsimp only
  exact xi_l hd hn eo ek (br_f (by decide) (br_t rfl h))
theorem bm_ll (hd : d < 6) (hn : n < 40) (eo : x_openNode d = nI n) (ek : x_nodeKind n = 3) (h : wpX_closeList P (x_length, x_nodeCount, x_bound, x_fault, x_faultPlace, x_mode, x_at, x_tokenStart, x_textCount, x_escaped, x_valueSlot, x_valueName, nI (d + 1), x_outputLength, x_text, x_typeKind, x_typeDetail, x_typeLeast, x_typeMost, x_fieldCount, x_fieldName, x_fieldType, x_fieldNeeded, x_tagType, x_nodeKind, x_nodeValue, x_nodeParent, x_nodeName, x_nodeSlot, x_nodeStart, x_nodeTag, x_completeCount, x_openNode, x_openSlot, x_openNames, x_openNext, x_openComma, x_output)) : wpX_readBehindMember P (x_length, x_nodeCount, x_bound, x_fault, x_faultPlace, x_mode, x_at, x_tokenStart, x_textCount, x_escaped, x_valueSlot, x_valueName, nI (d + 1), x_outputLength, x_text, x_typeKind, x_typeDetail, x_typeLeast, x_typeMost, x_fieldCount, x_fieldName, x_fieldType, x_fieldNeeded, x_tagType, x_nodeKind, x_nodeValue, x_nodeParent, x_nodeName, x_nodeSlot, x_nodeStart, x_nodeTag, x_completeCount, x_openNode, x_openSlot, x_openNames, x_openNext, x_openComma, x_output) 13 := by
  unfold wpX_readBehindMember
  dsimp only
  exact xi_l hd hn eo ek (br_f (by decide) (br_f (by decide) (br_f (by decide) (br_t rfl h))))
theorem bm_lb (hd : d < 6) (hn : n < 40) (eo : x_openNode d = nI n) (ek : x_nodeKind n = 3) (h15 : ¬ c = 15) (h13 : ¬ c = 13) (h : P (x_length, x_nodeCount, x_bound, 1, x_at, x_mode, x_at, x_tokenStart, x_textCount, x_escaped, x_valueSlot, x_valueName, nI (d + 1), x_outputLength, x_text, x_typeKind, x_typeDetail, x_typeLeast, x_typeMost, x_fieldCount, x_fieldName, x_fieldType, x_fieldNeeded, x_tagType, x_nodeKind, x_nodeValue, x_nodeParent, x_nodeName, x_nodeSlot, x_nodeStart, x_nodeTag, x_completeCount, x_openNode, x_openSlot, x_openNames, x_openNext, x_openComma, x_output)) : wpX_readBehindMember P (x_length, x_nodeCount, x_bound, x_fault, x_faultPlace, x_mode, x_at, x_tokenStart, x_textCount, x_escaped, x_valueSlot, x_valueName, nI (d + 1), x_outputLength, x_text, x_typeKind, x_typeDetail, x_typeLeast, x_typeMost, x_fieldCount, x_fieldName, x_fieldType, x_fieldNeeded, x_tagType, x_nodeKind, x_nodeValue, x_nodeParent, x_nodeName, x_nodeSlot, x_nodeStart, x_nodeTag, x_completeCount, x_openNode, x_openSlot, x_openNames, x_openNext, x_openComma, x_output) c := by
  unfold wpX_readBehindMember
  dsimp only
  exact xi_l hd hn eo ek (br_f (by decide) (br_f h15 (br_f (by decide) (br_f h13 (br_f (by decide) (br_f (by decide) h))))))
/-- in a record -/
theorem bm_rc (hd : d < 6) (hn : n < 40) (eo : x_openNode d = nI n) (ek : ¬ x_nodeKind n = 3) (h : P (x_length, x_nodeCount, x_bound, x_fault, x_faultPlace, 4, x_at, x_tokenStart, x_textCount, x_escaped, x_valueSlot, x_valueName, nI (d + 1), x_outputLength, x_text, x_typeKind, x_typeDetail, x_typeLeast, x_typeMost, x_fieldCount, x_fieldName, x_fieldType, x_fieldNeeded, x_tagType, x_nodeKind, x_nodeValue, x_nodeParent, x_nodeName, x_nodeSlot, x_nodeStart, x_nodeTag, x_completeCount, x_openNode, x_openSlot, x_openNames, x_openNext, x_openComma, x_output)) : wpX_readBehindMember P (x_length, x_nodeCount, x_bound, x_fault, x_faultPlace, x_mode, x_at, x_tokenStart, x_textCount, x_escaped, x_valueSlot, x_valueName, nI (d + 1), x_outputLength, x_text, x_typeKind, x_typeDetail, x_typeLeast, x_typeMost, x_fieldCount, x_fieldName, x_fieldType, x_fieldNeeded, x_tagType, x_nodeKind, x_nodeValue, x_nodeParent, x_nodeName, x_nodeSlot, x_nodeStart, x_nodeTag, x_completeCount, x_openNode, x_openSlot, x_openNames, x_openNext, x_openComma, x_output) 15 := by
  unfold wpX_readBehindMember
  dsimp only
  exact xi_r hd hn eo ek (br_t rfl (br_t rfl (br_t rfl (br_t rfl h))))
theorem bm_rr (hd : d < 6) (hn : n < 40) (eo : x_openNode d = nI n) (ek : ¬ x_nodeKind n = 3) (h : wpX_closeRecord P (x_length, x_nodeCount, x_bound, x_fault, x_faultPlace, x_mode, x_at, x_tokenStart, x_textCount, x_escaped, x_valueSlot, x_valueName, nI (d + 1), x_outputLength, x_text, x_typeKind, x_typeDetail, x_typeLeast, x_typeMost, x_fieldCount, x_fieldName, x_fieldType, x_fieldNeeded, x_tagType, x_nodeKind, x_nodeValue, x_nodeParent, x_nodeName, x_nodeSlot, x_nodeStart, x_nodeTag, x_completeCount, x_openNode, x_openSlot, x_openNames, x_openNext, x_openComma, x_output)) : wpX_readBehindMember P (x_length, x_nodeCount, x_bound, x_fault, x_faultPlace, x_mode, x_at, x_tokenStart, x_textCount, x_escaped, x_valueSlot, x_valueName, nI (d + 1), x_outputLength, x_text, x_typeKind, x_typeDetail, x_typeLeast, x_typeMost, x_fieldCount, x_fieldName, x_fieldType, x_fieldNeeded, x_tagType, x_nodeKind, x_nodeValue, x_nodeParent, x_nodeName, x_nodeSlot, x_nodeStart, x_nodeTag, x_completeCount, x_openNode, x_openSlot, x_openNames, x_openNext, x_openComma, x_output) 11 := by
  unfold wpX_readBehindMember
  dsimp only
  exact xi_r hd hn eo ek (br_t rfl (br_t rfl (br_t rfl (br_f (by decide) (br_t rfl (br_t rfl h))))))
theorem bm_rb (hd : d < 6) (hn : n < 40) (eo : x_openNode d = nI n) (ek : ¬ x_nodeKind n = 3) (h15 : ¬ c = 15) (h11 : ¬ c = 11) (h : P (x_length, x_nodeCount, x_bound, 1, x_at, x_mode, x_at, x_tokenStart, x_textCount, x_escaped, x_valueSlot, x_valueName, nI (d + 1), x_outputLength, x_text, x_typeKind, x_typeDetail, x_typeLeast, x_typeMost, x_fieldCount, x_fieldName, x_fieldType, x_fieldNeeded, x_tagType, x_nodeKind, x_nodeValue, x_nodeParent, x_nodeName, x_nodeSlot, x_nodeStart, x_nodeTag, x_completeCount, x_openNode, x_openSlot, x_openNames, x_openNext, x_openComma, x_output)) : wpX_readBehindMember P (x_length, x_nodeCount, x_bound, x_fault, x_faultPlace, x_mode, x_at, x_tokenStart, x_textCount, x_escaped, x_valueSlot, x_valueName, nI (d + 1), x_outputLength, x_text, x_typeKind, x_typeDetail, x_typeLeast, x_typeMost, x_fieldCount, x_fieldName, x_fieldType, x_fieldNeeded, x_tagType, x_nodeKind, x_nodeValue, x_nodeParent, x_nodeName, x_nodeSlot, x_nodeStart, x_nodeTag, x_completeCount, x_openNode, x_openSlot, x_openNames, x_openNext, x_openComma, x_output) c := by
  unfold wpX_readBehindMember
  dsimp only
  exact xi_r hd hn eo ek (br_t rfl (br_t rfl (br_t rfl (br_f h15 (br_t rfl (br_f h11 h))))))
theorem bv_num (hc : sp_B c) (hc0 : ¬ c < 0) {post : Int32 → Prop} (h : post 1) : wpX_beginsNumber post c := by
  by_cases e : c = 17
  · exact br_t e h
  · refine br_f e (br_f ?_ h)
    rcases hc with w | w
    · exact Int32.not_lt.mpr w.2
    · exact absurd w e
theorem bv_nn (hc : ¬ sp_B c) (hc0 : ¬ c < 0) {post : Int32 → Prop} (h : post 0) : wpX_beginsNumber post c := by
  refine br_f (fun e => hc (Or.inr e)) (br_t ?_ h)
  exact Int32.not_le.mp (fun w => hc (Or.inl ⟨Int32.not_lt.mp hc0, w⟩))
theorem bv_any (hc : sp_V c) {post : Int32 → Prop} (h : post 1) : wpX_beginsAnyValue post c := by
  unfold wpX_beginsAnyValue
  rcases hc with w | rfl | rfl | rfl | rfl | rfl | rfl | rfl
  · exact bv_num (Or.inl w) (Int32.not_lt.mpr w.1) (br_f (by decide) h)
  · exact br_f (by decide) (br_t (by decide) (br_t rfl (br_f (by decide) (br_t rfl h))))
  · exact br_f (by decide) (br_t (by decide) (br_t rfl (br_f (by decide) (br_f (by decide) (br_t rfl h)))))
  · exact br_f (by decide) (br_t (by decide) (br_t rfl (br_t rfl h)))
  · exact br_t rfl (br_f (by decide) h)
  · exact br_f (by decide) (br_t (by decide) (br_t rfl (br_f (by decide) (br_f (by decide) (br_f (by decide) (br_t rfl h))))))
  · exact br_f (by decide) (br_t (by decide) (br_t rfl (br_f (by decide) (br_f (by decide) (br_f (by decide) (br_f (by decide) (br_t rfl h)))))))
  · exact br_f (by decide) (br_t (by decide) (br_t rfl (br_f (by decide) (br_f (by decide) (br_f (by decide) (br_f (by decide) (br_f (by decide) (br_t rfl h))))))))
theorem bv_bad (hc : ¬ sp_V c) (hc0 : ¬ c < 0) (h : P (x_length, x_nodeCount, x_bound, 1, x_at, x_mode, x_at, x_tokenStart, x_textCount, x_escaped, x_valueSlot, x_valueName, x_depth, x_outputLength, x_text, x_typeKind, x_typeDetail, x_typeLeast, x_typeMost, x_fieldCount, x_fieldName, x_fieldType, x_fieldNeeded, x_tagType, x_nodeKind, x_nodeValue, x_nodeParent, x_nodeName, x_nodeSlot, x_nodeStart, x_nodeTag, x_completeCount, x_openNode, x_openSlot, x_openNames, x_openNext, x_openComma, x_output)) : wpX_beginValue P (x_length, x_nodeCount, x_bound, x_fault, x_faultPlace, x_mode, x_at, x_tokenStart, x_textCount, x_escaped, x_valueSlot, x_valueName, x_depth, x_outputLength, x_text, x_typeKind, x_typeDetail, x_typeLeast, x_typeMost, x_fieldCount, x_fieldName, x_fieldType, x_fieldNeeded, x_tagType, x_nodeKind, x_nodeValue, x_nodeParent, x_nodeName, x_nodeSlot, x_nodeStart, x_nodeTag, x_completeCount, x_openNode, x_openSlot, x_openNames, x_openNext, x_openComma, x_output) c := by
  have nb : ¬ sp_B c := by
    rintro (w | w)
    · exact hc (Or.inl w)
    · exact hc (Or.inr (Or.inr (Or.inr (Or.inr (Or.inl w)))))
  unfold wpX_beginValue wpX_beginsAnyValue
  dsimp only
  exact bv_nn nb hc0 (br_t rfl (br_f (fun e => hc (Or.inr (Or.inr (Or.inr (Or.inl e))))) (br_f (fun e => hc (Or.inr (Or.inl e))) (br_f (fun e => hc (Or.inr (Or.inr (Or.inl e)))) (br_f (fun e => hc (Or.inr (Or.inr (Or.inr (Or.inr (Or.inr (Or.inl e))))))) (br_f (fun e => hc (Or.inr (Or.inr (Or.inr (Or.inr (Or.inr (Or.inr (Or.inl e)))))))) (br_f (fun e => hc (Or.inr (Or.inr (Or.inr (Or.inr (Or.inr (Or.inr (Or.inr e)))))))) (br_t rfl h))))))))
end
section
variable {x_bound x_at x_tokenStart x_textCount x_escaped x_valueSlot x_valueName x_outputLength : Int32} {x_text x_typeKind x_typeDetail x_typeLeast x_typeMost x_fieldCount x_fieldName x_fieldType x_fieldNeeded x_tagType x_nodeKind x_nodeValue x_nodeParent x_nodeName x_nodeSlot x_nodeStart x_nodeTag x_completeCount x_openNode x_openSlot x_openNames x_openNext x_openComma x_output : Nat → Int32} {y_bad y_nextName y_wantsName y_wantsTag y_waiting y_scaled : Int32} {y_typeA y_typeB y_typeC y_fields y_tags y_begin y_end y_inside y_whole y_kind y_value y_parent y_name y_slotOf y_placeOf y_complete y_openNode y_openType y_openCount y_openNames y_openChoice y_todo : Nat → Int32} {L P k p x d N : Nat} {g : Nat → Int32} {dp : Nat → Nat} {slot : Int32}
/-- a fault on both sides -/
theorem bo_fault {f z : Int32} {u : SX} {v : SY} {p' k' : Nat} (hT : rl_T L x_text x_typeKind x_typeDetail x_typeLeast x_typeMost x_fieldCount x_fieldName x_fieldType x_fieldNeeded x_tagType y_typeA y_typeB y_typeC y_fields y_tags) (hf : ¬ f = 0) {M D C : Int32} {Q : Int32} {D' N' : Int32}
    (hx : bx_R p u p' (nI L, C, x_bound, f, z, M, x_at, x_tokenStart, x_textCount, x_escaped, x_valueSlot, x_valueName, D, x_outputLength, x_text, x_typeKind, x_typeDetail, x_typeLeast, x_typeMost, x_fieldCount, x_fieldName, x_fieldType, x_fieldNeeded, x_tagType, x_nodeKind, x_nodeValue, x_nodeParent, x_nodeName, x_nodeSlot, x_nodeStart, x_nodeTag, x_completeCount, x_openNode, x_openSlot, x_openNames, x_openNext, x_openComma, x_output)) (hy : by_R slot k v k' (nI L, Q, y_bad, N', f, z, 0, D', y_nextName, y_wantsName, y_wantsTag, x_outputLength, y_waiting, y_scaled, x_typeKind, y_typeA, y_typeB, y_typeC, x_fieldName, x_fieldType, y_fields, y_tags, x_fieldNeeded, x_text, y_begin, y_end, y_inside, y_whole, y_kind, y_value, y_parent, y_name, y_slotOf, y_placeOf, y_complete, y_openNode, y_openType, y_openCount, y_openNames, y_openChoice, x_output, y_todo)) : bo_O slot p k u v :=
  ⟨f, _, _, fun post q => hx post (bx_F hf q), fun post q => hy post (by_F hf q), rl_mk hT (Or.inl rfl)⟩
/-- the end, and all is well -/
theorem en_ok (hT : rl_T L x_text x_typeKind x_typeDetail x_typeLeast x_typeMost x_fieldCount x_fieldName x_fieldType x_fieldNeeded x_tagType y_typeA y_typeB y_typeC y_fields y_tags) (F : br_F slot L k p 5 0 N g x_text x_typeKind x_fieldCount x_fieldName x_fieldType y_begin y_end x_nodeKind x_nodeValue x_nodeParent x_nodeName x_nodeSlot x_nodeStart x_nodeTag x_completeCount x_openNode x_openSlot x_openNames x_valueSlot x_valueName dp y_kind y_value y_parent y_name y_slotOf y_placeOf y_complete y_openNode y_openType y_openCount y_openNames y_openChoice y_nextName y_wantsName y_wantsTag) (hP : P ≤ 96) (hsp : sp_S x_text p L) : bo_O slot p P (nI L, nI N, x_bound, 0, -1, md_x 5, x_at, x_tokenStart, x_textCount, x_escaped, x_valueSlot, x_valueName, nI 0, x_outputLength, x_text, x_typeKind, x_typeDetail, x_typeLeast, x_typeMost, x_fieldCount, x_fieldName, x_fieldType, x_fieldNeeded, x_tagType, x_nodeKind, x_nodeValue, x_nodeParent, x_nodeName, x_nodeSlot, x_nodeStart, x_nodeTag, x_completeCount, x_openNode, x_openSlot, x_openNames, x_openNext, x_openComma, x_output) (nI L, nI P, -1, nI N, 0, -1, 0, nI 0, y_nextName, y_wantsName, y_wantsTag, x_outputLength, y_waiting, y_scaled, x_typeKind, y_typeA, y_typeB, y_typeC, x_fieldName, x_fieldType, y_fields, y_tags, x_fieldNeeded, x_text, y_begin, y_end, y_inside, y_whole, y_kind, y_value, y_parent, y_name, y_slotOf, y_placeOf, y_complete, y_openNode, y_openType, y_openCount, y_openNames, y_openChoice, x_output, y_todo) := by
  have hL := hT.1
  obtain ⟨a, ha⟩ := bx_sp (x_nodeCount := nI N) (x_bound := x_bound) (x_faultPlace := -1) (x_mode := md_x 5) (x_tokenStart := x_tokenStart) (x_textCount := x_textCount) (x_escaped := x_escaped) (x_valueSlot := x_valueSlot) (x_valueName := x_valueName) (x_depth := nI 0) (x_outputLength := x_outputLength) (x_text := x_text) (x_typeKind := x_typeKind) (x_typeDetail := x_typeDetail) (x_typeLeast := x_typeLeast) (x_typeMost := x_typeMost) (x_fieldCount := x_fieldCount) (x_fieldName := x_fieldName) (x_fieldType := x_fieldType) (x_fieldNeeded := x_fieldNeeded) (x_tagType := x_tagType) (x_nodeKind := x_nodeKind) (x_nodeValue := x_nodeValue) (x_nodeParent := x_nodeParent) (x_nodeName := x_nodeName) (x_nodeSlot := x_nodeSlot) (x_nodeStart := x_nodeStart) (x_nodeTag := x_nodeTag) (x_completeCount := x_completeCount) (x_openNode := x_openNode) (x_openSlot := x_openSlot) (x_openNames := x_openNames) (x_openNext := x_openNext) (x_openComma := x_openComma) (x_output := x_output) hL (by decide) (by decide) (by decide) (L - p) p L x_at (by have := hsp.1; omega) (Nat.le_refl _) hsp.2
  obtain ⟨⟨e1, e2, e3, e4, e5, e6⟩, hA, -, -, -, -, hx⟩ := F
  have hN : 1 ≤ N := by
    rcases hx with w | w | w | w | w | w | w | w | w | w
    all_goals first | exact w.2.1 | (have := w.1; omega)
  refine ⟨0, (nI L, nI N, 1, 0, -1, md_x 5, nI L, x_tokenStart, x_textCount, x_escaped, x_valueSlot, x_valueName, nI 0, x_outputLength, x_text, x_typeKind, x_typeDetail, x_typeLeast, x_typeMost, x_fieldCount, x_fieldName, x_fieldType, x_fieldNeeded, x_tagType, x_nodeKind, x_nodeValue, x_nodeParent, x_nodeName, x_nodeSlot, x_nodeStart, x_nodeTag, x_completeCount, x_openNode, x_openSlot, x_openNames, x_openNext, x_openComma, x_output), (nI L, nI P, -1, nI N, 0, -1, 1, nI 0, y_nextName, y_wantsName, y_wantsTag, x_outputLength, y_waiting, y_scaled, x_typeKind, y_typeA, y_typeB, y_typeC, x_fieldName, x_fieldType, y_fields, y_tags, x_fieldNeeded, x_text, y_begin, y_end, y_inside, y_whole, y_kind, y_value, y_parent, y_name, y_slotOf, y_placeOf, y_complete, y_openNode, y_openType, y_openCount, y_openNames, y_openChoice, x_output, y_todo), fun post q => ha post (bx_E hL (br_t rfl (br_t (by decide) (br_t rfl (br_t rfl (br_t (by decide) (br_t rfl q))))))), fun post q => by_E0 hP q, ?_⟩
  exact rl_mk hT (Or.inr ⟨rfl, N, dp, hN, rfl, rfl, e1, e2, e3, e4, e5, e6, nd_op hA (fun i w => absurd w.1 (Nat.lt_irrefl 0))⟩)
end
end
section
/-! the bind: a fault of syntax, commas, colons, ends of lists -/
section
variable {x_bound x_at x_tokenStart x_textCount x_escaped x_valueSlot x_valueName x_outputLength : Int32} {x_text x_typeKind x_typeDetail x_typeLeast x_typeMost x_fieldCount x_fieldName x_fieldType x_fieldNeeded x_tagType x_nodeKind x_nodeValue x_nodeParent x_nodeName x_nodeSlot x_nodeStart x_nodeTag x_completeCount x_openNode x_openSlot x_openNames x_openNext x_openComma x_output : Nat → Int32} {y_bad y_nextName y_wantsName y_wantsTag y_waiting y_scaled : Int32} {y_typeA y_typeB y_typeC y_fields y_tags y_begin y_end y_inside y_whole y_kind y_value y_parent y_name y_slotOf y_placeOf y_complete y_openNode y_openType y_openCount y_openNames y_openChoice y_todo : Nat → Int32} {L P k p x d N : Nat} {g : Nat → Int32} {dp : Nat → Nat} {slot : Int32}
theorem en_bad (hT : rl_T L x_text x_typeKind x_typeDetail x_typeLeast x_typeMost x_fieldCount x_fieldName x_fieldType x_fieldNeeded x_tagType y_typeA y_typeB y_typeC y_fields y_tags) (F : br_F slot L k p x d N g x_text x_typeKind x_fieldCount x_fieldName x_fieldType y_begin y_end x_nodeKind x_nodeValue x_nodeParent x_nodeName x_nodeSlot x_nodeStart x_nodeTag x_completeCount x_openNode x_openSlot x_openNames x_valueSlot x_valueName dp y_kind y_value y_parent y_name y_slotOf y_placeOf y_complete y_openNode y_openType y_openCount y_openNames y_openChoice y_nextName y_wantsName y_wantsTag) (hI : sp_I x d g) (hP : P ≤ 96) {z : Nat} (hz : z ≤ L) (hsp : sp_S x_text p z) (h1 : z < L → ¬ x_text z = 20 ∧ ¬ sp_T x d g (x_text z)) (h2 : z = L → ¬ (x = 5 ∧ d = 0)) : bo_O slot p P (nI L, nI N, x_bound, 0, -1, md_x x, x_at, x_tokenStart, x_textCount, x_escaped, x_valueSlot, x_valueName, nI d, x_outputLength, x_text, x_typeKind, x_typeDetail, x_typeLeast, x_typeMost, x_fieldCount, x_fieldName, x_fieldType, x_fieldNeeded, x_tagType, x_nodeKind, x_nodeValue, x_nodeParent, x_nodeName, x_nodeSlot, x_nodeStart, x_nodeTag, x_completeCount, x_openNode, x_openSlot, x_openNames, x_openNext, x_openComma, x_output) (nI L, nI P, nI z, nI N, 0, -1, 0, nI d, y_nextName, y_wantsName, y_wantsTag, x_outputLength, y_waiting, y_scaled, x_typeKind, y_typeA, y_typeB, y_typeC, x_fieldName, x_fieldType, y_fields, y_tags, x_fieldNeeded, x_text, y_begin, y_end, y_inside, y_whole, y_kind, y_value, y_parent, y_name, y_slotOf, y_placeOf, y_complete, y_openNode, y_openType, y_openCount, y_openNames, y_openChoice, x_output, y_todo) := by
  have hL := hT.1
  have hx5 := hI.1
  obtain ⟨a, ha⟩ := bx_sp (x_nodeCount := nI N) (x_bound := x_bound) (x_faultPlace := -1) (x_mode := md_x x) (x_tokenStart := x_tokenStart) (x_textCount := x_textCount) (x_escaped := x_escaped) (x_valueSlot := x_valueSlot) (x_valueName := x_valueName) (x_depth := nI d) (x_outputLength := x_outputLength) (x_text := x_text) (x_typeKind := x_typeKind) (x_typeDetail := x_typeDetail) (x_typeLeast := x_typeLeast) (x_typeMost := x_typeMost) (x_fieldCount := x_fieldCount) (x_fieldName := x_fieldName) (x_fieldType := x_fieldType) (x_fieldNeeded := x_fieldNeeded) (x_tagType := x_tagType) (x_nodeKind := x_nodeKind) (x_nodeValue := x_nodeValue) (x_nodeParent := x_nodeParent) (x_nodeName := x_nodeName) (x_nodeSlot := x_nodeSlot) (x_nodeStart := x_nodeStart) (x_nodeTag := x_nodeTag) (x_completeCount := x_completeCount) (x_openNode := x_openNode) (x_openSlot := x_openSlot) (x_openNames := x_openNames) (x_openNext := x_openNext) (x_openComma := x_openComma) (x_output := x_output) hL (md_lt x).1 (md_lt x).2.1 (md_lt x).2.2 (z - p) p z x_at (by have := hsp.1; omega) hz hsp.2
  obtain ⟨-, hA, hd6, hlv, -, -, -⟩ := F
  have hN := hA.1
  rcases Nat.lt_or_ge z L with w | w
  · obtain ⟨h20, hT'⟩ := h1 w
    have c0 : ¬ x_text z < 0 := tt_lo hT.2.1 z
    have step : ∀ Q : SX → Prop, Q (nI L, nI N, x_bound, 1, nI z, md_x x, nI z, x_tokenStart, x_textCount, x_escaped, x_valueSlot, x_valueName, nI d, x_outputLength, x_text, x_typeKind, x_typeDetail, x_typeLeast, x_typeMost, x_fieldCount, x_fieldName, x_fieldType, x_fieldNeeded, x_tagType, x_nodeKind, x_nodeValue, x_nodeParent, x_nodeName, x_nodeSlot, x_nodeStart, x_nodeTag, x_completeCount, x_openNode, x_openSlot, x_openNames, x_openNext, x_openComma, x_output) → wpX_readCharacter Q (nI L, nI N, x_bound, 0, -1, md_x x, nI z, x_tokenStart, x_textCount, x_escaped, x_valueSlot, x_valueName, nI d, x_outputLength, x_text, x_typeKind, x_typeDetail, x_typeLeast, x_typeMost, x_fieldCount, x_fieldName, x_fieldType, x_fieldNeeded, x_tagType, x_nodeKind, x_nodeValue, x_nodeParent, x_nodeName, x_nodeSlot, x_nodeStart, x_nodeTag, x_completeCount, x_openNode, x_openSlot, x_openNames, x_openNext, x_openComma, x_output) (x_text z) := by
      intro Q q
      have hx : x = 0 ∨ x = 1 ∨ x = 2 ∨ x = 3 ∨ x = 4 ∨ x = 5 := by omega
      rcases hx with rfl | rfl | rfl | rfl | rfl | rfl
      · exact rc_val h20 (Or.inl rfl) (bv_bad (fun v => hT' (Or.inr (Or.inl ⟨by omega, v⟩))) c0 q)
      · exact rc_val h20 (Or.inr ⟨rfl, fun e => hT' (Or.inl (Or.inl ⟨e, Or.inl rfl⟩))⟩) (bv_bad (fun v => hT' (Or.inr (Or.inl ⟨by omega, v⟩))) c0 q)
      · exact rc_bad3 h20 (fun e => hT' (Or.inl (Or.inr ⟨e, Or.inl rfl⟩))) (fun e => hT' (Or.inr (Or.inr (Or.inl ⟨Or.inl rfl, e⟩)))) q
      · exact rc_bad4 h20 (fun e => hT' (Or.inr (Or.inr (Or.inl ⟨Or.inr rfl, e⟩)))) q
      · exact rc_bad5 h20 (fun e => hT' (Or.inr (Or.inr (Or.inr (Or.inl ⟨rfl, e⟩))))) q
      · cases d with
        | zero => exact rc_bad2 h20 (by decide) q
        | succ d =>
          obtain ⟨n, s, hn, hs, eo, -, -, -, -, K⟩ := hlv d (by omega)
          refine rc_bm h20 (nI_nle (by omega) (by omega)) ?_
          rcases K with ⟨g1, k1, -⟩ | ⟨g1, k1, -⟩
          · exact bm_lb (by omega) (by omega) eo k1 (fun e => hT' (Or.inr (Or.inr (Or.inr (Or.inr ⟨rfl, e, by omega⟩))))) (fun e => hT' (Or.inl (Or.inl ⟨e, Or.inr ⟨rfl, by omega, g1⟩⟩))) q
          · exact bm_rb (by omega) (by omega) eo (by rw [k1]; decide) (fun e => hT' (Or.inr (Or.inr (Or.inr (Or.inr ⟨rfl, e, by omega⟩))))) (fun e => hT' (Or.inl (Or.inr ⟨e, Or.inr ⟨rfl, by omega, g1⟩⟩))) q
    exact ⟨1, _, _, fun post q => ha post (bx_1 w hL _ step post (bx_F (by decide) q)), fun post q => by_E1 hP (by omega) q, rl_mk hT (Or.inl rfl)⟩
  · have e : z = L := by omega
    subst e
    refine ⟨1, (nI z, nI N, 0, 1, nI z, md_x x, nI z, x_tokenStart, x_textCount, x_escaped, x_valueSlot, x_valueName, nI d, x_outputLength, x_text, x_typeKind, x_typeDetail, x_typeLeast, x_typeMost, x_fieldCount, x_fieldName, x_fieldType, x_fieldNeeded, x_tagType, x_nodeKind, x_nodeValue, x_nodeParent, x_nodeName, x_nodeSlot, x_nodeStart, x_nodeTag, x_completeCount, x_openNode, x_openSlot, x_openNames, x_openNext, x_openComma, x_output), _, fun post q => ha post (bx_E hL (br_t rfl (br_t (md_lt x).1 (br_t rfl ?_)))), fun post q => by_E1 hP (by omega) q, rl_mk hT (Or.inl rfl)⟩
    have nm : ¬ (x = 5 ∧ d = 0) := h2 rfl
    by_cases e5 : x = 5
    · subst e5
      exact br_t rfl (br_f (nI_nle (by omega) (by omega)) (br_f (by decide) q))
    · have n2 : ¬ md_x x = 2 := by
        have hx : x = 0 ∨ x = 1 ∨ x = 2 ∨ x = 3 ∨ x = 4 := by omega
        rcases hx with rfl | rfl | rfl | rfl | rfl <;> decide
      exact br_f n2 (br_f (by decide) q)
/-! one part each; hB: it begins at b; H: what follows -/
theorem bx_at (hL : L ≤ 96) {b : Nat} (hb : sp_S x_text p b) (hbL : b ≤ L) : ∃ a, bx_R p (nI L, nI N, x_bound, 0, -1, md_x x, x_at, x_tokenStart, x_textCount, x_escaped, x_valueSlot, x_valueName, nI d, x_outputLength, x_text, x_typeKind, x_typeDetail, x_typeLeast, x_typeMost, x_fieldCount, x_fieldName, x_fieldType, x_fieldNeeded, x_tagType, x_nodeKind, x_nodeValue, x_nodeParent, x_nodeName, x_nodeSlot, x_nodeStart, x_nodeTag, x_completeCount, x_openNode, x_openSlot, x_openNames, x_openNext, x_openComma, x_output) b (nI L, nI N, x_bound, 0, -1, md_x x, a, x_tokenStart, x_textCount, x_escaped, x_valueSlot, x_valueName, nI d, x_outputLength, x_text, x_typeKind, x_typeDetail, x_typeLeast, x_typeMost, x_fieldCount, x_fieldName, x_fieldType, x_fieldNeeded, x_tagType, x_nodeKind, x_nodeValue, x_nodeParent, x_nodeName, x_nodeSlot, x_nodeStart, x_nodeTag, x_completeCount, x_openNode, x_openSlot, x_openNames, x_openNext, x_openComma, x_output) :=
  bx_sp (x_nodeCount := nI N) (x_bound := x_bound) (x_faultPlace := -1) (x_mode := md_x x) (x_tokenStart := x_tokenStart) (x_textCount := x_textCount) (x_escaped := x_escaped) (x_valueSlot := x_valueSlot) (x_valueName := x_valueName) (x_depth := nI d) (x_outputLength := x_outputLength) (x_text := x_text) (x_typeKind := x_typeKind) (x_typeDetail := x_typeDetail) (x_typeLeast := x_typeLeast) (x_typeMost := x_typeMost) (x_fieldCount := x_fieldCount) (x_fieldName := x_fieldName) (x_fieldType := x_fieldType) (x_fieldNeeded := x_fieldNeeded) (x_tagType := x_tagType) (x_nodeKind := x_nodeKind) (x_nodeValue := x_nodeValue) (x_nodeParent := x_nodeParent) (x_nodeName := x_nodeName) (x_nodeSlot := x_nodeSlot) (x_nodeStart := x_nodeStart) (x_nodeTag := x_nodeTag) (x_completeCount := x_completeCount) (x_openNode := x_openNode) (x_openSlot := x_openSlot) (x_openNames := x_openNames) (x_openNext := x_openNext) (x_openComma := x_openComma) (x_output := x_output) hL (md_lt x).1 (md_lt x).2.1 (md_lt x).2.2 (b - p) p b x_at (by have := hb.1; omega) hbL hb.2
/-- the part's first steps in the reference -/
theorem yp_in {Q : SY → Prop} {b : Nat} (hk : k < 96) (hb : b < 96) (eb : y_begin k = nI b)
    (h : (nI d = 0 → wpY_bindValue Q (nI L, nI P, y_bad, nI N, 0, -1, 0, nI d, y_nextName, y_wantsName, y_wantsTag, x_outputLength, y_waiting, y_scaled, x_typeKind, y_typeA, y_typeB, y_typeC, x_fieldName, x_fieldType, y_fields, y_tags, x_fieldNeeded, x_text, y_begin, y_end, y_inside, y_whole, y_kind, y_value, y_parent, y_name, y_slotOf, y_placeOf, y_complete, y_openNode, y_openType, y_openCount, y_openNames, y_openChoice, x_output, y_todo) (nI k) slot (-1) (-1)) ∧ (¬ nI d = 0 → ((x_text b = 13 → wpY_closeList Q (nI L, nI P, y_bad, nI N, 0, -1, 0, nI d, y_nextName, y_wantsName, y_wantsTag, x_outputLength, y_waiting, y_scaled, x_typeKind, y_typeA, y_typeB, y_typeC, x_fieldName, x_fieldType, y_fields, y_tags, x_fieldNeeded, x_text, y_begin, y_end, y_inside, y_whole, y_kind, y_value, y_parent, y_name, y_slotOf, y_placeOf, y_complete, y_openNode, y_openType, y_openCount, y_openNames, y_openChoice, x_output, y_todo) (nI k)) ∧ (¬ x_text b = 13 → ((x_text b = 11 → wpY_closeRecord Q (nI L, nI P, y_bad, nI N, 0, -1, 0, nI d, y_nextName, y_wantsName, y_wantsTag, x_outputLength, y_waiting, y_scaled, x_typeKind, y_typeA, y_typeB, y_typeC, x_fieldName, x_fieldType, y_fields, y_tags, x_fieldNeeded, x_text, y_begin, y_end, y_inside, y_whole, y_kind, y_value, y_parent, y_name, y_slotOf, y_placeOf, y_complete, y_openNode, y_openType, y_openCount, y_openNames, y_openChoice, x_output, y_todo) (nI k)) ∧ (¬ x_text b = 11 → ((x_text b = 15 → (vp_in (nI d - 1) 8 ∧ (vp_in (y_openNode (nI d - 1).toNatClampNeg) 40 ∧ ((y_kind (y_openNode (nI d - 1).toNatClampNeg).toNatClampNeg = 4 → Q (nI L, nI P, y_bad, nI N, 0, -1, 0, nI d, y_nextName, 1, y_wantsTag, x_outputLength, y_waiting, y_scaled, x_typeKind, y_typeA, y_typeB, y_typeC, x_fieldName, x_fieldType, y_fields, y_tags, x_fieldNeeded, x_text, y_begin, y_end, y_inside, y_whole, y_kind, y_value, y_parent, y_name, y_slotOf, y_placeOf, y_complete, y_openNode, y_openType, y_openCount, y_openNames, y_openChoice, x_output, y_todo)) ∧ (¬ y_kind (y_openNode (nI d - 1).toNatClampNeg).toNatClampNeg = 4 → Q (nI L, nI P, y_bad, nI N, 0, -1, 0, nI d, y_nextName, 0, y_wantsTag, x_outputLength, y_waiting, y_scaled, x_typeKind, y_typeA, y_typeB, y_typeC, x_fieldName, x_fieldType, y_fields, y_tags, x_fieldNeeded, x_text, y_begin, y_end, y_inside, y_whole, y_kind, y_value, y_parent, y_name, y_slotOf, y_placeOf, y_complete, y_openNode, y_openType, y_openCount, y_openNames, y_openChoice, x_output, y_todo)))))) ∧ (¬ x_text b = 15 → ((x_text b = 14 → Q (nI L, nI P, y_bad, nI N, 0, -1, 0, nI d, y_nextName, 0, y_wantsTag, x_outputLength, y_waiting, y_scaled, x_typeKind, y_typeA, y_typeB, y_typeC, x_fieldName, x_fieldType, y_fields, y_tags, x_fieldNeeded, x_text, y_begin, y_end, y_inside, y_whole, y_kind, y_value, y_parent, y_name, y_slotOf, y_placeOf, y_complete, y_openNode, y_openType, y_openCount, y_openNames, y_openChoice, x_output, y_todo)) ∧ (¬ x_text b = 14 → (vp_in (nI d - 1) 8 ∧ (vp_in (y_openNode (nI d - 1).toNatClampNeg) 40 ∧ ((y_kind (y_openNode (nI d - 1).toNatClampNeg).toNatClampNeg = 3 → (vp_in (nI d - 1) 8 ∧ (vp_in (nI d - 1) 8 ∧ (vp_in (nI d - 1) 8 ∧ (vp_in (nI d - 1) 8 ∧ (vp_in (y_openType (nI d - 1).toNatClampNeg) 12 ∧ (vp_in (nI d - 1) 8 ∧ wpY_bindValue Q (nI L, nI P, y_bad, nI N, 0, -1, 0, nI d, y_nextName, y_wantsName, y_wantsTag, x_outputLength, y_waiting, y_scaled, x_typeKind, y_typeA, y_typeB, y_typeC, x_fieldName, x_fieldType, y_fields, y_tags, x_fieldNeeded, x_text, y_begin, y_end, y_inside, y_whole, y_kind, y_value, y_parent, y_name, y_slotOf, y_placeOf, y_complete, y_openNode, y_openType, upd y_openCount (nI d - 1).toNatClampNeg (y_openCount (nI d - 1).toNatClampNeg + 1), y_openNames, y_openChoice, x_output, y_todo) (nI k) (y_typeA (y_openType (nI d - 1).toNatClampNeg).toNatClampNeg) (y_openNode (nI d - 1).toNatClampNeg) (y_openCount (nI d - 1).toNatClampNeg)))))))) ∧ (¬ y_kind (y_openNode (nI d - 1).toNatClampNeg).toNatClampNeg = 3 → ((y_wantsName = 0 → ((y_wantsTag = 0 → (vp_in (nI d - 1) 8 ∧ wpY_fieldOf (fun r_16 => vp_in r_16 48 ∧ (vp_in (nI d - 1) 8 ∧ wpY_bindValue Q (nI L, nI P, y_bad, nI N, 0, -1, 0, nI d, y_nextName, y_wantsName, y_wantsTag, x_outputLength, y_waiting, y_scaled, x_typeKind, y_typeA, y_typeB, y_typeC, x_fieldName, x_fieldType, y_fields, y_tags, x_fieldNeeded, x_text, y_begin, y_end, y_inside, y_whole, y_kind, y_value, y_parent, y_name, y_slotOf, y_placeOf, y_complete, y_openNode, y_openType, y_openCount, y_openNames, y_openChoice, x_output, y_todo) (nI k) (x_fieldType r_16.toNatClampNeg) (y_openNode (nI d - 1).toNatClampNeg) y_nextName)) (nI L, nI P, y_bad, nI N, 0, -1, 0, nI d, y_nextName, y_wantsName, y_wantsTag, x_outputLength, y_waiting, y_scaled, x_typeKind, y_typeA, y_typeB, y_typeC, x_fieldName, x_fieldType, y_fields, y_tags, x_fieldNeeded, x_text, y_begin, y_end, y_inside, y_whole, y_kind, y_value, y_parent, y_name, y_slotOf, y_placeOf, y_complete, y_openNode, y_openType, y_openCount, y_openNames, y_openChoice, x_output, y_todo) (y_openType (nI d - 1).toNatClampNeg) y_nextName)) ∧ (¬ y_wantsTag = 0 → wpY_bindTag Q (nI L, nI P, y_bad, nI N, 0, -1, 0, nI d, y_nextName, y_wantsName, y_wantsTag, x_outputLength, y_waiting, y_scaled, x_typeKind, y_typeA, y_typeB, y_typeC, x_fieldName, x_fieldType, y_fields, y_tags, x_fieldNeeded, x_text, y_begin, y_end, y_inside, y_whole, y_kind, y_value, y_parent, y_name, y_slotOf, y_placeOf, y_complete, y_openNode, y_openType, y_openCount, y_openNames, y_openChoice, x_output, y_todo) (nI k)))) ∧ (¬ y_wantsName = 0 → wpY_bindName Q (nI L, nI P, y_bad, nI N, 0, -1, 0, nI d, y_nextName, y_wantsName, y_wantsTag, x_outputLength, y_waiting, y_scaled, x_typeKind, y_typeA, y_typeB, y_typeC, x_fieldName, x_fieldType, y_fields, y_tags, x_fieldNeeded, x_text, y_begin, y_end, y_inside, y_whole, y_kind, y_value, y_parent, y_name, y_slotOf, y_placeOf, y_complete, y_openNode, y_openType, y_openCount, y_openNames, y_openChoice, x_output, y_todo) (nI k))))))))))))))))) : wpY_part Q (nI L, nI P, y_bad, nI N, 0, -1, 0, nI d, y_nextName, y_wantsName, y_wantsTag, x_outputLength, y_waiting, y_scaled, x_typeKind, y_typeA, y_typeB, y_typeC, x_fieldName, x_fieldType, y_fields, y_tags, x_fieldNeeded, x_text, y_begin, y_end, y_inside, y_whole, y_kind, y_value, y_parent, y_name, y_slotOf, y_placeOf, y_complete, y_openNode, y_openType, y_openCount, y_openNames, y_openChoice, x_output, y_todo) (nI k) slot := by
  have ek : (nI k).toNatClampNeg = k := nI_clamp (by omega)
  have eB : (nI b).toNatClampNeg = b := nI_clamp (by omega)
  unfold wpY_part
  dsimp only
  rw [ek, eb, eB]
  refine ⟨vp_in_nI hk (by decide), vp_in_nI hb (by decide), nm_e (nm_e ?_)⟩
  refine ⟨fun z => h.1 z, fun z => ⟨fun c => (h.2 z).1 c, fun c => ⟨fun c1 => ((h.2 z).2 c).1 c1, fun c1 => ⟨fun c2 => (((h.2 z).2 c).2 c1).1 c2, fun c2 => ⟨fun c3 => ((((h.2 z).2 c).2 c1).2 c2).1 c3, fun c3 => ?_⟩⟩⟩⟩⟩
  obtain ⟨i1, i2, h3⟩ := ((((h.2 z).2 c).2 c1).2 c2).2 c3
  refine ⟨i1, i2, fun w => ?_, h3.2⟩
  obtain ⟨j1, j2, j3, j4, j5, j6, j7⟩ := h3.1 w
  exact ⟨j1, nm_e ⟨j2, j3, nm_e ⟨j4, j5, j6, j7⟩⟩⟩
end
end
section
/-! the bind: one character a part -/
theorem lv_ne {so : Nat → Int32} {N d : Nat} {g kd vl pa nm sl tg : Nat → Int32} {dp : Nat → Nat} {on os om on' ot oc om' och : Nat → Int32} {l : Nat} (h : lv_F so N d g kd vl pa nm sl tg dp on os om on' ot oc om' och l) (hl : l + 1 ≠ d) : ¬ os l = -1 := by
  obtain ⟨n, s, -, hs, -, -, -, -, -, K⟩ := h
  rcases K with ⟨-, -, -, e, -⟩ | ⟨-, -, -, -, ⟨-, e, -⟩ | ⟨-, -, -, -, e⟩ | ⟨-, -, r, q, hr, -, e, -⟩⟩
  · rw [e]; exact hh_m1 (by omega)
  · rw [e]; exact hh_m1 (by omega)
  · exact absurd e hl
  · rw [e]; exact hh_m1 (by omega)
theorem lv_up {so : Nat → Int32} {N d : Nat} {g kd vl pa nm sl tg : Nat → Int32} {dp : Nat → Nat} {on os om on' ot oc om' och : Nat → Int32} {l : Nat} (h : lv_F so N d g kd vl pa nm sl tg dp on os om on' ot oc om' och l) (hl : ¬ os l = -1) (d' : Nat) : lv_F so N d' g kd vl pa nm sl tg dp on os om on' ot oc om' och l := by
  obtain ⟨n, s, h1, h2, h3, h4, h5, h6, h7, K⟩ := h
  refine ⟨n, s, h1, h2, h3, h4, h5, h6, h7, ?_⟩
  rcases K with K | ⟨k1, k2, k3, k4, K⟩
  · exact Or.inl K
  · refine Or.inr ⟨k1, k2, k3, k4, ?_⟩
    rcases K with K | K | K
    · exact Or.inl K
    · exact absurd K.2.2.1 hl
    · exact Or.inr (Or.inr K)
section
variable {x_bound x_at x_tokenStart x_textCount x_escaped x_valueSlot x_valueName x_outputLength : Int32} {x_text x_typeKind x_typeDetail x_typeLeast x_typeMost x_fieldCount x_fieldName x_fieldType x_fieldNeeded x_tagType x_nodeKind x_nodeValue x_nodeParent x_nodeName x_nodeSlot x_nodeStart x_nodeTag x_completeCount x_openNode x_openSlot x_openNames x_openNext x_openComma x_output : Nat → Int32} {y_bad y_nextName y_wantsName y_wantsTag y_waiting y_scaled : Int32} {y_typeA y_typeB y_typeC y_fields y_tags y_begin y_end y_inside y_whole y_kind y_value y_parent y_name y_slotOf y_placeOf y_complete y_openNode y_openType y_openCount y_openNames y_openChoice y_todo : Nat → Int32} {L P k p x d N : Nat} {g : Nat → Int32} {dp : Nat → Nat} {slot : Int32}
/-- a part of one character -/
theorem st_1 (hL : L ≤ 96) (hk : k < P) (hP : P ≤ 96) {b : Nat} (hb : sp_S x_text p b) (hbL : b < L) {u' : SX} {v' : SY}
    (hx : ∀ Q : SX → Prop, Q u' → wpX_readCharacter Q (nI L, nI N, x_bound, 0, -1, md_x x, nI b, x_tokenStart, x_textCount, x_escaped, x_valueSlot, x_valueName, nI d, x_outputLength, x_text, x_typeKind, x_typeDetail, x_typeLeast, x_typeMost, x_fieldCount, x_fieldName, x_fieldType, x_fieldNeeded, x_tagType, x_nodeKind, x_nodeValue, x_nodeParent, x_nodeName, x_nodeSlot, x_nodeStart, x_nodeTag, x_completeCount, x_openNode, x_openSlot, x_openNames, x_openNext, x_openComma, x_output) (x_text b)) (hy : ∀ Q : SY → Prop, Q v' → wpY_part Q (nI L, nI P, y_bad, nI N, 0, -1, 0, nI d, y_nextName, y_wantsName, y_wantsTag, x_outputLength, y_waiting, y_scaled, x_typeKind, y_typeA, y_typeB, y_typeC, x_fieldName, x_fieldType, y_fields, y_tags, x_fieldNeeded, x_text, y_begin, y_end, y_inside, y_whole, y_kind, y_value, y_parent, y_name, y_slotOf, y_placeOf, y_complete, y_openNode, y_openType, y_openCount, y_openNames, y_openChoice, x_output, y_todo) (nI k) slot) (H : bo_O slot (b + 1) (k + 1) u' v') : bo_O slot p k (nI L, nI N, x_bound, 0, -1, md_x x, x_at, x_tokenStart, x_textCount, x_escaped, x_valueSlot, x_valueName, nI d, x_outputLength, x_text, x_typeKind, x_typeDetail, x_typeLeast, x_typeMost, x_fieldCount, x_fieldName, x_fieldType, x_fieldNeeded, x_tagType, x_nodeKind, x_nodeValue, x_nodeParent, x_nodeName, x_nodeSlot, x_nodeStart, x_nodeTag, x_completeCount, x_openNode, x_openSlot, x_openNames, x_openNext, x_openComma, x_output) (nI L, nI P, y_bad, nI N, 0, -1, 0, nI d, y_nextName, y_wantsName, y_wantsTag, x_outputLength, y_waiting, y_scaled, x_typeKind, y_typeA, y_typeB, y_typeC, x_fieldName, x_fieldType, y_fields, y_tags, x_fieldNeeded, x_text, y_begin, y_end, y_inside, y_whole, y_kind, y_value, y_parent, y_name, y_slotOf, y_placeOf, y_complete, y_openNode, y_openType, y_openCount, y_openNames, y_openChoice, x_output, y_todo) := by
  obtain ⟨a, ha⟩ : ∃ a, bx_R p (nI L, nI N, x_bound, 0, -1, md_x x, x_at, x_tokenStart, x_textCount, x_escaped, x_valueSlot, x_valueName, nI d, x_outputLength, x_text, x_typeKind, x_typeDetail, x_typeLeast, x_typeMost, x_fieldCount, x_fieldName, x_fieldType, x_fieldNeeded, x_tagType, x_nodeKind, x_nodeValue, x_nodeParent, x_nodeName, x_nodeSlot, x_nodeStart, x_nodeTag, x_completeCount, x_openNode, x_openSlot, x_openNames, x_openNext, x_openComma, x_output) b (nI L, nI N, x_bound, 0, -1, md_x x, a, x_tokenStart, x_textCount, x_escaped, x_valueSlot, x_valueName, nI d, x_outputLength, x_text, x_typeKind, x_typeDetail, x_typeLeast, x_typeMost, x_fieldCount, x_fieldName, x_fieldType, x_fieldNeeded, x_tagType, x_nodeKind, x_nodeValue, x_nodeParent, x_nodeName, x_nodeSlot, x_nodeStart, x_nodeTag, x_completeCount, x_openNode, x_openSlot, x_openNames, x_openNext, x_openComma, x_output) := bx_at hL hb (by omega)
  exact bo_step (bx_T ha (bx_1 hbL hL u' hx)) (by_1 hk hP v' hy) H
/-- and it is a fault -/
theorem st_1f (hT : rl_T L x_text x_typeKind x_typeDetail x_typeLeast x_typeMost x_fieldCount x_fieldName x_fieldType x_fieldNeeded x_tagType y_typeA y_typeB y_typeC y_fields y_tags) (hk : k < P) (hP : P ≤ 96) {b : Nat} (hb : sp_S x_text p b) (hbL : b < L) {f z : Int32} (hf : ¬ f = 0) {M D C a' t1 t2 t3 t4 t5 : Int32} {vl on os om : Nat → Int32} {D' N' nx wn wt sc : Int32} {kd' vl' pa' nm' sl' st' cy on' ot oc om' och : Nat → Int32}
    (hx : ∀ Q : SX → Prop, Q (nI L, C, x_bound, f, z, M, a', t1, t2, t3, t4, t5, D, x_outputLength, x_text, x_typeKind, x_typeDetail, x_typeLeast, x_typeMost, x_fieldCount, x_fieldName, x_fieldType, x_fieldNeeded, x_tagType, x_nodeKind, vl, x_nodeParent, x_nodeName, x_nodeSlot, x_nodeStart, x_nodeTag, x_completeCount, on, os, om, x_openNext, x_openComma, x_output) → wpX_readCharacter Q (nI L, nI N, x_bound, 0, -1, md_x x, nI b, x_tokenStart, x_textCount, x_escaped, x_valueSlot, x_valueName, nI d, x_outputLength, x_text, x_typeKind, x_typeDetail, x_typeLeast, x_typeMost, x_fieldCount, x_fieldName, x_fieldType, x_fieldNeeded, x_tagType, x_nodeKind, x_nodeValue, x_nodeParent, x_nodeName, x_nodeSlot, x_nodeStart, x_nodeTag, x_completeCount, x_openNode, x_openSlot, x_openNames, x_openNext, x_openComma, x_output) (x_text b))
    (hy : ∀ Q : SY → Prop, Q (nI L, nI P, y_bad, N', f, z, 0, D', nx, wn, wt, x_outputLength, y_waiting, sc, x_typeKind, y_typeA, y_typeB, y_typeC, x_fieldName, x_fieldType, y_fields, y_tags, x_fieldNeeded, x_text, y_begin, y_end, y_inside, y_whole, kd', vl', pa', nm', sl', st', cy, on', ot, oc, om', och, x_output, y_todo) → wpY_part Q (nI L, nI P, y_bad, nI N, 0, -1, 0, nI d, y_nextName, y_wantsName, y_wantsTag, x_outputLength, y_waiting, y_scaled, x_typeKind, y_typeA, y_typeB, y_typeC, x_fieldName, x_fieldType, y_fields, y_tags, x_fieldNeeded, x_text, y_begin, y_end, y_inside, y_whole, y_kind, y_value, y_parent, y_name, y_slotOf, y_placeOf, y_complete, y_openNode, y_openType, y_openCount, y_openNames, y_openChoice, x_output, y_todo) (nI k) slot) : bo_O slot p k (nI L, nI N, x_bound, 0, -1, md_x x, x_at, x_tokenStart, x_textCount, x_escaped, x_valueSlot, x_valueName, nI d, x_outputLength, x_text, x_typeKind, x_typeDetail, x_typeLeast, x_typeMost, x_fieldCount, x_fieldName, x_fieldType, x_fieldNeeded, x_tagType, x_nodeKind, x_nodeValue, x_nodeParent, x_nodeName, x_nodeSlot, x_nodeStart, x_nodeTag, x_completeCount, x_openNode, x_openSlot, x_openNames, x_openNext, x_openComma, x_output) (nI L, nI P, y_bad, nI N, 0, -1, 0, nI d, y_nextName, y_wantsName, y_wantsTag, x_outputLength, y_waiting, y_scaled, x_typeKind, y_typeA, y_typeB, y_typeC, x_fieldName, x_fieldType, y_fields, y_tags, x_fieldNeeded, x_text, y_begin, y_end, y_inside, y_whole, y_kind, y_value, y_parent, y_name, y_slotOf, y_placeOf, y_complete, y_openNode, y_openType, y_openCount, y_openNames, y_openChoice, x_output, y_todo) :=
  st_1 hT.1 hk hP hb hbL hx hy (bo_fault hT hf (bx_0 _ _) (fun _ h => h))
theorem st_comma (hT : rl_T L x_text x_typeKind x_typeDetail x_typeLeast x_typeMost x_fieldCount x_fieldName x_fieldType x_fieldNeeded x_tagType y_typeA y_typeB y_typeC y_fields y_tags) (F : br_F slot L k p 5 (d + 1) N g x_text x_typeKind x_fieldCount x_fieldName x_fieldType y_begin y_end x_nodeKind x_nodeValue x_nodeParent x_nodeName x_nodeSlot x_nodeStart x_nodeTag x_completeCount x_openNode x_openSlot x_openNames x_valueSlot x_valueName dp y_kind y_value y_parent y_name y_slotOf y_placeOf y_complete y_openNode y_openType y_openCount y_openNames y_openChoice y_nextName y_wantsName y_wantsTag) (hk : k < P) (hP : P ≤ 96) {b : Nat} (hb : sp_S x_text p b) (hbL : b < L) (hpL : p ≤ L) (eb : y_begin k = nI b) (c : x_text b = 15)
    (H : ∀ (a wn : Int32) (x' : Nat), (g (d + 1) = 12 ∧ x' = 0 ∨ g (d + 1) = 10 ∧ x' = 3) → br_F slot L (k + 1) (b + 1) (x') (d + 1) N g x_text x_typeKind x_fieldCount x_fieldName x_fieldType y_begin y_end x_nodeKind x_nodeValue x_nodeParent x_nodeName x_nodeSlot x_nodeStart x_nodeTag x_completeCount x_openNode x_openSlot x_openNames x_valueSlot x_valueName dp y_kind y_value y_parent y_name y_slotOf y_placeOf y_complete y_openNode y_openType y_openCount y_openNames y_openChoice y_nextName wn y_wantsTag → bo_O slot (b + 1) (k + 1) (nI L, nI N, x_bound, 0, -1, md_x x', a, x_tokenStart, x_textCount, x_escaped, x_valueSlot, x_valueName, nI (d + 1), x_outputLength, x_text, x_typeKind, x_typeDetail, x_typeLeast, x_typeMost, x_fieldCount, x_fieldName, x_fieldType, x_fieldNeeded, x_tagType, x_nodeKind, x_nodeValue, x_nodeParent, x_nodeName, x_nodeSlot, x_nodeStart, x_nodeTag, x_completeCount, x_openNode, x_openSlot, x_openNames, x_openNext, x_openComma, x_output) (nI L, nI P, y_bad, nI N, 0, -1, 0, nI (d + 1), y_nextName, wn, y_wantsTag, x_outputLength, y_waiting, y_scaled, x_typeKind, y_typeA, y_typeB, y_typeC, x_fieldName, x_fieldType, y_fields, y_tags, x_fieldNeeded, x_text, y_begin, y_end, y_inside, y_whole, y_kind, y_value, y_parent, y_name, y_slotOf, y_placeOf, y_complete, y_openNode, y_openType, y_openCount, y_openNames, y_openChoice, x_output, y_todo)) : bo_O slot p k (nI L, nI N, x_bound, 0, -1, md_x 5, x_at, x_tokenStart, x_textCount, x_escaped, x_valueSlot, x_valueName, nI (d + 1), x_outputLength, x_text, x_typeKind, x_typeDetail, x_typeLeast, x_typeMost, x_fieldCount, x_fieldName, x_fieldType, x_fieldNeeded, x_tagType, x_nodeKind, x_nodeValue, x_nodeParent, x_nodeName, x_nodeSlot, x_nodeStart, x_nodeTag, x_completeCount, x_openNode, x_openSlot, x_openNames, x_openNext, x_openComma, x_output) (nI L, nI P, y_bad, nI N, 0, -1, 0, nI (d + 1), y_nextName, y_wantsName, y_wantsTag, x_outputLength, y_waiting, y_scaled, x_typeKind, y_typeA, y_typeB, y_typeC, x_fieldName, x_fieldType, y_fields, y_tags, x_fieldNeeded, x_text, y_begin, y_end, y_inside, y_whole, y_kind, y_value, y_parent, y_name, y_slotOf, y_placeOf, y_complete, y_openNode, y_openType, y_openCount, y_openNames, y_openChoice, x_output, y_todo) := by
  have hL := hT.1
  obtain ⟨⟨e1, e2, e3, e4, e5, e6⟩, hA, hd6, hlv, hc, hbg, hx⟩ := F
  have hN := hA.1
  have ed : (nI d).toNatClampNeg = d := nI_clamp (by omega)
  have hx5 : y_wantsTag = 0 ∧ ¬ x_openSlot d = -1 := by
    rcases hx with w | w | w | w | w | w | w | w | w | w
    all_goals first | exact w.2.2 (by omega) | (have := w.1; omega)
  obtain ⟨n, s, hn, hs, eo, eo', -, -, -, K⟩ := hlv d (by omega)
  have en : (nI n).toNatClampNeg = n := nI_clamp (by omega)
  have bg' := bg_s hbg (by omega) hb.1 (by omega : b < b + 1) (by omega) eb
  have i8 : vp_in (nI d) 8 := vp_in_nI (by omega) (by decide)
  have i40 : vp_in (nI n) 40 := vp_in_nI (by omega) (by decide)
  have yk := e1 n hn
  rcases K with ⟨g1, k1, -⟩ | ⟨g1, k1, -⟩
  · refine st_1 (x := 5) (d := d + 1) hL hk hP hb hbL (u' := (nI L, nI N, x_bound, 0, -1, md_x 0, nI b, x_tokenStart, x_textCount, x_escaped, x_valueSlot, x_valueName, nI (d + 1), x_outputLength, x_text, x_typeKind, x_typeDetail, x_typeLeast, x_typeMost, x_fieldCount, x_fieldName, x_fieldType, x_fieldNeeded, x_tagType, x_nodeKind, x_nodeValue, x_nodeParent, x_nodeName, x_nodeSlot, x_nodeStart, x_nodeTag, x_completeCount, x_openNode, x_openSlot, x_openNames, x_openNext, x_openComma, x_output)) (v' := (nI L, nI P, y_bad, nI N, 0, -1, 0, nI (d + 1), y_nextName, 0, y_wantsTag, x_outputLength, y_waiting, y_scaled, x_typeKind, y_typeA, y_typeB, y_typeC, x_fieldName, x_fieldType, y_fields, y_tags, x_fieldNeeded, x_text, y_begin, y_end, y_inside, y_whole, y_kind, y_value, y_parent, y_name, y_slotOf, y_placeOf, y_complete, y_openNode, y_openType, y_openCount, y_openNames, y_openChoice, x_output, y_todo)) (fun Q q => ?_) (fun Q q => ?_) (H _ _ 0 (Or.inl ⟨g1, rfl⟩) ⟨⟨e1, e2, e3, e4, e5, e6⟩, hA, hd6, hlv, cm_s hc, bg', Or.inr (Or.inl ⟨rfl, by omega, g1, hx5.1⟩)⟩)
    · rw [c]; exact rc_bm (by decide) (nI_nle (by omega) (by omega)) (bm_lc (by omega) (by omega) eo k1 q)
    · refine yp_in (d := d + 1) (by omega) (by omega) eb ?_
      rw [c, nI_pred, ed, eo', en, yk, k1]
      exact br_f (nI_ne0 (by omega) (by omega)) (br_f (by decide) (br_f (by decide) (br_t rfl ⟨i8, i40, br_f (by decide) q⟩)))
  · refine st_1 (x := 5) (d := d + 1) hL hk hP hb hbL (u' := (nI L, nI N, x_bound, 0, -1, md_x 3, nI b, x_tokenStart, x_textCount, x_escaped, x_valueSlot, x_valueName, nI (d + 1), x_outputLength, x_text, x_typeKind, x_typeDetail, x_typeLeast, x_typeMost, x_fieldCount, x_fieldName, x_fieldType, x_fieldNeeded, x_tagType, x_nodeKind, x_nodeValue, x_nodeParent, x_nodeName, x_nodeSlot, x_nodeStart, x_nodeTag, x_completeCount, x_openNode, x_openSlot, x_openNames, x_openNext, x_openComma, x_output)) (v' := (nI L, nI P, y_bad, nI N, 0, -1, 0, nI (d + 1), y_nextName, 1, y_wantsTag, x_outputLength, y_waiting, y_scaled, x_typeKind, y_typeA, y_typeB, y_typeC, x_fieldName, x_fieldType, y_fields, y_tags, x_fieldNeeded, x_text, y_begin, y_end, y_inside, y_whole, y_kind, y_value, y_parent, y_name, y_slotOf, y_placeOf, y_complete, y_openNode, y_openType, y_openCount, y_openNames, y_openChoice, x_output, y_todo)) (fun Q q => ?_) (fun Q q => ?_) (H _ _ 3 (Or.inr ⟨g1, rfl⟩) ⟨⟨e1, e2, e3, e4, e5, e6⟩, hA, hd6, hlv, cm_s hc, bg', Or.inr (Or.inr (Or.inr (Or.inr (Or.inr (Or.inr (Or.inl ⟨rfl, by omega, g1, rfl, hx5.1, hx5.2⟩))))))⟩)
    · rw [c]; exact rc_bm (by decide) (nI_nle (by omega) (by omega)) (bm_rc (by omega) (by omega) eo (by rw [k1]; decide) q)
    · refine yp_in (d := d + 1) (by omega) (by omega) eb ?_
      rw [c, nI_pred, ed, eo', en, yk, k1]
      exact br_f (nI_ne0 (by omega) (by omega)) (br_f (by decide) (br_f (by decide) (br_t rfl ⟨i8, i40, br_t rfl q⟩)))
theorem st_colon (hT : rl_T L x_text x_typeKind x_typeDetail x_typeLeast x_typeMost x_fieldCount x_fieldName x_fieldType x_fieldNeeded x_tagType y_typeA y_typeB y_typeC y_fields y_tags) (F : br_F slot L k p 4 (d + 1) N g x_text x_typeKind x_fieldCount x_fieldName x_fieldType y_begin y_end x_nodeKind x_nodeValue x_nodeParent x_nodeName x_nodeSlot x_nodeStart x_nodeTag x_completeCount x_openNode x_openSlot x_openNames x_valueSlot x_valueName dp y_kind y_value y_parent y_name y_slotOf y_placeOf y_complete y_openNode y_openType y_openCount y_openNames y_openChoice y_nextName y_wantsName y_wantsTag) (hk : k < P) (hP : P ≤ 96) {b : Nat} (hb : sp_S x_text p b) (hbL : b < L) (hpL : p ≤ L) (eb : y_begin k = nI b) (c : x_text b = 14)
    (H : ∀ a : Int32, br_F slot L (k + 1) (b + 1) 0 (d + 1) N g x_text x_typeKind x_fieldCount x_fieldName x_fieldType y_begin y_end x_nodeKind x_nodeValue x_nodeParent x_nodeName x_nodeSlot x_nodeStart x_nodeTag x_completeCount x_openNode x_openSlot x_openNames x_valueSlot x_valueName dp y_kind y_value y_parent y_name y_slotOf y_placeOf y_complete y_openNode y_openType y_openCount y_openNames y_openChoice y_nextName 0 y_wantsTag → bo_O slot (b + 1) (k + 1) (nI L, nI N, x_bound, 0, -1, md_x 0, a, x_tokenStart, x_textCount, x_escaped, x_valueSlot, x_valueName, nI (d + 1), x_outputLength, x_text, x_typeKind, x_typeDetail, x_typeLeast, x_typeMost, x_fieldCount, x_fieldName, x_fieldType, x_fieldNeeded, x_tagType, x_nodeKind, x_nodeValue, x_nodeParent, x_nodeName, x_nodeSlot, x_nodeStart, x_nodeTag, x_completeCount, x_openNode, x_openSlot, x_openNames, x_openNext, x_openComma, x_output) (nI L, nI P, y_bad, nI N, 0, -1, 0, nI (d + 1), y_nextName, 0, y_wantsTag, x_outputLength, y_waiting, y_scaled, x_typeKind, y_typeA, y_typeB, y_typeC, x_fieldName, x_fieldType, y_fields, y_tags, x_fieldNeeded, x_text, y_begin, y_end, y_inside, y_whole, y_kind, y_value, y_parent, y_name, y_slotOf, y_placeOf, y_complete, y_openNode, y_openType, y_openCount, y_openNames, y_openChoice, x_output, y_todo)) : bo_O slot p k (nI L, nI N, x_bound, 0, -1, md_x 4, x_at, x_tokenStart, x_textCount, x_escaped, x_valueSlot, x_valueName, nI (d + 1), x_outputLength, x_text, x_typeKind, x_typeDetail, x_typeLeast, x_typeMost, x_fieldCount, x_fieldName, x_fieldType, x_fieldNeeded, x_tagType, x_nodeKind, x_nodeValue, x_nodeParent, x_nodeName, x_nodeSlot, x_nodeStart, x_nodeTag, x_completeCount, x_openNode, x_openSlot, x_openNames, x_openNext, x_openComma, x_output) (nI L, nI P, y_bad, nI N, 0, -1, 0, nI (d + 1), y_nextName, y_wantsName, y_wantsTag, x_outputLength, y_waiting, y_scaled, x_typeKind, y_typeA, y_typeB, y_typeC, x_fieldName, x_fieldType, y_fields, y_tags, x_fieldNeeded, x_text, y_begin, y_end, y_inside, y_whole, y_kind, y_value, y_parent, y_name, y_slotOf, y_placeOf, y_complete, y_openNode, y_openType, y_openCount, y_openNames, y_openChoice, x_output, y_todo) := by
  have hL := hT.1
  obtain ⟨e, hA, hd6, hlv, hc, hbg, hx⟩ := F
  have bg' := bg_s hbg (by omega) hb.1 (by omega : b < b + 1) (by omega) eb
  have hx' : xp_F slot (k + 1) 0 (d + 1) N g x_fieldCount x_fieldName x_fieldType x_nodeParent x_nodeName x_openNode x_openSlot x_openNames x_nodeStart y_begin x_valueSlot x_valueName y_nextName 0 y_wantsTag := by
    rcases hx with w | w | w | w | w | w | w | w | w | w
    all_goals try (have := w.1; omega)
    · obtain ⟨-, w1, w2, w3, w4, n, K, b', p1, p2, p3, p4, p5⟩ := w
      exact Or.inr (Or.inr (Or.inl ⟨rfl, w1, w2, rfl, w3, w4, n, K, b', p1, p2, by omega, p4, p5⟩))
    · obtain ⟨-, w1, w2, w3, w4, w5⟩ := w
      exact Or.inr (Or.inr (Or.inr (Or.inl ⟨rfl, w1, w2, rfl, w3, w4, w5⟩)))
  refine st_1 (x := 4) (d := d + 1) hL hk hP hb hbL (u' := (nI L, nI N, x_bound, 0, -1, md_x 0, nI b, x_tokenStart, x_textCount, x_escaped, x_valueSlot, x_valueName, nI (d + 1), x_outputLength, x_text, x_typeKind, x_typeDetail, x_typeLeast, x_typeMost, x_fieldCount, x_fieldName, x_fieldType, x_fieldNeeded, x_tagType, x_nodeKind, x_nodeValue, x_nodeParent, x_nodeName, x_nodeSlot, x_nodeStart, x_nodeTag, x_completeCount, x_openNode, x_openSlot, x_openNames, x_openNext, x_openComma, x_output)) (v' := (nI L, nI P, y_bad, nI N, 0, -1, 0, nI (d + 1), y_nextName, 0, y_wantsTag, x_outputLength, y_waiting, y_scaled, x_typeKind, y_typeA, y_typeB, y_typeC, x_fieldName, x_fieldType, y_fields, y_tags, x_fieldNeeded, x_text, y_begin, y_end, y_inside, y_whole, y_kind, y_value, y_parent, y_name, y_slotOf, y_placeOf, y_complete, y_openNode, y_openType, y_openCount, y_openNames, y_openChoice, x_output, y_todo)) (fun Q q => ?_) (fun Q q => ?_) (H _ ⟨e, hA, hd6, hlv, cm_s hc, bg', hx'⟩)
  · rw [c]; exact rc_colon q
  · refine yp_in (d := d + 1) (by omega) (by omega) eb ?_
    rw [c]
    exact br_f (nI_ne0 (by omega) (by omega)) (br_f (by decide) (br_f (by decide) (br_f (by decide) (br_t rfl q))))
theorem cl_x {x_length x_nodeCount x_bound x_fault x_faultPlace x_mode x_at x_tokenStart x_textCount x_escaped x_valueSlot x_valueName x_outputLength : Int32} {x_text x_typeKind x_typeDetail x_typeLeast x_typeMost x_fieldCount x_fieldName x_fieldType x_fieldNeeded x_tagType x_nodeKind x_nodeValue x_nodeParent x_nodeName x_nodeSlot x_nodeStart x_nodeTag x_completeCount x_openNode x_openSlot x_openNames x_openNext x_openComma x_output : Nat → Int32} {d n s : Nat} {Q : SX → Prop} (hd : d < 6) (hn : n < 40) (hs : s < 12) (eo : x_openNode d = nI n) (es : x_openSlot d = nI s) (h1 : x_typeLeast s ≤ x_nodeValue n → Q (x_length, x_nodeCount, x_bound, x_fault, x_faultPlace, 2, x_at, x_tokenStart, x_textCount, x_escaped, x_valueSlot, x_valueName, nI d, x_outputLength, x_text, x_typeKind, x_typeDetail, x_typeLeast, x_typeMost, x_fieldCount, x_fieldName, x_fieldType, x_fieldNeeded, x_tagType, x_nodeKind, x_nodeValue, x_nodeParent, x_nodeName, x_nodeSlot, x_nodeStart, x_nodeTag, x_completeCount, x_openNode, x_openSlot, x_openNames, x_openNext, x_openComma, x_output)) (h0 : ¬ x_typeLeast s ≤ x_nodeValue n → Q (x_length, x_nodeCount, x_bound, 6, x_at, 2, x_at, x_tokenStart, x_textCount, x_escaped, x_valueSlot, x_valueName, nI d, x_outputLength, x_text, x_typeKind, x_typeDetail, x_typeLeast, x_typeMost, x_fieldCount, x_fieldName, x_fieldType, x_fieldNeeded, x_tagType, x_nodeKind, x_nodeValue, x_nodeParent, x_nodeName, x_nodeSlot, x_nodeStart, x_nodeTag, x_completeCount, x_openNode, x_openSlot, x_openNames, x_openNext, x_openComma, x_output)) : wpX_closeList Q (x_length, x_nodeCount, x_bound, x_fault, x_faultPlace, x_mode, x_at, x_tokenStart, x_textCount, x_escaped, x_valueSlot, x_valueName, nI (d + 1), x_outputLength, x_text, x_typeKind, x_typeDetail, x_typeLeast, x_typeMost, x_fieldCount, x_fieldName, x_fieldType, x_fieldNeeded, x_tagType, x_nodeKind, x_nodeValue, x_nodeParent, x_nodeName, x_nodeSlot, x_nodeStart, x_nodeTag, x_completeCount, x_openNode, x_openSlot, x_openNames, x_openNext, x_openComma, x_output) := by
  have ed : (nI d).toNatClampNeg = d := nI_clamp (by omega)
  have en : (nI n).toNatClampNeg = n := nI_clamp (by omega)
  have e12 : (nI s).toNatClampNeg = s := nI_clamp (by omega)
  have i6 : vp_in (nI d) 6 := vp_in_nI hd (by decide)
  refine nm_r (nI_pred d) ⟨i6, ?_⟩
  rw [ed, eo, es, en, e12]
  exact ⟨vp_in_nI hn (by decide), i6, vp_in_nI hs (by decide), h1, h0⟩
theorem cl_y {y_length y_parts y_bad y_nodes y_place y_bound y_nextName y_wantsName y_wantsTag y_printed y_waiting y_scaled : Int32} {y_sort y_typeA y_typeB y_typeC y_fieldName y_fieldType y_fields y_tags y_needed y_text y_begin y_end y_inside y_whole y_kind y_value y_parent y_name y_slotOf y_placeOf y_complete y_openNode y_openType y_openCount y_openNames y_openChoice y_output y_todo : Nat → Int32} {d s k b : Nat} {Q : SY → Prop} (hd : d < 6) (hs : s < 12) (hk : k < 96) (et : y_openType d = nI s) (eb : y_begin k = nI b) (h1 : y_typeB s ≤ y_openCount d → Q (y_length, y_parts, y_bad, y_nodes, 0, y_place, y_bound, nI d, y_nextName, y_wantsName, y_wantsTag, y_printed, y_waiting, y_scaled, y_sort, y_typeA, y_typeB, y_typeC, y_fieldName, y_fieldType, y_fields, y_tags, y_needed, y_text, y_begin, y_end, y_inside, y_whole, y_kind, y_value, y_parent, y_name, y_slotOf, y_placeOf, y_complete, y_openNode, y_openType, y_openCount, y_openNames, y_openChoice, y_output, y_todo)) (h0 : ¬ y_typeB s ≤ y_openCount d → Q (y_length, y_parts, y_bad, y_nodes, 6, nI b, y_bound, nI d, y_nextName, y_wantsName, y_wantsTag, y_printed, y_waiting, y_scaled, y_sort, y_typeA, y_typeB, y_typeC, y_fieldName, y_fieldType, y_fields, y_tags, y_needed, y_text, y_begin, y_end, y_inside, y_whole, y_kind, y_value, y_parent, y_name, y_slotOf, y_placeOf, y_complete, y_openNode, y_openType, y_openCount, y_openNames, y_openChoice, y_output, y_todo)) : wpY_closeList Q (y_length, y_parts, y_bad, y_nodes, 0, y_place, y_bound, nI (d + 1), y_nextName, y_wantsName, y_wantsTag, y_printed, y_waiting, y_scaled, y_sort, y_typeA, y_typeB, y_typeC, y_fieldName, y_fieldType, y_fields, y_tags, y_needed, y_text, y_begin, y_end, y_inside, y_whole, y_kind, y_value, y_parent, y_name, y_slotOf, y_placeOf, y_complete, y_openNode, y_openType, y_openCount, y_openNames, y_openChoice, y_output, y_todo) (nI k) := by
  have ed : (nI d).toNatClampNeg = d := nI_clamp (by omega)
  have e12 : (nI s).toNatClampNeg = s := nI_clamp (by omega)
  have ek : (nI k).toNatClampNeg = k := nI_clamp (by omega)
  have i8 : vp_in (nI d) 8 := vp_in_nI (by omega) (by decide)
  refine nm_r (nI_pred d) ⟨i8, i8, ?_⟩
  rw [ed, et, e12, ek, eb]
  refine ⟨vp_in_nI hs (by decide), fun w => nm_r (nI_pred d) (h1 w), fun w => ⟨vp_in_nI hk (by decide), br_t rfl (nm_r (nI_pred d) (h0 w))⟩⟩
theorem st_cl (hT : rl_T L x_text x_typeKind x_typeDetail x_typeLeast x_typeMost x_fieldCount x_fieldName x_fieldType x_fieldNeeded x_tagType y_typeA y_typeB y_typeC y_fields y_tags) (hx15 : x = 1 ∨ x = 5) (F : br_F slot L k p x (d + 1) N g x_text x_typeKind x_fieldCount x_fieldName x_fieldType y_begin y_end x_nodeKind x_nodeValue x_nodeParent x_nodeName x_nodeSlot x_nodeStart x_nodeTag x_completeCount x_openNode x_openSlot x_openNames x_valueSlot x_valueName dp y_kind y_value y_parent y_name y_slotOf y_placeOf y_complete y_openNode y_openType y_openCount y_openNames y_openChoice y_nextName y_wantsName y_wantsTag) (hk : k < P) (hP : P ≤ 96) {b : Nat} (hb : sp_S x_text p b) (hbL : b < L) (hpL : p ≤ L) (eb : y_begin k = nI b) (c : x_text b = 13) (hg : g (d + 1) = 12)
    (H : ∀ a : Int32, br_F slot L (k + 1) (b + 1) 5 d N g x_text x_typeKind x_fieldCount x_fieldName x_fieldType y_begin y_end x_nodeKind x_nodeValue x_nodeParent x_nodeName x_nodeSlot x_nodeStart x_nodeTag x_completeCount x_openNode x_openSlot x_openNames x_valueSlot x_valueName dp y_kind y_value y_parent y_name y_slotOf y_placeOf y_complete y_openNode y_openType y_openCount y_openNames y_openChoice y_nextName y_wantsName y_wantsTag → bo_O slot (b + 1) (k + 1) (nI L, nI N, x_bound, 0, -1, md_x 5, a, x_tokenStart, x_textCount, x_escaped, x_valueSlot, x_valueName, nI d, x_outputLength, x_text, x_typeKind, x_typeDetail, x_typeLeast, x_typeMost, x_fieldCount, x_fieldName, x_fieldType, x_fieldNeeded, x_tagType, x_nodeKind, x_nodeValue, x_nodeParent, x_nodeName, x_nodeSlot, x_nodeStart, x_nodeTag, x_completeCount, x_openNode, x_openSlot, x_openNames, x_openNext, x_openComma, x_output) (nI L, nI P, y_bad, nI N, 0, -1, 0, nI d, y_nextName, y_wantsName, y_wantsTag, x_outputLength, y_waiting, y_scaled, x_typeKind, y_typeA, y_typeB, y_typeC, x_fieldName, x_fieldType, y_fields, y_tags, x_fieldNeeded, x_text, y_begin, y_end, y_inside, y_whole, y_kind, y_value, y_parent, y_name, y_slotOf, y_placeOf, y_complete, y_openNode, y_openType, y_openCount, y_openNames, y_openChoice, x_output, y_todo)) : bo_O slot p k (nI L, nI N, x_bound, 0, -1, md_x x, x_at, x_tokenStart, x_textCount, x_escaped, x_valueSlot, x_valueName, nI (d + 1), x_outputLength, x_text, x_typeKind, x_typeDetail, x_typeLeast, x_typeMost, x_fieldCount, x_fieldName, x_fieldType, x_fieldNeeded, x_tagType, x_nodeKind, x_nodeValue, x_nodeParent, x_nodeName, x_nodeSlot, x_nodeStart, x_nodeTag, x_completeCount, x_openNode, x_openSlot, x_openNames, x_openNext, x_openComma, x_output) (nI L, nI P, y_bad, nI N, 0, -1, 0, nI (d + 1), y_nextName, y_wantsName, y_wantsTag, x_outputLength, y_waiting, y_scaled, x_typeKind, y_typeA, y_typeB, y_typeC, x_fieldName, x_fieldType, y_fields, y_tags, x_fieldNeeded, x_text, y_begin, y_end, y_inside, y_whole, y_kind, y_value, y_parent, y_name, y_slotOf, y_placeOf, y_complete, y_openNode, y_openType, y_openCount, y_openNames, y_openChoice, x_output, y_todo) := by
  have hL := hT.1
  obtain ⟨⟨e1, e2, e3, e4, e5, e6⟩, hA, hd6, hlv, hc, hbg, hx⟩ := F
  have hN := hA.1
  have bg' := bg_s hbg (by omega) hb.1 (by omega : b < b + 1) (by omega) eb
  obtain ⟨n, s, hn, hs, eo, eo', -, et, -, K⟩ := hlv d (by omega)
  rcases K with ⟨g1, k1, so4, es, eoc⟩ | ⟨g1, -⟩
  case inr => rw [hg] at g1; exact absurd g1 (by decide)
  have wt0 : y_wantsTag = 0 := by
    rcases hx with w | w | w | w | w | w | w | w | w | w
    all_goals first | exact (w.2.2 (by omega)).1 | exact w.2.2.2 | (have := w.1; omega)
  have nos : ¬ x_openSlot d = -1 := by rw [es]; exact hh_m1 (by omega)
  have TS := (hT.2.2 s hs).2.2.2.1 so4
  have X1 : ∀ Q : SX → Prop, wpX_closeList Q (nI L, nI N, x_bound, 0, -1, md_x x, nI b, x_tokenStart, x_textCount, x_escaped, x_valueSlot, x_valueName, nI (d + 1), x_outputLength, x_text, x_typeKind, x_typeDetail, x_typeLeast, x_typeMost, x_fieldCount, x_fieldName, x_fieldType, x_fieldNeeded, x_tagType, x_nodeKind, x_nodeValue, x_nodeParent, x_nodeName, x_nodeSlot, x_nodeStart, x_nodeTag, x_completeCount, x_openNode, x_openSlot, x_openNames, x_openNext, x_openComma, x_output) → wpX_readCharacter Q (nI L, nI N, x_bound, 0, -1, md_x x, nI b, x_tokenStart, x_textCount, x_escaped, x_valueSlot, x_valueName, nI (d + 1), x_outputLength, x_text, x_typeKind, x_typeDetail, x_typeLeast, x_typeMost, x_fieldCount, x_fieldName, x_fieldType, x_fieldNeeded, x_tagType, x_nodeKind, x_nodeValue, x_nodeParent, x_nodeName, x_nodeSlot, x_nodeStart, x_nodeTag, x_completeCount, x_openNode, x_openSlot, x_openNames, x_openNext, x_openComma, x_output) (x_text b) := by
    intro Q q
    rw [c]
    rcases hx15 with rfl | rfl
    · exact rc_cl1 q
    · exact rc_bm (by decide) (nI_nle (by omega) (by omega)) (bm_ll (by omega) (by omega) eo k1 q)
  have Y1 : ∀ Q : SY → Prop, wpY_closeList Q (nI L, nI P, y_bad, nI N, 0, -1, 0, nI (d + 1), y_nextName, y_wantsName, y_wantsTag, x_outputLength, y_waiting, y_scaled, x_typeKind, y_typeA, y_typeB, y_typeC, x_fieldName, x_fieldType, y_fields, y_tags, x_fieldNeeded, x_text, y_begin, y_end, y_inside, y_whole, y_kind, y_value, y_parent, y_name, y_slotOf, y_placeOf, y_complete, y_openNode, y_openType, y_openCount, y_openNames, y_openChoice, x_output, y_todo) (nI k) → wpY_part Q (nI L, nI P, y_bad, nI N, 0, -1, 0, nI (d + 1), y_nextName, y_wantsName, y_wantsTag, x_outputLength, y_waiting, y_scaled, x_typeKind, y_typeA, y_typeB, y_typeC, x_fieldName, x_fieldType, y_fields, y_tags, x_fieldNeeded, x_text, y_begin, y_end, y_inside, y_whole, y_kind, y_value, y_parent, y_name, y_slotOf, y_placeOf, y_complete, y_openNode, y_openType, y_openCount, y_openNames, y_openChoice, x_output, y_todo) (nI k) slot := by
    intro Q q
    refine yp_in (d := d + 1) (by omega) (by omega) eb ?_
    exact br_f (nI_ne0 (by omega) (by omega)) (br_t c q)
  by_cases w : x_typeLeast s ≤ x_nodeValue n
  · have w' : y_typeB s ≤ y_openCount d := by rw [TS.2.1, eoc]; exact w
    refine st_1 (d := d + 1) hL hk hP hb hbL (u' := (nI L, nI N, x_bound, 0, -1, md_x 5, nI b, x_tokenStart, x_textCount, x_escaped, x_valueSlot, x_valueName, nI d, x_outputLength, x_text, x_typeKind, x_typeDetail, x_typeLeast, x_typeMost, x_fieldCount, x_fieldName, x_fieldType, x_fieldNeeded, x_tagType, x_nodeKind, x_nodeValue, x_nodeParent, x_nodeName, x_nodeSlot, x_nodeStart, x_nodeTag, x_completeCount, x_openNode, x_openSlot, x_openNames, x_openNext, x_openComma, x_output)) (v' := (nI L, nI P, y_bad, nI N, 0, -1, 0, nI d, y_nextName, y_wantsName, y_wantsTag, x_outputLength, y_waiting, y_scaled, x_typeKind, y_typeA, y_typeB, y_typeC, x_fieldName, x_fieldType, y_fields, y_tags, x_fieldNeeded, x_text, y_begin, y_end, y_inside, y_whole, y_kind, y_value, y_parent, y_name, y_slotOf, y_placeOf, y_complete, y_openNode, y_openType, y_openCount, y_openNames, y_openChoice, x_output, y_todo)) (fun Q q => X1 Q (cl_x (by omega) (by omega) hs eo es (fun _ => q) (fun z => absurd w z))) (fun Q q => Y1 Q (cl_y (by omega) hs (by omega) (et.trans es) eb (fun _ => q) (fun z => absurd w' z))) (H _ ⟨⟨e1, e2, e3, e4, e5, e6⟩, nd_op hA (fun i z => absurd z.2.2 nos), by omega, fun l hl => lv_up (hlv l (by omega)) (lv_ne (hlv l (by omega)) (by omega)) d, cm_s hc, bg', ?_⟩)
    refine Or.inr (Or.inr (Or.inr (Or.inr (Or.inr (Or.inr (Or.inr (Or.inr (Or.inr ⟨rfl, by omega, fun hd0 => ⟨wt0, ?_⟩⟩))))))))
    exact lv_ne (hlv (d - 1) (by omega)) (by omega)
  · have w' : ¬ y_typeB s ≤ y_openCount d := by rw [TS.2.1, eoc]; exact w
    exact st_1f (d := d + 1) hT hk hP hb hbL (f := 6) (z := nI b) (by decide) (fun Q q => X1 Q (cl_x (by omega) (by omega) hs eo es (fun z => absurd z w) (fun _ => q))) (fun Q q => Y1 Q (cl_y (by omega) hs (by omega) (et.trans es) eb (fun z => absurd z w') (fun _ => q)))
end
end
section
/-! the bind: the end of a record -/
theorem bt_x : ∀ M, M < 64 → ∀ j, j < 6 → ((nI M &&& ((1 : Int32) <<< (nI j &&& 31))) = 0 ↔ M.testBit j = false) := by decide +kernel
theorem bt_y0 : ∀ M, M < 64 → ∀ j, j < 6 → (((nI M >>> (nI j &&& 31)) &&& 1) = 0 ↔ M.testBit j = false) := by decide +kernel
theorem bt_y1 : ∀ M, M < 64 → ∀ j, j < 6 → (((nI M >>> (nI j &&& 31)) &&& 1) = 1 ↔ M.testBit j = true) := by decide +kernel
theorem bt_o : ∀ M, M < 64 → ∀ j, j < 6 → (nI M ||| ((1 : Int32) <<< (nI j &&& 31))) = nI (M ||| 2 ^ j) := by decide +kernel
theorem bt_l : ∀ M, M < 64 → ∀ j, j < 6 → (M ||| 2 ^ j) < 64 ∧ (M ||| 2 ^ j).testBit j = true := by decide +kernel
theorem bt_k : ∀ M, M < 64 → ∀ j, j < 6 → ∀ i, i < 6 → M.testBit i = true → (M ||| 2 ^ j).testBit i = true := by decide +kernel
theorem bt_1 : ∀ j, j < 6 → ((1 : Int32) <<< (nI j &&& 31)) = nI (2 ^ j) ∧ 2 ^ j < 64 := by decide +kernel
/-- field i of slot r is needed and not there -/
def ms_F (fN fB : Nat → Int32) (r M i : Nat) : Prop := ¬ fB (4 * r + i) = 0 ∧ ∃ j, j < 6 ∧ fN (4 * r + i) = nI j ∧ M.testBit j = false
section
variable {x_length x_nodeCount x_bound x_fault x_faultPlace x_mode x_at x_tokenStart x_textCount x_escaped x_valueSlot x_valueName x_depth x_outputLength : Int32} {x_text x_typeKind x_typeDetail x_typeLeast x_typeMost x_fieldCount x_fieldName x_fieldType x_fieldNeeded x_tagType x_nodeKind x_nodeValue x_nodeParent x_nodeName x_nodeSlot x_nodeStart x_nodeTag x_completeCount x_openNode x_openSlot x_openNames x_openNext x_openComma x_output : Nat → Int32} {d r m M n : Nat} {Q : SX → Prop}
theorem xr_go (hd : d < 6) (hr : r < 12) (hm4 : m ≤ 4) (hm : x_fieldCount r = nI m) (hM : M < 64) (eM : x_openNames d = nI M) (hf : ∀ i, i < m → ∃ j, j < 6 ∧ x_fieldName (4 * r + i) = nI j) : ∀ (q i e : Nat), i + q = e → e ≤ m → (∀ j, i ≤ j → j < e → ¬ ms_F x_fieldName x_fieldNeeded r M j) →
    (∃ f, wX_closeRecord_32 Q (nI d) (nI r) x_length x_nodeCount x_bound x_fault x_faultPlace x_mode x_at x_tokenStart x_textCount x_escaped x_valueSlot x_valueName x_depth x_outputLength x_text x_typeKind x_typeDetail x_typeLeast x_typeMost x_fieldCount x_fieldName x_fieldType x_fieldNeeded x_tagType x_nodeKind x_nodeValue x_nodeParent x_nodeName x_nodeSlot x_nodeStart x_nodeTag x_completeCount x_openNode x_openSlot x_openNames x_openNext x_openComma x_output f (nI e)) → ∃ f, wX_closeRecord_32 Q (nI d) (nI r) x_length x_nodeCount x_bound x_fault x_faultPlace x_mode x_at x_tokenStart x_textCount x_escaped x_valueSlot x_valueName x_depth x_outputLength x_text x_typeKind x_typeDetail x_typeLeast x_typeMost x_fieldCount x_fieldName x_fieldType x_fieldNeeded x_tagType x_nodeKind x_nodeValue x_nodeParent x_nodeName x_nodeSlot x_nodeStart x_nodeTag x_completeCount x_openNode x_openSlot x_openNames x_openNext x_openComma x_output f (nI i) := by
  intro q
  induction q with
  | zero =>
    intro i e h1 h2 h3 h
    have : i = e := by omega
    subst this; exact h
  | succ q ih =>
    intro i e h1 h2 h3 h
    obtain ⟨f, hw⟩ := ih (i + 1) e (by omega) h2 (fun j a b => h3 j (by omega) b) h
    have er : (nI r).toNatClampNeg = r := nI_clamp (by omega)
    have ed : (nI d).toNatClampNeg = d := nI_clamp (by omega)
    have e4 : nI r * 4 + nI i = nI (4 * r + i) := by
      show nI r * nI 4 + nI i = _
      rw [pk_mul, nI_add, Nat.mul_comm]
    have ee : (nI (4 * r + i)).toNatClampNeg = 4 * r + i := nI_clamp (by omega)
    have i48 : vp_in (nI (4 * r + i)) 48 := vp_in_nI (by omega) (by decide)
    refine ⟨f + 1, And.intro (vp_in_nI hr (by decide)) (br_f ?_ (nm_r e4 ⟨i48, ?_⟩))⟩
    · rw [er, hm]; exact nI_ge (by omega) (by omega)
    · rw [ee]
      by_cases z : x_fieldNeeded (4 * r + i) = 0
      · exact br_t z (nm_r (nI_1 i) hw)
      · obtain ⟨j, hj, ej⟩ := hf i (by omega)
        refine br_f z ⟨vp_in_nI hd (by decide), i48, ?_⟩
        rw [ed, eM, ej]
        refine br_f (fun w => ?_) (nm_r (nI_1 i) hw)
        exact h3 i (by omega) (by omega) ⟨z, j, hj, ej, (bt_x M hM j hj).mp w⟩
theorem xr_miss (hd : d < 6) (hr : r < 12) (hm4 : m ≤ 4) (hm : x_fieldCount r = nI m) (hM : M < 64) (eM : x_openNames d = nI M) {i : Nat} (hi : i < m) (h : ms_F x_fieldName x_fieldNeeded r M i) (hq : Q (x_length, x_nodeCount, x_bound, 8, x_at, x_mode, x_at, x_tokenStart, x_textCount, x_escaped, x_valueSlot, x_valueName, x_depth, x_outputLength, x_text, x_typeKind, x_typeDetail, x_typeLeast, x_typeMost, x_fieldCount, x_fieldName, x_fieldType, x_fieldNeeded, x_tagType, x_nodeKind, x_nodeValue, x_nodeParent, x_nodeName, x_nodeSlot, x_nodeStart, x_nodeTag, x_completeCount, x_openNode, x_openSlot, x_openNames, x_openNext, x_openComma, x_output)) : ∃ f, wX_closeRecord_32 Q (nI d) (nI r) x_length x_nodeCount x_bound x_fault x_faultPlace x_mode x_at x_tokenStart x_textCount x_escaped x_valueSlot x_valueName x_depth x_outputLength x_text x_typeKind x_typeDetail x_typeLeast x_typeMost x_fieldCount x_fieldName x_fieldType x_fieldNeeded x_tagType x_nodeKind x_nodeValue x_nodeParent x_nodeName x_nodeSlot x_nodeStart x_nodeTag x_completeCount x_openNode x_openSlot x_openNames x_openNext x_openComma x_output f (nI i) := by
  have er : (nI r).toNatClampNeg = r := nI_clamp (by omega)
  have ed : (nI d).toNatClampNeg = d := nI_clamp (by omega)
  have e4 : nI r * 4 + nI i = nI (4 * r + i) := by
    show nI r * nI 4 + nI i = _
    rw [pk_mul, nI_add, Nat.mul_comm]
  have ee : (nI (4 * r + i)).toNatClampNeg = 4 * r + i := nI_clamp (by omega)
  have i48 : vp_in (nI (4 * r + i)) 48 := vp_in_nI (by omega) (by decide)
  obtain ⟨z, j, hj, ej, hb⟩ := h
  refine ⟨0 + 1, And.intro (vp_in_nI hr (by decide)) (br_f ?_ (nm_r e4 ⟨i48, ?_⟩))⟩
  · rw [er, hm]; exact nI_ge hi (by omega)
  · rw [ee]
    refine br_f z ⟨vp_in_nI hd (by decide), i48, ?_⟩
    rw [ed, eM, ej]
    exact br_t ((bt_x M hM j hj).mpr hb) hq
theorem xr_end (hd : d < 6) (hr : r < 12) (hm4 : m ≤ 4) (hm : x_fieldCount r = nI m) (hn : n < 40) (eo : x_openNode d = nI n) (h1 : x_nodeTag n = -1 → Q (x_length, x_nodeCount, x_bound, x_fault, x_faultPlace, 2, x_at, x_tokenStart, x_textCount, x_escaped, x_valueSlot, x_valueName, nI d, x_outputLength, x_text, x_typeKind, x_typeDetail, x_typeLeast, x_typeMost, x_fieldCount, x_fieldName, x_fieldType, x_fieldNeeded, x_tagType, x_nodeKind, x_nodeValue, x_nodeParent, x_nodeName, x_nodeSlot, x_nodeStart, x_nodeTag, upd x_completeCount r (x_completeCount r + 1), x_openNode, x_openSlot, x_openNames, x_openNext, x_openComma, x_output)) (h0 : ¬ x_nodeTag n = -1 → Q (x_length, x_nodeCount, x_bound, x_fault, x_faultPlace, 2, x_at, x_tokenStart, x_textCount, x_escaped, x_valueSlot, x_valueName, nI d, x_outputLength, x_text, x_typeKind, x_typeDetail, x_typeLeast, x_typeMost, x_fieldCount, x_fieldName, x_fieldType, x_fieldNeeded, x_tagType, x_nodeKind, x_nodeValue, x_nodeParent, x_nodeName, x_nodeSlot, x_nodeStart, x_nodeTag, x_completeCount, x_openNode, x_openSlot, x_openNames, x_openNext, x_openComma, x_output)) : ∃ f, wX_closeRecord_32 Q (nI d) (nI r) x_length x_nodeCount x_bound x_fault x_faultPlace x_mode x_at x_tokenStart x_textCount x_escaped x_valueSlot x_valueName x_depth x_outputLength x_text x_typeKind x_typeDetail x_typeLeast x_typeMost x_fieldCount x_fieldName x_fieldType x_fieldNeeded x_tagType x_nodeKind x_nodeValue x_nodeParent x_nodeName x_nodeSlot x_nodeStart x_nodeTag x_completeCount x_openNode x_openSlot x_openNames x_openNext x_openComma x_output f (nI m) := by
  have er : (nI r).toNatClampNeg = r := nI_clamp (by omega)
  have ed : (nI d).toNatClampNeg = d := nI_clamp (by omega)
  have en : (nI n).toNatClampNeg = n := nI_clamp (by omega)
  have ir : vp_in (nI r) 12 := vp_in_nI hr (by decide)
  refine ⟨0 + 1, And.intro ir (br_t ?_ ⟨vp_in_nI hd (by decide), ?_⟩)⟩
  · rw [er, hm]; exact nI_le (Nat.le_refl _) (by omega)
  · rw [ed, eo, en, er]
    exact ⟨vp_in_nI hn (by decide), fun z => ⟨ir, ir, nm_e (h1 z)⟩, h0⟩
end
section
variable {y_length y_parts y_bad y_nodes y_fault y_place y_bound y_nextName y_wantsName y_wantsTag y_printed y_waiting y_scaled : Int32} {y_sort y_typeA y_typeB y_typeC y_fieldName y_fieldType y_fields y_tags y_needed y_text y_begin y_end y_inside y_whole y_kind y_value y_parent y_name y_slotOf y_placeOf y_complete y_openNode y_openType y_openCount y_openNames y_openChoice y_output y_todo : Nat → Int32} {d r m M k : Nat} {Q : SY → Prop}
theorem yr_go (hd : d < 6) (hr : r < 12) (hm4 : m ≤ 4) (hm : y_fields r = nI m) (hM : M < 64) (eM : y_openNames d = nI M) (hf : ∀ i, i < m → ∃ j, j < 6 ∧ y_fieldName (4 * r + i) = nI j) : ∀ (q i e : Nat), i + q = e → e ≤ m → (∀ j, i ≤ j → j < e → ¬ ms_F y_fieldName y_needed r M j) →
    (∃ f, wY_closeRecord_36 Q (nI k) (nI d) (nI r) f (nI (4 * r + e)) y_length y_parts y_bad y_nodes y_fault y_place y_bound (nI (d + 1)) y_nextName y_wantsName y_wantsTag y_printed y_waiting y_scaled y_sort y_typeA y_typeB y_typeC y_fieldName y_fieldType y_fields y_tags y_needed y_text y_begin y_end y_inside y_whole y_kind y_value y_parent y_name y_slotOf y_placeOf y_complete y_openNode y_openType y_openCount y_openNames y_openChoice y_output y_todo) → ∃ f, wY_closeRecord_36 Q (nI k) (nI d) (nI r) f (nI (4 * r + i)) y_length y_parts y_bad y_nodes y_fault y_place y_bound (nI (d + 1)) y_nextName y_wantsName y_wantsTag y_printed y_waiting y_scaled y_sort y_typeA y_typeB y_typeC y_fieldName y_fieldType y_fields y_tags y_needed y_text y_begin y_end y_inside y_whole y_kind y_value y_parent y_name y_slotOf y_placeOf y_complete y_openNode y_openType y_openCount y_openNames y_openChoice y_output y_todo := by
  intro q
  induction q with
  | zero =>
    intro i e h1 h2 h3 h
    have : i = e := by omega
    subst this; exact h
  | succ q ih =>
    intro i e h1 h2 h3 h
    obtain ⟨f, hw⟩ := ih (i + 1) e (by omega) h2 (fun j a b => h3 j (by omega) b) h
    have er : (nI r).toNatClampNeg = r := nI_clamp (by omega)
    have ed : (nI d).toNatClampNeg = d := nI_clamp (by omega)
    have e4 : (4 : Int32) * nI r + nI m = nI (4 * r + m) := by
      show nI 4 * nI r + nI m = _
      rw [pk_mul, nI_add]
    have ee : (nI (4 * r + i)).toNatClampNeg = 4 * r + i := nI_clamp (by omega)
    have i48 : vp_in (nI (4 * r + i)) 48 := vp_in_nI (by omega) (by decide)
    refine ⟨f + 1, And.intro (vp_in_nI hr (by decide)) (br_f ?_ ⟨i48, ?_⟩)⟩
    · rw [er, hm, e4]; exact nI_ge (by omega) (by omega)
    · rw [ee]
      by_cases z : y_needed (4 * r + i) = 0
      · exact br_t z (nm_r (nI_1 _) hw)
      · obtain ⟨j, hj, ej⟩ := hf i (by omega)
        refine br_f z ⟨vp_in_nI (by omega) (by decide), i48, ?_⟩
        rw [ed, eM, ej]
        refine br_f (fun w => ?_) (nm_r (nI_1 _) hw)
        exact h3 i (by omega) (by omega) ⟨z, j, hj, ej, (bt_y0 M hM j hj).mp w⟩
theorem yr_end (hd : d < 6) (hr : r < 12) (hm4 : m ≤ 4) (hm : y_fields r = nI m) (h1 : ¬ 0 ≤ y_openChoice d → Q (y_length, y_parts, y_bad, y_nodes, y_fault, y_place, y_bound, nI d, y_nextName, y_wantsName, y_wantsTag, y_printed, y_waiting, y_scaled, y_sort, y_typeA, y_typeB, y_typeC, y_fieldName, y_fieldType, y_fields, y_tags, y_needed, y_text, y_begin, y_end, y_inside, y_whole, y_kind, y_value, y_parent, y_name, y_slotOf, y_placeOf, upd y_complete r (y_complete r + 1), y_openNode, y_openType, y_openCount, y_openNames, y_openChoice, y_output, y_todo)) (h0 : 0 ≤ y_openChoice d → Q (y_length, y_parts, y_bad, y_nodes, y_fault, y_place, y_bound, nI d, y_nextName, y_wantsName, y_wantsTag, y_printed, y_waiting, y_scaled, y_sort, y_typeA, y_typeB, y_typeC, y_fieldName, y_fieldType, y_fields, y_tags, y_needed, y_text, y_begin, y_end, y_inside, y_whole, y_kind, y_value, y_parent, y_name, y_slotOf, y_placeOf, y_complete, y_openNode, y_openType, y_openCount, y_openNames, y_openChoice, y_output, y_todo)) : ∃ f, wY_closeRecord_36 Q (nI k) (nI d) (nI r) f (nI (4 * r + m)) y_length y_parts y_bad y_nodes y_fault y_place y_bound (nI (d + 1)) y_nextName y_wantsName y_wantsTag y_printed y_waiting y_scaled y_sort y_typeA y_typeB y_typeC y_fieldName y_fieldType y_fields y_tags y_needed y_text y_begin y_end y_inside y_whole y_kind y_value y_parent y_name y_slotOf y_placeOf y_complete y_openNode y_openType y_openCount y_openNames y_openChoice y_output y_todo := by
  have er : (nI r).toNatClampNeg = r := nI_clamp (by omega)
  have ed : (nI d).toNatClampNeg = d := nI_clamp (by omega)
  have ir : vp_in (nI r) 12 := vp_in_nI hr (by decide)
  have e4 : (4 : Int32) * nI r + nI m = nI (4 * r + m) := by
    show nI 4 * nI r + nI m = _
    rw [pk_mul, nI_add]
  refine ⟨0 + 1, And.intro ir (br_t ?_ ⟨vp_in_nI (by omega) (by decide), ?_⟩)⟩
  · rw [er, hm, e4]; exact nI_le (Nat.le_refl _) (by omega)
  · rw [ed, er]
    exact ⟨fun z => nm_r (nI_pred d) (h0 z), fun z => ⟨ir, ir, nm_e (nm_r (nI_pred d) (h1 z))⟩⟩
/-- with a fault already -/
theorem yr_f (hd : d < 6) (hr : r < 12) (hm4 : m ≤ 4) (hk : k < 96) (hm : y_fields r = nI m) (hF : ¬ y_fault = 0) : ∀ (q i : Nat), i + q = m → (∃ f, wY_closeRecord_36 Q (nI k) (nI d) (nI r) f (nI (4 * r + m)) y_length y_parts y_bad y_nodes y_fault y_place y_bound (nI (d + 1)) y_nextName y_wantsName y_wantsTag y_printed y_waiting y_scaled y_sort y_typeA y_typeB y_typeC y_fieldName y_fieldType y_fields y_tags y_needed y_text y_begin y_end y_inside y_whole y_kind y_value y_parent y_name y_slotOf y_placeOf y_complete y_openNode y_openType y_openCount y_openNames y_openChoice y_output y_todo) → ∃ f, wY_closeRecord_36 Q (nI k) (nI d) (nI r) f (nI (4 * r + i)) y_length y_parts y_bad y_nodes y_fault y_place y_bound (nI (d + 1)) y_nextName y_wantsName y_wantsTag y_printed y_waiting y_scaled y_sort y_typeA y_typeB y_typeC y_fieldName y_fieldType y_fields y_tags y_needed y_text y_begin y_end y_inside y_whole y_kind y_value y_parent y_name y_slotOf y_placeOf y_complete y_openNode y_openType y_openCount y_openNames y_openChoice y_output y_todo := by
  intro q
  induction q with
  | zero =>
    intro i h1 h
    have : i = m := by omega
    subst this; exact h
  | succ q ih =>
    intro i h1 h
    obtain ⟨f, hw⟩ := ih (i + 1) (by omega) h
    have er : (nI r).toNatClampNeg = r := nI_clamp (by omega)
    have e4 : (4 : Int32) * nI r + nI m = nI (4 * r + m) := by
      show nI 4 * nI r + nI m = _
      rw [pk_mul, nI_add]
    have ee : (nI (4 * r + i)).toNatClampNeg = 4 * r + i := nI_clamp (by omega)
    have i48 : vp_in (nI (4 * r + i)) 48 := vp_in_nI (by omega) (by decide)
    refine ⟨f + 1, And.intro (vp_in_nI hr (by decide)) (br_f ?_ ⟨i48, br_c (fun _ => nm_r (nI_1 _) hw) (fun _ => ⟨vp_in_nI (by omega) (by decide), i48, br_c (fun _ => ⟨vp_in_nI hk (by decide), br_f hF (nm_r (nI_1 _) hw)⟩) (fun _ => nm_r (nI_1 _) hw)⟩)⟩)⟩
    rw [er, hm, e4]; exact nI_ge (by omega) (by omega)
end
section
variable {y_length y_parts y_bad y_nodes y_place y_bound y_nextName y_wantsName y_wantsTag y_printed y_waiting y_scaled : Int32} {y_sort y_typeA y_typeB y_typeC y_fieldName y_fieldType y_fields y_tags y_needed y_text y_begin y_end y_inside y_whole y_kind y_value y_parent y_name y_slotOf y_placeOf y_complete y_openNode y_openType y_openCount y_openNames y_openChoice y_output y_todo : Nat → Int32} {d r m M k b : Nat} {Q : SY → Prop}
theorem yr_miss (hd : d < 6) (hr : r < 12) (hm4 : m ≤ 4) (hk : k < 96) (hm : y_fields r = nI m) (hM : M < 64) (eM : y_openNames d = nI M) (eb : y_begin k = nI b) {i : Nat} (hi : i < m) (h : ms_F y_fieldName y_needed r M i) (h1 : ¬ 0 ≤ y_openChoice d → Q (y_length, y_parts, y_bad, y_nodes, 8, nI b, y_bound, nI d, y_nextName, y_wantsName, y_wantsTag, y_printed, y_waiting, y_scaled, y_sort, y_typeA, y_typeB, y_typeC, y_fieldName, y_fieldType, y_fields, y_tags, y_needed, y_text, y_begin, y_end, y_inside, y_whole, y_kind, y_value, y_parent, y_name, y_slotOf, y_placeOf, upd y_complete r (y_complete r + 1), y_openNode, y_openType, y_openCount, y_openNames, y_openChoice, y_output, y_todo)) (h0 : 0 ≤ y_openChoice d → Q (y_length, y_parts, y_bad, y_nodes, 8, nI b, y_bound, nI d, y_nextName, y_wantsName, y_wantsTag, y_printed, y_waiting, y_scaled, y_sort, y_typeA, y_typeB, y_typeC, y_fieldName, y_fieldType, y_fields, y_tags, y_needed, y_text, y_begin, y_end, y_inside, y_whole, y_kind, y_value, y_parent, y_name, y_slotOf, y_placeOf, y_complete, y_openNode, y_openType, y_openCount, y_openNames, y_openChoice, y_output, y_todo)) : ∃ f, wY_closeRecord_36 Q (nI k) (nI d) (nI r) f (nI (4 * r + i)) y_length y_parts y_bad y_nodes 0 y_place y_bound (nI (d + 1)) y_nextName y_wantsName y_wantsTag y_printed y_waiting y_scaled y_sort y_typeA y_typeB y_typeC y_fieldName y_fieldType y_fields y_tags y_needed y_text y_begin y_end y_inside y_whole y_kind y_value y_parent y_name y_slotOf y_placeOf y_complete y_openNode y_openType y_openCount y_openNames y_openChoice y_output y_todo := by
  have er : (nI r).toNatClampNeg = r := nI_clamp (by omega)
  have ed : (nI d).toNatClampNeg = d := nI_clamp (by omega)
  have ek : (nI k).toNatClampNeg = k := nI_clamp (by omega)
  have e4 : (4 : Int32) * nI r + nI m = nI (4 * r + m) := by
    show nI 4 * nI r + nI m = _
    rw [pk_mul, nI_add]
  have ee : (nI (4 * r + i)).toNatClampNeg = 4 * r + i := nI_clamp (by omega)
  have i48 : vp_in (nI (4 * r + i)) 48 := vp_in_nI (by omega) (by decide)
  obtain ⟨z, j, hj, ej, hb⟩ := h
  obtain ⟨f, hw⟩ := yr_f (k := k) (Q := Q) (y_length := y_length) (y_parts := y_parts) (y_bad := y_bad) (y_nodes := y_nodes) (y_fault := 8) (y_place := nI b) (y_bound := y_bound) (y_nextName := y_nextName) (y_wantsName := y_wantsName) (y_wantsTag := y_wantsTag) (y_printed := y_printed) (y_waiting := y_waiting) (y_scaled := y_scaled) (y_sort := y_sort) (y_typeA := y_typeA) (y_typeB := y_typeB) (y_typeC := y_typeC) (y_fieldName := y_fieldName) (y_fieldType := y_fieldType) (y_fields := y_fields) (y_tags := y_tags) (y_needed := y_needed) (y_text := y_text) (y_begin := y_begin) (y_end := y_end) (y_inside := y_inside) (y_whole := y_whole) (y_kind := y_kind) (y_value := y_value) (y_parent := y_parent) (y_name := y_name) (y_slotOf := y_slotOf) (y_placeOf := y_placeOf) (y_complete := y_complete) (y_openNode := y_openNode) (y_openType := y_openType) (y_openCount := y_openCount) (y_openNames := y_openNames) (y_openChoice := y_openChoice) (y_output := y_output) (y_todo := y_todo) hd hr hm4 hk hm (by decide) (m - (i + 1)) (i + 1) (by omega) (yr_end hd hr hm4 hm h1 h0)
  refine ⟨f + 1, And.intro (vp_in_nI hr (by decide)) (br_f ?_ ⟨i48, ?_⟩)⟩
  · rw [er, hm, e4]; exact nI_ge (by omega) (by omega)
  · rw [ee]
    refine br_f z ⟨vp_in_nI (by omega) (by decide), i48, ?_⟩
    rw [ed, eM, ej]
    refine br_t ((bt_y0 M hM j hj).mpr hb) ⟨vp_in_nI hk (by decide), br_t rfl ?_⟩
    rw [ek, eb]
    exact nm_r (nI_1 _) hw
end
section
variable {x_bound x_at x_tokenStart x_textCount x_escaped x_valueSlot x_valueName x_outputLength : Int32} {x_text x_typeKind x_typeDetail x_typeLeast x_typeMost x_fieldCount x_fieldName x_fieldType x_fieldNeeded x_tagType x_nodeKind x_nodeValue x_nodeParent x_nodeName x_nodeSlot x_nodeStart x_nodeTag x_completeCount x_openNode x_openSlot x_openNames x_openNext x_openComma x_output : Nat → Int32} {y_bad y_nextName y_wantsName y_wantsTag y_waiting y_scaled : Int32} {y_typeA y_typeB y_typeC y_fields y_tags y_begin y_end y_inside y_whole y_kind y_value y_parent y_name y_slotOf y_placeOf y_complete y_openNode y_openType y_openCount y_openNames y_openChoice y_todo : Nat → Int32} {L P k p x d N : Nat} {g : Nat → Int32} {dp : Nat → Nat} {slot : Int32}
theorem st_cr (hT : rl_T L x_text x_typeKind x_typeDetail x_typeLeast x_typeMost x_fieldCount x_fieldName x_fieldType x_fieldNeeded x_tagType y_typeA y_typeB y_typeC y_fields y_tags) (hx25 : x = 2 ∨ x = 5) (F : br_F slot L k p x (d + 1) N g x_text x_typeKind x_fieldCount x_fieldName x_fieldType y_begin y_end x_nodeKind x_nodeValue x_nodeParent x_nodeName x_nodeSlot x_nodeStart x_nodeTag x_completeCount x_openNode x_openSlot x_openNames x_valueSlot x_valueName dp y_kind y_value y_parent y_name y_slotOf y_placeOf y_complete y_openNode y_openType y_openCount y_openNames y_openChoice y_nextName y_wantsName y_wantsTag) (hk : k < P) (hP : P ≤ 96) {b : Nat} (hb : sp_S x_text p b) (hbL : b < L) (hpL : p ≤ L) (eb : y_begin k = nI b) (c : x_text b = 11) (hg : g (d + 1) = 10)
    (H : ∀ (a : Int32) (cc cy : Nat → Int32), br_F slot L (k + 1) (b + 1) 5 d N g x_text x_typeKind x_fieldCount x_fieldName x_fieldType y_begin y_end x_nodeKind x_nodeValue x_nodeParent x_nodeName x_nodeSlot x_nodeStart x_nodeTag cc x_openNode x_openSlot x_openNames x_valueSlot x_valueName dp y_kind y_value y_parent y_name y_slotOf y_placeOf cy y_openNode y_openType y_openCount y_openNames y_openChoice y_nextName y_wantsName y_wantsTag → bo_O slot (b + 1) (k + 1) (nI L, nI N, x_bound, 0, -1, md_x 5, a, x_tokenStart, x_textCount, x_escaped, x_valueSlot, x_valueName, nI d, x_outputLength, x_text, x_typeKind, x_typeDetail, x_typeLeast, x_typeMost, x_fieldCount, x_fieldName, x_fieldType, x_fieldNeeded, x_tagType, x_nodeKind, x_nodeValue, x_nodeParent, x_nodeName, x_nodeSlot, x_nodeStart, x_nodeTag, cc, x_openNode, x_openSlot, x_openNames, x_openNext, x_openComma, x_output) (nI L, nI P, y_bad, nI N, 0, -1, 0, nI d, y_nextName, y_wantsName, y_wantsTag, x_outputLength, y_waiting, y_scaled, x_typeKind, y_typeA, y_typeB, y_typeC, x_fieldName, x_fieldType, y_fields, y_tags, x_fieldNeeded, x_text, y_begin, y_end, y_inside, y_whole, y_kind, y_value, y_parent, y_name, y_slotOf, y_placeOf, cy, y_openNode, y_openType, y_openCount, y_openNames, y_openChoice, x_output, y_todo)) : bo_O slot p k (nI L, nI N, x_bound, 0, -1, md_x x, x_at, x_tokenStart, x_textCount, x_escaped, x_valueSlot, x_valueName, nI (d + 1), x_outputLength, x_text, x_typeKind, x_typeDetail, x_typeLeast, x_typeMost, x_fieldCount, x_fieldName, x_fieldType, x_fieldNeeded, x_tagType, x_nodeKind, x_nodeValue, x_nodeParent, x_nodeName, x_nodeSlot, x_nodeStart, x_nodeTag, x_completeCount, x_openNode, x_openSlot, x_openNames, x_openNext, x_openComma, x_output) (nI L, nI P, y_bad, nI N, 0, -1, 0, nI (d + 1), y_nextName, y_wantsName, y_wantsTag, x_outputLength, y_waiting, y_scaled, x_typeKind, y_typeA, y_typeB, y_typeC, x_fieldName, x_fieldType, y_fields, y_tags, x_fieldNeeded, x_text, y_begin, y_end, y_inside, y_whole, y_kind, y_value, y_parent, y_name, y_slotOf, y_placeOf, y_complete, y_openNode, y_openType, y_openCount, y_openNames, y_openChoice, x_output, y_todo) := by
  have hL := hT.1
  obtain ⟨⟨e1, e2, e3, e4, e5, e6⟩, hA, hd6, hlv, hc, hbg, hx⟩ := F
  have hN := hA.1
  have bg' := bg_s hbg (by omega) hb.1 (by omega : b < b + 1) (by omega) eb
  have ed : (nI d).toNatClampNeg = d := nI_clamp (by omega)
  have ek : (nI k).toNatClampNeg = k := nI_clamp (by omega)
  obtain ⟨n, s, hn, hs, eo, eo', -, et, -, K⟩ := hlv d (by omega)
  rcases K with ⟨g1, -⟩ | ⟨g1, k1, eM', ⟨M, hM, eM, -⟩, K⟩
  · rw [hg] at g1; exact absurd g1 (by decide)
  have wt0 : y_wantsTag = 0 := by
    rcases hx with w | w | w | w | w | w | w | w | w | w
    all_goals first | exact (w.2.2 (by omega)).1 | exact w.2.2.2.2.1 | (have := w.1; omega)
  have X1 : ∀ Q : SX → Prop, wpX_closeRecord Q (nI L, nI N, x_bound, 0, -1, md_x x, nI b, x_tokenStart, x_textCount, x_escaped, x_valueSlot, x_valueName, nI (d + 1), x_outputLength, x_text, x_typeKind, x_typeDetail, x_typeLeast, x_typeMost, x_fieldCount, x_fieldName, x_fieldType, x_fieldNeeded, x_tagType, x_nodeKind, x_nodeValue, x_nodeParent, x_nodeName, x_nodeSlot, x_nodeStart, x_nodeTag, x_completeCount, x_openNode, x_openSlot, x_openNames, x_openNext, x_openComma, x_output) → wpX_readCharacter Q (nI L, nI N, x_bound, 0, -1, md_x x, nI b, x_tokenStart, x_textCount, x_escaped, x_valueSlot, x_valueName, nI (d + 1), x_outputLength, x_text, x_typeKind, x_typeDetail, x_typeLeast, x_typeMost, x_fieldCount, x_fieldName, x_fieldType, x_fieldNeeded, x_tagType, x_nodeKind, x_nodeValue, x_nodeParent, x_nodeName, x_nodeSlot, x_nodeStart, x_nodeTag, x_completeCount, x_openNode, x_openSlot, x_openNames, x_openNext, x_openComma, x_output) (x_text b) := by
    intro Q q
    rw [c]
    rcases hx25 with rfl | rfl
    · exact rc_cr3 q
    · exact rc_bm (by decide) (nI_nle (by omega) (by omega)) (bm_rr (by omega) (by omega) eo (by rw [k1]; decide) q)
  have Y1 : ∀ Q : SY → Prop, wpY_closeRecord Q (nI L, nI P, y_bad, nI N, 0, -1, 0, nI (d + 1), y_nextName, y_wantsName, y_wantsTag, x_outputLength, y_waiting, y_scaled, x_typeKind, y_typeA, y_typeB, y_typeC, x_fieldName, x_fieldType, y_fields, y_tags, x_fieldNeeded, x_text, y_begin, y_end, y_inside, y_whole, y_kind, y_value, y_parent, y_name, y_slotOf, y_placeOf, y_complete, y_openNode, y_openType, y_openCount, y_openNames, y_openChoice, x_output, y_todo) (nI k) → wpY_part Q (nI L, nI P, y_bad, nI N, 0, -1, 0, nI (d + 1), y_nextName, y_wantsName, y_wantsTag, x_outputLength, y_waiting, y_scaled, x_typeKind, y_typeA, y_typeB, y_typeC, x_fieldName, x_fieldType, y_fields, y_tags, x_fieldNeeded, x_text, y_begin, y_end, y_inside, y_whole, y_kind, y_value, y_parent, y_name, y_slotOf, y_placeOf, y_complete, y_openNode, y_openType, y_openCount, y_openNames, y_openChoice, x_output, y_todo) (nI k) slot := by
    intro Q q
    refine yp_in (d := d + 1) (by omega) (by omega) eb ?_
    refine br_f (nI_ne0 (by omega) (by omega)) ?_
    rw [c]
    exact br_f (by decide) (br_t rfl q)
  -- the record whose fields stand
  have main : ∀ r, r < 12 → x_openSlot d = nI r → x_typeKind r = 5 → (x_nodeTag n = -1 ↔ ¬ 0 ≤ y_openChoice d) → bo_O slot p k (nI L, nI N, x_bound, 0, -1, md_x x, x_at, x_tokenStart, x_textCount, x_escaped, x_valueSlot, x_valueName, nI (d + 1), x_outputLength, x_text, x_typeKind, x_typeDetail, x_typeLeast, x_typeMost, x_fieldCount, x_fieldName, x_fieldType, x_fieldNeeded, x_tagType, x_nodeKind, x_nodeValue, x_nodeParent, x_nodeName, x_nodeSlot, x_nodeStart, x_nodeTag, x_completeCount, x_openNode, x_openSlot, x_openNames, x_openNext, x_openComma, x_output) (nI L, nI P, y_bad, nI N, 0, -1, 0, nI (d + 1), y_nextName, y_wantsName, y_wantsTag, x_outputLength, y_waiting, y_scaled, x_typeKind, y_typeA, y_typeB, y_typeC, x_fieldName, x_fieldType, y_fields, y_tags, x_fieldNeeded, x_text, y_begin, y_end, y_inside, y_whole, y_kind, y_value, y_parent, y_name, y_slotOf, y_placeOf, y_complete, y_openNode, y_openType, y_openCount, y_openNames, y_openChoice, x_output, y_todo) := by
    intro r hr er so5 tgs
    have erc : (nI r).toNatClampNeg = r := nI_clamp (by omega)
    obtain ⟨eF, m, hm4, hm, hfs, -⟩ := (hT.2.2 r hr).2.2.2.2.1 so5
    have hmY : y_fields r = nI m := eF.trans hm
    have hf : ∀ i, i < m → ∃ j, j < 6 ∧ x_fieldName (4 * r + i) = nI j := fun i hi => by
      obtain ⟨a, b', c', h1, h2, h3, h4, h5, h6⟩ := hfs i hi
      exact ⟨a, h1, h4⟩
    have X2 : ∀ Q : SX → Prop, (∃ f, wX_closeRecord_32 Q (nI d) (nI r) (nI L) (nI N) x_bound 0 (-1) (md_x x) (nI b) x_tokenStart x_textCount x_escaped x_valueSlot x_valueName (nI (d + 1)) x_outputLength x_text x_typeKind x_typeDetail x_typeLeast x_typeMost x_fieldCount x_fieldName x_fieldType x_fieldNeeded x_tagType x_nodeKind x_nodeValue x_nodeParent x_nodeName x_nodeSlot x_nodeStart x_nodeTag x_completeCount x_openNode x_openSlot x_openNames x_openNext x_openComma x_output f (nI 0)) → wpX_closeRecord Q (nI L, nI N, x_bound, 0, -1, md_x x, nI b, x_tokenStart, x_textCount, x_escaped, x_valueSlot, x_valueName, nI (d + 1), x_outputLength, x_text, x_typeKind, x_typeDetail, x_typeLeast, x_typeMost, x_fieldCount, x_fieldName, x_fieldType, x_fieldNeeded, x_tagType, x_nodeKind, x_nodeValue, x_nodeParent, x_nodeName, x_nodeSlot, x_nodeStart, x_nodeTag, x_completeCount, x_openNode, x_openSlot, x_openNames, x_openNext, x_openComma, x_output) := by
      intro Q q
      refine nm_r (nI_pred d) ⟨vp_in_nI (by omega) (by decide), ?_⟩
      rw [ed]
      exact nm_r er (br_f (hh_m1 (by omega)) q)
    have Y2 : ∀ Q : SY → Prop, (∃ f, wY_closeRecord_36 Q (nI k) (nI d) (nI r) f (nI (4 * r + 0)) (nI L) (nI P) y_bad (nI N) 0 (-1) 0 (nI (d + 1)) y_nextName y_wantsName y_wantsTag x_outputLength y_waiting y_scaled x_typeKind y_typeA y_typeB y_typeC x_fieldName x_fieldType y_fields y_tags x_fieldNeeded x_text y_begin y_end y_inside y_whole y_kind y_value y_parent y_name y_slotOf y_placeOf y_complete y_openNode y_openType y_openCount y_openNames y_openChoice x_output y_todo) → wpY_closeRecord Q (nI L, nI P, y_bad, nI N, 0, -1, 0, nI (d + 1), y_nextName, y_wantsName, y_wantsTag, x_outputLength, y_waiting, y_scaled, x_typeKind, y_typeA, y_typeB, y_typeC, x_fieldName, x_fieldType, y_fields, y_tags, x_fieldNeeded, x_text, y_begin, y_end, y_inside, y_whole, y_kind, y_value, y_parent, y_name, y_slotOf, y_placeOf, y_complete, y_openNode, y_openType, y_openCount, y_openNames, y_openChoice, x_output, y_todo) (nI k) := by
      intro Q q
      refine nm_r (nI_pred d) ⟨vp_in_nI (by omega) (by decide), ?_⟩
      rw [ed]
      refine nm_r (et.trans er) (br_t (nI_pos' (by omega)) (nm_r ?_ q))
      show nI 4 * nI r = _
      rw [pk_mul]; rfl
    have nos : ¬ x_openSlot d = -1 := by rw [er]; exact hh_m1 (by omega)
    by_cases ms : ∃ i, i < m ∧ ms_F x_fieldName x_fieldNeeded r M i
    · obtain ⟨i, ⟨hi, hmi⟩, hfirst⟩ := pk_least _ ms
      have nom : ∀ j, 0 ≤ j → j < i → ¬ ms_F x_fieldName x_fieldNeeded r M j := fun j _ hj w => hfirst j hj ⟨by omega, w⟩
      by_cases z0 : 0 ≤ y_openChoice d
      · exact st_1f (d := d + 1) hT hk hP hb hbL (f := 8) (z := nI b) (by decide) (fun Q q => X1 Q (X2 Q (xr_go (by omega) hr hm4 hm hM eM hf i 0 i (by omega) (by omega) nom (xr_miss (by omega) hr hm4 hm hM eM hi hmi q)))) (fun Q q => Y1 Q (Y2 Q (yr_go (by omega) hr hm4 hmY hM (eM'.trans eM) hf i 0 i (by omega) (by omega) nom (yr_miss (by omega) hr hm4 (by omega) hmY hM (eM'.trans eM) eb hi hmi (fun z => absurd z0 z) (fun _ => q)))))
      · exact st_1f (d := d + 1) hT hk hP hb hbL (f := 8) (z := nI b) (by decide) (fun Q q => X1 Q (X2 Q (xr_go (by omega) hr hm4 hm hM eM hf i 0 i (by omega) (by omega) nom (xr_miss (by omega) hr hm4 hm hM eM hi hmi q)))) (fun Q q => Y1 Q (Y2 Q (yr_go (by omega) hr hm4 hmY hM (eM'.trans eM) hf i 0 i (by omega) (by omega) nom (yr_miss (by omega) hr hm4 (by omega) hmY hM (eM'.trans eM) eb hi hmi (fun _ => q) (fun z => absurd z z0)))))
    · have nom : ∀ j, 0 ≤ j → j < m → ¬ ms_F x_fieldName x_fieldNeeded r M j := fun j _ hj w => ms ⟨j, hj, w⟩
      have Fx : ∀ cc cy : Nat → Int32, cm_F x_typeKind cc cy (k + 1) → br_F slot L (k + 1) (b + 1) 5 d N g x_text x_typeKind x_fieldCount x_fieldName x_fieldType y_begin y_end x_nodeKind x_nodeValue x_nodeParent x_nodeName x_nodeSlot x_nodeStart x_nodeTag cc x_openNode x_openSlot x_openNames x_valueSlot x_valueName dp y_kind y_value y_parent y_name y_slotOf y_placeOf cy y_openNode y_openType y_openCount y_openNames y_openChoice y_nextName y_wantsName y_wantsTag := by
        intro cc cy hcm
        refine ⟨⟨e1, e2, e3, e4, e5, e6⟩, nd_op hA (fun i z => absurd z.2.2 nos), by omega, fun l hl => lv_up (hlv l (by omega)) (lv_ne (hlv l (by omega)) (by omega)) d, hcm, bg', ?_⟩
        exact Or.inr (Or.inr (Or.inr (Or.inr (Or.inr (Or.inr (Or.inr (Or.inr (Or.inr ⟨rfl, by omega, fun hd0 => ⟨wt0, lv_ne (hlv (d - 1) (by omega)) (by omega)⟩⟩))))))))
      by_cases tg : x_nodeTag n = -1
      · have cmn : cm_F x_typeKind (upd x_completeCount r (x_completeCount r + 1)) (upd y_complete r (y_complete r + 1)) (k + 1) := by
          intro s' hs'
          obtain ⟨a1, ⟨c1, h1, h2⟩, a2⟩ := hc s' hs'
          by_cases z : s' = r
          · subst z
            rw [pk_us, pk_us]
            exact ⟨by rw [a1], ⟨c1 + 1, by omega, by rw [h2, nI_1]⟩, fun w => absurd so5 w⟩
          · rw [pk_un z, pk_un z]
            exact ⟨a1, ⟨c1, by omega, h2⟩, a2⟩
        exact st_1 (d := d + 1) hL hk hP hb hbL (u' := (nI L, nI N, x_bound, 0, -1, md_x 5, nI b, x_tokenStart, x_textCount, x_escaped, x_valueSlot, x_valueName, nI d, x_outputLength, x_text, x_typeKind, x_typeDetail, x_typeLeast, x_typeMost, x_fieldCount, x_fieldName, x_fieldType, x_fieldNeeded, x_tagType, x_nodeKind, x_nodeValue, x_nodeParent, x_nodeName, x_nodeSlot, x_nodeStart, x_nodeTag, upd x_completeCount r (x_completeCount r + 1), x_openNode, x_openSlot, x_openNames, x_openNext, x_openComma, x_output)) (v' := (nI L, nI P, y_bad, nI N, 0, -1, 0, nI d, y_nextName, y_wantsName, y_wantsTag, x_outputLength, y_waiting, y_scaled, x_typeKind, y_typeA, y_typeB, y_typeC, x_fieldName, x_fieldType, y_fields, y_tags, x_fieldNeeded, x_text, y_begin, y_end, y_inside, y_whole, y_kind, y_value, y_parent, y_name, y_slotOf, y_placeOf, upd y_complete r (y_complete r + 1), y_openNode, y_openType, y_openCount, y_openNames, y_openChoice, x_output, y_todo)) (fun Q q => X1 Q (X2 Q (xr_go (by omega) hr hm4 hm hM eM hf m 0 m (by omega) (by omega) nom (xr_end (by omega) hr hm4 hm (by omega) eo (fun _ => q) (fun z => absurd tg z))))) (fun Q q => Y1 Q (Y2 Q (yr_go (by omega) hr hm4 hmY hM (eM'.trans eM) hf m 0 m (by omega) (by omega) nom (yr_end (by omega) hr hm4 hmY (fun _ => q) (fun z => absurd z (tgs.mp tg)))))) (H _ _ _ (Fx _ _ cmn))
      · exact st_1 (d := d + 1) hL hk hP hb hbL (u' := (nI L, nI N, x_bound, 0, -1, md_x 5, nI b, x_tokenStart, x_textCount, x_escaped, x_valueSlot, x_valueName, nI d, x_outputLength, x_text, x_typeKind, x_typeDetail, x_typeLeast, x_typeMost, x_fieldCount, x_fieldName, x_fieldType, x_fieldNeeded, x_tagType, x_nodeKind, x_nodeValue, x_nodeParent, x_nodeName, x_nodeSlot, x_nodeStart, x_nodeTag, x_completeCount, x_openNode, x_openSlot, x_openNames, x_openNext, x_openComma, x_output)) (v' := (nI L, nI P, y_bad, nI N, 0, -1, 0, nI d, y_nextName, y_wantsName, y_wantsTag, x_outputLength, y_waiting, y_scaled, x_typeKind, y_typeA, y_typeB, y_typeC, x_fieldName, x_fieldType, y_fields, y_tags, x_fieldNeeded, x_text, y_begin, y_end, y_inside, y_whole, y_kind, y_value, y_parent, y_name, y_slotOf, y_placeOf, y_complete, y_openNode, y_openType, y_openCount, y_openNames, y_openChoice, x_output, y_todo)) (fun Q q => X1 Q (X2 Q (xr_go (by omega) hr hm4 hm hM eM hf m 0 m (by omega) (by omega) nom (xr_end (by omega) hr hm4 hm (by omega) eo (fun z => absurd z tg) (fun _ => q))))) (fun Q q => Y1 Q (Y2 Q (yr_go (by omega) hr hm4 hmY hM (eM'.trans eM) hf m 0 m (by omega) (by omega) nom (yr_end (by omega) hr hm4 hmY (fun z => absurd (tgs.mpr z) tg) (fun _ => q))))) (H _ _ _ (Fx _ _ (cm_s hc)))
  rcases K with ⟨so5, es, ech, etg⟩ | ⟨so6, ech, es, etg, -⟩ | ⟨so6, ech, r, q, hr, so5, es, hq, etg⟩
  · exact main s hs es so5 ⟨fun _ => by rw [ech]; decide, fun _ => etg⟩
  · have hx7 : ∀ Q : SX → Prop, Q (nI L, nI N, x_bound, 7, nI b, md_x x, nI b, x_tokenStart, x_textCount, x_escaped, x_valueSlot, x_valueName, nI (d + 1), x_outputLength, x_text, x_typeKind, x_typeDetail, x_typeLeast, x_typeMost, x_fieldCount, x_fieldName, x_fieldType, x_fieldNeeded, x_tagType, x_nodeKind, x_nodeValue, x_nodeParent, x_nodeName, x_nodeSlot, x_nodeStart, x_nodeTag, x_completeCount, x_openNode, x_openSlot, x_openNames, x_openNext, x_openComma, x_output) → wpX_closeRecord Q (nI L, nI N, x_bound, 0, -1, md_x x, nI b, x_tokenStart, x_textCount, x_escaped, x_valueSlot, x_valueName, nI (d + 1), x_outputLength, x_text, x_typeKind, x_typeDetail, x_typeLeast, x_typeMost, x_fieldCount, x_fieldName, x_fieldType, x_fieldNeeded, x_tagType, x_nodeKind, x_nodeValue, x_nodeParent, x_nodeName, x_nodeSlot, x_nodeStart, x_nodeTag, x_completeCount, x_openNode, x_openSlot, x_openNames, x_openNext, x_openComma, x_output) := by
      intro Q q
      refine nm_r (nI_pred d) ⟨vp_in_nI (by omega) (by decide), ?_⟩
      rw [ed]; exact nm_r es (br_t rfl q)
    have hy7 : ∀ Q : SY → Prop, Q (nI L, nI P, y_bad, nI N, 7, nI b, 0, nI (d + 1), y_nextName, y_wantsName, y_wantsTag, x_outputLength, y_waiting, y_scaled, x_typeKind, y_typeA, y_typeB, y_typeC, x_fieldName, x_fieldType, y_fields, y_tags, x_fieldNeeded, x_text, y_begin, y_end, y_inside, y_whole, y_kind, y_value, y_parent, y_name, y_slotOf, y_placeOf, y_complete, y_openNode, y_openType, y_openCount, y_openNames, y_openChoice, x_output, y_todo) → wpY_closeRecord Q (nI L, nI P, y_bad, nI N, 0, -1, 0, nI (d + 1), y_nextName, y_wantsName, y_wantsTag, x_outputLength, y_waiting, y_scaled, x_typeKind, y_typeA, y_typeB, y_typeC, x_fieldName, x_fieldType, y_fields, y_tags, x_fieldNeeded, x_text, y_begin, y_end, y_inside, y_whole, y_kind, y_value, y_parent, y_name, y_slotOf, y_placeOf, y_complete, y_openNode, y_openType, y_openCount, y_openNames, y_openChoice, x_output, y_todo) (nI k) := by
      intro Q q
      refine nm_r (nI_pred d) ⟨vp_in_nI (by omega) (by decide), ?_⟩
      rw [ed]
      refine nm_r (et.trans es) (br_f (by decide) ⟨vp_in_nI (by omega) (by decide), ?_⟩)
      rw [ek, eb]
      exact br_t rfl q
    exact st_1f (d := d + 1) hT hk hP hb hbL (f := 7) (z := nI b) (by decide) (fun Q q => X1 Q (hx7 Q q)) (fun Q q => Y1 Q (hy7 Q q))
  · refine main r hr es so5 ⟨fun w => ?_, fun w => absurd (by rw [ech]; exact nI_pos' (by omega)) w⟩
    rw [etg] at w; exact absurd w (hh_m1 (by omega))
end
end
section
/-! the bind: names -/
theorem lv_c {so : Nat → Int32} {N d : Nat} {g kd vl pa nm sl tg : Nat → Int32} {dp : Nat → Nat} {on os om on' ot oc om' och g2 on2 os2 om2 on2' ot2 oc2 om2' och2 : Nat → Int32} {l : Nat} (h : lv_F so N d g kd vl pa nm sl tg dp on os om on' ot oc om' och l)
    (e0 : g2 (l + 1) = g (l + 1)) (e1 : on2 l = on l) (e2 : os2 l = os l) (e3 : om2 l = om l) (e4 : on2' l = on' l) (e5 : ot2 l = ot l) (e6 : oc2 l = oc l) (e7 : om2' l = om' l) (e8 : och2 l = och l) : lv_F so N d g2 kd vl pa nm sl tg dp on2 os2 om2 on2' ot2 oc2 om2' och2 l := by
  unfold lv_F at h ⊢
  rw [e0, e1, e2, e3, e4, e5, e6, e7, e8]
  exact h
/-- the name is one letter: j -/
def gd_N (t : Nat → Int32) (b q j : Nat) : Prop := q = b + 2 ∧ j < 6 ∧ t (b + 1) - 21 = nI j
theorem gd_dec (t : Nat → Int32) (b q : Nat) : (∃ j, gd_N t b q j) ∨ (q ≠ b + 2 ∨ t (b + 1) - 21 < 0 ∨ nI 6 ≤ t (b + 1) - 21) := by
  by_cases e : q = b + 2
  · rcases pk_ix (t (b + 1) - 21) (n := 6) (by decide) with h | h | ⟨j, hj, h⟩
    · exact Or.inr (Or.inr (Or.inl h))
    · exact Or.inr (Or.inr (Or.inr h))
    · exact Or.inl ⟨j, e, hj, h⟩
  · exact Or.inr (Or.inl e)
section
variable {x_length x_nodeCount x_bound x_fault x_faultPlace x_textCount x_escaped x_valueSlot x_valueName x_outputLength : Int32} {x_text x_typeKind x_typeDetail x_typeLeast x_typeMost x_fieldCount x_fieldName x_fieldType x_fieldNeeded x_tagType x_nodeKind x_nodeValue x_nodeParent x_nodeName x_nodeSlot x_nodeStart x_nodeTag x_completeCount x_openNode x_openSlot x_openNames x_openNext x_openComma x_output : Nat → Int32} {d b q j n s r m M : Nat} {P : SX → Prop}
theorem en_in (hd : d < 6) (hq : b + 1 ≤ q) (hq2 : q < 96) (h1 : q = b + 2 → wX_endName_45 P (nI d) (x_openSlot d) (x_text (b + 1) - 21) x_length x_nodeCount x_bound x_fault x_faultPlace 6 (nI q) (nI b) x_textCount x_escaped x_valueSlot x_valueName (nI (d + 1)) x_outputLength x_text x_typeKind x_typeDetail x_typeLeast x_typeMost x_fieldCount x_fieldName x_fieldType x_fieldNeeded x_tagType x_nodeKind x_nodeValue x_nodeParent x_nodeName x_nodeSlot x_nodeStart x_nodeTag x_completeCount x_openNode x_openSlot x_openNames x_openNext x_openComma x_output) (h0 : ¬ q = b + 2 → wX_endName_45 P (nI d) (x_openSlot d) (-1) x_length x_nodeCount x_bound x_fault x_faultPlace 6 (nI q) (nI b) x_textCount x_escaped x_valueSlot x_valueName (nI (d + 1)) x_outputLength x_text x_typeKind x_typeDetail x_typeLeast x_typeMost x_fieldCount x_fieldName x_fieldType x_fieldNeeded x_tagType x_nodeKind x_nodeValue x_nodeParent x_nodeName x_nodeSlot x_nodeStart x_nodeTag x_completeCount x_openNode x_openSlot x_openNames x_openNext x_openComma x_output) : wpX_endName P (x_length, x_nodeCount, x_bound, x_fault, x_faultPlace, 6, nI q, nI b, x_textCount, x_escaped, x_valueSlot, x_valueName, nI (d + 1), x_outputLength, x_text, x_typeKind, x_typeDetail, x_typeLeast, x_typeMost, x_fieldCount, x_fieldName, x_fieldType, x_fieldNeeded, x_tagType, x_nodeKind, x_nodeValue, x_nodeParent, x_nodeName, x_nodeSlot, x_nodeStart, x_nodeTag, x_completeCount, x_openNode, x_openSlot, x_openNames, x_openNext, x_openComma, x_output) := by
  have ed : (nI d).toNatClampNeg = d := nI_clamp (by omega)
  refine nm_r (nI_pred d) ⟨vp_in_nI hd (by decide), ?_⟩
  rw [ed]
  refine nm_e ?_
  rw [pk_sub (by omega)]
  by_cases e : q = b + 2
  · subst e
    rw [show b + 2 - b = 2 from by omega]
    refine br_t rfl ?_
    rw [show nI (b + 2) - 1 = nI (b + 1) from nI_pred (b + 1), nI_clamp (by omega)]
    exact ⟨vp_in_nI (by omega) (by decide), h1 rfl⟩
  · refine br_f (fun w => ?_) (h0 e)
    have := hh_i (by omega) (by decide) (m := 2) w
    omega
theorem en_no (hd : d < 6) (hq : b + 1 ≤ q) (hq2 : q < 96) (h : q ≠ b + 2 ∨ x_text (b + 1) - 21 < 0 ∨ nI 6 ≤ x_text (b + 1) - 21) (hp : P (x_length, x_nodeCount, x_bound, 7, nI q, 5, nI q, nI b, x_textCount, x_escaped, x_valueSlot, x_valueName, nI (d + 1), x_outputLength, x_text, x_typeKind, x_typeDetail, x_typeLeast, x_typeMost, x_fieldCount, x_fieldName, x_fieldType, x_fieldNeeded, x_tagType, x_nodeKind, x_nodeValue, x_nodeParent, x_nodeName, x_nodeSlot, x_nodeStart, x_nodeTag, x_completeCount, x_openNode, x_openSlot, x_openNames, x_openNext, x_openComma, x_output)) : wpX_endName P (x_length, x_nodeCount, x_bound, x_fault, x_faultPlace, 6, nI q, nI b, x_textCount, x_escaped, x_valueSlot, x_valueName, nI (d + 1), x_outputLength, x_text, x_typeKind, x_typeDetail, x_typeLeast, x_typeMost, x_fieldCount, x_fieldName, x_fieldType, x_fieldNeeded, x_tagType, x_nodeKind, x_nodeValue, x_nodeParent, x_nodeName, x_nodeSlot, x_nodeStart, x_nodeTag, x_completeCount, x_openNode, x_openSlot, x_openNames, x_openNext, x_openComma, x_output) := by
  refine en_in hd hq hq2 (fun e => ?_) (fun _ => br_t (by decide) hp)
  by_cases z : x_text (b + 1) - 21 < 0
  · exact br_t z hp
  · have h6 := (h.resolve_left (fun w => w e)).resolve_left z
    exact br_f z (br_f (Int32.not_lt.mpr h6) hp)
theorem en_ch (hd : d < 6) (hq2 : q < 96) (hg : gd_N x_text b q j) (eo : x_openNode d = nI n) (hn : n < 40) (esl : x_nodeSlot n = nI s) (hs : s < 12) (es : x_openSlot d = -1) (h1 : nI j = x_typeDetail s → P (x_length, x_nodeCount, x_bound, x_fault, x_faultPlace, 5, nI q, nI b, x_textCount, x_escaped, x_valueSlot, x_valueName, nI (d + 1), x_outputLength, x_text, x_typeKind, x_typeDetail, x_typeLeast, x_typeMost, x_fieldCount, x_fieldName, x_fieldType, x_fieldNeeded, x_tagType, x_nodeKind, x_nodeValue, x_nodeParent, x_nodeName, x_nodeSlot, x_nodeStart, x_nodeTag, x_completeCount, x_openNode, x_openSlot, x_openNames, x_openNext, x_openComma, x_output)) (h0 : ¬ nI j = x_typeDetail s → P (x_length, x_nodeCount, x_bound, 7, nI q, 5, nI q, nI b, x_textCount, x_escaped, x_valueSlot, x_valueName, nI (d + 1), x_outputLength, x_text, x_typeKind, x_typeDetail, x_typeLeast, x_typeMost, x_fieldCount, x_fieldName, x_fieldType, x_fieldNeeded, x_tagType, x_nodeKind, x_nodeValue, x_nodeParent, x_nodeName, x_nodeSlot, x_nodeStart, x_nodeTag, x_completeCount, x_openNode, x_openSlot, x_openNames, x_openNext, x_openComma, x_output)) : wpX_endName P (x_length, x_nodeCount, x_bound, x_fault, x_faultPlace, 6, nI q, nI b, x_textCount, x_escaped, x_valueSlot, x_valueName, nI (d + 1), x_outputLength, x_text, x_typeKind, x_typeDetail, x_typeLeast, x_typeMost, x_fieldCount, x_fieldName, x_fieldType, x_fieldNeeded, x_tagType, x_nodeKind, x_nodeValue, x_nodeParent, x_nodeName, x_nodeSlot, x_nodeStart, x_nodeTag, x_completeCount, x_openNode, x_openSlot, x_openNames, x_openNext, x_openComma, x_output) := by
  obtain ⟨rfl, hj, ej⟩ := hg
  have ed : (nI d).toNatClampNeg = d := nI_clamp (by omega)
  have en : (nI n).toNatClampNeg = n := nI_clamp (by omega)
  have ess : (nI s).toNatClampNeg = s := nI_clamp (by omega)
  refine en_in hd (by omega) hq2 (fun _ => ?_) (fun e => absurd rfl e)
  rw [ej, es]
  refine br_f (nI_pos (by omega)) (br_t (nI_lt (b := 6) hj (by decide)) (br_t rfl ⟨vp_in_nI hd (by decide), ?_⟩))
  rw [ed, eo, en, esl, ess]
  exact ⟨vp_in_nI hn (by decide), vp_in_nI hs (by decide), h1, h0⟩
theorem en_rc (hd : d < 6) (hq2 : q < 96) (hg : gd_N x_text b q j) (hr : r < 12) (es : x_openSlot d = nI r) (hm4 : m ≤ 4) (hm : x_fieldCount r = nI m) (hM : M < 64) (eM : x_openNames d = nI M)
    (h0 : ff_F x_fieldName r (nI j) m 0 = -1 ∨ M.testBit j = true → P (x_length, x_nodeCount, x_bound, 7, nI q, 5, nI q, nI b, x_textCount, x_escaped, x_valueSlot, x_valueName, nI (d + 1), x_outputLength, x_text, x_typeKind, x_typeDetail, x_typeLeast, x_typeMost, x_fieldCount, x_fieldName, x_fieldType, x_fieldNeeded, x_tagType, x_nodeKind, x_nodeValue, x_nodeParent, x_nodeName, x_nodeSlot, x_nodeStart, x_nodeTag, x_completeCount, x_openNode, x_openSlot, x_openNames, x_openNext, x_openComma, x_output))
    (h1 : ∀ i, i < m → ff_F x_fieldName r (nI j) m 0 = nI (4 * r + i) → M.testBit j = false → P (x_length, x_nodeCount, x_bound, x_fault, x_faultPlace, 5, nI q, nI b, x_textCount, x_escaped, x_fieldType (4 * r + i), nI j, nI (d + 1), x_outputLength, x_text, x_typeKind, x_typeDetail, x_typeLeast, x_typeMost, x_fieldCount, x_fieldName, x_fieldType, x_fieldNeeded, x_tagType, x_nodeKind, x_nodeValue, x_nodeParent, x_nodeName, x_nodeSlot, x_nodeStart, x_nodeTag, x_completeCount, x_openNode, x_openSlot, upd x_openNames d (nI (M ||| 2 ^ j)), x_openNext, x_openComma, x_output)) : wpX_endName P (x_length, x_nodeCount, x_bound, x_fault, x_faultPlace, 6, nI q, nI b, x_textCount, x_escaped, x_valueSlot, x_valueName, nI (d + 1), x_outputLength, x_text, x_typeKind, x_typeDetail, x_typeLeast, x_typeMost, x_fieldCount, x_fieldName, x_fieldType, x_fieldNeeded, x_tagType, x_nodeKind, x_nodeValue, x_nodeParent, x_nodeName, x_nodeSlot, x_nodeStart, x_nodeTag, x_completeCount, x_openNode, x_openSlot, x_openNames, x_openNext, x_openComma, x_output) := by
  obtain ⟨rfl, hj, ej⟩ := hg
  have ed : (nI d).toNatClampNeg = d := nI_clamp (by omega)
  have i6 : vp_in (nI d) 6 := vp_in_nI hd (by decide)
  refine en_in hd (by omega) hq2 (fun _ => ?_) (fun e => absurd rfl e)
  rw [ej, es]
  refine br_f (nI_pos (by omega)) (br_t (nI_lt (b := 6) hj (by decide)) (br_f (hh_m1 (by omega)) (xf_find hr hm4 hm ?_)))
  rcases ff_S x_fieldName r (nI j) m 0 with ⟨f1, f2⟩ | ⟨i, -, hi, f1, f2⟩
  · rw [f1]
    exact br_t rfl (h0 (Or.inl f1))
  · have hi' : i < m := by omega
    rw [f1]
    refine br_f (hh_m1 (by omega)) ⟨i6, ?_⟩
    rw [ed, eM]
    by_cases z : M.testBit j = false
    · refine br_t ((bt_x M hM j hj).mpr z) ⟨i6, i6, nm_r ?_ ⟨vp_in_nI (by omega) (by decide), nm_r ?_ (h1 i hi' f1 z)⟩⟩
      · rw [bt_o M hM j hj]
      · rw [nI_clamp (by omega)]
    · have z' : M.testBit j = true := by
        cases w : M.testBit j
        · exact absurd w z
        · rfl
      exact br_f (fun w => z ((bt_x M hM j hj).mp w)) (h0 (Or.inr z'))
end
section
variable {y_length y_parts y_bad y_nodes y_place y_bound y_nextName y_wantsName y_wantsTag y_printed y_waiting y_scaled : Int32} {y_sort y_typeA y_typeB y_typeC y_fieldName y_fieldType y_fields y_tags y_needed y_text y_begin y_end y_inside y_whole y_kind y_value y_parent y_name y_slotOf y_placeOf y_complete y_openNode y_openType y_openCount y_openNames y_openChoice y_output y_todo : Nat → Int32} {d b q j s r m M k : Nat} {Q : SY → Prop}
theorem bn_in (hd : d < 6) (hk : k < 96) (hq : b + 1 ≤ q) (hq2 : q < 96) (ew : y_whole k = 1) (eb : y_begin k = nI b) (ee : y_end k = nI q)
    (h1 : ∀ j, gd_N y_text b q j → wY_bindName_69 Q (nI k) (nI d) (nI j) 1 y_length y_parts y_bad y_nodes 0 y_place y_bound (nI (d + 1)) y_nextName y_wantsName y_wantsTag y_printed y_waiting y_scaled y_sort y_typeA y_typeB y_typeC y_fieldName y_fieldType y_fields y_tags y_needed y_text y_begin y_end y_inside y_whole y_kind y_value y_parent y_name y_slotOf y_placeOf y_complete y_openNode y_openType y_openCount y_openNames y_openChoice y_output y_todo) (h0 : (q ≠ b + 2 ∨ y_text (b + 1) - 21 < 0 ∨ nI 6 ≤ y_text (b + 1) - 21) → wY_bindName_69 Q (nI k) (nI d) (y_text (b + 1) - 21) 0 y_length y_parts y_bad y_nodes 0 y_place y_bound (nI (d + 1)) y_nextName y_wantsName y_wantsTag y_printed y_waiting y_scaled y_sort y_typeA y_typeB y_typeC y_fieldName y_fieldType y_fields y_tags y_needed y_text y_begin y_end y_inside y_whole y_kind y_value y_parent y_name y_slotOf y_placeOf y_complete y_openNode y_openType y_openCount y_openNames y_openChoice y_output y_todo) : wpY_bindName Q (y_length, y_parts, y_bad, y_nodes, 0, y_place, y_bound, nI (d + 1), y_nextName, y_wantsName, y_wantsTag, y_printed, y_waiting, y_scaled, y_sort, y_typeA, y_typeB, y_typeC, y_fieldName, y_fieldType, y_fields, y_tags, y_needed, y_text, y_begin, y_end, y_inside, y_whole, y_kind, y_value, y_parent, y_name, y_slotOf, y_placeOf, y_complete, y_openNode, y_openType, y_openCount, y_openNames, y_openChoice, y_output, y_todo) (nI k) := by
  have ek : (nI k).toNatClampNeg = k := nI_clamp (by omega)
  have ik : vp_in (nI k) 96 := vp_in_nI hk (by decide)
  have e1 : (nI (b + 1)).toNatClampNeg = b + 1 := nI_clamp (by omega)
  have e2 : nI b + 2 = nI (b + 2) := by show nI b + nI 2 = _; rw [nI_add]
  refine And.intro ik ?_
  rw [ek, ew, eb, ee, nI_1, e1, e2]
  refine br_f (by decide) (nm_r (nI_pred d) ⟨ik, vp_in_nI (by omega) (by decide), nm_e (nm_e ⟨ik, ik, ?_⟩)⟩)
  by_cases e : q = b + 2
  · subst e
    refine br_t rfl ?_
    rcases pk_ix (y_text (b + 1) - 21) (n := 6) (by decide) with h | h | ⟨j, hj, h⟩
    · exact yi_0 5 (by decide) (Or.inl h) (br_t rfl (h0 (Or.inr (Or.inl h))))
    · exact yi_0 5 (by decide) (Or.inr h) (br_t rfl (h0 (Or.inr (Or.inr h))))
    · have G := h1 j ⟨rfl, hj, h⟩
      rw [h]
      exact yi_1 5 (by decide) (by omega) (br_f (by decide) G)
  · refine br_f (fun w => e (hh_i (by omega) (by omega) w)) (h0 (Or.inl e))
/-- in a record, or behind the tag -/
theorem bn_rc (hd : d < 6) (hk : k < 96) (hq : b + 1 ≤ q) (hq2 : q < 96) (ew : y_whole k = 1) (eb : y_begin k = nI b) (ee : y_end k = nI q) (hr : r < 12) (es : y_openType d = nI r) (hm4 : m ≤ 4) (hm : y_fields r = nI m) (hM : M < 64) (eM : y_openNames d = nI M)
    (hn : (q ≠ b + 2 ∨ y_text (b + 1) - 21 < 0 ∨ nI 6 ≤ y_text (b + 1) - 21) → Q (y_length, y_parts, y_bad, y_nodes, 7, nI q, y_bound, nI (d + 1), y_text (b + 1) - 21, y_wantsName, y_wantsTag, y_printed, y_waiting, y_scaled, y_sort, y_typeA, y_typeB, y_typeC, y_fieldName, y_fieldType, y_fields, y_tags, y_needed, y_text, y_begin, y_end, y_inside, y_whole, y_kind, y_value, y_parent, y_name, y_slotOf, y_placeOf, y_complete, y_openNode, y_openType, y_openCount, y_openNames, y_openChoice, y_output, y_todo))
    (h0 : ∀ j, gd_N y_text b q j → ff_F y_fieldName r (nI j) m 0 = -1 ∨ M.testBit j = true → Q (y_length, y_parts, y_bad, y_nodes, 7, nI q, y_bound, nI (d + 1), nI j, y_wantsName, y_wantsTag, y_printed, y_waiting, y_scaled, y_sort, y_typeA, y_typeB, y_typeC, y_fieldName, y_fieldType, y_fields, y_tags, y_needed, y_text, y_begin, y_end, y_inside, y_whole, y_kind, y_value, y_parent, y_name, y_slotOf, y_placeOf, y_complete, y_openNode, y_openType, y_openCount, y_openNames, y_openChoice, y_output, y_todo))
    (h1 : ∀ j, gd_N y_text b q j → ∀ i, i < m → ff_F y_fieldName r (nI j) m 0 = nI (4 * r + i) → M.testBit j = false → Q (y_length, y_parts, y_bad, y_nodes, 0, y_place, y_bound, nI (d + 1), nI j, y_wantsName, y_wantsTag, y_printed, y_waiting, y_scaled, y_sort, y_typeA, y_typeB, y_typeC, y_fieldName, y_fieldType, y_fields, y_tags, y_needed, y_text, y_begin, y_end, y_inside, y_whole, y_kind, y_value, y_parent, y_name, y_slotOf, y_placeOf, y_complete, y_openNode, y_openType, y_openCount, upd y_openNames d (nI (M ||| 2 ^ j)), y_openChoice, y_output, y_todo)) : wpY_bindName Q (y_length, y_parts, y_bad, y_nodes, 0, y_place, y_bound, nI (d + 1), y_nextName, y_wantsName, y_wantsTag, y_printed, y_waiting, y_scaled, y_sort, y_typeA, y_typeB, y_typeC, y_fieldName, y_fieldType, y_fields, y_tags, y_needed, y_text, y_begin, y_end, y_inside, y_whole, y_kind, y_value, y_parent, y_name, y_slotOf, y_placeOf, y_complete, y_openNode, y_openType, y_openCount, y_openNames, y_openChoice, y_output, y_todo) (nI k) := by
  have ed : (nI d).toNatClampNeg = d := nI_clamp (by omega)
  have i8 : vp_in (nI d) 8 := vp_in_nI (by omega) (by decide)
  have ek : (nI k).toNatClampNeg = k := nI_clamp (by omega)
  have ik : vp_in (nI k) 96 := vp_in_nI hk (by decide)
  have to128 : ∀ x4 z0 : Int32, wY_bindName_128 Q (nI k) (nI d) x4 z0 y_length y_parts y_bad y_nodes 0 y_place y_bound (nI (d + 1)) y_nextName y_wantsName y_wantsTag y_printed y_waiting y_scaled y_sort y_typeA y_typeB y_typeC y_fieldName y_fieldType y_fields y_tags y_needed y_text y_begin y_end y_inside y_whole y_kind y_value y_parent y_name y_slotOf y_placeOf y_complete y_openNode y_openType y_openCount y_openNames y_openChoice y_output y_todo → wY_bindName_69 Q (nI k) (nI d) x4 z0 y_length y_parts y_bad y_nodes 0 y_place y_bound (nI (d + 1)) y_nextName y_wantsName y_wantsTag y_printed y_waiting y_scaled y_sort y_typeA y_typeB y_typeC y_fieldName y_fieldType y_fields y_tags y_needed y_text y_begin y_end y_inside y_whole y_kind y_value y_parent y_name y_slotOf y_placeOf y_complete y_openNode y_openType y_openCount y_openNames y_openChoice y_output y_todo := by
    intro x4 z0 w
    unfold wY_bindName_69
    rw [ed, es]
    exact ⟨i8, br_c (fun _ => w) (fun _ => ⟨i8, br_t (nI_pos' (by omega)) w⟩)⟩
  have f163 : ∀ x4 : Int32, Q (y_length, y_parts, y_bad, y_nodes, 7, nI q, y_bound, nI (d + 1), x4, y_wantsName, y_wantsTag, y_printed, y_waiting, y_scaled, y_sort, y_typeA, y_typeB, y_typeC, y_fieldName, y_fieldType, y_fields, y_tags, y_needed, y_text, y_begin, y_end, y_inside, y_whole, y_kind, y_value, y_parent, y_name, y_slotOf, y_placeOf, y_complete, y_openNode, y_openType, y_openCount, y_openNames, y_openChoice, y_output, y_todo) → wY_bindName_163 Q (nI k) x4 y_length y_parts y_bad y_nodes 0 y_place y_bound (nI (d + 1)) y_nextName y_wantsName y_wantsTag y_printed y_waiting y_scaled y_sort y_typeA y_typeB y_typeC y_fieldName y_fieldType y_fields y_tags y_needed y_text y_begin y_end y_inside y_whole y_kind y_value y_parent y_name y_slotOf y_placeOf y_complete y_openNode y_openType y_openCount y_openNames y_openChoice y_output y_todo := by
    intro x4 w
    unfold wY_bindName_163
    rw [ek, ee]
    exact ⟨ik, br_t rfl w⟩
  refine bn_in hd hk hq hq2 ew eb ee (fun j hg => to128 _ _ ?_) (fun h => to128 _ _ (br_t rfl (f163 _ (hn h))))
  have hj := hg.2.1
  refine br_f (by decide) ⟨i8, ?_⟩
  rw [ed, es]
  refine yf_find hr hm4 hm ?_
  rcases ff_S y_fieldName r (nI j) m 0 with ⟨f1, f2⟩ | ⟨i, -, hi, f1, f2⟩
  · rw [f1]; exact br_t (by decide) (f163 _ (h0 j hg (Or.inl f1)))
  · rw [f1]
    refine br_f (nI_pos (by omega)) ⟨i8, ?_⟩
    rw [eM]
    by_cases z : M.testBit j = true
    · exact br_t ((bt_y1 M hM j hj).mpr z) (f163 _ (h0 j hg (Or.inr z)))
    · have z' : M.testBit j = false := by
        cases w : M.testBit j
        · rfl
        · exact absurd w z
      refine br_f (fun w => z ((bt_y1 M hM j hj).mp w)) ⟨i8, i8, nm_r ?_ (h1 j hg i (by omega) f1 z')⟩
      rw [bt_o M hM j hj]
/-- a choice's first -/
theorem bn_ch (hd : d < 6) (hk : k < 96) (hq : b + 1 ≤ q) (hq2 : q < 96) (ew : y_whole k = 1) (eb : y_begin k = nI b) (ee : y_end k = nI q) (hs : s < 12) (es : y_openType d = -1) (ec : y_openChoice d = nI s)
    (hn : (q ≠ b + 2 ∨ y_text (b + 1) - 21 < 0 ∨ nI 6 ≤ y_text (b + 1) - 21) → Q (y_length, y_parts, y_bad, y_nodes, 7, nI q, y_bound, nI (d + 1), y_nextName, y_wantsName, 1, y_printed, y_waiting, y_scaled, y_sort, y_typeA, y_typeB, y_typeC, y_fieldName, y_fieldType, y_fields, y_tags, y_needed, y_text, y_begin, y_end, y_inside, y_whole, y_kind, y_value, y_parent, y_name, y_slotOf, y_placeOf, y_complete, y_openNode, y_openType, y_openCount, y_openNames, y_openChoice, y_output, y_todo))
    (h0 : ∀ j, gd_N y_text b q j → ¬ nI j = y_typeA s → Q (y_length, y_parts, y_bad, y_nodes, 7, nI q, y_bound, nI (d + 1), y_nextName, y_wantsName, 1, y_printed, y_waiting, y_scaled, y_sort, y_typeA, y_typeB, y_typeC, y_fieldName, y_fieldType, y_fields, y_tags, y_needed, y_text, y_begin, y_end, y_inside, y_whole, y_kind, y_value, y_parent, y_name, y_slotOf, y_placeOf, y_complete, y_openNode, y_openType, y_openCount, y_openNames, y_openChoice, y_output, y_todo))
    (h1 : ∀ j, gd_N y_text b q j → nI j = y_typeA s → Q (y_length, y_parts, y_bad, y_nodes, 0, y_place, y_bound, nI (d + 1), y_nextName, y_wantsName, 1, y_printed, y_waiting, y_scaled, y_sort, y_typeA, y_typeB, y_typeC, y_fieldName, y_fieldType, y_fields, y_tags, y_needed, y_text, y_begin, y_end, y_inside, y_whole, y_kind, y_value, y_parent, y_name, y_slotOf, y_placeOf, y_complete, y_openNode, y_openType, y_openCount, y_openNames, y_openChoice, y_output, y_todo)) : wpY_bindName Q (y_length, y_parts, y_bad, y_nodes, 0, y_place, y_bound, nI (d + 1), y_nextName, y_wantsName, y_wantsTag, y_printed, y_waiting, y_scaled, y_sort, y_typeA, y_typeB, y_typeC, y_fieldName, y_fieldType, y_fields, y_tags, y_needed, y_text, y_begin, y_end, y_inside, y_whole, y_kind, y_value, y_parent, y_name, y_slotOf, y_placeOf, y_complete, y_openNode, y_openType, y_openCount, y_openNames, y_openChoice, y_output, y_todo) (nI k) := by
  have ed : (nI d).toNatClampNeg = d := nI_clamp (by omega)
  have ess : (nI s).toNatClampNeg = s := nI_clamp (by omega)
  have i8 : vp_in (nI d) 8 := vp_in_nI (by omega) (by decide)
  have ek : (nI k).toNatClampNeg = k := nI_clamp (by omega)
  have ik : vp_in (nI k) 96 := vp_in_nI hk (by decide)
  have f110 : Q (y_length, y_parts, y_bad, y_nodes, 7, nI q, y_bound, nI (d + 1), y_nextName, y_wantsName, 1, y_printed, y_waiting, y_scaled, y_sort, y_typeA, y_typeB, y_typeC, y_fieldName, y_fieldType, y_fields, y_tags, y_needed, y_text, y_begin, y_end, y_inside, y_whole, y_kind, y_value, y_parent, y_name, y_slotOf, y_placeOf, y_complete, y_openNode, y_openType, y_openCount, y_openNames, y_openChoice, y_output, y_todo) → wY_bindName_110 Q (nI k) y_length y_parts y_bad y_nodes 0 y_place y_bound (nI (d + 1)) y_nextName y_wantsName y_wantsTag y_printed y_waiting y_scaled y_sort y_typeA y_typeB y_typeC y_fieldName y_fieldType y_fields y_tags y_needed y_text y_begin y_end y_inside y_whole y_kind y_value y_parent y_name y_slotOf y_placeOf y_complete y_openNode y_openType y_openCount y_openNames y_openChoice y_output y_todo := by
    intro w
    unfold wY_bindName_110
    rw [ek, ee]
    exact ⟨ik, br_t rfl w⟩
  have to : ∀ x4 z0 : Int32, ((z0 = 0 → wY_bindName_110 Q (nI k) y_length y_parts y_bad y_nodes 0 y_place y_bound (nI (d + 1)) y_nextName y_wantsName y_wantsTag y_printed y_waiting y_scaled y_sort y_typeA y_typeB y_typeC y_fieldName y_fieldType y_fields y_tags y_needed y_text y_begin y_end y_inside y_whole y_kind y_value y_parent y_name y_slotOf y_placeOf y_complete y_openNode y_openType y_openCount y_openNames y_openChoice y_output y_todo) ∧ (¬ z0 = 0 → (x4 = y_typeA s → Q (y_length, y_parts, y_bad, y_nodes, 0, y_place, y_bound, nI (d + 1), y_nextName, y_wantsName, 1, y_printed, y_waiting, y_scaled, y_sort, y_typeA, y_typeB, y_typeC, y_fieldName, y_fieldType, y_fields, y_tags, y_needed, y_text, y_begin, y_end, y_inside, y_whole, y_kind, y_value, y_parent, y_name, y_slotOf, y_placeOf, y_complete, y_openNode, y_openType, y_openCount, y_openNames, y_openChoice, y_output, y_todo)) ∧ (¬ x4 = y_typeA s → wY_bindName_110 Q (nI k) y_length y_parts y_bad y_nodes 0 y_place y_bound (nI (d + 1)) y_nextName y_wantsName y_wantsTag y_printed y_waiting y_scaled y_sort y_typeA y_typeB y_typeC y_fieldName y_fieldType y_fields y_tags y_needed y_text y_begin y_end y_inside y_whole y_kind y_value y_parent y_name y_slotOf y_placeOf y_complete y_openNode y_openType y_openCount y_openNames y_openChoice y_output y_todo))) → wY_bindName_69 Q (nI k) (nI d) x4 z0 y_length y_parts y_bad y_nodes 0 y_place y_bound (nI (d + 1)) y_nextName y_wantsName y_wantsTag y_printed y_waiting y_scaled y_sort y_typeA y_typeB y_typeC y_fieldName y_fieldType y_fields y_tags y_needed y_text y_begin y_end y_inside y_whole y_kind y_value y_parent y_name y_slotOf y_placeOf y_complete y_openNode y_openType y_openCount y_openNames y_openChoice y_output y_todo := by
    intro x4 z0 w
    unfold wY_bindName_69
    rw [ed, es, ec, ess]
    exact ⟨i8, br_f (nI_pos (by omega)) ⟨i8, br_f (by decide) ⟨w.1, fun z => ⟨i8, vp_in_nI hs (by decide), w.2 z⟩⟩⟩⟩
  exact bn_in hd hk hq hq2 ew eb ee (fun j hg => to _ _ (br_f (by decide) ⟨h1 j hg, fun z => f110 (h0 j hg z)⟩)) (fun h => to _ _ (br_t rfl (f110 (hn h))))
end
end
section
/-! the bind: a name's step; strings cut off -/
section
variable {x_bound x_at x_tokenStart x_textCount x_escaped x_valueSlot x_valueName x_outputLength : Int32} {x_text x_typeKind x_typeDetail x_typeLeast x_typeMost x_fieldCount x_fieldName x_fieldType x_fieldNeeded x_tagType x_nodeKind x_nodeValue x_nodeParent x_nodeName x_nodeSlot x_nodeStart x_nodeTag x_completeCount x_openNode x_openSlot x_openNames x_openNext x_openComma x_output : Nat → Int32} {y_bad y_nextName y_wantsName y_wantsTag y_waiting y_scaled : Int32} {y_typeA y_typeB y_typeC y_fields y_tags y_begin y_end y_inside y_whole y_kind y_value y_parent y_name y_slotOf y_placeOf y_complete y_openNode y_openType y_openCount y_openNames y_openChoice y_todo : Nat → Int32} {L P k p x d N : Nat} {g : Nat → Int32} {dp : Nat → Nat} {slot : Int32}
theorem st_name (hT : rl_T L x_text x_typeKind x_typeDetail x_typeLeast x_typeMost x_fieldCount x_fieldName x_fieldType x_fieldNeeded x_tagType y_typeA y_typeB y_typeC y_fields y_tags) (hx23 : x = 2 ∨ x = 3) (F : br_F slot L k p x (d + 1) N g x_text x_typeKind x_fieldCount x_fieldName x_fieldType y_begin y_end x_nodeKind x_nodeValue x_nodeParent x_nodeName x_nodeSlot x_nodeStart x_nodeTag x_completeCount x_openNode x_openSlot x_openNames x_valueSlot x_valueName dp y_kind y_value y_parent y_name y_slotOf y_placeOf y_complete y_openNode y_openType y_openCount y_openNames y_openChoice y_nextName y_wantsName y_wantsTag) (hk : k < P) (hP : P ≤ 96) {b q : Nat} (hb : sp_S x_text p b) (hbL : b < L) (hpL : p ≤ L) (eb : y_begin k = nI b) (ee : y_end k = nI q) (ew : y_whole k = 1) (c : x_text b = 16) (hW : ss_W x_text L (b + 1) q)
    (H : ∀ (a nx wt vs vn : Int32) (om om1 : Nat → Int32), br_F slot L (k + 1) (q + 1) 4 (d + 1) N g x_text x_typeKind x_fieldCount x_fieldName x_fieldType y_begin y_end x_nodeKind x_nodeValue x_nodeParent x_nodeName x_nodeSlot x_nodeStart x_nodeTag x_completeCount x_openNode x_openSlot om vs vn dp y_kind y_value y_parent y_name y_slotOf y_placeOf y_complete y_openNode y_openType y_openCount om1 y_openChoice nx y_wantsName wt → bo_O slot (q + 1) (k + 1) (nI L, nI N, x_bound, 0, -1, md_x 4, a, nI b, 0, 0, vs, vn, nI (d + 1), x_outputLength, x_text, x_typeKind, x_typeDetail, x_typeLeast, x_typeMost, x_fieldCount, x_fieldName, x_fieldType, x_fieldNeeded, x_tagType, x_nodeKind, x_nodeValue, x_nodeParent, x_nodeName, x_nodeSlot, x_nodeStart, x_nodeTag, x_completeCount, x_openNode, x_openSlot, om, x_openNext, x_openComma, x_output) (nI L, nI P, y_bad, nI N, 0, -1, 0, nI (d + 1), nx, y_wantsName, wt, x_outputLength, y_waiting, y_scaled, x_typeKind, y_typeA, y_typeB, y_typeC, x_fieldName, x_fieldType, y_fields, y_tags, x_fieldNeeded, x_text, y_begin, y_end, y_inside, y_whole, y_kind, y_value, y_parent, y_name, y_slotOf, y_placeOf, y_complete, y_openNode, y_openType, y_openCount, om1, y_openChoice, x_output, y_todo)) : bo_O slot p k (nI L, nI N, x_bound, 0, -1, md_x x, x_at, x_tokenStart, x_textCount, x_escaped, x_valueSlot, x_valueName, nI (d + 1), x_outputLength, x_text, x_typeKind, x_typeDetail, x_typeLeast, x_typeMost, x_fieldCount, x_fieldName, x_fieldType, x_fieldNeeded, x_tagType, x_nodeKind, x_nodeValue, x_nodeParent, x_nodeName, x_nodeSlot, x_nodeStart, x_nodeTag, x_completeCount, x_openNode, x_openSlot, x_openNames, x_openNext, x_openComma, x_output) (nI L, nI P, y_bad, nI N, 0, -1, 0, nI (d + 1), y_nextName, y_wantsName, y_wantsTag, x_outputLength, y_waiting, y_scaled, x_typeKind, y_typeA, y_typeB, y_typeC, x_fieldName, x_fieldType, y_fields, y_tags, x_fieldNeeded, x_text, y_begin, y_end, y_inside, y_whole, y_kind, y_value, y_parent, y_name, y_slotOf, y_placeOf, y_complete, y_openNode, y_openType, y_openCount, y_openNames, y_openChoice, x_output, y_todo) := by
  have hL := hT.1
  obtain ⟨⟨e1, e2, e3, e4, e5, e6⟩, hA, hd6, hlv, hc, hbg, hx⟩ := F
  have hN := hA.1
  obtain ⟨hqL, q16, mu, hmu⟩ := hW
  have hbq : b + 1 ≤ q := ss_R_le hmu
  have bg' := bg_s hbg (by omega) hb.1 (by omega : b < q + 1) (by omega) eb
  have ed : (nI d).toNatClampNeg = d := nI_clamp (by omega)
  obtain ⟨n, s, hn, hs, eo, eo', edp, et, esl, K⟩ := hlv d (by omega)
  have en : (nI n).toNatClampNeg = n := nI_clamp (by omega)
  have hg : g (d + 1) = 10 := by
    rcases hx with w | w | w | w | w | w | w | w | w | w
    all_goals first | exact w.2.2.1 | (have := w.1; omega)
  have wn1 : y_wantsName = 1 := by
    rcases hx with w | w | w | w | w | w | w | w | w | w
    all_goals first | exact w.2.2.2.1 | (have := w.1; omega)
  have wt0 : y_wantsTag = 0 := by
    rcases hx with w | w | w | w | w | w | w | w | w | w
    all_goals first | exact w.2.2.2.2.1 | (have := w.1; omega)
  rcases K with ⟨g1, -⟩ | ⟨g1, k1, eM', ⟨M, hM, eM, hch⟩, K⟩
  · rw [hg] at g1; exact absurd g1 (by decide)
  -- the component up to the last quote
  obtain ⟨a0, ha0⟩ : ∃ a, bx_R p (nI L, nI N, x_bound, 0, -1, md_x x, x_at, x_tokenStart, x_textCount, x_escaped, x_valueSlot, x_valueName, nI (d + 1), x_outputLength, x_text, x_typeKind, x_typeDetail, x_typeLeast, x_typeMost, x_fieldCount, x_fieldName, x_fieldType, x_fieldNeeded, x_tagType, x_nodeKind, x_nodeValue, x_nodeParent, x_nodeName, x_nodeSlot, x_nodeStart, x_nodeTag, x_completeCount, x_openNode, x_openSlot, x_openNames, x_openNext, x_openComma, x_output) b (nI L, nI N, x_bound, 0, -1, md_x x, a, x_tokenStart, x_textCount, x_escaped, x_valueSlot, x_valueName, nI (d + 1), x_outputLength, x_text, x_typeKind, x_typeDetail, x_typeLeast, x_typeMost, x_fieldCount, x_fieldName, x_fieldType, x_fieldNeeded, x_tagType, x_nodeKind, x_nodeValue, x_nodeParent, x_nodeName, x_nodeSlot, x_nodeStart, x_nodeTag, x_completeCount, x_openNode, x_openSlot, x_openNames, x_openNext, x_openComma, x_output) := bx_at (d := d + 1) hL hb (by omega)
  have hx1 : bx_R b (nI L, nI N, x_bound, 0, -1, md_x x, a0, x_tokenStart, x_textCount, x_escaped, x_valueSlot, x_valueName, nI (d + 1), x_outputLength, x_text, x_typeKind, x_typeDetail, x_typeLeast, x_typeMost, x_fieldCount, x_fieldName, x_fieldType, x_fieldNeeded, x_tagType, x_nodeKind, x_nodeValue, x_nodeParent, x_nodeName, x_nodeSlot, x_nodeStart, x_nodeTag, x_completeCount, x_openNode, x_openSlot, x_openNames, x_openNext, x_openComma, x_output) (b + 1) (nI L, nI N, x_bound, 0, -1, 6, nI b, nI b, 0, 0, x_valueSlot, x_valueName, nI (d + 1), x_outputLength, x_text, x_typeKind, x_typeDetail, x_typeLeast, x_typeMost, x_fieldCount, x_fieldName, x_fieldType, x_fieldNeeded, x_tagType, x_nodeKind, x_nodeValue, x_nodeParent, x_nodeName, x_nodeSlot, x_nodeStart, x_nodeTag, x_completeCount, x_openNode, x_openSlot, x_openNames, x_openNext, x_openComma, x_output) := by
    refine bx_1 hbL hL _ (fun Q q => ?_)
    rw [c]
    refine rc_nm ?_ q
    rcases hx23 with rfl | rfl
    · exact Or.inl rfl
    · exact Or.inr rfl
  obtain ⟨a1, ha1⟩ : ∃ a, bx_R (b + 1) (nI L, nI N, x_bound, 0, -1, 6, nI b, nI b, 0, 0, x_valueSlot, x_valueName, nI (d + 1), x_outputLength, x_text, x_typeKind, x_typeDetail, x_typeLeast, x_typeMost, x_fieldCount, x_fieldName, x_fieldType, x_fieldNeeded, x_tagType, x_nodeKind, x_nodeValue, x_nodeParent, x_nodeName, x_nodeSlot, x_nodeStart, x_nodeTag, x_completeCount, x_openNode, x_openSlot, x_openNames, x_openNext, x_openComma, x_output) q (nI L, nI N, x_bound, 0, -1, 6, a, nI b, 0, 0, x_valueSlot, x_valueName, nI (d + 1), x_outputLength, x_text, x_typeKind, x_typeDetail, x_typeLeast, x_typeMost, x_fieldCount, x_fieldName, x_fieldType, x_fieldNeeded, x_tagType, x_nodeKind, x_nodeValue, x_nodeParent, x_nodeName, x_nodeSlot, x_nodeStart, x_nodeTag, x_completeCount, x_openNode, x_openSlot, x_openNames, x_openNext, x_openComma, x_output) := bx_nu hL mu (b + 1) q (nI b) hmu
  have X1 : ∀ u' : SX, (∀ Q : SX → Prop, Q u' → wpX_endName Q (nI L, nI N, x_bound, 0, -1, 6, nI q, nI b, 0, 0, x_valueSlot, x_valueName, nI (d + 1), x_outputLength, x_text, x_typeKind, x_typeDetail, x_typeLeast, x_typeMost, x_fieldCount, x_fieldName, x_fieldType, x_fieldNeeded, x_tagType, x_nodeKind, x_nodeValue, x_nodeParent, x_nodeName, x_nodeSlot, x_nodeStart, x_nodeTag, x_completeCount, x_openNode, x_openSlot, x_openNames, x_openNext, x_openComma, x_output)) → bx_R p (nI L, nI N, x_bound, 0, -1, md_x x, x_at, x_tokenStart, x_textCount, x_escaped, x_valueSlot, x_valueName, nI (d + 1), x_outputLength, x_text, x_typeKind, x_typeDetail, x_typeLeast, x_typeMost, x_fieldCount, x_fieldName, x_fieldType, x_fieldNeeded, x_tagType, x_nodeKind, x_nodeValue, x_nodeParent, x_nodeName, x_nodeSlot, x_nodeStart, x_nodeTag, x_completeCount, x_openNode, x_openSlot, x_openNames, x_openNext, x_openComma, x_output) (q + 1) u' := by
    intro u' h
    refine bx_T ha0 (bx_T hx1 (bx_T ha1 (bx_1 hqL hL u' (fun Q w => ?_))))
    rw [q16]
    exact rc_str (Or.inl rfl) (sc_q6 (h Q w))
  have Y1 : ∀ v' : SY, (∀ Q : SY → Prop, Q v' → wpY_bindName Q (nI L, nI P, y_bad, nI N, 0, -1, 0, nI (d + 1), y_nextName, y_wantsName, y_wantsTag, x_outputLength, y_waiting, y_scaled, x_typeKind, y_typeA, y_typeB, y_typeC, x_fieldName, x_fieldType, y_fields, y_tags, x_fieldNeeded, x_text, y_begin, y_end, y_inside, y_whole, y_kind, y_value, y_parent, y_name, y_slotOf, y_placeOf, y_complete, y_openNode, y_openType, y_openCount, y_openNames, y_openChoice, x_output, y_todo) (nI k)) → by_R slot k (nI L, nI P, y_bad, nI N, 0, -1, 0, nI (d + 1), y_nextName, y_wantsName, y_wantsTag, x_outputLength, y_waiting, y_scaled, x_typeKind, y_typeA, y_typeB, y_typeC, x_fieldName, x_fieldType, y_fields, y_tags, x_fieldNeeded, x_text, y_begin, y_end, y_inside, y_whole, y_kind, y_value, y_parent, y_name, y_slotOf, y_placeOf, y_complete, y_openNode, y_openType, y_openCount, y_openNames, y_openChoice, x_output, y_todo) (k + 1) v' := by
    intro v' h
    refine by_1 hk hP v' (fun Q w => yp_in (d := d + 1) (by omega) (by omega) eb ?_)
    have yk := e1 n hn
    rw [c, nI_pred, ed, eo', en, yk, k1]
    exact br_f (nI_ne0 (by omega) (by omega)) (br_f (by decide) (br_f (by decide) (br_f (by decide) (br_f (by decide) ⟨vp_in_nI (by omega) (by decide), vp_in_nI (by omega) (by decide), br_f (by decide) (br_f (by rw [wn1]; decide) (h Q w))⟩))))
  -- a record's fields
  have main : ∀ r, r < 12 → x_openSlot d = nI r → x_typeKind r = 5 → bo_O slot p k (nI L, nI N, x_bound, 0, -1, md_x x, x_at, x_tokenStart, x_textCount, x_escaped, x_valueSlot, x_valueName, nI (d + 1), x_outputLength, x_text, x_typeKind, x_typeDetail, x_typeLeast, x_typeMost, x_fieldCount, x_fieldName, x_fieldType, x_fieldNeeded, x_tagType, x_nodeKind, x_nodeValue, x_nodeParent, x_nodeName, x_nodeSlot, x_nodeStart, x_nodeTag, x_completeCount, x_openNode, x_openSlot, x_openNames, x_openNext, x_openComma, x_output) (nI L, nI P, y_bad, nI N, 0, -1, 0, nI (d + 1), y_nextName, y_wantsName, y_wantsTag, x_outputLength, y_waiting, y_scaled, x_typeKind, y_typeA, y_typeB, y_typeC, x_fieldName, x_fieldType, y_fields, y_tags, x_fieldNeeded, x_text, y_begin, y_end, y_inside, y_whole, y_kind, y_value, y_parent, y_name, y_slotOf, y_placeOf, y_complete, y_openNode, y_openType, y_openCount, y_openNames, y_openChoice, x_output, y_todo) := by
    intro r hr er so5
    obtain ⟨eF, m, hm4, hm, hfs, hdis⟩ := (hT.2.2 r hr).2.2.2.2.1 so5
    have hmY : y_fields r = nI m := eF.trans hm
    rcases gd_dec x_text b q with ⟨j, hgd⟩ | hng
    · have uniq : ∀ j', gd_N x_text b q j' → j' = j := fun j' h' => hh_i (by have := h'.2.1; omega) (by have := hgd.2.1; omega) (h'.2.2.symm.trans hgd.2.2)
      by_cases bad : ff_F x_fieldName r (nI j) m 0 = -1 ∨ M.testBit j = true
      · refine bo_fault hT (f := 7) (z := nI q) (by decide) (X1 (nI L, nI N, x_bound, 7, nI q, 5, nI q, nI b, 0, 0, x_valueSlot, x_valueName, nI (d + 1), x_outputLength, x_text, x_typeKind, x_typeDetail, x_typeLeast, x_typeMost, x_fieldCount, x_fieldName, x_fieldType, x_fieldNeeded, x_tagType, x_nodeKind, x_nodeValue, x_nodeParent, x_nodeName, x_nodeSlot, x_nodeStart, x_nodeTag, x_completeCount, x_openNode, x_openSlot, x_openNames, x_openNext, x_openComma, x_output) (fun Q w => en_rc (by omega) (by omega) hgd hr er hm4 hm hM eM (fun _ => w) (fun i hi f1 z => ?_))) (Y1 (nI L, nI P, y_bad, nI N, 7, nI q, 0, nI (d + 1), nI j, y_wantsName, y_wantsTag, x_outputLength, y_waiting, y_scaled, x_typeKind, y_typeA, y_typeB, y_typeC, x_fieldName, x_fieldType, y_fields, y_tags, x_fieldNeeded, x_text, y_begin, y_end, y_inside, y_whole, y_kind, y_value, y_parent, y_name, y_slotOf, y_placeOf, y_complete, y_openNode, y_openType, y_openCount, y_openNames, y_openChoice, x_output, y_todo) (fun Q w => bn_rc (by omega) (by omega) hbq (by omega) ew eb ee hr (et.trans er) hm4 hmY hM (eM'.trans eM) (fun z => ?_) (fun j' h' _ => ?_) (fun j' h' i hi f1 z => ?_)))
        · exfalso
          rcases bad with w1 | w1
          · rw [w1] at f1; exact hh_m1' (by omega) f1
          · rw [w1] at z; exact absurd z (by decide)
        · exfalso
          rcases z with z | z | z
          · exact z hgd.1
          · rw [hgd.2.2] at z; exact nI_pos (by have := hgd.2.1; omega) z
          · rw [hgd.2.2] at z; exact nI_ge hgd.2.1 (by decide) z
        · rw [uniq j' h']; exact w
        · exfalso
          have := uniq j' h'; subst this
          rcases bad with w1 | w1
          · rw [w1] at f1; exact hh_m1' (by omega) f1
          · rw [w1] at z; exact absurd z (by decide)
      · have nb : M.testBit j = false := by
          cases w : M.testBit j
          · rfl
          · exact absurd (Or.inr w) bad
        rcases ff_S x_fieldName r (nI j) m 0 with ⟨f1, -⟩ | ⟨i, -, hi, f1, f2⟩
        · exact absurd (Or.inl f1) bad
        have hi' : i < m := by omega
        have hj := hgd.2.1
        refine bo_step (X1 (nI L, nI N, x_bound, 0, -1, md_x 4, nI q, nI b, 0, 0, x_fieldType (4 * r + i), nI j, nI (d + 1), x_outputLength, x_text, x_typeKind, x_typeDetail, x_typeLeast, x_typeMost, x_fieldCount, x_fieldName, x_fieldType, x_fieldNeeded, x_tagType, x_nodeKind, x_nodeValue, x_nodeParent, x_nodeName, x_nodeSlot, x_nodeStart, x_nodeTag, x_completeCount, x_openNode, x_openSlot, upd x_openNames d (nI (M ||| 2 ^ j)), x_openNext, x_openComma, x_output) (fun Q w => en_rc (by omega) (by omega) hgd hr er hm4 hm hM eM (fun z => absurd z bad) (fun i' hi2 f1' _ => ?_))) (Y1 (nI L, nI P, y_bad, nI N, 0, -1, 0, nI (d + 1), nI j, y_wantsName, y_wantsTag, x_outputLength, y_waiting, y_scaled, x_typeKind, y_typeA, y_typeB, y_typeC, x_fieldName, x_fieldType, y_fields, y_tags, x_fieldNeeded, x_text, y_begin, y_end, y_inside, y_whole, y_kind, y_value, y_parent, y_name, y_slotOf, y_placeOf, y_complete, y_openNode, y_openType, y_openCount, upd y_openNames d (nI (M ||| 2 ^ j)), y_openChoice, x_output, y_todo) (fun Q w => bn_rc (by omega) (by omega) hbq (by omega) ew eb ee hr (et.trans er) hm4 hmY hM (eM'.trans eM) (fun z => ?_) (fun j' h' z => ?_) (fun j' h' i' hi2 f1' z => ?_))) (H _ _ _ _ _ _ _ ?_)
        · have : 4 * r + i' = 4 * r + i := hh_i (by omega) (by omega) (f1'.symm.trans f1)
          rw [this]; exact w
        · exfalso
          rcases z with z | z | z
          · exact z hgd.1
          · rw [hgd.2.2] at z; exact nI_pos (by omega) z
          · rw [hgd.2.2] at z; exact nI_ge hj (by decide) z
        · exfalso; have := uniq j' h'; subst this; exact bad z
        · have := uniq j' h'; subst this; exact w
        · refine ⟨⟨e1, e2, e3, e4, e5, e6⟩, hA, hd6, fun l hl => ?_, cm_s hc, bg', ?_⟩
          · by_cases z : l = d
            · subst z
              refine ⟨n, s, hn, hs, eo, eo', edp, et, esl, Or.inr ⟨g1, k1, ?_, ⟨M ||| 2 ^ j, (bt_l M hM j hj).1, pk_us, fun c' hc' pc => ?_⟩, K⟩⟩
              · rw [pk_us, pk_us]
              · obtain ⟨i2, h1, h2, h3⟩ := hch c' hc' pc
                exact ⟨i2, h1, h2, bt_k M hM j hj i2 h1 h3⟩
            · exact lv_c (hlv l hl) rfl rfl rfl (pk_un z) rfl rfl rfl (pk_un z) rfl
          · refine Or.inr (Or.inr (Or.inr (Or.inr (Or.inr (Or.inr (Or.inr (Or.inr (Or.inl ⟨rfl, by omega, hg, ?_, wt0, n, r, m, i, j, M ||| 2 ^ j, eo, hn, er, hr, hm, hm4, hi', hj, f2, rfl, rfl, rfl, pk_us, (bt_l M hM j hj).1, (bt_l M hM j hj).2, fun c' hc' pc w => ?_⟩))))))))
            · show ¬ x_openSlot d = -1
              rw [er]; exact hh_m1 (by omega)
            · obtain ⟨i2, h1, h2, h3⟩ := hch c' hc' pc
              have : i2 = j := hh_i (by omega) (by omega) (h2.symm.trans w)
              subst this
              rw [nb] at h3; exact absurd h3 (by decide)
    · refine bo_fault hT (f := 7) (z := nI q) (by decide) (X1 (nI L, nI N, x_bound, 7, nI q, 5, nI q, nI b, 0, 0, x_valueSlot, x_valueName, nI (d + 1), x_outputLength, x_text, x_typeKind, x_typeDetail, x_typeLeast, x_typeMost, x_fieldCount, x_fieldName, x_fieldType, x_fieldNeeded, x_tagType, x_nodeKind, x_nodeValue, x_nodeParent, x_nodeName, x_nodeSlot, x_nodeStart, x_nodeTag, x_completeCount, x_openNode, x_openSlot, x_openNames, x_openNext, x_openComma, x_output) (fun Q w => en_no (by omega) hbq (by omega) hng w)) (Y1 (nI L, nI P, y_bad, nI N, 7, nI q, 0, nI (d + 1), x_text (b + 1) - 21, y_wantsName, y_wantsTag, x_outputLength, y_waiting, y_scaled, x_typeKind, y_typeA, y_typeB, y_typeC, x_fieldName, x_fieldType, y_fields, y_tags, x_fieldNeeded, x_text, y_begin, y_end, y_inside, y_whole, y_kind, y_value, y_parent, y_name, y_slotOf, y_placeOf, y_complete, y_openNode, y_openType, y_openCount, y_openNames, y_openChoice, x_output, y_todo) (fun Q w => bn_rc (by omega) (by omega) hbq (by omega) ew eb ee hr (et.trans er) hm4 hmY hM (eM'.trans eM) (fun _ => w) (fun j' h' _ => ?_) (fun j' h' i hi f1 z => ?_)))
      all_goals
        exfalso
        rcases hng with z1 | z1 | z1
        · exact z1 h'.1
        · rw [h'.2.2] at z1; exact nI_pos (by have := h'.2.1; omega) z1
        · rw [h'.2.2] at z1; exact nI_ge h'.2.1 (by decide) z1
  rcases K with ⟨so5, es, ech, etg⟩ | ⟨so6, ech, es, etg, -⟩ | ⟨so6, ech, r, q', hr, so5, es, hq', etg⟩
  · exact main s hs es so5
  · have TA := ((hT.2.2 s hs).2.2.2.2.2.1 so6).1
    have ph : ph_F (d + 1) k 1 x_openNode x_nodeStart y_begin := by
      rcases hx with w | w | w | w | w | w | w | w | w | w
      all_goals first | exact w.2.2.2.2.2 es | exact absurd es w.2.2.2.2.2 | (have := w.1; omega)
    rcases gd_dec x_text b q with ⟨j, hgd⟩ | hng
    · have uniq : ∀ j', gd_N x_text b q j' → j' = j := fun j' h' => hh_i (by have := h'.2.1; omega) (by have := hgd.2.1; omega) (h'.2.2.symm.trans hgd.2.2)
      have nng : (q ≠ b + 2 ∨ x_text (b + 1) - 21 < 0 ∨ nI 6 ≤ x_text (b + 1) - 21) → False := by
        intro z
        rcases z with z | z | z
        · exact z hgd.1
        · rw [hgd.2.2] at z; exact nI_pos (by have := hgd.2.1; omega) z
        · rw [hgd.2.2] at z; exact nI_ge hgd.2.1 (by decide) z
      by_cases ok : nI j = x_typeDetail s
      · refine bo_step (X1 (nI L, nI N, x_bound, 0, -1, md_x 4, nI q, nI b, 0, 0, x_valueSlot, x_valueName, nI (d + 1), x_outputLength, x_text, x_typeKind, x_typeDetail, x_typeLeast, x_typeMost, x_fieldCount, x_fieldName, x_fieldType, x_fieldNeeded, x_tagType, x_nodeKind, x_nodeValue, x_nodeParent, x_nodeName, x_nodeSlot, x_nodeStart, x_nodeTag, x_completeCount, x_openNode, x_openSlot, x_openNames, x_openNext, x_openComma, x_output) (fun Q w => en_ch (by omega) (by omega) hgd eo (by omega) esl hs es (fun _ => w) (fun z => absurd ok z))) (Y1 (nI L, nI P, y_bad, nI N, 0, -1, 0, nI (d + 1), y_nextName, y_wantsName, 1, x_outputLength, y_waiting, y_scaled, x_typeKind, y_typeA, y_typeB, y_typeC, x_fieldName, x_fieldType, y_fields, y_tags, x_fieldNeeded, x_text, y_begin, y_end, y_inside, y_whole, y_kind, y_value, y_parent, y_name, y_slotOf, y_placeOf, y_complete, y_openNode, y_openType, y_openCount, y_openNames, y_openChoice, x_output, y_todo) (fun Q w => bn_ch (by omega) (by omega) hbq (by omega) ew eb ee hs (et.trans es) ech (fun z => (nng z).elim) (fun j' h' z => ?_) (fun j' h' _ => w))) (H _ _ _ _ _ _ _ ?_)
        · exfalso; rw [uniq j' h', TA] at z; exact z ok
        · obtain ⟨n', K', b', p1, p2, p3, p4, p5⟩ := ph
          exact ⟨⟨e1, e2, e3, e4, e5, e6⟩, hA, hd6, hlv, cm_s hc, bg', Or.inr (Or.inr (Or.inr (Or.inr (Or.inr (Or.inr (Or.inr (Or.inl ⟨rfl, by omega, hg, es, rfl, n', K', b', p1, p2, by omega, p4, p5⟩)))))))⟩
      · refine bo_fault hT (f := 7) (z := nI q) (by decide) (X1 (nI L, nI N, x_bound, 7, nI q, 5, nI q, nI b, 0, 0, x_valueSlot, x_valueName, nI (d + 1), x_outputLength, x_text, x_typeKind, x_typeDetail, x_typeLeast, x_typeMost, x_fieldCount, x_fieldName, x_fieldType, x_fieldNeeded, x_tagType, x_nodeKind, x_nodeValue, x_nodeParent, x_nodeName, x_nodeSlot, x_nodeStart, x_nodeTag, x_completeCount, x_openNode, x_openSlot, x_openNames, x_openNext, x_openComma, x_output) (fun Q w => en_ch (by omega) (by omega) hgd eo (by omega) esl hs es (fun z => absurd z ok) (fun _ => w))) (Y1 (nI L, nI P, y_bad, nI N, 7, nI q, 0, nI (d + 1), y_nextName, y_wantsName, 1, x_outputLength, y_waiting, y_scaled, x_typeKind, y_typeA, y_typeB, y_typeC, x_fieldName, x_fieldType, y_fields, y_tags, x_fieldNeeded, x_text, y_begin, y_end, y_inside, y_whole, y_kind, y_value, y_parent, y_name, y_slotOf, y_placeOf, y_complete, y_openNode, y_openType, y_openCount, y_openNames, y_openChoice, x_output, y_todo) (fun Q w => bn_ch (by omega) (by omega) hbq (by omega) ew eb ee hs (et.trans es) ech (fun z => (nng z).elim) (fun j' h' z => w) (fun j' h' z => ?_)))
        exfalso; rw [uniq j' h', TA] at z; exact ok z
    · refine bo_fault hT (f := 7) (z := nI q) (by decide) (X1 (nI L, nI N, x_bound, 7, nI q, 5, nI q, nI b, 0, 0, x_valueSlot, x_valueName, nI (d + 1), x_outputLength, x_text, x_typeKind, x_typeDetail, x_typeLeast, x_typeMost, x_fieldCount, x_fieldName, x_fieldType, x_fieldNeeded, x_tagType, x_nodeKind, x_nodeValue, x_nodeParent, x_nodeName, x_nodeSlot, x_nodeStart, x_nodeTag, x_completeCount, x_openNode, x_openSlot, x_openNames, x_openNext, x_openComma, x_output) (fun Q w => en_no (by omega) hbq (by omega) hng w)) (Y1 (nI L, nI P, y_bad, nI N, 7, nI q, 0, nI (d + 1), y_nextName, y_wantsName, 1, x_outputLength, y_waiting, y_scaled, x_typeKind, y_typeA, y_typeB, y_typeC, x_fieldName, x_fieldType, y_fields, y_tags, x_fieldNeeded, x_text, y_begin, y_end, y_inside, y_whole, y_kind, y_value, y_parent, y_name, y_slotOf, y_placeOf, y_complete, y_openNode, y_openType, y_openCount, y_openNames, y_openChoice, x_output, y_todo) (fun Q w => bn_ch (by omega) (by omega) hbq (by omega) ew eb ee hs (et.trans es) ech (fun _ => w) (fun j' h' z => w) (fun j' h' z => ?_)))
      exfalso
      rcases hng with z1 | z1 | z1
      · exact z1 h'.1
      · rw [h'.2.2] at z1; exact nI_pos (by have := h'.2.1; omega) z1
      · rw [h'.2.2] at z1; exact nI_ge h'.2.1 (by decide) z1
  · exact main r hr es so5
end
end
section
/-! the bind: strings cut off, texts -/
section
variable {x_length x_nodeCount x_bound x_fault x_faultPlace x_mode x_at x_tokenStart x_textCount x_escaped x_valueSlot x_valueName x_depth x_outputLength : Int32} {x_text x_typeKind x_typeDetail x_typeLeast x_typeMost x_fieldCount x_fieldName x_fieldType x_fieldNeeded x_tagType x_nodeKind x_nodeValue x_nodeParent x_nodeName x_nodeSlot x_nodeStart x_nodeTag x_completeCount x_openNode x_openSlot x_openNames x_openNext x_openComma x_output : Nat → Int32} {L : Nat}
theorem bx_e1 (hL : L ≤ 96) {M : Int32} (h8 : M < 8) (h2 : ¬ M = 2) {post : Int32 → SX → Prop} (h : post 1 (nI L, x_nodeCount, 0, 1, nI L, M, nI L, x_tokenStart, x_textCount, x_escaped, x_valueSlot, x_valueName, x_depth, x_outputLength, x_text, x_typeKind, x_typeDetail, x_typeLeast, x_typeMost, x_fieldCount, x_fieldName, x_fieldType, x_fieldNeeded, x_tagType, x_nodeKind, x_nodeValue, x_nodeParent, x_nodeName, x_nodeSlot, x_nodeStart, x_nodeTag, x_completeCount, x_openNode, x_openSlot, x_openNames, x_openNext, x_openComma, x_output)) : bx_L post L (nI L, x_nodeCount, x_bound, 0, x_faultPlace, M, x_at, x_tokenStart, x_textCount, x_escaped, x_valueSlot, x_valueName, x_depth, x_outputLength, x_text, x_typeKind, x_typeDetail, x_typeLeast, x_typeMost, x_fieldCount, x_fieldName, x_fieldType, x_fieldNeeded, x_tagType, x_nodeKind, x_nodeValue, x_nodeParent, x_nodeName, x_nodeSlot, x_nodeStart, x_nodeTag, x_completeCount, x_openNode, x_openSlot, x_openNames, x_openNext, x_openComma, x_output) :=
  bx_E hL (br_t rfl (br_t h8 (br_t rfl (br_f h2 (br_f (by decide) h)))))
theorem bx_cut (hL : L ≤ 96) {M : Int32} (hM : M = 6 ∨ M = 7) {i q e z : Nat} (hX : ss_X x_text L i q e z) : ∃ e' a', ∀ post : Int32 → SX → Prop, post 1 (nI L, x_nodeCount, 0, 1, nI z, M, a', x_tokenStart, x_textCount, e', x_valueSlot, x_valueName, x_depth, x_outputLength, x_text, x_typeKind, x_typeDetail, x_typeLeast, x_typeMost, x_fieldCount, x_fieldName, x_fieldType, x_fieldNeeded, x_tagType, x_nodeKind, x_nodeValue, x_nodeParent, x_nodeName, x_nodeSlot, x_nodeStart, x_nodeTag, x_completeCount, x_openNode, x_openSlot, x_openNames, x_openNext, x_openComma, x_output) → bx_L post q (nI L, x_nodeCount, x_bound, 0, x_faultPlace, M, x_at, x_tokenStart, x_textCount, 0, x_valueSlot, x_valueName, x_depth, x_outputLength, x_text, x_typeKind, x_typeDetail, x_typeLeast, x_typeMost, x_fieldCount, x_fieldName, x_fieldType, x_fieldNeeded, x_tagType, x_nodeKind, x_nodeValue, x_nodeParent, x_nodeName, x_nodeSlot, x_nodeStart, x_nodeTag, x_completeCount, x_openNode, x_openSlot, x_openNames, x_openNext, x_openComma, x_output) := by
  have h8 : M < 8 := by rcases hM with rfl | rfl <;> decide
  have h2 : ¬ M = 2 := by rcases hM with rfl | rfl <;> decide
  rcases hX.2 with ⟨rfl, h1, rfl⟩ | ⟨h1, h30, rfl, rfl⟩ | ⟨h1, h30, d16, d30, rfl, rfl⟩
  · exact ⟨0, nI z, fun post hp => bx_e1 hL h8 h2 hp⟩
  · subst h1
    refine ⟨1, nI (e + 1), fun post hp => ?_⟩
    refine bx_1 (by omega) hL (nI (e + 1), x_nodeCount, x_bound, 0, x_faultPlace, M, nI e, x_tokenStart, x_textCount, 1, x_valueSlot, x_valueName, x_depth, x_outputLength, x_text, x_typeKind, x_typeDetail, x_typeLeast, x_typeMost, x_fieldCount, x_fieldName, x_fieldType, x_fieldNeeded, x_tagType, x_nodeKind, x_nodeValue, x_nodeParent, x_nodeName, x_nodeSlot, x_nodeStart, x_nodeTag, x_completeCount, x_openNode, x_openSlot, x_openNames, x_openNext, x_openComma, x_output) (fun Q w => ?_) post (bx_e1 hL h8 h2 hp)
    rw [h30]; exact rc_str hM (sc_e w)
  · refine ⟨1, nI (e + 1), fun post hp => ?_⟩
    refine bx_1 (by omega) hL (nI L, x_nodeCount, x_bound, 0, x_faultPlace, M, nI e, x_tokenStart, x_textCount, 1, x_valueSlot, x_valueName, x_depth, x_outputLength, x_text, x_typeKind, x_typeDetail, x_typeLeast, x_typeMost, x_fieldCount, x_fieldName, x_fieldType, x_fieldNeeded, x_tagType, x_nodeKind, x_nodeValue, x_nodeParent, x_nodeName, x_nodeSlot, x_nodeStart, x_nodeTag, x_completeCount, x_openNode, x_openSlot, x_openNames, x_openNext, x_openComma, x_output) (fun Q w => ?_) post (bx_1 h1 hL (nI L, x_nodeCount, x_bound, 1, nI (e + 1), M, nI (e + 1), x_tokenStart, x_textCount, 1, x_valueSlot, x_valueName, x_depth, x_outputLength, x_text, x_typeKind, x_typeDetail, x_typeLeast, x_typeMost, x_fieldCount, x_fieldName, x_fieldType, x_fieldNeeded, x_tagType, x_nodeKind, x_nodeValue, x_nodeParent, x_nodeName, x_nodeSlot, x_nodeStart, x_nodeTag, x_completeCount, x_openNode, x_openSlot, x_openNames, x_openNext, x_openComma, x_output) (fun Q w => rc_str hM (sc_bad d30 d16 w)) post (bx_F (by decide) hp))
    rw [h30]; exact rc_str hM (sc_e w)
end
section
variable {x_bound x_at x_tokenStart x_textCount x_escaped x_valueSlot x_valueName x_outputLength : Int32} {x_text x_typeKind x_typeDetail x_typeLeast x_typeMost x_fieldCount x_fieldName x_fieldType x_fieldNeeded x_tagType x_nodeKind x_nodeValue x_nodeParent x_nodeName x_nodeSlot x_nodeStart x_nodeTag x_completeCount x_openNode x_openSlot x_openNames x_openNext x_openComma x_output : Nat → Int32} {y_bad y_nextName y_wantsName y_wantsTag y_waiting y_scaled : Int32} {y_typeA y_typeB y_typeC y_fields y_tags y_begin y_end y_inside y_whole y_kind y_value y_parent y_name y_slotOf y_placeOf y_complete y_openNode y_openType y_openCount y_openNames y_openChoice y_todo : Nat → Int32} {L P k p x d N : Nat} {g : Nat → Int32} {dp : Nat → Nat} {slot : Int32}
/-- the reference's last part is cut off -/
theorem bo_cut (hT : rl_T L x_text x_typeKind x_typeDetail x_typeLeast x_typeMost x_fieldCount x_fieldName x_fieldType x_fieldNeeded x_tagType y_typeA y_typeB y_typeC y_fields y_tags) (hP : P ≤ 96) {z : Nat} (hz : z ≤ 96) {u : SX} {v : SY} {M D C : Int32} {D' N' : Int32}
    (hx : ∀ post : Int32 → SX → Prop, post 1 (nI L, C, 0, 1, nI z, M, x_at, x_tokenStart, x_textCount, x_escaped, x_valueSlot, x_valueName, D, x_outputLength, x_text, x_typeKind, x_typeDetail, x_typeLeast, x_typeMost, x_fieldCount, x_fieldName, x_fieldType, x_fieldNeeded, x_tagType, x_nodeKind, x_nodeValue, x_nodeParent, x_nodeName, x_nodeSlot, x_nodeStart, x_nodeTag, x_completeCount, x_openNode, x_openSlot, x_openNames, x_openNext, x_openComma, x_output) → bx_L post p u) (hy : by_R slot k v P (nI L, nI P, nI z, N', 0, -1, 0, D', y_nextName, y_wantsName, y_wantsTag, x_outputLength, y_waiting, y_scaled, x_typeKind, y_typeA, y_typeB, y_typeC, x_fieldName, x_fieldType, y_fields, y_tags, x_fieldNeeded, x_text, y_begin, y_end, y_inside, y_whole, y_kind, y_value, y_parent, y_name, y_slotOf, y_placeOf, y_complete, y_openNode, y_openType, y_openCount, y_openNames, y_openChoice, x_output, y_todo)) : bo_O slot p k u v :=
  ⟨1, _, _, hx, fun post q => hy post (by_E1 hP hz q), rl_mk hT (Or.inl rfl)⟩
theorem st_ncut (hT : rl_T L x_text x_typeKind x_typeDetail x_typeLeast x_typeMost x_fieldCount x_fieldName x_fieldType x_fieldNeeded x_tagType y_typeA y_typeB y_typeC y_fields y_tags) (hx23 : x = 2 ∨ x = 3) (F : br_F slot L k p x (d + 1) N g x_text x_typeKind x_fieldCount x_fieldName x_fieldType y_begin y_end x_nodeKind x_nodeValue x_nodeParent x_nodeName x_nodeSlot x_nodeStart x_nodeTag x_completeCount x_openNode x_openSlot x_openNames x_valueSlot x_valueName dp y_kind y_value y_parent y_name y_slotOf y_placeOf y_complete y_openNode y_openType y_openCount y_openNames y_openChoice y_nextName y_wantsName y_wantsTag) (hk : k + 1 = P) (hP : P ≤ 96) {b q e z : Nat} (hb : sp_S x_text p b) (hbL : b < L) (eb : y_begin k = nI b) (ew : y_whole k = 0) (c : x_text b = 16) (hX : ss_X x_text L (b + 1) q e z) : bo_O slot p k (nI L, nI N, x_bound, 0, -1, md_x x, x_at, x_tokenStart, x_textCount, x_escaped, x_valueSlot, x_valueName, nI (d + 1), x_outputLength, x_text, x_typeKind, x_typeDetail, x_typeLeast, x_typeMost, x_fieldCount, x_fieldName, x_fieldType, x_fieldNeeded, x_tagType, x_nodeKind, x_nodeValue, x_nodeParent, x_nodeName, x_nodeSlot, x_nodeStart, x_nodeTag, x_completeCount, x_openNode, x_openSlot, x_openNames, x_openNext, x_openComma, x_output) (nI L, nI P, nI z, nI N, 0, -1, 0, nI (d + 1), y_nextName, y_wantsName, y_wantsTag, x_outputLength, y_waiting, y_scaled, x_typeKind, y_typeA, y_typeB, y_typeC, x_fieldName, x_fieldType, y_fields, y_tags, x_fieldNeeded, x_text, y_begin, y_end, y_inside, y_whole, y_kind, y_value, y_parent, y_name, y_slotOf, y_placeOf, y_complete, y_openNode, y_openType, y_openCount, y_openNames, y_openChoice, x_output, y_todo) := by
  have hL := hT.1
  obtain ⟨⟨e1, -⟩, hA, hd6, hlv, hc, hbg, hx⟩ := F
  have hN := hA.1
  have hzL := (ss_X_e hX).2
  have ed : (nI d).toNatClampNeg = d := nI_clamp (by omega)
  obtain ⟨n, s, hn, hs, eo, eo', edp, et, esl, K⟩ := hlv d (by omega)
  have en : (nI n).toNatClampNeg = n := nI_clamp (by omega)
  have hg : g (d + 1) = 10 := by
    rcases hx with w | w | w | w | w | w | w | w | w | w
    all_goals first | exact w.2.2.1 | (have := w.1; omega)
  have wn1 : y_wantsName = 1 := by
    rcases hx with w | w | w | w | w | w | w | w | w | w
    all_goals first | exact w.2.2.2.1 | (have := w.1; omega)
  rcases K with ⟨g1, -⟩ | ⟨g1, k1, -⟩
  · rw [hg] at g1; exact absurd g1 (by decide)
  obtain ⟨a0, ha0⟩ : ∃ a, bx_R p (nI L, nI N, x_bound, 0, -1, md_x x, x_at, x_tokenStart, x_textCount, x_escaped, x_valueSlot, x_valueName, nI (d + 1), x_outputLength, x_text, x_typeKind, x_typeDetail, x_typeLeast, x_typeMost, x_fieldCount, x_fieldName, x_fieldType, x_fieldNeeded, x_tagType, x_nodeKind, x_nodeValue, x_nodeParent, x_nodeName, x_nodeSlot, x_nodeStart, x_nodeTag, x_completeCount, x_openNode, x_openSlot, x_openNames, x_openNext, x_openComma, x_output) b (nI L, nI N, x_bound, 0, -1, md_x x, a, x_tokenStart, x_textCount, x_escaped, x_valueSlot, x_valueName, nI (d + 1), x_outputLength, x_text, x_typeKind, x_typeDetail, x_typeLeast, x_typeMost, x_fieldCount, x_fieldName, x_fieldType, x_fieldNeeded, x_tagType, x_nodeKind, x_nodeValue, x_nodeParent, x_nodeName, x_nodeSlot, x_nodeStart, x_nodeTag, x_completeCount, x_openNode, x_openSlot, x_openNames, x_openNext, x_openComma, x_output) := bx_at (d := d + 1) hL hb (by omega)
  have hx1 : bx_R b (nI L, nI N, x_bound, 0, -1, md_x x, a0, x_tokenStart, x_textCount, x_escaped, x_valueSlot, x_valueName, nI (d + 1), x_outputLength, x_text, x_typeKind, x_typeDetail, x_typeLeast, x_typeMost, x_fieldCount, x_fieldName, x_fieldType, x_fieldNeeded, x_tagType, x_nodeKind, x_nodeValue, x_nodeParent, x_nodeName, x_nodeSlot, x_nodeStart, x_nodeTag, x_completeCount, x_openNode, x_openSlot, x_openNames, x_openNext, x_openComma, x_output) (b + 1) (nI L, nI N, x_bound, 0, -1, 6, nI b, nI b, 0, 0, x_valueSlot, x_valueName, nI (d + 1), x_outputLength, x_text, x_typeKind, x_typeDetail, x_typeLeast, x_typeMost, x_fieldCount, x_fieldName, x_fieldType, x_fieldNeeded, x_tagType, x_nodeKind, x_nodeValue, x_nodeParent, x_nodeName, x_nodeSlot, x_nodeStart, x_nodeTag, x_completeCount, x_openNode, x_openSlot, x_openNames, x_openNext, x_openComma, x_output) := by
    refine bx_1 hbL hL _ (fun Q q => ?_)
    rw [c]
    refine rc_nm ?_ q
    rcases hx23 with rfl | rfl
    · exact Or.inl rfl
    · exact Or.inr rfl
  obtain ⟨mu, hmu⟩ := hX.1
  obtain ⟨a1, ha1⟩ : ∃ a, bx_R (b + 1) (nI L, nI N, x_bound, 0, -1, 6, nI b, nI b, 0, 0, x_valueSlot, x_valueName, nI (d + 1), x_outputLength, x_text, x_typeKind, x_typeDetail, x_typeLeast, x_typeMost, x_fieldCount, x_fieldName, x_fieldType, x_fieldNeeded, x_tagType, x_nodeKind, x_nodeValue, x_nodeParent, x_nodeName, x_nodeSlot, x_nodeStart, x_nodeTag, x_completeCount, x_openNode, x_openSlot, x_openNames, x_openNext, x_openComma, x_output) q (nI L, nI N, x_bound, 0, -1, 6, a, nI b, 0, 0, x_valueSlot, x_valueName, nI (d + 1), x_outputLength, x_text, x_typeKind, x_typeDetail, x_typeLeast, x_typeMost, x_fieldCount, x_fieldName, x_fieldType, x_fieldNeeded, x_tagType, x_nodeKind, x_nodeValue, x_nodeParent, x_nodeName, x_nodeSlot, x_nodeStart, x_nodeTag, x_completeCount, x_openNode, x_openSlot, x_openNames, x_openNext, x_openComma, x_output) := bx_nu hL mu (b + 1) q (nI b) hmu
  obtain ⟨e', a', hcut⟩ : ∃ e' a', ∀ post : Int32 → SX → Prop, post 1 (nI L, nI N, 0, 1, nI z, 6, a', nI b, 0, e', x_valueSlot, x_valueName, nI (d + 1), x_outputLength, x_text, x_typeKind, x_typeDetail, x_typeLeast, x_typeMost, x_fieldCount, x_fieldName, x_fieldType, x_fieldNeeded, x_tagType, x_nodeKind, x_nodeValue, x_nodeParent, x_nodeName, x_nodeSlot, x_nodeStart, x_nodeTag, x_completeCount, x_openNode, x_openSlot, x_openNames, x_openNext, x_openComma, x_output) → bx_L post q (nI L, nI N, x_bound, 0, -1, 6, a1, nI b, 0, 0, x_valueSlot, x_valueName, nI (d + 1), x_outputLength, x_text, x_typeKind, x_typeDetail, x_typeLeast, x_typeMost, x_fieldCount, x_fieldName, x_fieldType, x_fieldNeeded, x_tagType, x_nodeKind, x_nodeValue, x_nodeParent, x_nodeName, x_nodeSlot, x_nodeStart, x_nodeTag, x_completeCount, x_openNode, x_openSlot, x_openNames, x_openNext, x_openComma, x_output) := bx_cut hL (Or.inl rfl) hX
  have hy : by_R slot k (nI L, nI P, nI z, nI N, 0, -1, 0, nI (d + 1), y_nextName, y_wantsName, y_wantsTag, x_outputLength, y_waiting, y_scaled, x_typeKind, y_typeA, y_typeB, y_typeC, x_fieldName, x_fieldType, y_fields, y_tags, x_fieldNeeded, x_text, y_begin, y_end, y_inside, y_whole, y_kind, y_value, y_parent, y_name, y_slotOf, y_placeOf, y_complete, y_openNode, y_openType, y_openCount, y_openNames, y_openChoice, x_output, y_todo) P (nI L, nI P, nI z, nI N, 0, -1, 0, nI (d + 1), y_nextName, y_wantsName, y_wantsTag, x_outputLength, y_waiting, y_scaled, x_typeKind, y_typeA, y_typeB, y_typeC, x_fieldName, x_fieldType, y_fields, y_tags, x_fieldNeeded, x_text, y_begin, y_end, y_inside, y_whole, y_kind, y_value, y_parent, y_name, y_slotOf, y_placeOf, y_complete, y_openNode, y_openType, y_openCount, y_openNames, y_openChoice, x_output, y_todo) := by
    subst hk
    refine by_1 (by omega) hP _ (fun Q w => yp_in (d := d + 1) (by omega) (by omega) eb ?_)
    have yk := e1 n hn
    have ek : (nI k).toNatClampNeg = k := nI_clamp (by omega)
    rw [c, nI_pred, ed, eo', en, yk, k1]
    refine br_f (nI_ne0 (by omega) (by omega)) (br_f (by decide) (br_f (by decide) (br_f (by decide) (br_f (by decide) ⟨vp_in_nI (by omega) (by decide), vp_in_nI (by omega) (by decide), br_f (by decide) (br_f (by rw [wn1]; decide) (And.intro (vp_in_nI (by omega) (by decide)) ?_))⟩))))
    rw [ek]
    exact br_t ew w
  exact bo_cut hT hP (by omega) (fun post w => ha0 post (hx1 post (ha1 post (hcut post w)))) hy
end
/-! a text's characters -/
section
variable {x_bound x_faultPlace x_tokenStart x_valueSlot x_valueName x_depth x_outputLength : Int32} {x_text x_typeKind x_typeDetail x_typeLeast x_typeMost x_fieldCount x_fieldName x_fieldType x_fieldNeeded x_tagType x_nodeKind x_nodeParent x_nodeName x_nodeSlot x_nodeStart x_nodeTag x_completeCount x_openNode x_openSlot x_openNames x_openNext x_openComma x_output : Nat → Int32} {y_length y_parts y_bad y_nodes y_place y_bound y_depth y_nextName y_wantsName y_wantsTag y_printed y_waiting y_scaled : Int32} {y_sort y_typeA y_typeB y_typeC y_fieldName y_fieldType y_fields y_tags y_needed y_text y_begin y_end y_inside y_whole y_kind y_value y_parent y_name y_slotOf y_placeOf y_complete y_openNode y_openType y_openCount y_openNames y_openChoice y_output y_todo : Nat → Int32} {L N s D : Nat} {vl : Nat → Int32}
theorem tx_x1 (hL : L ≤ 96) (hN : N < 40) (hs : s < 12) (hD : D ≤ 40) (eS : x_nodeSlot N = nI s) (eD : x_typeDetail s = nI D) {i i' j : Nat} {h a : Int32} (hG : ss_G x_text L i i') (hj : j < D) : ∃ a', bx_R i (nI L, nI (N + 1), x_bound, 0, x_faultPlace, 7, a, x_tokenStart, nI j, 0, x_valueSlot, x_valueName, x_depth, x_outputLength, x_text, x_typeKind, x_typeDetail, x_typeLeast, x_typeMost, x_fieldCount, x_fieldName, x_fieldType, x_fieldNeeded, x_tagType, x_nodeKind, upd vl N h, x_nodeParent, x_nodeName, x_nodeSlot, x_nodeStart, x_nodeTag, x_completeCount, x_openNode, x_openSlot, x_openNames, x_openNext, x_openComma, x_output) i' (nI L, nI (N + 1), x_bound, 0, x_faultPlace, 7, a', x_tokenStart, nI (j + 1), 0, x_valueSlot, x_valueName, x_depth, x_outputLength, x_text, x_typeKind, x_typeDetail, x_typeLeast, x_typeMost, x_fieldCount, x_fieldName, x_fieldType, x_fieldNeeded, x_tagType, x_nodeKind, upd vl N (32 * h + x_text (i' - 1)), x_nodeParent, x_nodeName, x_nodeSlot, x_nodeStart, x_nodeTag, x_completeCount, x_openNode, x_openSlot, x_openNames, x_openNext, x_openComma, x_output) := by
  rcases hG with ⟨h1, h2, h3, rfl⟩ | ⟨h1, h2, h3, rfl⟩
  · exact ⟨nI i, bx_1 h1 hL _ (fun Q w => rc_str (Or.inr rfl) (sc_t h3 h2 (at_ok hN hs hD eS eD hj w)))⟩
  · refine ⟨nI (i + 1), bx_T (bx_1 (by omega) hL (nI L, nI (N + 1), x_bound, 0, x_faultPlace, 7, nI i, x_tokenStart, nI j, 1, x_valueSlot, x_valueName, x_depth, x_outputLength, x_text, x_typeKind, x_typeDetail, x_typeLeast, x_typeMost, x_fieldCount, x_fieldName, x_fieldType, x_fieldNeeded, x_tagType, x_nodeKind, upd vl N h, x_nodeParent, x_nodeName, x_nodeSlot, x_nodeStart, x_nodeTag, x_completeCount, x_openNode, x_openSlot, x_openNames, x_openNext, x_openComma, x_output) (fun Q w => ?_)) (bx_1 h1 hL _ (fun Q w => rc_str (Or.inr rfl) (sc_x7 h3 (at_ok hN hs hD eS eD hj w))))⟩
    rw [h2]; exact rc_str (Or.inr rfl) (sc_e w)
theorem tx_x0 (hL : L ≤ 96) (hN : N < 40) (hs : s < 12) (hD : D ≤ 40) (eS : x_nodeSlot N = nI s) (eD : x_typeDetail s = nI D) {i i' j : Nat} {h a : Int32} (hG : ss_G x_text L i i') (hj : D ≤ j) (hj2 : j < 1000) : ∃ a', bx_R i (nI L, nI (N + 1), x_bound, 0, x_faultPlace, 7, a, x_tokenStart, nI j, 0, x_valueSlot, x_valueName, x_depth, x_outputLength, x_text, x_typeKind, x_typeDetail, x_typeLeast, x_typeMost, x_fieldCount, x_fieldName, x_fieldType, x_fieldNeeded, x_tagType, x_nodeKind, upd vl N h, x_nodeParent, x_nodeName, x_nodeSlot, x_nodeStart, x_nodeTag, x_completeCount, x_openNode, x_openSlot, x_openNames, x_openNext, x_openComma, x_output) i' (nI L, nI (N + 1), x_bound, 6, nI (i' - 1), 7, a', x_tokenStart, nI j, 0, x_valueSlot, x_valueName, x_depth, x_outputLength, x_text, x_typeKind, x_typeDetail, x_typeLeast, x_typeMost, x_fieldCount, x_fieldName, x_fieldType, x_fieldNeeded, x_tagType, x_nodeKind, upd vl N h, x_nodeParent, x_nodeName, x_nodeSlot, x_nodeStart, x_nodeTag, x_completeCount, x_openNode, x_openSlot, x_openNames, x_openNext, x_openComma, x_output) := by
  rcases hG with ⟨h1, h2, h3, rfl⟩ | ⟨h1, h2, h3, rfl⟩
  · exact ⟨nI i, bx_1 h1 hL _ (fun Q w => rc_str (Or.inr rfl) (sc_t h3 h2 (at_no hN hs hD eS eD hj hj2 w)))⟩
  · refine ⟨nI (i + 1), bx_T (bx_1 (by omega) hL (nI L, nI (N + 1), x_bound, 0, x_faultPlace, 7, nI i, x_tokenStart, nI j, 1, x_valueSlot, x_valueName, x_depth, x_outputLength, x_text, x_typeKind, x_typeDetail, x_typeLeast, x_typeMost, x_fieldCount, x_fieldName, x_fieldType, x_fieldNeeded, x_tagType, x_nodeKind, upd vl N h, x_nodeParent, x_nodeName, x_nodeSlot, x_nodeStart, x_nodeTag, x_completeCount, x_openNode, x_openSlot, x_openNames, x_openNext, x_openComma, x_output) (fun Q w => ?_)) (bx_1 h1 hL _ (fun Q w => rc_str (Or.inr rfl) (sc_x7 h3 (at_no hN hs hD eS eD hj hj2 w))))⟩
    rw [h2]; exact rc_str (Or.inr rfl) (sc_e w)
theorem tx_y {Q : SY → Prop} (hL : L ≤ 96) (hN : N < 40) (hs : s < 12) (hD : D ≤ 40) (eS : y_slotOf N = nI s) (eD : y_typeA s = nI D) {i i' j last : Nat} {h : Int32} (hG : ss_G x_text L i i') (hl : i' ≤ last) (hl2 : last ≤ L) (hj : j < 1000)
    (h1 : j < D → ∃ n, wY_bindText_43 Q (nI N) (nI last) n (nI (j + 1)) (nI i') (32 * h + x_text (i' - 1)) y_length y_parts y_bad y_nodes 0 y_place y_bound y_depth y_nextName y_wantsName y_wantsTag y_printed y_waiting y_scaled y_sort y_typeA y_typeB y_typeC y_fieldName y_fieldType y_fields y_tags y_needed x_text y_begin y_end y_inside y_whole y_kind y_value y_parent y_name y_slotOf y_placeOf y_complete y_openNode y_openType y_openCount y_openNames y_openChoice y_output y_todo) (h0 : D ≤ j → Q (y_length, y_parts, y_bad, y_nodes, 6, nI (i' - 1), y_bound, y_depth, y_nextName, y_wantsName, y_wantsTag, y_printed, y_waiting, y_scaled, y_sort, y_typeA, y_typeB, y_typeC, y_fieldName, y_fieldType, y_fields, y_tags, y_needed, x_text, y_begin, y_end, y_inside, y_whole, y_kind, upd y_value N (32 * h + x_text (i' - 1)), y_parent, y_name, y_slotOf, y_placeOf, y_complete, y_openNode, y_openType, y_openCount, y_openNames, y_openChoice, y_output, y_todo)) : ∃ n, wY_bindText_43 Q (nI N) (nI last) n (nI j) (nI i) h y_length y_parts y_bad y_nodes 0 y_place y_bound y_depth y_nextName y_wantsName y_wantsTag y_printed y_waiting y_scaled y_sort y_typeA y_typeB y_typeC y_fieldName y_fieldType y_fields y_tags y_needed x_text y_begin y_end y_inside y_whole y_kind y_value y_parent y_name y_slotOf y_placeOf y_complete y_openNode y_openType y_openCount y_openNames y_openChoice y_output y_todo := by
  have hlt := ss_G_lt hG
  have eN : (nI N).toNatClampNeg = N := nI_clamp (by omega)
  have iN : vp_in (nI N) 40 := vp_in_nI hN (by decide)
  have ess : (nI s).toNatClampNeg = s := nI_clamp (by omega)
  have is : vp_in (nI s) 12 := vp_in_nI hs (by decide)
  obtain ⟨c, rfl⟩ : ∃ c, i' = c + 1 := ⟨i' - 1, by omega⟩
  have ec : (nI c).toNatClampNeg = c := nI_clamp (by omega)
  have ic : vp_in (nI c) 96 := vp_in_nI (by omega) (by decide)
  have nle : ¬ nI last ≤ nI i := nI_ge (by omega) (by omega)
  rw [show c + 1 - 1 = c from rfl] at h1 h0
  -- from the character on
  have key : ∃ n, wY_bindText_72 Q (wY_bindText_43 Q (nI N) (nI last) n) (nI N) (nI j) (nI c) (nI last) h y_length y_parts y_bad y_nodes 0 y_place y_bound y_depth y_nextName y_wantsName y_wantsTag y_printed y_waiting y_scaled y_sort y_typeA y_typeB y_typeC y_fieldName y_fieldType y_fields y_tags y_needed x_text y_begin y_end y_inside y_whole y_kind y_value y_parent y_name y_slotOf y_placeOf y_complete y_openNode y_openType y_openCount y_openNames y_openChoice y_output y_todo := by
    rcases Nat.lt_or_ge j D with w | w
    · obtain ⟨n, hn⟩ := h1 w
      refine ⟨n, br_t (nI_lt (by omega) (by omega)) (nm_r (nI_1 j) ⟨iN, ?_⟩)⟩
      rw [eN, eS, ess, eD]
      refine ⟨is, br_t (nI_le (by omega) (by omega)) ⟨ic, ?_⟩⟩
      rw [ec]
      exact nm_e (nm_r (nI_1 c) hn)
    · refine ⟨1, br_t (nI_lt (by omega) (by omega)) (nm_r (nI_1 j) ⟨iN, ?_⟩)⟩
      rw [eN, eS, ess, eD]
      refine ⟨is, br_f (nI_ge (by omega) (by omega)) (br_t rfl ⟨ic, ?_⟩)⟩
      rw [ec]
      refine nm_e (nm_r (nI_1 c) ?_)
      have fin : vp_in (nI N) 40 ∧ ∀ a : Nat → Int32, a = upd y_value (nI N).toNatClampNeg (32 * h + x_text c) → Q (y_length, y_parts, y_bad, y_nodes, 6, nI c, y_bound, y_depth, y_nextName, y_wantsName, y_wantsTag, y_printed, y_waiting, y_scaled, y_sort, y_typeA, y_typeB, y_typeC, y_fieldName, y_fieldType, y_fields, y_tags, y_needed, x_text, y_begin, y_end, y_inside, y_whole, y_kind, a, y_parent, y_name, y_slotOf, y_placeOf, y_complete, y_openNode, y_openType, y_openCount, y_openNames, y_openChoice, y_output, y_todo) := by
        rw [eN]; exact ⟨iN, nm_e (h0 w)⟩
      exact br_c (fun _ => fin) (fun _ => br_f (by decide) fin)
  obtain ⟨n, hn⟩ := key
  rcases hG with ⟨g1, g2, g3, g4⟩ | ⟨g1, g2, g3, g4⟩
  · have : c = i := by omega
    subst this
    refine ⟨n + 1, br_f nle (br_t rfl ⟨ic, ?_⟩)⟩
    rw [ec]; exact br_f g3 hn
  · have : c = i + 1 := by omega
    subst this
    refine ⟨n + 1, br_f nle (br_t rfl ⟨vp_in_nI (by omega) (by decide), ?_⟩)⟩
    rw [nI_clamp (by omega)]
    exact br_t g2 (nm_r (nI_1 i) hn)
end
section
variable {x_bound x_faultPlace x_tokenStart x_valueSlot x_valueName x_depth x_outputLength : Int32} {x_text x_typeKind x_typeDetail x_typeLeast x_typeMost x_fieldCount x_fieldName x_fieldType x_fieldNeeded x_tagType x_nodeKind x_nodeParent x_nodeName x_nodeSlot x_nodeStart x_nodeTag x_completeCount x_openNode x_openSlot x_openNames x_openNext x_openComma x_output : Nat → Int32} {y_length y_parts y_bad y_nodes y_place y_bound y_depth y_nextName y_wantsName y_wantsTag y_printed y_waiting y_scaled : Int32} {y_sort y_typeA y_typeB y_typeC y_fieldName y_fieldType y_fields y_tags y_needed y_text y_begin y_end y_inside y_whole y_kind y_value y_parent y_name y_slotOf y_placeOf y_complete y_openNode y_openType y_openCount y_openNames y_openChoice y_output y_todo : Nat → Int32} {L N s D : Nat} {vl : Nat → Int32}
theorem tx_run (hL : L ≤ 96) (hN : N < 40) (hs : s < 12) (hD : D ≤ 40) (eS : x_nodeSlot N = nI s) (eD : x_typeDetail s = nI D) (eS' : y_slotOf N = nI s) (eD' : y_typeA s = nI D) {last : Nat} (hl2 : last ≤ L) : ∀ (m i q j : Nat) (h a : Int32), ss_R x_text L m i q → q ≤ last → j ≤ i → i ≤ L →
    (∃ j' h' a', bx_R i (nI L, nI (N + 1), x_bound, 0, x_faultPlace, 7, a, x_tokenStart, nI j, 0, x_valueSlot, x_valueName, x_depth, x_outputLength, x_text, x_typeKind, x_typeDetail, x_typeLeast, x_typeMost, x_fieldCount, x_fieldName, x_fieldType, x_fieldNeeded, x_tagType, x_nodeKind, upd vl N h, x_nodeParent, x_nodeName, x_nodeSlot, x_nodeStart, x_nodeTag, x_completeCount, x_openNode, x_openSlot, x_openNames, x_openNext, x_openComma, x_output) q (nI L, nI (N + 1), x_bound, 0, x_faultPlace, 7, a', x_tokenStart, nI j', 0, x_valueSlot, x_valueName, x_depth, x_outputLength, x_text, x_typeKind, x_typeDetail, x_typeLeast, x_typeMost, x_fieldCount, x_fieldName, x_fieldType, x_fieldNeeded, x_tagType, x_nodeKind, upd vl N h', x_nodeParent, x_nodeName, x_nodeSlot, x_nodeStart, x_nodeTag, x_completeCount, x_openNode, x_openSlot, x_openNames, x_openNext, x_openComma, x_output) ∧ ∀ Q : SY → Prop, (∃ n, wY_bindText_43 Q (nI N) (nI last) n (nI j') (nI q) h' y_length y_parts y_bad y_nodes 0 y_place y_bound y_depth y_nextName y_wantsName y_wantsTag y_printed y_waiting y_scaled y_sort y_typeA y_typeB y_typeC y_fieldName y_fieldType y_fields y_tags y_needed x_text y_begin y_end y_inside y_whole y_kind y_value y_parent y_name y_slotOf y_placeOf y_complete y_openNode y_openType y_openCount y_openNames y_openChoice y_output y_todo) → ∃ n, wY_bindText_43 Q (nI N) (nI last) n (nI j) (nI i) h y_length y_parts y_bad y_nodes 0 y_place y_bound y_depth y_nextName y_wantsName y_wantsTag y_printed y_waiting y_scaled y_sort y_typeA y_typeB y_typeC y_fieldName y_fieldType y_fields y_tags y_needed x_text y_begin y_end y_inside y_whole y_kind y_value y_parent y_name y_slotOf y_placeOf y_complete y_openNode y_openType y_openCount y_openNames y_openChoice y_output y_todo) ∨
    (∃ z p' j' h' a' hv, bx_R i (nI L, nI (N + 1), x_bound, 0, x_faultPlace, 7, a, x_tokenStart, nI j, 0, x_valueSlot, x_valueName, x_depth, x_outputLength, x_text, x_typeKind, x_typeDetail, x_typeLeast, x_typeMost, x_fieldCount, x_fieldName, x_fieldType, x_fieldNeeded, x_tagType, x_nodeKind, upd vl N h, x_nodeParent, x_nodeName, x_nodeSlot, x_nodeStart, x_nodeTag, x_completeCount, x_openNode, x_openSlot, x_openNames, x_openNext, x_openComma, x_output) p' (nI L, nI (N + 1), x_bound, 6, nI z, 7, a', x_tokenStart, nI j', 0, x_valueSlot, x_valueName, x_depth, x_outputLength, x_text, x_typeKind, x_typeDetail, x_typeLeast, x_typeMost, x_fieldCount, x_fieldName, x_fieldType, x_fieldNeeded, x_tagType, x_nodeKind, upd vl N h', x_nodeParent, x_nodeName, x_nodeSlot, x_nodeStart, x_nodeTag, x_completeCount, x_openNode, x_openSlot, x_openNames, x_openNext, x_openComma, x_output) ∧ ∀ Q : SY → Prop, Q (y_length, y_parts, y_bad, y_nodes, 6, nI z, y_bound, y_depth, y_nextName, y_wantsName, y_wantsTag, y_printed, y_waiting, y_scaled, y_sort, y_typeA, y_typeB, y_typeC, y_fieldName, y_fieldType, y_fields, y_tags, y_needed, x_text, y_begin, y_end, y_inside, y_whole, y_kind, upd y_value N hv, y_parent, y_name, y_slotOf, y_placeOf, y_complete, y_openNode, y_openType, y_openCount, y_openNames, y_openChoice, y_output, y_todo) → ∃ n, wY_bindText_43 Q (nI N) (nI last) n (nI j) (nI i) h y_length y_parts y_bad y_nodes 0 y_place y_bound y_depth y_nextName y_wantsName y_wantsTag y_printed y_waiting y_scaled y_sort y_typeA y_typeB y_typeC y_fieldName y_fieldType y_fields y_tags y_needed x_text y_begin y_end y_inside y_whole y_kind y_value y_parent y_name y_slotOf y_placeOf y_complete y_openNode y_openType y_openCount y_openNames y_openChoice y_output y_todo) := by
  intro m
  induction m with
  | zero =>
    intro i q j h a hR hq hji hiL
    cases hR
    exact Or.inl ⟨j, h, a, bx_0 _ _, fun Q w => w⟩
  | succ m ih =>
    intro i q j h a hR hq hji hiL
    obtain ⟨i', hG, hR'⟩ := hR
    have hlt := ss_G_lt hG
    have hle := ss_R_le hR'
    rcases Nat.lt_or_ge j D with w | w
    · obtain ⟨a1, r1⟩ : ∃ a', bx_R i (nI L, nI (N + 1), x_bound, 0, x_faultPlace, 7, a, x_tokenStart, nI j, 0, x_valueSlot, x_valueName, x_depth, x_outputLength, x_text, x_typeKind, x_typeDetail, x_typeLeast, x_typeMost, x_fieldCount, x_fieldName, x_fieldType, x_fieldNeeded, x_tagType, x_nodeKind, upd vl N h, x_nodeParent, x_nodeName, x_nodeSlot, x_nodeStart, x_nodeTag, x_completeCount, x_openNode, x_openSlot, x_openNames, x_openNext, x_openComma, x_output) i' (nI L, nI (N + 1), x_bound, 0, x_faultPlace, 7, a', x_tokenStart, nI (j + 1), 0, x_valueSlot, x_valueName, x_depth, x_outputLength, x_text, x_typeKind, x_typeDetail, x_typeLeast, x_typeMost, x_fieldCount, x_fieldName, x_fieldType, x_fieldNeeded, x_tagType, x_nodeKind, upd vl N (32 * h + x_text (i' - 1)), x_nodeParent, x_nodeName, x_nodeSlot, x_nodeStart, x_nodeTag, x_completeCount, x_openNode, x_openSlot, x_openNames, x_openNext, x_openComma, x_output) := tx_x1 hL hN hs hD eS eD hG w
      have y1 : ∀ Q : SY → Prop, (∃ n, wY_bindText_43 Q (nI N) (nI last) n (nI (j + 1)) (nI i') (32 * h + x_text (i' - 1)) y_length y_parts y_bad y_nodes 0 y_place y_bound y_depth y_nextName y_wantsName y_wantsTag y_printed y_waiting y_scaled y_sort y_typeA y_typeB y_typeC y_fieldName y_fieldType y_fields y_tags y_needed x_text y_begin y_end y_inside y_whole y_kind y_value y_parent y_name y_slotOf y_placeOf y_complete y_openNode y_openType y_openCount y_openNames y_openChoice y_output y_todo) → ∃ n, wY_bindText_43 Q (nI N) (nI last) n (nI j) (nI i) h y_length y_parts y_bad y_nodes 0 y_place y_bound y_depth y_nextName y_wantsName y_wantsTag y_printed y_waiting y_scaled y_sort y_typeA y_typeB y_typeC y_fieldName y_fieldType y_fields y_tags y_needed x_text y_begin y_end y_inside y_whole y_kind y_value y_parent y_name y_slotOf y_placeOf y_complete y_openNode y_openType y_openCount y_openNames y_openChoice y_output y_todo := fun Q h1 => tx_y hL hN hs hD eS' eD' hG (by omega) hl2 (by omega) (fun _ => h1) (fun z => absurd z (by omega))
      rcases ih i' q (j + 1) (32 * h + x_text (i' - 1)) a1 hR' hq (by omega) (by omega) with ⟨j', h', a', x2, y2⟩ | ⟨z, p', j', h', a', hv, x2, y2⟩
      · exact Or.inl ⟨j', h', a', bx_T r1 x2, fun Q v => y1 Q (y2 Q v)⟩
      · exact Or.inr ⟨z, p', j', h', a', hv, bx_T r1 x2, fun Q v => y1 Q (y2 Q v)⟩
    · obtain ⟨a1, r1⟩ : ∃ a', bx_R i (nI L, nI (N + 1), x_bound, 0, x_faultPlace, 7, a, x_tokenStart, nI j, 0, x_valueSlot, x_valueName, x_depth, x_outputLength, x_text, x_typeKind, x_typeDetail, x_typeLeast, x_typeMost, x_fieldCount, x_fieldName, x_fieldType, x_fieldNeeded, x_tagType, x_nodeKind, upd vl N h, x_nodeParent, x_nodeName, x_nodeSlot, x_nodeStart, x_nodeTag, x_completeCount, x_openNode, x_openSlot, x_openNames, x_openNext, x_openComma, x_output) i' (nI L, nI (N + 1), x_bound, 6, nI (i' - 1), 7, a', x_tokenStart, nI j, 0, x_valueSlot, x_valueName, x_depth, x_outputLength, x_text, x_typeKind, x_typeDetail, x_typeLeast, x_typeMost, x_fieldCount, x_fieldName, x_fieldType, x_fieldNeeded, x_tagType, x_nodeKind, upd vl N h, x_nodeParent, x_nodeName, x_nodeSlot, x_nodeStart, x_nodeTag, x_completeCount, x_openNode, x_openSlot, x_openNames, x_openNext, x_openComma, x_output) := tx_x0 hL hN hs hD eS eD hG w (by omega)
      exact Or.inr ⟨i' - 1, i', j, h, a1, _, r1, fun Q v => tx_y hL hN hs hD eS' eD' hG (by omega) hl2 (by omega) (fun z => absurd z (by omega)) (fun _ => v)⟩
end
end
section
/-! the bind: a number's end -/
theorem nu_rg {xu : Int64} {ok sc : Int32} (h : nu_R xu ok sc) (lo hi : Int32) : ((lo.toInt64 ≤ xu ∧ xu ≤ hi.toInt64) ↔ (ok = 1 ∧ lo ≤ sc ∧ sc ≤ hi)) ∧ (ok = 1 → xu.toInt32 = sc) := by
  rcases h with ⟨rfl, rfl⟩ | ⟨rfl, h⟩
  · refine ⟨⟨fun w => ⟨rfl, ?_, ?_⟩, fun w => ⟨?_, ?_⟩⟩, fun _ => lg_l2i_i2l sc⟩
    · have := w.1; rw [Int64.le_iff_toInt_le, Int32.toInt_toInt64, Int32.toInt_toInt64] at this; exact Int32.le_iff_toInt_le.mpr this
    · have := w.2; rw [Int64.le_iff_toInt_le, Int32.toInt_toInt64, Int32.toInt_toInt64] at this; exact Int32.le_iff_toInt_le.mpr this
    · rw [Int64.le_iff_toInt_le, Int32.toInt_toInt64, Int32.toInt_toInt64]; exact Int32.le_iff_toInt_le.mp w.2.1
    · rw [Int64.le_iff_toInt_le, Int32.toInt_toInt64, Int32.toInt_toInt64]; exact Int32.le_iff_toInt_le.mp w.2.2
  · refine ⟨⟨fun w => ?_, fun w => absurd w.1 (by decide)⟩, fun w => absurd w (by decide)⟩
    exfalso
    have a := w.1; have b := w.2
    rw [Int64.le_iff_toInt_le, Int32.toInt_toInt64] at a b
    have c := Int32.le_toInt lo; have d := Int32.toInt_lt hi
    omega
section
variable {x_nodeCount x_bound x_faultPlace x_at x_tokenStart x_textCount x_escaped x_valueSlot x_valueName x_depth x_outputLength : Int32} {x_text x_typeKind x_typeDetail x_typeLeast x_typeMost x_fieldCount x_fieldName x_fieldType x_fieldNeeded x_tagType x_nodeKind x_nodeValue x_nodeParent x_nodeName x_nodeSlot x_nodeStart x_nodeTag x_completeCount x_openNode x_openSlot x_openNames x_openNext x_openComma x_output : Nat → Int32} {L q : Nat} {M : Int32}
theorem bx_N (hL : L ≤ 96) (hq : q ≤ L) (h8 : ¬ M < 8) (hn : q < L → nn_S M (x_text q)) {vl tg os : Nat → Int32} (he : ∀ Q : SX → Prop, Q (nI L, x_nodeCount, x_bound, 0, x_faultPlace, 2, nI q, x_tokenStart, x_textCount, x_escaped, x_valueSlot, x_valueName, x_depth, x_outputLength, x_text, x_typeKind, x_typeDetail, x_typeLeast, x_typeMost, x_fieldCount, x_fieldName, x_fieldType, x_fieldNeeded, x_tagType, x_nodeKind, vl, x_nodeParent, x_nodeName, x_nodeSlot, x_nodeStart, tg, x_completeCount, x_openNode, os, x_openNames, x_openNext, x_openComma, x_output) → wpX_endNumber Q (nI L, x_nodeCount, x_bound, 0, x_faultPlace, M, nI q, x_tokenStart, x_textCount, x_escaped, x_valueSlot, x_valueName, x_depth, x_outputLength, x_text, x_typeKind, x_typeDetail, x_typeLeast, x_typeMost, x_fieldCount, x_fieldName, x_fieldType, x_fieldNeeded, x_tagType, x_nodeKind, x_nodeValue, x_nodeParent, x_nodeName, x_nodeSlot, x_nodeStart, x_nodeTag, x_completeCount, x_openNode, x_openSlot, x_openNames, x_openNext, x_openComma, x_output)) : bx_R q (nI L, x_nodeCount, x_bound, 0, x_faultPlace, M, x_at, x_tokenStart, x_textCount, x_escaped, x_valueSlot, x_valueName, x_depth, x_outputLength, x_text, x_typeKind, x_typeDetail, x_typeLeast, x_typeMost, x_fieldCount, x_fieldName, x_fieldType, x_fieldNeeded, x_tagType, x_nodeKind, x_nodeValue, x_nodeParent, x_nodeName, x_nodeSlot, x_nodeStart, x_nodeTag, x_completeCount, x_openNode, x_openSlot, x_openNames, x_openNext, x_openComma, x_output) q (nI L, x_nodeCount, x_bound, 0, x_faultPlace, 2, nI q, x_tokenStart, x_textCount, x_escaped, x_valueSlot, x_valueName, x_depth, x_outputLength, x_text, x_typeKind, x_typeDetail, x_typeLeast, x_typeMost, x_fieldCount, x_fieldName, x_fieldType, x_fieldNeeded, x_tagType, x_nodeKind, vl, x_nodeParent, x_nodeName, x_nodeSlot, x_nodeStart, tg, x_completeCount, x_openNode, os, x_openNames, x_openNext, x_openComma, x_output) := by
  intro post hb
  obtain ⟨n, hb⟩ := hb
  cases n with
  | zero => exact hb.elim
  | succ n =>
    rcases Nat.lt_or_ge q L with w | w
    · have h1 := ((hb.2 (nI_ge w (by omega))).1 rfl).2
      refine ⟨n + 1, br_f (nI_ge w (by omega)) (br_t rfl ⟨vp_in_nI (by omega) (by decide), ?_⟩)⟩
      rw [nI_clamp (by omega)] at h1 ⊢
      exact br_f h8 (nn_no (hn w) (br_t rfl (he _ (h1.1 (by decide)))))
    · have e : q = L := by omega
      subst e
      have h1 := (hb.1 (nI_le (Nat.le_refl _) (by omega))).1 rfl
      exact ⟨1, br_t (nI_le (Nat.le_refl _) (by omega)) (br_t rfl (br_f h8 (he _ (h1.1 (by decide)))))⟩
theorem bx_Nf (hL : L ≤ 96) (hq : q ≤ L) (h8 : ¬ M < 8) (hn : q < L → nn_S M (x_text q)) {f z M' : Int32} (hf : ¬ f = 0) (he : ∀ Q : SX → Prop, Q (nI L, x_nodeCount, x_bound, f, z, M', nI q, x_tokenStart, x_textCount, x_escaped, x_valueSlot, x_valueName, x_depth, x_outputLength, x_text, x_typeKind, x_typeDetail, x_typeLeast, x_typeMost, x_fieldCount, x_fieldName, x_fieldType, x_fieldNeeded, x_tagType, x_nodeKind, x_nodeValue, x_nodeParent, x_nodeName, x_nodeSlot, x_nodeStart, x_nodeTag, x_completeCount, x_openNode, x_openSlot, x_openNames, x_openNext, x_openComma, x_output) → wpX_endNumber Q (nI L, x_nodeCount, x_bound, 0, x_faultPlace, M, nI q, x_tokenStart, x_textCount, x_escaped, x_valueSlot, x_valueName, x_depth, x_outputLength, x_text, x_typeKind, x_typeDetail, x_typeLeast, x_typeMost, x_fieldCount, x_fieldName, x_fieldType, x_fieldNeeded, x_tagType, x_nodeKind, x_nodeValue, x_nodeParent, x_nodeName, x_nodeSlot, x_nodeStart, x_nodeTag, x_completeCount, x_openNode, x_openSlot, x_openNames, x_openNext, x_openComma, x_output)) {post : Int32 → SX → Prop} (hp : post f (nI L, x_nodeCount, 0, f, z, M', nI q, x_tokenStart, x_textCount, x_escaped, x_valueSlot, x_valueName, x_depth, x_outputLength, x_text, x_typeKind, x_typeDetail, x_typeLeast, x_typeMost, x_fieldCount, x_fieldName, x_fieldType, x_fieldNeeded, x_tagType, x_nodeKind, x_nodeValue, x_nodeParent, x_nodeName, x_nodeSlot, x_nodeStart, x_nodeTag, x_completeCount, x_openNode, x_openSlot, x_openNames, x_openNext, x_openComma, x_output)) : bx_L post q (nI L, x_nodeCount, x_bound, 0, x_faultPlace, M, x_at, x_tokenStart, x_textCount, x_escaped, x_valueSlot, x_valueName, x_depth, x_outputLength, x_text, x_typeKind, x_typeDetail, x_typeLeast, x_typeMost, x_fieldCount, x_fieldName, x_fieldType, x_fieldNeeded, x_tagType, x_nodeKind, x_nodeValue, x_nodeParent, x_nodeName, x_nodeSlot, x_nodeStart, x_nodeTag, x_completeCount, x_openNode, x_openSlot, x_openNames, x_openNext, x_openComma, x_output) := by
  rcases Nat.lt_or_ge q L with w | w
  · refine ⟨1 + 1, br_f (nI_ge w (by omega)) (br_t rfl ⟨vp_in_nI (by omega) (by decide), ?_⟩)⟩
    rw [nI_clamp (by omega)]
    exact br_f h8 (nn_no (hn w) (br_t rfl (he _ (br_f hf (nm_e (br_c (fun _ => br_f hf (br_f hf hp)) (fun _ => br_f hf (br_f hf (br_f hf hp)))))))))
  · have e : q = L := by omega
    subst e
    exact ⟨1, br_t (nI_le (Nat.le_refl _) (by omega)) (br_t rfl (br_f h8 (he _ (br_f hf (br_f hf hp)))))⟩
end
section
variable {x_length x_nodeCount x_bound x_fault x_faultPlace x_at x_tokenStart x_textCount x_escaped x_valueSlot x_valueName x_depth x_outputLength : Int32} {x_text x_typeKind x_typeDetail x_typeLeast x_typeMost x_fieldCount x_fieldName x_fieldType x_fieldNeeded x_tagType x_nodeKind x_nodeValue x_nodeParent x_nodeName x_nodeSlot x_nodeStart x_nodeTag x_completeCount x_openNode x_openSlot x_openNames x_openNext x_openComma x_output : Nat → Int32} {Q : SX → Prop} {M : Int32}
theorem ed_rej (hM : M = 8 ∨ M = 11 ∨ M = 13 ∨ M = 14) (h : Q (x_length, x_nodeCount, x_bound, 1, x_at, M, x_at, x_tokenStart, x_textCount, x_escaped, x_valueSlot, x_valueName, x_depth, x_outputLength, x_text, x_typeKind, x_typeDetail, x_typeLeast, x_typeMost, x_fieldCount, x_fieldName, x_fieldType, x_fieldNeeded, x_tagType, x_nodeKind, x_nodeValue, x_nodeParent, x_nodeName, x_nodeSlot, x_nodeStart, x_nodeTag, x_completeCount, x_openNode, x_openSlot, x_openNames, x_openNext, x_openComma, x_output)) : wpX_endNumber Q (x_length, x_nodeCount, x_bound, x_fault, x_faultPlace, M, x_at, x_tokenStart, x_textCount, x_escaped, x_valueSlot, x_valueName, x_depth, x_outputLength, x_text, x_typeKind, x_typeDetail, x_typeLeast, x_typeMost, x_fieldCount, x_fieldName, x_fieldType, x_fieldNeeded, x_tagType, x_nodeKind, x_nodeValue, x_nodeParent, x_nodeName, x_nodeSlot, x_nodeStart, x_nodeTag, x_completeCount, x_openNode, x_openSlot, x_openNames, x_openNext, x_openComma, x_output) := by
  rcases hM with rfl | rfl | rfl | rfl
  all_goals exact br_f (by decide) (br_f (by decide) (br_f (by decide) (br_f (by decide) h)))
theorem ed_acc (hM : M = 9 ∨ M = 10 ∨ M = 12 ∨ M = 15) (h : wX_endNumber_46 Q x_length x_nodeCount x_bound x_fault x_faultPlace M x_at x_tokenStart x_textCount x_escaped x_valueSlot x_valueName x_depth x_outputLength x_text x_typeKind x_typeDetail x_typeLeast x_typeMost x_fieldCount x_fieldName x_fieldType x_fieldNeeded x_tagType x_nodeKind x_nodeValue x_nodeParent x_nodeName x_nodeSlot x_nodeStart x_nodeTag x_completeCount x_openNode x_openSlot x_openNames x_openNext x_openComma x_output) : wpX_endNumber Q (x_length, x_nodeCount, x_bound, x_fault, x_faultPlace, M, x_at, x_tokenStart, x_textCount, x_escaped, x_valueSlot, x_valueName, x_depth, x_outputLength, x_text, x_typeKind, x_typeDetail, x_typeLeast, x_typeMost, x_fieldCount, x_fieldName, x_fieldType, x_fieldNeeded, x_tagType, x_nodeKind, x_nodeValue, x_nodeParent, x_nodeName, x_nodeSlot, x_nodeStart, x_nodeTag, x_completeCount, x_openNode, x_openSlot, x_openNames, x_openNext, x_openComma, x_output) := by
  rcases hM with rfl | rfl | rfl | rfl
  · exact br_t rfl h
  · exact br_f (by decide) (br_t rfl h)
  · exact br_f (by decide) (br_f (by decide) (br_t rfl h))
  · exact br_f (by decide) (br_f (by decide) (br_f (by decide) (br_t rfl h)))
end
section
variable {x_length x_bound x_fault x_faultPlace x_at x_tokenStart x_textCount x_escaped x_valueSlot x_valueName x_outputLength : Int32} {x_text x_typeKind x_typeDetail x_typeLeast x_typeMost x_fieldCount x_fieldName x_fieldType x_fieldNeeded x_tagType x_nodeKind x_nodeValue x_nodeParent x_nodeName x_nodeSlot x_nodeStart x_nodeTag x_completeCount x_openNode x_openSlot x_openNames x_openNext x_openComma x_output : Nat → Int32} {Q : SX → Prop} {M : Int32} {d N s dd b q n : Nat} {xu : Int64}
theorem tk_units (hN : N < 40) (hs : s < 12) (eS : x_nodeSlot N = nI s) (lo hi : Int32) (hlh : x_nodeKind N = 6 ∧ lo = 0 ∧ hi = x_completeCount s - 1 ∨ ¬ x_nodeKind N = 6 ∧ lo = x_typeLeast s ∧ hi = x_typeMost s)
    (h1 : lo.toInt64 ≤ xu ∧ xu ≤ hi.toInt64 → Q (x_length, nI (N + 1), x_bound, x_fault, x_faultPlace, 2, x_at, x_tokenStart, x_textCount, x_escaped, x_valueSlot, x_valueName, nI d, x_outputLength, x_text, x_typeKind, x_typeDetail, x_typeLeast, x_typeMost, x_fieldCount, x_fieldName, x_fieldType, x_fieldNeeded, x_tagType, x_nodeKind, upd x_nodeValue N xu.toInt32, x_nodeParent, x_nodeName, x_nodeSlot, x_nodeStart, x_nodeTag, x_completeCount, x_openNode, x_openSlot, x_openNames, x_openNext, x_openComma, x_output)) (h0 : ¬ (lo.toInt64 ≤ xu ∧ xu ≤ hi.toInt64) → Q (x_length, nI (N + 1), x_bound, 6, x_at - 1, 2, x_at, x_tokenStart, x_textCount, x_escaped, x_valueSlot, x_valueName, nI d, x_outputLength, x_text, x_typeKind, x_typeDetail, x_typeLeast, x_typeMost, x_fieldCount, x_fieldName, x_fieldType, x_fieldNeeded, x_tagType, x_nodeKind, x_nodeValue, x_nodeParent, x_nodeName, x_nodeSlot, x_nodeStart, x_nodeTag, x_completeCount, x_openNode, x_openSlot, x_openNames, x_openNext, x_openComma, x_output)) : wpX_takeUnits Q (x_length, nI (N + 1), x_bound, x_fault, x_faultPlace, 2, x_at, x_tokenStart, x_textCount, x_escaped, x_valueSlot, x_valueName, nI d, x_outputLength, x_text, x_typeKind, x_typeDetail, x_typeLeast, x_typeMost, x_fieldCount, x_fieldName, x_fieldType, x_fieldNeeded, x_tagType, x_nodeKind, x_nodeValue, x_nodeParent, x_nodeName, x_nodeSlot, x_nodeStart, x_nodeTag, x_completeCount, x_openNode, x_openSlot, x_openNames, x_openNext, x_openComma, x_output) xu := by
  have eN : (nI N).toNatClampNeg = N := nI_clamp (by omega)
  have ess : (nI s).toNatClampNeg = s := nI_clamp (by omega)
  have iN : vp_in (nI N) 40 := vp_in_nI hN (by decide)
  have is : vp_in (nI s) 12 := vp_in_nI hs (by decide)
  have fin : wX_takeUnits_75 Q xu (nI N) lo hi x_length (nI (N + 1)) x_bound x_fault x_faultPlace 2 x_at x_tokenStart x_textCount x_escaped x_valueSlot x_valueName (nI d) x_outputLength x_text x_typeKind x_typeDetail x_typeLeast x_typeMost x_fieldCount x_fieldName x_fieldType x_fieldNeeded x_tagType x_nodeKind x_nodeValue x_nodeParent x_nodeName x_nodeSlot x_nodeStart x_nodeTag x_completeCount x_openNode x_openSlot x_openNames x_openNext x_openComma x_output := by
    by_cases a : xu < lo.toInt64
    · exact br_t a (h0 (fun w => absurd a (Int64.not_lt.mpr w.1)))
    · refine br_f a ?_
      by_cases b : xu ≤ hi.toInt64
      · refine br_t b ⟨iN, ?_⟩
        rw [eN]; exact nm_e (h1 ⟨Int64.not_lt.mp a, b⟩)
      · exact br_f b (h0 (fun w => b w.2))
  refine nm_r (nI_pred N) ⟨iN, ?_⟩
  rw [eN]
  refine nm_r eS ⟨iN, ?_⟩
  rcases hlh with ⟨k6, rfl, rfl⟩ | ⟨k6, rfl, rfl⟩
  · refine br_t k6 (br_f (by decide) (br_f (by decide) ⟨is, ?_⟩))
    rw [ess]; exact fin
  · refine br_f k6 (br_t rfl ⟨is, br_t rfl ⟨is, ?_⟩⟩)
    rw [ess]; exact fin
/-- a value's number -/
theorem ed_val (hM : M = 9 ∨ M = 10 ∨ M = 12 ∨ M = 15) (hd6 : d ≤ 6) (hat : 0 < d → ¬ x_openSlot (d - 1) = -1) (hN : N < 40) (hs : s < 12) (eS : x_nodeSlot N = nI s) (hdd : x_nodeKind N = 0 ∧ x_typeDetail s = nI dd ∨ ¬ x_nodeKind N = 0 ∧ dd = 0)
    (hu : ∀ R : Int64 → Prop, R xu → wpX_readUnits R (x_length, nI (N + 1), x_bound, x_fault, x_faultPlace, 2, x_at, x_tokenStart, x_textCount, x_escaped, x_valueSlot, x_valueName, nI d, x_outputLength, x_text, x_typeKind, x_typeDetail, x_typeLeast, x_typeMost, x_fieldCount, x_fieldName, x_fieldType, x_fieldNeeded, x_tagType, x_nodeKind, x_nodeValue, x_nodeParent, x_nodeName, x_nodeSlot, x_nodeStart, x_nodeTag, x_completeCount, x_openNode, x_openSlot, x_openNames, x_openNext, x_openComma, x_output) (nI dd)) (h : wpX_takeUnits Q (x_length, nI (N + 1), x_bound, x_fault, x_faultPlace, 2, x_at, x_tokenStart, x_textCount, x_escaped, x_valueSlot, x_valueName, nI d, x_outputLength, x_text, x_typeKind, x_typeDetail, x_typeLeast, x_typeMost, x_fieldCount, x_fieldName, x_fieldType, x_fieldNeeded, x_tagType, x_nodeKind, x_nodeValue, x_nodeParent, x_nodeName, x_nodeSlot, x_nodeStart, x_nodeTag, x_completeCount, x_openNode, x_openSlot, x_openNames, x_openNext, x_openComma, x_output) xu) : wpX_endNumber Q (x_length, nI (N + 1), x_bound, x_fault, x_faultPlace, M, x_at, x_tokenStart, x_textCount, x_escaped, x_valueSlot, x_valueName, nI d, x_outputLength, x_text, x_typeKind, x_typeDetail, x_typeLeast, x_typeMost, x_fieldCount, x_fieldName, x_fieldType, x_fieldNeeded, x_tagType, x_nodeKind, x_nodeValue, x_nodeParent, x_nodeName, x_nodeSlot, x_nodeStart, x_nodeTag, x_completeCount, x_openNode, x_openSlot, x_openNames, x_openNext, x_openComma, x_output) := by
  have eN : (nI N).toNatClampNeg = N := nI_clamp (by omega)
  have ess : (nI s).toNatClampNeg = s := nI_clamp (by omega)
  have iN : vp_in (nI N) 40 := vp_in_nI hN (by decide)
  have at0 : ∀ R : Int32 → Prop, R 0 → wpX_isAtTag R (x_length, nI (N + 1), x_bound, x_fault, x_faultPlace, 2, x_at, x_tokenStart, x_textCount, x_escaped, x_valueSlot, x_valueName, nI d, x_outputLength, x_text, x_typeKind, x_typeDetail, x_typeLeast, x_typeMost, x_fieldCount, x_fieldName, x_fieldType, x_fieldNeeded, x_tagType, x_nodeKind, x_nodeValue, x_nodeParent, x_nodeName, x_nodeSlot, x_nodeStart, x_nodeTag, x_completeCount, x_openNode, x_openSlot, x_openNames, x_openNext, x_openComma, x_output) := by
    intro R r
    cases d with
    | zero => exact xt_0 r
    | succ d => exact xt_f (by omega) (hat (by omega)) r
  have e102 : ∀ z0 : Int32, z0 = nI dd → wX_endNumber_102 Q z0 x_length (nI (N + 1)) x_bound x_fault x_faultPlace 2 x_at x_tokenStart x_textCount x_escaped x_valueSlot x_valueName (nI d) x_outputLength x_text x_typeKind x_typeDetail x_typeLeast x_typeMost x_fieldCount x_fieldName x_fieldType x_fieldNeeded x_tagType x_nodeKind x_nodeValue x_nodeParent x_nodeName x_nodeSlot x_nodeStart x_nodeTag x_completeCount x_openNode x_openSlot x_openNames x_openNext x_openComma x_output := by
    rintro z0 rfl
    unfold wX_endNumber_102
    refine hu _ (at0 _ (br_t rfl h))
  refine ed_acc hM ?_
  unfold wX_endNumber_46
  refine at0 _ (br_t rfl ?_)
  rw [nI_pred, eN]
  refine ⟨iN, ?_⟩
  rcases hdd with ⟨k0, eD⟩ | ⟨k0, rfl⟩
  · refine br_t k0 (br_f (by decide) ?_)
    rw [nI_pred, eN, eS, ess]
    exact ⟨iN, vp_in_nI hs (by decide), e102 _ eD⟩
  · exact br_f k0 (br_t rfl (e102 _ rfl))
end
section
variable {x_length x_nodeCount x_bound x_fault x_faultPlace x_at x_tokenStart x_textCount x_escaped x_valueSlot x_valueName x_outputLength : Int32} {x_text x_typeKind x_typeDetail x_typeLeast x_typeMost x_fieldCount x_fieldName x_fieldType x_fieldNeeded x_tagType x_nodeKind x_nodeValue x_nodeParent x_nodeName x_nodeSlot x_nodeStart x_nodeTag x_completeCount x_openNode x_openSlot x_openNames x_openNext x_openComma x_output : Nat → Int32} {Q : SX → Prop} {M : Int32} {d s n : Nat} {xu : Int64}
/-- a tag's number -/
theorem ed_tag (hM : M = 9 ∨ M = 10 ∨ M = 12 ∨ M = 15) (hd6 : d < 6) (es : x_openSlot d = -1) (eo : x_openNode d = nI n) (hn : n < 40) (esl : x_nodeSlot n = nI s) (hs : s < 12)
    (hu : ∀ R : Int64 → Prop, R xu → wpX_readUnits R (x_length, x_nodeCount, x_bound, x_fault, x_faultPlace, 2, x_at, x_tokenStart, x_textCount, x_escaped, x_valueSlot, x_valueName, nI (d + 1), x_outputLength, x_text, x_typeKind, x_typeDetail, x_typeLeast, x_typeMost, x_fieldCount, x_fieldName, x_fieldType, x_fieldNeeded, x_tagType, x_nodeKind, x_nodeValue, x_nodeParent, x_nodeName, x_nodeSlot, x_nodeStart, x_nodeTag, x_completeCount, x_openNode, x_openSlot, x_openNames, x_openNext, x_openComma, x_output) 0)
    (h1 : ∀ i r, i < 6 → xu.toInt32 = nI i → ((0 : Int32).toInt64 ≤ xu ∧ xu ≤ (5 : Int32).toInt64) → x_tagType (6 * s + i) = nI r → r < 12 → x_typeKind r = 5 → Q (x_length, x_nodeCount, x_bound, x_fault, x_faultPlace, 2, x_at, x_tokenStart, x_textCount, x_escaped, x_valueSlot, x_valueName, nI (d + 1), x_outputLength, x_text, x_typeKind, x_typeDetail, x_typeLeast, x_typeMost, x_fieldCount, x_fieldName, x_fieldType, x_fieldNeeded, x_tagType, x_nodeKind, upd x_nodeValue n (nI r), x_nodeParent, x_nodeName, x_nodeSlot, x_nodeStart, upd x_nodeTag n (nI i), x_completeCount, x_openNode, upd x_openSlot d (nI r), x_openNames, x_openNext, x_openComma, x_output))
    (htg : ∀ i, i < 6 → x_tagType (6 * s + i) = -1 ∨ ∃ r, r < 12 ∧ x_tagType (6 * s + i) = nI r)
    (hsc : ((0 : Int32).toInt64 ≤ xu ∧ xu ≤ (5 : Int32).toInt64) → ∃ i, i < 6 ∧ xu.toInt32 = nI i)
    (h0 : (¬ ((0 : Int32).toInt64 ≤ xu ∧ xu ≤ (5 : Int32).toInt64) ∨ ∃ i, i < 6 ∧ xu.toInt32 = nI i ∧ (x_tagType (6 * s + i) = -1 ∨ ∃ r, r < 12 ∧ x_tagType (6 * s + i) = nI r ∧ ¬ x_typeKind r = 5)) → Q (x_length, x_nodeCount, x_bound, 6, x_at - 1, 2, x_at, x_tokenStart, x_textCount, x_escaped, x_valueSlot, x_valueName, nI (d + 1), x_outputLength, x_text, x_typeKind, x_typeDetail, x_typeLeast, x_typeMost, x_fieldCount, x_fieldName, x_fieldType, x_fieldNeeded, x_tagType, x_nodeKind, x_nodeValue, x_nodeParent, x_nodeName, x_nodeSlot, x_nodeStart, x_nodeTag, x_completeCount, x_openNode, x_openSlot, x_openNames, x_openNext, x_openComma, x_output)) : wpX_endNumber Q (x_length, x_nodeCount, x_bound, x_fault, x_faultPlace, M, x_at, x_tokenStart, x_textCount, x_escaped, x_valueSlot, x_valueName, nI (d + 1), x_outputLength, x_text, x_typeKind, x_typeDetail, x_typeLeast, x_typeMost, x_fieldCount, x_fieldName, x_fieldType, x_fieldNeeded, x_tagType, x_nodeKind, x_nodeValue, x_nodeParent, x_nodeName, x_nodeSlot, x_nodeStart, x_nodeTag, x_completeCount, x_openNode, x_openSlot, x_openNames, x_openNext, x_openComma, x_output) := by
  have ed : (nI d).toNatClampNeg = d := nI_clamp (by omega)
  have en : (nI n).toNatClampNeg = n := nI_clamp (by omega)
  have i6 : vp_in (nI d) 6 := vp_in_nI hd6 (by decide)
  have i40 : vp_in (nI n) 40 := vp_in_nI hn (by decide)
  have tk : wpX_takeTag Q (x_length, x_nodeCount, x_bound, x_fault, x_faultPlace, 2, x_at, x_tokenStart, x_textCount, x_escaped, x_valueSlot, x_valueName, nI (d + 1), x_outputLength, x_text, x_typeKind, x_typeDetail, x_typeLeast, x_typeMost, x_fieldCount, x_fieldName, x_fieldType, x_fieldNeeded, x_tagType, x_nodeKind, x_nodeValue, x_nodeParent, x_nodeName, x_nodeSlot, x_nodeStart, x_nodeTag, x_completeCount, x_openNode, x_openSlot, x_openNames, x_openNext, x_openComma, x_output) xu := by
    refine nm_r (nI_pred d) ⟨i6, ?_⟩
    rw [ed]
    refine nm_r eo ?_
    rw [en, esl]
    have no : ¬ ((0 : Int32).toInt64 ≤ xu ∧ xu ≤ (5 : Int32).toInt64) → wX_takeTag_52 Q xu (nI d) (nI n) (-1) x_length x_nodeCount x_bound x_fault x_faultPlace 2 x_at x_tokenStart x_textCount x_escaped x_valueSlot x_valueName (nI (d + 1)) x_outputLength x_text x_typeKind x_typeDetail x_typeLeast x_typeMost x_fieldCount x_fieldName x_fieldType x_fieldNeeded x_tagType x_nodeKind x_nodeValue x_nodeParent x_nodeName x_nodeSlot x_nodeStart x_nodeTag x_completeCount x_openNode x_openSlot x_openNames x_openNext x_openComma x_output := fun w => br_t rfl (h0 (Or.inl w))
    by_cases a : xu < 0
    · refine br_t a (no (fun w => ?_))
      have := w.1
      rw [Int64.le_iff_toInt_le] at this
      rw [Int64.lt_iff_toInt_lt] at a
      have e1 : (0 : Int32).toInt64.toInt = 0 := by decide
      have e2 : (0 : Int64).toInt = 0 := by decide
      omega
    refine br_f a ?_
    by_cases b : 6 ≤ xu
    · refine br_t b (no (fun w => ?_))
      have := w.2
      rw [Int64.le_iff_toInt_le] at this b
      have e1 : (5 : Int32).toInt64.toInt = 5 := by decide
      have e2 : (6 : Int64).toInt = 6 := by decide
      omega
    have rg : (0 : Int32).toInt64 ≤ xu ∧ xu ≤ (5 : Int32).toInt64 := by
      rw [Int64.le_iff_toInt_le, Int64.le_iff_toInt_le]
      rw [Int64.lt_iff_toInt_lt] at a
      rw [Int64.le_iff_toInt_le] at b
      have e1 : (0 : Int32).toInt64.toInt = 0 := by decide
      have e2 : (5 : Int32).toInt64.toInt = 5 := by decide
      have e3 : (0 : Int64).toInt = 0 := by decide
      have e4 : (6 : Int64).toInt = 6 := by decide
      omega
    obtain ⟨i, hi, ei⟩ := hsc rg
    have e6 : nI s * 6 + nI i = nI (6 * s + i) := by
      show nI s * nI 6 + nI i = _
      rw [pk_mul, nI_add, Nat.mul_comm]
    rw [ei, e6, nI_clamp (by omega)]
    refine br_f b ⟨i40, vp_in_nI (by omega) (by decide), nm_e ?_⟩
    rcases htg i hi with t1 | ⟨r, hr, t1⟩
    · rw [t1]
      exact br_t rfl (h0 (Or.inr ⟨i, hi, ei, Or.inl t1⟩))
    · rw [t1]
      refine br_f (hh_m1 (by omega)) ⟨vp_in_nI hr (by decide), ?_⟩
      rw [nI_clamp (by omega)]
      by_cases k5 : x_typeKind r = 5
      · refine br_t k5 ⟨i6, ?_⟩
        rw [ed, en, ei]
        exact nm_e ⟨i40, nm_e ⟨i40, nm_e (h1 i r hi ei rg t1 hr k5)⟩⟩
      · exact br_f k5 (h0 (Or.inr ⟨i, hi, ei, Or.inr ⟨r, hr, t1, k5⟩⟩))
  refine ed_acc hM ?_
  unfold wX_endNumber_46
  refine xt_t hd6 es (br_f (by decide) (br_t rfl ?_))
  unfold wX_endNumber_102
  exact hu _ (xt_t hd6 es (br_f (by decide) tk))
end
end
section
/-! the bind: tags -/
theorem nd_tag {t so bg en : Nat → Int32} {L N : Nat} {kd vl pa nm sl st tg : Nat → Int32} {dp : Nat → Nat} {op op' : Nat → Prop} (hA : nd_A t so bg en L N kd vl pa nm sl st tg dp op) {n s r i0 K b' : Nat} {ok : Int32} (hn : n < N) (hop : ∀ i, i < N → op i → i = n) (h4 : kd n = 4) (hsl : sl n = nI s) (hs : s < 12) (so6 : so s = 6) (hst : st n = nI b') (hi0 : i0 < 6) (hr : r < 12) (so5 : so r = 5) (hK : K < 96) (hbg : bg K = nI b') (hfirst : ∀ j, j < K → bg j ≠ nI b') (hun : un_Y t bg en (K + 3) 0 ok (nI i0)) : nd_A t so bg en L N kd (upd vl n (nI r)) pa nm sl st (upd tg n (nI i0)) dp op' := by
  refine ⟨hA.1, fun i hi => ?_, hA.2.2⟩
  obtain ⟨k, s1, b1, h1, h2, h3, e4, e5, e6, h7, h8, h9, h10, h11, h12⟩ := hA.2.1 i hi
  have hN := hA.1
  refine ⟨k, s1, b1, h1, h2, h3, e4, e5, e6, h7, h8, h9, h10, ?_, ?_⟩
  · intro k3
    have ne : i ≠ n := by
      rintro rfl
      rw [k3, h4] at e4
      exact absurd e4 (by decide)
    rw [pk_un ne, pk_un ne]
    exact h11 k3
  · intro k4
    by_cases z : i = n
    · subst z
      rw [pk_us, pk_us]
      have es : s1 = s := hh_i (by omega) (by omega) (e5.symm.trans hsl)
      subst es
      have eb : nI b1 = nI b' := e6.symm.trans hst
      refine Or.inr (Or.inr ⟨so6, i0, r, K, ok, hi0, hr, rfl, rfl, so5, hK, ?_, ?_, hun⟩)
      · rw [eb]; exact hbg
      · intro j hj; rw [eb]; exact hfirst j hj
    · rw [pk_un z, pk_un z]
      rcases h12 k4 with w | w | w
      · exact Or.inl w
      · exact absurd (hop i hi w.2.2) z
      · exact Or.inr (Or.inr w)
section
variable {x_length x_nodeCount x_bound x_fault x_faultPlace x_at x_tokenStart x_textCount x_escaped x_valueSlot x_valueName x_depth x_outputLength : Int32} {x_text x_typeKind x_typeDetail x_typeLeast x_typeMost x_fieldCount x_fieldName x_fieldType x_fieldNeeded x_tagType x_nodeKind x_nodeValue x_nodeParent x_nodeName x_nodeSlot x_nodeStart x_nodeTag x_completeCount x_openNode x_openSlot x_openNames x_openNext x_openComma x_output : Nat → Int32} {Q : SX → Prop} {c : Int32} {d : Nat}
theorem en_n (h : Q (x_length, x_nodeCount, x_bound, x_fault, x_faultPlace, xn_m c, x_at, x_at, x_textCount, x_escaped, x_valueSlot, x_valueName, x_depth, x_outputLength, x_text, x_typeKind, x_typeDetail, x_typeLeast, x_typeMost, x_fieldCount, x_fieldName, x_fieldType, x_fieldNeeded, x_tagType, x_nodeKind, x_nodeValue, x_nodeParent, x_nodeName, x_nodeSlot, x_nodeStart, x_nodeTag, x_completeCount, x_openNode, x_openSlot, x_openNames, x_openNext, x_openComma, x_output)) {m0 : Int32} : wpX_enterNumber Q (x_length, x_nodeCount, x_bound, x_fault, x_faultPlace, m0, x_at, x_tokenStart, x_textCount, x_escaped, x_valueSlot, x_valueName, x_depth, x_outputLength, x_text, x_typeKind, x_typeDetail, x_typeLeast, x_typeMost, x_fieldCount, x_fieldName, x_fieldType, x_fieldNeeded, x_tagType, x_nodeKind, x_nodeValue, x_nodeParent, x_nodeName, x_nodeSlot, x_nodeStart, x_nodeTag, x_completeCount, x_openNode, x_openSlot, x_openNames, x_openNext, x_openComma, x_output) c := by
  unfold xn_m at h
  by_cases c17 : c = 17
  · rw [if_pos c17] at h; exact br_t c17 h
  · rw [if_neg c17] at h
    by_cases c0 : c = 0
    · rw [if_pos c0] at h; exact br_f c17 (br_t c0 h)
    · rw [if_neg c0] at h; exact br_f c17 (br_f c0 h)
end
section
variable {x_length x_nodeCount x_bound x_fault x_faultPlace x_mode x_at x_tokenStart x_textCount x_escaped x_valueSlot x_valueName x_outputLength : Int32} {x_text x_typeKind x_typeDetail x_typeLeast x_typeMost x_fieldCount x_fieldName x_fieldType x_fieldNeeded x_tagType x_nodeKind x_nodeValue x_nodeParent x_nodeName x_nodeSlot x_nodeStart x_nodeTag x_completeCount x_openNode x_openSlot x_openNames x_openNext x_openComma x_output : Nat → Int32} {Q : SX → Prop} {c : Int32} {d : Nat}
theorem bv_tag1 (hd : d < 6) (es : x_openSlot d = -1) (hc : sp_B c) (hc0 : ¬ c < 0) (h : Q (x_length, x_nodeCount, x_bound, x_fault, x_faultPlace, xn_m c, x_at, x_at, x_textCount, x_escaped, x_valueSlot, x_valueName, nI (d + 1), x_outputLength, x_text, x_typeKind, x_typeDetail, x_typeLeast, x_typeMost, x_fieldCount, x_fieldName, x_fieldType, x_fieldNeeded, x_tagType, x_nodeKind, x_nodeValue, x_nodeParent, x_nodeName, x_nodeSlot, x_nodeStart, x_nodeTag, x_completeCount, x_openNode, x_openSlot, x_openNames, x_openNext, x_openComma, x_output)) : wpX_beginValue Q (x_length, x_nodeCount, x_bound, x_fault, x_faultPlace, x_mode, x_at, x_tokenStart, x_textCount, x_escaped, x_valueSlot, x_valueName, nI (d + 1), x_outputLength, x_text, x_typeKind, x_typeDetail, x_typeLeast, x_typeMost, x_fieldCount, x_fieldName, x_fieldType, x_fieldNeeded, x_tagType, x_nodeKind, x_nodeValue, x_nodeParent, x_nodeName, x_nodeSlot, x_nodeStart, x_nodeTag, x_completeCount, x_openNode, x_openSlot, x_openNames, x_openNext, x_openComma, x_output) c := by
  have hV : sp_V c := by
    rcases hc with w | w
    · exact Or.inl w
    · exact Or.inr (Or.inr (Or.inr (Or.inr (Or.inl w))))
  unfold wpX_beginValue
  dsimp only
  refine bv_any hV (br_f (by decide) (xt_t hd es (br_f (by decide) ?_)))
  unfold wpX_beginTag
  dsimp only
  exact bv_num hc hc0 (br_f (by decide) (en_n h))
theorem bv_tag0 (hd : d < 6) (es : x_openSlot d = -1) (hV : sp_V c) (hc : ¬ sp_B c) (hc0 : ¬ c < 0) (h : Q (x_length, x_nodeCount, x_bound, 3, x_at, x_mode, x_at, x_tokenStart, x_textCount, x_escaped, x_valueSlot, x_valueName, nI (d + 1), x_outputLength, x_text, x_typeKind, x_typeDetail, x_typeLeast, x_typeMost, x_fieldCount, x_fieldName, x_fieldType, x_fieldNeeded, x_tagType, x_nodeKind, x_nodeValue, x_nodeParent, x_nodeName, x_nodeSlot, x_nodeStart, x_nodeTag, x_completeCount, x_openNode, x_openSlot, x_openNames, x_openNext, x_openComma, x_output)) : wpX_beginValue Q (x_length, x_nodeCount, x_bound, x_fault, x_faultPlace, x_mode, x_at, x_tokenStart, x_textCount, x_escaped, x_valueSlot, x_valueName, nI (d + 1), x_outputLength, x_text, x_typeKind, x_typeDetail, x_typeLeast, x_typeMost, x_fieldCount, x_fieldName, x_fieldType, x_fieldNeeded, x_tagType, x_nodeKind, x_nodeValue, x_nodeParent, x_nodeName, x_nodeSlot, x_nodeStart, x_nodeTag, x_completeCount, x_openNode, x_openSlot, x_openNames, x_openNext, x_openComma, x_output) c := by
  unfold wpX_beginValue
  dsimp only
  refine bv_any hV (br_f (by decide) (xt_t hd es (br_f (by decide) ?_)))
  unfold wpX_beginTag
  dsimp only
  exact bv_nn hc hc0 (br_t rfl h)
end
section
variable {y_length y_parts y_bad y_nodes y_place y_bound y_nextName y_wantsName y_wantsTag y_printed y_waiting y_scaled : Int32} {y_sort y_typeA y_typeB y_typeC y_fieldName y_fieldType y_fields y_tags y_needed y_text y_begin y_end y_inside y_whole y_kind y_value y_parent y_name y_slotOf y_placeOf y_complete y_openNode y_openType y_openCount y_openNames y_openChoice y_output y_todo : Nat → Int32} {Q : SY → Prop} {d k b q s n : Nat} {ok sc : Int32}
theorem yt_in (hd : d < 6) (hk : k < 96) (hb : b < 96) (eb : y_begin k = nI b) (ec : y_openChoice d = nI s) (hc0 : ¬ y_text b < 0)
    (h1 : sp_B (y_text b) → wY_bindTag_53 Q (nI k) (nI d) (nI s) y_length y_parts y_bad y_nodes 0 y_place y_bound (nI (d + 1)) y_nextName y_wantsName y_wantsTag y_printed y_waiting y_scaled y_sort y_typeA y_typeB y_typeC y_fieldName y_fieldType y_fields y_tags y_needed y_text y_begin y_end y_inside y_whole y_kind y_value y_parent y_name y_slotOf y_placeOf y_complete y_openNode y_openType y_openCount y_openNames y_openChoice y_output y_todo) (h0 : ¬ sp_B (y_text b) → Q (y_length, y_parts, y_bad, y_nodes, 3, nI b, y_bound, nI (d + 1), y_nextName, y_wantsName, 0, y_printed, y_waiting, y_scaled, y_sort, y_typeA, y_typeB, y_typeC, y_fieldName, y_fieldType, y_fields, y_tags, y_needed, y_text, y_begin, y_end, y_inside, y_whole, y_kind, y_value, y_parent, y_name, y_slotOf, y_placeOf, y_complete, y_openNode, y_openType, y_openCount, y_openNames, y_openChoice, y_output, y_todo)) : wpY_bindTag Q (y_length, y_parts, y_bad, y_nodes, 0, y_place, y_bound, nI (d + 1), y_nextName, y_wantsName, y_wantsTag, y_printed, y_waiting, y_scaled, y_sort, y_typeA, y_typeB, y_typeC, y_fieldName, y_fieldType, y_fields, y_tags, y_needed, y_text, y_begin, y_end, y_inside, y_whole, y_kind, y_value, y_parent, y_name, y_slotOf, y_placeOf, y_complete, y_openNode, y_openType, y_openCount, y_openNames, y_openChoice, y_output, y_todo) (nI k) := by
  have ek : (nI k).toNatClampNeg = k := nI_clamp (by omega)
  have eB : (nI b).toNatClampNeg = b := nI_clamp (by omega)
  have ed : (nI d).toNatClampNeg = d := nI_clamp (by omega)
  have ik : vp_in (nI k) 96 := vp_in_nI hk (by decide)
  unfold wpY_bindTag
  dsimp only
  rw [ek, eb, eB]
  refine ⟨ik, vp_in_nI hb (by decide), nm_e (nm_r (nI_pred d) ⟨vp_in_nI (by omega) (by decide), ?_⟩)⟩
  rw [ed]
  refine nm_r ec ?_
  by_cases w : sp_B (y_text b)
  · by_cases a : y_text b ≤ 9
    · exact br_t a (h1 w)
    · refine br_f a (br_t ?_ (h1 w))
      rcases w with w | w
      · exact absurd w.2 a
      · exact w
  · refine br_f (fun a => w (Or.inl ⟨Int32.not_lt.mp hc0, a⟩)) (br_f (fun a => w (Or.inr a)) ⟨ik, br_t rfl (h0 w)⟩)
theorem yt_num (hd : d < 6) (hk : k < 96) (ew : y_whole k = 1) (ee : y_end k = nI q) (hs : s < 12) (eo : y_openNode d = nI n) (hn : n < 40) (un : un_Y y_text y_begin y_end k 0 ok sc) (hok : ok = 0 ∨ ok = 1)
    (htg : ∀ i, i < 6 → y_tags (6 * s + i) = -1 ∨ ∃ r, r < 12 ∧ y_tags (6 * s + i) = nI r)
    (h1 : ∀ i r, i < 6 → ok = 1 → sc = nI i → y_tags (6 * s + i) = nI r → r < 12 → y_sort r = 5 → Q (y_length, y_parts, y_bad, y_nodes, 0, y_place, y_bound, nI (d + 1), y_nextName, y_wantsName, 0, y_printed, y_waiting, sc, y_sort, y_typeA, y_typeB, y_typeC, y_fieldName, y_fieldType, y_fields, y_tags, y_needed, y_text, y_begin, y_end, y_inside, y_whole, y_kind, upd y_value n (nI r), y_parent, y_name, y_slotOf, y_placeOf, y_complete, y_openNode, upd y_openType d (nI r), y_openCount, y_openNames, y_openChoice, y_output, y_todo))
    (h0 : (¬ (ok = 1 ∧ 0 ≤ sc ∧ sc ≤ 5) ∨ ∃ i, i < 6 ∧ sc = nI i ∧ (y_tags (6 * s + i) = -1 ∨ ∃ r, r < 12 ∧ y_tags (6 * s + i) = nI r ∧ ¬ y_sort r = 5)) → Q (y_length, y_parts, y_bad, y_nodes, 6, nI q, y_bound, nI (d + 1), y_nextName, y_wantsName, 0, y_printed, y_waiting, sc, y_sort, y_typeA, y_typeB, y_typeC, y_fieldName, y_fieldType, y_fields, y_tags, y_needed, y_text, y_begin, y_end, y_inside, y_whole, y_kind, y_value, y_parent, y_name, y_slotOf, y_placeOf, y_complete, y_openNode, y_openType, y_openCount, y_openNames, y_openChoice, y_output, y_todo)) : wY_bindTag_53 Q (nI k) (nI d) (nI s) y_length y_parts y_bad y_nodes 0 y_place y_bound (nI (d + 1)) y_nextName y_wantsName y_wantsTag y_printed y_waiting y_scaled y_sort y_typeA y_typeB y_typeC y_fieldName y_fieldType y_fields y_tags y_needed y_text y_begin y_end y_inside y_whole y_kind y_value y_parent y_name y_slotOf y_placeOf y_complete y_openNode y_openType y_openCount y_openNames y_openChoice y_output y_todo := by
  have ek : (nI k).toNatClampNeg = k := nI_clamp (by omega)
  have ed : (nI d).toNatClampNeg = d := nI_clamp (by omega)
  have en : (nI n).toNatClampNeg = n := nI_clamp (by omega)
  have ik : vp_in (nI k) 96 := vp_in_nI hk (by decide)
  have i8 : vp_in (nI d) 8 := vp_in_nI (by omega) (by decide)
  have f129 : Q (y_length, y_parts, y_bad, y_nodes, 6, nI q, y_bound, nI (d + 1), y_nextName, y_wantsName, 0, y_printed, y_waiting, sc, y_sort, y_typeA, y_typeB, y_typeC, y_fieldName, y_fieldType, y_fields, y_tags, y_needed, y_text, y_begin, y_end, y_inside, y_whole, y_kind, y_value, y_parent, y_name, y_slotOf, y_placeOf, y_complete, y_openNode, y_openType, y_openCount, y_openNames, y_openChoice, y_output, y_todo) → wY_bindTag_129 Q (nI k) (nI d) (nI s) y_length y_parts y_bad y_nodes 0 y_place y_bound (nI (d + 1)) y_nextName y_wantsName y_wantsTag y_printed y_waiting sc y_sort y_typeA y_typeB y_typeC y_fieldName y_fieldType y_fields y_tags y_needed y_text y_begin y_end y_inside y_whole y_kind y_value y_parent y_name y_slotOf y_placeOf y_complete y_openNode y_openType y_openCount y_openNames y_openChoice y_output y_todo := by
    intro w
    unfold wY_bindTag_129 wY_bindTag_130
    rw [ek, ee]
    exact br_t rfl ⟨ik, br_t rfl w⟩
  unfold wY_bindTag_53
  rw [ek]
  refine ⟨ik, br_f (by rw [ew]; decide) ?_⟩
  refine un y_length y_parts y_bad y_nodes (0) y_place y_bound (nI (d + 1)) y_nextName y_wantsName y_wantsTag y_printed y_waiting y_scaled y_sort y_typeA y_typeB y_typeC y_fieldName y_fieldType y_fields y_tags y_needed y_inside y_whole y_kind y_value y_parent y_name y_slotOf y_placeOf y_complete y_openNode y_openType y_openCount y_openNames y_openChoice y_output y_todo _ ?_
  dsimp only
  rcases hok with rfl | rfl
  · exact br_t rfl (f129 (h0 (Or.inl (fun w => absurd w.1 (by decide)))))
  refine br_f (by decide) ?_
  rcases pk_ix sc (n := 6) (by decide) with w | w | ⟨i, hi, rfl⟩
  · exact yi_0 5 (by decide) (Or.inl w) (br_t rfl (f129 (h0 (Or.inl (fun z => absurd w (Int32.not_lt.mpr z.2.1))))))
  · refine yi_0 5 (by decide) (Or.inr w) (br_t rfl (f129 (h0 (Or.inl (fun z => ?_)))))
    exact absurd (hh_gt (n := 5) w (by decide)) (Int32.not_lt.mpr z.2.2)
  · have e6 : (6 : Int32) * nI s + nI i = nI (6 * s + i) := by
      show nI 6 * nI s + nI i = _
      rw [pk_mul, nI_add]
    have e72 : (nI (6 * s + i)).toNatClampNeg = 6 * s + i := nI_clamp (by omega)
    have i72 : vp_in (nI (6 * s + i)) 72 := vp_in_nI (by omega) (by decide)
    refine yi_1 5 (by decide) (by omega) (br_f (by decide) ?_)
    rw [e6, e72]
    refine ⟨i72, ?_⟩
    rcases htg i hi with t1 | ⟨r, hr, t1⟩
    · rw [t1]
      exact br_t (by decide) (f129 (h0 (Or.inr ⟨i, hi, rfl, Or.inl t1⟩)))
    · have er : (nI r).toNatClampNeg = r := nI_clamp (by omega)
      rw [t1, er]
      refine br_f (nI_pos (by omega)) ⟨i72, vp_in_nI hr (by decide), ?_⟩
      by_cases k5 : y_sort r = 5
      · refine br_t k5 (br_f (by decide) ?_)
        rw [e6, e72, t1, ed, eo]
        refine ⟨i72, i8, nm_e ⟨i8, i8, ?_⟩⟩
        rw [pk_us, en]
        exact ⟨vp_in_nI hn (by decide), nm_e (h1 i r hi rfl rfl t1 hr k5)⟩
      · exact br_f k5 (f129 (h0 (Or.inr ⟨i, hi, rfl, Or.inr ⟨r, hr, t1, k5⟩⟩)))
end
end
section
/-! the bind: a tag's step -/
theorem sv_ne {c : Int32} (h : sp_V c) : ¬ c = 13 ∧ ¬ c = 11 ∧ ¬ c = 15 ∧ ¬ c = 14 ∧ ¬ c = 20 := by
  rcases h with w | rfl | rfl | rfl | rfl | rfl | rfl | rfl
  · exact ⟨hh_9 (n := 13) w.2 (by decide) (by decide), hh_9 (n := 11) w.2 (by decide) (by decide), hh_9 (n := 15) w.2 (by decide) (by decide), hh_9 (n := 14) w.2 (by decide) (by decide), hh_9 (n := 20) w.2 (by decide) (by decide)⟩
  all_goals decide
theorem sb_v {c : Int32} (h : sp_B c) : sp_V c := by
  rcases h with w | w
  · exact Or.inl w
  · exact Or.inr (Or.inr (Or.inr (Or.inr (Or.inl w))))
theorem nu_ok {xu : Int64} {ok sc : Int32} (h : nu_R xu ok sc) : ok = 0 ∨ ok = 1 := by
  rcases h with h | h
  · exact Or.inr h.1
  · exact Or.inl h.1
section
variable {x_bound x_at x_tokenStart x_textCount x_escaped x_valueSlot x_valueName x_outputLength : Int32} {x_text x_typeKind x_typeDetail x_typeLeast x_typeMost x_fieldCount x_fieldName x_fieldType x_fieldNeeded x_tagType x_nodeKind x_nodeValue x_nodeParent x_nodeName x_nodeSlot x_nodeStart x_nodeTag x_completeCount x_openNode x_openSlot x_openNames x_openNext x_openComma x_output : Nat → Int32} {y_bad y_nextName y_wantsName y_wantsTag y_waiting y_scaled : Int32} {y_typeA y_typeB y_typeC y_fields y_tags y_begin y_end y_inside y_whole y_kind y_value y_parent y_name y_slotOf y_placeOf y_complete y_openNode y_openType y_openCount y_openNames y_openChoice y_todo : Nat → Int32} {L P k p x d N : Nat} {g : Nat → Int32} {dp : Nat → Nat} {slot : Int32}
/-- what holds at a tag -/
theorem tg_F (F : br_F slot L k p 0 (d + 1) N g x_text x_typeKind x_fieldCount x_fieldName x_fieldType y_begin y_end x_nodeKind x_nodeValue x_nodeParent x_nodeName x_nodeSlot x_nodeStart x_nodeTag x_completeCount x_openNode x_openSlot x_openNames x_valueSlot x_valueName dp y_kind y_value y_parent y_name y_slotOf y_placeOf y_complete y_openNode y_openType y_openCount y_openNames y_openChoice y_nextName y_wantsName y_wantsTag) (es : x_openSlot d = -1) : ∃ n s, n < N ∧ s < 12 ∧ x_openNode d = nI n ∧ y_openNode d = nI n ∧ dp n = d ∧ y_openType d = x_openSlot d ∧ x_nodeSlot n = nI s ∧ g (d + 1) = 10 ∧ x_nodeKind n = 4 ∧ x_typeKind s = 6 ∧ y_openChoice d = nI s ∧ y_wantsName = 0 ∧ y_wantsTag = 1 ∧ ph_F (d + 1) k 3 x_openNode x_nodeStart y_begin := by
  obtain ⟨-, hA, hd6, hlv, -, -, hx⟩ := F
  obtain ⟨n, s, hn, hs, eo, eo', edp, et, esl, K⟩ := hlv d (by omega)
  rcases K with ⟨-, -, -, e, -⟩ | ⟨g1, k1, -, -, K⟩
  · rw [es] at e; exact absurd e (hh_m1' (by omega))
  rcases K with ⟨-, e, -⟩ | ⟨so6, ech, -⟩ | ⟨-, -, r, q, hr, -, e, -⟩
  · rw [es] at e; exact absurd e (hh_m1' (by omega))
  · refine ⟨n, s, hn, hs, eo, eo', edp, et, esl, g1, k1, so6, ech, ?_⟩
    rcases hx with w | w | w | w | w | w | w | w | w | w
    all_goals try (have := w.1; omega)
    · rw [g1] at w; exact absurd w.2.2.1 (by decide)
    · exact ⟨w.2.2.2.1, w.2.2.2.2.2.1, w.2.2.2.2.2.2⟩
    · exact absurd es w.2.2.2.2.1
  · rw [es] at e; exact absurd e (hh_m1' (by omega))
/-- the reference's way to the tag -/
theorem tg_Y {b n s : Nat} (hk : k < P) (hP : P ≤ 96) (hb : b < 96) (eb : y_begin k = nI b) (hd : d < 6) (hn : n < 40) (eo' : y_openNode d = nI n) (yk : y_kind n = 4) (wn : y_wantsName = 0) (wt : y_wantsTag = 1) (hV : sp_V (x_text b)) {v' : SY} (h : ∀ Q : SY → Prop, Q v' → wpY_bindTag Q (nI L, nI P, y_bad, nI N, 0, -1, 0, nI (d + 1), y_nextName, y_wantsName, y_wantsTag, x_outputLength, y_waiting, y_scaled, x_typeKind, y_typeA, y_typeB, y_typeC, x_fieldName, x_fieldType, y_fields, y_tags, x_fieldNeeded, x_text, y_begin, y_end, y_inside, y_whole, y_kind, y_value, y_parent, y_name, y_slotOf, y_placeOf, y_complete, y_openNode, y_openType, y_openCount, y_openNames, y_openChoice, x_output, y_todo) (nI k)) : by_R slot k (nI L, nI P, y_bad, nI N, 0, -1, 0, nI (d + 1), y_nextName, y_wantsName, y_wantsTag, x_outputLength, y_waiting, y_scaled, x_typeKind, y_typeA, y_typeB, y_typeC, x_fieldName, x_fieldType, y_fields, y_tags, x_fieldNeeded, x_text, y_begin, y_end, y_inside, y_whole, y_kind, y_value, y_parent, y_name, y_slotOf, y_placeOf, y_complete, y_openNode, y_openType, y_openCount, y_openNames, y_openChoice, x_output, y_todo) (k + 1) v' := by
  have ed : (nI d).toNatClampNeg = d := nI_clamp (by omega)
  have en : (nI n).toNatClampNeg = n := nI_clamp (by omega)
  obtain ⟨n13, n11, n15, n14, -⟩ := sv_ne hV
  refine by_1 hk hP v' (fun Q w => yp_in (d := d + 1) (by omega) hb eb ?_)
  rw [nI_pred, ed, eo', en, yk]
  exact br_f (nI_ne0 (by omega) (by omega)) (br_f n13 (br_f n11 (br_f n15 (br_f n14 ⟨vp_in_nI (by omega) (by decide), vp_in_nI (by omega) (by decide), br_f (by decide) (br_t wn (br_f (by rw [wt]; decide) (h Q w)))⟩))))
theorem st_tagT (hT : rl_T L x_text x_typeKind x_typeDetail x_typeLeast x_typeMost x_fieldCount x_fieldName x_fieldType x_fieldNeeded x_tagType y_typeA y_typeB y_typeC y_fields y_tags) (F : br_F slot L k p 0 (d + 1) N g x_text x_typeKind x_fieldCount x_fieldName x_fieldType y_begin y_end x_nodeKind x_nodeValue x_nodeParent x_nodeName x_nodeSlot x_nodeStart x_nodeTag x_completeCount x_openNode x_openSlot x_openNames x_valueSlot x_valueName dp y_kind y_value y_parent y_name y_slotOf y_placeOf y_complete y_openNode y_openType y_openCount y_openNames y_openChoice y_nextName y_wantsName y_wantsTag) (es : x_openSlot d = -1) (hk : k < P) (hP : P ≤ 96) {b : Nat} (hb : sp_S x_text p b) (hbL : b < L) (eb : y_begin k = nI b) (hV : sp_V (x_text b)) (hB : ¬ sp_B (x_text b)) : bo_O slot p k (nI L, nI N, x_bound, 0, -1, md_x 0, x_at, x_tokenStart, x_textCount, x_escaped, x_valueSlot, x_valueName, nI (d + 1), x_outputLength, x_text, x_typeKind, x_typeDetail, x_typeLeast, x_typeMost, x_fieldCount, x_fieldName, x_fieldType, x_fieldNeeded, x_tagType, x_nodeKind, x_nodeValue, x_nodeParent, x_nodeName, x_nodeSlot, x_nodeStart, x_nodeTag, x_completeCount, x_openNode, x_openSlot, x_openNames, x_openNext, x_openComma, x_output) (nI L, nI P, y_bad, nI N, 0, -1, 0, nI (d + 1), y_nextName, y_wantsName, y_wantsTag, x_outputLength, y_waiting, y_scaled, x_typeKind, y_typeA, y_typeB, y_typeC, x_fieldName, x_fieldType, y_fields, y_tags, x_fieldNeeded, x_text, y_begin, y_end, y_inside, y_whole, y_kind, y_value, y_parent, y_name, y_slotOf, y_placeOf, y_complete, y_openNode, y_openType, y_openCount, y_openNames, y_openChoice, x_output, y_todo) := by
  have hL := hT.1
  obtain ⟨n, s, hn, hs, eo, eo', edp, et, esl, g1, k1, so6, ech, wn, wt, ph⟩ := tg_F F es
  have hN := F.2.1.1
  have hd6 := F.2.2.1
  have yk := (F.1.1 n hn).trans k1
  have c0 := tt_lo hT.2.1 b
  obtain ⟨a0, ha0⟩ : ∃ a, bx_R p (nI L, nI N, x_bound, 0, -1, md_x 0, x_at, x_tokenStart, x_textCount, x_escaped, x_valueSlot, x_valueName, nI (d + 1), x_outputLength, x_text, x_typeKind, x_typeDetail, x_typeLeast, x_typeMost, x_fieldCount, x_fieldName, x_fieldType, x_fieldNeeded, x_tagType, x_nodeKind, x_nodeValue, x_nodeParent, x_nodeName, x_nodeSlot, x_nodeStart, x_nodeTag, x_completeCount, x_openNode, x_openSlot, x_openNames, x_openNext, x_openComma, x_output) b (nI L, nI N, x_bound, 0, -1, md_x 0, a, x_tokenStart, x_textCount, x_escaped, x_valueSlot, x_valueName, nI (d + 1), x_outputLength, x_text, x_typeKind, x_typeDetail, x_typeLeast, x_typeMost, x_fieldCount, x_fieldName, x_fieldType, x_fieldNeeded, x_tagType, x_nodeKind, x_nodeValue, x_nodeParent, x_nodeName, x_nodeSlot, x_nodeStart, x_nodeTag, x_completeCount, x_openNode, x_openSlot, x_openNames, x_openNext, x_openComma, x_output) := bx_at (x := 0) (d := d + 1) hL hb (by omega)
  have hx : bx_R b (nI L, nI N, x_bound, 0, -1, md_x 0, a0, x_tokenStart, x_textCount, x_escaped, x_valueSlot, x_valueName, nI (d + 1), x_outputLength, x_text, x_typeKind, x_typeDetail, x_typeLeast, x_typeMost, x_fieldCount, x_fieldName, x_fieldType, x_fieldNeeded, x_tagType, x_nodeKind, x_nodeValue, x_nodeParent, x_nodeName, x_nodeSlot, x_nodeStart, x_nodeTag, x_completeCount, x_openNode, x_openSlot, x_openNames, x_openNext, x_openComma, x_output) (b + 1) (nI L, nI N, x_bound, 3, nI b, md_x 0, nI b, x_tokenStart, x_textCount, x_escaped, x_valueSlot, x_valueName, nI (d + 1), x_outputLength, x_text, x_typeKind, x_typeDetail, x_typeLeast, x_typeMost, x_fieldCount, x_fieldName, x_fieldType, x_fieldNeeded, x_tagType, x_nodeKind, x_nodeValue, x_nodeParent, x_nodeName, x_nodeSlot, x_nodeStart, x_nodeTag, x_completeCount, x_openNode, x_openSlot, x_openNames, x_openNext, x_openComma, x_output) :=
    bx_1 hbL hL _ (fun Q w => rc_val (sv_ne hV).2.2.2.2 (Or.inl rfl) (bv_tag0 (by omega) es hV hB c0 w))
  have hy : by_R slot k (nI L, nI P, y_bad, nI N, 0, -1, 0, nI (d + 1), y_nextName, y_wantsName, y_wantsTag, x_outputLength, y_waiting, y_scaled, x_typeKind, y_typeA, y_typeB, y_typeC, x_fieldName, x_fieldType, y_fields, y_tags, x_fieldNeeded, x_text, y_begin, y_end, y_inside, y_whole, y_kind, y_value, y_parent, y_name, y_slotOf, y_placeOf, y_complete, y_openNode, y_openType, y_openCount, y_openNames, y_openChoice, x_output, y_todo) (k + 1) (nI L, nI P, y_bad, nI N, 3, nI b, 0, nI (d + 1), y_nextName, y_wantsName, 0, x_outputLength, y_waiting, y_scaled, x_typeKind, y_typeA, y_typeB, y_typeC, x_fieldName, x_fieldType, y_fields, y_tags, x_fieldNeeded, x_text, y_begin, y_end, y_inside, y_whole, y_kind, y_value, y_parent, y_name, y_slotOf, y_placeOf, y_complete, y_openNode, y_openType, y_openCount, y_openNames, y_openChoice, x_output, y_todo) :=
    tg_Y (s := s) hk hP (by omega) eb (by omega) (by omega) eo' yk wn wt hV (fun Q w => yt_in (by omega) (by omega) (by omega) eb ech c0 (fun z => absurd z hB) (fun _ => w))
  exact bo_fault hT (f := 3) (z := nI b) (by decide) (bx_T ha0 hx) hy
/-- the component up to the tag's end -/
theorem tg_X (hT : rl_T L x_text x_typeKind x_typeDetail x_typeLeast x_typeMost x_fieldCount x_fieldName x_fieldType x_fieldNeeded x_tagType y_typeA y_typeB y_typeC y_fields y_tags) (es : x_openSlot d = -1) (hd : d < 6) {b : Nat} (hb : sp_S x_text p b) (hbL : b < L) (hB : sp_B (x_text b)) : bx_R p (nI L, nI N, x_bound, 0, -1, md_x 0, x_at, x_tokenStart, x_textCount, x_escaped, x_valueSlot, x_valueName, nI (d + 1), x_outputLength, x_text, x_typeKind, x_typeDetail, x_typeLeast, x_typeMost, x_fieldCount, x_fieldName, x_fieldType, x_fieldNeeded, x_tagType, x_nodeKind, x_nodeValue, x_nodeParent, x_nodeName, x_nodeSlot, x_nodeStart, x_nodeTag, x_completeCount, x_openNode, x_openSlot, x_openNames, x_openNext, x_openComma, x_output) (b + 1) (nI L, nI N, x_bound, 0, -1, xn_m (x_text b), nI b, nI b, x_textCount, x_escaped, x_valueSlot, x_valueName, nI (d + 1), x_outputLength, x_text, x_typeKind, x_typeDetail, x_typeLeast, x_typeMost, x_fieldCount, x_fieldName, x_fieldType, x_fieldNeeded, x_tagType, x_nodeKind, x_nodeValue, x_nodeParent, x_nodeName, x_nodeSlot, x_nodeStart, x_nodeTag, x_completeCount, x_openNode, x_openSlot, x_openNames, x_openNext, x_openComma, x_output) := by
  have hL := hT.1
  have c0 := tt_lo hT.2.1 b
  obtain ⟨a0, ha0⟩ : ∃ a, bx_R p (nI L, nI N, x_bound, 0, -1, md_x 0, x_at, x_tokenStart, x_textCount, x_escaped, x_valueSlot, x_valueName, nI (d + 1), x_outputLength, x_text, x_typeKind, x_typeDetail, x_typeLeast, x_typeMost, x_fieldCount, x_fieldName, x_fieldType, x_fieldNeeded, x_tagType, x_nodeKind, x_nodeValue, x_nodeParent, x_nodeName, x_nodeSlot, x_nodeStart, x_nodeTag, x_completeCount, x_openNode, x_openSlot, x_openNames, x_openNext, x_openComma, x_output) b (nI L, nI N, x_bound, 0, -1, md_x 0, a, x_tokenStart, x_textCount, x_escaped, x_valueSlot, x_valueName, nI (d + 1), x_outputLength, x_text, x_typeKind, x_typeDetail, x_typeLeast, x_typeMost, x_fieldCount, x_fieldName, x_fieldType, x_fieldNeeded, x_tagType, x_nodeKind, x_nodeValue, x_nodeParent, x_nodeName, x_nodeSlot, x_nodeStart, x_nodeTag, x_completeCount, x_openNode, x_openSlot, x_openNames, x_openNext, x_openComma, x_output) := bx_at (x := 0) (d := d + 1) hL hb (by omega)
  exact bx_T ha0 (bx_1 hbL hL _ (fun Q w => rc_val (sv_ne (sb_v hB)).2.2.2.2 (Or.inl rfl) (bv_tag1 hd es hB c0 w)))
theorem st_tagX (hT : rl_T L x_text x_typeKind x_typeDetail x_typeLeast x_typeMost x_fieldCount x_fieldName x_fieldType x_fieldNeeded x_tagType y_typeA y_typeB y_typeC y_fields y_tags) (F : br_F slot L k p 0 (d + 1) N g x_text x_typeKind x_fieldCount x_fieldName x_fieldType y_begin y_end x_nodeKind x_nodeValue x_nodeParent x_nodeName x_nodeSlot x_nodeStart x_nodeTag x_completeCount x_openNode x_openSlot x_openNames x_valueSlot x_valueName dp y_kind y_value y_parent y_name y_slotOf y_placeOf y_complete y_openNode y_openType y_openCount y_openNames y_openChoice y_nextName y_wantsName y_wantsTag) (es : x_openSlot d = -1) (hk : k + 1 = P) (hP : P ≤ 96) {b z : Nat} (hb : sp_S x_text p b) (hbL : b < L) (eb : y_begin k = nI b) (ew : y_whole k = 0) (hB : sp_B (x_text b)) (hX : ns_X x_text L b z) : bo_O slot p k (nI L, nI N, x_bound, 0, -1, md_x 0, x_at, x_tokenStart, x_textCount, x_escaped, x_valueSlot, x_valueName, nI (d + 1), x_outputLength, x_text, x_typeKind, x_typeDetail, x_typeLeast, x_typeMost, x_fieldCount, x_fieldName, x_fieldType, x_fieldNeeded, x_tagType, x_nodeKind, x_nodeValue, x_nodeParent, x_nodeName, x_nodeSlot, x_nodeStart, x_nodeTag, x_completeCount, x_openNode, x_openSlot, x_openNames, x_openNext, x_openComma, x_output) (nI L, nI P, nI z, nI N, 0, -1, 0, nI (d + 1), y_nextName, y_wantsName, y_wantsTag, x_outputLength, y_waiting, y_scaled, x_typeKind, y_typeA, y_typeB, y_typeC, x_fieldName, x_fieldType, y_fields, y_tags, x_fieldNeeded, x_text, y_begin, y_end, y_inside, y_whole, y_kind, y_value, y_parent, y_name, y_slotOf, y_placeOf, y_complete, y_openNode, y_openType, y_openCount, y_openNames, y_openChoice, x_output, y_todo) := by
  have hL := hT.1
  obtain ⟨n, s, hn, hs, eo, eo', edp, et, esl, g1, k1, so6, ech, wn, wt, ph⟩ := tg_F F es
  have hN := F.2.1.1
  have hd6 := F.2.2.1
  have yk := (F.1.1 n hn).trans k1
  have c0 := tt_lo hT.2.1 b
  have hz := ns_X_le hbL hX
  have ek : (nI k).toNatClampNeg = k := nI_clamp (by omega)
  have h1 := tg_X (y_typeA := y_typeA) (y_typeB := y_typeB) (y_typeC := y_typeC) (y_fields := y_fields) (y_tags := y_tags) (x_bound := x_bound) (x_at := x_at) (x_tokenStart := x_tokenStart) (x_textCount := x_textCount) (x_escaped := x_escaped) (x_valueSlot := x_valueSlot) (x_valueName := x_valueName) (x_outputLength := x_outputLength) (x_text := x_text) (x_typeKind := x_typeKind) (x_typeDetail := x_typeDetail) (x_typeLeast := x_typeLeast) (x_typeMost := x_typeMost) (x_fieldCount := x_fieldCount) (x_fieldName := x_fieldName) (x_fieldType := x_fieldType) (x_fieldNeeded := x_fieldNeeded) (x_tagType := x_tagType) (x_nodeKind := x_nodeKind) (x_nodeValue := x_nodeValue) (x_nodeParent := x_nodeParent) (x_nodeName := x_nodeName) (x_nodeSlot := x_nodeSlot) (x_nodeStart := x_nodeStart) (x_nodeTag := x_nodeTag) (x_completeCount := x_completeCount) (x_openNode := x_openNode) (x_openSlot := x_openSlot) (x_openNames := x_openNames) (x_openNext := x_openNext) (x_openComma := x_openComma) (x_output := x_output) (N := N) hT es (by omega) hb hbL hB
  obtain ⟨M, a', hM, hn2, hw⟩ : ∃ M a', (M = 8 ∨ M = 11 ∨ M = 13 ∨ M = 14) ∧ (z < L → nn_S M (x_text z)) ∧ bx_R (b + 1) (nI L, nI N, x_bound, 0, -1, xn_m (x_text b), nI b, nI b, x_textCount, x_escaped, x_valueSlot, x_valueName, nI (d + 1), x_outputLength, x_text, x_typeKind, x_typeDetail, x_typeLeast, x_typeMost, x_fieldCount, x_fieldName, x_fieldType, x_fieldNeeded, x_tagType, x_nodeKind, x_nodeValue, x_nodeParent, x_nodeName, x_nodeSlot, x_nodeStart, x_nodeTag, x_completeCount, x_openNode, x_openSlot, x_openNames, x_openNext, x_openComma, x_output) z (nI L, nI N, x_bound, 0, -1, M, a', nI b, x_textCount, x_escaped, x_valueSlot, x_valueName, nI (d + 1), x_outputLength, x_text, x_typeKind, x_typeDetail, x_typeLeast, x_typeMost, x_fieldCount, x_fieldName, x_fieldType, x_fieldNeeded, x_tagType, x_nodeKind, x_nodeValue, x_nodeParent, x_nodeName, x_nodeSlot, x_nodeStart, x_nodeTag, x_completeCount, x_openNode, x_openSlot, x_openNames, x_openNext, x_openComma, x_output) := xw_X hL hX (nI b)
  have h8 : ¬ M < 8 := by rcases hM with rfl | rfl | rfl | rfl <;> decide
  have hy : by_R slot k (nI L, nI P, nI z, nI N, 0, -1, 0, nI (d + 1), y_nextName, y_wantsName, y_wantsTag, x_outputLength, y_waiting, y_scaled, x_typeKind, y_typeA, y_typeB, y_typeC, x_fieldName, x_fieldType, y_fields, y_tags, x_fieldNeeded, x_text, y_begin, y_end, y_inside, y_whole, y_kind, y_value, y_parent, y_name, y_slotOf, y_placeOf, y_complete, y_openNode, y_openType, y_openCount, y_openNames, y_openChoice, x_output, y_todo) P (nI L, nI P, nI z, nI N, 0, -1, 0, nI (d + 1), y_nextName, y_wantsName, 0, x_outputLength, y_waiting, y_scaled, x_typeKind, y_typeA, y_typeB, y_typeC, x_fieldName, x_fieldType, y_fields, y_tags, x_fieldNeeded, x_text, y_begin, y_end, y_inside, y_whole, y_kind, y_value, y_parent, y_name, y_slotOf, y_placeOf, y_complete, y_openNode, y_openType, y_openCount, y_openNames, y_openChoice, x_output, y_todo) := by
    subst hk
    refine tg_Y (s := s) (by omega) hP (by omega) eb (by omega) (by omega) eo' yk wn wt (sb_v hB) (fun Q w => yt_in (by omega) (by omega) (by omega) eb ech c0 (fun _ => ?_) (fun q => absurd hB q))
    unfold wY_bindTag_53
    rw [ek]
    exact ⟨vp_in_nI (by omega) (by decide), br_t ew w⟩
  exact bo_cut hT hP (by omega) (fun post w => h1 post (hw post (bx_Nf hL hz.2 h8 hn2 (by decide) (fun Q q => ed_rej hM q) w))) hy
theorem st_tag (hT : rl_T L x_text x_typeKind x_typeDetail x_typeLeast x_typeMost x_fieldCount x_fieldName x_fieldType x_fieldNeeded x_tagType y_typeA y_typeB y_typeC y_fields y_tags) (F : br_F slot L k p 0 (d + 1) N g x_text x_typeKind x_fieldCount x_fieldName x_fieldType y_begin y_end x_nodeKind x_nodeValue x_nodeParent x_nodeName x_nodeSlot x_nodeStart x_nodeTag x_completeCount x_openNode x_openSlot x_openNames x_valueSlot x_valueName dp y_kind y_value y_parent y_name y_slotOf y_placeOf y_complete y_openNode y_openType y_openCount y_openNames y_openChoice y_nextName y_wantsName y_wantsTag) (es : x_openSlot d = -1) (hk : k < P) (hP : P ≤ 96) {b q : Nat} (hb : sp_S x_text p b) (hbL : b < L) (hpL : p ≤ L) (eb : y_begin k = nI b) (ee : y_end k = nI q) (ew : y_whole k = 1) (hB : sp_B (x_text b)) (hW : ns_W x_text L b (q + 1))
    (H : ∀ (a sc : Int32) (os vl tg ot vl1 : Nat → Int32), br_F slot L (k + 1) (q + 1) 5 (d + 1) N g x_text x_typeKind x_fieldCount x_fieldName x_fieldType y_begin y_end x_nodeKind vl x_nodeParent x_nodeName x_nodeSlot x_nodeStart tg x_completeCount x_openNode os x_openNames x_valueSlot x_valueName dp y_kind vl1 y_parent y_name y_slotOf y_placeOf y_complete y_openNode ot y_openCount y_openNames y_openChoice y_nextName y_wantsName 0 → bo_O slot (q + 1) (k + 1) (nI L, nI N, x_bound, 0, -1, md_x 5, a, nI b, x_textCount, x_escaped, x_valueSlot, x_valueName, nI (d + 1), x_outputLength, x_text, x_typeKind, x_typeDetail, x_typeLeast, x_typeMost, x_fieldCount, x_fieldName, x_fieldType, x_fieldNeeded, x_tagType, x_nodeKind, vl, x_nodeParent, x_nodeName, x_nodeSlot, x_nodeStart, tg, x_completeCount, x_openNode, os, x_openNames, x_openNext, x_openComma, x_output) (nI L, nI P, y_bad, nI N, 0, -1, 0, nI (d + 1), y_nextName, y_wantsName, 0, x_outputLength, y_waiting, sc, x_typeKind, y_typeA, y_typeB, y_typeC, x_fieldName, x_fieldType, y_fields, y_tags, x_fieldNeeded, x_text, y_begin, y_end, y_inside, y_whole, y_kind, vl1, y_parent, y_name, y_slotOf, y_placeOf, y_complete, y_openNode, ot, y_openCount, y_openNames, y_openChoice, x_output, y_todo)) : bo_O slot p k (nI L, nI N, x_bound, 0, -1, md_x 0, x_at, x_tokenStart, x_textCount, x_escaped, x_valueSlot, x_valueName, nI (d + 1), x_outputLength, x_text, x_typeKind, x_typeDetail, x_typeLeast, x_typeMost, x_fieldCount, x_fieldName, x_fieldType, x_fieldNeeded, x_tagType, x_nodeKind, x_nodeValue, x_nodeParent, x_nodeName, x_nodeSlot, x_nodeStart, x_nodeTag, x_completeCount, x_openNode, x_openSlot, x_openNames, x_openNext, x_openComma, x_output) (nI L, nI P, y_bad, nI N, 0, -1, 0, nI (d + 1), y_nextName, y_wantsName, y_wantsTag, x_outputLength, y_waiting, y_scaled, x_typeKind, y_typeA, y_typeB, y_typeC, x_fieldName, x_fieldType, y_fields, y_tags, x_fieldNeeded, x_text, y_begin, y_end, y_inside, y_whole, y_kind, y_value, y_parent, y_name, y_slotOf, y_placeOf, y_complete, y_openNode, y_openType, y_openCount, y_openNames, y_openChoice, x_output, y_todo) := by
  have hL := hT.1
  obtain ⟨n, s, hn, hs, eo, eo', edp, et, esl, g1, k1, so6, ech, wn, wt, ph⟩ := tg_F F es
  obtain ⟨⟨e1, e2, e3, e4, e5, e6⟩, hA, hd6, hlv, hc, hbg, hx⟩ := F
  have hN := hA.1
  have yk := (e1 n hn).trans k1
  have c0 := tt_lo hT.2.1 b
  have hq := ns_W_le hW
  have bg' := bg_s hbg (by omega) hb.1 (by omega : b < q + 1) (by omega) eb
  have TS := (hT.2.2 s hs).2.2.2.2.2.1 so6
  have h1 := tg_X (y_typeA := y_typeA) (y_typeB := y_typeB) (y_typeC := y_typeC) (y_fields := y_fields) (y_tags := y_tags) (x_bound := x_bound) (x_at := x_at) (x_tokenStart := x_tokenStart) (x_textCount := x_textCount) (x_escaped := x_escaped) (x_valueSlot := x_valueSlot) (x_valueName := x_valueName) (x_outputLength := x_outputLength) (x_text := x_text) (x_typeKind := x_typeKind) (x_typeDetail := x_typeDetail) (x_typeLeast := x_typeLeast) (x_typeMost := x_typeMost) (x_fieldCount := x_fieldCount) (x_fieldName := x_fieldName) (x_fieldType := x_fieldType) (x_fieldNeeded := x_fieldNeeded) (x_tagType := x_tagType) (x_nodeKind := x_nodeKind) (x_nodeValue := x_nodeValue) (x_nodeParent := x_nodeParent) (x_nodeName := x_nodeName) (x_nodeSlot := x_nodeSlot) (x_nodeStart := x_nodeStart) (x_nodeTag := x_nodeTag) (x_completeCount := x_completeCount) (x_openNode := x_openNode) (x_openSlot := x_openSlot) (x_openNames := x_openNames) (x_openNext := x_openNext) (x_openComma := x_openComma) (x_output := x_output) (N := N) hT es (by omega) hb hbL hB
  obtain ⟨M, a', hM, hn2, hw⟩ : ∃ M a', (M = 9 ∨ M = 10 ∨ M = 12 ∨ M = 15) ∧ (q + 1 < L → nn_S M (x_text (q + 1))) ∧ bx_R (b + 1) (nI L, nI N, x_bound, 0, -1, xn_m (x_text b), nI b, nI b, x_textCount, x_escaped, x_valueSlot, x_valueName, nI (d + 1), x_outputLength, x_text, x_typeKind, x_typeDetail, x_typeLeast, x_typeMost, x_fieldCount, x_fieldName, x_fieldType, x_fieldNeeded, x_tagType, x_nodeKind, x_nodeValue, x_nodeParent, x_nodeName, x_nodeSlot, x_nodeStart, x_nodeTag, x_completeCount, x_openNode, x_openSlot, x_openNames, x_openNext, x_openComma, x_output) (q + 1) (nI L, nI N, x_bound, 0, -1, M, a', nI b, x_textCount, x_escaped, x_valueSlot, x_valueName, nI (d + 1), x_outputLength, x_text, x_typeKind, x_typeDetail, x_typeLeast, x_typeMost, x_fieldCount, x_fieldName, x_fieldType, x_fieldNeeded, x_tagType, x_nodeKind, x_nodeValue, x_nodeParent, x_nodeName, x_nodeSlot, x_nodeStart, x_nodeTag, x_completeCount, x_openNode, x_openSlot, x_openNames, x_openNext, x_openComma, x_output) := xw_W hL hW (nI b)
  have h8 : ¬ M < 8 := by rcases hM with rfl | rfl | rfl | rfl <;> decide
  obtain ⟨xu, ok, sc, hR, hX, hY⟩ : ∃ (xu : Int64) (ok sc : Int32), nu_R xu ok sc ∧ (∀ postX : Int64 → Prop, postX xu → wpX_readUnits postX (nI L, nI N, x_bound, 0, -1, 2, nI (q + 1), nI b, x_textCount, x_escaped, x_valueSlot, x_valueName, nI (d + 1), x_outputLength, x_text, x_typeKind, x_typeDetail, x_typeLeast, x_typeMost, x_fieldCount, x_fieldName, x_fieldType, x_fieldNeeded, x_tagType, x_nodeKind, x_nodeValue, x_nodeParent, x_nodeName, x_nodeSlot, x_nodeStart, x_nodeTag, x_completeCount, x_openNode, x_openSlot, x_openNames, x_openNext, x_openComma, x_output) (nI 0)) ∧ un_Y x_text y_begin y_end k (nI 0) ok sc := nu_units hL hT.2.1 hW (by omega) eb ee (by omega)
  obtain ⟨rg1, rg2⟩ := nu_rg hR 0 5
  have hok := nu_ok hR
  have htg : ∀ i, i < 6 → x_tagType (6 * s + i) = -1 ∨ ∃ r, r < 12 ∧ x_tagType (6 * s + i) = nI r := fun i hi => (TS.2.2 i hi).2
  have htg' : ∀ i, i < 6 → y_tags (6 * s + i) = -1 ∨ ∃ r, r < 12 ∧ y_tags (6 * s + i) = nI r := fun i hi => by rw [(TS.2.2 i hi).1]; exact htg i hi
  have hsc : ((0 : Int32).toInt64 ≤ xu ∧ xu ≤ (5 : Int32).toInt64) → ∃ i, i < 6 ∧ xu.toInt32 = nI i := by
    intro w
    obtain ⟨a1, a2, a3⟩ := rg1.mp w
    rw [rg2 a1]
    obtain ⟨i, hi, e⟩ := nI_of2 (n := 5) (M := 5) (by decide) (Int32.not_lt.mpr a2) a3
    exact ⟨i, by omega, e⟩
  have at1 : nI (q + 1) - 1 = nI q := nI_pred q
  by_cases good : ∃ i r, i < 6 ∧ ok = 1 ∧ sc = nI i ∧ x_tagType (6 * s + i) = nI r ∧ r < 12 ∧ x_typeKind r = 5
  · obtain ⟨i, r, hi, ok1, esc, t1, hr, so5⟩ := good
    have hx1 : ∀ Q : SX → Prop, Q (nI L, nI N, x_bound, 0, -1, 2, nI (q + 1), nI b, x_textCount, x_escaped, x_valueSlot, x_valueName, nI (d + 1), x_outputLength, x_text, x_typeKind, x_typeDetail, x_typeLeast, x_typeMost, x_fieldCount, x_fieldName, x_fieldType, x_fieldNeeded, x_tagType, x_nodeKind, upd x_nodeValue n (nI r), x_nodeParent, x_nodeName, x_nodeSlot, x_nodeStart, upd x_nodeTag n (nI i), x_completeCount, x_openNode, upd x_openSlot d (nI r), x_openNames, x_openNext, x_openComma, x_output) → wpX_endNumber Q (nI L, nI N, x_bound, 0, -1, M, nI (q + 1), nI b, x_textCount, x_escaped, x_valueSlot, x_valueName, nI (d + 1), x_outputLength, x_text, x_typeKind, x_typeDetail, x_typeLeast, x_typeMost, x_fieldCount, x_fieldName, x_fieldType, x_fieldNeeded, x_tagType, x_nodeKind, x_nodeValue, x_nodeParent, x_nodeName, x_nodeSlot, x_nodeStart, x_nodeTag, x_completeCount, x_openNode, x_openSlot, x_openNames, x_openNext, x_openComma, x_output) := by
      intro Q w
      refine ed_tag hM (by omega) es eo (by omega) esl hs hX (fun i' r' hi' ei' _ t1' hr' _ => ?_) htg hsc (fun z => ?_)
      · have e1 : i' = i := hh_i (by omega) (by omega) (ei'.symm.trans ((rg2 ok1).trans esc))
        subst e1
        have e2 : r' = r := hh_i (by omega) (by omega) (t1'.symm.trans t1)
        subst e2
        exact w
      · exfalso
        rcases z with z | ⟨i', hi', ei', z⟩
        · refine z (rg1.mpr ⟨ok1, ?_, ?_⟩)
          · rw [esc]; exact nI_pos' (by omega)
          · rw [esc]; exact nI_le (b := 5) (by omega) (by decide)
        · have e1 : i' = i := hh_i (by omega) (by omega) (ei'.symm.trans ((rg2 ok1).trans esc))
          subst e1
          rcases z with z | ⟨r', hr', z1, z2⟩
          · rw [t1] at z; exact hh_m1 (by omega) z
          · have e2 : r' = r := hh_i (by omega) (by omega) (z1.symm.trans t1)
            subst e2; exact z2 so5
    have hy1 : by_R slot k (nI L, nI P, y_bad, nI N, 0, -1, 0, nI (d + 1), y_nextName, y_wantsName, y_wantsTag, x_outputLength, y_waiting, y_scaled, x_typeKind, y_typeA, y_typeB, y_typeC, x_fieldName, x_fieldType, y_fields, y_tags, x_fieldNeeded, x_text, y_begin, y_end, y_inside, y_whole, y_kind, y_value, y_parent, y_name, y_slotOf, y_placeOf, y_complete, y_openNode, y_openType, y_openCount, y_openNames, y_openChoice, x_output, y_todo) (k + 1) (nI L, nI P, y_bad, nI N, 0, -1, 0, nI (d + 1), y_nextName, y_wantsName, 0, x_outputLength, y_waiting, sc, x_typeKind, y_typeA, y_typeB, y_typeC, x_fieldName, x_fieldType, y_fields, y_tags, x_fieldNeeded, x_text, y_begin, y_end, y_inside, y_whole, y_kind, upd y_value n (nI r), y_parent, y_name, y_slotOf, y_placeOf, y_complete, y_openNode, upd y_openType d (nI r), y_openCount, y_openNames, y_openChoice, x_output, y_todo) := by
      refine tg_Y (s := s) hk hP (by omega) eb (by omega) (by omega) eo' yk wn wt (sb_v hB) (fun Q w => yt_in (by omega) (by omega) (by omega) eb ech c0 (fun _ => yt_num (by omega) (by omega) ew ee hs eo' (by omega) hY hok htg' (fun i' r' hi' _ ei' t1' hr' _ => ?_) (fun z => ?_)) (fun z => absurd hB z))
      · have e1 : i' = i := hh_i (by omega) (by omega) (ei'.symm.trans esc)
        subst e1
        rw [(TS.2.2 i' hi').1] at t1'
        have e2 : r' = r := hh_i (by omega) (by omega) (t1'.symm.trans t1)
        subst e2
        exact w
      · exfalso
        rcases z with z | ⟨i', hi', ei', z⟩
        · refine z ⟨ok1, ?_, ?_⟩
          · rw [esc]; exact nI_pos' (by omega)
          · rw [esc]; exact nI_le (b := 5) (by omega) (by decide)
        · have e1 : i' = i := hh_i (by omega) (by omega) (ei'.symm.trans esc)
          subst e1
          rw [(TS.2.2 i' hi').1] at z
          rcases z with z | ⟨r', hr', z1, z2⟩
          · rw [t1] at z; exact hh_m1 (by omega) z
          · have e2 : r' = r := hh_i (by omega) (by omega) (z1.symm.trans t1)
            subst e2; exact z2 so5
    refine bo_step (bx_T h1 (bx_T hw (bx_N hL hq.2 h8 hn2 hx1))) hy1 (H _ _ _ _ _ _ _ ?_)
    obtain ⟨n', K, b', p1, p2, p3, p4, p5⟩ := ph
    have en' : n' = n := hh_i (by omega) (by omega) (p1.symm.trans eo)
    subst en'
    refine ⟨⟨e1, pe_u e2, e3, e4, e5, e6⟩, ?_, hd6, fun l hl => ?_, cm_s hc, bg', ?_⟩
    · exact nd_tag hA (ok := ok) hn (fun i' hi' w => hh_i (by omega) (by omega) (w.2.1.symm.trans eo)) k1 esl hs so6 p5 hi hr so5 (by omega) p4 (fun j hj => by rw [← p4]; exact hbg.2 j K hj (by omega)) (by rw [p3, ← esc]; exact hY)
    · by_cases z : l = d
      · subst z
        refine ⟨n', s, hn, hs, eo, eo', edp, by rw [pk_us, pk_us], esl, ?_⟩
        obtain ⟨n2, s2, hn2', hs2, eo2, eo2', edp2, et2, esl2, K2⟩ := hlv l (by omega)
        have : n2 = n' := hh_i (by omega) (by omega) (eo2.symm.trans eo)
        subst this
        rcases K2 with ⟨g2, -⟩ | ⟨-, k2, om2, mm, -⟩
        · rw [g1] at g2; exact absurd g2 (by decide)
        · exact Or.inr ⟨g1, k1, om2, mm, Or.inr (Or.inr ⟨so6, ech, r, i, hr, so5, pk_us, hi, pk_us⟩)⟩
      · obtain ⟨n2, s2, hn2', hs2, eo2, eo2', edp2, et2, esl2, K2⟩ := hlv l hl
        have nn : n2 ≠ n' := by rintro rfl; omega
        refine ⟨n2, s2, hn2', hs2, eo2, eo2', edp2, by rw [pk_un z, pk_un z]; exact et2, esl2, ?_⟩
        rw [pk_un z, pk_un nn, pk_un nn]
        exact K2
    · refine Or.inr (Or.inr (Or.inr (Or.inr (Or.inr (Or.inr (Or.inr (Or.inr (Or.inr ⟨rfl, by omega, fun _ => ⟨rfl, ?_⟩⟩))))))))
      show ¬ upd x_openSlot d (nI r) d = -1
      rw [pk_us]; exact hh_m1 (by omega)
  · have hx1 : ∀ Q : SX → Prop, Q (nI L, nI N, x_bound, 6, nI q, 2, nI (q + 1), nI b, x_textCount, x_escaped, x_valueSlot, x_valueName, nI (d + 1), x_outputLength, x_text, x_typeKind, x_typeDetail, x_typeLeast, x_typeMost, x_fieldCount, x_fieldName, x_fieldType, x_fieldNeeded, x_tagType, x_nodeKind, x_nodeValue, x_nodeParent, x_nodeName, x_nodeSlot, x_nodeStart, x_nodeTag, x_completeCount, x_openNode, x_openSlot, x_openNames, x_openNext, x_openComma, x_output) → wpX_endNumber Q (nI L, nI N, x_bound, 0, -1, M, nI (q + 1), nI b, x_textCount, x_escaped, x_valueSlot, x_valueName, nI (d + 1), x_outputLength, x_text, x_typeKind, x_typeDetail, x_typeLeast, x_typeMost, x_fieldCount, x_fieldName, x_fieldType, x_fieldNeeded, x_tagType, x_nodeKind, x_nodeValue, x_nodeParent, x_nodeName, x_nodeSlot, x_nodeStart, x_nodeTag, x_completeCount, x_openNode, x_openSlot, x_openNames, x_openNext, x_openComma, x_output) := by
      intro Q w
      refine ed_tag hM (by omega) es eo (by omega) esl hs hX (fun i' r' hi' ei' rg t1' hr' so5' => ?_) htg hsc (fun z => ?_)
      · exfalso
        obtain ⟨a1, -, -⟩ := rg1.mp rg
        exact good ⟨i', r', hi', a1, (rg2 a1).symm.trans ei', t1', hr', so5'⟩
      · rw [at1]; exact w
    have hy1 : by_R slot k (nI L, nI P, y_bad, nI N, 0, -1, 0, nI (d + 1), y_nextName, y_wantsName, y_wantsTag, x_outputLength, y_waiting, y_scaled, x_typeKind, y_typeA, y_typeB, y_typeC, x_fieldName, x_fieldType, y_fields, y_tags, x_fieldNeeded, x_text, y_begin, y_end, y_inside, y_whole, y_kind, y_value, y_parent, y_name, y_slotOf, y_placeOf, y_complete, y_openNode, y_openType, y_openCount, y_openNames, y_openChoice, x_output, y_todo) (k + 1) (nI L, nI P, y_bad, nI N, 6, nI q, 0, nI (d + 1), y_nextName, y_wantsName, 0, x_outputLength, y_waiting, sc, x_typeKind, y_typeA, y_typeB, y_typeC, x_fieldName, x_fieldType, y_fields, y_tags, x_fieldNeeded, x_text, y_begin, y_end, y_inside, y_whole, y_kind, y_value, y_parent, y_name, y_slotOf, y_placeOf, y_complete, y_openNode, y_openType, y_openCount, y_openNames, y_openChoice, x_output, y_todo) := by
      refine tg_Y (s := s) hk hP (by omega) eb (by omega) (by omega) eo' yk wn wt (sb_v hB) (fun Q w => yt_in (by omega) (by omega) (by omega) eb ech c0 (fun _ => yt_num (by omega) (by omega) ew ee hs eo' (by omega) hY hok htg' (fun i' r' hi' a1 ei' t1' hr' so5' => ?_) (fun _ => w)) (fun z => absurd hB z))
      exfalso
      rw [(TS.2.2 i' hi').1] at t1'
      exact good ⟨i', r', hi', a1, ei', t1', hr', so5'⟩
    exact ⟨6, _, _, fun post w => h1 post (hw post (bx_Nf hL hq.2 h8 hn2 (by decide) hx1 w)), fun post w => hy1 post (by_F (by decide) w), rl_mk hT (Or.inl rfl)⟩
end
end
section
/-! the bind: how a value begins -/
/-- a value of kind K begins with c where the slot's type is qa, and S inside -/
def kc_R (qa S c : Int32) (K : Nat) : Prop :=
  (K = 0 ∧ sp_B c ∧ S = 1 ∧ ¬ qa = 8) ∨ (K = 1 ∧ c = 16 ∧ S = 2) ∨ (K = 2 ∧ (c = 28 ∨ c = 29) ∧ S = 3) ∨ (K = 3 ∧ c = 12 ∧ S = 4) ∨ (K = 4 ∧ c = 10 ∧ (S = 5 ∨ S = 6)) ∨ (K = 5 ∧ c = 27 ∧ qa = 7) ∨ (K = 6 ∧ sp_B c ∧ qa = 8)
/-- the type is defined -/
def kc_D (qa S : Int32) : Prop := (qa = 8 → S = 5) ∧ (¬ qa = 8 → ¬ S = 0 ∧ ¬ 7 ≤ S)
/-- the slot inside slot a -/
def kc_I (so tD : Nat → Int32) (a w : Nat) : Prop := a < 12 ∧ w < 12 ∧ (so a < 7 ∧ w = a ∨ ¬ so a < 7 ∧ tD a = nI w) ∧ (∃ j, j ≤ 8 ∧ so w = nI j) ∧ ∃ j, j ≤ 8 ∧ so a = nI j
section
variable {x_length x_nodeCount x_bound x_fault x_faultPlace x_mode x_at x_tokenStart x_textCount x_escaped x_valueSlot x_valueName x_depth x_outputLength : Int32} {x_text x_typeKind x_typeDetail x_typeLeast x_typeMost x_fieldCount x_fieldName x_fieldType x_fieldNeeded x_tagType x_nodeKind x_nodeValue x_nodeParent x_nodeName x_nodeSlot x_nodeStart x_nodeTag x_completeCount x_openNode x_openSlot x_openNames x_openNext x_openComma x_output : Nat → Int32} {a w : Nat} {c : Int32}
theorem si_x {post : Int32 → Prop} (h : kc_I x_typeKind x_typeDetail a w) (hp : post (nI w)) : wpX_slotInside post (x_length, x_nodeCount, x_bound, x_fault, x_faultPlace, x_mode, x_at, x_tokenStart, x_textCount, x_escaped, x_valueSlot, x_valueName, x_depth, x_outputLength, x_text, x_typeKind, x_typeDetail, x_typeLeast, x_typeMost, x_fieldCount, x_fieldName, x_fieldType, x_fieldNeeded, x_tagType, x_nodeKind, x_nodeValue, x_nodeParent, x_nodeName, x_nodeSlot, x_nodeStart, x_nodeTag, x_completeCount, x_openNode, x_openSlot, x_openNames, x_openNext, x_openComma, x_output) (nI a) := by
  obtain ⟨ha, hw, hi, -⟩ := h
  have ea : (nI a).toNatClampNeg = a := nI_clamp (by omega)
  have ia : vp_in (nI a) 12 := vp_in_nI ha (by decide)
  refine And.intro ia ?_
  rw [ea]
  rcases hi with ⟨h1, rfl⟩ | ⟨h1, h2⟩
  · exact br_t h1 hp
  · refine br_f h1 ⟨ia, ?_⟩
    rw [h2]; exact hp
theorem df_x {post : Int32 → Prop} (h : kc_I x_typeKind x_typeDetail a w) (h1 : kc_D (x_typeKind a) (x_typeKind w) → post 1) (h0 : ¬ kc_D (x_typeKind a) (x_typeKind w) → post 0) : wpX_isDefined post (x_length, x_nodeCount, x_bound, x_fault, x_faultPlace, x_mode, x_at, x_tokenStart, x_textCount, x_escaped, x_valueSlot, x_valueName, x_depth, x_outputLength, x_text, x_typeKind, x_typeDetail, x_typeLeast, x_typeMost, x_fieldCount, x_fieldName, x_fieldType, x_fieldNeeded, x_tagType, x_nodeKind, x_nodeValue, x_nodeParent, x_nodeName, x_nodeSlot, x_nodeStart, x_nodeTag, x_completeCount, x_openNode, x_openSlot, x_openNames, x_openNext, x_openComma, x_output) (nI a) := by
  have ea : (nI a).toNatClampNeg = a := nI_clamp (by have := h.1; omega)
  have ew : (nI w).toNatClampNeg = w := nI_clamp (by have := h.2.1; omega)
  unfold wpX_isDefined
  dsimp only
  rw [ea]
  refine si_x h ⟨vp_in_nI h.2.1 (by decide), ?_⟩
  rw [ew]
  refine nm_e ⟨vp_in_nI h.1 (by decide), ?_⟩
  by_cases e8 : x_typeKind a = 8
  · refine br_t e8 ?_
    by_cases e5 : x_typeKind w = 5
    · exact br_t e5 (h1 ⟨fun _ => e5, fun z => absurd e8 z⟩)
    · exact br_f e5 (h0 (fun z => e5 (z.1 e8)))
  · refine br_f e8 ?_
    by_cases e0 : x_typeKind w = 0
    · exact br_t e0 (h0 (fun z => (z.2 e8).1 e0))
    · refine br_f e0 ?_
      by_cases e7 : 7 ≤ x_typeKind w
      · exact br_t e7 (h0 (fun z => (z.2 e8).2 e7))
      · exact br_f e7 (h1 ⟨fun z => absurd z e8, fun _ => ⟨e0, e7⟩⟩)
theorem kb_x (h : kc_I x_typeKind x_typeDetail a w) (c0 : ¬ c < 0) : ∃ r : Int32, (∀ post : Int32 → Prop, post r → wpX_kindBegun post (x_length, x_nodeCount, x_bound, x_fault, x_faultPlace, x_mode, x_at, x_tokenStart, x_textCount, x_escaped, x_valueSlot, x_valueName, x_depth, x_outputLength, x_text, x_typeKind, x_typeDetail, x_typeLeast, x_typeMost, x_fieldCount, x_fieldName, x_fieldType, x_fieldNeeded, x_tagType, x_nodeKind, x_nodeValue, x_nodeParent, x_nodeName, x_nodeSlot, x_nodeStart, x_nodeTag, x_completeCount, x_openNode, x_openSlot, x_openNames, x_openNext, x_openComma, x_output) (nI a) c) ∧ (kc_D (x_typeKind a) (x_typeKind w) → (∃ K, K ≤ 6 ∧ r = nI K ∧ kc_R (x_typeKind a) (x_typeKind w) c K) ∨ (r = -1 ∧ ¬ ∃ K, kc_R (x_typeKind a) (x_typeKind w) c K)) := by
  have ea : (nI a).toNatClampNeg = a := nI_clamp (by have := h.1; omega)
  have ew : (nI w).toNatClampNeg = w := nI_clamp (by have := h.2.1; omega)
  have ia : vp_in (nI a) 12 := vp_in_nI h.1 (by decide)
  by_cases e7 : x_typeKind a = 7 ∧ c = 27
  · refine ⟨5, fun post hp => ?_, fun _ => Or.inl ⟨5, by omega, rfl, Or.inr (Or.inr (Or.inr (Or.inr (Or.inr (Or.inl ⟨rfl, e7.2, e7.1⟩)))))⟩⟩
    refine And.intro ia ?_
    rw [ea]; exact br_t e7.1 (br_t e7.2 hp)
  have t19 : ∀ post : Int32 → Prop, wX_kindBegun_19 post (nI a) c x_length x_nodeCount x_bound x_fault x_faultPlace x_mode x_at x_tokenStart x_textCount x_escaped x_valueSlot x_valueName x_depth x_outputLength x_text x_typeKind x_typeDetail x_typeLeast x_typeMost x_fieldCount x_fieldName x_fieldType x_fieldNeeded x_tagType x_nodeKind x_nodeValue x_nodeParent x_nodeName x_nodeSlot x_nodeStart x_nodeTag x_completeCount x_openNode x_openSlot x_openNames x_openNext x_openComma x_output → wpX_kindBegun post (x_length, x_nodeCount, x_bound, x_fault, x_faultPlace, x_mode, x_at, x_tokenStart, x_textCount, x_escaped, x_valueSlot, x_valueName, x_depth, x_outputLength, x_text, x_typeKind, x_typeDetail, x_typeLeast, x_typeMost, x_fieldCount, x_fieldName, x_fieldType, x_fieldNeeded, x_tagType, x_nodeKind, x_nodeValue, x_nodeParent, x_nodeName, x_nodeSlot, x_nodeStart, x_nodeTag, x_completeCount, x_openNode, x_openSlot, x_openNames, x_openNext, x_openComma, x_output) (nI a) c := by
    intro post w
    refine And.intro ia ?_
    rw [ea]
    by_cases q : x_typeKind a = 7
    · exact br_t q (br_f (fun z => e7 ⟨q, z⟩) w)
    · exact br_f q w
  by_cases e8 : x_typeKind a = 8 ∧ sp_B c
  · refine ⟨6, fun post hp => t19 post ?_, fun _ => Or.inl ⟨6, by omega, rfl, Or.inr (Or.inr (Or.inr (Or.inr (Or.inr (Or.inr ⟨rfl, e8.2, e8.1⟩)))))⟩⟩
    refine And.intro ia ?_
    rw [ea]; exact br_t e8.1 (bv_num e8.2 c0 (br_f (by decide) hp))
  have t40 : ∀ post : Int32 → Prop, wX_kindBegun_40 post (nI a) c x_length x_nodeCount x_bound x_fault x_faultPlace x_mode x_at x_tokenStart x_textCount x_escaped x_valueSlot x_valueName x_depth x_outputLength x_text x_typeKind x_typeDetail x_typeLeast x_typeMost x_fieldCount x_fieldName x_fieldType x_fieldNeeded x_tagType x_nodeKind x_nodeValue x_nodeParent x_nodeName x_nodeSlot x_nodeStart x_nodeTag x_completeCount x_openNode x_openSlot x_openNames x_openNext x_openComma x_output → wpX_kindBegun post (x_length, x_nodeCount, x_bound, x_fault, x_faultPlace, x_mode, x_at, x_tokenStart, x_textCount, x_escaped, x_valueSlot, x_valueName, x_depth, x_outputLength, x_text, x_typeKind, x_typeDetail, x_typeLeast, x_typeMost, x_fieldCount, x_fieldName, x_fieldType, x_fieldNeeded, x_tagType, x_nodeKind, x_nodeValue, x_nodeParent, x_nodeName, x_nodeSlot, x_nodeStart, x_nodeTag, x_completeCount, x_openNode, x_openSlot, x_openNames, x_openNext, x_openComma, x_output) (nI a) c := by
    intro post w
    refine t19 post (And.intro ia ?_)
    rw [ea]
    by_cases q : x_typeKind a = 8
    · exact br_t q (bv_nn (fun z => e8 ⟨q, z⟩) c0 (br_t rfl w))
    · exact br_f q w
  obtain ⟨j, hj, eS⟩ := h.2.2.2.1
  have t41 : ∀ post : Int32 → Prop, (∀ kk : Int32, kk = nI j → ((kk < 1 → ((c = 10 → post 4) ∧ (¬ c = 10 → post (-1)))) ∧ (¬ kk < 1 → ((4 < kk → ((c = 10 → post 4) ∧ (¬ c = 10 → post (-1)))) ∧ (¬ 4 < kk → ((kk = 1 → wpX_beginsNumber (fun r_51 => ((r_51 = 0 → post (-1)) ∧ (¬ r_51 = 0 → post 0))) c) ∧ (¬ kk = 1 → ((kk = 2 → ((c = 16 → post 1) ∧ (¬ c = 16 → post (-1)))) ∧ (¬ kk = 2 → ((kk = 3 → ((c = 28 → post 2) ∧ (¬ c = 28 → ((c = 29 → post 2) ∧ (¬ c = 29 → post (-1)))))) ∧ (¬ kk = 3 → ((kk = 4 → ((c = 12 → post 3) ∧ (¬ c = 12 → post (-1)))) ∧ (¬ kk = 4 → True))))))))))))) → wpX_kindBegun post (x_length, x_nodeCount, x_bound, x_fault, x_faultPlace, x_mode, x_at, x_tokenStart, x_textCount, x_escaped, x_valueSlot, x_valueName, x_depth, x_outputLength, x_text, x_typeKind, x_typeDetail, x_typeLeast, x_typeMost, x_fieldCount, x_fieldName, x_fieldType, x_fieldNeeded, x_tagType, x_nodeKind, x_nodeValue, x_nodeParent, x_nodeName, x_nodeSlot, x_nodeStart, x_nodeTag, x_completeCount, x_openNode, x_openSlot, x_openNames, x_openNext, x_openComma, x_output) (nI a) c := by
    intro post hk
    refine t40 post ?_
    unfold wX_kindBegun_40
    refine si_x h ⟨vp_in_nI h.2.1 (by decide), ?_⟩
    rw [ew, eS]
    exact hk
  have nb8 : ∀ S : Int32, x_typeKind w = S → kc_D (x_typeKind a) (x_typeKind w) → ¬ S = 5 → ¬ x_typeKind a = 8 := fun S e D n q => n (e.symm.trans (D.1 q))
  have nK : ∀ S : Int32, x_typeKind w = S → (S = 1 → ¬ sp_B c) → (S = 2 → ¬ c = 16) → (S = 3 → ¬ (c = 28 ∨ c = 29)) → (S = 4 → ¬ c = 12) → (S = 5 ∨ S = 6 → ¬ c = 10) → ¬ ∃ K, kc_R (x_typeKind a) (x_typeKind w) c K := by
    intro S e k1 k2 k3 k4 k5
    rw [e]
    rintro ⟨K, q | q | q | q | q | q | q⟩
    · exact k1 q.2.2.1 q.2.1
    · exact k2 q.2.2 q.2.1
    · exact k3 q.2.2 q.2.1
    · exact k4 q.2.2 q.2.1
    · exact k5 q.2.2 q.2.1
    · exact e7 ⟨q.2.2, q.2.1⟩
    · exact e8 ⟨q.2.2, q.2.1⟩
  have hjc : j = 0 ∨ j = 1 ∨ j = 2 ∨ j = 3 ∨ j = 4 ∨ j = 5 ∨ j = 6 ∨ j = 7 ∨ j = 8 := by omega
  rcases hjc with rfl | rfl | rfl | rfl | rfl | rfl | rfl | rfl | rfl
  · by_cases z : c = 10
    · refine ⟨4, fun post hp => t41 post (fun kk e => ?_), fun D => ?_⟩
      · subst e; exact br_t (by decide) (br_t z hp)
      · rw [eS] at D
        by_cases q : x_typeKind a = 8
        · exact absurd (D.1 q) (by decide)
        · exact absurd rfl (D.2 q).1
    · refine ⟨-1, fun post hp => t41 post (fun kk e => ?_), fun D => ?_⟩
      · subst e; exact br_t (by decide) (br_f z hp)
      · rw [eS] at D
        by_cases q : x_typeKind a = 8
        · exact absurd (D.1 q) (by decide)
        · exact absurd rfl (D.2 q).1
  · by_cases z : sp_B c
    · refine ⟨0, fun post hp => t41 post (fun kk e => ?_), fun D => Or.inl ⟨0, by omega, rfl, Or.inl ⟨rfl, z, eS, nb8 _ eS D (by decide)⟩⟩⟩
      subst e; exact br_f (by decide) (br_f (by decide) (br_t rfl (bv_num z c0 (br_f (by decide) hp))))
    · refine ⟨-1, fun post hp => t41 post (fun kk e => ?_), fun D => Or.inr ⟨rfl, nK _ eS (fun _ => z) (fun q => absurd q (by decide)) (fun q => absurd q (by decide)) (fun q => absurd q (by decide)) (fun q => absurd q (by decide))⟩⟩
      subst e; exact br_f (by decide) (br_f (by decide) (br_t rfl (bv_nn z c0 (br_t rfl hp))))
  · by_cases z : c = 16
    · refine ⟨1, fun post hp => t41 post (fun kk e => ?_), fun D => Or.inl ⟨1, by omega, rfl, Or.inr (Or.inl ⟨rfl, z, eS⟩)⟩⟩
      subst e; exact br_f (by decide) (br_f (by decide) (br_f (by decide) (br_t rfl (br_t z hp))))
    · refine ⟨-1, fun post hp => t41 post (fun kk e => ?_), fun D => Or.inr ⟨rfl, nK _ eS (fun q => absurd q (by decide)) (fun _ => z) (fun q => absurd q (by decide)) (fun q => absurd q (by decide)) (fun q => absurd q (by decide))⟩⟩
      subst e; exact br_f (by decide) (br_f (by decide) (br_f (by decide) (br_t rfl (br_f z hp))))
  · by_cases z : c = 28 ∨ c = 29
    · refine ⟨2, fun post hp => t41 post (fun kk e => ?_), fun D => Or.inl ⟨2, by omega, rfl, Or.inr (Or.inr (Or.inl ⟨rfl, z, eS⟩))⟩⟩
      subst e
      refine br_f (by decide) (br_f (by decide) (br_f (by decide) (br_f (by decide) (br_t rfl ?_))))
      by_cases z1 : c = 28
      · exact br_t z1 hp
      · exact br_f z1 (br_t (z.resolve_left z1) hp)
    · refine ⟨-1, fun post hp => t41 post (fun kk e => ?_), fun D => Or.inr ⟨rfl, nK _ eS (fun q => absurd q (by decide)) (fun q => absurd q (by decide)) (fun _ => z) (fun q => absurd q (by decide)) (fun q => absurd q (by decide))⟩⟩
      subst e; exact br_f (by decide) (br_f (by decide) (br_f (by decide) (br_f (by decide) (br_t rfl (br_f (fun y => z (Or.inl y)) (br_f (fun y => z (Or.inr y)) hp))))))
  · by_cases z : c = 12
    · refine ⟨3, fun post hp => t41 post (fun kk e => ?_), fun D => Or.inl ⟨3, by omega, rfl, Or.inr (Or.inr (Or.inr (Or.inl ⟨rfl, z, eS⟩)))⟩⟩
      subst e; exact br_f (by decide) (br_f (by decide) (br_f (by decide) (br_f (by decide) (br_f (by decide) (br_t rfl (br_t z hp))))))
    · refine ⟨-1, fun post hp => t41 post (fun kk e => ?_), fun D => Or.inr ⟨rfl, nK _ eS (fun q => absurd q (by decide)) (fun q => absurd q (by decide)) (fun q => absurd q (by decide)) (fun _ => z) (fun q => absurd q (by decide))⟩⟩
      subst e; exact br_f (by decide) (br_f (by decide) (br_f (by decide) (br_f (by decide) (br_f (by decide) (br_t rfl (br_f z hp))))))
  · by_cases z : c = 10
    · refine ⟨4, fun post hp => t41 post (fun kk e => ?_), fun D => Or.inl ⟨4, by omega, rfl, Or.inr (Or.inr (Or.inr (Or.inr (Or.inl ⟨rfl, z, Or.inl eS⟩))))⟩⟩
      subst e; exact br_f (by decide) (br_t (by decide) (br_t z hp))
    · refine ⟨-1, fun post hp => t41 post (fun kk e => ?_), fun D => Or.inr ⟨rfl, nK _ eS (fun q => absurd q (by decide)) (fun q => absurd q (by decide)) (fun q => absurd q (by decide)) (fun q => absurd q (by decide)) (fun _ => z)⟩⟩
      subst e; exact br_f (by decide) (br_t (by decide) (br_f z hp))
  · by_cases z : c = 10
    · refine ⟨4, fun post hp => t41 post (fun kk e => ?_), fun D => Or.inl ⟨4, by omega, rfl, Or.inr (Or.inr (Or.inr (Or.inr (Or.inl ⟨rfl, z, Or.inr eS⟩))))⟩⟩
      subst e; exact br_f (by decide) (br_t (by decide) (br_t z hp))
    · refine ⟨-1, fun post hp => t41 post (fun kk e => ?_), fun D => Or.inr ⟨rfl, nK _ eS (fun q => absurd q (by decide)) (fun q => absurd q (by decide)) (fun q => absurd q (by decide)) (fun q => absurd q (by decide)) (fun _ => z)⟩⟩
      subst e; exact br_f (by decide) (br_t (by decide) (br_f z hp))
  all_goals
    by_cases z : c = 10
    · refine ⟨4, fun post hp => t41 post (fun kk e => ?_), fun D => ?_⟩
      · subst e; exact br_f (by decide) (br_t (by decide) (br_t z hp))
      · rw [eS] at D
        by_cases q : x_typeKind a = 8
        · exact absurd (D.1 q) (by decide)
        · exact absurd (by decide) (D.2 q).2
    · refine ⟨-1, fun post hp => t41 post (fun kk e => ?_), fun D => ?_⟩
      · subst e; exact br_f (by decide) (br_t (by decide) (br_f z hp))
      · rw [eS] at D
        by_cases q : x_typeKind a = 8
        · exact absurd (D.1 q) (by decide)
        · exact absurd (by decide) (D.2 q).2
end
end
section
/-! the bind: the component begins a value -/
/-- the node around: none, or n at the top, and its list's type s -/
def pc_X (d : Nat) (kd on os : Nat → Int32) (n s : Nat) : Prop := d = 0 ∨ ∃ d', d = d' + 1 ∧ d' < 6 ∧ on d' = nI n ∧ n < 40 ∧ (kd n = 3 → os d' = nI s ∧ s < 12)
section
variable {x_length x_bound x_fault x_faultPlace x_mode x_at x_tokenStart x_textCount x_escaped x_valueName x_outputLength : Int32} {x_text x_typeKind x_typeDetail x_typeLeast x_typeMost x_fieldCount x_fieldName x_fieldType x_fieldNeeded x_tagType x_nodeKind x_nodeValue x_nodeParent x_nodeName x_nodeSlot x_nodeStart x_nodeTag x_completeCount x_openNode x_openSlot x_openNames x_openNext x_openComma x_output : Nat → Int32} {a w d N n s K : Nat} {c r : Int32} {Q : SX → Prop}
theorem fb_41 {post : Int32 → Prop} (hpc : pc_X d x_nodeKind x_openNode x_openSlot n s) (hN : N ≤ 40) (h5 : N = 40 → post 5) (h6 : N < 40 → 0 < d → x_nodeKind n = 3 → ¬ x_valueName < x_typeMost s → post 6) (h0 : N < 40 → ¬ (0 < d ∧ x_nodeKind n = 3 ∧ ¬ x_valueName < x_typeMost s) → post 0) : wX_faultAtBeginning_41 post x_length (nI N) x_bound x_fault x_faultPlace x_mode x_at x_tokenStart x_textCount x_escaped (nI a) x_valueName (nI d) x_outputLength x_text x_typeKind x_typeDetail x_typeLeast x_typeMost x_fieldCount x_fieldName x_fieldType x_fieldNeeded x_tagType x_nodeKind x_nodeValue x_nodeParent x_nodeName x_nodeSlot x_nodeStart x_nodeTag x_completeCount x_openNode x_openSlot x_openNames x_openNext x_openComma x_output := by
  rcases Nat.lt_or_ge N 40 with w | w
  · refine br_t (nI_lt (b := 40) w (by decide)) ?_
    rcases hpc with rfl | ⟨d', rfl, hd, eo, hn, hl⟩
    · exact xi_0 (br_t rfl (h0 w (fun z => absurd z.1 (by omega))))
    · by_cases k3 : x_nodeKind n = 3
      · obtain ⟨es, hs⟩ := hl k3
        refine xi_l hd hn eo k3 (br_f (by decide) ?_)
        rw [nI_pred, nI_clamp (by omega), es, nI_clamp (by omega)]
        refine ⟨vp_in_nI hd (by decide), vp_in_nI hs (by decide), fun z => h0 w (fun y => y.2.2 z), fun z => h6 w (by omega) k3 z⟩
      · exact xi_r hd hn eo k3 (br_t rfl (h0 w (fun z => k3 z.2.1)))
  · have e : N = 40 := by omega
    subst e
    exact br_f (by decide) (h5 rfl)
theorem fb_x {post : Int32 → Prop} (hd6 : d ≤ 6) (h : kc_I x_typeKind x_typeDetail a w) (h2 : ¬ kc_D (x_typeKind a) (x_typeKind w) → post 2) (h3 : kc_D (x_typeKind a) (x_typeKind w) → r = -1 → post 3) (h4 : kc_D (x_typeKind a) (x_typeKind w) → ¬ r = -1 → d = 6 → (r = 3 ∨ r = 4) → post 4) (h41 : kc_D (x_typeKind a) (x_typeKind w) → ¬ r = -1 → ¬ (d = 6 ∧ (r = 3 ∨ r = 4)) → wX_faultAtBeginning_41 post x_length (nI N) x_bound x_fault x_faultPlace x_mode x_at x_tokenStart x_textCount x_escaped (nI a) x_valueName (nI d) x_outputLength x_text x_typeKind x_typeDetail x_typeLeast x_typeMost x_fieldCount x_fieldName x_fieldType x_fieldNeeded x_tagType x_nodeKind x_nodeValue x_nodeParent x_nodeName x_nodeSlot x_nodeStart x_nodeTag x_completeCount x_openNode x_openSlot x_openNames x_openNext x_openComma x_output) : wpX_faultAtBeginning post (x_length, nI N, x_bound, x_fault, x_faultPlace, x_mode, x_at, x_tokenStart, x_textCount, x_escaped, nI a, x_valueName, nI d, x_outputLength, x_text, x_typeKind, x_typeDetail, x_typeLeast, x_typeMost, x_fieldCount, x_fieldName, x_fieldType, x_fieldNeeded, x_tagType, x_nodeKind, x_nodeValue, x_nodeParent, x_nodeName, x_nodeSlot, x_nodeStart, x_nodeTag, x_completeCount, x_openNode, x_openSlot, x_openNames, x_openNext, x_openComma, x_output) r := by
  unfold wpX_faultAtBeginning
  dsimp only
  refine df_x h (fun D => br_f (by decide) ?_) (fun D => br_t rfl (h2 D))
  by_cases e1 : r = -1
  · exact br_t e1 (h3 D e1)
  refine br_f e1 ?_
  rcases Nat.lt_or_ge d 6 with w6 | w6
  · exact br_t (nI_lt (b := 6) w6 (by decide)) (h41 D e1 (fun z => by omega))
  · have e6 : d = 6 := by omega
    subst e6
    refine br_f (by decide) ?_
    by_cases r3 : r = 3
    · exact br_t r3 (h4 D e1 rfl (Or.inl r3))
    · refine br_f r3 ?_
      by_cases r4 : r = 4
      · exact br_t r4 (h4 D e1 rfl (Or.inr r4))
      · exact br_f r4 (h41 D e1 (fun z => z.2.elim r3 r4))
/-- a fault at its beginning -/
theorem vx_f {f : Int32} (hf : ¬ f = 0) (hk : ∀ post : Int32 → Prop, post r → wpX_kindBegun post (x_length, nI N, x_bound, x_fault, x_faultPlace, x_mode, x_at, x_tokenStart, x_textCount, x_escaped, nI a, x_valueName, nI d, x_outputLength, x_text, x_typeKind, x_typeDetail, x_typeLeast, x_typeMost, x_fieldCount, x_fieldName, x_fieldType, x_fieldNeeded, x_tagType, x_nodeKind, x_nodeValue, x_nodeParent, x_nodeName, x_nodeSlot, x_nodeStart, x_nodeTag, x_completeCount, x_openNode, x_openSlot, x_openNames, x_openNext, x_openComma, x_output) (nI a) c) (hfa : ∀ post : Int32 → Prop, post f → wpX_faultAtBeginning post (x_length, nI N, x_bound, x_fault, x_faultPlace, x_mode, x_at, x_tokenStart, x_textCount, x_escaped, nI a, x_valueName, nI d, x_outputLength, x_text, x_typeKind, x_typeDetail, x_typeLeast, x_typeMost, x_fieldCount, x_fieldName, x_fieldType, x_fieldNeeded, x_tagType, x_nodeKind, x_nodeValue, x_nodeParent, x_nodeName, x_nodeSlot, x_nodeStart, x_nodeTag, x_completeCount, x_openNode, x_openSlot, x_openNames, x_openNext, x_openComma, x_output) r) (h : Q (x_length, nI N, x_bound, f, x_at, x_mode, x_at, x_tokenStart, x_textCount, x_escaped, nI a, x_valueName, nI d, x_outputLength, x_text, x_typeKind, x_typeDetail, x_typeLeast, x_typeMost, x_fieldCount, x_fieldName, x_fieldType, x_fieldNeeded, x_tagType, x_nodeKind, x_nodeValue, x_nodeParent, x_nodeName, x_nodeSlot, x_nodeStart, x_nodeTag, x_completeCount, x_openNode, x_openSlot, x_openNames, x_openNext, x_openComma, x_output)) : wX_beginValue_45 Q c x_length (nI N) x_bound x_fault x_faultPlace x_mode x_at x_tokenStart x_textCount x_escaped (nI a) x_valueName (nI d) x_outputLength x_text x_typeKind x_typeDetail x_typeLeast x_typeMost x_fieldCount x_fieldName x_fieldType x_fieldNeeded x_tagType x_nodeKind x_nodeValue x_nodeParent x_nodeName x_nodeSlot x_nodeStart x_nodeTag x_completeCount x_openNode x_openSlot x_openNames x_openNext x_openComma x_output := by
  unfold wX_beginValue_45
  exact hk _ (hfa _ (br_f hf h))
/-- none -/
theorem vx_o {u1 u2 : SX} (hk : ∀ post : Int32 → Prop, post r → wpX_kindBegun post (x_length, nI N, x_bound, x_fault, x_faultPlace, x_mode, x_at, x_tokenStart, x_textCount, x_escaped, nI a, x_valueName, nI d, x_outputLength, x_text, x_typeKind, x_typeDetail, x_typeLeast, x_typeMost, x_fieldCount, x_fieldName, x_fieldType, x_fieldNeeded, x_tagType, x_nodeKind, x_nodeValue, x_nodeParent, x_nodeName, x_nodeSlot, x_nodeStart, x_nodeTag, x_completeCount, x_openNode, x_openSlot, x_openNames, x_openNext, x_openComma, x_output) (nI a) c) (hfa : ∀ post : Int32 → Prop, post 0 → wpX_faultAtBeginning post (x_length, nI N, x_bound, x_fault, x_faultPlace, x_mode, x_at, x_tokenStart, x_textCount, x_escaped, nI a, x_valueName, nI d, x_outputLength, x_text, x_typeKind, x_typeDetail, x_typeLeast, x_typeMost, x_fieldCount, x_fieldName, x_fieldType, x_fieldNeeded, x_tagType, x_nodeKind, x_nodeValue, x_nodeParent, x_nodeName, x_nodeSlot, x_nodeStart, x_nodeTag, x_completeCount, x_openNode, x_openSlot, x_openNames, x_openNext, x_openComma, x_output) r) (ha : ∀ R : SX → Prop, R u1 → wpX_addNode R (x_length, nI N, x_bound, x_fault, x_faultPlace, x_mode, x_at, x_tokenStart, x_textCount, x_escaped, nI a, x_valueName, nI d, x_outputLength, x_text, x_typeKind, x_typeDetail, x_typeLeast, x_typeMost, x_fieldCount, x_fieldName, x_fieldType, x_fieldNeeded, x_tagType, x_nodeKind, x_nodeValue, x_nodeParent, x_nodeName, x_nodeSlot, x_nodeStart, x_nodeTag, x_completeCount, x_openNode, x_openSlot, x_openNames, x_openNext, x_openComma, x_output) r) (he : ∀ R : SX → Prop, R u2 → wpX_enterValue R u1 r c) (h : Q u2) : wX_beginValue_45 Q c x_length (nI N) x_bound x_fault x_faultPlace x_mode x_at x_tokenStart x_textCount x_escaped (nI a) x_valueName (nI d) x_outputLength x_text x_typeKind x_typeDetail x_typeLeast x_typeMost x_fieldCount x_fieldName x_fieldType x_fieldNeeded x_tagType x_nodeKind x_nodeValue x_nodeParent x_nodeName x_nodeSlot x_nodeStart x_nodeTag x_completeCount x_openNode x_openSlot x_openNames x_openNext x_openComma x_output := by
  obtain ⟨u_length, u_nodeCount, u_bound, u_fault, u_faultPlace, u_mode, u_at, u_tokenStart, u_textCount, u_escaped, u_valueSlot, u_valueName, u_depth, u_outputLength, u_text, u_typeKind, u_typeDetail, u_typeLeast, u_typeMost, u_fieldCount, u_fieldName, u_fieldType, u_fieldNeeded, u_tagType, u_nodeKind, u_nodeValue, u_nodeParent, u_nodeName, u_nodeSlot, u_nodeStart, u_nodeTag, u_completeCount, u_openNode, u_openSlot, u_openNames, u_openNext, u_openComma, u_output⟩ := u1
  obtain ⟨v_length, v_nodeCount, v_bound, v_fault, v_faultPlace, v_mode, v_at, v_tokenStart, v_textCount, v_escaped, v_valueSlot, v_valueName, v_depth, v_outputLength, v_text, v_typeKind, v_typeDetail, v_typeLeast, v_typeMost, v_fieldCount, v_fieldName, v_fieldType, v_fieldNeeded, v_tagType, v_nodeKind, v_nodeValue, v_nodeParent, v_nodeName, v_nodeSlot, v_nodeStart, v_nodeTag, v_completeCount, v_openNode, v_openSlot, v_openNames, v_openNext, v_openComma, v_output⟩ := u2
  unfold wX_beginValue_45
  exact hk _ (hfa _ (br_t rfl (ha _ (he _ h))))
/-- a new node -/
theorem an_x (hN : N < 40) (h : kc_I x_typeKind x_typeDetail a w) {par : Int32} {vl1 : Nat → Int32}
    (hpar : (d = 0 ∧ par = -1 ∧ vl1 = x_nodeValue) ∨ ∃ d', d = d' + 1 ∧ d' < 6 ∧ n < 40 ∧ x_openNode d' = nI n ∧ par = nI n ∧ (x_nodeKind n = 3 ∧ vl1 = upd x_nodeValue n (x_nodeValue n + 1) ∨ ¬ x_nodeKind n = 3 ∧ vl1 = x_nodeValue))
    (hq : Q (x_length, nI (N + 1), x_bound, x_fault, x_faultPlace, x_mode, x_at, x_tokenStart, x_textCount, x_escaped, nI a, x_valueName, nI d, x_outputLength, x_text, x_typeKind, x_typeDetail, x_typeLeast, x_typeMost, x_fieldCount, x_fieldName, x_fieldType, x_fieldNeeded, x_tagType, upd x_nodeKind N r, upd vl1 N 0, upd x_nodeParent N par, upd x_nodeName N x_valueName, upd x_nodeSlot N (nI w), upd x_nodeStart N x_at, upd x_nodeTag N (-1), x_completeCount, x_openNode, x_openSlot, x_openNames, x_openNext, x_openComma, x_output)) : wpX_addNode Q (x_length, nI N, x_bound, x_fault, x_faultPlace, x_mode, x_at, x_tokenStart, x_textCount, x_escaped, nI a, x_valueName, nI d, x_outputLength, x_text, x_typeKind, x_typeDetail, x_typeLeast, x_typeMost, x_fieldCount, x_fieldName, x_fieldType, x_fieldNeeded, x_tagType, x_nodeKind, x_nodeValue, x_nodeParent, x_nodeName, x_nodeSlot, x_nodeStart, x_nodeTag, x_completeCount, x_openNode, x_openSlot, x_openNames, x_openNext, x_openComma, x_output) r := by
  have eN : (nI N).toNatClampNeg = N := nI_clamp (by omega)
  have iN : vp_in (nI N) 40 := vp_in_nI hN (by decide)
  have t40 : wX_addNode_40 Q r par x_length (nI N) x_bound x_fault x_faultPlace x_mode x_at x_tokenStart x_textCount x_escaped (nI a) x_valueName (nI d) x_outputLength x_text x_typeKind x_typeDetail x_typeLeast x_typeMost x_fieldCount x_fieldName x_fieldType x_fieldNeeded x_tagType x_nodeKind vl1 x_nodeParent x_nodeName x_nodeSlot x_nodeStart x_nodeTag x_completeCount x_openNode x_openSlot x_openNames x_openNext x_openComma x_output := by
    unfold wX_addNode_40
    rw [eN]
    refine ⟨iN, nm_e ⟨iN, nm_e ⟨iN, nm_e ⟨iN, nm_e (si_x h ⟨iN, nm_e ⟨iN, nm_e ⟨iN, nm_e (nm_r (nI_1 N) hq)⟩⟩⟩)⟩⟩⟩⟩
  rcases hpar with ⟨rfl, rfl, rfl⟩ | ⟨d', rfl, hd, hn, eo, rfl, hl⟩
  · refine br_t (by decide) ?_
    unfold wX_addNode_22
    exact xi_0 (br_t rfl t40)
  · refine br_f (nI_nle (by omega) (by omega)) ?_
    rw [nI_pred, nI_clamp (by omega), eo]
    refine ⟨vp_in_nI hd (by decide), ?_⟩
    unfold wX_addNode_22
    rcases hl with ⟨k3, rfl⟩ | ⟨k3, rfl⟩
    · refine xi_l hd hn eo k3 (br_f (by decide) ⟨vp_in_nI hn (by decide), vp_in_nI hn (by decide), ?_⟩)
      rw [nI_clamp (by omega)]
      exact nm_e t40
    · exact xi_r hd hn eo k3 (br_t rfl t40)
end
section
variable {x_length x_bound x_fault x_faultPlace x_mode x_at x_tokenStart x_textCount x_escaped x_valueSlot x_valueName x_depth x_outputLength : Int32} {x_text x_typeKind x_typeDetail x_typeLeast x_typeMost x_fieldCount x_fieldName x_fieldType x_fieldNeeded x_tagType x_nodeKind x_nodeValue x_nodeParent x_nodeName x_nodeSlot x_nodeStart x_nodeTag x_completeCount x_openNode x_openSlot x_openNames x_openNext x_openComma x_output : Nat → Int32} {N d s : Nat} {c : Int32} {Q : SX → Prop}
theorem ev_num {r : Int32} (hr : r = 0 ∨ r = 6) (h : Q (x_length, nI (N + 1), x_bound, x_fault, x_faultPlace, xn_m c, x_at, x_at, x_textCount, x_escaped, x_valueSlot, x_valueName, x_depth, x_outputLength, x_text, x_typeKind, x_typeDetail, x_typeLeast, x_typeMost, x_fieldCount, x_fieldName, x_fieldType, x_fieldNeeded, x_tagType, x_nodeKind, x_nodeValue, x_nodeParent, x_nodeName, x_nodeSlot, x_nodeStart, x_nodeTag, x_completeCount, x_openNode, x_openSlot, x_openNames, x_openNext, x_openComma, x_output)) : wpX_enterValue Q (x_length, nI (N + 1), x_bound, x_fault, x_faultPlace, x_mode, x_at, x_tokenStart, x_textCount, x_escaped, x_valueSlot, x_valueName, x_depth, x_outputLength, x_text, x_typeKind, x_typeDetail, x_typeLeast, x_typeMost, x_fieldCount, x_fieldName, x_fieldType, x_fieldNeeded, x_tagType, x_nodeKind, x_nodeValue, x_nodeParent, x_nodeName, x_nodeSlot, x_nodeStart, x_nodeTag, x_completeCount, x_openNode, x_openSlot, x_openNames, x_openNext, x_openComma, x_output) r c := by
  rcases hr with rfl | rfl
  · exact br_f (by decide) (br_f (by decide) (br_t rfl (en_n h)))
  · exact br_f (by decide) (br_f (by decide) (br_f (by decide) (br_f (by decide) (br_f (by decide) (br_f (by decide) (br_f (by decide) (br_f (by decide) (br_t rfl (en_n h)))))))))
theorem ev_txt (h : Q (x_length, nI (N + 1), x_bound, x_fault, x_faultPlace, 7, x_at, x_at, 0, 0, x_valueSlot, x_valueName, x_depth, x_outputLength, x_text, x_typeKind, x_typeDetail, x_typeLeast, x_typeMost, x_fieldCount, x_fieldName, x_fieldType, x_fieldNeeded, x_tagType, x_nodeKind, x_nodeValue, x_nodeParent, x_nodeName, x_nodeSlot, x_nodeStart, x_nodeTag, x_completeCount, x_openNode, x_openSlot, x_openNames, x_openNext, x_openComma, x_output)) : wpX_enterValue Q (x_length, nI (N + 1), x_bound, x_fault, x_faultPlace, x_mode, x_at, x_tokenStart, x_textCount, x_escaped, x_valueSlot, x_valueName, x_depth, x_outputLength, x_text, x_typeKind, x_typeDetail, x_typeLeast, x_typeMost, x_fieldCount, x_fieldName, x_fieldType, x_fieldNeeded, x_tagType, x_nodeKind, x_nodeValue, x_nodeParent, x_nodeName, x_nodeSlot, x_nodeStart, x_nodeTag, x_completeCount, x_openNode, x_openSlot, x_openNames, x_openNext, x_openComma, x_output) 1 c :=
  br_f (by decide) (br_f (by decide) (br_f (by decide) (br_t rfl h)))
theorem ev_flag (hN : N < 40) (hc : c = 28 ∨ c = 29) (h : Q (x_length, nI (N + 1), x_bound, x_fault, x_faultPlace, 2, x_at, x_tokenStart, x_textCount, x_escaped, x_valueSlot, x_valueName, x_depth, x_outputLength, x_text, x_typeKind, x_typeDetail, x_typeLeast, x_typeMost, x_fieldCount, x_fieldName, x_fieldType, x_fieldNeeded, x_tagType, x_nodeKind, upd x_nodeValue N (if c = 28 then 1 else 0), x_nodeParent, x_nodeName, x_nodeSlot, x_nodeStart, x_nodeTag, x_completeCount, x_openNode, x_openSlot, x_openNames, x_openNext, x_openComma, x_output)) : wpX_enterValue Q (x_length, nI (N + 1), x_bound, x_fault, x_faultPlace, x_mode, x_at, x_tokenStart, x_textCount, x_escaped, x_valueSlot, x_valueName, x_depth, x_outputLength, x_text, x_typeKind, x_typeDetail, x_typeLeast, x_typeMost, x_fieldCount, x_fieldName, x_fieldType, x_fieldNeeded, x_tagType, x_nodeKind, x_nodeValue, x_nodeParent, x_nodeName, x_nodeSlot, x_nodeStart, x_nodeTag, x_completeCount, x_openNode, x_openSlot, x_openNames, x_openNext, x_openComma, x_output) 2 c := by
  have eN : (nI N).toNatClampNeg = N := nI_clamp (by omega)
  have iN : vp_in (nI N) 40 := vp_in_nI hN (by decide)
  refine br_f (by decide) (br_f (by decide) (br_f (by decide) (br_f (by decide) (br_t rfl ?_))))
  rw [nI_pred, eN]
  by_cases z : c = 28
  · rw [if_pos z] at h; exact br_t z ⟨iN, nm_e h⟩
  · rw [if_neg z] at h; exact br_f z ⟨iN, nm_e h⟩
theorem ev_none (h : Q (x_length, nI (N + 1), x_bound, x_fault, x_faultPlace, 2, x_at, x_tokenStart, x_textCount, x_escaped, x_valueSlot, x_valueName, x_depth, x_outputLength, x_text, x_typeKind, x_typeDetail, x_typeLeast, x_typeMost, x_fieldCount, x_fieldName, x_fieldType, x_fieldNeeded, x_tagType, x_nodeKind, x_nodeValue, x_nodeParent, x_nodeName, x_nodeSlot, x_nodeStart, x_nodeTag, x_completeCount, x_openNode, x_openSlot, x_openNames, x_openNext, x_openComma, x_output)) : wpX_enterValue Q (x_length, nI (N + 1), x_bound, x_fault, x_faultPlace, x_mode, x_at, x_tokenStart, x_textCount, x_escaped, x_valueSlot, x_valueName, x_depth, x_outputLength, x_text, x_typeKind, x_typeDetail, x_typeLeast, x_typeMost, x_fieldCount, x_fieldName, x_fieldType, x_fieldNeeded, x_tagType, x_nodeKind, x_nodeValue, x_nodeParent, x_nodeName, x_nodeSlot, x_nodeStart, x_nodeTag, x_completeCount, x_openNode, x_openSlot, x_openNames, x_openNext, x_openComma, x_output) 5 c :=
  br_f (by decide) (br_f (by decide) (br_f (by decide) (br_f (by decide) (br_f (by decide) (br_f (by decide) (br_f (by decide) (br_t rfl h)))))))
end
section
variable {x_length x_bound x_fault x_faultPlace x_mode x_at x_tokenStart x_textCount x_escaped x_valueSlot x_valueName x_outputLength : Int32} {x_text x_typeKind x_typeDetail x_typeLeast x_typeMost x_fieldCount x_fieldName x_fieldType x_fieldNeeded x_tagType x_nodeKind x_nodeValue x_nodeParent x_nodeName x_nodeSlot x_nodeStart x_nodeTag x_completeCount x_openNode x_openSlot x_openNames x_openNext x_openComma x_output : Nat → Int32} {N d s : Nat} {c : Int32} {Q : SX → Prop}
theorem ev_list (hN : N < 40) (hd : d < 6) (h : Q (x_length, nI (N + 1), x_bound, x_fault, x_faultPlace, 1, x_at, x_tokenStart, x_textCount, x_escaped, x_valueSlot, x_valueName, nI (d + 1), x_outputLength, x_text, x_typeKind, x_typeDetail, x_typeLeast, x_typeMost, x_fieldCount, x_fieldName, x_fieldType, x_fieldNeeded, x_tagType, x_nodeKind, x_nodeValue, x_nodeParent, x_nodeName, x_nodeSlot, x_nodeStart, x_nodeTag, x_completeCount, upd x_openNode d (nI N), upd x_openSlot d (x_nodeSlot N), x_openNames, x_openNext, x_openComma, x_output)) : wpX_enterValue Q (x_length, nI (N + 1), x_bound, x_fault, x_faultPlace, x_mode, x_at, x_tokenStart, x_textCount, x_escaped, x_valueSlot, x_valueName, nI d, x_outputLength, x_text, x_typeKind, x_typeDetail, x_typeLeast, x_typeMost, x_fieldCount, x_fieldName, x_fieldType, x_fieldNeeded, x_tagType, x_nodeKind, x_nodeValue, x_nodeParent, x_nodeName, x_nodeSlot, x_nodeStart, x_nodeTag, x_completeCount, x_openNode, x_openSlot, x_openNames, x_openNext, x_openComma, x_output) 3 c := by
  have eN : (nI N).toNatClampNeg = N := nI_clamp (by omega)
  have iN : vp_in (nI N) 40 := vp_in_nI hN (by decide)
  have ed : (nI d).toNatClampNeg = d := nI_clamp (by omega)
  have i6 : vp_in (nI d) 6 := vp_in_nI hd (by decide)
  refine br_f (by decide) (br_f (by decide) (br_f (by decide) (br_f (by decide) (br_f (by decide) (br_t rfl ?_)))))
  unfold wpX_enterList
  dsimp only
  rw [nI_pred, eN, ed]
  exact ⟨i6, nm_e ⟨iN, i6, nm_e (nm_r (nI_1 d) h)⟩⟩
theorem ev_rec (hN : N < 40) (hd : d < 6) (hs : s < 12) (eS : x_nodeSlot N = nI s) {os om : Int32} (hc : x_typeKind s = 6 ∧ os = -1 ∧ om = (1 : Int32) <<< (x_typeDetail s &&& 31) ∨ ¬ x_typeKind s = 6 ∧ os = nI s ∧ om = 0) (h : Q (x_length, nI (N + 1), x_bound, x_fault, x_faultPlace, 3, x_at, x_tokenStart, x_textCount, x_escaped, x_valueSlot, x_valueName, nI (d + 1), x_outputLength, x_text, x_typeKind, x_typeDetail, x_typeLeast, x_typeMost, x_fieldCount, x_fieldName, x_fieldType, x_fieldNeeded, x_tagType, x_nodeKind, upd x_nodeValue N (x_completeCount s), x_nodeParent, x_nodeName, x_nodeSlot, x_nodeStart, x_nodeTag, x_completeCount, upd x_openNode d (nI N), upd x_openSlot d os, upd x_openNames d om, x_openNext, x_openComma, x_output)) : wpX_enterValue Q (x_length, nI (N + 1), x_bound, x_fault, x_faultPlace, x_mode, x_at, x_tokenStart, x_textCount, x_escaped, x_valueSlot, x_valueName, nI d, x_outputLength, x_text, x_typeKind, x_typeDetail, x_typeLeast, x_typeMost, x_fieldCount, x_fieldName, x_fieldType, x_fieldNeeded, x_tagType, x_nodeKind, x_nodeValue, x_nodeParent, x_nodeName, x_nodeSlot, x_nodeStart, x_nodeTag, x_completeCount, x_openNode, x_openSlot, x_openNames, x_openNext, x_openComma, x_output) 4 c := by
  have eN : (nI N).toNatClampNeg = N := nI_clamp (by omega)
  have iN : vp_in (nI N) 40 := vp_in_nI hN (by decide)
  have ed : (nI d).toNatClampNeg = d := nI_clamp (by omega)
  have es : (nI s).toNatClampNeg = s := nI_clamp (by omega)
  have i6 : vp_in (nI d) 6 := vp_in_nI hd (by decide)
  have is : vp_in (nI s) 12 := vp_in_nI hs (by decide)
  refine br_f (by decide) (br_f (by decide) (br_f (by decide) (br_f (by decide) (br_f (by decide) (br_f (by decide) (br_t rfl ?_))))))
  refine nm_r (nI_pred N) ⟨iN, ?_⟩
  rw [eN]
  refine nm_r eS ⟨is, ?_⟩
  rw [es]
  rcases hc with ⟨k6, rfl, rfl⟩ | ⟨k6, rfl, rfl⟩
  · refine br_t k6 ⟨i6, nm_e (br_f (by decide) ⟨i6, nm_e (br_f (by decide) ⟨is, i6, nm_e ⟨is, iN, nm_e (nm_r (nI_1 d) ?_)⟩⟩)⟩)⟩
    rw [ed, eN, es]; exact h
  · refine br_f k6 ⟨i6, nm_e (br_t rfl ⟨i6, nm_e (br_t rfl ⟨i6, nm_e ⟨is, iN, nm_e (nm_r (nI_1 d) ?_)⟩⟩)⟩)⟩
    rw [ed, eN, es]; exact h
end
end
section
/-! the bind: the reference begins a value -/
def pc_Y (d : Nat) (kd ot : Nat → Int32) (x3 : Int32) (n s : Nat) : Prop := x3 = -1 ∨ x3 = nI n ∧ n < 40 ∧ ∃ d', d = d' + 1 ∧ d' < 6 ∧ (kd n = 3 → ot d' = nI s ∧ s < 12)
section
variable {y_length y_parts y_bad y_fault y_place y_bound y_nextName y_wantsName y_wantsTag y_printed y_waiting y_scaled : Int32} {y_sort y_typeA y_typeB y_typeC y_fieldName y_fieldType y_fields y_tags y_needed y_text y_begin y_end y_inside y_whole y_kind y_value y_parent y_name y_slotOf y_placeOf y_complete y_openNode y_openType y_openCount y_openNames y_openChoice y_output y_todo : Nat → Int32} {a w d N n s K k b : Nat} {c x1 x3 x4 x5 x6 x7 x8 x9 x10 x11 : Int32} {Q : SY → Prop}
theorem yv_316 (hpc : pc_Y d y_kind y_openType x3 n s) (h : wY_bindValue_359 Q x1 x3 x4 x5 x6 x7 x8 x10 x11 y_length y_parts y_bad (nI N) y_fault y_place y_bound (nI d) y_nextName y_wantsName y_wantsTag y_printed y_waiting y_scaled y_sort y_typeA y_typeB y_typeC y_fieldName y_fieldType y_fields y_tags y_needed y_text y_begin y_end y_inside y_whole y_kind y_value y_parent y_name y_slotOf y_placeOf y_complete y_openNode y_openType y_openCount y_openNames y_openChoice y_output y_todo) (hf : ¬ y_fault = 0 ∨ ¬ (x3 = nI n ∧ y_kind n = 3 ∧ ¬ x4 < y_typeC s)) : wY_bindValue_316 Q x1 x3 x4 x5 x6 x7 x8 x10 x11 y_length y_parts y_bad (nI N) y_fault y_place y_bound (nI d) y_nextName y_wantsName y_wantsTag y_printed y_waiting y_scaled y_sort y_typeA y_typeB y_typeC y_fieldName y_fieldType y_fields y_tags y_needed y_text y_begin y_end y_inside y_whole y_kind y_value y_parent y_name y_slotOf y_placeOf y_complete y_openNode y_openType y_openCount y_openNames y_openChoice y_output y_todo := by
  rcases hpc with rfl | ⟨rfl, hn, d', rfl, hd, hl⟩
  · exact br_t (by decide) h
  · refine br_f (nI_pos (by omega)) ⟨vp_in_nI hn (by decide), ?_⟩
    rw [nI_clamp (by omega)]
    by_cases k3 : y_kind n = 3
    · obtain ⟨es, hs⟩ := hl k3
      refine br_t k3 ?_
      rw [nI_pred, nI_clamp (by omega), es, nI_clamp (by omega)]
      refine ⟨vp_in_nI (by omega) (by decide), vp_in_nI hs (by decide), ?_⟩
      by_cases z : x4 < y_typeC s
      · exact br_t z h
      · exact br_f z (br_f (hf.resolve_right (fun y => y ⟨rfl, k3, z⟩)) h)
    · exact br_f k3 h
/-- with a fault already, nothing more happens -/
theorem yv_f (hF : ¬ y_fault = 0) (hpc : pc_Y d y_kind y_openType x3 n s) (h : Q (y_length, y_parts, y_bad, nI N, y_fault, y_place, y_bound, nI d, y_nextName, y_wantsName, y_wantsTag, y_printed, y_waiting, y_scaled, y_sort, y_typeA, y_typeB, y_typeC, y_fieldName, y_fieldType, y_fields, y_tags, y_needed, y_text, y_begin, y_end, y_inside, y_whole, y_kind, y_value, y_parent, y_name, y_slotOf, y_placeOf, y_complete, y_openNode, y_openType, y_openCount, y_openNames, y_openChoice, y_output, y_todo)) : (∀ z0 : Int32, wY_bindValue_257 Q x1 x3 x4 x5 x6 x7 x8 x10 x11 z0 y_length y_parts y_bad (nI N) y_fault y_place y_bound (nI d) y_nextName y_wantsName y_wantsTag y_printed y_waiting y_scaled y_sort y_typeA y_typeB y_typeC y_fieldName y_fieldType y_fields y_tags y_needed y_text y_begin y_end y_inside y_whole y_kind y_value y_parent y_name y_slotOf y_placeOf y_complete y_openNode y_openType y_openCount y_openNames y_openChoice y_output y_todo) ∧ wY_bindValue_140 Q x1 x3 x4 x5 x6 x7 x8 x9 x10 x11 y_length y_parts y_bad (nI N) y_fault y_place y_bound (nI d) y_nextName y_wantsName y_wantsTag y_printed y_waiting y_scaled y_sort y_typeA y_typeB y_typeC y_fieldName y_fieldType y_fields y_tags y_needed y_text y_begin y_end y_inside y_whole y_kind y_value y_parent y_name y_slotOf y_placeOf y_complete y_openNode y_openType y_openCount y_openNames y_openChoice y_output y_todo ∧ wY_bindValue_300 Q x1 x3 x4 x5 x6 x7 x8 x10 x11 y_length y_parts y_bad (nI N) y_fault y_place y_bound (nI d) y_nextName y_wantsName y_wantsTag y_printed y_waiting y_scaled y_sort y_typeA y_typeB y_typeC y_fieldName y_fieldType y_fields y_tags y_needed y_text y_begin y_end y_inside y_whole y_kind y_value y_parent y_name y_slotOf y_placeOf y_complete y_openNode y_openType y_openCount y_openNames y_openChoice y_output y_todo ∧ wY_bindValue_271 Q x1 x3 x4 x5 x6 x7 x8 x10 x11 y_length y_parts y_bad (nI N) y_fault y_place y_bound (nI d) y_nextName y_wantsName y_wantsTag y_printed y_waiting y_scaled y_sort y_typeA y_typeB y_typeC y_fieldName y_fieldType y_fields y_tags y_needed y_text y_begin y_end y_inside y_whole y_kind y_value y_parent y_name y_slotOf y_placeOf y_complete y_openNode y_openType y_openCount y_openNames y_openChoice y_output y_todo ∧ wY_bindValue_359 Q x1 x3 x4 x5 x6 x7 x8 x10 x11 y_length y_parts y_bad (nI N) y_fault y_place y_bound (nI d) y_nextName y_wantsName y_wantsTag y_printed y_waiting y_scaled y_sort y_typeA y_typeB y_typeC y_fieldName y_fieldType y_fields y_tags y_needed y_text y_begin y_end y_inside y_whole y_kind y_value y_parent y_name y_slotOf y_placeOf y_complete y_openNode y_openType y_openCount y_openNames y_openChoice y_output y_todo ∧ wY_bindValue_316 Q x1 x3 x4 x5 x6 x7 x8 x10 x11 y_length y_parts y_bad (nI N) y_fault y_place y_bound (nI d) y_nextName y_wantsName y_wantsTag y_printed y_waiting y_scaled y_sort y_typeA y_typeB y_typeC y_fieldName y_fieldType y_fields y_tags y_needed y_text y_begin y_end y_inside y_whole y_kind y_value y_parent y_name y_slotOf y_placeOf y_complete y_openNode y_openType y_openCount y_openNames y_openChoice y_output y_todo := by
  have h359 : wY_bindValue_359 Q x1 x3 x4 x5 x6 x7 x8 x10 x11 y_length y_parts y_bad (nI N) y_fault y_place y_bound (nI d) y_nextName y_wantsName y_wantsTag y_printed y_waiting y_scaled y_sort y_typeA y_typeB y_typeC y_fieldName y_fieldType y_fields y_tags y_needed y_text y_begin y_end y_inside y_whole y_kind y_value y_parent y_name y_slotOf y_placeOf y_complete y_openNode y_openType y_openCount y_openNames y_openChoice y_output y_todo := br_f hF h
  have h316 : wY_bindValue_316 Q x1 x3 x4 x5 x6 x7 x8 x10 x11 y_length y_parts y_bad (nI N) y_fault y_place y_bound (nI d) y_nextName y_wantsName y_wantsTag y_printed y_waiting y_scaled y_sort y_typeA y_typeB y_typeC y_fieldName y_fieldType y_fields y_tags y_needed y_text y_begin y_end y_inside y_whole y_kind y_value y_parent y_name y_slotOf y_placeOf y_complete y_openNode y_openType y_openCount y_openNames y_openChoice y_output y_todo := yv_316 hpc h359 (Or.inl hF)
  have h300 : wY_bindValue_300 Q x1 x3 x4 x5 x6 x7 x8 x10 x11 y_length y_parts y_bad (nI N) y_fault y_place y_bound (nI d) y_nextName y_wantsName y_wantsTag y_printed y_waiting y_scaled y_sort y_typeA y_typeB y_typeC y_fieldName y_fieldType y_fields y_tags y_needed y_text y_begin y_end y_inside y_whole y_kind y_value y_parent y_name y_slotOf y_placeOf y_complete y_openNode y_openType y_openCount y_openNames y_openChoice y_output y_todo := br_c (fun _ => br_f hF h316) (fun _ => h316)
  have h285 : wY_bindValue_285 Q x1 x3 x4 x5 x6 x7 x8 x10 x11 y_length y_parts y_bad (nI N) y_fault y_place y_bound (nI d) y_nextName y_wantsName y_wantsTag y_printed y_waiting y_scaled y_sort y_typeA y_typeB y_typeC y_fieldName y_fieldType y_fields y_tags y_needed y_text y_begin y_end y_inside y_whole y_kind y_value y_parent y_name y_slotOf y_placeOf y_complete y_openNode y_openType y_openCount y_openNames y_openChoice y_output y_todo := br_c (fun _ => h300) (fun _ => br_f hF h300)
  have h271 : wY_bindValue_271 Q x1 x3 x4 x5 x6 x7 x8 x10 x11 y_length y_parts y_bad (nI N) y_fault y_place y_bound (nI d) y_nextName y_wantsName y_wantsTag y_printed y_waiting y_scaled y_sort y_typeA y_typeB y_typeC y_fieldName y_fieldType y_fields y_tags y_needed y_text y_begin y_end y_inside y_whole y_kind y_value y_parent y_name y_slotOf y_placeOf y_complete y_openNode y_openType y_openCount y_openNames y_openChoice y_output y_todo := br_c (fun _ => h285) (fun _ => br_c (fun _ => h285) (fun _ => h300))
  have h257 : ∀ z0 : Int32, wY_bindValue_257 Q x1 x3 x4 x5 x6 x7 x8 x10 x11 z0 y_length y_parts y_bad (nI N) y_fault y_place y_bound (nI d) y_nextName y_wantsName y_wantsTag y_printed y_waiting y_scaled y_sort y_typeA y_typeB y_typeC y_fieldName y_fieldType y_fields y_tags y_needed y_text y_begin y_end y_inside y_whole y_kind y_value y_parent y_name y_slotOf y_placeOf y_complete y_openNode y_openType y_openCount y_openNames y_openChoice y_output y_todo := fun z0 => br_c (fun _ => br_f hF h271) (fun _ => h271)
  exact ⟨h257, br_c (fun _ => h257 _) (fun _ => br_c (fun _ => br_c (fun _ => br_c (fun _ => h257 1) (fun _ => h257 0)) (fun _ => br_c (fun _ => br_c (fun _ => h257 1) (fun _ => h257 0)) (fun _ => br_c (fun _ => br_c (fun _ => h257 1) (fun _ => br_c (fun _ => h257 1) (fun _ => h257 0))) (fun _ => br_c (fun _ => h257 1) (fun _ => h257 0))))) (fun _ => br_c (fun _ => h257 1) (fun _ => br_c (fun _ => h257 0) (fun _ => h257 1)))), h300, h271, h359, h316⟩
end
section
variable {y_length y_parts y_bad y_place y_bound y_nextName y_wantsName y_wantsTag y_printed y_waiting y_scaled : Int32} {y_sort y_typeA y_typeB y_typeC y_fieldName y_fieldType y_fields y_tags y_needed y_text y_begin y_end y_inside y_whole y_kind y_value y_parent y_name y_slotOf y_placeOf y_complete y_openNode y_openType y_openCount y_openNames y_openChoice y_output y_todo : Nat → Int32} {a w d N n s K k b : Nat} {c x3 x4 x9 x10 x11 : Int32} {Q : SY → Prop}
/-- the faults behind the type -/
theorem yv_271 (hn40 : n < 40) (hpc : pc_Y d y_kind y_openType x3 n s) (hd6 : d ≤ 6) (hN : N ≤ 40)
    (h4 : (c = 10 ∨ c = 12) → d = 6 → Q (y_length, y_parts, y_bad, nI N, 4, nI b, y_bound, nI d, y_nextName, y_wantsName, y_wantsTag, y_printed, y_waiting, y_scaled, y_sort, y_typeA, y_typeB, y_typeC, y_fieldName, y_fieldType, y_fields, y_tags, y_needed, y_text, y_begin, y_end, y_inside, y_whole, y_kind, y_value, y_parent, y_name, y_slotOf, y_placeOf, y_complete, y_openNode, y_openType, y_openCount, y_openNames, y_openChoice, y_output, y_todo)) (h5 : ¬ ((c = 10 ∨ c = 12) ∧ d = 6) → N = 40 → Q (y_length, y_parts, y_bad, nI N, 5, nI b, y_bound, nI d, y_nextName, y_wantsName, y_wantsTag, y_printed, y_waiting, y_scaled, y_sort, y_typeA, y_typeB, y_typeC, y_fieldName, y_fieldType, y_fields, y_tags, y_needed, y_text, y_begin, y_end, y_inside, y_whole, y_kind, y_value, y_parent, y_name, y_slotOf, y_placeOf, y_complete, y_openNode, y_openType, y_openCount, y_openNames, y_openChoice, y_output, y_todo)) (h6 : ¬ ((c = 10 ∨ c = 12) ∧ d = 6) → N < 40 → x3 = nI n ∧ y_kind n = 3 ∧ ¬ x4 < y_typeC s → Q (y_length, y_parts, y_bad, nI N, 6, nI b, y_bound, nI d, y_nextName, y_wantsName, y_wantsTag, y_printed, y_waiting, y_scaled, y_sort, y_typeA, y_typeB, y_typeC, y_fieldName, y_fieldType, y_fields, y_tags, y_needed, y_text, y_begin, y_end, y_inside, y_whole, y_kind, y_value, y_parent, y_name, y_slotOf, y_placeOf, y_complete, y_openNode, y_openType, y_openCount, y_openNames, y_openChoice, y_output, y_todo))
    (h0 : ¬ ((c = 10 ∨ c = 12) ∧ d = 6) → N < 40 → ¬ (x3 = nI n ∧ y_kind n = 3 ∧ ¬ x4 < y_typeC s) → wY_bindValue_359 Q (nI k) x3 x4 (nI b) c (nI w) (y_sort w) x10 x11 y_length y_parts y_bad (nI N) 0 y_place y_bound (nI d) y_nextName y_wantsName y_wantsTag y_printed y_waiting y_scaled y_sort y_typeA y_typeB y_typeC y_fieldName y_fieldType y_fields y_tags y_needed y_text y_begin y_end y_inside y_whole y_kind y_value y_parent y_name y_slotOf y_placeOf y_complete y_openNode y_openType y_openCount y_openNames y_openChoice y_output y_todo) : wY_bindValue_271 Q (nI k) x3 x4 (nI b) c (nI w) (y_sort w) x10 x11 y_length y_parts y_bad (nI N) 0 y_place y_bound (nI d) y_nextName y_wantsName y_wantsTag y_printed y_waiting y_scaled y_sort y_typeA y_typeB y_typeC y_fieldName y_fieldType y_fields y_tags y_needed y_text y_begin y_end y_inside y_whole y_kind y_value y_parent y_name y_slotOf y_placeOf y_complete y_openNode y_openType y_openCount y_openNames y_openChoice y_output y_todo := by
  have t300 : ¬ ((c = 10 ∨ c = 12) ∧ d = 6) → wY_bindValue_300 Q (nI k) x3 x4 (nI b) c (nI w) (y_sort w) x10 x11 y_length y_parts y_bad (nI N) 0 y_place y_bound (nI d) y_nextName y_wantsName y_wantsTag y_printed y_waiting y_scaled y_sort y_typeA y_typeB y_typeC y_fieldName y_fieldType y_fields y_tags y_needed y_text y_begin y_end y_inside y_whole y_kind y_value y_parent y_name y_slotOf y_placeOf y_complete y_openNode y_openType y_openCount y_openNames y_openChoice y_output y_todo := by
    intro nd
    rcases Nat.lt_or_ge N 40 with w40 | w40
    · refine br_f (fun e => by have := hh_i (by omega) (by decide) (m := 40) e; omega) ?_
      by_cases fl : x3 = nI n ∧ y_kind n = 3 ∧ ¬ x4 < y_typeC s
      · rcases hpc with e | ⟨e, hn, d', rfl, hd, hl⟩
        · exfalso
          obtain ⟨e2, k3, z⟩ := fl
          rw [e2] at e
          exact hh_m1 (by omega) e
        · obtain ⟨-, k3, z⟩ := fl
          subst e
          obtain ⟨es, hs⟩ := hl k3
          refine br_f (nI_pos (by omega)) ⟨vp_in_nI hn (by decide), ?_⟩
          rw [nI_clamp (by omega)]
          refine br_t k3 ?_
          rw [nI_pred, nI_clamp (by omega), es, nI_clamp (by omega)]
          refine ⟨vp_in_nI (by omega) (by decide), vp_in_nI hs (by decide), br_f z (br_t rfl ?_)⟩
          exact br_f (by decide) (h6 nd w40 ⟨rfl, k3, z⟩)
      · exact yv_316 hpc (h0 nd w40 fl) (Or.inr fl)
    · have e : N = 40 := by omega
      subst e
      exact br_t rfl (br_t rfl (yv_f (x9 := 0) (by decide) hpc (h5 nd rfl)).2.2.2.2.2)
  have t285 : (c = 10 ∨ c = 12) → wY_bindValue_285 Q (nI k) x3 x4 (nI b) c (nI w) (y_sort w) x10 x11 y_length y_parts y_bad (nI N) 0 y_place y_bound (nI d) y_nextName y_wantsName y_wantsTag y_printed y_waiting y_scaled y_sort y_typeA y_typeB y_typeC y_fieldName y_fieldType y_fields y_tags y_needed y_text y_begin y_end y_inside y_whole y_kind y_value y_parent y_name y_slotOf y_placeOf y_complete y_openNode y_openType y_openCount y_openNames y_openChoice y_output y_todo := by
    intro hc
    rcases Nat.lt_or_ge d 6 with w6 | w6
    · exact br_t (nI_le (b := 5) (by omega) (by decide)) (t300 (fun z => by omega))
    · have e : d = 6 := by omega
      subst e
      exact br_f (by decide) (br_t rfl (yv_f (x9 := 0) (by decide) hpc (h4 hc rfl)).2.2.1)
  by_cases c10 : c = 10
  · exact br_t c10 (t285 (Or.inl c10))
  · refine br_f c10 ?_
    by_cases c12 : c = 12
    · exact br_t c12 (t285 (Or.inr c12))
    · exact br_f c12 (t300 (fun z => z.1.elim c10 c12))
/-- the flags of a value -/
def vg_F (qa c x9 x10 x11 : Int32) : Prop := (x9 = 1 ∧ qa = 7 ∨ x9 = 0 ∧ ¬ qa = 7) ∧ (x10 = 1 ∧ qa = 8 ∨ x10 = 0 ∧ ¬ qa = 8) ∧ (x11 = 1 ∧ sp_B c ∨ x11 = 0 ∧ ¬ sp_B c)
/-- right, or wrong -/
theorem yv_140 {qa : Int32} (hg : vg_F qa c x9 x10 x11) (hV : sp_V c) (hD : kc_D qa (y_sort w)) (h1 : (∃ K, kc_R qa (y_sort w) c K) → wY_bindValue_257 Q (nI k) x3 x4 (nI b) c (nI w) (y_sort w) x10 x11 1 y_length y_parts y_bad (nI N) 0 y_place y_bound (nI d) y_nextName y_wantsName y_wantsTag y_printed y_waiting y_scaled y_sort y_typeA y_typeB y_typeC y_fieldName y_fieldType y_fields y_tags y_needed y_text y_begin y_end y_inside y_whole y_kind y_value y_parent y_name y_slotOf y_placeOf y_complete y_openNode y_openType y_openCount y_openNames y_openChoice y_output y_todo) (h0 : (¬ ∃ K, kc_R qa (y_sort w) c K) → wY_bindValue_257 Q (nI k) x3 x4 (nI b) c (nI w) (y_sort w) x10 x11 0 y_length y_parts y_bad (nI N) 0 y_place y_bound (nI d) y_nextName y_wantsName y_wantsTag y_printed y_waiting y_scaled y_sort y_typeA y_typeB y_typeC y_fieldName y_fieldType y_fields y_tags y_needed y_text y_begin y_end y_inside y_whole y_kind y_value y_parent y_name y_slotOf y_placeOf y_complete y_openNode y_openType y_openCount y_openNames y_openChoice y_output y_todo) : wY_bindValue_140 Q (nI k) x3 x4 (nI b) c (nI w) (y_sort w) x9 x10 x11 y_length y_parts y_bad (nI N) 0 y_place y_bound (nI d) y_nextName y_wantsName y_wantsTag y_printed y_waiting y_scaled y_sort y_typeA y_typeB y_typeC y_fieldName y_fieldType y_fields y_tags y_needed y_text y_begin y_end y_inside y_whole y_kind y_value y_parent y_name y_slotOf y_placeOf y_complete y_openNode y_openType y_openCount y_openNames y_openChoice y_output y_todo := by
  obtain ⟨g9, g10, g11⟩ := hg
  by_cases c27 : c = 27
  · refine br_t c27 ?_
    have nB : ¬ sp_B c := by
      rw [c27]; rintro (q | q)
      · exact absurd q.2 (by decide)
      · exact absurd q (by decide)
    rcases g9 with ⟨rfl, q7⟩ | ⟨rfl, q7⟩
    · exact h1 ⟨5, Or.inr (Or.inr (Or.inr (Or.inr (Or.inr (Or.inl ⟨rfl, c27, q7⟩)))))⟩
    · refine h0 ?_
      rintro ⟨K, q | q | q | q | q | q | q⟩
      · exact nB q.2.1
      · rw [c27] at q; exact absurd q.2.1 (by decide)
      · rw [c27] at q; exact absurd q.2.1 (by decide)
      · rw [c27] at q; exact absurd q.2.1 (by decide)
      · rw [c27] at q; exact absurd q.2.1 (by decide)
      · exact q7 q.2.2
      · exact nB q.2.1
  refine br_f c27 ?_
  rcases g11 with ⟨rfl, hB⟩ | ⟨rfl, nB⟩
  · refine br_f (by decide) ?_
    have e16 : ¬ c = 16 := by rintro rfl; rcases hB with q | q; exact absurd q.2 (by decide); exact absurd q (by decide)
    have e12 : ¬ c = 12 := by rintro rfl; rcases hB with q | q; exact absurd q.2 (by decide); exact absurd q (by decide)
    have e10 : ¬ c = 10 := by rintro rfl; rcases hB with q | q; exact absurd q.2 (by decide); exact absurd q (by decide)
    have e28 : ¬ (c = 28 ∨ c = 29) := by rintro (rfl | rfl) <;> (rcases hB with q | q; exact absurd q.2 (by decide); exact absurd q (by decide))
    by_cases s1 : y_sort w = 1
    · refine br_t s1 (h1 ⟨0, Or.inl ⟨rfl, hB, s1, fun q8 => ?_⟩⟩)
      have := hD.1 q8; rw [s1] at this; exact absurd this (by decide)
    · refine br_f s1 ?_
      rcases g10 with ⟨rfl, q8⟩ | ⟨rfl, q8⟩
      · exact br_f (by decide) (h1 ⟨6, Or.inr (Or.inr (Or.inr (Or.inr (Or.inr (Or.inr ⟨rfl, hB, q8⟩)))))⟩)
      · refine br_t rfl (h0 ?_)
        rintro ⟨K, q | q | q | q | q | q | q⟩
        · exact s1 q.2.2.1
        · exact e16 q.2.1
        · exact e28 q.2.1
        · exact e12 q.2.1
        · exact e10 q.2.1
        · exact c27 q.2.1
        · exact q8 q.2.2
  · refine br_t rfl ?_
    by_cases e16 : c = 16
    · refine br_t e16 ?_
      by_cases s2 : y_sort w = 2
      · exact br_t s2 (h1 ⟨1, Or.inr (Or.inl ⟨rfl, e16, s2⟩)⟩)
      · refine br_f s2 (h0 ?_)
        rintro ⟨K, q | q | q | q | q | q | q⟩
        · exact nB q.2.1
        · exact s2 q.2.2
        · rw [e16] at q; exact absurd q.2.1 (by decide)
        · rw [e16] at q; exact absurd q.2.1 (by decide)
        · rw [e16] at q; exact absurd q.2.1 (by decide)
        · exact c27 q.2.1
        · exact nB q.2.1
    refine br_f e16 ?_
    by_cases e12 : c = 12
    · refine br_t e12 ?_
      by_cases s4 : y_sort w = 4
      · exact br_t s4 (h1 ⟨3, Or.inr (Or.inr (Or.inr (Or.inl ⟨rfl, e12, s4⟩)))⟩)
      · refine br_f s4 (h0 ?_)
        rintro ⟨K, q | q | q | q | q | q | q⟩
        · exact nB q.2.1
        · exact e16 q.2.1
        · rw [e12] at q; exact absurd q.2.1 (by decide)
        · exact s4 q.2.2
        · rw [e12] at q; exact absurd q.2.1 (by decide)
        · exact c27 q.2.1
        · exact nB q.2.1
    refine br_f e12 ?_
    by_cases e10 : c = 10
    · refine br_t e10 ?_
      by_cases s5 : y_sort w = 5
      · exact br_t s5 (h1 ⟨4, Or.inr (Or.inr (Or.inr (Or.inr (Or.inl ⟨rfl, e10, Or.inl s5⟩))))⟩)
      · refine br_f s5 ?_
        by_cases s6 : y_sort w = 6
        · exact br_t s6 (h1 ⟨4, Or.inr (Or.inr (Or.inr (Or.inr (Or.inl ⟨rfl, e10, Or.inr s6⟩))))⟩)
        · refine br_f s6 (h0 ?_)
          rintro ⟨K, q | q | q | q | q | q | q⟩
          · exact nB q.2.1
          · exact e16 q.2.1
          · rw [e10] at q; exact absurd q.2.1 (by decide)
          · exact e12 q.2.1
          · exact q.2.2.elim s5 s6
          · exact c27 q.2.1
          · exact nB q.2.1
    refine br_f e10 ?_
    have e28 : c = 28 ∨ c = 29 := by
      rcases hV with q | q | q | q | q | q | q | q
      · exact absurd (Or.inl q) nB
      · exact absurd q e10
      · exact absurd q e12
      · exact absurd q e16
      · exact absurd (Or.inr q) nB
      · exact absurd q c27
      · exact Or.inl q
      · exact Or.inr q
    by_cases s3 : y_sort w = 3
    · exact br_t s3 (h1 ⟨2, Or.inr (Or.inr (Or.inl ⟨rfl, e28, s3⟩))⟩)
    · refine br_f s3 (h0 ?_)
      rintro ⟨K, q | q | q | q | q | q | q⟩
      · exact nB q.2.1
      · exact e16 q.2.1
      · exact s3 q.2.2
      · exact e12 q.2.1
      · exact e10 q.2.1
      · exact c27 q.2.1
      · exact nB q.2.1
end
end
section
/-! the bind: the reference's value, from its call to its node -/
section
variable {y_length y_parts y_bad y_nodes y_fault y_place y_bound y_depth y_nextName y_wantsName y_wantsTag y_printed y_waiting y_scaled : Int32} {y_sort y_typeA y_typeB y_typeC y_fieldName y_fieldType y_fields y_tags y_needed y_text y_begin y_end y_inside y_whole y_kind y_value y_parent y_name y_slotOf y_placeOf y_complete y_openNode y_openType y_openCount y_openNames y_openChoice y_output y_todo : Nat → Int32} {a w n : Nat} {x3 : Int32} {Q : SY → Prop}
theorem wr_0 {post : Int32 → Prop} (ha : a < 12) (h7 : ¬ y_sort a = 7) (h8 : ¬ y_sort a = 8) (h : post 0) : wpY_wrapped post (y_length, y_parts, y_bad, y_nodes, y_fault, y_place, y_bound, y_depth, y_nextName, y_wantsName, y_wantsTag, y_printed, y_waiting, y_scaled, y_sort, y_typeA, y_typeB, y_typeC, y_fieldName, y_fieldType, y_fields, y_tags, y_needed, y_text, y_begin, y_end, y_inside, y_whole, y_kind, y_value, y_parent, y_name, y_slotOf, y_placeOf, y_complete, y_openNode, y_openType, y_openCount, y_openNames, y_openChoice, y_output, y_todo) (nI a) := by
  have ea : (nI a).toNatClampNeg = a := nI_clamp (by omega)
  have ia : vp_in (nI a) 12 := vp_in_nI ha (by decide)
  refine And.intro ia ?_
  rw [ea]; exact br_f h7 ⟨ia, br_f h8 h⟩
theorem wr_1 {post : Int32 → Prop} (ha : a < 12) (h7 : y_sort a = 7 ∨ y_sort a = 8) (h : post 1) : wpY_wrapped post (y_length, y_parts, y_bad, y_nodes, y_fault, y_place, y_bound, y_depth, y_nextName, y_wantsName, y_wantsTag, y_printed, y_waiting, y_scaled, y_sort, y_typeA, y_typeB, y_typeC, y_fieldName, y_fieldType, y_fields, y_tags, y_needed, y_text, y_begin, y_end, y_inside, y_whole, y_kind, y_value, y_parent, y_name, y_slotOf, y_placeOf, y_complete, y_openNode, y_openType, y_openCount, y_openNames, y_openChoice, y_output, y_todo) (nI a) := by
  have ea : (nI a).toNatClampNeg = a := nI_clamp (by omega)
  have ia : vp_in (nI a) 12 := vp_in_nI ha (by decide)
  refine And.intro ia ?_
  rw [ea]
  by_cases z : y_sort a = 7
  · exact br_t z h
  · exact br_f z ⟨ia, br_t (h7.resolve_left z) h⟩
theorem yv_564r (h : Q (y_length, y_parts, y_bad, y_nodes, y_fault, y_place, y_bound, y_depth, y_nextName, y_wantsName, y_wantsTag, y_printed, y_waiting, y_scaled, y_sort, y_typeA, y_typeB, y_typeC, y_fieldName, y_fieldType, y_fields, y_tags, y_needed, y_text, y_begin, y_end, y_inside, y_whole, y_kind, y_value, y_parent, y_name, y_slotOf, y_placeOf, y_complete, y_openNode, y_openType, y_openCount, y_openNames, y_openChoice, y_output, y_todo)) : wY_bindValue_564 Q (-1) y_length y_parts y_bad y_nodes y_fault y_place y_bound y_depth y_nextName y_wantsName y_wantsTag y_printed y_waiting y_scaled y_sort y_typeA y_typeB y_typeC y_fieldName y_fieldType y_fields y_tags y_needed y_text y_begin y_end y_inside y_whole y_kind y_value y_parent y_name y_slotOf y_placeOf y_complete y_openNode y_openType y_openCount y_openNames y_openChoice y_output y_todo := br_t (by decide) h
theorem yv_564n (hn : n < 40) (h1 : y_kind n = 3 → Q (y_length, y_parts, y_bad, y_nodes, y_fault, y_place, y_bound, y_depth, y_nextName, y_wantsName, y_wantsTag, y_printed, y_waiting, y_scaled, y_sort, y_typeA, y_typeB, y_typeC, y_fieldName, y_fieldType, y_fields, y_tags, y_needed, y_text, y_begin, y_end, y_inside, y_whole, y_kind, upd y_value n (y_value n + 1), y_parent, y_name, y_slotOf, y_placeOf, y_complete, y_openNode, y_openType, y_openCount, y_openNames, y_openChoice, y_output, y_todo)) (h0 : ¬ y_kind n = 3 → Q (y_length, y_parts, y_bad, y_nodes, y_fault, y_place, y_bound, y_depth, y_nextName, y_wantsName, y_wantsTag, y_printed, y_waiting, y_scaled, y_sort, y_typeA, y_typeB, y_typeC, y_fieldName, y_fieldType, y_fields, y_tags, y_needed, y_text, y_begin, y_end, y_inside, y_whole, y_kind, y_value, y_parent, y_name, y_slotOf, y_placeOf, y_complete, y_openNode, y_openType, y_openCount, y_openNames, y_openChoice, y_output, y_todo)) : wY_bindValue_564 Q (nI n) y_length y_parts y_bad y_nodes y_fault y_place y_bound y_depth y_nextName y_wantsName y_wantsTag y_printed y_waiting y_scaled y_sort y_typeA y_typeB y_typeC y_fieldName y_fieldType y_fields y_tags y_needed y_text y_begin y_end y_inside y_whole y_kind y_value y_parent y_name y_slotOf y_placeOf y_complete y_openNode y_openType y_openCount y_openNames y_openChoice y_output y_todo := by
  have en : (nI n).toNatClampNeg = n := nI_clamp (by omega)
  have i40 : vp_in (nI n) 40 := vp_in_nI hn (by decide)
  unfold wY_bindValue_564
  rw [en]
  exact br_f (nI_pos (by omega)) ⟨i40, fun z => ⟨i40, i40, nm_e (h1 z)⟩, h0⟩
end
theorem kc_7 {so tD : Nat → Int32} {a w : Nat} (h : kc_I so tD a w) : (so a < 7 ∧ w = a ∧ ¬ so a = 7 ∧ ¬ so a = 8) ∨ ((so a = 7 ∨ so a = 8) ∧ ¬ so a < 7 ∧ tD a = nI w) := by
  obtain ⟨-, -, hi, -, j, hj, e⟩ := h
  rcases hi with ⟨h1, h2⟩ | ⟨h1, h2⟩
  · refine Or.inl ⟨h1, h2, fun z => ?_, fun z => ?_⟩
    · rw [z] at h1; exact absurd h1 (by decide)
    · rw [z] at h1; exact absurd h1 (by decide)
  · refine Or.inr ⟨?_, h1, h2⟩
    rw [e] at h1 ⊢
    have : ¬ j < 7 := fun z => h1 (nI_lt (b := 7) z (by decide))
    have hj' : j = 7 ∨ j = 8 := by omega
    rcases hj' with rfl | rfl
    · exact Or.inl rfl
    · exact Or.inr rfl
section
variable {y_length y_parts y_bad y_place y_bound y_nextName y_wantsName y_wantsTag y_printed y_waiting y_scaled : Int32} {y_sort y_typeA y_typeB y_typeC y_fieldName y_fieldType y_fields y_tags y_needed y_text y_begin y_end y_inside y_whole y_kind y_value y_parent y_name y_slotOf y_placeOf y_complete y_openNode y_openType y_openCount y_openNames y_openChoice y_output y_todo : Nat → Int32} {a w d N n s K k b : Nat} {c x3 x4 : Int32} {Q : SY → Prop}
theorem yv_top (hk : k < 96) (hb : b < 96) (eb : y_begin k = nI b) (ec : y_text b = c) (hV : sp_V c) (c0 : ¬ c < 0) (hI : kc_I y_sort y_typeA a w) (hn40 : n < 40) (hpc : pc_Y d y_kind y_openType x3 n s)
    (h2 : ¬ kc_D (y_sort a) (y_sort w) → Q (y_length, y_parts, y_bad, nI N, 2, nI b, y_bound, nI d, y_nextName, y_wantsName, y_wantsTag, y_printed, y_waiting, y_scaled, y_sort, y_typeA, y_typeB, y_typeC, y_fieldName, y_fieldType, y_fields, y_tags, y_needed, y_text, y_begin, y_end, y_inside, y_whole, y_kind, y_value, y_parent, y_name, y_slotOf, y_placeOf, y_complete, y_openNode, y_openType, y_openCount, y_openNames, y_openChoice, y_output, y_todo)) (h3 : kc_D (y_sort a) (y_sort w) → (¬ ∃ K, kc_R (y_sort a) (y_sort w) c K) → Q (y_length, y_parts, y_bad, nI N, 3, nI b, y_bound, nI d, y_nextName, y_wantsName, y_wantsTag, y_printed, y_waiting, y_scaled, y_sort, y_typeA, y_typeB, y_typeC, y_fieldName, y_fieldType, y_fields, y_tags, y_needed, y_text, y_begin, y_end, y_inside, y_whole, y_kind, y_value, y_parent, y_name, y_slotOf, y_placeOf, y_complete, y_openNode, y_openType, y_openCount, y_openNames, y_openChoice, y_output, y_todo))
    (h1 : ∀ x9 x10 x11 : Int32, vg_F (y_sort a) c x9 x10 x11 → kc_D (y_sort a) (y_sort w) → (∃ K, kc_R (y_sort a) (y_sort w) c K) → wY_bindValue_271 Q (nI k) x3 x4 (nI b) c (nI w) (y_sort w) x10 x11 y_length y_parts y_bad (nI N) 0 y_place y_bound (nI d) y_nextName y_wantsName y_wantsTag y_printed y_waiting y_scaled y_sort y_typeA y_typeB y_typeC y_fieldName y_fieldType y_fields y_tags y_needed y_text y_begin y_end y_inside y_whole y_kind y_value y_parent y_name y_slotOf y_placeOf y_complete y_openNode y_openType y_openCount y_openNames y_openChoice y_output y_todo) : wpY_bindValue Q (y_length, y_parts, y_bad, nI N, 0, y_place, y_bound, nI d, y_nextName, y_wantsName, y_wantsTag, y_printed, y_waiting, y_scaled, y_sort, y_typeA, y_typeB, y_typeC, y_fieldName, y_fieldType, y_fields, y_tags, y_needed, y_text, y_begin, y_end, y_inside, y_whole, y_kind, y_value, y_parent, y_name, y_slotOf, y_placeOf, y_complete, y_openNode, y_openType, y_openCount, y_openNames, y_openChoice, y_output, y_todo) (nI k) (nI a) x3 x4 := by
  have ha := hI.1
  have hw := hI.2.1
  have ek : (nI k).toNatClampNeg = k := nI_clamp (by omega)
  have eB : (nI b).toNatClampNeg = b := nI_clamp (by omega)
  have ea : (nI a).toNatClampNeg = a := nI_clamp (by omega)
  have ew : (nI w).toNatClampNeg = w := nI_clamp (by omega)
  have ia : vp_in (nI a) 12 := vp_in_nI ha (by decide)
  have iw : vp_in (nI w) 12 := vp_in_nI hw (by decide)
  have t140 : ∀ x9 x10 x11 : Int32, vg_F (y_sort a) c x9 x10 x11 → kc_D (y_sort a) (y_sort w) → wY_bindValue_140 Q (nI k) x3 x4 (nI b) c (nI w) (y_sort w) x9 x10 x11 y_length y_parts y_bad (nI N) 0 y_place y_bound (nI d) y_nextName y_wantsName y_wantsTag y_printed y_waiting y_scaled y_sort y_typeA y_typeB y_typeC y_fieldName y_fieldType y_fields y_tags y_needed y_text y_begin y_end y_inside y_whole y_kind y_value y_parent y_name y_slotOf y_placeOf y_complete y_openNode y_openType y_openCount y_openNames y_openChoice y_output y_todo := by
    intro x9 x10 x11 hg D
    exact yv_140 hg hV D (fun E => br_f (by decide) (h1 x9 x10 x11 hg D E)) (fun E => br_t rfl (br_t rfl (yv_f (x9 := 0) (by decide) hpc (h3 D E)).2.2.2.1))
  have t133 : ∀ x9 x10 x11 : Int32, ¬ kc_D (y_sort a) (y_sort w) → wY_bindValue_133 Q (nI k) x3 x4 (nI b) c (nI w) (y_sort w) x9 x10 x11 y_length y_parts y_bad (nI N) 0 y_place y_bound (nI d) y_nextName y_wantsName y_wantsTag y_printed y_waiting y_scaled y_sort y_typeA y_typeB y_typeC y_fieldName y_fieldType y_fields y_tags y_needed y_text y_begin y_end y_inside y_whole y_kind y_value y_parent y_name y_slotOf y_placeOf y_complete y_openNode y_openType y_openCount y_openNames y_openChoice y_output y_todo := by
    intro x9 x10 x11 D
    exact br_t rfl (yv_f (by decide) hpc (h2 D)).2.1
  have t122 : ∀ x9 x10 x11 : Int32, vg_F (y_sort a) c x9 x10 x11 → ¬ y_sort w = 0 → (¬ y_sort a = 8 → kc_D (y_sort a) (y_sort w)) → wY_bindValue_122 Q (nI k) x3 x4 (nI b) c (nI w) (y_sort w) x9 x10 x11 y_length y_parts y_bad (nI N) 0 y_place y_bound (nI d) y_nextName y_wantsName y_wantsTag y_printed y_waiting y_scaled y_sort y_typeA y_typeB y_typeC y_fieldName y_fieldType y_fields y_tags y_needed y_text y_begin y_end y_inside y_whole y_kind y_value y_parent y_name y_slotOf y_placeOf y_complete y_openNode y_openType y_openCount y_openNames y_openChoice y_output y_todo := by
    intro x9 x10 x11 hg s0 hD
    rcases hg.2.1 with ⟨e, q8⟩ | ⟨e, q8⟩
    · refine br_f (by rw [e]; decide) ?_
      by_cases s5 : y_sort w = 5
      · exact br_t s5 (t140 x9 x10 x11 hg ⟨fun _ => s5, fun z => absurd q8 z⟩)
      · exact br_f s5 (t133 x9 x10 x11 (fun D => s5 (D.1 q8)))
    · exact br_t e (t140 x9 x10 x11 hg (hD q8))
  have t101 : ∀ x9 x10 x11 : Int32, vg_F (y_sort a) c x9 x10 x11 → wY_bindValue_101 Q (nI k) x3 x4 (nI b) c (nI w) (y_sort w) x9 x10 x11 y_length y_parts y_bad (nI N) 0 y_place y_bound (nI d) y_nextName y_wantsName y_wantsTag y_printed y_waiting y_scaled y_sort y_typeA y_typeB y_typeC y_fieldName y_fieldType y_fields y_tags y_needed y_text y_begin y_end y_inside y_whole y_kind y_value y_parent y_name y_slotOf y_placeOf y_complete y_openNode y_openType y_openCount y_openNames y_openChoice y_output y_todo := by
    intro x9 x10 x11 hg
    by_cases s0 : y_sort w = 0
    · refine br_t s0 (t133 x9 x10 x11 (fun D => ?_))
      by_cases q8 : y_sort a = 8
      · have := D.1 q8; rw [s0] at this; exact absurd this (by decide)
      · exact (D.2 q8).1 s0
    refine br_f s0 ?_
    rcases hg.1 with ⟨e, q7⟩ | ⟨e, q7⟩
    · refine br_f (by rw [e]; decide) ?_
      have n8 : ¬ y_sort a = 8 := by rw [q7]; decide
      by_cases wr : y_sort w = 7 ∨ y_sort w = 8
      · refine wr_1 hw wr (br_f (by decide) (t133 x9 x10 x11 (fun D => (D.2 n8).2 ?_)))
        rcases wr with z | z <;> (rw [z]; decide)
      · refine wr_0 hw (fun z => wr (Or.inl z)) (fun z => wr (Or.inr z)) (br_t rfl (t122 x9 x10 x11 hg s0 (fun _ => ⟨fun z => absurd z n8, fun _ => ⟨s0, fun z => wr ?_⟩⟩)))
        obtain ⟨j, hj, ej⟩ := hI.2.2.2.1
        rw [ej] at z ⊢
        have : 7 ≤ j := (nI_leI (a := 7) (by decide) (by omega)).mp z
        have hj' : j = 7 ∨ j = 8 := by omega
        rcases hj' with rfl | rfl
        · exact Or.inl rfl
        · exact Or.inr rfl
    · refine br_t e (t122 x9 x10 x11 hg s0 (fun n8 => ⟨fun z => absurd z n8, fun _ => ⟨s0, fun z => ?_⟩⟩))
      rcases kc_7 hI with ⟨k1, rfl, -, -⟩ | ⟨k1, -, -⟩
      · exact absurd z (Int32.not_le.mpr k1)
      · exact k1.elim q7 n8
  have t80 : ∀ x9 x10 : Int32, (x9 = 1 ∧ y_sort a = 7 ∨ x9 = 0 ∧ ¬ y_sort a = 7) → (x10 = 1 ∧ y_sort a = 8 ∨ x10 = 0 ∧ ¬ y_sort a = 8) → wY_bindValue_80 Q (nI k) x3 x4 (nI b) c (nI w) (y_sort w) x9 x10 y_length y_parts y_bad (nI N) 0 y_place y_bound (nI d) y_nextName y_wantsName y_wantsTag y_printed y_waiting y_scaled y_sort y_typeA y_typeB y_typeC y_fieldName y_fieldType y_fields y_tags y_needed y_text y_begin y_end y_inside y_whole y_kind y_value y_parent y_name y_slotOf y_placeOf y_complete y_openNode y_openType y_openCount y_openNames y_openChoice y_output y_todo := by
    intro x9 x10 g9 g10
    by_cases c10 : c < 10
    · have hB : sp_B c := by
        refine Or.inl ⟨Int32.not_lt.mp c0, ?_⟩
        rw [Int32.lt_iff_toInt_lt] at c10
        rw [Int32.le_iff_toInt_le]
        have e1 : (10 : Int32).toInt = 10 := by decide
        have e2 : (9 : Int32).toInt = 9 := by decide
        omega
      exact br_t c10 (t101 x9 x10 1 ⟨g9, g10, Or.inl ⟨rfl, hB⟩⟩)
    · refine br_f c10 ?_
      by_cases c17 : c = 17
      · exact br_t c17 (t101 x9 x10 1 ⟨g9, g10, Or.inl ⟨rfl, Or.inr c17⟩⟩)
      · refine br_f c17 (t101 x9 x10 0 ⟨g9, g10, Or.inr ⟨rfl, ?_⟩⟩)
        rintro (z | z)
        · exact c10 (Int32.lt_of_le_of_lt z.2 (by decide))
        · exact c17 z
  have t62 : ∀ x9 : Int32, (x9 = 1 ∧ y_sort a = 7 ∨ x9 = 0 ∧ ¬ y_sort a = 7) → wY_bindValue_62 Q (nI k) (nI a) x3 x4 (nI b) c (nI w) (y_sort w) x9 y_length y_parts y_bad (nI N) 0 y_place y_bound (nI d) y_nextName y_wantsName y_wantsTag y_printed y_waiting y_scaled y_sort y_typeA y_typeB y_typeC y_fieldName y_fieldType y_fields y_tags y_needed y_text y_begin y_end y_inside y_whole y_kind y_value y_parent y_name y_slotOf y_placeOf y_complete y_openNode y_openType y_openCount y_openNames y_openChoice y_output y_todo := by
    intro x9 g9
    unfold wY_bindValue_62
    rw [ea]
    exact ⟨ia, fun z => t80 x9 1 g9 (Or.inl ⟨rfl, z⟩), fun z => t80 x9 0 g9 (Or.inr ⟨rfl, z⟩)⟩
  have t35 : wY_bindValue_35 Q (nI k) (nI a) x3 x4 (nI b) c (nI w) y_length y_parts y_bad (nI N) 0 y_place y_bound (nI d) y_nextName y_wantsName y_wantsTag y_printed y_waiting y_scaled y_sort y_typeA y_typeB y_typeC y_fieldName y_fieldType y_fields y_tags y_needed y_text y_begin y_end y_inside y_whole y_kind y_value y_parent y_name y_slotOf y_placeOf y_complete y_openNode y_openType y_openCount y_openNames y_openChoice y_output y_todo := by
    unfold wY_bindValue_35
    rw [ea, ew]
    exact ⟨iw, nm_e ⟨ia, fun z => t62 1 (Or.inl ⟨rfl, z⟩), fun z => t62 0 (Or.inr ⟨rfl, z⟩)⟩⟩
  unfold wpY_bindValue
  dsimp only
  rw [ek, eb, ea]
  refine ⟨vp_in_nI hk (by decide), nm_e ⟨vp_in_nI hb (by decide), nm_r (e' := c) (by rw [eB]; exact ec) ?_⟩⟩
  rcases kc_7 hI with ⟨-, e, n7, n8⟩ | ⟨k1, -, e⟩
  · rw [e] at t35
    exact wr_0 ha n7 n8 (br_t rfl t35)
  · refine wr_1 ha k1 (br_f (by decide) ⟨ia, ?_⟩)
    rw [e]; exact t35
end
section
variable {y_length y_parts y_bad y_place y_bound y_depth y_nextName y_wantsName y_wantsTag y_printed y_waiting y_scaled : Int32} {y_sort y_typeA y_typeB y_typeC y_fieldName y_fieldType y_fields y_tags y_needed y_text y_begin y_end y_inside y_whole y_kind y_value y_parent y_name y_slotOf y_placeOf y_complete y_openNode y_openType y_openCount y_openNames y_openChoice y_output y_todo : Nat → Int32} {a w N K k b : Nat} {c x3 x4 x9 x10 x11 : Int32} {Q : SY → Prop}
/-- the value that the new node has at first -/
def v0_F (S c : Int32) (cm : Int32) : Int32 := if S = 5 ∧ c = 10 then cm else if c = 28 then 1 else 0
theorem yv_359 (hN : N < 40) (hw : w < 12) (hg : vg_F (y_sort a) c x9 x10 x11) (hD : kc_D (y_sort a) (y_sort w)) (hR : kc_R (y_sort a) (y_sort w) c K)
    (h : (x11 = 0 → ((c = 16 → wpY_bindText (fun u => match u with | (y_length, y_parts, y_bad, y_nodes, y_fault, y_place, y_bound, y_depth, y_nextName, y_wantsName, y_wantsTag, y_printed, y_waiting, y_scaled, y_sort, y_typeA, y_typeB, y_typeC, y_fieldName, y_fieldType, y_fields, y_tags, y_needed, y_text, y_begin, y_end, y_inside, y_whole, y_kind, y_value, y_parent, y_name, y_slotOf, y_placeOf, y_complete, y_openNode, y_openType, y_openCount, y_openNames, y_openChoice, y_output, y_todo) => wY_bindValue_564 Q x3 y_length y_parts y_bad y_nodes y_fault y_place y_bound y_depth y_nextName y_wantsName y_wantsTag y_printed y_waiting y_scaled y_sort y_typeA y_typeB y_typeC y_fieldName y_fieldType y_fields y_tags y_needed y_text y_begin y_end y_inside y_whole y_kind y_value y_parent y_name y_slotOf y_placeOf y_complete y_openNode y_openType y_openCount y_openNames y_openChoice y_output y_todo) (y_length, y_parts, y_bad, nI (N + 1), 0, y_place, y_bound, y_depth, y_nextName, y_wantsName, y_wantsTag, y_printed, y_waiting, y_scaled, y_sort, y_typeA, y_typeB, y_typeC, y_fieldName, y_fieldType, y_fields, y_tags, y_needed, y_text, y_begin, y_end, y_inside, y_whole, upd y_kind N (nI K), upd y_value N (v0_F (y_sort w) c (y_complete w)), upd y_parent N x3, upd y_name N x4, upd y_slotOf N (nI w), upd y_placeOf N (nI b), y_complete, y_openNode, y_openType, y_openCount, y_openNames, y_openChoice, y_output, y_todo) (nI k) (nI N)) ∧ (¬ c = 16 → ((c = 10 ∨ c = 12 → wpY_open (fun u => match u with | (y_length, y_parts, y_bad, y_nodes, y_fault, y_place, y_bound, y_depth, y_nextName, y_wantsName, y_wantsTag, y_printed, y_waiting, y_scaled, y_sort, y_typeA, y_typeB, y_typeC, y_fieldName, y_fieldType, y_fields, y_tags, y_needed, y_text, y_begin, y_end, y_inside, y_whole, y_kind, y_value, y_parent, y_name, y_slotOf, y_placeOf, y_complete, y_openNode, y_openType, y_openCount, y_openNames, y_openChoice, y_output, y_todo) => wY_bindValue_564 Q x3 y_length y_parts y_bad y_nodes y_fault y_place y_bound y_depth y_nextName y_wantsName y_wantsTag y_printed y_waiting y_scaled y_sort y_typeA y_typeB y_typeC y_fieldName y_fieldType y_fields y_tags y_needed y_text y_begin y_end y_inside y_whole y_kind y_value y_parent y_name y_slotOf y_placeOf y_complete y_openNode y_openType y_openCount y_openNames y_openChoice y_output y_todo) (y_length, y_parts, y_bad, nI (N + 1), 0, y_place, y_bound, y_depth, y_nextName, y_wantsName, y_wantsTag, y_printed, y_waiting, y_scaled, y_sort, y_typeA, y_typeB, y_typeC, y_fieldName, y_fieldType, y_fields, y_tags, y_needed, y_text, y_begin, y_end, y_inside, y_whole, upd y_kind N (nI K), upd y_value N (v0_F (y_sort w) c (y_complete w)), upd y_parent N x3, upd y_name N x4, upd y_slotOf N (nI w), upd y_placeOf N (nI b), y_complete, y_openNode, y_openType, y_openCount, y_openNames, y_openChoice, y_output, y_todo) (nI N) (nI w)) ∧ (¬ (c = 10 ∨ c = 12) → wY_bindValue_564 Q x3 y_length y_parts y_bad (nI (N + 1)) 0 y_place y_bound y_depth y_nextName y_wantsName y_wantsTag y_printed y_waiting y_scaled y_sort y_typeA y_typeB y_typeC y_fieldName y_fieldType y_fields y_tags y_needed y_text y_begin y_end y_inside y_whole (upd y_kind N (nI K)) (upd y_value N (v0_F (y_sort w) c (y_complete w))) (upd y_parent N x3) (upd y_name N x4) (upd y_slotOf N (nI w)) (upd y_placeOf N (nI b)) y_complete y_openNode y_openType y_openCount y_openNames y_openChoice y_output y_todo))))) ∧ (¬ x11 = 0 → wpY_bindNumber (fun u => match u with | (y_length, y_parts, y_bad, y_nodes, y_fault, y_place, y_bound, y_depth, y_nextName, y_wantsName, y_wantsTag, y_printed, y_waiting, y_scaled, y_sort, y_typeA, y_typeB, y_typeC, y_fieldName, y_fieldType, y_fields, y_tags, y_needed, y_text, y_begin, y_end, y_inside, y_whole, y_kind, y_value, y_parent, y_name, y_slotOf, y_placeOf, y_complete, y_openNode, y_openType, y_openCount, y_openNames, y_openChoice, y_output, y_todo) => wY_bindValue_564 Q x3 y_length y_parts y_bad y_nodes y_fault y_place y_bound y_depth y_nextName y_wantsName y_wantsTag y_printed y_waiting y_scaled y_sort y_typeA y_typeB y_typeC y_fieldName y_fieldType y_fields y_tags y_needed y_text y_begin y_end y_inside y_whole y_kind y_value y_parent y_name y_slotOf y_placeOf y_complete y_openNode y_openType y_openCount y_openNames y_openChoice y_output y_todo) (y_length, y_parts, y_bad, nI (N + 1), 0, y_place, y_bound, y_depth, y_nextName, y_wantsName, y_wantsTag, y_printed, y_waiting, y_scaled, y_sort, y_typeA, y_typeB, y_typeC, y_fieldName, y_fieldType, y_fields, y_tags, y_needed, y_text, y_begin, y_end, y_inside, y_whole, upd y_kind N (nI K), upd y_value N (v0_F (y_sort w) c (y_complete w)), upd y_parent N x3, upd y_name N x4, upd y_slotOf N (nI w), upd y_placeOf N (nI b), y_complete, y_openNode, y_openType, y_openCount, y_openNames, y_openChoice, y_output, y_todo) (nI k) (nI N) x10)) : wY_bindValue_359 Q (nI k) x3 x4 (nI b) c (nI w) (y_sort w) x10 x11 y_length y_parts y_bad (nI N) 0 y_place y_bound y_depth y_nextName y_wantsName y_wantsTag y_printed y_waiting y_scaled y_sort y_typeA y_typeB y_typeC y_fieldName y_fieldType y_fields y_tags y_needed y_text y_begin y_end y_inside y_whole y_kind y_value y_parent y_name y_slotOf y_placeOf y_complete y_openNode y_openType y_openCount y_openNames y_openChoice y_output y_todo := by
  have eN : (nI N).toNatClampNeg = N := nI_clamp (by omega)
  have iN : vp_in (nI N) 40 := vp_in_nI hN (by decide)
  have ew : (nI w).toNatClampNeg = w := nI_clamp (by omega)
  have t472 : ∀ v : Int32, v = v0_F (y_sort w) c (y_complete w) → wY_bindValue_472 Q (nI k) x3 x4 (nI b) c (nI w) x10 x11 (nI N) v (nI N) y_length y_parts y_bad (nI (N + 1)) 0 y_place y_bound y_depth y_nextName y_wantsName y_wantsTag y_printed y_waiting y_scaled y_sort y_typeA y_typeB y_typeC y_fieldName y_fieldType y_fields y_tags y_needed y_text y_begin y_end y_inside y_whole (upd y_kind N (nI K)) y_value y_parent y_name y_slotOf y_placeOf y_complete y_openNode y_openType y_openCount y_openNames y_openChoice y_output y_todo := by
    rintro v rfl
    unfold wY_bindValue_472
    rw [eN]
    refine ⟨iN, nm_e ⟨iN, nm_e ⟨iN, nm_e ⟨iN, nm_e ⟨iN, nm_e ⟨fun z => ?_, h.2⟩⟩⟩⟩⟩⟩
    refine ⟨(h.1 z).1, fun z16 => ?_⟩
    obtain ⟨ho, hn⟩ := (h.1 z).2 z16
    exact ⟨fun z10 => ho (Or.inl z10), fun z10 => ⟨fun z12 => ho (Or.inr z12), fun z12 => hn (fun y => y.elim z10 z12)⟩⟩
  have t430 : wY_bindValue_430 Q (nI k) x3 x4 (nI b) c (nI w) (y_sort w) x10 x11 (nI N) (nI K) (nI N) y_length y_parts y_bad (nI (N + 1)) 0 y_place y_bound y_depth y_nextName y_wantsName y_wantsTag y_printed y_waiting y_scaled y_sort y_typeA y_typeB y_typeC y_fieldName y_fieldType y_fields y_tags y_needed y_text y_begin y_end y_inside y_whole y_kind y_value y_parent y_name y_slotOf y_placeOf y_complete y_openNode y_openType y_openCount y_openNames y_openChoice y_output y_todo := by
    unfold wY_bindValue_430
    rw [eN, ew]
    have t460 : ¬ (y_sort w = 5 ∧ c = 10) → wY_bindValue_460 Q (nI k) x3 x4 (nI b) c (nI w) x10 x11 (nI N) (nI N) y_length y_parts y_bad (nI (N + 1)) 0 y_place y_bound y_depth y_nextName y_wantsName y_wantsTag y_printed y_waiting y_scaled y_sort y_typeA y_typeB y_typeC y_fieldName y_fieldType y_fields y_tags y_needed y_text y_begin y_end y_inside y_whole (upd y_kind N (nI K)) y_value y_parent y_name y_slotOf y_placeOf y_complete y_openNode y_openType y_openCount y_openNames y_openChoice y_output y_todo := by
      intro z
      by_cases c28 : c = 28
      · exact br_t c28 (t472 1 (by unfold v0_F; rw [if_neg z, if_pos c28]))
      · exact br_f c28 (t472 0 (by unfold v0_F; rw [if_neg z, if_neg c28]))
    refine ⟨iN, nm_e ⟨fun s5 => ⟨fun c10 => ⟨vp_in_nI hw (by decide), t472 _ ?_⟩, fun c10 => t460 (fun z => c10 z.2)⟩, fun s5 => t460 (fun z => s5 z.1)⟩⟩
    unfold v0_F; rw [if_pos ⟨s5, c10⟩]
  have t415 : (∀ z : Int32, (y_sort w = 6 → z = 4) → (¬ y_sort w = 6 → z = y_sort w - 1) → z = nI K) → wY_bindValue_415 Q (nI k) x3 x4 (nI b) c (nI w) (y_sort w) x10 x11 (nI N) (nI N) y_length y_parts y_bad (nI (N + 1)) 0 y_place y_bound y_depth y_nextName y_wantsName y_wantsTag y_printed y_waiting y_scaled y_sort y_typeA y_typeB y_typeC y_fieldName y_fieldType y_fields y_tags y_needed y_text y_begin y_end y_inside y_whole y_kind y_value y_parent y_name y_slotOf y_placeOf y_complete y_openNode y_openType y_openCount y_openNames y_openChoice y_output y_todo := by
    intro hz
    by_cases s6 : y_sort w = 6
    · refine br_t s6 ?_
      rw [hz 4 (fun _ => rfl) (fun z => absurd s6 z)]; exact t430
    · refine br_f s6 ?_
      rw [hz (y_sort w - 1) (fun z => absurd z s6) (fun _ => rfl)]; exact t430
  obtain ⟨-, g10, g11⟩ := hg
  refine br_t rfl (nm_r (nI_1 N) ?_)
  have any : (∀ z : Int32, (y_sort w = 6 → z = 4) → (¬ y_sort w = 6 → z = y_sort w - 1) → z = nI K) → ¬ c = 27 → (x10 = 0 ∨ x11 = 0) → ((c = 27 → wY_bindValue_430 Q (nI k) x3 x4 (nI b) c (nI w) (y_sort w) x10 x11 (nI N) 5 (nI N) y_length y_parts y_bad (nI (N + 1)) 0 y_place y_bound y_depth y_nextName y_wantsName y_wantsTag y_printed y_waiting y_scaled y_sort y_typeA y_typeB y_typeC y_fieldName y_fieldType y_fields y_tags y_needed y_text y_begin y_end y_inside y_whole y_kind y_value y_parent y_name y_slotOf y_placeOf y_complete y_openNode y_openType y_openCount y_openNames y_openChoice y_output y_todo) ∧ (¬ c = 27 → ((x10 = 0 → wY_bindValue_415 Q (nI k) x3 x4 (nI b) c (nI w) (y_sort w) x10 x11 (nI N) (nI N) y_length y_parts y_bad (nI (N + 1)) 0 y_place y_bound y_depth y_nextName y_wantsName y_wantsTag y_printed y_waiting y_scaled y_sort y_typeA y_typeB y_typeC y_fieldName y_fieldType y_fields y_tags y_needed y_text y_begin y_end y_inside y_whole y_kind y_value y_parent y_name y_slotOf y_placeOf y_complete y_openNode y_openType y_openCount y_openNames y_openChoice y_output y_todo) ∧ (¬ x10 = 0 → ((x11 = 0 → wY_bindValue_415 Q (nI k) x3 x4 (nI b) c (nI w) (y_sort w) x10 x11 (nI N) (nI N) y_length y_parts y_bad (nI (N + 1)) 0 y_place y_bound y_depth y_nextName y_wantsName y_wantsTag y_printed y_waiting y_scaled y_sort y_typeA y_typeB y_typeC y_fieldName y_fieldType y_fields y_tags y_needed y_text y_begin y_end y_inside y_whole y_kind y_value y_parent y_name y_slotOf y_placeOf y_complete y_openNode y_openType y_openCount y_openNames y_openChoice y_output y_todo) ∧ (¬ x11 = 0 → wY_bindValue_430 Q (nI k) x3 x4 (nI b) c (nI w) (y_sort w) x10 x11 (nI N) 6 (nI N) y_length y_parts y_bad (nI (N + 1)) 0 y_place y_bound y_depth y_nextName y_wantsName y_wantsTag y_printed y_waiting y_scaled y_sort y_typeA y_typeB y_typeC y_fieldName y_fieldType y_fields y_tags y_needed y_text y_begin y_end y_inside y_whole y_kind y_value y_parent y_name y_slotOf y_placeOf y_complete y_openNode y_openType y_openCount y_openNames y_openChoice y_output y_todo)))))) := by
    intro hz n27 hx
    exact br_f n27 (br_c (fun _ => t415 hz) (fun z => br_t (hx.resolve_left z) (t415 hz)))
  have nBx : ¬ sp_B c → x11 = 0 := fun z => by
    rcases g11 with q | q
    · exact absurd q.2 z
    · exact q.1
  rcases hR with ⟨rfl, hB, s1, q8⟩ | ⟨rfl, rfl, s2⟩ | ⟨rfl, hc, s3⟩ | ⟨rfl, rfl, s4⟩ | ⟨rfl, rfl, s56⟩ | ⟨rfl, rfl, q7⟩ | ⟨rfl, hB, q8⟩
  · refine any (fun z z6 z0 => ?_) ?_ (Or.inl ?_)
    · rw [z0 (by rw [s1]; decide), s1]; decide
    · rintro rfl; rcases hB with q | q
      · exact absurd q.2 (by decide)
      · exact absurd q (by decide)
    · rcases g10 with q | q
      · exact absurd q.2 q8
      · exact q.1
  · refine any (fun z z6 z0 => ?_) (by decide) (Or.inr (nBx ?_))
    · rw [z0 (by rw [s2]; decide), s2]; decide
    · rintro (q | q)
      · exact absurd q.2 (by decide)
      · exact absurd q (by decide)
  · refine any (fun z z6 z0 => ?_) ?_ (Or.inr (nBx ?_))
    · rw [z0 (by rw [s3]; decide), s3]; decide
    · rcases hc with rfl | rfl <;> decide
    · rcases hc with rfl | rfl
      all_goals
        rintro (q | q)
        · exact absurd q.2 (by decide)
        · exact absurd q (by decide)
  · refine any (fun z z6 z0 => ?_) (by decide) (Or.inr (nBx ?_))
    · rw [z0 (by rw [s4]; decide), s4]; decide
    · rintro (q | q)
      · exact absurd q.2 (by decide)
      · exact absurd q (by decide)
  · refine any (fun z z6 z0 => ?_) (by decide) (Or.inr (nBx ?_))
    · rcases s56 with s | s
      · rw [z0 (by rw [s]; decide), s]; decide
      · rw [z6 s]; rfl
    · rintro (q | q)
      · exact absurd q.2 (by decide)
      · exact absurd q (by decide)
  · exact br_t rfl t430
  · refine br_f ?_ (br_f ?_ (br_f ?_ t430))
    · rintro rfl; rcases hB with q | q
      · exact absurd q.2 (by decide)
      · exact absurd q (by decide)
    · rcases g10 with q | q
      · rw [q.1]; decide
      · exact absurd q8 q.2
    · rcases g11 with q | q
      · rw [q.1]; decide
      · exact absurd hB q.2
end
end
section
/-! the bind: a new node among the others -/
/-- where a new node hangs: nowhere, in a list, in a record -/
def pr_F (d N : Nat) (g kd vl pa nm on om oc : Nat → Int32) (x3 x4 : Int32) (vl1 oc1 : Nat → Int32) : Prop :=
  (d = 0 ∧ N = 0 ∧ x3 = -1 ∧ x4 = -1 ∧ vl1 = vl ∧ oc1 = oc) ∨
  (∃ d' n j, d = d' + 1 ∧ n < N ∧ on d' = nI n ∧ g d = 12 ∧ x3 = nI n ∧ x4 = nI j ∧ j < 20 ∧ vl n = nI j ∧ kd n = 3 ∧ vl1 = upd vl n (nI (j + 1)) ∧ oc1 = upd oc d' (nI (j + 1))) ∨
  (∃ d' n j M, d = d' + 1 ∧ n < N ∧ on d' = nI n ∧ g d = 10 ∧ x3 = nI n ∧ x4 = nI j ∧ j < 6 ∧ kd n = 4 ∧ om d' = nI M ∧ M < 64 ∧ M.testBit j = true ∧ (∀ c, c < N → pa c = nI n → nm c ≠ nI j) ∧ vl1 = vl ∧ oc1 = oc)
theorem nd_add {t so bg en : Nat → Int32} {L N d : Nat} {g kd vl pa nm sl st tg on om oc vl1 oc1 : Nat → Int32} {dp : Nat → Nat} {op op' : Nat → Prop} {x3 x4 v : Int32} (hA : nd_A t so bg en L N kd vl pa nm sl st tg dp op) (hN : N < 40) (hop : ∀ i, i < N → ¬ op i) (hp : pr_F d N g kd vl pa nm on om oc x3 x4 vl1 oc1) (hdp : ∀ d' n, d = d' + 1 → on d' = nI n → n < N → dp n = d') {K s b : Nat} (hK : K ≤ 6) (hs : s < 12) (hb : b < L) (hd : K = 3 ∨ K = 4 → d ≤ 5) (h0 : K = 0 → so s = 1) (h1 : K = 1 → t b = 16 ∧ ∃ q, ss_W t L (b + 1) q) (h3 : K = 3 → so s = 4 ∧ v = nI 0) (h4 : K = 4 → so s = 5 ∨ so s = 6 ∧ op' N) :
    nd_A t so bg en L (N + 1) (upd kd N (nI K)) (upd vl1 N v) (upd pa N x3) (upd nm N x4) (upd sl N (nI s)) (upd st N (nI b)) (upd tg N (-1)) (fun i => if i = N then d else dp i) op' := by
  -- parents of the old ones lie below N
  have pal : ∀ c, c < N → pa c ≠ nI N := by
    intro c hc e
    obtain ⟨k, s', b', -, -, -, -, -, -, h7, -⟩ := hA.2.1 c hc
    rcases h7 with ⟨-, h, -⟩ | ⟨p, j, h1, h2, h3, -⟩
    · rw [h] at e; exact hh_m1' (by omega) e
    · rw [h3] at e
      have := hh_i (by omega) (by omega) e
      omega
  have x3l : x3 ≠ nI N := by
    rcases hp with h | ⟨d', n, j, h⟩ | ⟨d', n, j, M, h⟩
    · rw [h.2.2.1]; exact hh_m1' (by omega)
    · rw [h.2.2.2.2.1]; intro e; have := hh_i (by omega) (by omega) e; have := h.2.1; omega
    · rw [h.2.2.2.2.1]; intro e; have := hh_i (by omega) (by omega) e; have := h.2.1; omega
  -- values of the old ones
  have vls : ∀ i, i < N → x3 ≠ nI i → vl1 i = vl i := by
    intro i hi ne
    rcases hp with h | ⟨d', n, j, h⟩ | ⟨d', n, j, M, h⟩
    · rw [h.2.2.2.2.1]
    · obtain ⟨-, -, -, -, e3, -, -, -, -, e, -⟩ := h
      rw [e]
      exact pk_un (fun z => ne (by rw [e3, z]))
    · obtain ⟨-, -, -, -, -, -, -, -, -, -, -, -, e, -⟩ := h
      rw [e]
  refine ⟨by omega, fun i hi => ?_, fun c c' hc hc' e1 e2 => ?_⟩
  · by_cases z : i = N
    · subst z
      refine ⟨K, s, b, hK, hs, hb, pk_us, pk_us, pk_us, ?_, ?_, h0, h1, ?_, ?_⟩
      · rcases hp with h | ⟨d', n, j, h⟩ | ⟨d', n, j, M, h⟩
        · refine Or.inl ⟨h.2.1, ?_, ?_, ?_⟩
          · rw [pk_us]; exact h.2.2.1
          · rw [pk_us]; exact h.2.2.2.1
          · show (if i = i then d else dp i) = 0
            rw [if_pos rfl]; exact h.1
        · obtain ⟨q1, q2, q3, -, q5, q6, q7, -, q9, -⟩ := h
          refine Or.inr ⟨n, j, q2, by omega, by rw [pk_us]; exact q5, by rw [pk_us]; exact q6, ?_, Or.inl (by rw [pk_un (by omega)]; exact q9)⟩
          show (if i = i then d else dp i) = (if n = i then d else dp n) + 1
          rw [if_pos rfl, if_neg (by omega), hdp d' n q1 q3 q2, q1]
        · obtain ⟨q1, q2, q3, -, q5, q6, q7, q9, -⟩ := h
          refine Or.inr ⟨n, j, q2, by omega, by rw [pk_us]; exact q5, by rw [pk_us]; exact q6, ?_, Or.inr (by rw [pk_un (by omega)]; exact q9)⟩
          show (if i = i then d else dp i) = (if n = i then d else dp n) + 1
          rw [if_pos rfl, if_neg (by omega), hdp d' n q1 q3 q2, q1]
      · intro k34
        show (if i = i then d else dp i) ≤ 5
        rw [if_pos rfl]; exact hd k34
      · intro k3
        refine ⟨(h3 k3).1, pk_us, 0, by omega, by rw [pk_us]; exact (h3 k3).2, fun j hj => absurd hj (by omega), fun c hc e => ?_⟩
        exfalso
        by_cases y : c = i
        · subst y; rw [pk_us] at e; exact x3l e
        · rw [pk_un y] at e; exact pal c (by omega) e
      · intro k4
        rcases h4 k4 with h | h
        · exact Or.inl ⟨h, pk_us⟩
        · exact Or.inr (Or.inl ⟨h.1, pk_us, h.2⟩)
    · have hi' : i < N := by omega
      obtain ⟨k, s', b', g1, g2, g3, g4, g5, g6, g7, g8, g9, g10, g11, g12⟩ := hA.2.1 i hi'
      refine ⟨k, s', b', g1, g2, g3, by rw [pk_un z]; exact g4, by rw [pk_un z]; exact g5, by rw [pk_un z]; exact g6, ?_, ?_, g9, g10, ?_, ?_⟩
      · rw [pk_un z, pk_un z]
        rcases g7 with ⟨q1, q2, q3, q4⟩ | ⟨p, j, q1, q2, q3, q4, q5, q6⟩
        · refine Or.inl ⟨q1, q2, q3, ?_⟩
          show (if i = N then d else dp i) = 0
          rw [if_neg z]; exact q4
        · refine Or.inr ⟨p, j, q1, q2, q3, q4, ?_, by rw [pk_un (by omega)]; exact q6⟩
          show (if i = N then d else dp i) = (if p = N then d else dp p) + 1
          rw [if_neg z, if_neg (by omega)]; exact q5
      · intro k34
        show (if i = N then d else dp i) ≤ 5
        rw [if_neg z]; exact g8 k34
      · intro k3
        obtain ⟨r1, r2, m, r3, r4, r5, r6⟩ := g11 k3
        rw [pk_un z, pk_un z]
        refine ⟨r1, r2, ?_⟩
        by_cases pe : x3 = nI i
        · -- the list grows
          rcases hp with h | ⟨d', n, j, h⟩ | ⟨d', n, j, M, h⟩
          · rw [h.2.2.1] at pe; exact absurd pe (hh_m1' (by omega))
          · obtain ⟨q1, q2, q3, -, q5, q6, q7, q8, q9, q10, -⟩ := h
            have en : n = i := hh_i (by omega) (by omega) (q5.symm.trans pe)
            subst en
            have em : m = j := hh_i (by omega) (by omega) (r4.symm.trans q8)
            subst em
            refine ⟨m + 1, by omega, by rw [q10, pk_us], fun j hj => ?_, fun c hc e => ?_⟩
            · by_cases y : j = m
              · subst y
                exact ⟨N, by omega, by rw [pk_us]; exact pe, by rw [pk_us]; exact q6⟩
              · obtain ⟨c, hc, e1, e2⟩ := r5 j (by omega)
                exact ⟨c, by omega, by rw [pk_un (by omega)]; exact e1, by rw [pk_un (by omega)]; exact e2⟩
            · by_cases y : c = N
              · subst y
                exact ⟨m, by omega, by rw [pk_us]; exact q6⟩
              · rw [pk_un y] at e ⊢
                obtain ⟨j, hj, e2⟩ := r6 c (by omega) e
                exact ⟨j, by omega, e2⟩
          · obtain ⟨q1, q2, q3, -, q5, q6, q7, q8, -⟩ := h
            have en : n = i := hh_i (by omega) (by omega) (q5.symm.trans pe)
            subst en
            rw [k3] at g4
            rw [q8] at g4
            exact absurd g4 (by decide)
        · refine ⟨m, r3, by rw [vls i hi' pe]; exact r4, fun j hj => ?_, fun c hc e => ?_⟩
          · obtain ⟨c, hc, e1, e2⟩ := r5 j hj
            exact ⟨c, by omega, by rw [pk_un (by omega)]; exact e1, by rw [pk_un (by omega)]; exact e2⟩
          · by_cases y : c = N
            · subst y; rw [pk_us] at e; exact absurd e pe
            · rw [pk_un y] at e ⊢; exact r6 c (by omega) e
      · intro k4
        rw [pk_un z, pk_un z]
        rcases g12 k4 with q | q | q
        · exact Or.inl q
        · exact absurd q.2.2 (hop i hi')
        · obtain ⟨q1, g, r, K', ok, p1, p2, p3, p4, p5⟩ := q
          refine Or.inr (Or.inr ⟨q1, g, r, K', ok, p1, p2, p3, ?_, p5⟩)
          by_cases pe : x3 = nI i
          · rcases hp with h | ⟨d', n, j, h⟩ | ⟨d', n, j, M, h⟩
            · rw [h.2.2.1] at pe; exact absurd pe (hh_m1' (by omega))
            · obtain ⟨-, q2, -, -, q5, -, -, -, q9, -⟩ := h
              have en : n = i := hh_i (by omega) (by omega) (q5.symm.trans pe)
              subst en
              rw [k4] at g4; rw [q9] at g4; exact absurd g4 (by decide)
            · obtain ⟨-, -, -, -, -, -, -, -, -, -, -, -, e, -⟩ := h
              rw [e]; exact p4
          · rw [vls i hi' pe]; exact p4
  · -- names are told apart
    have nw : ∀ c, c < N → pa c = x3 → nm c ≠ x4 := by
      intro c hc e
      rcases hp with h | ⟨d', n, j, h⟩ | ⟨d', n, j, M, h⟩
      · have := h.2.1; omega
      · obtain ⟨q1, q2, q3, -, q5, q6, q7, q8, q9, -⟩ := h
        obtain ⟨k, s', b', gk, -, -, g4, -, -, -, -, -, -, g11, -⟩ := hA.2.1 n q2
        have hk3 : k = 3 := hh_i (by omega) (by decide) (m := 3) (g4.symm.trans q9)
        obtain ⟨-, -, m, r3, r4, r5, r6⟩ := g11 hk3
        have em : m = j := hh_i (by omega) (by omega) (r4.symm.trans q8)
        obtain ⟨j', hj', e2⟩ := r6 c hc (e.trans q5)
        rw [e2, q6]
        intro w
        have := hh_i (by omega) (by omega) w
        omega
      · obtain ⟨-, -, -, -, q5, q6, -, -, -, -, -, q, -⟩ := h
        rw [q6]; exact q c hc (e.trans q5)
    by_cases z : c = N
    · by_cases z' : c' = N
      · omega
      · subst z
        rw [pk_us, pk_un z'] at e1 e2
        exact absurd e2.symm (nw c' (by omega) e1.symm)
    · by_cases z' : c' = N
      · subst z'
        rw [pk_us, pk_un z] at e1 e2
        exact absurd e2 (nw c (by omega) e1)
      · rw [pk_un z, pk_un z'] at e1 e2
        exact hA.2.2 c c' (by omega) (by omega) e1 e2
/-- the open levels keep -/
theorem lv_add {so : Nat → Int32} {N d : Nat} {g kd vl pa nm sl tg : Nat → Int32} {dp : Nat → Nat} {on os om on' ot oc om' och vl1 oc1 : Nat → Int32} {x3 x4 v : Int32} {l K s : Nat} (hN : N < 40) (h : lv_F so N d g kd vl pa nm sl tg dp on os om on' ot oc om' och l) (hl : l < d) (hp : pr_F d N g kd vl pa nm on om oc x3 x4 vl1 oc1) (hdp : ∀ d' n, d = d' + 1 → on d' = nI n → n < N → dp n = d') :
    lv_F so (N + 1) d g (upd kd N (nI K)) (upd vl1 N v) (upd pa N x3) (upd nm N x4) (upd sl N (nI s)) (upd tg N (-1)) (fun i => if i = N then d else dp i) on os om on' ot oc1 om' och l := by
  obtain ⟨n, s', h1, h2, h3, h4, h5, h6, h7, K'⟩ := h
  have ne : n ≠ N := by omega
  refine ⟨n, s', by omega, h2, h3, h4, ?_, h6, by rw [pk_un ne]; exact h7, ?_⟩
  · show (if n = N then d else dp n) = l
    rw [if_neg ne]; exact h5
  rw [pk_un ne, pk_un ne, pk_un ne]
  rcases K' with ⟨k1, k2, k3, k4, k5⟩ | ⟨k1, k2, k3, ⟨M, hM, eM, hch⟩, K'⟩
  · refine Or.inl ⟨k1, k2, k3, k4, ?_⟩
    rcases hp with q | ⟨d', n', j, q⟩ | ⟨d', n', j, M', q⟩
    · omega
    · obtain ⟨q1, q2, q3, -, q5, -, -, q8, -, q10, q11⟩ := q
      rw [q10, q11]
      by_cases z : l = d'
      · subst z
        have en : n = n' := hh_i (by omega) (by omega) (h3.symm.trans q3)
        subst en
        rw [pk_us, pk_us]
      · have nn : n ≠ n' := by
          rintro rfl
          exact z (h5.symm.trans (hdp d' n q1 q3 q2))
        rw [pk_un z, pk_un nn]; exact k5
    · obtain ⟨-, -, -, -, -, -, -, -, -, -, -, -, e1, e2⟩ := q
      rw [e1, e2]; exact k5
  · refine Or.inr ⟨k1, k2, k3, ⟨M, hM, eM, fun c hc e => ?_⟩, K'⟩
    by_cases z : c = N
    · subst z
      rw [pk_us] at e ⊢
      rcases hp with q | ⟨d', n', j, q⟩ | ⟨d', n', j, M', q⟩
      · omega
      · obtain ⟨q1, q2, q3, -, q5, -, -, -, q9, -⟩ := q
        have en : n' = n := hh_i (by omega) (by omega) (q5.symm.trans e)
        subst en
        rw [k2] at q9; exact absurd q9 (by decide)
      · obtain ⟨q1, q2, q3, -, q5, q6, q7, -, q9, q10, q11, -⟩ := q
        have en : n' = n := hh_i (by omega) (by omega) (q5.symm.trans e)
        subst en
        have ld : l = d' := h5.symm.trans (hdp d' n' q1 q3 q2)
        subst ld
        have eMM : M' = M := hh_i (by omega) (by omega) (q9.symm.trans eM)
        subst eMM
        exact ⟨j, q7, q6, q11⟩
    · rw [pk_un z] at e ⊢
      exact hch c (by omega) e
/-- the values of both sides -/
theorem pe_add {N d : Nat} {g kd vl pa nm on om oc vl1 oc1 vl' : Nat → Int32} {x3 x4 v : Int32} (hN : N < 40) (hp : pr_F d N g kd vl pa nm on om oc x3 x4 vl1 oc1) (e : pe_N N vl vl') : (∃ n j, n < N ∧ x3 = nI n ∧ kd n = 3 ∧ vl n = nI j ∧ vl1 = upd vl n (nI (j + 1)) ∧ pe_N (N + 1) (upd vl1 N v) (upd (upd vl' N v) n (nI (j + 1)))) ∨ ((x3 = -1 ∨ ∃ n, n < N ∧ x3 = nI n ∧ kd n = 4) ∧ vl1 = vl ∧ pe_N (N + 1) (upd vl1 N v) (upd vl' N v)) := by
  rcases hp with q | ⟨d', n, j, q⟩ | ⟨d', n, j, M, q⟩
  · refine Or.inr ⟨Or.inl q.2.2.1, q.2.2.2.2.1, ?_⟩
    rw [q.2.2.2.2.1]; exact pe_s e
  · obtain ⟨q1, q2, q3, -, q5, q6, q7, q8, q9, q10, -⟩ := q
    refine Or.inl ⟨n, j, q2, q5, q9, q8, q10, ?_⟩
    rw [q10]
    intro i hi
    by_cases z : i = N
    · subst z
      rw [pk_un (by omega), pk_us, pk_us]
    · by_cases y : i = n
      · subst y
        rw [pk_us, pk_un z, pk_us]
      · rw [pk_un y, pk_un z, pk_un z, pk_un y]; exact e i (by omega)
  · obtain ⟨-, q2, -, -, q5, -, -, q8, -, -, -, -, e1, -⟩ := q
    refine Or.inr ⟨Or.inr ⟨n, q2, q5, q8⟩, e1, ?_⟩
    rw [e1]; exact pe_s e
end
section
/-! the bind: the reference's numbers, texts and openings -/
section
variable {y_length y_parts y_bad y_nodes y_place y_bound y_depth y_nextName y_wantsName y_wantsTag y_printed y_waiting y_scaled : Int32} {y_sort y_typeA y_typeB y_typeC y_fieldName y_fieldType y_fields y_tags y_needed y_text y_begin y_end y_inside y_whole y_kind y_value y_parent y_name y_slotOf y_placeOf y_complete y_openNode y_openType y_openCount y_openNames y_openChoice y_output y_todo : Nat → Int32} {N k q s b : Nat} {z lo hi dd ok sc : Int32} {Q : SY → Prop}
theorem yn_num (hk : k < 96) (hN : N < 40) (ew : y_whole k = 1) (ee : y_end k = nI q) (eS : y_slotOf N = nI s) (hs : s < 12) (hz : z = 0 ∧ dd = y_typeA s ∧ lo = y_typeB s ∧ hi = y_typeC s ∨ ¬ z = 0 ∧ dd = 0 ∧ lo = 0 ∧ hi = y_complete s - 1) (un : un_Y y_text y_begin y_end k dd ok sc) (hok : ok = 0 ∨ ok = 1)
    (h1 : ok = 1 ∧ lo ≤ sc ∧ sc ≤ hi → Q (y_length, y_parts, y_bad, y_nodes, 0, y_place, y_bound, y_depth, y_nextName, y_wantsName, y_wantsTag, y_printed, y_waiting, sc, y_sort, y_typeA, y_typeB, y_typeC, y_fieldName, y_fieldType, y_fields, y_tags, y_needed, y_text, y_begin, y_end, y_inside, y_whole, y_kind, upd y_value N sc, y_parent, y_name, y_slotOf, y_placeOf, y_complete, y_openNode, y_openType, y_openCount, y_openNames, y_openChoice, y_output, y_todo)) (h0 : ¬ (ok = 1 ∧ lo ≤ sc ∧ sc ≤ hi) → Q (y_length, y_parts, y_bad, y_nodes, 6, nI q, y_bound, y_depth, y_nextName, y_wantsName, y_wantsTag, y_printed, y_waiting, sc, y_sort, y_typeA, y_typeB, y_typeC, y_fieldName, y_fieldType, y_fields, y_tags, y_needed, y_text, y_begin, y_end, y_inside, y_whole, y_kind, upd y_value N sc, y_parent, y_name, y_slotOf, y_placeOf, y_complete, y_openNode, y_openType, y_openCount, y_openNames, y_openChoice, y_output, y_todo)) : wpY_bindNumber Q (y_length, y_parts, y_bad, y_nodes, 0, y_place, y_bound, y_depth, y_nextName, y_wantsName, y_wantsTag, y_printed, y_waiting, y_scaled, y_sort, y_typeA, y_typeB, y_typeC, y_fieldName, y_fieldType, y_fields, y_tags, y_needed, y_text, y_begin, y_end, y_inside, y_whole, y_kind, y_value, y_parent, y_name, y_slotOf, y_placeOf, y_complete, y_openNode, y_openType, y_openCount, y_openNames, y_openChoice, y_output, y_todo) (nI k) (nI N) z := by
  have ek : (nI k).toNatClampNeg = k := nI_clamp (by omega)
  have eN : (nI N).toNatClampNeg = N := nI_clamp (by omega)
  have ess : (nI s).toNatClampNeg = s := nI_clamp (by omega)
  have ik : vp_in (nI k) 96 := vp_in_nI hk (by decide)
  have iN : vp_in (nI N) 40 := vp_in_nI hN (by decide)
  have is : vp_in (nI s) 12 := vp_in_nI hs (by decide)
  have t94 : ∀ r : Int32, (r = 0 → Q (y_length, y_parts, y_bad, y_nodes, 6, nI q, y_bound, y_depth, y_nextName, y_wantsName, y_wantsTag, y_printed, y_waiting, sc, y_sort, y_typeA, y_typeB, y_typeC, y_fieldName, y_fieldType, y_fields, y_tags, y_needed, y_text, y_begin, y_end, y_inside, y_whole, y_kind, upd y_value N sc, y_parent, y_name, y_slotOf, y_placeOf, y_complete, y_openNode, y_openType, y_openCount, y_openNames, y_openChoice, y_output, y_todo)) → (¬ r = 0 → Q (y_length, y_parts, y_bad, y_nodes, 0, y_place, y_bound, y_depth, y_nextName, y_wantsName, y_wantsTag, y_printed, y_waiting, sc, y_sort, y_typeA, y_typeB, y_typeC, y_fieldName, y_fieldType, y_fields, y_tags, y_needed, y_text, y_begin, y_end, y_inside, y_whole, y_kind, upd y_value N sc, y_parent, y_name, y_slotOf, y_placeOf, y_complete, y_openNode, y_openType, y_openCount, y_openNames, y_openChoice, y_output, y_todo)) → wY_bindNumber_94 Q (nI k) (nI N) r y_length y_parts y_bad y_nodes 0 y_place y_bound y_depth y_nextName y_wantsName y_wantsTag y_printed y_waiting sc y_sort y_typeA y_typeB y_typeC y_fieldName y_fieldType y_fields y_tags y_needed y_text y_begin y_end y_inside y_whole y_kind y_value y_parent y_name y_slotOf y_placeOf y_complete y_openNode y_openType y_openCount y_openNames y_openChoice y_output y_todo := by
    intro r a b
    unfold wY_bindNumber_94
    rw [ek, eN, ee]
    exact ⟨fun w => ⟨ik, br_t rfl ⟨iN, nm_e (a w)⟩⟩, fun w => ⟨iN, nm_e (b w)⟩⟩
  have t93 : Q (y_length, y_parts, y_bad, y_nodes, 6, nI q, y_bound, y_depth, y_nextName, y_wantsName, y_wantsTag, y_printed, y_waiting, sc, y_sort, y_typeA, y_typeB, y_typeC, y_fieldName, y_fieldType, y_fields, y_tags, y_needed, y_text, y_begin, y_end, y_inside, y_whole, y_kind, upd y_value N sc, y_parent, y_name, y_slotOf, y_placeOf, y_complete, y_openNode, y_openType, y_openCount, y_openNames, y_openChoice, y_output, y_todo) → wY_bindNumber_93 Q (nI k) (nI N) y_length y_parts y_bad y_nodes 0 y_place y_bound y_depth y_nextName y_wantsName y_wantsTag y_printed y_waiting sc y_sort y_typeA y_typeB y_typeC y_fieldName y_fieldType y_fields y_tags y_needed y_text y_begin y_end y_inside y_whole y_kind y_value y_parent y_name y_slotOf y_placeOf y_complete y_openNode y_openType y_openCount y_openNames y_openChoice y_output y_todo := fun a => t94 0 (fun _ => a) (fun w => absurd rfl w)
  have t83 : ok = 1 → wY_bindNumber_83 Q (nI k) (nI N) hi lo sc y_length y_parts y_bad y_nodes 0 y_place y_bound y_depth y_nextName y_wantsName y_wantsTag y_printed y_waiting sc y_sort y_typeA y_typeB y_typeC y_fieldName y_fieldType y_fields y_tags y_needed y_text y_begin y_end y_inside y_whole y_kind y_value y_parent y_name y_slotOf y_placeOf y_complete y_openNode y_openType y_openCount y_openNames y_openChoice y_output y_todo := by
    intro o1
    unfold wY_bindNumber_83
    by_cases a : sc < lo
    · exact br_t a (br_t rfl (t93 (h0 (fun w => absurd a (Int32.not_lt.mpr w.2.1)))))
    · refine br_f a ?_
      by_cases b : hi < sc
      · exact br_t b (br_t rfl (t93 (h0 (fun w => absurd b (Int32.not_lt.mpr w.2.2)))))
      · exact br_f b (br_f (by decide) (t94 1 (fun w => absurd w (by decide)) (fun _ => h1 ⟨o1, Int32.not_lt.mp a, Int32.not_lt.mp b⟩)))
  have t35 : wY_bindNumber_35 Q (nI k) (nI N) z (nI s) dd (nI k) y_length y_parts y_bad y_nodes 0 y_place y_bound y_depth y_nextName y_wantsName y_wantsTag y_printed y_waiting y_scaled y_sort y_typeA y_typeB y_typeC y_fieldName y_fieldType y_fields y_tags y_needed y_text y_begin y_end y_inside y_whole y_kind y_value y_parent y_name y_slotOf y_placeOf y_complete y_openNode y_openType y_openCount y_openNames y_openChoice y_output y_todo := by
    unfold wY_bindNumber_35
    refine un y_length y_parts y_bad y_nodes (0) y_place y_bound y_depth y_nextName y_wantsName y_wantsTag y_printed y_waiting y_scaled y_sort y_typeA y_typeB y_typeC y_fieldName y_fieldType y_fields y_tags y_needed y_inside y_whole y_kind y_value y_parent y_name y_slotOf y_placeOf y_complete y_openNode y_openType y_openCount y_openNames y_openChoice y_output y_todo _ ?_
    dsimp only
    rcases hok with rfl | rfl
    · exact br_t rfl (t93 (h0 (fun w => absurd w.1 (by decide))))
    refine br_f (by decide) ?_
    rcases hz with ⟨z0, -, rfl, rfl⟩ | ⟨z0, -, rfl, rfl⟩
    · refine br_t z0 ⟨is, ?_⟩
      rw [ess]
      refine br_t z0 ⟨is, ?_⟩
      rw [ess]; exact t83 rfl
    · refine br_f z0 (br_f z0 ⟨is, ?_⟩)
      rw [ess]; exact t83 rfl
  refine And.intro ik ?_
  rw [ek]
  refine br_f (by rw [ew]; decide) ⟨iN, ?_⟩
  rw [eN]
  refine nm_r eS ?_
  rcases hz with ⟨z0, e, -⟩ | ⟨z0, e, -⟩
  · refine br_t z0 ⟨is, ?_⟩
    rw [ess, ← e]; exact t35
  · refine br_f z0 ?_
    rw [e] at t35; exact t35
theorem yn_cut (hk : k < 96) (ew : y_whole k = 0) (h : Q (y_length, y_parts, y_bad, y_nodes, 0, y_place, y_bound, y_depth, y_nextName, y_wantsName, y_wantsTag, y_printed, y_waiting, y_scaled, y_sort, y_typeA, y_typeB, y_typeC, y_fieldName, y_fieldType, y_fields, y_tags, y_needed, y_text, y_begin, y_end, y_inside, y_whole, y_kind, y_value, y_parent, y_name, y_slotOf, y_placeOf, y_complete, y_openNode, y_openType, y_openCount, y_openNames, y_openChoice, y_output, y_todo)) : wpY_bindNumber Q (y_length, y_parts, y_bad, y_nodes, 0, y_place, y_bound, y_depth, y_nextName, y_wantsName, y_wantsTag, y_printed, y_waiting, y_scaled, y_sort, y_typeA, y_typeB, y_typeC, y_fieldName, y_fieldType, y_fields, y_tags, y_needed, y_text, y_begin, y_end, y_inside, y_whole, y_kind, y_value, y_parent, y_name, y_slotOf, y_placeOf, y_complete, y_openNode, y_openType, y_openCount, y_openNames, y_openChoice, y_output, y_todo) (nI k) (nI N) z := by
  have ek : (nI k).toNatClampNeg = k := nI_clamp (by omega)
  refine And.intro (vp_in_nI hk (by decide)) ?_
  rw [ek]; exact br_t ew h
theorem yt_txt {last : Nat} (hk : k < 96) (eb : y_begin k = nI b) (ee : y_end k = nI q) (hw : y_whole k = 1 ∧ last = q ∨ y_whole k = 0 ∧ last = q + 1) (h : ∃ n, wY_bindText_43 Q (nI N) (nI last) n (nI 0) (nI (b + 1)) 0 y_length y_parts y_bad y_nodes 0 y_place y_bound y_depth y_nextName y_wantsName y_wantsTag y_printed y_waiting y_scaled y_sort y_typeA y_typeB y_typeC y_fieldName y_fieldType y_fields y_tags y_needed y_text y_begin y_end y_inside y_whole y_kind y_value y_parent y_name y_slotOf y_placeOf y_complete y_openNode y_openType y_openCount y_openNames y_openChoice y_output y_todo) : wpY_bindText Q (y_length, y_parts, y_bad, y_nodes, 0, y_place, y_bound, y_depth, y_nextName, y_wantsName, y_wantsTag, y_printed, y_waiting, y_scaled, y_sort, y_typeA, y_typeB, y_typeC, y_fieldName, y_fieldType, y_fields, y_tags, y_needed, y_text, y_begin, y_end, y_inside, y_whole, y_kind, y_value, y_parent, y_name, y_slotOf, y_placeOf, y_complete, y_openNode, y_openType, y_openCount, y_openNames, y_openChoice, y_output, y_todo) (nI k) (nI N) := by
  have ek : (nI k).toNatClampNeg = k := nI_clamp (by omega)
  have ik : vp_in (nI k) 96 := vp_in_nI hk (by decide)
  refine And.intro ik ?_
  rw [ek, eb, ee]
  refine nm_r (nI_1 b) ⟨ik, ?_⟩
  rcases hw with ⟨w, rfl⟩ | ⟨w, rfl⟩
  · exact br_f (by rw [w]; decide) ⟨ik, nm_e h⟩
  · exact br_t w ⟨ik, nm_r (nI_1 q) h⟩
end
section
variable {y_length y_parts y_bad y_nodes y_fault y_place y_bound y_nextName y_wantsName y_wantsTag y_printed y_waiting y_scaled : Int32} {y_sort y_typeA y_typeB y_typeC y_fieldName y_fieldType y_fields y_tags y_needed y_text y_begin y_end y_inside y_whole y_kind y_value y_parent y_name y_slotOf y_placeOf y_complete y_openNode y_openType y_openCount y_openNames y_openChoice y_output y_todo : Nat → Int32} {N d w : Nat} {Q : SY → Prop}
theorem yo_open (hd : d < 6) (hw : w < 12) (h6 : y_sort w = 6 → Q (y_length, y_parts, y_bad, y_nodes, y_fault, y_place, y_bound, nI (d + 1), y_nextName, 1, 0, y_printed, y_waiting, y_scaled, y_sort, y_typeA, y_typeB, y_typeC, y_fieldName, y_fieldType, y_fields, y_tags, y_needed, y_text, y_begin, y_end, y_inside, y_whole, y_kind, y_value, y_parent, y_name, y_slotOf, y_placeOf, y_complete, upd y_openNode d (nI N), upd y_openType d (-1), upd y_openCount d 0, upd y_openNames d ((1 : Int32) <<< (y_typeA w &&& 31)), upd y_openChoice d (nI w), y_output, y_todo))
    (h0 : ¬ y_sort w = 6 → Q (y_length, y_parts, y_bad, y_nodes, y_fault, y_place, y_bound, nI (d + 1), y_nextName, 1, 0, y_printed, y_waiting, y_scaled, y_sort, y_typeA, y_typeB, y_typeC, y_fieldName, y_fieldType, y_fields, y_tags, y_needed, y_text, y_begin, y_end, y_inside, y_whole, y_kind, y_value, y_parent, y_name, y_slotOf, y_placeOf, y_complete, upd y_openNode d (nI N), upd y_openType d (nI w), upd y_openCount d 0, upd y_openNames d 0, upd y_openChoice d (-1), y_output, y_todo)) : wpY_open Q (y_length, y_parts, y_bad, y_nodes, y_fault, y_place, y_bound, nI d, y_nextName, y_wantsName, y_wantsTag, y_printed, y_waiting, y_scaled, y_sort, y_typeA, y_typeB, y_typeC, y_fieldName, y_fieldType, y_fields, y_tags, y_needed, y_text, y_begin, y_end, y_inside, y_whole, y_kind, y_value, y_parent, y_name, y_slotOf, y_placeOf, y_complete, y_openNode, y_openType, y_openCount, y_openNames, y_openChoice, y_output, y_todo) (nI N) (nI w) := by
  have ed : (nI d).toNatClampNeg = d := nI_clamp (by omega)
  have ew : (nI w).toNatClampNeg = w := nI_clamp (by omega)
  have i8 : vp_in (nI d) 8 := vp_in_nI (by omega) (by decide)
  have iw : vp_in (nI w) 12 := vp_in_nI hw (by decide)
  refine And.intro iw ?_
  rw [ew]
  refine br_c (fun s6 => ⟨i8, nm_e (br_f (by decide) ⟨i8, nm_e ⟨i8, nm_e (br_f (by decide) ⟨iw, i8, nm_e (br_f (by decide) ⟨i8, nm_e (nm_r (nI_1 d) ?_)⟩)⟩)⟩⟩)⟩) (fun s6 => ⟨i8, nm_e (br_t rfl ⟨i8, nm_e ⟨i8, nm_e (br_t rfl ⟨i8, nm_e (br_t rfl ⟨i8, nm_e (nm_r (nI_1 d) ?_)⟩)⟩)⟩⟩)⟩)
  · rw [ed, ew]; exact h6 s6
  · rw [ed]; exact h0 s6
end
end
section
/-! the bind: both come to a value -/
section
variable {x_bound x_at x_tokenStart x_textCount x_escaped x_valueSlot x_valueName x_outputLength : Int32} {x_text x_typeKind x_typeDetail x_typeLeast x_typeMost x_fieldCount x_fieldName x_fieldType x_fieldNeeded x_tagType x_nodeKind x_nodeValue x_nodeParent x_nodeName x_nodeSlot x_nodeStart x_nodeTag x_completeCount x_openNode x_openSlot x_openNames x_openNext x_openComma x_output : Nat → Int32} {y_bad y_nextName y_wantsName y_wantsTag y_waiting y_scaled : Int32} {y_typeA y_typeB y_typeC y_fields y_tags y_begin y_end y_inside y_whole y_kind y_value y_parent y_name y_slotOf y_placeOf y_complete y_openNode y_openType y_openCount y_openNames y_openChoice y_todo : Nat → Int32} {L P k p x d N : Nat} {g : Nat → Int32} {dp : Nat → Nat} {slot : Int32}
theorem kc_mk (hT : rl_T L x_text x_typeKind x_typeDetail x_typeLeast x_typeMost x_fieldCount x_fieldName x_fieldType x_fieldNeeded x_tagType y_typeA y_typeB y_typeC y_fields y_tags) {a : Nat} (ha : a < 12) : ∃ w, kc_I x_typeKind x_typeDetail a w ∧ kc_I x_typeKind y_typeA a w := by
  obtain ⟨⟨j, hj, ej⟩, -, -, -, -, -, h7⟩ := hT.2.2 a ha
  by_cases z : x_typeKind a < 7
  · exact ⟨a, ⟨ha, ha, Or.inl ⟨z, rfl⟩, ⟨j, hj, ej⟩, ⟨j, hj, ej⟩⟩, ⟨ha, ha, Or.inl ⟨z, rfl⟩, ⟨j, hj, ej⟩, ⟨j, hj, ej⟩⟩⟩
  · have h78 : x_typeKind a = 7 ∨ x_typeKind a = 8 := by
      rw [ej] at z ⊢
      have : ¬ j < 7 := fun q => z (nI_lt (b := 7) q (by decide))
      have hj' : j = 7 ∨ j = 8 := by omega
      rcases hj' with rfl | rfl
      · exact Or.inl rfl
      · exact Or.inr rfl
    obtain ⟨e, w, hw, ew⟩ := h7 h78
    obtain ⟨⟨j', hj', ej'⟩, -⟩ := hT.2.2 w hw
    exact ⟨w, ⟨ha, hw, Or.inr ⟨z, ew⟩, ⟨j', hj', ej'⟩, ⟨j, hj, ej⟩⟩, ⟨ha, hw, Or.inr ⟨z, e.trans ew⟩, ⟨j', hj', ej'⟩, ⟨j, hj, ej⟩⟩⟩
/-- up to the value's own slot, its parent and its name -/
theorem vs_reach (hT : rl_T L x_text x_typeKind x_typeDetail x_typeLeast x_typeMost x_fieldCount x_fieldName x_fieldType x_fieldNeeded x_tagType y_typeA y_typeB y_typeC y_fields y_tags) (F : br_F slot L k p x d N g x_text x_typeKind x_fieldCount x_fieldName x_fieldType y_begin y_end x_nodeKind x_nodeValue x_nodeParent x_nodeName x_nodeSlot x_nodeStart x_nodeTag x_completeCount x_openNode x_openSlot x_openNames x_valueSlot x_valueName dp y_kind y_value y_parent y_name y_slotOf y_placeOf y_complete y_openNode y_openType y_openCount y_openNames y_openChoice y_nextName y_wantsName y_wantsTag) (hx01 : x < 2) (hnt : 0 < d → ¬ x_openSlot (d - 1) = -1) (hslot : ∃ a, a < 12 ∧ slot = nI a) (hk : k < P) (hP : P ≤ 96) {b : Nat} (hbL : b < L) (eb : y_begin k = nI b) (hV : sp_V (x_text b)) :
    ∃ (a n s : Nat) (x3 x4 : Int32) (oc1 : Nat → Int32), a < 12 ∧ n < 40 ∧ pc_X d x_nodeKind x_openNode x_openSlot n s ∧ pc_Y d y_kind y_openType x3 n s ∧
      (∀ Q : SX → Prop, wX_beginValue_45 Q (x_text b) (nI L) (nI N) x_bound 0 (-1) (md_x x) (nI b) x_tokenStart x_textCount x_escaped (nI a) x4 (nI d) x_outputLength x_text x_typeKind x_typeDetail x_typeLeast x_typeMost x_fieldCount x_fieldName x_fieldType x_fieldNeeded x_tagType x_nodeKind x_nodeValue x_nodeParent x_nodeName x_nodeSlot x_nodeStart x_nodeTag x_completeCount x_openNode x_openSlot x_openNames x_openNext x_openComma x_output → wpX_readCharacter Q (nI L, nI N, x_bound, 0, -1, md_x x, nI b, x_tokenStart, x_textCount, x_escaped, x_valueSlot, x_valueName, nI d, x_outputLength, x_text, x_typeKind, x_typeDetail, x_typeLeast, x_typeMost, x_fieldCount, x_fieldName, x_fieldType, x_fieldNeeded, x_tagType, x_nodeKind, x_nodeValue, x_nodeParent, x_nodeName, x_nodeSlot, x_nodeStart, x_nodeTag, x_completeCount, x_openNode, x_openSlot, x_openNames, x_openNext, x_openComma, x_output) (x_text b)) ∧
      (∀ Q : SY → Prop, wpY_bindValue Q (nI L, nI P, y_bad, nI N, 0, -1, 0, nI d, y_nextName, y_wantsName, y_wantsTag, x_outputLength, y_waiting, y_scaled, x_typeKind, y_typeA, y_typeB, y_typeC, x_fieldName, x_fieldType, y_fields, y_tags, x_fieldNeeded, x_text, y_begin, y_end, y_inside, y_whole, y_kind, y_value, y_parent, y_name, y_slotOf, y_placeOf, y_complete, y_openNode, y_openType, oc1, y_openNames, y_openChoice, x_output, y_todo) (nI k) (nI a) x3 x4 → wpY_part Q (nI L, nI P, y_bad, nI N, 0, -1, 0, nI d, y_nextName, y_wantsName, y_wantsTag, x_outputLength, y_waiting, y_scaled, x_typeKind, y_typeA, y_typeB, y_typeC, x_fieldName, x_fieldType, y_fields, y_tags, x_fieldNeeded, x_text, y_begin, y_end, y_inside, y_whole, y_kind, y_value, y_parent, y_name, y_slotOf, y_placeOf, y_complete, y_openNode, y_openType, y_openCount, y_openNames, y_openChoice, x_output, y_todo) (nI k) slot) ∧
      ((0 < d ∧ x_nodeKind n = 3 ∧ ¬ x4 < x_typeMost s) ↔ (x3 = nI n ∧ y_kind n = 3 ∧ ¬ x4 < y_typeC s)) ∧
      ((0 < d ∧ x_nodeKind n = 3 ∧ ¬ x4 < x_typeMost s) ∨ ∃ vl1, pr_F d N g x_nodeKind x_nodeValue x_nodeParent x_nodeName x_openNode x_openNames y_openCount x3 x4 vl1 oc1 ∧ ((d = 0 ∧ x3 = -1 ∧ vl1 = x_nodeValue) ∨ ∃ d', d = d' + 1 ∧ d' < 6 ∧ n < 40 ∧ x_openNode d' = nI n ∧ x3 = nI n ∧ (x_nodeKind n = 3 ∧ vl1 = upd x_nodeValue n (x_nodeValue n + 1) ∨ ¬ x_nodeKind n = 3 ∧ vl1 = x_nodeValue))) ∧
      (0 < d → y_wantsTag = 0) := by
  have hL := hT.1
  obtain ⟨⟨e1, e2, e3, e4, e5, e6⟩, hA, hd6, hlv, hc, hbg, hx⟩ := F
  have hN := hA.1
  obtain ⟨n13, n11, n15, n14, n20⟩ := sv_ne hV
  have rcv : ∀ Q : SX → Prop, wpX_beginValue Q (nI L, nI N, x_bound, 0, -1, md_x x, nI b, x_tokenStart, x_textCount, x_escaped, x_valueSlot, x_valueName, nI d, x_outputLength, x_text, x_typeKind, x_typeDetail, x_typeLeast, x_typeMost, x_fieldCount, x_fieldName, x_fieldType, x_fieldNeeded, x_tagType, x_nodeKind, x_nodeValue, x_nodeParent, x_nodeName, x_nodeSlot, x_nodeStart, x_nodeTag, x_completeCount, x_openNode, x_openSlot, x_openNames, x_openNext, x_openComma, x_output) (x_text b) → wpX_readCharacter Q (nI L, nI N, x_bound, 0, -1, md_x x, nI b, x_tokenStart, x_textCount, x_escaped, x_valueSlot, x_valueName, nI d, x_outputLength, x_text, x_typeKind, x_typeDetail, x_typeLeast, x_typeMost, x_fieldCount, x_fieldName, x_fieldType, x_fieldNeeded, x_tagType, x_nodeKind, x_nodeValue, x_nodeParent, x_nodeName, x_nodeSlot, x_nodeStart, x_nodeTag, x_completeCount, x_openNode, x_openSlot, x_openNames, x_openNext, x_openComma, x_output) (x_text b) := by
    intro Q q
    refine rc_val n20 ?_ q
    have hx' : x = 0 ∨ x = 1 := by omega
    rcases hx' with rfl | rfl
    · exact Or.inl rfl
    · exact Or.inr ⟨rfl, n13⟩
  cases d with
  | zero =>
    obtain ⟨a, ha, es⟩ := hslot
    have r0 : N = 0 ∧ x_valueSlot = slot ∧ x_valueName = -1 := by
      rcases hx with w | w | w | w | w | w | w | w | w | w
      all_goals first | exact w.2.2 | (have := w.1; omega) | (have := w.2.1; omega)
    obtain ⟨rfl, evs, evn⟩ := r0
    refine ⟨a, 0, 0, -1, -1, y_openCount, ha, by omega, Or.inl rfl, Or.inl rfl, fun Q q => rcv Q ?_, fun Q q => yp_in (d := 0) (by omega) (by omega) eb (br_t rfl ?_), ⟨fun z => absurd z.1 (by omega), fun z => absurd z.1 (hh_m1' (by decide))⟩, Or.inr ⟨x_nodeValue, Or.inl ⟨rfl, rfl, rfl, rfl, rfl, rfl⟩, Or.inl ⟨rfl, rfl, rfl⟩⟩, fun z => absurd z (by omega)⟩
    · unfold wpX_beginValue
      dsimp only
      rw [evs, evn, es]
      exact bv_any hV (br_f (by decide) (xt_0 (br_t rfl (xi_0 (br_t rfl q)))))
    · rw [es]; exact q
  | succ d =>
    have hos : ¬ x_openSlot d = -1 := hnt (by omega)
    have ed : (nI d).toNatClampNeg = d := nI_clamp (by omega)
    obtain ⟨n, s, hn, hs, eo, eo', edp, et, esl, K⟩ := hlv d (by omega)
    have en : (nI n).toNatClampNeg = n := nI_clamp (by omega)
    have i8 : vp_in (nI d) 8 := vp_in_nI (by omega) (by decide)
    have i40 : vp_in (nI n) 40 := vp_in_nI (by omega) (by decide)
    have yk := e1 n hn
    rcases K with ⟨g1, k3, so4, es, eoc⟩ | ⟨g1, k4, eM', ⟨M, hM, eM, hch⟩, K⟩
    · -- in a list
      obtain ⟨tA, tB, tC, dd, lo, B, hdd, edd, hlB, hB, elo, eB⟩ := (hT.2.2 s hs).2.2.2.1 so4
      have ess : (nI s).toNatClampNeg = s := nI_clamp (by omega)
      have wt0 : y_wantsTag = 0 := by
        rcases hx with w | w | w | w | w | w | w | w | w | w
        all_goals try (have := w.1; omega)
        · exact w.2.2.2
        · rw [g1] at w; exact absurd w.2.2.1 (by decide)
        · rw [g1] at w; exact absurd w.2.2.1 (by decide)
        · exact w.2.2.2
      obtain ⟨kk, s1, b1, f1, f2, f3, f4, f5, f6, f7, f8, f9, f10, f11, f12⟩ := hA.2.1 n hn
      have hk3 : kk = 3 := hh_i (by omega) (by decide) (m := 3) (f4.symm.trans k3)
      obtain ⟨-, -, j, hj, evj, -, -⟩ := f11 hk3
      have eocj : y_openCount d + 1 = nI (j + 1) := by rw [eoc, evj, nI_1]
      refine ⟨dd, n, s, nI n, nI j, upd y_openCount d (nI (j + 1)), hdd, by omega, Or.inr ⟨d, rfl, by omega, eo, by omega, fun _ => ⟨es, hs⟩⟩, Or.inr ⟨rfl, by omega, d, rfl, by omega, fun _ => ⟨et.trans es, hs⟩⟩, fun Q q => rcv Q ?_, fun Q q => yp_in (d := d + 1) (by omega) (by omega) eb ?_, ?_, ?_, fun _ => wt0⟩
      · unfold wpX_beginValue
        dsimp only
        refine bv_any hV (br_f (by decide) (xt_f (by omega) hos (br_t rfl (xi_l (by omega) (by omega) eo k3 (br_f (by decide) ?_)))))
        unfold wpX_expectElement
        dsimp only
        rw [nI_pred, ed, es, ess, eo, en]
        exact ⟨vp_in_nI (by omega) (by decide), vp_in_nI hs (by decide), nm_r edd ⟨vp_in_nI (by omega) (by decide), i40, nm_r evj q⟩⟩
      · rw [nI_pred, ed, eo', en, yk, k3, et, es, ess, tA, edd, eocj, eoc, evj]
        exact br_f (nI_ne0 (by omega) (by omega)) (br_f n13 (br_f n11 (br_f n15 (br_f n14 ⟨i8, i40, br_t rfl ⟨i8, i8, i8, i8, vp_in_nI hs (by decide), i8, q⟩⟩))))
      · rw [yk, k3, tC]
        exact ⟨fun z => ⟨rfl, rfl, z.2.2⟩, fun z => ⟨by omega, rfl, z.2.2⟩⟩
      · by_cases fl : nI j < x_typeMost s
        · have hjB : j < 20 := by
            rw [eB, nI_ltI (by omega) (by omega)] at fl; omega
          refine Or.inr ⟨upd x_nodeValue n (nI (j + 1)), Or.inr (Or.inl ⟨d, n, j, rfl, hn, eo, g1, rfl, rfl, hjB, evj, k3, rfl, rfl⟩), Or.inr ⟨d, rfl, by omega, by omega, eo, rfl, Or.inl ⟨k3, ?_⟩⟩⟩
          rw [evj, nI_1]
        · exact Or.inl ⟨by omega, k3, fl⟩
    · -- a field
      have pd : y_wantsName = 0 ∧ y_wantsTag = 0 ∧ pd_F N (d + 1) x_fieldCount x_fieldName x_fieldType x_nodeParent x_nodeName x_openNode x_openSlot x_openNames x_valueSlot x_valueName y_nextName := by
        rcases hx with w | w | w | w | w | w | w | w | w | w
        all_goals try (have := w.1; omega)
        · rw [g1] at w; exact absurd w.2.2.1 (by decide)
        · exact absurd w.2.2.2.2.1 hos
        · exact ⟨w.2.2.2.1, w.2.2.2.2.2.1, w.2.2.2.2.2.2⟩
        · rw [g1] at w; exact absurd w.2.2.1 (by decide)
      obtain ⟨wn0, wt0, n', r, m, i, j, M', p1, p2, p3, p4, p5, p6, p7, p8, p9, p10, p11, p12, p13, p14, p15, p16⟩ := pd
      have en' : n' = n := hh_i (by omega) (by omega) (p1.symm.trans eo)
      subst en'
      have p3' : x_openSlot d = nI r := p3
      have so5 : x_typeKind r = 5 := by
        rcases K with ⟨q1, q2, -⟩ | ⟨-, -, q, -⟩ | ⟨-, -, r', q', q1, q2, q3, -⟩
        · have : s = r := hh_i (by omega) (by omega) (q2.symm.trans p3'); subst this; exact q1
        · exact absurd q hos
        · have : r' = r := hh_i (by omega) (by omega) (q3.symm.trans p3'); subst this; exact q2
      obtain ⟨eF, m2, hm2, em2, hfs, hdis⟩ := (hT.2.2 r p4).2.2.2.2.1 so5
      have em : m2 = m := hh_i (by omega) (by omega) (em2.symm.trans p5)
      subst em
      obtain ⟨a1, a2, a3, h1, h2, h3, h4, h5, h6⟩ := hfs i p7
      have ffe : ff_F x_fieldName r (nI j) m2 0 = nI (4 * r + i) := by
        rcases ff_S x_fieldName r (nI j) m2 0 with ⟨-, q⟩ | ⟨i', -, hi', q1, q2⟩
        · exact absurd p9 (q i (by omega) (by omega))
        · have : i' = i := hdis i' i (by omega) p7 (q2.trans p9.symm)
          rw [q1, this]
      have k43 : ¬ x_nodeKind n' = 3 := by rw [k4]; decide
      refine ⟨a2, n', 0, nI n', nI j, y_openCount, h2, by omega, Or.inr ⟨d, rfl, by omega, eo, by omega, fun z => absurd z k43⟩, Or.inr ⟨rfl, by omega, d, rfl, by omega, fun z => absurd (yk.symm.trans z) k43⟩, fun Q q => rcv Q ?_, fun Q q => yp_in (d := d + 1) (by omega) (by omega) eb ?_, ?_, Or.inr ⟨x_nodeValue, Or.inr (Or.inr ⟨d, n', j, M', rfl, hn, eo, g1, rfl, rfl, p8, k4, p13, p14, p15, p16, rfl, rfl⟩), Or.inr ⟨d, rfl, by omega, by omega, eo, rfl, Or.inr ⟨k43, rfl⟩⟩⟩, fun _ => wt0⟩
      · unfold wpX_beginValue
        dsimp only
        rw [p10, p11, h5]
        exact bv_any hV (br_f (by decide) (xt_f (by omega) hos (br_t rfl (xi_r (by omega) (by omega) eo k43 (br_t rfl q)))))
      · rw [p12] at q
        rw [nI_pred, ed, eo', en, yk, k4, et, p3', p12]
        refine br_f (nI_ne0 (by omega) (by omega)) (br_f n13 (br_f n11 (br_f n15 (br_f n14 ⟨i8, i40, br_f (by decide) (br_t wn0 (br_t wt0 ⟨i8, yf_find p4 hm2 (eF.trans em2) ?_⟩))⟩))))
        rw [ffe, nI_clamp (by omega), h5]
        exact ⟨vp_in_nI (by omega) (by decide), i8, q⟩
      · refine ⟨fun z => absurd z.2.1 k43, fun z => absurd (yk.symm.trans z.2.1) k43⟩
end
end
section
/-! the bind: a value's faults, and the way on -/
theorem kc_c {qa S c : Int32} {K : Nat} (h : kc_R qa S c K) : (c = 10 ∨ c = 12) ↔ (K = 3 ∨ K = 4) := by
  have nb : sp_B c → ¬ (c = 10 ∨ c = 12) := by
    rintro (q | q) (rfl | rfl)
    · exact absurd q.2 (by decide)
    · exact absurd q.2 (by decide)
    · exact absurd q (by decide)
    · exact absurd q (by decide)
  rcases h with ⟨rfl, hB, -⟩ | ⟨rfl, rfl, -⟩ | ⟨rfl, hc, -⟩ | ⟨rfl, rfl, -⟩ | ⟨rfl, rfl, -⟩ | ⟨rfl, rfl, -⟩ | ⟨rfl, hB, -⟩
  · exact ⟨fun z => absurd z (nb hB), fun z => absurd z (by decide)⟩
  · exact ⟨fun z => absurd z (by decide), fun z => absurd z (by decide)⟩
  · refine ⟨fun z => ?_, fun z => absurd z (by decide)⟩
    rcases hc with rfl | rfl <;> exact absurd z (by decide)
  · exact ⟨fun _ => Or.inl rfl, fun _ => Or.inr rfl⟩
  · exact ⟨fun _ => Or.inr rfl, fun _ => Or.inl rfl⟩
  · exact ⟨fun z => absurd z (by decide), fun z => absurd z (by decide)⟩
  · exact ⟨fun z => absurd z (nb hB), fun z => absurd z (by decide)⟩
section
variable {x_bound x_at x_tokenStart x_textCount x_escaped x_valueSlot x_valueName x_outputLength : Int32} {x_text x_typeKind x_typeDetail x_typeLeast x_typeMost x_fieldCount x_fieldName x_fieldType x_fieldNeeded x_tagType x_nodeKind x_nodeValue x_nodeParent x_nodeName x_nodeSlot x_nodeStart x_nodeTag x_completeCount x_openNode x_openSlot x_openNames x_openNext x_openComma x_output : Nat → Int32} {y_bad y_nextName y_wantsName y_wantsTag y_waiting y_scaled : Int32} {y_typeA y_typeB y_typeC y_fields y_tags y_begin y_end y_inside y_whole y_kind y_value y_parent y_name y_slotOf y_placeOf y_complete y_openNode y_openType y_openCount y_openNames y_openChoice y_todo : Nat → Int32} {L P k p x d N : Nat} {g : Nat → Int32} {dp : Nat → Nat} {slot : Int32}
theorem st_val (hT : rl_T L x_text x_typeKind x_typeDetail x_typeLeast x_typeMost x_fieldCount x_fieldName x_fieldType x_fieldNeeded x_tagType y_typeA y_typeB y_typeC y_fields y_tags) (F : br_F slot L k p x d N g x_text x_typeKind x_fieldCount x_fieldName x_fieldType y_begin y_end x_nodeKind x_nodeValue x_nodeParent x_nodeName x_nodeSlot x_nodeStart x_nodeTag x_completeCount x_openNode x_openSlot x_openNames x_valueSlot x_valueName dp y_kind y_value y_parent y_name y_slotOf y_placeOf y_complete y_openNode y_openType y_openCount y_openNames y_openChoice y_nextName y_wantsName y_wantsTag) (hx01 : x < 2) (hnt : 0 < d → ¬ x_openSlot (d - 1) = -1) (hslot : ∃ a, a < 12 ∧ slot = nI a) (hk : k < P) (hP : P ≤ 96) {b : Nat} (hb : sp_S x_text p b) (hbL : b < L) (eb : y_begin k = nI b) (hV : sp_V (x_text b))
    (HO : ∀ (a w K : Nat) (x3 x4 x9 x10 x11 : Int32) (oc1 vl1 : Nat → Int32), kc_I x_typeKind x_typeDetail a w → K ≤ 6 → pr_F d N g x_nodeKind x_nodeValue x_nodeParent x_nodeName x_openNode x_openNames y_openCount x3 x4 vl1 oc1 → vg_F (x_typeKind a) (x_text b) x9 x10 x11 → kc_D (x_typeKind a) (x_typeKind w) → kc_R (x_typeKind a) (x_typeKind w) (x_text b) K → ¬ (d = 6 ∧ (K = 3 ∨ K = 4)) → N < 40 → (0 < d → y_wantsTag = 0) →
      (∀ u2 : SX, (∀ R : SX → Prop, R u2 → wpX_enterValue R (nI L, nI (N + 1), x_bound, 0, -1, md_x x, nI b, x_tokenStart, x_textCount, x_escaped, nI a, x4, nI d, x_outputLength, x_text, x_typeKind, x_typeDetail, x_typeLeast, x_typeMost, x_fieldCount, x_fieldName, x_fieldType, x_fieldNeeded, x_tagType, upd x_nodeKind N (nI K), upd vl1 N 0, upd x_nodeParent N x3, upd x_nodeName N x4, upd x_nodeSlot N (nI w), upd x_nodeStart N (nI b), upd x_nodeTag N (-1), x_completeCount, x_openNode, x_openSlot, x_openNames, x_openNext, x_openComma, x_output) (nI K) (x_text b)) → bx_R p (nI L, nI N, x_bound, 0, -1, md_x x, x_at, x_tokenStart, x_textCount, x_escaped, x_valueSlot, x_valueName, nI d, x_outputLength, x_text, x_typeKind, x_typeDetail, x_typeLeast, x_typeMost, x_fieldCount, x_fieldName, x_fieldType, x_fieldNeeded, x_tagType, x_nodeKind, x_nodeValue, x_nodeParent, x_nodeName, x_nodeSlot, x_nodeStart, x_nodeTag, x_completeCount, x_openNode, x_openSlot, x_openNames, x_openNext, x_openComma, x_output) (b + 1) u2) →
      (∀ v2 : SY, (∀ R : SY → Prop, R v2 → wY_bindValue_359 R (nI k) x3 x4 (nI b) (x_text b) (nI w) (x_typeKind w) x10 x11 (nI L) (nI P) y_bad (nI N) 0 (-1) 0 (nI d) y_nextName y_wantsName y_wantsTag x_outputLength y_waiting y_scaled x_typeKind y_typeA y_typeB y_typeC x_fieldName x_fieldType y_fields y_tags x_fieldNeeded x_text y_begin y_end y_inside y_whole y_kind y_value y_parent y_name y_slotOf y_placeOf y_complete y_openNode y_openType oc1 y_openNames y_openChoice x_output y_todo) → by_R slot k (nI L, nI P, y_bad, nI N, 0, -1, 0, nI d, y_nextName, y_wantsName, y_wantsTag, x_outputLength, y_waiting, y_scaled, x_typeKind, y_typeA, y_typeB, y_typeC, x_fieldName, x_fieldType, y_fields, y_tags, x_fieldNeeded, x_text, y_begin, y_end, y_inside, y_whole, y_kind, y_value, y_parent, y_name, y_slotOf, y_placeOf, y_complete, y_openNode, y_openType, y_openCount, y_openNames, y_openChoice, x_output, y_todo) (k + 1) v2) → bo_O slot p k (nI L, nI N, x_bound, 0, -1, md_x x, x_at, x_tokenStart, x_textCount, x_escaped, x_valueSlot, x_valueName, nI d, x_outputLength, x_text, x_typeKind, x_typeDetail, x_typeLeast, x_typeMost, x_fieldCount, x_fieldName, x_fieldType, x_fieldNeeded, x_tagType, x_nodeKind, x_nodeValue, x_nodeParent, x_nodeName, x_nodeSlot, x_nodeStart, x_nodeTag, x_completeCount, x_openNode, x_openSlot, x_openNames, x_openNext, x_openComma, x_output) (nI L, nI P, y_bad, nI N, 0, -1, 0, nI d, y_nextName, y_wantsName, y_wantsTag, x_outputLength, y_waiting, y_scaled, x_typeKind, y_typeA, y_typeB, y_typeC, x_fieldName, x_fieldType, y_fields, y_tags, x_fieldNeeded, x_text, y_begin, y_end, y_inside, y_whole, y_kind, y_value, y_parent, y_name, y_slotOf, y_placeOf, y_complete, y_openNode, y_openType, y_openCount, y_openNames, y_openChoice, x_output, y_todo)) : bo_O slot p k (nI L, nI N, x_bound, 0, -1, md_x x, x_at, x_tokenStart, x_textCount, x_escaped, x_valueSlot, x_valueName, nI d, x_outputLength, x_text, x_typeKind, x_typeDetail, x_typeLeast, x_typeMost, x_fieldCount, x_fieldName, x_fieldType, x_fieldNeeded, x_tagType, x_nodeKind, x_nodeValue, x_nodeParent, x_nodeName, x_nodeSlot, x_nodeStart, x_nodeTag, x_completeCount, x_openNode, x_openSlot, x_openNames, x_openNext, x_openComma, x_output) (nI L, nI P, y_bad, nI N, 0, -1, 0, nI d, y_nextName, y_wantsName, y_wantsTag, x_outputLength, y_waiting, y_scaled, x_typeKind, y_typeA, y_typeB, y_typeC, x_fieldName, x_fieldType, y_fields, y_tags, x_fieldNeeded, x_text, y_begin, y_end, y_inside, y_whole, y_kind, y_value, y_parent, y_name, y_slotOf, y_placeOf, y_complete, y_openNode, y_openType, y_openCount, y_openNames, y_openChoice, x_output, y_todo) := by
  have hL := hT.1
  obtain ⟨a, n, s, x3, x4, oc1, ha, hn40, hpX, hpY, hX1, hY1, hfl, hpr, wt0⟩ := vs_reach hT F hx01 hnt hslot hk hP hbL eb hV
  have hA := F.2.1
  have hd6 := F.2.2.1
  have hN := hA.1
  have c0 := tt_lo hT.2.1 b
  obtain ⟨w, hI, hI'⟩ := kc_mk hT ha
  obtain ⟨r, hr, spec⟩ : ∃ r : Int32, (∀ post : Int32 → Prop, post r → wpX_kindBegun post (nI L, nI N, x_bound, 0, -1, md_x x, nI b, x_tokenStart, x_textCount, x_escaped, nI a, x4, nI d, x_outputLength, x_text, x_typeKind, x_typeDetail, x_typeLeast, x_typeMost, x_fieldCount, x_fieldName, x_fieldType, x_fieldNeeded, x_tagType, x_nodeKind, x_nodeValue, x_nodeParent, x_nodeName, x_nodeSlot, x_nodeStart, x_nodeTag, x_completeCount, x_openNode, x_openSlot, x_openNames, x_openNext, x_openComma, x_output) (nI a) (x_text b)) ∧ (kc_D (x_typeKind a) (x_typeKind w) → (∃ K, K ≤ 6 ∧ r = nI K ∧ kc_R (x_typeKind a) (x_typeKind w) (x_text b) K) ∨ (r = -1 ∧ ¬ ∃ K, kc_R (x_typeKind a) (x_typeKind w) (x_text b) K)) := kb_x hI c0
  obtain ⟨a0, ha0⟩ : ∃ a, bx_R p (nI L, nI N, x_bound, 0, -1, md_x x, x_at, x_tokenStart, x_textCount, x_escaped, x_valueSlot, x_valueName, nI d, x_outputLength, x_text, x_typeKind, x_typeDetail, x_typeLeast, x_typeMost, x_fieldCount, x_fieldName, x_fieldType, x_fieldNeeded, x_tagType, x_nodeKind, x_nodeValue, x_nodeParent, x_nodeName, x_nodeSlot, x_nodeStart, x_nodeTag, x_completeCount, x_openNode, x_openSlot, x_openNames, x_openNext, x_openComma, x_output) b (nI L, nI N, x_bound, 0, -1, md_x x, a, x_tokenStart, x_textCount, x_escaped, x_valueSlot, x_valueName, nI d, x_outputLength, x_text, x_typeKind, x_typeDetail, x_typeLeast, x_typeMost, x_fieldCount, x_fieldName, x_fieldType, x_fieldNeeded, x_tagType, x_nodeKind, x_nodeValue, x_nodeParent, x_nodeName, x_nodeSlot, x_nodeStart, x_nodeTag, x_completeCount, x_openNode, x_openSlot, x_openNames, x_openNext, x_openComma, x_output) := bx_at hL hb (by omega)
  have fault : ∀ f : Int32, ¬ f = 0 → (∀ post : Int32 → Prop, post f → wpX_faultAtBeginning post (nI L, nI N, x_bound, 0, -1, md_x x, nI b, x_tokenStart, x_textCount, x_escaped, nI a, x4, nI d, x_outputLength, x_text, x_typeKind, x_typeDetail, x_typeLeast, x_typeMost, x_fieldCount, x_fieldName, x_fieldType, x_fieldNeeded, x_tagType, x_nodeKind, x_nodeValue, x_nodeParent, x_nodeName, x_nodeSlot, x_nodeStart, x_nodeTag, x_completeCount, x_openNode, x_openSlot, x_openNames, x_openNext, x_openComma, x_output) r) → (∀ Q : SY → Prop, Q (nI L, nI P, y_bad, nI N, f, nI b, 0, nI d, y_nextName, y_wantsName, y_wantsTag, x_outputLength, y_waiting, y_scaled, x_typeKind, y_typeA, y_typeB, y_typeC, x_fieldName, x_fieldType, y_fields, y_tags, x_fieldNeeded, x_text, y_begin, y_end, y_inside, y_whole, y_kind, y_value, y_parent, y_name, y_slotOf, y_placeOf, y_complete, y_openNode, y_openType, oc1, y_openNames, y_openChoice, x_output, y_todo) → wpY_bindValue Q (nI L, nI P, y_bad, nI N, 0, -1, 0, nI d, y_nextName, y_wantsName, y_wantsTag, x_outputLength, y_waiting, y_scaled, x_typeKind, y_typeA, y_typeB, y_typeC, x_fieldName, x_fieldType, y_fields, y_tags, x_fieldNeeded, x_text, y_begin, y_end, y_inside, y_whole, y_kind, y_value, y_parent, y_name, y_slotOf, y_placeOf, y_complete, y_openNode, y_openType, oc1, y_openNames, y_openChoice, x_output, y_todo) (nI k) (nI a) x3 x4) → bo_O slot p k (nI L, nI N, x_bound, 0, -1, md_x x, x_at, x_tokenStart, x_textCount, x_escaped, x_valueSlot, x_valueName, nI d, x_outputLength, x_text, x_typeKind, x_typeDetail, x_typeLeast, x_typeMost, x_fieldCount, x_fieldName, x_fieldType, x_fieldNeeded, x_tagType, x_nodeKind, x_nodeValue, x_nodeParent, x_nodeName, x_nodeSlot, x_nodeStart, x_nodeTag, x_completeCount, x_openNode, x_openSlot, x_openNames, x_openNext, x_openComma, x_output) (nI L, nI P, y_bad, nI N, 0, -1, 0, nI d, y_nextName, y_wantsName, y_wantsTag, x_outputLength, y_waiting, y_scaled, x_typeKind, y_typeA, y_typeB, y_typeC, x_fieldName, x_fieldType, y_fields, y_tags, x_fieldNeeded, x_text, y_begin, y_end, y_inside, y_whole, y_kind, y_value, y_parent, y_name, y_slotOf, y_placeOf, y_complete, y_openNode, y_openType, y_openCount, y_openNames, y_openChoice, x_output, y_todo) := by
    intro f hf hfa hy
    have hx : bx_R b (nI L, nI N, x_bound, 0, -1, md_x x, a0, x_tokenStart, x_textCount, x_escaped, x_valueSlot, x_valueName, nI d, x_outputLength, x_text, x_typeKind, x_typeDetail, x_typeLeast, x_typeMost, x_fieldCount, x_fieldName, x_fieldType, x_fieldNeeded, x_tagType, x_nodeKind, x_nodeValue, x_nodeParent, x_nodeName, x_nodeSlot, x_nodeStart, x_nodeTag, x_completeCount, x_openNode, x_openSlot, x_openNames, x_openNext, x_openComma, x_output) (b + 1) (nI L, nI N, x_bound, f, nI b, md_x x, nI b, x_tokenStart, x_textCount, x_escaped, nI a, x4, nI d, x_outputLength, x_text, x_typeKind, x_typeDetail, x_typeLeast, x_typeMost, x_fieldCount, x_fieldName, x_fieldType, x_fieldNeeded, x_tagType, x_nodeKind, x_nodeValue, x_nodeParent, x_nodeName, x_nodeSlot, x_nodeStart, x_nodeTag, x_completeCount, x_openNode, x_openSlot, x_openNames, x_openNext, x_openComma, x_output) := bx_1 hbL hL _ (fun Q q => hX1 Q (vx_f hf hr hfa q))
    have hy' : by_R slot k (nI L, nI P, y_bad, nI N, 0, -1, 0, nI d, y_nextName, y_wantsName, y_wantsTag, x_outputLength, y_waiting, y_scaled, x_typeKind, y_typeA, y_typeB, y_typeC, x_fieldName, x_fieldType, y_fields, y_tags, x_fieldNeeded, x_text, y_begin, y_end, y_inside, y_whole, y_kind, y_value, y_parent, y_name, y_slotOf, y_placeOf, y_complete, y_openNode, y_openType, y_openCount, y_openNames, y_openChoice, x_output, y_todo) (k + 1) (nI L, nI P, y_bad, nI N, f, nI b, 0, nI d, y_nextName, y_wantsName, y_wantsTag, x_outputLength, y_waiting, y_scaled, x_typeKind, y_typeA, y_typeB, y_typeC, x_fieldName, x_fieldType, y_fields, y_tags, x_fieldNeeded, x_text, y_begin, y_end, y_inside, y_whole, y_kind, y_value, y_parent, y_name, y_slotOf, y_placeOf, y_complete, y_openNode, y_openType, oc1, y_openNames, y_openChoice, x_output, y_todo) := by_1 hk hP _ (fun Q q => hY1 Q (hy Q q))
    exact bo_fault hT hf (bx_T ha0 hx) hy'
  by_cases D : kc_D (x_typeKind a) (x_typeKind w)
  case neg =>
    refine fault 2 (by decide) (fun post q => fb_x hd6 hI (fun _ => q) (fun z => absurd z D) (fun z => absurd z D) (fun z => absurd z D)) (fun Q q => yv_top (by omega) (by omega) eb rfl hV c0 hI' hn40 hpY (fun _ => q) (fun z => absurd z D) (fun _ _ _ _ z => absurd z D))
  rcases spec D with ⟨K, hK, rfl, hR⟩ | ⟨rfl, nK⟩
  case inr =>
    refine fault 3 (by decide) (fun post q => fb_x hd6 hI (fun z => absurd D z) (fun _ _ => q) (fun _ z => absurd rfl z) (fun _ z => absurd rfl z)) (fun Q q => yv_top (by omega) (by omega) eb rfl hV c0 hI' hn40 hpY (fun z => absurd D z) (fun _ _ => q) (fun _ _ _ _ _ z => absurd z nK))
  have rm1 : ¬ nI K = -1 := hh_m1 (by omega)
  have r34 : (nI K = 3 ∨ nI K = 4) ↔ (K = 3 ∨ K = 4) := by
    constructor
    · rintro (z | z)
      · exact Or.inl (hh_i (by omega) (by decide) (m := 3) z)
      · exact Or.inr (hh_i (by omega) (by decide) (m := 4) z)
    · rintro (rfl | rfl)
      · exact Or.inl rfl
      · exact Or.inr rfl
  have cK := kc_c hR
  by_cases dp6 : d = 6 ∧ (K = 3 ∨ K = 4)
  · refine fault 4 (by decide) (fun post q => fb_x hd6 hI (fun z => absurd D z) (fun _ z => absurd z rm1) (fun _ _ _ _ => q) (fun _ _ z => absurd ⟨dp6.1, r34.mpr dp6.2⟩ z)) (fun Q q => yv_top (by omega) (by omega) eb rfl hV c0 hI' hn40 hpY (fun z => absurd D z) (fun _ z => absurd ⟨K, hR⟩ z) (fun x9 x10 x11 _ _ _ => yv_271 hn40 hpY hd6 hN (fun _ _ => q) (fun z => absurd ⟨cK.mpr dp6.2, dp6.1⟩ z) (fun z => absurd ⟨cK.mpr dp6.2, dp6.1⟩ z) (fun z => absurd ⟨cK.mpr dp6.2, dp6.1⟩ z)))
  have nd : ¬ ((x_text b = 10 ∨ x_text b = 12) ∧ d = 6) := fun z => dp6 ⟨z.2, cK.mp z.1⟩
  rcases Nat.lt_or_ge N 40 with N40 | N40
  case inr =>
    refine fault 5 (by decide) (fun post q => fb_x hd6 hI (fun z => absurd D z) (fun _ z => absurd z rm1) (fun _ _ z1 z2 => absurd ⟨z1, r34.mp z2⟩ dp6) (fun _ _ _ => fb_41 hpX hN (fun _ => q) (fun z => absurd z (by omega)) (fun z => absurd z (by omega)))) (fun Q q => yv_top (by omega) (by omega) eb rfl hV c0 hI' hn40 hpY (fun z => absurd D z) (fun _ z => absurd ⟨K, hR⟩ z) (fun x9 x10 x11 _ _ _ => yv_271 hn40 hpY hd6 hN (fun z1 z2 => absurd ⟨z1, z2⟩ nd) (fun _ _ => q) (fun _ z => absurd z (by omega)) (fun _ z => absurd z (by omega))))
  by_cases fl : 0 < d ∧ x_nodeKind n = 3 ∧ ¬ x4 < x_typeMost s
  · refine fault 6 (by decide) (fun post q => fb_x hd6 hI (fun z => absurd D z) (fun _ z => absurd z rm1) (fun _ _ z1 z2 => absurd ⟨z1, r34.mp z2⟩ dp6) (fun _ _ _ => fb_41 hpX hN (fun z => absurd z (by omega)) (fun _ _ _ _ => q) (fun _ z => absurd fl z))) (fun Q q => yv_top (by omega) (by omega) eb rfl hV c0 hI' hn40 hpY (fun z => absurd D z) (fun _ z => absurd ⟨K, hR⟩ z) (fun x9 x10 x11 _ _ _ => yv_271 hn40 hpY hd6 hN (fun z1 z2 => absurd ⟨z1, z2⟩ nd) (fun _ z => absurd z (by omega)) (fun _ _ _ => q) (fun _ _ z => absurd (hfl.mp fl) z)))
  obtain ⟨vl1, hpr, hpar⟩ := hpr.resolve_left fl
  have hfa : ∀ post : Int32 → Prop, post 0 → wpX_faultAtBeginning post (nI L, nI N, x_bound, 0, -1, md_x x, nI b, x_tokenStart, x_textCount, x_escaped, nI a, x4, nI d, x_outputLength, x_text, x_typeKind, x_typeDetail, x_typeLeast, x_typeMost, x_fieldCount, x_fieldName, x_fieldType, x_fieldNeeded, x_tagType, x_nodeKind, x_nodeValue, x_nodeParent, x_nodeName, x_nodeSlot, x_nodeStart, x_nodeTag, x_completeCount, x_openNode, x_openSlot, x_openNames, x_openNext, x_openComma, x_output) (nI K) := fun post q => fb_x hd6 hI (fun z => absurd D z) (fun _ z => absurd z rm1) (fun _ _ z1 z2 => absurd ⟨z1, r34.mp z2⟩ dp6) (fun _ _ _ => fb_41 hpX hN (fun z => absurd z (by omega)) (fun _ z1 z2 z3 => absurd ⟨z1, z2, z3⟩ fl) (fun _ _ => q))
  -- which flags
  obtain ⟨x9, g9⟩ : ∃ x9 : Int32, x9 = 1 ∧ x_typeKind a = 7 ∨ x9 = 0 ∧ ¬ x_typeKind a = 7 := by
    by_cases z : x_typeKind a = 7
    · exact ⟨1, Or.inl ⟨rfl, z⟩⟩
    · exact ⟨0, Or.inr ⟨rfl, z⟩⟩
  obtain ⟨x10, g10⟩ : ∃ x10 : Int32, x10 = 1 ∧ x_typeKind a = 8 ∨ x10 = 0 ∧ ¬ x_typeKind a = 8 := by
    by_cases z : x_typeKind a = 8
    · exact ⟨1, Or.inl ⟨rfl, z⟩⟩
    · exact ⟨0, Or.inr ⟨rfl, z⟩⟩
  obtain ⟨x11, g11⟩ : ∃ x11 : Int32, x11 = 1 ∧ sp_B (x_text b) ∨ x11 = 0 ∧ ¬ sp_B (x_text b) := by
    by_cases z : sp_B (x_text b)
    · exact ⟨1, Or.inl ⟨rfl, z⟩⟩
    · exact ⟨0, Or.inr ⟨rfl, z⟩⟩
  refine HO a w K x3 x4 x9 x10 x11 oc1 vl1 hI hK hpr ⟨g9, g10, g11⟩ D hR dp6 N40 wt0 (fun u2 he => ?_) (fun v2 hv => ?_)
  · refine bx_T ha0 (bx_1 hbL hL u2 (fun Q q => hX1 Q (vx_o (u1 := (nI L, nI (N + 1), x_bound, 0, -1, md_x x, nI b, x_tokenStart, x_textCount, x_escaped, nI a, x4, nI d, x_outputLength, x_text, x_typeKind, x_typeDetail, x_typeLeast, x_typeMost, x_fieldCount, x_fieldName, x_fieldType, x_fieldNeeded, x_tagType, upd x_nodeKind N (nI K), upd vl1 N 0, upd x_nodeParent N x3, upd x_nodeName N x4, upd x_nodeSlot N (nI w), upd x_nodeStart N (nI b), upd x_nodeTag N (-1), x_completeCount, x_openNode, x_openSlot, x_openNames, x_openNext, x_openComma, x_output)) hr hfa (fun R rr => an_x (n := n) N40 hI (par := x3) (vl1 := vl1) ?_ rr) he q)))
    rcases hpar with ⟨p1, p2, p3⟩ | hpar
    · exact Or.inl ⟨p1, p2, p3⟩
    · exact Or.inr hpar
  · refine by_1 hk hP v2 (fun Q q => hY1 Q (yv_top (by omega) (by omega) eb rfl hV c0 hI' hn40 hpY (fun z => absurd D z) (fun _ z => absurd ⟨K, hR⟩ z) (fun y9 y10 y11 hg _ _ => yv_271 hn40 hpY hd6 hN (fun z1 z2 => absurd ⟨z1, z2⟩ nd) (fun _ z => absurd z (by omega)) (fun _ _ z => absurd (hfl.mpr z) fl) (fun _ _ _ => ?_))))
    have h10 : y10 = x10 := by
      rcases hg.2.1 with ⟨z1, z2⟩ | ⟨z1, z2⟩ <;> rcases g10 with ⟨q1, q2⟩ | ⟨q1, q2⟩
      · rw [z1, q1]
      · exact absurd z2 q2
      · exact absurd q2 z2
      · rw [z1, q1]
    have h11 : y11 = x11 := by
      rcases hg.2.2 with ⟨z1, z2⟩ | ⟨z1, z2⟩ <;> rcases g11 with ⟨q1, q2⟩ | ⟨q1, q2⟩
      · rw [z1, q1]
      · exact absurd z2 q2
      · exact absurd q2 z2
      · rw [z1, q1]
    rw [h10, h11]
    exact hv Q q
end
end
section
/-! the bind: what holds with the new node -/
theorem yv_fin {N d K : Nat} {g kd vl pa nm on om oc vl1 oc1 kd0 vl0 : Nat → Int32} {x3 x4 v : Int32} (hN : N < 40) (hp : pr_F d N g kd vl pa nm on om oc x3 x4 vl1 oc1) (e1 : pe_N N kd kd0) (e2 : pe_N N vl vl0) :
    ∃ VF, pe_N (N + 1) (upd vl1 N v) VF ∧ ∀ {y_length y_parts y_bad y_nodes y_fault y_place y_bound y_depth y_nextName y_wantsName y_wantsTag y_printed y_waiting y_scaled : Int32} {y_sort y_typeA y_typeB y_typeC y_fieldName y_fieldType y_fields y_tags y_needed y_text y_begin y_end y_inside y_whole y_parent y_name y_slotOf y_placeOf y_complete y_openNode y_openType y_openCount y_openNames y_openChoice y_output y_todo : Nat → Int32} (R : SY → Prop), R (y_length, y_parts, y_bad, y_nodes, y_fault, y_place, y_bound, y_depth, y_nextName, y_wantsName, y_wantsTag, y_printed, y_waiting, y_scaled, y_sort, y_typeA, y_typeB, y_typeC, y_fieldName, y_fieldType, y_fields, y_tags, y_needed, y_text, y_begin, y_end, y_inside, y_whole, upd kd0 N (nI K), VF, y_parent, y_name, y_slotOf, y_placeOf, y_complete, y_openNode, y_openType, y_openCount, y_openNames, y_openChoice, y_output, y_todo) → wY_bindValue_564 R x3 y_length y_parts y_bad y_nodes y_fault y_place y_bound y_depth y_nextName y_wantsName y_wantsTag y_printed y_waiting y_scaled y_sort y_typeA y_typeB y_typeC y_fieldName y_fieldType y_fields y_tags y_needed y_text y_begin y_end y_inside y_whole (upd kd0 N (nI K)) (upd vl0 N v) y_parent y_name y_slotOf y_placeOf y_complete y_openNode y_openType y_openCount y_openNames y_openChoice y_output y_todo := by
  rcases pe_add (v := v) hN hp e2 with ⟨n, j, hn, e3, k3, ev, -, pe⟩ | ⟨h3, -, pe⟩
  · refine ⟨_, pe, fun R r => ?_⟩
    subst e3
    have ne : n ≠ N := by omega
    refine yv_564n (by omega) (fun _ => ?_) (fun z => ?_)
    · rw [pk_un ne, e2 n hn, ev, nI_1]; exact r
    · rw [pk_un ne, e1 n hn] at z; exact absurd k3 z
  · refine ⟨_, pe, fun R r => ?_⟩
    rcases h3 with rfl | ⟨n, hn, rfl, k4⟩
    · exact yv_564r r
    · have ne : n ≠ N := by omega
      refine yv_564n (by omega) (fun z => ?_) (fun _ => r)
      rw [pk_un ne, e1 n hn, k4] at z; exact absurd z (by decide)
section
variable {x_bound x_at x_tokenStart x_textCount x_escaped x_valueSlot x_valueName x_outputLength : Int32} {x_text x_typeKind x_typeDetail x_typeLeast x_typeMost x_fieldCount x_fieldName x_fieldType x_fieldNeeded x_tagType x_nodeKind x_nodeValue x_nodeParent x_nodeName x_nodeSlot x_nodeStart x_nodeTag x_completeCount x_openNode x_openSlot x_openNames x_openNext x_openComma x_output : Nat → Int32} {y_bad y_nextName y_wantsName y_wantsTag y_waiting y_scaled : Int32} {y_typeA y_typeB y_typeC y_fields y_tags y_begin y_end y_inside y_whole y_kind y_value y_parent y_name y_slotOf y_placeOf y_complete y_openNode y_openType y_openCount y_openNames y_openChoice y_todo : Nat → Int32} {L P k p x d N : Nat} {g : Nat → Int32} {dp : Nat → Nat} {slot : Int32}
theorem bf_lit (F : br_F slot L k p x d N g x_text x_typeKind x_fieldCount x_fieldName x_fieldType y_begin y_end x_nodeKind x_nodeValue x_nodeParent x_nodeName x_nodeSlot x_nodeStart x_nodeTag x_completeCount x_openNode x_openSlot x_openNames x_valueSlot x_valueName dp y_kind y_value y_parent y_name y_slotOf y_placeOf y_complete y_openNode y_openType y_openCount y_openNames y_openChoice y_nextName y_wantsName y_wantsTag) (hnt : 0 < d → ¬ x_openSlot (d - 1) = -1) (hN40 : N < 40) {w K b p' : Nat} {x3 x4 v vs vn : Int32} {oc1 vl1 VF : Nat → Int32} (hw : w < 12) (hbL : b < L) (hL : L ≤ 96) (hpL : p ≤ L) (hpb : p ≤ b) (hbp : b < p') (hp' : p' ≤ L) (eb : y_begin k = nI b) (hp : pr_F d N g x_nodeKind x_nodeValue x_nodeParent x_nodeName x_openNode x_openNames y_openCount x3 x4 vl1 oc1) (hVF : pe_N (N + 1) (upd vl1 N v) VF) (hK : K ≤ 6) (h3 : K ≠ 3) (h4 : K ≠ 4) (h0 : K = 0 → x_typeKind w = 1) (h1 : K = 1 → x_text b = 16 ∧ ∃ q, ss_W x_text L (b + 1) q) (wt0 : 0 < d → y_wantsTag = 0) :
    br_F slot L (k + 1) (p') 5 d (N + 1) g x_text x_typeKind x_fieldCount x_fieldName x_fieldType y_begin y_end (upd x_nodeKind N (nI K)) (upd vl1 N v) (upd x_nodeParent N x3) (upd x_nodeName N x4) (upd x_nodeSlot N (nI w)) (upd x_nodeStart N (nI b)) (upd x_nodeTag N (-1)) x_completeCount x_openNode x_openSlot x_openNames vs vn (fun i => if i = N then d else dp i) (upd y_kind N (nI K)) VF (upd y_parent N x3) (upd y_name N x4) (upd y_slotOf N (nI w)) (upd y_placeOf N (nI b)) y_complete y_openNode y_openType oc1 y_openNames y_openChoice y_nextName y_wantsName y_wantsTag := by
  obtain ⟨⟨e1, e2, e3, e4, e5, e6⟩, hA, hd6, hlv, hc, hbg, hx⟩ := F
  have hdp : ∀ d' n, d = d' + 1 → x_openNode d' = nI n → n < N → dp n = d' := by
    rintro d' n rfl eo hn
    obtain ⟨n', s', q1, -, q3, -, q5, -⟩ := hlv d' (by omega)
    have : n' = n := hh_i (by omega) (by omega) (q3.symm.trans eo)
    subst this; exact q5
  have hop : ∀ i, i < N → ¬ op_F d x_openNode x_openSlot i := fun i _ z => hnt z.1 z.2.2
  refine ⟨⟨pe_s e1, hVF, pe_s e3, pe_s e4, pe_s e5, pe_s e6⟩, nd_add hA hN40 hop hp hdp hK hw hbL (fun z => absurd z (by omega)) h0 h1 (fun z => absurd z h3) (fun z => absurd z h4), hd6, fun l hl => lv_add hN40 (hlv l hl) hl hp hdp, cm_s hc, bg_s hbg (by omega) hpb hbp (by omega) eb, ?_⟩
  exact Or.inr (Or.inr (Or.inr (Or.inr (Or.inr (Or.inr (Or.inr (Or.inr (Or.inr ⟨rfl, by omega, fun z => ⟨wt0 z, hnt z⟩⟩))))))))
theorem bf_open (F : br_F slot L k p x d N g x_text x_typeKind x_fieldCount x_fieldName x_fieldType y_begin y_end x_nodeKind x_nodeValue x_nodeParent x_nodeName x_nodeSlot x_nodeStart x_nodeTag x_completeCount x_openNode x_openSlot x_openNames x_valueSlot x_valueName dp y_kind y_value y_parent y_name y_slotOf y_placeOf y_complete y_openNode y_openType y_openCount y_openNames y_openChoice y_nextName y_wantsName y_wantsTag) (hnt : 0 < d → ¬ x_openSlot (d - 1) = -1) (hN40 : N < 40) {w K b x' : Nat} {x3 x4 v vs vn ev os om och : Int32} {oc1 vl1 VF : Nat → Int32} (hw : w < 12) (hbL : b < L) (hL : L ≤ 96) (hpL : p ≤ L) (hpb : p ≤ b) (eb : y_begin k = nI b) (hp : pr_F d N g x_nodeKind x_nodeValue x_nodeParent x_nodeName x_openNode x_openNames y_openCount x3 x4 vl1 oc1) (hVF : pe_N (N + 1) (upd vl1 N v) VF) (hd5 : d ≤ 5)
    (hc : (K = 3 ∧ x_typeKind w = 4 ∧ v = nI 0 ∧ ev = 12 ∧ os = nI w ∧ x' = 1) ∨ (K = 4 ∧ x_typeKind w = 5 ∧ ev = 10 ∧ os = nI w ∧ om = 0 ∧ och = -1 ∧ x' = 2) ∨ (K = 4 ∧ x_typeKind w = 6 ∧ ev = 10 ∧ os = -1 ∧ (∃ j, j < 6 ∧ om = nI (2 ^ j)) ∧ och = nI w ∧ x' = 2))
    (hom : K = 3 → True) {om2 : Nat → Int32} (hom2 : K = 3 ∧ (∀ l, l < d → om2 l = x_openNames l) ∨ K = 4 ∧ om2 = upd x_openNames d om) :
    br_F slot L (k + 1) (b + 1) (x') (d + 1) (N + 1) (upd g (d + 1) ev) x_text x_typeKind x_fieldCount x_fieldName x_fieldType y_begin y_end (upd x_nodeKind N (nI K)) (upd vl1 N v) (upd x_nodeParent N x3) (upd x_nodeName N x4) (upd x_nodeSlot N (nI w)) (upd x_nodeStart N (nI b)) (upd x_nodeTag N (-1)) x_completeCount (upd x_openNode d (nI N)) (upd x_openSlot d os) om2 vs vn (fun i => if i = N then d else dp i) (upd y_kind N (nI K)) VF (upd y_parent N x3) (upd y_name N x4) (upd y_slotOf N (nI w)) (upd y_placeOf N (nI b)) y_complete (upd y_openNode d (nI N)) (upd y_openType d os) (upd oc1 d 0) (upd y_openNames d om) (upd y_openChoice d och) y_nextName 1 0 := by
  obtain ⟨⟨e1, e2, e3, e4, e5, e6⟩, hA, hd6, hlv, hcm, hbg, hx⟩ := F
  have hdp : ∀ d' n, d = d' + 1 → x_openNode d' = nI n → n < N → dp n = d' := by
    rintro d' n rfl eo hn
    obtain ⟨n', s', q1, -, q3, -, q5, -⟩ := hlv d' (by omega)
    have : n' = n := hh_i (by omega) (by omega) (q3.symm.trans eo)
    subst this; exact q5
  have hop : ∀ i, i < N → ¬ op_F d x_openNode x_openSlot i := fun i _ z => hnt z.1 z.2.2
  have hK : K ≤ 6 := by rcases hc with q | q | q <;> omega
  have nch : ∀ c, c < N + 1 → upd x_nodeParent N x3 c ≠ nI N := by
    intro c hc' e
    by_cases z : c = N
    · subst z
      rw [pk_us] at e
      rcases hp with h | ⟨d', n, j, h⟩ | ⟨d', n, j, M, h⟩
      · rw [h.2.2.1] at e; exact hh_m1' (by omega) e
      · rw [h.2.2.2.2.1] at e; have := hh_i (by omega) (by omega) e; have := h.2.1; omega
      · rw [h.2.2.2.2.1] at e; have := hh_i (by omega) (by omega) e; have := h.2.1; omega
    · rw [pk_un z] at e
      obtain ⟨k', s', b', -, -, -, -, -, -, h7, -⟩ := hA.2.1 c (by omega)
      rcases h7 with ⟨-, h, -⟩ | ⟨p', j, h1, h2, h3, -⟩
      · rw [h] at e; exact hh_m1' (by omega) e
      · rw [h3] at e
        have := hh_i (by omega) (by omega) e
        omega
  refine ⟨⟨pe_s e1, hVF, pe_s e3, pe_s e4, pe_s e5, pe_s e6⟩, nd_add hA hN40 hop hp hdp hK hw hbL (fun _ => hd5) (fun z => ?_) (fun z => ?_) (fun z => ?_) (fun z => ?_), by omega, fun l hl => ?_, cm_s hcm, bg_s hbg (by omega) hpb (by omega : b < b + 1) (by omega) eb, ?_⟩
  · rcases hc with q | q | q <;> omega
  · rcases hc with q | q | q <;> omega
  · rcases hc with q | q | q
    · exact ⟨q.2.1, q.2.2.1⟩
    · omega
    · omega
  · rcases hc with q | q | q
    · omega
    · exact Or.inl q.2.1
    · refine Or.inr ⟨q.2.1, by omega, ?_, ?_⟩
      · show upd x_openNode d (nI N) (d + 1 - 1) = nI N
        exact pk_us
      · show upd x_openSlot d os (d + 1 - 1) = -1
        exact (pk_us (f := x_openSlot) (k := d)).trans q.2.2.2.1
  · by_cases z : l = d
    · subst z
      refine ⟨N, w, by omega, hw, pk_us, pk_us, ?_, by rw [pk_us, pk_us], pk_us, ?_⟩
      · show (if N = N then l else dp N) = l
        rw [if_pos rfl]
      · rw [pk_us, pk_us, pk_us, pk_us, pk_us, pk_us, pk_us]
        rcases hc with q | q | q
        · exact Or.inl ⟨q.2.2.2.1, by rw [q.1]; rfl, q.2.1, q.2.2.2.2.1, by rw [q.2.2.1]; rfl⟩
        · have ho2 : om2 = upd x_openNames l om := by
            rcases hom2 with h | h
            · omega
            · exact h.2
          refine Or.inr ⟨q.2.2.1, by rw [q.1]; rfl, by rw [ho2, pk_us], ⟨0, by omega, by rw [ho2, pk_us]; exact q.2.2.2.2.1, fun c hc' e => absurd e (nch c hc')⟩, Or.inl ⟨q.2.1, q.2.2.2.1, q.2.2.2.2.2.1, pk_us⟩⟩
        · have ho2 : om2 = upd x_openNames l om := by
            rcases hom2 with h | h
            · omega
            · exact h.2
          obtain ⟨j, hj, ej⟩ := q.2.2.2.2.1
          refine Or.inr ⟨q.2.2.1, by rw [q.1]; rfl, by rw [ho2, pk_us], ⟨2 ^ j, (bt_1 j hj).2, by rw [ho2, pk_us]; exact ej, fun c hc' e => absurd e (nch c hc')⟩, Or.inr (Or.inl ⟨q.2.1, q.2.2.2.2.2.1, q.2.2.2.1, pk_us, rfl⟩)⟩
    · have hld : l < d := by omega
      have base := lv_add (K := K) (s := w) (v := v) hN40 (hlv l hld) hld hp hdp
      have nos : ¬ x_openSlot l = -1 := by
        by_cases y : l + 1 = d
        · subst y; exact hnt (by omega)
        · exact lv_ne (hlv l hld) y
      have om2l : om2 l = x_openNames l := by
        rcases hom2 with h | h
        · exact h.2 l hld
        · rw [h.2, pk_un z]
      refine lv_c (lv_up base nos (d + 1)) (pk_un (by omega)) (pk_un z) (pk_un z) om2l (pk_un z) (pk_un z) (pk_un z) (pk_un z) (pk_un z)
  · rcases hc with q | q | q
    · exact Or.inr (Or.inr (Or.inr (Or.inr (Or.inl ⟨q.2.2.2.2.2, by omega, pk_us.trans q.2.2.2.1, rfl⟩))))
    · refine Or.inr (Or.inr (Or.inr (Or.inr (Or.inr (Or.inl ⟨q.2.2.2.2.2.2, by omega, pk_us.trans q.2.2.1, rfl, rfl, fun z => ?_⟩)))))
      have z' : upd x_openSlot d os d = -1 := z
      rw [pk_us, q.2.2.2.1] at z'
      exact absurd z' (hh_m1 (by omega))
    · refine Or.inr (Or.inr (Or.inr (Or.inr (Or.inr (Or.inl ⟨q.2.2.2.2.2.2, by omega, pk_us.trans q.2.2.1, rfl, rfl, fun _ => ⟨N, k, b, ?_, hN40, rfl, eb, pk_us⟩⟩)))))
      show upd x_openNode d (nI N) d = nI N
      exact pk_us
end
end
section
/-! the bind: n, t and f; lists and records begin -/
section
variable {x_bound x_at x_tokenStart x_textCount x_escaped x_valueSlot x_valueName x_outputLength : Int32} {x_text x_typeKind x_typeDetail x_typeLeast x_typeMost x_fieldCount x_fieldName x_fieldType x_fieldNeeded x_tagType x_nodeKind x_nodeValue x_nodeParent x_nodeName x_nodeSlot x_nodeStart x_nodeTag x_completeCount x_openNode x_openSlot x_openNames x_openNext x_openComma x_output : Nat → Int32} {y_bad y_nextName y_wantsName y_wantsTag y_waiting y_scaled : Int32} {y_typeA y_typeB y_typeC y_fields y_tags y_begin y_end y_inside y_whole y_kind y_value y_parent y_name y_slotOf y_placeOf y_complete y_openNode y_openType y_openCount y_openNames y_openChoice y_todo : Nat → Int32} {L P k p x d N : Nat} {g : Nat → Int32} {dp : Nat → Nat} {slot : Int32}
theorem st_lit (hT : rl_T L x_text x_typeKind x_typeDetail x_typeLeast x_typeMost x_fieldCount x_fieldName x_fieldType x_fieldNeeded x_tagType y_typeA y_typeB y_typeC y_fields y_tags) (F : br_F slot L k p x d N g x_text x_typeKind x_fieldCount x_fieldName x_fieldType y_begin y_end x_nodeKind x_nodeValue x_nodeParent x_nodeName x_nodeSlot x_nodeStart x_nodeTag x_completeCount x_openNode x_openSlot x_openNames x_valueSlot x_valueName dp y_kind y_value y_parent y_name y_slotOf y_placeOf y_complete y_openNode y_openType y_openCount y_openNames y_openChoice y_nextName y_wantsName y_wantsTag) (hx01 : x < 2) (hnt : 0 < d → ¬ x_openSlot (d - 1) = -1) (hslot : ∃ a, a < 12 ∧ slot = nI a) (hk : k < P) (hP : P ≤ 96) {b : Nat} (hb : sp_S x_text p b) (hbL : b < L) (hpL : p ≤ L) (eb : y_begin k = nI b) (hc : x_text b = 27 ∨ x_text b = 28 ∨ x_text b = 29)
    (H : ∀ {qN : Nat} {qdp : Nat → Nat} {qs1 qs2 qs3 qs4 qs5 qs6 qw1 qw2 qw3 qw4 : Int32} {qf1 qf2 qf3 qf4 qf5 qf6 qf7 qf8 qf9 qf10 qf11 qh1 qh2 qh3 qh4 qh5 qh6 qh7 qh8 qh9 qh10 qh11 qh12 : Nat → Int32}, br_F slot L (k + 1) (b + 1) 5 d qN g x_text x_typeKind x_fieldCount x_fieldName x_fieldType y_begin y_end qf1 qf2 qf3 qf4 qf5 qf6 qf7 qf8 qf9 qf10 qf11 qs5 qs6 qdp qh1 qh2 qh3 qh4 qh5 qh6 qh7 qh8 qh9 qh10 qh11 qh12 qw1 qw2 qw3 → bo_O slot (b + 1) (k + 1) (nI L, nI qN, x_bound, 0, -1, md_x (5), qs1, qs2, qs3, qs4, qs5, qs6, nI (d), x_outputLength, x_text, x_typeKind, x_typeDetail, x_typeLeast, x_typeMost, x_fieldCount, x_fieldName, x_fieldType, x_fieldNeeded, x_tagType, qf1, qf2, qf3, qf4, qf5, qf6, qf7, qf8, qf9, qf10, qf11, x_openNext, x_openComma, x_output) (nI L, nI P, y_bad, nI qN, 0, -1, 0, nI (d), qw1, qw2, qw3, x_outputLength, y_waiting, qw4, x_typeKind, y_typeA, y_typeB, y_typeC, x_fieldName, x_fieldType, y_fields, y_tags, x_fieldNeeded, x_text, y_begin, y_end, y_inside, y_whole, qh1, qh2, qh3, qh4, qh5, qh6, qh7, qh8, qh9, qh10, qh11, qh12, x_output, y_todo)) : bo_O slot p k (nI L, nI N, x_bound, 0, -1, md_x x, x_at, x_tokenStart, x_textCount, x_escaped, x_valueSlot, x_valueName, nI d, x_outputLength, x_text, x_typeKind, x_typeDetail, x_typeLeast, x_typeMost, x_fieldCount, x_fieldName, x_fieldType, x_fieldNeeded, x_tagType, x_nodeKind, x_nodeValue, x_nodeParent, x_nodeName, x_nodeSlot, x_nodeStart, x_nodeTag, x_completeCount, x_openNode, x_openSlot, x_openNames, x_openNext, x_openComma, x_output) (nI L, nI P, y_bad, nI N, 0, -1, 0, nI d, y_nextName, y_wantsName, y_wantsTag, x_outputLength, y_waiting, y_scaled, x_typeKind, y_typeA, y_typeB, y_typeC, x_fieldName, x_fieldType, y_fields, y_tags, x_fieldNeeded, x_text, y_begin, y_end, y_inside, y_whole, y_kind, y_value, y_parent, y_name, y_slotOf, y_placeOf, y_complete, y_openNode, y_openType, y_openCount, y_openNames, y_openChoice, x_output, y_todo) := by
  have hL := hT.1
  have hV : sp_V (x_text b) := Or.inr (Or.inr (Or.inr (Or.inr (Or.inr hc))))
  refine st_val hT F hx01 hnt hslot hk hP hb hbL eb hV (fun a w K x3 x4 x9 x10 x11 oc1 vl1 hI hK hp hg hD hR hdeep hN wt0 X2 Y2 => ?_)
  have nB : ¬ sp_B (x_text b) := by
    rcases hc with e | e | e <;> rw [e]
    all_goals
      rintro (q | q)
      · exact absurd q.2 (by decide)
      · exact absurd q (by decide)
  have n16 : ¬ x_text b = 16 := by rcases hc with e | e | e <;> rw [e] <;> decide
  have n1012 : ¬ (x_text b = 10 ∨ x_text b = 12) := by rcases hc with e | e | e <;> rw [e] <;> decide
  have K25 : (K = 2 ∧ (x_text b = 28 ∨ x_text b = 29)) ∨ (K = 5 ∧ x_text b = 27) := by
    rcases hR with q | q | q | q | q | q | q
    · exact absurd q.2.1 nB
    · exact absurd q.2.1 n16
    · exact Or.inl ⟨q.1, q.2.1⟩
    · exact absurd (Or.inr q.2.1) n1012
    · exact absurd (Or.inl q.2.1) n1012
    · exact Or.inr ⟨q.1, q.2.1⟩
    · exact absurd q.2.1 nB
  have x0 : x11 = 0 := by
    rcases hg.2.2 with q | q
    · exact absurd q.2 nB
    · exact q.1
  obtain ⟨v, hv⟩ : ∃ v : Int32, v = (if x_text b = 28 then 1 else 0) := ⟨_, rfl⟩
  have hv0 : v0_F (x_typeKind w) (x_text b) (y_complete w) = v := by
    unfold v0_F
    rw [if_neg (fun z => n1012 (Or.inl z.2)), hv]
  obtain ⟨VF, pe, fin⟩ := yv_fin (K := K) (v := v) hN hp F.1.1 F.1.2.1
  have hx : bx_R p (nI L, nI N, x_bound, 0, -1, md_x x, x_at, x_tokenStart, x_textCount, x_escaped, x_valueSlot, x_valueName, nI d, x_outputLength, x_text, x_typeKind, x_typeDetail, x_typeLeast, x_typeMost, x_fieldCount, x_fieldName, x_fieldType, x_fieldNeeded, x_tagType, x_nodeKind, x_nodeValue, x_nodeParent, x_nodeName, x_nodeSlot, x_nodeStart, x_nodeTag, x_completeCount, x_openNode, x_openSlot, x_openNames, x_openNext, x_openComma, x_output) (b + 1) (nI L, nI (N + 1), x_bound, 0, -1, md_x 5, nI b, x_tokenStart, x_textCount, x_escaped, nI a, x4, nI d, x_outputLength, x_text, x_typeKind, x_typeDetail, x_typeLeast, x_typeMost, x_fieldCount, x_fieldName, x_fieldType, x_fieldNeeded, x_tagType, upd x_nodeKind N (nI K), upd vl1 N v, upd x_nodeParent N x3, upd x_nodeName N x4, upd x_nodeSlot N (nI w), upd x_nodeStart N (nI b), upd x_nodeTag N (-1), x_completeCount, x_openNode, x_openSlot, x_openNames, x_openNext, x_openComma, x_output) := by
    refine X2 _ (fun R r => ?_)
    rcases K25 with ⟨rfl, e⟩ | ⟨rfl, e⟩
    · refine ev_flag hN e ?_
      rw [up_up, ← hv]; exact r
    · have v0 : v = 0 := by rw [hv, e]; decide
      rw [v0] at r
      exact ev_none r
  have hy : by_R slot k (nI L, nI P, y_bad, nI N, 0, -1, 0, nI d, y_nextName, y_wantsName, y_wantsTag, x_outputLength, y_waiting, y_scaled, x_typeKind, y_typeA, y_typeB, y_typeC, x_fieldName, x_fieldType, y_fields, y_tags, x_fieldNeeded, x_text, y_begin, y_end, y_inside, y_whole, y_kind, y_value, y_parent, y_name, y_slotOf, y_placeOf, y_complete, y_openNode, y_openType, y_openCount, y_openNames, y_openChoice, x_output, y_todo) (k + 1) (nI L, nI P, y_bad, nI (N + 1), 0, -1, 0, nI d, y_nextName, y_wantsName, y_wantsTag, x_outputLength, y_waiting, y_scaled, x_typeKind, y_typeA, y_typeB, y_typeC, x_fieldName, x_fieldType, y_fields, y_tags, x_fieldNeeded, x_text, y_begin, y_end, y_inside, y_whole, upd y_kind N (nI K), VF, upd y_parent N x3, upd y_name N x4, upd y_slotOf N (nI w), upd y_placeOf N (nI b), y_complete, y_openNode, y_openType, oc1, y_openNames, y_openChoice, x_output, y_todo) := by
    refine Y2 _ (fun R r => yv_359 hN hI.2.1 hg hD hR ⟨fun _ => ⟨fun z => absurd z n16, fun _ => ⟨fun z => absurd z n1012, fun _ => ?_⟩⟩, fun z => absurd x0 z⟩)
    rw [hv0]; exact fin R r
  exact bo_step hx hy (H (bf_lit F hnt hN hI.2.1 hbL hL hpL hb.1 (by omega) (by omega) eb hp pe hK (by rcases K25 with q | q <;> omega) (by rcases K25 with q | q <;> omega) (fun z => by rcases K25 with q | q <;> omega) (fun z => by rcases K25 with q | q <;> omega) wt0))
theorem st_open (hT : rl_T L x_text x_typeKind x_typeDetail x_typeLeast x_typeMost x_fieldCount x_fieldName x_fieldType x_fieldNeeded x_tagType y_typeA y_typeB y_typeC y_fields y_tags) (F : br_F slot L k p x d N g x_text x_typeKind x_fieldCount x_fieldName x_fieldType y_begin y_end x_nodeKind x_nodeValue x_nodeParent x_nodeName x_nodeSlot x_nodeStart x_nodeTag x_completeCount x_openNode x_openSlot x_openNames x_valueSlot x_valueName dp y_kind y_value y_parent y_name y_slotOf y_placeOf y_complete y_openNode y_openType y_openCount y_openNames y_openChoice y_nextName y_wantsName y_wantsTag) (hx01 : x < 2) (hnt : 0 < d → ¬ x_openSlot (d - 1) = -1) (hslot : ∃ a, a < 12 ∧ slot = nI a) (hk : k < P) (hP : P ≤ 96) {b : Nat} (hb : sp_S x_text p b) (hbL : b < L) (hpL : p ≤ L) (eb : y_begin k = nI b)
    (H3 : x_text b = 12 → ∀ {qN : Nat} {qdp : Nat → Nat} {qs1 qs2 qs3 qs4 qs5 qs6 qw1 qw2 qw3 qw4 : Int32} {qf1 qf2 qf3 qf4 qf5 qf6 qf7 qf8 qf9 qf10 qf11 qh1 qh2 qh3 qh4 qh5 qh6 qh7 qh8 qh9 qh10 qh11 qh12 : Nat → Int32}, br_F slot L (k + 1) (b + 1) 1 (d + 1) qN (upd g (d + 1) 12) x_text x_typeKind x_fieldCount x_fieldName x_fieldType y_begin y_end qf1 qf2 qf3 qf4 qf5 qf6 qf7 qf8 qf9 qf10 qf11 qs5 qs6 qdp qh1 qh2 qh3 qh4 qh5 qh6 qh7 qh8 qh9 qh10 qh11 qh12 qw1 qw2 qw3 → bo_O slot (b + 1) (k + 1) (nI L, nI qN, x_bound, 0, -1, md_x (1), qs1, qs2, qs3, qs4, qs5, qs6, nI (d + 1), x_outputLength, x_text, x_typeKind, x_typeDetail, x_typeLeast, x_typeMost, x_fieldCount, x_fieldName, x_fieldType, x_fieldNeeded, x_tagType, qf1, qf2, qf3, qf4, qf5, qf6, qf7, qf8, qf9, qf10, qf11, x_openNext, x_openComma, x_output) (nI L, nI P, y_bad, nI qN, 0, -1, 0, nI (d + 1), qw1, qw2, qw3, x_outputLength, y_waiting, qw4, x_typeKind, y_typeA, y_typeB, y_typeC, x_fieldName, x_fieldType, y_fields, y_tags, x_fieldNeeded, x_text, y_begin, y_end, y_inside, y_whole, qh1, qh2, qh3, qh4, qh5, qh6, qh7, qh8, qh9, qh10, qh11, qh12, x_output, y_todo)) (H4 : x_text b = 10 → ∀ {qN : Nat} {qdp : Nat → Nat} {qs1 qs2 qs3 qs4 qs5 qs6 qw1 qw2 qw3 qw4 : Int32} {qf1 qf2 qf3 qf4 qf5 qf6 qf7 qf8 qf9 qf10 qf11 qh1 qh2 qh3 qh4 qh5 qh6 qh7 qh8 qh9 qh10 qh11 qh12 : Nat → Int32}, br_F slot L (k + 1) (b + 1) 2 (d + 1) qN (upd g (d + 1) 10) x_text x_typeKind x_fieldCount x_fieldName x_fieldType y_begin y_end qf1 qf2 qf3 qf4 qf5 qf6 qf7 qf8 qf9 qf10 qf11 qs5 qs6 qdp qh1 qh2 qh3 qh4 qh5 qh6 qh7 qh8 qh9 qh10 qh11 qh12 qw1 qw2 qw3 → bo_O slot (b + 1) (k + 1) (nI L, nI qN, x_bound, 0, -1, md_x (2), qs1, qs2, qs3, qs4, qs5, qs6, nI (d + 1), x_outputLength, x_text, x_typeKind, x_typeDetail, x_typeLeast, x_typeMost, x_fieldCount, x_fieldName, x_fieldType, x_fieldNeeded, x_tagType, qf1, qf2, qf3, qf4, qf5, qf6, qf7, qf8, qf9, qf10, qf11, x_openNext, x_openComma, x_output) (nI L, nI P, y_bad, nI qN, 0, -1, 0, nI (d + 1), qw1, qw2, qw3, x_outputLength, y_waiting, qw4, x_typeKind, y_typeA, y_typeB, y_typeC, x_fieldName, x_fieldType, y_fields, y_tags, x_fieldNeeded, x_text, y_begin, y_end, y_inside, y_whole, qh1, qh2, qh3, qh4, qh5, qh6, qh7, qh8, qh9, qh10, qh11, qh12, x_output, y_todo)) (hc : x_text b = 10 ∨ x_text b = 12) : bo_O slot p k (nI L, nI N, x_bound, 0, -1, md_x x, x_at, x_tokenStart, x_textCount, x_escaped, x_valueSlot, x_valueName, nI d, x_outputLength, x_text, x_typeKind, x_typeDetail, x_typeLeast, x_typeMost, x_fieldCount, x_fieldName, x_fieldType, x_fieldNeeded, x_tagType, x_nodeKind, x_nodeValue, x_nodeParent, x_nodeName, x_nodeSlot, x_nodeStart, x_nodeTag, x_completeCount, x_openNode, x_openSlot, x_openNames, x_openNext, x_openComma, x_output) (nI L, nI P, y_bad, nI N, 0, -1, 0, nI d, y_nextName, y_wantsName, y_wantsTag, x_outputLength, y_waiting, y_scaled, x_typeKind, y_typeA, y_typeB, y_typeC, x_fieldName, x_fieldType, y_fields, y_tags, x_fieldNeeded, x_text, y_begin, y_end, y_inside, y_whole, y_kind, y_value, y_parent, y_name, y_slotOf, y_placeOf, y_complete, y_openNode, y_openType, y_openCount, y_openNames, y_openChoice, x_output, y_todo) := by
  have hL := hT.1
  have hV : sp_V (x_text b) := by
    rcases hc with e | e
    · exact Or.inr (Or.inl e)
    · exact Or.inr (Or.inr (Or.inl e))
  refine st_val hT F hx01 hnt hslot hk hP hb hbL eb hV (fun a w K x3 x4 x9 x10 x11 oc1 vl1 hI hK hp hg hD hR hdeep hN wt0 X2 Y2 => ?_)
  have nB : ¬ sp_B (x_text b) := by
    rcases hc with e | e <;> rw [e]
    all_goals
      rintro (q | q)
      · exact absurd q.2 (by decide)
      · exact absurd q (by decide)
  have n16 : ¬ x_text b = 16 := by rcases hc with e | e <;> rw [e] <;> decide
  have n28 : ¬ x_text b = 28 := by rcases hc with e | e <;> rw [e] <;> decide
  have K34 : K = 3 ∨ K = 4 := (kc_c hR).mp hc
  have hd6 := F.2.2.1
  have hd5 : d ≤ 5 := by omega
  have x0 : x11 = 0 := by
    rcases hg.2.2 with q | q
    · exact absurd q.2 nB
    · exact q.1
  have hw := hI.2.1
  have cmw := F.2.2.2.2.1 w hw
  obtain ⟨v, hv⟩ : ∃ v : Int32, v = v0_F (x_typeKind w) (x_text b) (y_complete w) := ⟨_, rfl⟩
  obtain ⟨VF, pe, fin⟩ := yv_fin (K := K) (v := v) hN hp F.1.1 F.1.2.1
  have sl1 : upd x_nodeSlot N (nI w) N = nI w := pk_us
  rcases K34 with rfl | rfl
  · have cs : x_text b = 12 ∧ x_typeKind w = 4 := by
      rcases hR with q | q | q | q | q | q | q
      all_goals first | exact q.2 | (have := q.1; omega)
    have v0 : v = nI 0 := by
      rw [hv]; unfold v0_F
      rw [if_neg (fun z => by rw [cs.2] at z; exact absurd z.1 (by decide)), if_neg n28]; rfl
    have n6 : ¬ x_typeKind w = 6 := by rw [cs.2]; decide
    have hx : bx_R p (nI L, nI N, x_bound, 0, -1, md_x x, x_at, x_tokenStart, x_textCount, x_escaped, x_valueSlot, x_valueName, nI d, x_outputLength, x_text, x_typeKind, x_typeDetail, x_typeLeast, x_typeMost, x_fieldCount, x_fieldName, x_fieldType, x_fieldNeeded, x_tagType, x_nodeKind, x_nodeValue, x_nodeParent, x_nodeName, x_nodeSlot, x_nodeStart, x_nodeTag, x_completeCount, x_openNode, x_openSlot, x_openNames, x_openNext, x_openComma, x_output) (b + 1) (nI L, nI (N + 1), x_bound, 0, -1, md_x 1, nI b, x_tokenStart, x_textCount, x_escaped, nI a, x4, nI (d + 1), x_outputLength, x_text, x_typeKind, x_typeDetail, x_typeLeast, x_typeMost, x_fieldCount, x_fieldName, x_fieldType, x_fieldNeeded, x_tagType, upd x_nodeKind N (nI 3), upd vl1 N v, upd x_nodeParent N x3, upd x_nodeName N x4, upd x_nodeSlot N (nI w), upd x_nodeStart N (nI b), upd x_nodeTag N (-1), x_completeCount, upd x_openNode d (nI N), upd x_openSlot d (nI w), x_openNames, x_openNext, x_openComma, x_output) := by
      refine X2 _ (fun R r => ev_list hN (by omega) ?_)
      rw [sl1]
      rw [v0] at r; exact r
    have hy : by_R slot k (nI L, nI P, y_bad, nI N, 0, -1, 0, nI d, y_nextName, y_wantsName, y_wantsTag, x_outputLength, y_waiting, y_scaled, x_typeKind, y_typeA, y_typeB, y_typeC, x_fieldName, x_fieldType, y_fields, y_tags, x_fieldNeeded, x_text, y_begin, y_end, y_inside, y_whole, y_kind, y_value, y_parent, y_name, y_slotOf, y_placeOf, y_complete, y_openNode, y_openType, y_openCount, y_openNames, y_openChoice, x_output, y_todo) (k + 1) (nI L, nI P, y_bad, nI (N + 1), 0, -1, 0, nI (d + 1), y_nextName, 1, 0, x_outputLength, y_waiting, y_scaled, x_typeKind, y_typeA, y_typeB, y_typeC, x_fieldName, x_fieldType, y_fields, y_tags, x_fieldNeeded, x_text, y_begin, y_end, y_inside, y_whole, upd y_kind N (nI 3), VF, upd y_parent N x3, upd y_name N x4, upd y_slotOf N (nI w), upd y_placeOf N (nI b), y_complete, upd y_openNode d (nI N), upd y_openType d (nI w), upd oc1 d 0, upd y_openNames d 0, upd y_openChoice d (-1), x_output, y_todo) := by
      refine Y2 _ (fun R r => yv_359 hN hI.2.1 hg hD hR ⟨fun _ => ⟨fun z => absurd z n16, fun _ => ⟨fun _ => yo_open (by omega) hw (fun z => absurd z n6) (fun _ => ?_), fun z => absurd hc z⟩⟩, fun z => absurd x0 z⟩)
      rw [← hv]; exact fin R r
    exact bo_step hx hy (H3 cs.1 (bf_open F hnt hN hw hbL hL hpL hb.1 eb hp pe hd5 (Or.inl ⟨rfl, cs.2, v0, rfl, rfl, rfl⟩) (fun _ => trivial) (Or.inl ⟨rfl, fun _ _ => rfl⟩)))
  · have cs : x_text b = 10 ∧ (x_typeKind w = 5 ∨ x_typeKind w = 6) := by
      rcases hR with q | q | q | q | q | q | q
      all_goals first | exact q.2 | (have := q.1; omega)
    have vcc : v = x_completeCount w := by
      rw [hv]; unfold v0_F
      rcases cs.2 with s5 | s6
      · rw [if_pos ⟨s5, cs.1⟩]; exact cmw.1
      · rw [if_neg (fun z => by rw [s6] at z; exact absurd z.1 (by decide)), if_neg n28]
        exact (cmw.2.2 (by rw [s6]; decide)).symm
    rcases cs.2 with s5 | s6
    · have n6 : ¬ x_typeKind w = 6 := by rw [s5]; decide
      have hx : bx_R p (nI L, nI N, x_bound, 0, -1, md_x x, x_at, x_tokenStart, x_textCount, x_escaped, x_valueSlot, x_valueName, nI d, x_outputLength, x_text, x_typeKind, x_typeDetail, x_typeLeast, x_typeMost, x_fieldCount, x_fieldName, x_fieldType, x_fieldNeeded, x_tagType, x_nodeKind, x_nodeValue, x_nodeParent, x_nodeName, x_nodeSlot, x_nodeStart, x_nodeTag, x_completeCount, x_openNode, x_openSlot, x_openNames, x_openNext, x_openComma, x_output) (b + 1) (nI L, nI (N + 1), x_bound, 0, -1, md_x 2, nI b, x_tokenStart, x_textCount, x_escaped, nI a, x4, nI (d + 1), x_outputLength, x_text, x_typeKind, x_typeDetail, x_typeLeast, x_typeMost, x_fieldCount, x_fieldName, x_fieldType, x_fieldNeeded, x_tagType, upd x_nodeKind N (nI 4), upd vl1 N v, upd x_nodeParent N x3, upd x_nodeName N x4, upd x_nodeSlot N (nI w), upd x_nodeStart N (nI b), upd x_nodeTag N (-1), x_completeCount, upd x_openNode d (nI N), upd x_openSlot d (nI w), upd x_openNames d 0, x_openNext, x_openComma, x_output) := by
        refine X2 _ (fun R r => ev_rec hN (by omega) hw sl1 (Or.inr ⟨n6, rfl, rfl⟩) ?_)
        rw [up_up, ← vcc]; exact r
      have hy : by_R slot k (nI L, nI P, y_bad, nI N, 0, -1, 0, nI d, y_nextName, y_wantsName, y_wantsTag, x_outputLength, y_waiting, y_scaled, x_typeKind, y_typeA, y_typeB, y_typeC, x_fieldName, x_fieldType, y_fields, y_tags, x_fieldNeeded, x_text, y_begin, y_end, y_inside, y_whole, y_kind, y_value, y_parent, y_name, y_slotOf, y_placeOf, y_complete, y_openNode, y_openType, y_openCount, y_openNames, y_openChoice, x_output, y_todo) (k + 1) (nI L, nI P, y_bad, nI (N + 1), 0, -1, 0, nI (d + 1), y_nextName, 1, 0, x_outputLength, y_waiting, y_scaled, x_typeKind, y_typeA, y_typeB, y_typeC, x_fieldName, x_fieldType, y_fields, y_tags, x_fieldNeeded, x_text, y_begin, y_end, y_inside, y_whole, upd y_kind N (nI 4), VF, upd y_parent N x3, upd y_name N x4, upd y_slotOf N (nI w), upd y_placeOf N (nI b), y_complete, upd y_openNode d (nI N), upd y_openType d (nI w), upd oc1 d 0, upd y_openNames d 0, upd y_openChoice d (-1), x_output, y_todo) := by
        refine Y2 _ (fun R r => yv_359 hN hI.2.1 hg hD hR ⟨fun _ => ⟨fun z => absurd z n16, fun _ => ⟨fun _ => yo_open (by omega) hw (fun z => absurd z n6) (fun _ => ?_), fun z => absurd hc z⟩⟩, fun z => absurd x0 z⟩)
        rw [← hv]; exact fin R r
      exact bo_step hx hy (H4 cs.1 (bf_open F hnt hN hw hbL hL hpL hb.1 eb hp pe hd5 (Or.inr (Or.inl ⟨rfl, s5, rfl, rfl, rfl, rfl, rfl⟩)) (fun _ => trivial) (Or.inr ⟨rfl, rfl⟩)))
    · obtain ⟨tA, ⟨j, hj, ej⟩, -⟩ := (hT.2.2 w hw).2.2.2.2.2.1 s6
      have omj : (1 : Int32) <<< (x_typeDetail w &&& 31) = nI (2 ^ j) := by rw [ej]; exact (bt_1 j hj).1
      have hx : bx_R p (nI L, nI N, x_bound, 0, -1, md_x x, x_at, x_tokenStart, x_textCount, x_escaped, x_valueSlot, x_valueName, nI d, x_outputLength, x_text, x_typeKind, x_typeDetail, x_typeLeast, x_typeMost, x_fieldCount, x_fieldName, x_fieldType, x_fieldNeeded, x_tagType, x_nodeKind, x_nodeValue, x_nodeParent, x_nodeName, x_nodeSlot, x_nodeStart, x_nodeTag, x_completeCount, x_openNode, x_openSlot, x_openNames, x_openNext, x_openComma, x_output) (b + 1) (nI L, nI (N + 1), x_bound, 0, -1, md_x 2, nI b, x_tokenStart, x_textCount, x_escaped, nI a, x4, nI (d + 1), x_outputLength, x_text, x_typeKind, x_typeDetail, x_typeLeast, x_typeMost, x_fieldCount, x_fieldName, x_fieldType, x_fieldNeeded, x_tagType, upd x_nodeKind N (nI 4), upd vl1 N v, upd x_nodeParent N x3, upd x_nodeName N x4, upd x_nodeSlot N (nI w), upd x_nodeStart N (nI b), upd x_nodeTag N (-1), x_completeCount, upd x_openNode d (nI N), upd x_openSlot d (-1), upd x_openNames d (nI (2 ^ j)), x_openNext, x_openComma, x_output) := by
        refine X2 _ (fun R r => ev_rec hN (by omega) hw sl1 (Or.inl ⟨s6, rfl, rfl⟩) ?_)
        rw [up_up, ← vcc, omj]; exact r
      have hy : by_R slot k (nI L, nI P, y_bad, nI N, 0, -1, 0, nI d, y_nextName, y_wantsName, y_wantsTag, x_outputLength, y_waiting, y_scaled, x_typeKind, y_typeA, y_typeB, y_typeC, x_fieldName, x_fieldType, y_fields, y_tags, x_fieldNeeded, x_text, y_begin, y_end, y_inside, y_whole, y_kind, y_value, y_parent, y_name, y_slotOf, y_placeOf, y_complete, y_openNode, y_openType, y_openCount, y_openNames, y_openChoice, x_output, y_todo) (k + 1) (nI L, nI P, y_bad, nI (N + 1), 0, -1, 0, nI (d + 1), y_nextName, 1, 0, x_outputLength, y_waiting, y_scaled, x_typeKind, y_typeA, y_typeB, y_typeC, x_fieldName, x_fieldType, y_fields, y_tags, x_fieldNeeded, x_text, y_begin, y_end, y_inside, y_whole, upd y_kind N (nI 4), VF, upd y_parent N x3, upd y_name N x4, upd y_slotOf N (nI w), upd y_placeOf N (nI b), y_complete, upd y_openNode d (nI N), upd y_openType d (-1), upd oc1 d 0, upd y_openNames d (nI (2 ^ j)), upd y_openChoice d (nI w), x_output, y_todo) := by
        refine Y2 _ (fun R r => yv_359 hN hI.2.1 hg hD hR ⟨fun _ => ⟨fun z => absurd z n16, fun _ => ⟨fun _ => yo_open (by omega) hw (fun _ => ?_) (fun z => absurd s6 z), fun z => absurd hc z⟩⟩, fun z => absurd x0 z⟩)
        rw [← hv, tA, omj]; exact fin R r
      exact bo_step hx hy (H4 cs.1 (bf_open F hnt hN hw hbL hL hpL hb.1 eb hp pe hd5 (Or.inr (Or.inr ⟨rfl, s6, rfl, rfl, ⟨j, hj, rfl⟩, rfl, rfl⟩)) (fun _ => trivial) (Or.inr ⟨rfl, rfl⟩)))
end
end
section
/-! the bind: numbers as values -/
section
variable {x_bound x_at x_tokenStart x_textCount x_escaped x_valueSlot x_valueName x_outputLength : Int32} {x_text x_typeKind x_typeDetail x_typeLeast x_typeMost x_fieldCount x_fieldName x_fieldType x_fieldNeeded x_tagType x_nodeKind x_nodeValue x_nodeParent x_nodeName x_nodeSlot x_nodeStart x_nodeTag x_completeCount x_openNode x_openSlot x_openNames x_openNext x_openComma x_output : Nat → Int32} {y_bad y_nextName y_wantsName y_wantsTag y_waiting y_scaled : Int32} {y_typeA y_typeB y_typeC y_fields y_tags y_begin y_end y_inside y_whole y_kind y_value y_parent y_name y_slotOf y_placeOf y_complete y_openNode y_openType y_openCount y_openNames y_openChoice y_todo : Nat → Int32} {L P k p x d N : Nat} {g : Nat → Int32} {dp : Nat → Nat} {slot : Int32}
theorem kn_K {qa S c : Int32} {K : Nat} (hB : sp_B c) (h : kc_R qa S c K) : (K = 0 ∧ S = 1 ∧ ¬ qa = 8) ∨ (K = 6 ∧ qa = 8) := by
  have no : ∀ e : Nat, 9 < e → e < 1000 → ¬ e = 17 → ¬ c = nI e := by
    intro e h1 h2 h3 z
    rcases hB with q | q
    · exact hh_9 q.2 h1 h2 z
    · rw [q] at z
      exact h3 (hh_i (by omega) (by decide) (m := 17) z.symm)
  rcases h with q | q | q | q | q | q | q
  · exact Or.inl ⟨q.1, q.2.2⟩
  · exact absurd q.2.1 (no 16 (by decide) (by decide) (by decide))
  · exact absurd q.2.1 (fun z => z.elim (no 28 (by decide) (by decide) (by decide)) (no 29 (by decide) (by decide) (by decide)))
  · exact absurd q.2.1 (no 12 (by decide) (by decide) (by decide))
  · exact absurd q.2.1 (no 10 (by decide) (by decide) (by decide))
  · exact absurd q.2.1 (no 27 (by decide) (by decide) (by decide))
  · exact Or.inr ⟨q.1, q.2.2⟩
theorem st_num (hT : rl_T L x_text x_typeKind x_typeDetail x_typeLeast x_typeMost x_fieldCount x_fieldName x_fieldType x_fieldNeeded x_tagType y_typeA y_typeB y_typeC y_fields y_tags) (F : br_F slot L k p x d N g x_text x_typeKind x_fieldCount x_fieldName x_fieldType y_begin y_end x_nodeKind x_nodeValue x_nodeParent x_nodeName x_nodeSlot x_nodeStart x_nodeTag x_completeCount x_openNode x_openSlot x_openNames x_valueSlot x_valueName dp y_kind y_value y_parent y_name y_slotOf y_placeOf y_complete y_openNode y_openType y_openCount y_openNames y_openChoice y_nextName y_wantsName y_wantsTag) (hx01 : x < 2) (hnt : 0 < d → ¬ x_openSlot (d - 1) = -1) (hslot : ∃ a, a < 12 ∧ slot = nI a) (hk : k < P) (hP : P ≤ 96) {b q : Nat} (hb : sp_S x_text p b) (hbL : b < L) (hpL : p ≤ L) (eb : y_begin k = nI b) (ee : y_end k = nI q) (ew : y_whole k = 1) (hB : sp_B (x_text b)) (hW : ns_W x_text L b (q + 1))
    (H : ∀ {qN : Nat} {qdp : Nat → Nat} {qs1 qs2 qs3 qs4 qs5 qs6 qw1 qw2 qw3 qw4 : Int32} {qf1 qf2 qf3 qf4 qf5 qf6 qf7 qf8 qf9 qf10 qf11 qh1 qh2 qh3 qh4 qh5 qh6 qh7 qh8 qh9 qh10 qh11 qh12 : Nat → Int32}, br_F slot L (k + 1) (q + 1) 5 d qN g x_text x_typeKind x_fieldCount x_fieldName x_fieldType y_begin y_end qf1 qf2 qf3 qf4 qf5 qf6 qf7 qf8 qf9 qf10 qf11 qs5 qs6 qdp qh1 qh2 qh3 qh4 qh5 qh6 qh7 qh8 qh9 qh10 qh11 qh12 qw1 qw2 qw3 → bo_O slot (q + 1) (k + 1) (nI L, nI qN, x_bound, 0, -1, md_x (5), qs1, qs2, qs3, qs4, qs5, qs6, nI (d), x_outputLength, x_text, x_typeKind, x_typeDetail, x_typeLeast, x_typeMost, x_fieldCount, x_fieldName, x_fieldType, x_fieldNeeded, x_tagType, qf1, qf2, qf3, qf4, qf5, qf6, qf7, qf8, qf9, qf10, qf11, x_openNext, x_openComma, x_output) (nI L, nI P, y_bad, nI qN, 0, -1, 0, nI (d), qw1, qw2, qw3, x_outputLength, y_waiting, qw4, x_typeKind, y_typeA, y_typeB, y_typeC, x_fieldName, x_fieldType, y_fields, y_tags, x_fieldNeeded, x_text, y_begin, y_end, y_inside, y_whole, qh1, qh2, qh3, qh4, qh5, qh6, qh7, qh8, qh9, qh10, qh11, qh12, x_output, y_todo)) : bo_O slot p k (nI L, nI N, x_bound, 0, -1, md_x x, x_at, x_tokenStart, x_textCount, x_escaped, x_valueSlot, x_valueName, nI d, x_outputLength, x_text, x_typeKind, x_typeDetail, x_typeLeast, x_typeMost, x_fieldCount, x_fieldName, x_fieldType, x_fieldNeeded, x_tagType, x_nodeKind, x_nodeValue, x_nodeParent, x_nodeName, x_nodeSlot, x_nodeStart, x_nodeTag, x_completeCount, x_openNode, x_openSlot, x_openNames, x_openNext, x_openComma, x_output) (nI L, nI P, y_bad, nI N, 0, -1, 0, nI d, y_nextName, y_wantsName, y_wantsTag, x_outputLength, y_waiting, y_scaled, x_typeKind, y_typeA, y_typeB, y_typeC, x_fieldName, x_fieldType, y_fields, y_tags, x_fieldNeeded, x_text, y_begin, y_end, y_inside, y_whole, y_kind, y_value, y_parent, y_name, y_slotOf, y_placeOf, y_complete, y_openNode, y_openType, y_openCount, y_openNames, y_openChoice, x_output, y_todo) := by
  have hL := hT.1
  refine st_val hT F hx01 hnt hslot hk hP hb hbL eb (sb_v hB) (fun a w K x3 x4 x9 x10 x11 oc1 vl1 hI hK hp hg hD hR hdeep hN wt0 X2 Y2 => ?_)
  have hq := ns_W_le hW
  have hw := hI.2.1
  have cmw := F.2.2.2.2.1 w hw
  have hd6 := F.2.2.1
  have x1 : ¬ x11 = 0 := by
    rcases hg.2.2 with z | z
    · rw [z.1]; decide
    · exact absurd hB z.2
  -- decimals and bounds
  obtain ⟨dd, lo, hi, hdd4, hddX, hlhX, hzY⟩ : ∃ (dd : Nat) (lo hi : Int32), dd ≤ 4 ∧ (K = 0 ∧ x_typeDetail w = nI dd ∨ K = 6 ∧ dd = 0) ∧ (K = 6 ∧ lo = 0 ∧ hi = x_completeCount w - 1 ∨ K = 0 ∧ lo = x_typeLeast w ∧ hi = x_typeMost w) ∧ (x10 = 0 ∧ nI dd = y_typeA w ∧ lo = y_typeB w ∧ hi = y_typeC w ∨ ¬ x10 = 0 ∧ nI dd = 0 ∧ lo = 0 ∧ hi = y_complete w - 1) := by
    rcases kn_K hB hR with ⟨k0, s1, q8⟩ | ⟨k6, q8⟩
    · obtain ⟨t1, t2, t3, dd, hdd, edd⟩ := (hT.2.2 w hw).2.1 s1
      refine ⟨dd, x_typeLeast w, x_typeMost w, hdd, Or.inl ⟨k0, edd⟩, Or.inr ⟨k0, rfl, rfl⟩, Or.inl ⟨?_, (t1.trans edd).symm, t2.symm, t3.symm⟩⟩
      rcases hg.2.1 with z | z
      · exact absurd z.2 q8
      · exact z.1
    · refine ⟨0, 0, x_completeCount w - 1, by omega, Or.inr ⟨k6, rfl⟩, Or.inl ⟨k6, rfl, rfl⟩, Or.inr ⟨?_, rfl, rfl, ?_⟩⟩
      · rcases hg.2.1 with z | z
        · rw [z.1]; decide
        · exact absurd q8 z.2
      · rw [cmw.1]
  have K06 : K = 0 ∨ K = 6 := by
    rcases hddX with z | z
    · exact Or.inl z.1
    · exact Or.inr z.1
  have h1 : bx_R p (nI L, nI N, x_bound, 0, -1, md_x x, x_at, x_tokenStart, x_textCount, x_escaped, x_valueSlot, x_valueName, nI d, x_outputLength, x_text, x_typeKind, x_typeDetail, x_typeLeast, x_typeMost, x_fieldCount, x_fieldName, x_fieldType, x_fieldNeeded, x_tagType, x_nodeKind, x_nodeValue, x_nodeParent, x_nodeName, x_nodeSlot, x_nodeStart, x_nodeTag, x_completeCount, x_openNode, x_openSlot, x_openNames, x_openNext, x_openComma, x_output) (b + 1) (nI L, nI (N + 1), x_bound, 0, -1, xn_m (x_text b), nI b, nI b, x_textCount, x_escaped, nI a, x4, nI d, x_outputLength, x_text, x_typeKind, x_typeDetail, x_typeLeast, x_typeMost, x_fieldCount, x_fieldName, x_fieldType, x_fieldNeeded, x_tagType, upd x_nodeKind N (nI K), upd vl1 N 0, upd x_nodeParent N x3, upd x_nodeName N x4, upd x_nodeSlot N (nI w), upd x_nodeStart N (nI b), upd x_nodeTag N (-1), x_completeCount, x_openNode, x_openSlot, x_openNames, x_openNext, x_openComma, x_output) := by
    refine X2 _ (fun R r => ev_num ?_ r)
    rcases K06 with rfl | rfl
    · exact Or.inl rfl
    · exact Or.inr rfl
  obtain ⟨M, a', hM, hn2, hw2⟩ : ∃ M a', (M = 9 ∨ M = 10 ∨ M = 12 ∨ M = 15) ∧ (q + 1 < L → nn_S M (x_text (q + 1))) ∧ bx_R (b + 1) (nI L, nI (N + 1), x_bound, 0, -1, xn_m (x_text b), nI b, nI b, x_textCount, x_escaped, nI a, x4, nI d, x_outputLength, x_text, x_typeKind, x_typeDetail, x_typeLeast, x_typeMost, x_fieldCount, x_fieldName, x_fieldType, x_fieldNeeded, x_tagType, upd x_nodeKind N (nI K), upd vl1 N 0, upd x_nodeParent N x3, upd x_nodeName N x4, upd x_nodeSlot N (nI w), upd x_nodeStart N (nI b), upd x_nodeTag N (-1), x_completeCount, x_openNode, x_openSlot, x_openNames, x_openNext, x_openComma, x_output) (q + 1) (nI L, nI (N + 1), x_bound, 0, -1, M, a', nI b, x_textCount, x_escaped, nI a, x4, nI d, x_outputLength, x_text, x_typeKind, x_typeDetail, x_typeLeast, x_typeMost, x_fieldCount, x_fieldName, x_fieldType, x_fieldNeeded, x_tagType, upd x_nodeKind N (nI K), upd vl1 N 0, upd x_nodeParent N x3, upd x_nodeName N x4, upd x_nodeSlot N (nI w), upd x_nodeStart N (nI b), upd x_nodeTag N (-1), x_completeCount, x_openNode, x_openSlot, x_openNames, x_openNext, x_openComma, x_output) := xw_W hL hW (nI b)
  have h8 : ¬ M < 8 := by rcases hM with rfl | rfl | rfl | rfl <;> decide
  obtain ⟨xu, ok, sc, hRR, hX, hY⟩ : ∃ (xu : Int64) (ok sc : Int32), nu_R xu ok sc ∧ (∀ postX : Int64 → Prop, postX xu → wpX_readUnits postX (nI L, nI (N + 1), x_bound, 0, -1, 2, nI (q + 1), nI b, x_textCount, x_escaped, nI a, x4, nI d, x_outputLength, x_text, x_typeKind, x_typeDetail, x_typeLeast, x_typeMost, x_fieldCount, x_fieldName, x_fieldType, x_fieldNeeded, x_tagType, upd x_nodeKind N (nI K), upd vl1 N 0, upd x_nodeParent N x3, upd x_nodeName N x4, upd x_nodeSlot N (nI w), upd x_nodeStart N (nI b), upd x_nodeTag N (-1), x_completeCount, x_openNode, x_openSlot, x_openNames, x_openNext, x_openComma, x_output) (nI dd)) ∧ un_Y x_text y_begin y_end k (nI dd) ok sc := nu_units hL hT.2.1 hW (by omega) eb ee hdd4
  obtain ⟨rg1, rg2⟩ := nu_rg hRR lo hi
  have hok := nu_ok hRR
  have kN : upd x_nodeKind N (nI K) N = nI K := pk_us
  have sN : upd x_nodeSlot N (nI w) N = nI w := pk_us
  have k60 : (upd x_nodeKind N (nI K) N = 6 ∧ lo = 0 ∧ hi = x_completeCount w - 1) ∨ (¬ upd x_nodeKind N (nI K) N = 6 ∧ lo = x_typeLeast w ∧ hi = x_typeMost w) := by
    rw [kN]
    rcases hlhX with ⟨rfl, z1, z2⟩ | ⟨rfl, z1, z2⟩
    · exact Or.inl ⟨rfl, z1, z2⟩
    · exact Or.inr ⟨by decide, z1, z2⟩
  have d60 : (upd x_nodeKind N (nI K) N = 0 ∧ x_typeDetail w = nI dd) ∨ (¬ upd x_nodeKind N (nI K) N = 0 ∧ dd = 0) := by
    rw [kN]
    rcases hddX with ⟨rfl, z1⟩ | ⟨rfl, z1⟩
    · exact Or.inl ⟨rfl, z1⟩
    · exact Or.inr ⟨by decide, z1⟩
  have at1 : nI (q + 1) - 1 = nI q := nI_pred q
  obtain ⟨VF, pe, fin⟩ := yv_fin (K := K) (v := sc) hN hp F.1.1 F.1.2.1
  have endX : ∀ Q : SX → Prop, (lo.toInt64 ≤ xu ∧ xu ≤ hi.toInt64 → Q (nI L, nI (N + 1), x_bound, 0, -1, 2, nI (q + 1), nI b, x_textCount, x_escaped, nI a, x4, nI d, x_outputLength, x_text, x_typeKind, x_typeDetail, x_typeLeast, x_typeMost, x_fieldCount, x_fieldName, x_fieldType, x_fieldNeeded, x_tagType, upd x_nodeKind N (nI K), upd vl1 N sc, upd x_nodeParent N x3, upd x_nodeName N x4, upd x_nodeSlot N (nI w), upd x_nodeStart N (nI b), upd x_nodeTag N (-1), x_completeCount, x_openNode, x_openSlot, x_openNames, x_openNext, x_openComma, x_output)) → (¬ (lo.toInt64 ≤ xu ∧ xu ≤ hi.toInt64) → Q (nI L, nI (N + 1), x_bound, 6, nI q, 2, nI (q + 1), nI b, x_textCount, x_escaped, nI a, x4, nI d, x_outputLength, x_text, x_typeKind, x_typeDetail, x_typeLeast, x_typeMost, x_fieldCount, x_fieldName, x_fieldType, x_fieldNeeded, x_tagType, upd x_nodeKind N (nI K), upd vl1 N 0, upd x_nodeParent N x3, upd x_nodeName N x4, upd x_nodeSlot N (nI w), upd x_nodeStart N (nI b), upd x_nodeTag N (-1), x_completeCount, x_openNode, x_openSlot, x_openNames, x_openNext, x_openComma, x_output)) → wpX_endNumber Q (nI L, nI (N + 1), x_bound, 0, -1, M, nI (q + 1), nI b, x_textCount, x_escaped, nI a, x4, nI d, x_outputLength, x_text, x_typeKind, x_typeDetail, x_typeLeast, x_typeMost, x_fieldCount, x_fieldName, x_fieldType, x_fieldNeeded, x_tagType, upd x_nodeKind N (nI K), upd vl1 N 0, upd x_nodeParent N x3, upd x_nodeName N x4, upd x_nodeSlot N (nI w), upd x_nodeStart N (nI b), upd x_nodeTag N (-1), x_completeCount, x_openNode, x_openSlot, x_openNames, x_openNext, x_openComma, x_output) := by
    intro Q g1 g0
    refine ed_val hM hd6 hnt hN hw sN d60 hX (tk_units hN hw sN lo hi k60 (fun z => ?_) (fun z => ?_))
    · rw [up_up, rg2 (rg1.mp z).1]; exact g1 z
    · rw [at1]; exact g0 z
  by_cases good : lo.toInt64 ≤ xu ∧ xu ≤ hi.toInt64
  · have hx : bx_R p (nI L, nI N, x_bound, 0, -1, md_x x, x_at, x_tokenStart, x_textCount, x_escaped, x_valueSlot, x_valueName, nI d, x_outputLength, x_text, x_typeKind, x_typeDetail, x_typeLeast, x_typeMost, x_fieldCount, x_fieldName, x_fieldType, x_fieldNeeded, x_tagType, x_nodeKind, x_nodeValue, x_nodeParent, x_nodeName, x_nodeSlot, x_nodeStart, x_nodeTag, x_completeCount, x_openNode, x_openSlot, x_openNames, x_openNext, x_openComma, x_output) (q + 1) (nI L, nI (N + 1), x_bound, 0, -1, md_x 5, nI (q + 1), nI b, x_textCount, x_escaped, nI a, x4, nI d, x_outputLength, x_text, x_typeKind, x_typeDetail, x_typeLeast, x_typeMost, x_fieldCount, x_fieldName, x_fieldType, x_fieldNeeded, x_tagType, upd x_nodeKind N (nI K), upd vl1 N sc, upd x_nodeParent N x3, upd x_nodeName N x4, upd x_nodeSlot N (nI w), upd x_nodeStart N (nI b), upd x_nodeTag N (-1), x_completeCount, x_openNode, x_openSlot, x_openNames, x_openNext, x_openComma, x_output) := bx_T h1 (bx_T hw2 (bx_N hL hq.2 h8 hn2 (fun Q z => endX Q (fun _ => z) (fun y => absurd good y))))
    have hy : by_R slot k (nI L, nI P, y_bad, nI N, 0, -1, 0, nI d, y_nextName, y_wantsName, y_wantsTag, x_outputLength, y_waiting, y_scaled, x_typeKind, y_typeA, y_typeB, y_typeC, x_fieldName, x_fieldType, y_fields, y_tags, x_fieldNeeded, x_text, y_begin, y_end, y_inside, y_whole, y_kind, y_value, y_parent, y_name, y_slotOf, y_placeOf, y_complete, y_openNode, y_openType, y_openCount, y_openNames, y_openChoice, x_output, y_todo) (k + 1) (nI L, nI P, y_bad, nI (N + 1), 0, -1, 0, nI d, y_nextName, y_wantsName, y_wantsTag, x_outputLength, y_waiting, sc, x_typeKind, y_typeA, y_typeB, y_typeC, x_fieldName, x_fieldType, y_fields, y_tags, x_fieldNeeded, x_text, y_begin, y_end, y_inside, y_whole, upd y_kind N (nI K), VF, upd y_parent N x3, upd y_name N x4, upd y_slotOf N (nI w), upd y_placeOf N (nI b), y_complete, y_openNode, y_openType, oc1, y_openNames, y_openChoice, x_output, y_todo) := by
      refine Y2 _ (fun R r => yv_359 hN hw hg hD hR ⟨fun z => absurd z x1, fun _ => yn_num (by omega) hN ew ee pk_us hw hzY hY hok (fun _ => ?_) (fun z => absurd (rg1.mp good) z)⟩)
      rw [up_up]; exact fin R r
    have s1 : K = 0 → x_typeKind w = 1 := by
      intro z
      rcases kn_K hB hR with q1 | q1
      · exact q1.2.1
      · omega
    exact bo_step hx hy (H (bf_lit F hnt hN hw hbL hL hpL hb.1 (by omega) hq.2 eb hp pe hK (by omega) (by omega) s1 (fun z => absurd z (by omega)) wt0))
  · have hy : by_R slot k (nI L, nI P, y_bad, nI N, 0, -1, 0, nI d, y_nextName, y_wantsName, y_wantsTag, x_outputLength, y_waiting, y_scaled, x_typeKind, y_typeA, y_typeB, y_typeC, x_fieldName, x_fieldType, y_fields, y_tags, x_fieldNeeded, x_text, y_begin, y_end, y_inside, y_whole, y_kind, y_value, y_parent, y_name, y_slotOf, y_placeOf, y_complete, y_openNode, y_openType, y_openCount, y_openNames, y_openChoice, x_output, y_todo) (k + 1) (nI L, nI P, y_bad, nI (N + 1), 6, nI q, 0, nI d, y_nextName, y_wantsName, y_wantsTag, x_outputLength, y_waiting, sc, x_typeKind, y_typeA, y_typeB, y_typeC, x_fieldName, x_fieldType, y_fields, y_tags, x_fieldNeeded, x_text, y_begin, y_end, y_inside, y_whole, upd y_kind N (nI K), VF, upd y_parent N x3, upd y_name N x4, upd y_slotOf N (nI w), upd y_placeOf N (nI b), y_complete, y_openNode, y_openType, oc1, y_openNames, y_openChoice, x_output, y_todo) := by
      refine Y2 _ (fun R r => yv_359 hN hw hg hD hR ⟨fun z => absurd z x1, fun _ => yn_num (by omega) hN ew ee pk_us hw hzY hY hok (fun z => absurd (rg1.mpr z) good) (fun _ => ?_)⟩)
      rw [up_up]; exact fin R r
    exact ⟨6, _, _, fun post z => h1 post (hw2 post (bx_Nf hL hq.2 h8 hn2 (by decide) (fun Q y => endX Q (fun g => absurd g good) (fun _ => y)) z)), fun post z => hy post (by_F (by decide) z), rl_mk hT (Or.inl rfl)⟩
theorem st_numX (hT : rl_T L x_text x_typeKind x_typeDetail x_typeLeast x_typeMost x_fieldCount x_fieldName x_fieldType x_fieldNeeded x_tagType y_typeA y_typeB y_typeC y_fields y_tags) (F : br_F slot L k p x d N g x_text x_typeKind x_fieldCount x_fieldName x_fieldType y_begin y_end x_nodeKind x_nodeValue x_nodeParent x_nodeName x_nodeSlot x_nodeStart x_nodeTag x_completeCount x_openNode x_openSlot x_openNames x_valueSlot x_valueName dp y_kind y_value y_parent y_name y_slotOf y_placeOf y_complete y_openNode y_openType y_openCount y_openNames y_openChoice y_nextName y_wantsName y_wantsTag) (hx01 : x < 2) (hnt : 0 < d → ¬ x_openSlot (d - 1) = -1) (hslot : ∃ a, a < 12 ∧ slot = nI a) (hk : k + 1 = P) (hP : P ≤ 96) {b z : Nat} (hb : sp_S x_text p b) (hbL : b < L) (eb : y_begin k = nI b) (ew : y_whole k = 0) (hB : sp_B (x_text b)) (hX : ns_X x_text L b z) (ebad : y_bad = nI z) : bo_O slot p k (nI L, nI N, x_bound, 0, -1, md_x x, x_at, x_tokenStart, x_textCount, x_escaped, x_valueSlot, x_valueName, nI d, x_outputLength, x_text, x_typeKind, x_typeDetail, x_typeLeast, x_typeMost, x_fieldCount, x_fieldName, x_fieldType, x_fieldNeeded, x_tagType, x_nodeKind, x_nodeValue, x_nodeParent, x_nodeName, x_nodeSlot, x_nodeStart, x_nodeTag, x_completeCount, x_openNode, x_openSlot, x_openNames, x_openNext, x_openComma, x_output) (nI L, nI P, y_bad, nI N, 0, -1, 0, nI d, y_nextName, y_wantsName, y_wantsTag, x_outputLength, y_waiting, y_scaled, x_typeKind, y_typeA, y_typeB, y_typeC, x_fieldName, x_fieldType, y_fields, y_tags, x_fieldNeeded, x_text, y_begin, y_end, y_inside, y_whole, y_kind, y_value, y_parent, y_name, y_slotOf, y_placeOf, y_complete, y_openNode, y_openType, y_openCount, y_openNames, y_openChoice, x_output, y_todo) := by
  have hL := hT.1
  refine st_val hT F hx01 hnt hslot (by omega) hP hb hbL eb (sb_v hB) (fun a w K x3 x4 x9 x10 x11 oc1 vl1 hI hK hp hg hD hR hdeep hN wt0 X2 Y2 => ?_)
  have hz := ns_X_le hbL hX
  have hw := hI.2.1
  have x1 : ¬ x11 = 0 := by
    rcases hg.2.2 with z | z
    · rw [z.1]; decide
    · exact absurd hB z.2
  have K06 : K = 0 ∨ K = 6 := by
    rcases kn_K hB hR with q | q
    · exact Or.inl q.1
    · exact Or.inr q.1
  have h1 : bx_R p (nI L, nI N, x_bound, 0, -1, md_x x, x_at, x_tokenStart, x_textCount, x_escaped, x_valueSlot, x_valueName, nI d, x_outputLength, x_text, x_typeKind, x_typeDetail, x_typeLeast, x_typeMost, x_fieldCount, x_fieldName, x_fieldType, x_fieldNeeded, x_tagType, x_nodeKind, x_nodeValue, x_nodeParent, x_nodeName, x_nodeSlot, x_nodeStart, x_nodeTag, x_completeCount, x_openNode, x_openSlot, x_openNames, x_openNext, x_openComma, x_output) (b + 1) (nI L, nI (N + 1), x_bound, 0, -1, xn_m (x_text b), nI b, nI b, x_textCount, x_escaped, nI a, x4, nI d, x_outputLength, x_text, x_typeKind, x_typeDetail, x_typeLeast, x_typeMost, x_fieldCount, x_fieldName, x_fieldType, x_fieldNeeded, x_tagType, upd x_nodeKind N (nI K), upd vl1 N 0, upd x_nodeParent N x3, upd x_nodeName N x4, upd x_nodeSlot N (nI w), upd x_nodeStart N (nI b), upd x_nodeTag N (-1), x_completeCount, x_openNode, x_openSlot, x_openNames, x_openNext, x_openComma, x_output) := by
    refine X2 _ (fun R r => ev_num ?_ r)
    rcases K06 with rfl | rfl
    · exact Or.inl rfl
    · exact Or.inr rfl
  obtain ⟨M, a', hM, hn2, hw2⟩ : ∃ M a', (M = 8 ∨ M = 11 ∨ M = 13 ∨ M = 14) ∧ (z < L → nn_S M (x_text z)) ∧ bx_R (b + 1) (nI L, nI (N + 1), x_bound, 0, -1, xn_m (x_text b), nI b, nI b, x_textCount, x_escaped, nI a, x4, nI d, x_outputLength, x_text, x_typeKind, x_typeDetail, x_typeLeast, x_typeMost, x_fieldCount, x_fieldName, x_fieldType, x_fieldNeeded, x_tagType, upd x_nodeKind N (nI K), upd vl1 N 0, upd x_nodeParent N x3, upd x_nodeName N x4, upd x_nodeSlot N (nI w), upd x_nodeStart N (nI b), upd x_nodeTag N (-1), x_completeCount, x_openNode, x_openSlot, x_openNames, x_openNext, x_openComma, x_output) z (nI L, nI (N + 1), x_bound, 0, -1, M, a', nI b, x_textCount, x_escaped, nI a, x4, nI d, x_outputLength, x_text, x_typeKind, x_typeDetail, x_typeLeast, x_typeMost, x_fieldCount, x_fieldName, x_fieldType, x_fieldNeeded, x_tagType, upd x_nodeKind N (nI K), upd vl1 N 0, upd x_nodeParent N x3, upd x_nodeName N x4, upd x_nodeSlot N (nI w), upd x_nodeStart N (nI b), upd x_nodeTag N (-1), x_completeCount, x_openNode, x_openSlot, x_openNames, x_openNext, x_openComma, x_output) := xw_X hL hX (nI b)
  have h8 : ¬ M < 8 := by rcases hM with rfl | rfl | rfl | rfl <;> decide
  obtain ⟨VF, pe, fin⟩ := yv_fin (K := K) (v := v0_F (x_typeKind w) (x_text b) (y_complete w)) hN hp F.1.1 F.1.2.1
  have hy : by_R slot k (nI L, nI P, y_bad, nI N, 0, -1, 0, nI d, y_nextName, y_wantsName, y_wantsTag, x_outputLength, y_waiting, y_scaled, x_typeKind, y_typeA, y_typeB, y_typeC, x_fieldName, x_fieldType, y_fields, y_tags, x_fieldNeeded, x_text, y_begin, y_end, y_inside, y_whole, y_kind, y_value, y_parent, y_name, y_slotOf, y_placeOf, y_complete, y_openNode, y_openType, y_openCount, y_openNames, y_openChoice, x_output, y_todo) P (nI L, nI P, nI z, nI (N + 1), 0, -1, 0, nI d, y_nextName, y_wantsName, y_wantsTag, x_outputLength, y_waiting, y_scaled, x_typeKind, y_typeA, y_typeB, y_typeC, x_fieldName, x_fieldType, y_fields, y_tags, x_fieldNeeded, x_text, y_begin, y_end, y_inside, y_whole, upd y_kind N (nI K), VF, upd y_parent N x3, upd y_name N x4, upd y_slotOf N (nI w), upd y_placeOf N (nI b), y_complete, y_openNode, y_openType, oc1, y_openNames, y_openChoice, x_output, y_todo) := by
    rw [← ebad]
    subst hk
    exact Y2 _ (fun R r => yv_359 hN hw hg hD hR ⟨fun z => absurd z x1, fun _ => yn_cut (by omega) ew (fin R r)⟩)
  exact bo_cut hT hP (by omega) (fun post y => h1 post (hw2 post (bx_Nf hL hz.2 h8 hn2 (by decide) (fun Q q => ed_rej hM q) y))) hy
end
end
section
/-! the bind: texts as values -/
theorem kt_K {qa S c : Int32} {K : Nat} (hc : c = 16) (h : kc_R qa S c K) : K = 1 ∧ S = 2 := by
  subst hc
  have nB : ¬ sp_B 16 := by
    rintro (q | q)
    · exact absurd q.2 (by decide)
    · exact absurd q (by decide)
  rcases h with q | q | q | q | q | q | q
  · exact absurd q.2.1 nB
  · exact ⟨q.1, q.2.2⟩
  · exact absurd q.2.1 (by decide)
  · exact absurd q.2.1 (by decide)
  · exact absurd q.2.1 (by decide)
  · exact absurd q.2.1 (by decide)
  · exact absurd q.2.1 nB
section
variable {x_bound x_at x_tokenStart x_textCount x_escaped x_valueSlot x_valueName x_outputLength : Int32} {x_text x_typeKind x_typeDetail x_typeLeast x_typeMost x_fieldCount x_fieldName x_fieldType x_fieldNeeded x_tagType x_nodeKind x_nodeValue x_nodeParent x_nodeName x_nodeSlot x_nodeStart x_nodeTag x_completeCount x_openNode x_openSlot x_openNames x_openNext x_openComma x_output : Nat → Int32} {y_bad y_nextName y_wantsName y_wantsTag y_waiting y_scaled : Int32} {y_typeA y_typeB y_typeC y_fields y_tags y_begin y_end y_inside y_whole y_kind y_value y_parent y_name y_slotOf y_placeOf y_complete y_openNode y_openType y_openCount y_openNames y_openChoice y_todo : Nat → Int32} {L P k p x d N : Nat} {g : Nat → Int32} {dp : Nat → Nat} {slot : Int32}
/-- the text's run on both sides -/
theorem tx_both (hT : rl_T L x_text x_typeKind x_typeDetail x_typeLeast x_typeMost x_fieldCount x_fieldName x_fieldType x_fieldNeeded x_tagType y_typeA y_typeB y_typeC y_fields y_tags) {a w b q last m : Nat} {x3 x4 : Int32} {oc1 vl1 : Nat → Int32} (hN : N < 40) (hw : w < 12) (s2 : x_typeKind w = 2) (hbL : b < L) (hR : ss_R x_text L m (b + 1) q) (hql : q ≤ last) (hl2 : last ≤ L) :
    (∃ (j' : Nat) (h' a' : Int32), bx_R (b + 1) (nI L, nI (N + 1), x_bound, 0, -1, 7, nI b, nI b, nI 0, 0, nI a, x4, nI d, x_outputLength, x_text, x_typeKind, x_typeDetail, x_typeLeast, x_typeMost, x_fieldCount, x_fieldName, x_fieldType, x_fieldNeeded, x_tagType, upd x_nodeKind N (nI 1), upd vl1 N 0, upd x_nodeParent N x3, upd x_nodeName N x4, upd x_nodeSlot N (nI w), upd x_nodeStart N (nI b), upd x_nodeTag N (-1), x_completeCount, x_openNode, x_openSlot, x_openNames, x_openNext, x_openComma, x_output) q (nI L, nI (N + 1), x_bound, 0, -1, 7, a', nI b, nI j', 0, nI a, x4, nI d, x_outputLength, x_text, x_typeKind, x_typeDetail, x_typeLeast, x_typeMost, x_fieldCount, x_fieldName, x_fieldType, x_fieldNeeded, x_tagType, upd x_nodeKind N (nI 1), upd vl1 N h', upd x_nodeParent N x3, upd x_nodeName N x4, upd x_nodeSlot N (nI w), upd x_nodeStart N (nI b), upd x_nodeTag N (-1), x_completeCount, x_openNode, x_openSlot, x_openNames, x_openNext, x_openComma, x_output) ∧ ∀ Q : SY → Prop, (∃ n, wY_bindText_43 Q (nI N) (nI last) n (nI j') (nI q) h' (nI L) (nI P) y_bad (nI (N + 1)) 0 (-1) 0 (nI d) y_nextName y_wantsName y_wantsTag x_outputLength y_waiting y_scaled x_typeKind y_typeA y_typeB y_typeC x_fieldName x_fieldType y_fields y_tags x_fieldNeeded x_text y_begin y_end y_inside y_whole (upd y_kind N (nI 1)) (upd y_value N 0) (upd y_parent N x3) (upd y_name N x4) (upd y_slotOf N (nI w)) (upd y_placeOf N (nI b)) y_complete y_openNode y_openType oc1 y_openNames y_openChoice x_output y_todo) → ∃ n, wY_bindText_43 Q (nI N) (nI last) n (nI 0) (nI (b + 1)) 0 (nI L) (nI P) y_bad (nI (N + 1)) 0 (-1) 0 (nI d) y_nextName y_wantsName y_wantsTag x_outputLength y_waiting y_scaled x_typeKind y_typeA y_typeB y_typeC x_fieldName x_fieldType y_fields y_tags x_fieldNeeded x_text y_begin y_end y_inside y_whole (upd y_kind N (nI 1)) (upd y_value N 0) (upd y_parent N x3) (upd y_name N x4) (upd y_slotOf N (nI w)) (upd y_placeOf N (nI b)) y_complete y_openNode y_openType oc1 y_openNames y_openChoice x_output y_todo) ∨
    (∃ (z p' j' : Nat) (h' a' hv : Int32), bx_R (b + 1) (nI L, nI (N + 1), x_bound, 0, -1, 7, nI b, nI b, nI 0, 0, nI a, x4, nI d, x_outputLength, x_text, x_typeKind, x_typeDetail, x_typeLeast, x_typeMost, x_fieldCount, x_fieldName, x_fieldType, x_fieldNeeded, x_tagType, upd x_nodeKind N (nI 1), upd vl1 N 0, upd x_nodeParent N x3, upd x_nodeName N x4, upd x_nodeSlot N (nI w), upd x_nodeStart N (nI b), upd x_nodeTag N (-1), x_completeCount, x_openNode, x_openSlot, x_openNames, x_openNext, x_openComma, x_output) p' (nI L, nI (N + 1), x_bound, 6, nI z, 7, a', nI b, nI j', 0, nI a, x4, nI d, x_outputLength, x_text, x_typeKind, x_typeDetail, x_typeLeast, x_typeMost, x_fieldCount, x_fieldName, x_fieldType, x_fieldNeeded, x_tagType, upd x_nodeKind N (nI 1), upd vl1 N h', upd x_nodeParent N x3, upd x_nodeName N x4, upd x_nodeSlot N (nI w), upd x_nodeStart N (nI b), upd x_nodeTag N (-1), x_completeCount, x_openNode, x_openSlot, x_openNames, x_openNext, x_openComma, x_output) ∧ ∀ Q : SY → Prop, Q (nI L, nI P, y_bad, nI (N + 1), 6, nI z, 0, nI d, y_nextName, y_wantsName, y_wantsTag, x_outputLength, y_waiting, y_scaled, x_typeKind, y_typeA, y_typeB, y_typeC, x_fieldName, x_fieldType, y_fields, y_tags, x_fieldNeeded, x_text, y_begin, y_end, y_inside, y_whole, upd y_kind N (nI 1), upd y_value N hv, upd y_parent N x3, upd y_name N x4, upd y_slotOf N (nI w), upd y_placeOf N (nI b), y_complete, y_openNode, y_openType, oc1, y_openNames, y_openChoice, x_output, y_todo) → ∃ n, wY_bindText_43 Q (nI N) (nI last) n (nI 0) (nI (b + 1)) 0 (nI L) (nI P) y_bad (nI (N + 1)) 0 (-1) 0 (nI d) y_nextName y_wantsName y_wantsTag x_outputLength y_waiting y_scaled x_typeKind y_typeA y_typeB y_typeC x_fieldName x_fieldType y_fields y_tags x_fieldNeeded x_text y_begin y_end y_inside y_whole (upd y_kind N (nI 1)) (upd y_value N 0) (upd y_parent N x3) (upd y_name N x4) (upd y_slotOf N (nI w)) (upd y_placeOf N (nI b)) y_complete y_openNode y_openType oc1 y_openNames y_openChoice x_output y_todo) := by
  have hL := hT.1
  obtain ⟨tA, D, hD, eD⟩ := (hT.2.2 w hw).2.2.1 s2
  rcases tx_run (x_bound := x_bound) (x_faultPlace := -1) (x_tokenStart := nI b) (x_valueSlot := nI a) (x_valueName := x4) (x_depth := nI d) (x_outputLength := x_outputLength) (x_text := x_text) (x_typeKind := x_typeKind) (x_typeDetail := x_typeDetail) (x_typeLeast := x_typeLeast) (x_typeMost := x_typeMost) (x_fieldCount := x_fieldCount) (x_fieldName := x_fieldName) (x_fieldType := x_fieldType) (x_fieldNeeded := x_fieldNeeded) (x_tagType := x_tagType) (x_nodeKind := upd x_nodeKind N (nI 1)) (x_nodeParent := upd x_nodeParent N x3) (x_nodeName := upd x_nodeName N x4) (x_nodeSlot := upd x_nodeSlot N (nI w)) (x_nodeStart := upd x_nodeStart N (nI b)) (x_nodeTag := upd x_nodeTag N (-1)) (x_completeCount := x_completeCount) (x_openNode := x_openNode) (x_openSlot := x_openSlot) (x_openNames := x_openNames) (x_openNext := x_openNext) (x_openComma := x_openComma) (x_output := x_output) (vl := vl1) (y_length := nI L) (y_parts := nI P) (y_bad := y_bad) (y_nodes := nI (N + 1)) (y_place := -1) (y_bound := 0) (y_depth := nI d) (y_nextName := y_nextName) (y_wantsName := y_wantsName) (y_wantsTag := y_wantsTag) (y_printed := x_outputLength) (y_waiting := y_waiting) (y_scaled := y_scaled) (y_sort := x_typeKind) (y_typeA := y_typeA) (y_typeB := y_typeB) (y_typeC := y_typeC) (y_fieldName := x_fieldName) (y_fieldType := x_fieldType) (y_fields := y_fields) (y_tags := y_tags) (y_needed := x_fieldNeeded) (y_begin := y_begin) (y_end := y_end) (y_inside := y_inside) (y_whole := y_whole) (y_kind := upd y_kind N (nI 1)) (y_value := upd y_value N 0) (y_parent := upd y_parent N x3) (y_name := upd y_name N x4) (y_slotOf := upd y_slotOf N (nI w)) (y_placeOf := upd y_placeOf N (nI b)) (y_complete := y_complete) (y_openNode := y_openNode) (y_openType := y_openType) (y_openCount := oc1) (y_openNames := y_openNames) (y_openChoice := y_openChoice) (y_output := x_output) (y_todo := y_todo) hL hN hw hD pk_us eD pk_us (tA.trans eD) hl2 m (b + 1) q 0 0 (nI b) hR hql (by omega) (by omega) with h | ⟨z, p', j', h', a', hv, h1, h2⟩
  · exact Or.inl h
  · refine Or.inr ⟨z, p', j', h', a', hv, h1, fun Q y => h2 Q ?_⟩
    rw [up_up]; exact y
theorem st_txt (hT : rl_T L x_text x_typeKind x_typeDetail x_typeLeast x_typeMost x_fieldCount x_fieldName x_fieldType x_fieldNeeded x_tagType y_typeA y_typeB y_typeC y_fields y_tags) (F : br_F slot L k p x d N g x_text x_typeKind x_fieldCount x_fieldName x_fieldType y_begin y_end x_nodeKind x_nodeValue x_nodeParent x_nodeName x_nodeSlot x_nodeStart x_nodeTag x_completeCount x_openNode x_openSlot x_openNames x_valueSlot x_valueName dp y_kind y_value y_parent y_name y_slotOf y_placeOf y_complete y_openNode y_openType y_openCount y_openNames y_openChoice y_nextName y_wantsName y_wantsTag) (hx01 : x < 2) (hnt : 0 < d → ¬ x_openSlot (d - 1) = -1) (hslot : ∃ a, a < 12 ∧ slot = nI a) (hk : k < P) (hP : P ≤ 96) {b q : Nat} (hb : sp_S x_text p b) (hbL : b < L) (hpL : p ≤ L) (eb : y_begin k = nI b) (ee : y_end k = nI q) (ew : y_whole k = 1) (c : x_text b = 16) (hW : ss_W x_text L (b + 1) q)
    (H : ∀ {qN : Nat} {qdp : Nat → Nat} {qs1 qs2 qs3 qs4 qs5 qs6 qw1 qw2 qw3 qw4 : Int32} {qf1 qf2 qf3 qf4 qf5 qf6 qf7 qf8 qf9 qf10 qf11 qh1 qh2 qh3 qh4 qh5 qh6 qh7 qh8 qh9 qh10 qh11 qh12 : Nat → Int32}, br_F slot L (k + 1) (q + 1) 5 d qN g x_text x_typeKind x_fieldCount x_fieldName x_fieldType y_begin y_end qf1 qf2 qf3 qf4 qf5 qf6 qf7 qf8 qf9 qf10 qf11 qs5 qs6 qdp qh1 qh2 qh3 qh4 qh5 qh6 qh7 qh8 qh9 qh10 qh11 qh12 qw1 qw2 qw3 → bo_O slot (q + 1) (k + 1) (nI L, nI qN, x_bound, 0, -1, md_x (5), qs1, qs2, qs3, qs4, qs5, qs6, nI (d), x_outputLength, x_text, x_typeKind, x_typeDetail, x_typeLeast, x_typeMost, x_fieldCount, x_fieldName, x_fieldType, x_fieldNeeded, x_tagType, qf1, qf2, qf3, qf4, qf5, qf6, qf7, qf8, qf9, qf10, qf11, x_openNext, x_openComma, x_output) (nI L, nI P, y_bad, nI qN, 0, -1, 0, nI (d), qw1, qw2, qw3, x_outputLength, y_waiting, qw4, x_typeKind, y_typeA, y_typeB, y_typeC, x_fieldName, x_fieldType, y_fields, y_tags, x_fieldNeeded, x_text, y_begin, y_end, y_inside, y_whole, qh1, qh2, qh3, qh4, qh5, qh6, qh7, qh8, qh9, qh10, qh11, qh12, x_output, y_todo)) : bo_O slot p k (nI L, nI N, x_bound, 0, -1, md_x x, x_at, x_tokenStart, x_textCount, x_escaped, x_valueSlot, x_valueName, nI d, x_outputLength, x_text, x_typeKind, x_typeDetail, x_typeLeast, x_typeMost, x_fieldCount, x_fieldName, x_fieldType, x_fieldNeeded, x_tagType, x_nodeKind, x_nodeValue, x_nodeParent, x_nodeName, x_nodeSlot, x_nodeStart, x_nodeTag, x_completeCount, x_openNode, x_openSlot, x_openNames, x_openNext, x_openComma, x_output) (nI L, nI P, y_bad, nI N, 0, -1, 0, nI d, y_nextName, y_wantsName, y_wantsTag, x_outputLength, y_waiting, y_scaled, x_typeKind, y_typeA, y_typeB, y_typeC, x_fieldName, x_fieldType, y_fields, y_tags, x_fieldNeeded, x_text, y_begin, y_end, y_inside, y_whole, y_kind, y_value, y_parent, y_name, y_slotOf, y_placeOf, y_complete, y_openNode, y_openType, y_openCount, y_openNames, y_openChoice, x_output, y_todo) := by
  have hL := hT.1
  have hV : sp_V (x_text b) := Or.inr (Or.inr (Or.inr (Or.inl c)))
  refine st_val hT F hx01 hnt hslot hk hP hb hbL eb hV (fun a w K x3 x4 x9 x10 x11 oc1 vl1 hI hK hp hg hD hR hdeep hN wt0 X2 Y2 => ?_)
  have hw := hI.2.1
  obtain ⟨rfl, s2⟩ := kt_K c hR
  have hW' := hW
  obtain ⟨hqL, q16, mu, hmu⟩ := hW
  have hbq := ss_R_le hmu
  have x0 : x11 = 0 := by
    rcases hg.2.2 with z | z
    · exfalso
      rw [c] at z
      rcases z.2 with y | y
      · exact absurd y.2 (by decide)
      · exact absurd y (by decide)
    · exact z.1
  have hv0 : v0_F (x_typeKind w) (x_text b) (y_complete w) = 0 := by
    unfold v0_F
    rw [c, if_neg (fun z => absurd z.2 (by decide)), if_neg (by decide)]
  have h1 : bx_R p (nI L, nI N, x_bound, 0, -1, md_x x, x_at, x_tokenStart, x_textCount, x_escaped, x_valueSlot, x_valueName, nI d, x_outputLength, x_text, x_typeKind, x_typeDetail, x_typeLeast, x_typeMost, x_fieldCount, x_fieldName, x_fieldType, x_fieldNeeded, x_tagType, x_nodeKind, x_nodeValue, x_nodeParent, x_nodeName, x_nodeSlot, x_nodeStart, x_nodeTag, x_completeCount, x_openNode, x_openSlot, x_openNames, x_openNext, x_openComma, x_output) (b + 1) (nI L, nI (N + 1), x_bound, 0, -1, 7, nI b, nI b, nI 0, 0, nI a, x4, nI d, x_outputLength, x_text, x_typeKind, x_typeDetail, x_typeLeast, x_typeMost, x_fieldCount, x_fieldName, x_fieldType, x_fieldNeeded, x_tagType, upd x_nodeKind N (nI 1), upd vl1 N 0, upd x_nodeParent N x3, upd x_nodeName N x4, upd x_nodeSlot N (nI w), upd x_nodeStart N (nI b), upd x_nodeTag N (-1), x_completeCount, x_openNode, x_openSlot, x_openNames, x_openNext, x_openComma, x_output) := X2 _ (fun R r => ev_txt r)
  have eN : (nI N).toNatClampNeg = N := nI_clamp (by omega)
  have iN : vp_in (nI N) 40 := vp_in_nI hN (by decide)
  rcases tx_both (y_whole := y_whole) (y_inside := y_inside) (y_begin := y_begin) (y_end := y_end) (y_bad := y_bad) (y_nextName := y_nextName) (y_wantsName := y_wantsName) (y_wantsTag := y_wantsTag) (y_waiting := y_waiting) (y_scaled := y_scaled) (y_kind := y_kind) (y_value := y_value) (y_parent := y_parent) (y_name := y_name) (y_slotOf := y_slotOf) (y_placeOf := y_placeOf) (y_complete := y_complete) (y_openNode := y_openNode) (y_openType := y_openType) (y_openNames := y_openNames) (y_openChoice := y_openChoice) (y_todo := y_todo) (P := P) (d := d) (x_bound := x_bound) (x_outputLength := x_outputLength) (x_nodeKind := x_nodeKind) (x_nodeParent := x_nodeParent) (x_nodeName := x_nodeName) (x_nodeSlot := x_nodeSlot) (x_nodeStart := x_nodeStart) (x_nodeTag := x_nodeTag) (x_completeCount := x_completeCount) (x_openNode := x_openNode) (x_openSlot := x_openSlot) (x_openNames := x_openNames) (x_openNext := x_openNext) (x_openComma := x_openComma) (x_output := x_output) (a := a) (x3 := x3) (x4 := x4) (oc1 := oc1) (vl1 := vl1) hT hN hw s2 hbL hmu (Nat.le_refl q) (by omega) with ⟨j', h', a', hx2, hy2⟩ | ⟨z, p', j', h', a', hv, hx2, hy2⟩
  · obtain ⟨VF, pe, fin⟩ := yv_fin (K := 1) (v := h') hN hp F.1.1 F.1.2.1
    have hx3 : bx_R q (nI L, nI (N + 1), x_bound, 0, -1, 7, a', nI b, nI j', 0, nI a, x4, nI d, x_outputLength, x_text, x_typeKind, x_typeDetail, x_typeLeast, x_typeMost, x_fieldCount, x_fieldName, x_fieldType, x_fieldNeeded, x_tagType, upd x_nodeKind N (nI 1), upd vl1 N h', upd x_nodeParent N x3, upd x_nodeName N x4, upd x_nodeSlot N (nI w), upd x_nodeStart N (nI b), upd x_nodeTag N (-1), x_completeCount, x_openNode, x_openSlot, x_openNames, x_openNext, x_openComma, x_output) (q + 1) (nI L, nI (N + 1), x_bound, 0, -1, md_x 5, nI q, nI b, nI j', 0, nI a, x4, nI d, x_outputLength, x_text, x_typeKind, x_typeDetail, x_typeLeast, x_typeMost, x_fieldCount, x_fieldName, x_fieldType, x_fieldNeeded, x_tagType, upd x_nodeKind N (nI 1), upd vl1 N h', upd x_nodeParent N x3, upd x_nodeName N x4, upd x_nodeSlot N (nI w), upd x_nodeStart N (nI b), upd x_nodeTag N (-1), x_completeCount, x_openNode, x_openSlot, x_openNames, x_openNext, x_openComma, x_output) := by
      refine bx_1 hqL hL _ (fun Q r => ?_)
      rw [q16]; exact rc_str (Or.inr rfl) (sc_q7 r)
    have hy : by_R slot k (nI L, nI P, y_bad, nI N, 0, -1, 0, nI d, y_nextName, y_wantsName, y_wantsTag, x_outputLength, y_waiting, y_scaled, x_typeKind, y_typeA, y_typeB, y_typeC, x_fieldName, x_fieldType, y_fields, y_tags, x_fieldNeeded, x_text, y_begin, y_end, y_inside, y_whole, y_kind, y_value, y_parent, y_name, y_slotOf, y_placeOf, y_complete, y_openNode, y_openType, y_openCount, y_openNames, y_openChoice, x_output, y_todo) (k + 1) (nI L, nI P, y_bad, nI (N + 1), 0, -1, 0, nI d, y_nextName, y_wantsName, y_wantsTag, x_outputLength, y_waiting, y_scaled, x_typeKind, y_typeA, y_typeB, y_typeC, x_fieldName, x_fieldType, y_fields, y_tags, x_fieldNeeded, x_text, y_begin, y_end, y_inside, y_whole, upd y_kind N (nI 1), VF, upd y_parent N x3, upd y_name N x4, upd y_slotOf N (nI w), upd y_placeOf N (nI b), y_complete, y_openNode, y_openType, oc1, y_openNames, y_openChoice, x_output, y_todo) := by
      refine Y2 _ (fun R r => yv_359 hN hw hg hD hR ⟨fun _ => ⟨fun _ => yt_txt (last := q) (by omega) eb ee (Or.inl ⟨ew, rfl⟩) ?_, fun z => absurd c z⟩, fun z => absurd x0 z⟩)
      rw [hv0]
      refine hy2 _ ⟨1, br_t (nI_le (Nat.le_refl _) (by omega)) ⟨iN, ?_⟩⟩
      rw [eN]
      refine nm_r (up_up _ _ _ _) (fin R r)
    exact bo_step (bx_T h1 (bx_T hx2 hx3)) hy (H (bf_lit F hnt hN hw hbL hL hpL hb.1 (by omega) (by omega) eb hp pe hK (by omega) (by omega) (fun z => absurd z (by omega)) (fun _ => ⟨c, q, hW'⟩) wt0))
  · obtain ⟨VF, pe, fin⟩ := yv_fin (K := 1) (v := hv) hN hp F.1.1 F.1.2.1
    have hy : by_R slot k (nI L, nI P, y_bad, nI N, 0, -1, 0, nI d, y_nextName, y_wantsName, y_wantsTag, x_outputLength, y_waiting, y_scaled, x_typeKind, y_typeA, y_typeB, y_typeC, x_fieldName, x_fieldType, y_fields, y_tags, x_fieldNeeded, x_text, y_begin, y_end, y_inside, y_whole, y_kind, y_value, y_parent, y_name, y_slotOf, y_placeOf, y_complete, y_openNode, y_openType, y_openCount, y_openNames, y_openChoice, x_output, y_todo) (k + 1) (nI L, nI P, y_bad, nI (N + 1), 6, nI z, 0, nI d, y_nextName, y_wantsName, y_wantsTag, x_outputLength, y_waiting, y_scaled, x_typeKind, y_typeA, y_typeB, y_typeC, x_fieldName, x_fieldType, y_fields, y_tags, x_fieldNeeded, x_text, y_begin, y_end, y_inside, y_whole, upd y_kind N (nI 1), VF, upd y_parent N x3, upd y_name N x4, upd y_slotOf N (nI w), upd y_placeOf N (nI b), y_complete, y_openNode, y_openType, oc1, y_openNames, y_openChoice, x_output, y_todo) := by
      refine Y2 _ (fun R r => yv_359 hN hw hg hD hR ⟨fun _ => ⟨fun _ => yt_txt (last := q) (by omega) eb ee (Or.inl ⟨ew, rfl⟩) ?_, fun z => absurd c z⟩, fun z => absurd x0 z⟩)
      rw [hv0]
      exact hy2 _ (fin R r)
    exact bo_fault hT (f := 6) (z := nI z) (by decide) (bx_T h1 hx2) hy
end
end
section
/-! the bind: a text that is cut off -/
section
variable {x_bound x_at x_tokenStart x_textCount x_escaped x_valueSlot x_valueName x_outputLength : Int32} {x_text x_typeKind x_typeDetail x_typeLeast x_typeMost x_fieldCount x_fieldName x_fieldType x_fieldNeeded x_tagType x_nodeKind x_nodeValue x_nodeParent x_nodeName x_nodeSlot x_nodeStart x_nodeTag x_completeCount x_openNode x_openSlot x_openNames x_openNext x_openComma x_output : Nat → Int32} {y_bad y_nextName y_wantsName y_wantsTag y_waiting y_scaled : Int32} {y_typeA y_typeB y_typeC y_fields y_tags y_begin y_end y_inside y_whole y_kind y_value y_parent y_name y_slotOf y_placeOf y_complete y_openNode y_openType y_openCount y_openNames y_openChoice y_todo : Nat → Int32} {L P k p x d N : Nat} {g : Nat → Int32} {dp : Nat → Nat} {slot : Int32}
theorem st_txtX (hT : rl_T L x_text x_typeKind x_typeDetail x_typeLeast x_typeMost x_fieldCount x_fieldName x_fieldType x_fieldNeeded x_tagType y_typeA y_typeB y_typeC y_fields y_tags) (F : br_F slot L k p x d N g x_text x_typeKind x_fieldCount x_fieldName x_fieldType y_begin y_end x_nodeKind x_nodeValue x_nodeParent x_nodeName x_nodeSlot x_nodeStart x_nodeTag x_completeCount x_openNode x_openSlot x_openNames x_valueSlot x_valueName dp y_kind y_value y_parent y_name y_slotOf y_placeOf y_complete y_openNode y_openType y_openCount y_openNames y_openChoice y_nextName y_wantsName y_wantsTag) (hx01 : x < 2) (hnt : 0 < d → ¬ x_openSlot (d - 1) = -1) (hslot : ∃ a, a < 12 ∧ slot = nI a) (hk : k + 1 = P) (hP : P ≤ 96) {b q e zz : Nat} (hb : sp_S x_text p b) (hbL : b < L) (eb : y_begin k = nI b) (ee : y_end k = nI e) (ew : y_whole k = 0) (c : x_text b = 16) (hX : ss_X x_text L (b + 1) q e zz) (ebad : y_bad = nI zz) : bo_O slot p k (nI L, nI N, x_bound, 0, -1, md_x x, x_at, x_tokenStart, x_textCount, x_escaped, x_valueSlot, x_valueName, nI d, x_outputLength, x_text, x_typeKind, x_typeDetail, x_typeLeast, x_typeMost, x_fieldCount, x_fieldName, x_fieldType, x_fieldNeeded, x_tagType, x_nodeKind, x_nodeValue, x_nodeParent, x_nodeName, x_nodeSlot, x_nodeStart, x_nodeTag, x_completeCount, x_openNode, x_openSlot, x_openNames, x_openNext, x_openComma, x_output) (nI L, nI P, y_bad, nI N, 0, -1, 0, nI d, y_nextName, y_wantsName, y_wantsTag, x_outputLength, y_waiting, y_scaled, x_typeKind, y_typeA, y_typeB, y_typeC, x_fieldName, x_fieldType, y_fields, y_tags, x_fieldNeeded, x_text, y_begin, y_end, y_inside, y_whole, y_kind, y_value, y_parent, y_name, y_slotOf, y_placeOf, y_complete, y_openNode, y_openType, y_openCount, y_openNames, y_openChoice, x_output, y_todo) := by
  have hL := hT.1
  have hV : sp_V (x_text b) := Or.inr (Or.inr (Or.inr (Or.inl c)))
  refine st_val hT F hx01 hnt hslot (by omega) hP hb hbL eb hV (fun a w K x3 x4 x9 x10 x11 oc1 vl1 hI hK hp hg hD hR hdeep hN wt0 X2 Y2 => ?_)
  have hw := hI.2.1
  obtain ⟨rfl, s2⟩ := kt_K c hR
  obtain ⟨mu, hmu⟩ := hX.1
  have hbq := ss_R_le hmu
  have hze := ss_X_e hX
  have hqe : q ≤ e + 1 := by
    rcases hX.2 with y | y | y <;> omega
  have x0 : x11 = 0 := by
    rcases hg.2.2 with z | z
    · exfalso
      rw [c] at z
      rcases z.2 with y | y
      · exact absurd y.2 (by decide)
      · exact absurd y (by decide)
    · exact z.1
  have hv0 : v0_F (x_typeKind w) (x_text b) (y_complete w) = 0 := by
    unfold v0_F
    rw [c, if_neg (fun z => absurd z.2 (by decide)), if_neg (by decide)]
  have h1 : bx_R p (nI L, nI N, x_bound, 0, -1, md_x x, x_at, x_tokenStart, x_textCount, x_escaped, x_valueSlot, x_valueName, nI d, x_outputLength, x_text, x_typeKind, x_typeDetail, x_typeLeast, x_typeMost, x_fieldCount, x_fieldName, x_fieldType, x_fieldNeeded, x_tagType, x_nodeKind, x_nodeValue, x_nodeParent, x_nodeName, x_nodeSlot, x_nodeStart, x_nodeTag, x_completeCount, x_openNode, x_openSlot, x_openNames, x_openNext, x_openComma, x_output) (b + 1) (nI L, nI (N + 1), x_bound, 0, -1, 7, nI b, nI b, nI 0, 0, nI a, x4, nI d, x_outputLength, x_text, x_typeKind, x_typeDetail, x_typeLeast, x_typeMost, x_fieldCount, x_fieldName, x_fieldType, x_fieldNeeded, x_tagType, upd x_nodeKind N (nI 1), upd vl1 N 0, upd x_nodeParent N x3, upd x_nodeName N x4, upd x_nodeSlot N (nI w), upd x_nodeStart N (nI b), upd x_nodeTag N (-1), x_completeCount, x_openNode, x_openSlot, x_openNames, x_openNext, x_openComma, x_output) := X2 _ (fun R r => ev_txt r)
  have eN : (nI N).toNatClampNeg = N := nI_clamp (by omega)
  have iN : vp_in (nI N) 40 := vp_in_nI hN (by decide)
  rcases tx_both (y_whole := y_whole) (y_inside := y_inside) (y_begin := y_begin) (y_end := y_end) (y_bad := y_bad) (y_nextName := y_nextName) (y_wantsName := y_wantsName) (y_wantsTag := y_wantsTag) (y_waiting := y_waiting) (y_scaled := y_scaled) (y_kind := y_kind) (y_value := y_value) (y_parent := y_parent) (y_name := y_name) (y_slotOf := y_slotOf) (y_placeOf := y_placeOf) (y_complete := y_complete) (y_openNode := y_openNode) (y_openType := y_openType) (y_openNames := y_openNames) (y_openChoice := y_openChoice) (y_todo := y_todo) (P := P) (d := d) (x_bound := x_bound) (x_outputLength := x_outputLength) (x_nodeKind := x_nodeKind) (x_nodeParent := x_nodeParent) (x_nodeName := x_nodeName) (x_nodeSlot := x_nodeSlot) (x_nodeStart := x_nodeStart) (x_nodeTag := x_nodeTag) (x_completeCount := x_completeCount) (x_openNode := x_openNode) (x_openSlot := x_openSlot) (x_openNames := x_openNames) (x_openNext := x_openNext) (x_openComma := x_openComma) (x_output := x_output) (a := a) (x3 := x3) (x4 := x4) (oc1 := oc1) (vl1 := vl1) hT hN hw s2 hbL hmu hqe (by omega) with ⟨j', h', a', hx2, hy2⟩ | ⟨z, p', j', h', a', hv, hx2, hy2⟩
  · obtain ⟨e', a2, hcut⟩ : ∃ e' a2, ∀ post : Int32 → SX → Prop, post 1 (nI L, nI (N + 1), 0, 1, nI zz, 7, a2, nI b, nI j', e', nI a, x4, nI d, x_outputLength, x_text, x_typeKind, x_typeDetail, x_typeLeast, x_typeMost, x_fieldCount, x_fieldName, x_fieldType, x_fieldNeeded, x_tagType, upd x_nodeKind N (nI 1), upd vl1 N h', upd x_nodeParent N x3, upd x_nodeName N x4, upd x_nodeSlot N (nI w), upd x_nodeStart N (nI b), upd x_nodeTag N (-1), x_completeCount, x_openNode, x_openSlot, x_openNames, x_openNext, x_openComma, x_output) → bx_L post q (nI L, nI (N + 1), x_bound, 0, -1, 7, a', nI b, nI j', 0, nI a, x4, nI d, x_outputLength, x_text, x_typeKind, x_typeDetail, x_typeLeast, x_typeMost, x_fieldCount, x_fieldName, x_fieldType, x_fieldNeeded, x_tagType, upd x_nodeKind N (nI 1), upd vl1 N h', upd x_nodeParent N x3, upd x_nodeName N x4, upd x_nodeSlot N (nI w), upd x_nodeStart N (nI b), upd x_nodeTag N (-1), x_completeCount, x_openNode, x_openSlot, x_openNames, x_openNext, x_openComma, x_output) := bx_cut hL (Or.inr rfl) hX
    have fin2 : ∃ VF, by_R slot k (nI L, nI P, y_bad, nI N, 0, -1, 0, nI d, y_nextName, y_wantsName, y_wantsTag, x_outputLength, y_waiting, y_scaled, x_typeKind, y_typeA, y_typeB, y_typeC, x_fieldName, x_fieldType, y_fields, y_tags, x_fieldNeeded, x_text, y_begin, y_end, y_inside, y_whole, y_kind, y_value, y_parent, y_name, y_slotOf, y_placeOf, y_complete, y_openNode, y_openType, y_openCount, y_openNames, y_openChoice, x_output, y_todo) P (nI L, nI P, nI zz, nI (N + 1), 0, -1, 0, nI d, y_nextName, y_wantsName, y_wantsTag, x_outputLength, y_waiting, y_scaled, x_typeKind, y_typeA, y_typeB, y_typeC, x_fieldName, x_fieldType, y_fields, y_tags, x_fieldNeeded, x_text, y_begin, y_end, y_inside, y_whole, upd y_kind N (nI 1), VF, upd y_parent N x3, upd y_name N x4, upd y_slotOf N (nI w), upd y_placeOf N (nI b), y_complete, y_openNode, y_openType, oc1, y_openNames, y_openChoice, x_output, y_todo) := by
      rw [← ebad]
      by_cases full : q = e + 1
      · obtain ⟨VF, pe, fin⟩ := yv_fin (K := 1) (v := h') hN hp F.1.1 F.1.2.1
        refine ⟨VF, ?_⟩
        subst hk
        refine Y2 _ (fun R r => yv_359 hN hw hg hD hR ⟨fun _ => ⟨fun _ => yt_txt (last := e + 1) (by omega) eb ee (Or.inr ⟨ew, rfl⟩) ?_, fun z => absurd c z⟩, fun z => absurd x0 z⟩)
        rw [hv0]
        refine hy2 _ ⟨1, br_t (nI_le (by omega) (by omega)) ⟨iN, ?_⟩⟩
        rw [eN]
        refine nm_r (up_up _ _ _ _) (fin R r)
      · obtain ⟨VF, pe, fin⟩ := yv_fin (K := 1) (v := 0) hN hp F.1.1 F.1.2.1
        have q30 : x_text q = 30 ∧ e = q := by
          rcases hX.2 with y | y | y
          · omega
          · exact ⟨y.2.1, y.2.2.1⟩
          · exact ⟨y.2.1, y.2.2.2.2.1⟩
        refine ⟨VF, ?_⟩
        subst hk
        refine Y2 _ (fun R r => yv_359 hN hw hg hD hR ⟨fun _ => ⟨fun _ => yt_txt (last := e + 1) (by omega) eb ee (Or.inr ⟨ew, rfl⟩) ?_, fun z => absurd c z⟩, fun z => absurd x0 z⟩)
        rw [hv0]
        refine hy2 _ ⟨0 + 1, br_f (nI_ge (by omega) (by omega)) (br_t rfl ⟨vp_in_nI (by omega) (by decide), ?_⟩)⟩
        rw [nI_clamp (by omega)]
        refine br_t q30.1 (nm_r (nI_1 q) (br_f (nI_nlt (by omega) (by omega)) (fin R r)))
    obtain ⟨VF, hy⟩ := fin2
    exact bo_cut hT hP (by omega) (fun post y => h1 post (hx2 post (hcut post y))) hy
  · obtain ⟨VF, pe, fin⟩ := yv_fin (K := 1) (v := hv) hN hp F.1.1 F.1.2.1
    have hy : by_R slot k (nI L, nI P, y_bad, nI N, 0, -1, 0, nI d, y_nextName, y_wantsName, y_wantsTag, x_outputLength, y_waiting, y_scaled, x_typeKind, y_typeA, y_typeB, y_typeC, x_fieldName, x_fieldType, y_fields, y_tags, x_fieldNeeded, x_text, y_begin, y_end, y_inside, y_whole, y_kind, y_value, y_parent, y_name, y_slotOf, y_placeOf, y_complete, y_openNode, y_openType, y_openCount, y_openNames, y_openChoice, x_output, y_todo) (k + 1) (nI L, nI P, y_bad, nI (N + 1), 6, nI z, 0, nI d, y_nextName, y_wantsName, y_wantsTag, x_outputLength, y_waiting, y_scaled, x_typeKind, y_typeA, y_typeB, y_typeC, x_fieldName, x_fieldType, y_fields, y_tags, x_fieldNeeded, x_text, y_begin, y_end, y_inside, y_whole, upd y_kind N (nI 1), VF, upd y_parent N x3, upd y_name N x4, upd y_slotOf N (nI w), upd y_placeOf N (nI b), y_complete, y_openNode, y_openType, oc1, y_openNames, y_openChoice, x_output, y_todo) := by
      refine Y2 _ (fun R r => yv_359 hN hw hg hD hR ⟨fun _ => ⟨fun _ => yt_txt (last := e + 1) (by omega) eb ee (Or.inr ⟨ew, rfl⟩) ?_, fun z => absurd c z⟩, fun z => absurd x0 z⟩)
      rw [hv0]
      exact hy2 _ (fin R r)
    exact bo_fault hT (f := 6) (z := nI z) (by decide) (bx_T h1 hx2) hy
end
end
section
/-! the bind: all parts -/
theorem sp_I_s {t : Nat → Int32} {L : Nat} {bg en wh : Nat → Int32} {k p x d : Nat} {g : Nat → Int32} {p' x' d' : Nat} {g' : Nat → Int32} (hI : sp_I x d g) (h : sp_P t L bg en wh k p x d g p' x' d' g') : sp_I x' d' g' ∧ p' ≤ L := by
  obtain ⟨i1, i2, i3, i4⟩ := hI
  obtain ⟨b, hb, hbL, -, -, h⟩ := h
  rcases h with ⟨-, -, rfl, -, rfl, rfl, -, rfl⟩ | ⟨-, -, rfl, -, rfl, rfl, -, rfl⟩ | ⟨-, -, h0, rfl, rfl, hg, -, rfl⟩ | ⟨-, -, rfl, rfl, rfl, -, rfl⟩ | ⟨-, hx, rfl, rfl, rfl, q, hW, -, rfl⟩ | ⟨-, -, rfl, rfl, rfl, -, rfl⟩ | ⟨-, -, rfl, rfl, rfl, -, rfl⟩ | ⟨-, -, rfl, rfl, rfl, -, rfl⟩ | ⟨-, -, rfl, rfl, rfl, q, hW, -, -, rfl⟩ | ⟨-, -, rfl, rfl, rfl, q, hW, -, rfl⟩
  · exact ⟨⟨by omega, fun z => absurd z (by decide), fun z => absurd z (by decide), fun l hl => i4 l (by omega)⟩, by omega⟩
  · exact ⟨⟨by omega, fun z => absurd z (by decide), fun z => absurd z (by decide), fun l hl => i4 l (by omega)⟩, by omega⟩
  · rcases hg with ⟨hg, rfl⟩ | ⟨hg, rfl⟩
    · exact ⟨⟨by omega, fun z => absurd z (by decide), fun z => absurd z (by decide), i4⟩, by omega⟩
    · exact ⟨⟨by omega, fun z => absurd z (by decide), fun _ => ⟨h0, hg⟩, i4⟩, by omega⟩
  · exact ⟨⟨by omega, fun z => absurd z (by decide), fun z => absurd z (by decide), i4⟩, by omega⟩
  · exact ⟨⟨by omega, fun z => absurd z (by decide), fun _ => i3 (by omega), i4⟩, hW.1⟩
  · refine ⟨⟨by omega, fun z => absurd z (by decide), fun _ => ⟨by omega, pk_us⟩, fun l hl => ?_⟩, by omega⟩
    by_cases z : l + 1 = d + 1
    · rw [z]; exact Or.inr pk_us
    · rw [pk_un z]; exact i4 l (by omega)
  · refine ⟨⟨by omega, fun _ => ⟨by omega, pk_us⟩, fun z => absurd z (by decide), fun l hl => ?_⟩, by omega⟩
    by_cases z : l + 1 = d + 1
    · rw [z]; exact Or.inl pk_us
    · rw [pk_un z]; exact i4 l (by omega)
  · exact ⟨⟨by omega, fun z => absurd z (by decide), fun z => absurd z (by decide), i4⟩, by omega⟩
  · exact ⟨⟨by omega, fun z => absurd z (by decide), fun z => absurd z (by decide), i4⟩, (ns_W_le hW).2⟩
  · exact ⟨⟨by omega, fun z => absurd z (by decide), fun z => absurd z (by decide), i4⟩, hW.1⟩
section
variable {x_bound x_at x_tokenStart x_textCount x_escaped x_valueSlot x_valueName x_outputLength : Int32} {x_text x_typeKind x_typeDetail x_typeLeast x_typeMost x_fieldCount x_fieldName x_fieldType x_fieldNeeded x_tagType x_nodeKind x_nodeValue x_nodeParent x_nodeName x_nodeSlot x_nodeStart x_nodeTag x_completeCount x_openNode x_openSlot x_openNames x_openNext x_openComma x_output : Nat → Int32} {y_bad y_nextName y_wantsName y_wantsTag y_waiting y_scaled : Int32} {y_typeA y_typeB y_typeC y_fields y_tags y_begin y_end y_inside y_whole y_kind y_value y_parent y_name y_slotOf y_placeOf y_complete y_openNode y_openType y_openCount y_openNames y_openChoice y_todo : Nat → Int32} {L P k p x d N : Nat} {g : Nat → Int32} {dp : Nat → Nat} {slot : Int32}
theorem tg_x0 (F : br_F slot L k p x d N g x_text x_typeKind x_fieldCount x_fieldName x_fieldType y_begin y_end x_nodeKind x_nodeValue x_nodeParent x_nodeName x_nodeSlot x_nodeStart x_nodeTag x_completeCount x_openNode x_openSlot x_openNames x_valueSlot x_valueName dp y_kind y_value y_parent y_name y_slotOf y_placeOf y_complete y_openNode y_openType y_openCount y_openNames y_openChoice y_nextName y_wantsName y_wantsTag) (hx01 : x < 2) (h0 : 0 < d) (es : x_openSlot (d - 1) = -1) : x = 0 := by
  obtain ⟨-, -, hd6, hlv, -, -, hx⟩ := F
  by_cases z : x = 0
  · exact z
  · exfalso
    obtain ⟨d', rfl⟩ : ∃ d', d = d' + 1 := ⟨d - 1, by omega⟩
    have hg : g (d' + 1) = 12 := by
      rcases hx with w | w | w | w | w | w | w | w | w | w
      all_goals first | exact w.2.2.1 | (have := w.1; omega)
    obtain ⟨n, s, -, hs, -, -, -, -, -, K⟩ := hlv d' (by omega)
    rcases K with ⟨-, -, -, e, -⟩ | ⟨q, -⟩
    · have es' : x_openSlot d' = -1 := es
      rw [es'] at e; exact hh_m1' (by omega) e
    · rw [hg] at q; exact absurd q (by decide)
end
section
variable {x_bound x_outputLength : Int32} {x_text x_typeKind x_typeDetail x_typeLeast x_typeMost x_fieldCount x_fieldName x_fieldType x_fieldNeeded x_tagType x_openNext x_openComma x_output : Nat → Int32} {y_bad y_waiting : Int32} {y_typeA y_typeB y_typeC y_fields y_tags y_begin y_end y_inside y_whole y_todo : Nat → Int32} {L P : Nat} {slot : Int32}
theorem br_main (hT : rl_T L x_text x_typeKind x_typeDetail x_typeLeast x_typeMost x_fieldCount x_fieldName x_fieldType x_fieldNeeded x_tagType y_typeA y_typeB y_typeC y_fields y_tags) (hP : P ≤ 96) (hslot : ∃ a, a < 12 ∧ slot = nI a) : ∀ (m k p x d N : Nat) (g : Nat → Int32) (dp : Nat → Nat) (x_at x_tokenStart x_textCount x_escaped x_valueSlot x_valueName : Int32) (x_nodeKind x_nodeValue x_nodeParent x_nodeName x_nodeSlot x_nodeStart x_nodeTag x_completeCount x_openNode x_openSlot x_openNames : Nat → Int32) (y_nextName y_wantsName y_wantsTag y_scaled : Int32) (y_kind y_value y_parent y_name y_slotOf y_placeOf y_complete y_openNode y_openType y_openCount y_openNames y_openChoice : Nat → Int32),
    k + m = P → p ≤ L → sp_I x d g → sp_W x_text L y_begin y_end y_whole y_bad m k p x d g → br_F slot L k p x d N g x_text x_typeKind x_fieldCount x_fieldName x_fieldType y_begin y_end x_nodeKind x_nodeValue x_nodeParent x_nodeName x_nodeSlot x_nodeStart x_nodeTag x_completeCount x_openNode x_openSlot x_openNames x_valueSlot x_valueName dp y_kind y_value y_parent y_name y_slotOf y_placeOf y_complete y_openNode y_openType y_openCount y_openNames y_openChoice y_nextName y_wantsName y_wantsTag → bo_O slot p k (nI L, nI N, x_bound, 0, -1, md_x x, x_at, x_tokenStart, x_textCount, x_escaped, x_valueSlot, x_valueName, nI d, x_outputLength, x_text, x_typeKind, x_typeDetail, x_typeLeast, x_typeMost, x_fieldCount, x_fieldName, x_fieldType, x_fieldNeeded, x_tagType, x_nodeKind, x_nodeValue, x_nodeParent, x_nodeName, x_nodeSlot, x_nodeStart, x_nodeTag, x_completeCount, x_openNode, x_openSlot, x_openNames, x_openNext, x_openComma, x_output) (nI L, nI P, y_bad, nI N, 0, -1, 0, nI d, y_nextName, y_wantsName, y_wantsTag, x_outputLength, y_waiting, y_scaled, x_typeKind, y_typeA, y_typeB, y_typeC, x_fieldName, x_fieldType, y_fields, y_tags, x_fieldNeeded, x_text, y_begin, y_end, y_inside, y_whole, y_kind, y_value, y_parent, y_name, y_slotOf, y_placeOf, y_complete, y_openNode, y_openType, y_openCount, y_openNames, y_openChoice, x_output, y_todo) := by
  intro m
  induction m with
  | zero =>
    intro k p x d N g dp x_at x_tokenStart x_textCount x_escaped x_valueSlot x_valueName x_nodeKind x_nodeValue x_nodeParent x_nodeName x_nodeSlot x_nodeStart x_nodeTag x_completeCount x_openNode x_openSlot x_openNames y_nextName y_wantsName y_wantsTag y_scaled y_kind y_value y_parent y_name y_slotOf y_placeOf y_complete y_openNode y_openType y_openCount y_openNames y_openChoice hk hpL hI hW F
    have : k = P := by omega
    subst this
    rcases hW with ⟨e, rfl, rfl, hs⟩ | ⟨z, e, hz, hs, h1, h2⟩
    · rw [e]; exact en_ok hT F hP hs
    · rw [e]; exact en_bad hT F hI hP hz hs (fun w => ⟨(h1 w).1, (h1 w).2⟩) h2
  | succ m ih =>
    intro k p x d N g dp x_at x_tokenStart x_textCount x_escaped x_valueSlot x_valueName x_nodeKind x_nodeValue x_nodeParent x_nodeName x_nodeSlot x_nodeStart x_nodeTag x_completeCount x_openNode x_openSlot x_openNames y_nextName y_wantsName y_wantsTag y_scaled y_kind y_value y_parent y_name y_slotOf y_placeOf y_complete y_openNode y_openType y_openCount y_openNames y_openChoice hk hpL hI hW F
    have hkP : k < P := by omega
    have hL := hT.1
    rcases hW with ⟨p', x', d', g', hPp, hW'⟩ | ⟨m0, z, hXp, ebad⟩
    · obtain ⟨hI', hpL'⟩ := sp_I_s hI hPp
      obtain ⟨b, hb, hbL, eb, ew, hcs⟩ := hPp
      -- a value that stands where a tag must
      have tagT : x < 2 → 0 < d ∧ x_openSlot (d - 1) = -1 → sp_V (x_text b) → ¬ sp_B (x_text b) → bo_O slot p k (nI L, nI N, x_bound, 0, -1, md_x x, x_at, x_tokenStart, x_textCount, x_escaped, x_valueSlot, x_valueName, nI d, x_outputLength, x_text, x_typeKind, x_typeDetail, x_typeLeast, x_typeMost, x_fieldCount, x_fieldName, x_fieldType, x_fieldNeeded, x_tagType, x_nodeKind, x_nodeValue, x_nodeParent, x_nodeName, x_nodeSlot, x_nodeStart, x_nodeTag, x_completeCount, x_openNode, x_openSlot, x_openNames, x_openNext, x_openComma, x_output) (nI L, nI P, y_bad, nI N, 0, -1, 0, nI d, y_nextName, y_wantsName, y_wantsTag, x_outputLength, y_waiting, y_scaled, x_typeKind, y_typeA, y_typeB, y_typeC, x_fieldName, x_fieldType, y_fields, y_tags, x_fieldNeeded, x_text, y_begin, y_end, y_inside, y_whole, y_kind, y_value, y_parent, y_name, y_slotOf, y_placeOf, y_complete, y_openNode, y_openType, y_openCount, y_openNames, y_openChoice, x_output, y_todo) := by
        intro hx01 hat hV hB
        have := tg_x0 F hx01 hat.1 hat.2
        subst this
        obtain ⟨d0, rfl⟩ : ∃ d0, d = d0 + 1 := ⟨d - 1, by omega⟩
        exact st_tagT hT F hat.2 hkP hP hb hbL eb hV hB
      rcases hcs with ⟨c, hx, rfl, hg, rfl, rfl, ee, rfl⟩ | ⟨c, hx, rfl, hg, rfl, rfl, ee, rfl⟩ | ⟨c, rfl, h0, rfl, rfl, hg, ee, rfl⟩ | ⟨c, rfl, rfl, rfl, rfl, ee, rfl⟩ | ⟨c, hx, rfl, rfl, rfl, q, hS, ee, rfl⟩ | ⟨c, hx, rfl, rfl, rfl, ee, rfl⟩ | ⟨c, hx, rfl, rfl, rfl, ee, rfl⟩ | ⟨c, hx, rfl, rfl, rfl, ee, rfl⟩ | ⟨hB, hx, rfl, rfl, rfl, q, hS, hbq, ee, rfl⟩ | ⟨c, hx, rfl, rfl, rfl, q, hS, ee, rfl⟩
      · exact st_cl hT hx F hkP hP hb hbL hpL eb c hg (fun _ z => ih _ _ _ _ _ _ _ _ _ _ _ _ _ _ _ _ _ _ _ _ _ _ _ _ _ _ _ _ _ _ _ _ _ _ _ _ _ _ _ _ (by omega) hpL' hI' hW' z)
      · exact st_cr hT hx F hkP hP hb hbL hpL eb c hg (fun _ _ _ z => ih _ _ _ _ _ _ _ _ _ _ _ _ _ _ _ _ _ _ _ _ _ _ _ _ _ _ _ _ _ _ _ _ _ _ _ _ _ _ _ _ (by omega) hpL' hI' hW' z)
      · obtain ⟨d0, rfl⟩ : ∃ d0, d' = d0 + 1 := ⟨d' - 1, by omega⟩
        refine st_comma hT F hkP hP hb hbL hpL eb c (fun _ _ x2 hx2 z => ?_)
        have ex : x2 = x' := by
          rcases hx2 with ⟨q1, q2⟩ | ⟨q1, q2⟩ <;> rcases hg with ⟨w1, w2⟩ | ⟨w1, w2⟩
          · omega
          · rw [q1] at w1; exact absurd w1 (by decide)
          · rw [q1] at w1; exact absurd w1 (by decide)
          · omega
        subst ex
        exact ih _ _ _ _ _ _ _ _ _ _ _ _ _ _ _ _ _ _ _ _ _ _ _ _ _ _ _ _ _ _ _ _ _ _ _ _ _ _ _ _ (by omega) hpL' hI' hW' z
      · obtain ⟨d0, rfl⟩ : ∃ d0, d' = d0 + 1 := ⟨d' - 1, by have := (hI.2.2.1 (by omega)).1; omega⟩
        exact st_colon hT F hkP hP hb hbL hpL eb c (fun _ z => ih _ _ _ _ _ _ _ _ _ _ _ _ _ _ _ _ _ _ _ _ _ _ _ _ _ _ _ _ _ _ _ _ _ _ _ _ _ _ _ _ (by omega) hpL' hI' hW' z)
      · obtain ⟨d0, rfl⟩ : ∃ d0, d' = d0 + 1 := ⟨d' - 1, by have := (hI.2.2.1 (by omega)).1; omega⟩
        exact st_name hT hx F hkP hP hb hbL hpL eb ee ew c hS (fun _ _ _ _ _ _ _ z => ih _ _ _ _ _ _ _ _ _ _ _ _ _ _ _ _ _ _ _ _ _ _ _ _ _ _ _ _ _ _ _ _ _ _ _ _ _ _ _ _ (by omega) hpL' hI' hW' z)
      · by_cases hat : 0 < d ∧ x_openSlot (d - 1) = -1
        · refine tagT hx hat (Or.inr (Or.inl c)) ?_
          rw [c]; rintro (q | q)
          · exact absurd q.2 (by decide)
          · exact absurd q (by decide)
        · exact st_open hT F hx (fun h e => hat ⟨h, e⟩) hslot hkP hP hb hbL hpL eb (fun w => by rw [c] at w; exact absurd w (by decide)) (fun _ => (fun z => ih _ _ _ _ _ _ _ _ _ _ _ _ _ _ _ _ _ _ _ _ _ _ _ _ _ _ _ _ _ _ _ _ _ _ _ _ _ _ _ _ (by omega) hpL' hI' hW' z)) (Or.inl c)
      · by_cases hat : 0 < d ∧ x_openSlot (d - 1) = -1
        · refine tagT hx hat (Or.inr (Or.inr (Or.inl c))) ?_
          rw [c]; rintro (q | q)
          · exact absurd q.2 (by decide)
          · exact absurd q (by decide)
        · exact st_open hT F hx (fun h e => hat ⟨h, e⟩) hslot hkP hP hb hbL hpL eb (fun _ => (fun z => ih _ _ _ _ _ _ _ _ _ _ _ _ _ _ _ _ _ _ _ _ _ _ _ _ _ _ _ _ _ _ _ _ _ _ _ _ _ _ _ _ (by omega) hpL' hI' hW' z)) (fun w => by rw [c] at w; exact absurd w (by decide)) (Or.inr c)
      · by_cases hat : 0 < d' ∧ x_openSlot (d' - 1) = -1
        · refine tagT hx hat (Or.inr (Or.inr (Or.inr (Or.inr (Or.inr c))))) ?_
          rcases c with c | c | c <;> rw [c]
          all_goals
            rintro (q | q)
            · exact absurd q.2 (by decide)
            · exact absurd q (by decide)
        · exact st_lit hT F hx (fun h e => hat ⟨h, e⟩) hslot hkP hP hb hbL hpL eb c (fun z => ih _ _ _ _ _ _ _ _ _ _ _ _ _ _ _ _ _ _ _ _ _ _ _ _ _ _ _ _ _ _ _ _ _ _ _ _ _ _ _ _ (by omega) hpL' hI' hW' z)
      · by_cases hat : 0 < d' ∧ x_openSlot (d' - 1) = -1
        · have := tg_x0 F hx hat.1 hat.2
          subst this
          obtain ⟨d0, rfl⟩ : ∃ d0, d' = d0 + 1 := ⟨d' - 1, by omega⟩
          exact st_tag hT F hat.2 hkP hP hb hbL hpL eb ee ew hB hS (fun _ _ _ _ _ _ _ z => ih _ _ _ _ _ _ _ _ _ _ _ _ _ _ _ _ _ _ _ _ _ _ _ _ _ _ _ _ _ _ _ _ _ _ _ _ _ _ _ _ (by omega) hpL' hI' hW' z)
        · exact st_num hT F hx (fun h e => hat ⟨h, e⟩) hslot hkP hP hb hbL hpL eb ee ew hB hS (fun z => ih _ _ _ _ _ _ _ _ _ _ _ _ _ _ _ _ _ _ _ _ _ _ _ _ _ _ _ _ _ _ _ _ _ _ _ _ _ _ _ _ (by omega) hpL' hI' hW' z)
      · by_cases hat : 0 < d' ∧ x_openSlot (d' - 1) = -1
        · refine tagT hx hat (Or.inr (Or.inr (Or.inr (Or.inl c)))) ?_
          rw [c]; rintro (q | q)
          · exact absurd q.2 (by decide)
          · exact absurd q (by decide)
        · exact st_txt hT F hx (fun h e => hat ⟨h, e⟩) hslot hkP hP hb hbL hpL eb ee ew c hS (fun z => ih _ _ _ _ _ _ _ _ _ _ _ _ _ _ _ _ _ _ _ _ _ _ _ _ _ _ _ _ _ _ _ _ _ _ _ _ _ _ _ _ (by omega) hpL' hI' hW' z)
    · obtain ⟨b, hb, hbL, eb, ew, hcs⟩ := hXp
      have hk1 : k + 1 = P := by omega
      rcases hcs with ⟨hB, hx, hX, hbz, ee⟩ | ⟨c, hx, q, e, hX, ee⟩ | ⟨c, hx, q, e, hX, ee⟩
      · by_cases hat : 0 < d ∧ x_openSlot (d - 1) = -1
        · have := tg_x0 F hx hat.1 hat.2
          subst this
          obtain ⟨d0, rfl⟩ : ∃ d0, d = d0 + 1 := ⟨d - 1, by omega⟩
          rw [ebad]
          exact st_tagX hT F hat.2 hk1 hP hb hbL eb ew hB hX
        · exact st_numX hT F hx (fun h e => hat ⟨h, e⟩) hslot hk1 hP hb hbL eb ew hB hX ebad
      · by_cases hat : 0 < d ∧ x_openSlot (d - 1) = -1
        · have := tg_x0 F hx hat.1 hat.2
          subst this
          obtain ⟨d0, rfl⟩ : ∃ d0, d = d0 + 1 := ⟨d - 1, by omega⟩
          refine st_tagT hT F hat.2 hkP hP hb hbL eb (Or.inr (Or.inr (Or.inr (Or.inl c)))) ?_
          rw [c]; rintro (q | q)
          · exact absurd q.2 (by decide)
          · exact absurd q (by decide)
        · exact st_txtX hT F hx (fun h e => hat ⟨h, e⟩) hslot hk1 hP hb hbL eb ee ew c hX ebad
      · obtain ⟨d0, rfl⟩ : ∃ d0, d = d0 + 1 := ⟨d - 1, by have := (hI.2.2.1 (by omega)).1; omega⟩
        rw [ebad]
        exact st_ncut hT hx F hk1 hP hb hbL eb ew c hX
end
end
section
/-! bind -/
def zz_F (f : Nat → Int32) (i e : Nat) : Nat → Int32 := fun j => if i ≤ j ∧ j < e then 0 else f j
theorem zz_0 (f : Nat → Int32) (i : Nat) : zz_F f i i = f := by
  funext j; unfold zz_F; rw [if_neg (by omega)]
theorem zz_1 (f : Nat → Int32) {i e : Nat} (h : i < e) : zz_F (upd f i 0) (i + 1) e = zz_F f i e := by
  funext j; unfold zz_F upd
  by_cases a : j = i
  · rw [if_neg (by omega), if_pos a, if_pos (by omega)]
  · rw [if_neg a]
    by_cases b : i ≤ j ∧ j < e
    · rw [if_pos (by omega), if_pos b]
    · rw [if_neg (by omega), if_neg b]
theorem zz_in {f : Nat → Int32} {j : Nat} (h : j < 12) : zz_F f 0 12 j = 0 := if_pos ⟨by omega, h⟩
section
variable {x_length x_nodeCount x_bound x_fault x_faultPlace x_mode x_at x_tokenStart x_textCount x_escaped x_valueSlot x_valueName x_depth x_outputLength : Int32} {x_text x_typeKind x_typeDetail x_typeLeast x_typeMost x_fieldCount x_fieldName x_fieldType x_fieldNeeded x_tagType x_nodeKind x_nodeValue x_nodeParent x_nodeName x_nodeSlot x_nodeStart x_nodeTag x_openNode x_openSlot x_openNames x_openNext x_openComma x_output : Nat → Int32}
theorem sb_loop {post : SX → Prop} : ∀ (m i : Nat) (f : Nat → Int32), i + m = 12 → post (x_length, x_nodeCount, x_bound, x_fault, x_faultPlace, x_mode, x_at, x_tokenStart, x_textCount, x_escaped, x_valueSlot, x_valueName, x_depth, x_outputLength, x_text, x_typeKind, x_typeDetail, x_typeLeast, x_typeMost, x_fieldCount, x_fieldName, x_fieldType, x_fieldNeeded, x_tagType, x_nodeKind, x_nodeValue, x_nodeParent, x_nodeName, x_nodeSlot, x_nodeStart, x_nodeTag, zz_F f i 12, x_openNode, x_openSlot, x_openNames, x_openNext, x_openComma, x_output) → wX_startBinding_37 post x_length x_nodeCount x_bound x_fault x_faultPlace x_mode x_at x_tokenStart x_textCount x_escaped x_valueSlot x_valueName x_depth x_outputLength (m + 1) (nI i) x_text x_typeKind x_typeDetail x_typeLeast x_typeMost x_fieldCount x_fieldName x_fieldType x_fieldNeeded x_tagType x_nodeKind x_nodeValue x_nodeParent x_nodeName x_nodeSlot x_nodeStart x_nodeTag f x_openNode x_openSlot x_openNames x_openNext x_openComma x_output := by
  intro m
  induction m with
  | zero =>
    intro i f hi h
    have hi' : i = 12 := by omega
    subst hi'
    rw [zz_0] at h
    exact br_t (by decide) h
  | succ m ih =>
    intro i f hi h
    refine br_f (nI_ge (b := 12) (by omega) (by decide)) ⟨vp_in_nI (by omega) (by decide), nm_e (nm_r (nI_1 i) ?_)⟩
    rw [nI_clamp (by omega)]
    refine ih (i + 1) _ (by omega) ?_
    rw [zz_1 f (by omega)]; exact h
end
section
variable {y_length y_parts y_bad y_nodes y_fault y_place y_bound y_depth y_nextName y_wantsName y_wantsTag y_printed y_waiting y_scaled : Int32} {y_sort y_typeA y_typeB y_typeC y_fieldName y_fieldType y_fields y_tags y_needed y_text y_begin y_end y_inside y_whole y_kind y_value y_parent y_name y_slotOf y_placeOf y_openNode y_openType y_openCount y_openNames y_openChoice y_output y_todo : Nat → Int32}
theorem yb_loop {post : Int32 → SY → Prop} {slot : Int32} : ∀ (m i : Nat) (f : Nat → Int32), i + m = 12 → (∃ n, wY_bind_73 post slot n (nI 0) y_length y_parts y_bad y_nodes y_fault y_place y_bound y_depth y_nextName y_wantsName y_wantsTag y_printed y_waiting y_scaled y_sort y_typeA y_typeB y_typeC y_fieldName y_fieldType y_fields y_tags y_needed y_text y_begin y_end y_inside y_whole y_kind y_value y_parent y_name y_slotOf y_placeOf (zz_F f i 12) y_openNode y_openType y_openCount y_openNames y_openChoice y_output y_todo) → wY_bind_52 post slot y_length y_parts y_bad y_nodes y_fault y_place y_bound y_depth y_nextName y_wantsName y_wantsTag y_printed y_waiting y_scaled (m + 1) (nI i) y_sort y_typeA y_typeB y_typeC y_fieldName y_fieldType y_fields y_tags y_needed y_text y_begin y_end y_inside y_whole y_kind y_value y_parent y_name y_slotOf y_placeOf f y_openNode y_openType y_openCount y_openNames y_openChoice y_output y_todo := by
  intro m
  induction m with
  | zero =>
    intro i f hi h
    have hi' : i = 12 := by omega
    subst hi'
    rw [zz_0] at h
    exact br_t (by decide) h
  | succ m ih =>
    intro i f hi h
    refine br_f (nI_ge (b := 12) (by omega) (by decide)) ⟨vp_in_nI (by omega) (by decide), nm_e (nm_r (nI_1 i) ?_)⟩
    rw [nI_clamp (by omega)]
    refine ih (i + 1) _ (by omega) ?_
    rw [zz_1 f (by omega)]; exact h
end
theorem i_vc_bind {k : Nat} {u : SX} {v : SY} (I : i_Rel k u v) (hk : k + 6 ≤ 3072) (v1 : Int32) : wpX_bind (fun r u' => wpY_bind (fun r' v' => r' = r ∧ i_Rel (k + 6) u' v') v v1) u v1 := by
  obtain ⟨x_nodeCount, x_bound, x_fault, x_faultPlace, x_mode, x_at, x_tokenStart, x_textCount, x_escaped, x_valueSlot, x_valueName, x_depth, x_outputLength, x_text, x_typeKind, x_typeDetail, x_typeLeast, x_typeMost, x_fieldCount, x_fieldName, x_fieldType, x_fieldNeeded, x_tagType, x_nodeKind, x_nodeValue, x_nodeParent, x_nodeName, x_nodeSlot, x_nodeStart, x_nodeTag, x_completeCount, x_openNode, x_openSlot, x_openNames, x_openNext, x_openComma, x_output, y_parts, y_bad, y_nodes, y_fault, y_depth, y_nextName, y_wantsName, y_wantsTag, y_waiting, y_scaled, y_typeA, y_typeB, y_typeC, y_fields, y_tags, y_begin, y_end, y_inside, y_whole, y_kind, y_value, y_parent, y_name, y_slotOf, y_placeOf, y_complete, y_openNode, y_openType, y_openCount, y_openNames, y_openChoice, y_todo, L, rfl, rfl, hT, hB⟩ := I
  have hL := hT.1
  unfold wpX_bind
  dsimp only
  refine ⟨12 + 1, sb_loop 12 0 x_completeCount rfl ?_⟩
  dsimp only
  rcases hh_sl v1 with h | ⟨a, ha, rfl⟩
  · have f2 : ¬ (2 : Int32) = 0 := by decide
    refine xs_0 h (br_t rfl (bx_F (p := 0) f2 ?_))
    unfold wpY_bind
    dsimp only
    exact yi_0 11 (by decide) h (br_t rfl (br_t rfl ⟨rfl, rl_mk hT (Or.inl rfl)⟩))
  · refine xs_1 ha (br_f (by decide) ?_)
    -- the reference's parts
    obtain ⟨M, bad, g', bg', en', wh', hM, -, hW, hsplit⟩ := ys_run (y_text := x_text) (y_nodes := y_nodes) (y_fault := 0) (y_place := -1) (y_bound := 0) (y_depth := y_depth) (y_nextName := y_nextName) (y_wantsName := y_wantsName) (y_wantsTag := y_wantsTag) (y_printed := x_outputLength) (y_waiting := y_waiting) (y_scaled := y_scaled) (y_sort := x_typeKind) (y_typeA := y_typeA) (y_typeB := y_typeB) (y_typeC := y_typeC) (y_fieldName := x_fieldName) (y_fieldType := x_fieldType) (y_fields := y_fields) (y_tags := y_tags) (y_needed := x_fieldNeeded) (y_kind := y_kind) (y_value := y_value) (y_parent := y_parent) (y_name := y_name) (y_slotOf := y_slotOf) (y_placeOf := y_placeOf) (y_complete := y_complete) (y_openNode := y_openNode) (y_openType := y_openType) (y_openCount := y_openCount) (y_openNames := y_openNames) (y_openChoice := y_openChoice) (y_output := x_output) (y_todo := y_todo) hL hT.2.1 (L + 1) 0 0 0 0 y_inside y_begin y_end y_whole (by omega) (by omega) (by omega) (by omega) ⟨by omega, fun z => absurd z (by decide), fun z => absurd z (by decide), fun l hl => absurd hl (by omega)⟩
    rw [Nat.zero_add] at hM hsplit
    obtain ⟨r, u', v', hx, hy, hR⟩ := br_main (x_bound := x_bound) (x_outputLength := x_outputLength) (x_openNext := x_openNext) (x_openComma := x_openComma) (x_output := x_output) (y_bad := bad) (y_waiting := y_waiting) (y_begin := bg') (y_end := en') (y_whole := wh') (y_inside := g') (y_todo := y_todo) (P := M) hT (by omega) ⟨a, ha, rfl⟩ M 0 0 0 0 0 y_inside (fun _ => 0) x_at x_tokenStart x_textCount x_escaped (nI a) (-1) x_nodeKind x_nodeValue x_nodeParent x_nodeName x_nodeSlot x_nodeStart x_nodeTag (zz_F x_completeCount 0 12) x_openNode x_openSlot x_openNames y_nextName y_wantsName y_wantsTag y_scaled y_kind y_value y_parent y_name y_slotOf y_placeOf (zz_F y_complete 0 12) y_openNode y_openType y_openCount y_openNames y_openChoice (by omega) (by omega) ⟨by omega, fun z => absurd z (by decide), fun z => absurd z (by decide), fun l hl => absurd hl (by omega)⟩ hW
      ⟨⟨fun i hi => absurd hi (by omega), fun i hi => absurd hi (by omega), fun i hi => absurd hi (by omega), fun i hi => absurd hi (by omega), fun i hi => absurd hi (by omega), fun i hi => absurd hi (by omega)⟩, ⟨by omega, fun i hi => absurd hi (by omega), fun c c' hc => absurd hc (by omega)⟩, by omega, fun l hl => absurd hl (by omega), fun s hs => ⟨by rw [zz_in hs, zz_in hs], ⟨0, by omega, by rw [zz_in hs]; rfl⟩, fun _ => zz_in hs⟩, ⟨fun i hi => absurd hi (by omega), fun i j _ hj => absurd hj (by omega)⟩, Or.inl ⟨rfl, rfl, rfl, rfl, rfl⟩⟩
    refine hx _ ?_
    unfold wpY_bind
    dsimp only
    refine yi_1 11 (by decide) (by omega) (br_f (by decide) ?_)
    refine hsplit _ ?_
    refine ⟨12 + 1, yb_loop 12 0 y_complete rfl ?_⟩
    exact hy _ ⟨rfl, hR⟩
end
section
/-! printing: characters written, as lists -/
def ow_1 (o : Nat → Int32) (m : Nat) (c : Int32) : Nat → Int32 := if m < 192 then upd o m c else o
def ow_L (o : Nat → Int32) (m : Nat) : List Int32 → Nat → Int32
  | [] => o
  | c :: l => ow_L (ow_1 o m c) (m + 1) l
theorem ow_app (l2 : List Int32) : ∀ (l1 : List Int32) (o : Nat → Int32) (m : Nat), ow_L o m (l1 ++ l2) = ow_L (ow_L o m l1) (m + l1.length) l2
  | [], o, m => rfl
  | c :: l, o, m => by
    show ow_L (ow_1 o m c) (m + 1) (l ++ l2) = _
    rw [ow_app l2 l, List.length_cons, show m + (l.length + 1) = m + 1 + l.length from by omega]
    rfl
section
variable {x_length x_nodeCount x_bound x_fault x_faultPlace x_mode x_at x_tokenStart x_textCount x_escaped x_valueSlot x_valueName x_depth : Int32} {x_text x_typeKind x_typeDetail x_typeLeast x_typeMost x_fieldCount x_fieldName x_fieldType x_fieldNeeded x_tagType x_nodeKind x_nodeValue x_nodeParent x_nodeName x_nodeSlot x_nodeStart x_nodeTag x_completeCount x_openNode x_openSlot x_openNames x_openNext x_openComma x_output : Nat → Int32} {m : Nat} {c : Int32}
theorem wr_x {Q : SX → Prop} (hm : m < 1000000) (h : Q (x_length, x_nodeCount, x_bound, x_fault, x_faultPlace, x_mode, x_at, x_tokenStart, x_textCount, x_escaped, x_valueSlot, x_valueName, x_depth, nI (m + 1), x_text, x_typeKind, x_typeDetail, x_typeLeast, x_typeMost, x_fieldCount, x_fieldName, x_fieldType, x_fieldNeeded, x_tagType, x_nodeKind, x_nodeValue, x_nodeParent, x_nodeName, x_nodeSlot, x_nodeStart, x_nodeTag, x_completeCount, x_openNode, x_openSlot, x_openNames, x_openNext, x_openComma, ow_1 x_output m c)) : wpX_write Q (x_length, x_nodeCount, x_bound, x_fault, x_faultPlace, x_mode, x_at, x_tokenStart, x_textCount, x_escaped, x_valueSlot, x_valueName, x_depth, nI m, x_text, x_typeKind, x_typeDetail, x_typeLeast, x_typeMost, x_fieldCount, x_fieldName, x_fieldType, x_fieldNeeded, x_tagType, x_nodeKind, x_nodeValue, x_nodeParent, x_nodeName, x_nodeSlot, x_nodeStart, x_nodeTag, x_completeCount, x_openNode, x_openSlot, x_openNames, x_openNext, x_openComma, x_output) c := by
  unfold ow_1 at h
  rcases Nat.lt_or_ge m 192 with w | w
  · rw [if_pos w] at h
    refine br_f (nI_ge (b := 192) w (by decide)) ⟨vp_in_nI w (by decide), ?_⟩
    rw [nI_clamp (by omega)]
    exact nm_e (nm_r (nI_1 m) h)
  · rw [if_neg (by omega)] at h
    exact br_t (nI_le (a := 192) w (by omega)) (nm_r (nI_1 m) h)
end
section
variable {y_length y_parts y_bad y_nodes y_fault y_place y_bound y_depth y_nextName y_wantsName y_wantsTag y_waiting y_scaled : Int32} {y_sort y_typeA y_typeB y_typeC y_fieldName y_fieldType y_fields y_tags y_needed y_text y_begin y_end y_inside y_whole y_kind y_value y_parent y_name y_slotOf y_placeOf y_complete y_openNode y_openType y_openCount y_openNames y_openChoice y_output y_todo : Nat → Int32} {m : Nat} {c : Int32}
theorem ou_y {Q : SY → Prop} (hm : m < 1000000) (h : Q (y_length, y_parts, y_bad, y_nodes, y_fault, y_place, y_bound, y_depth, y_nextName, y_wantsName, y_wantsTag, nI (m + 1), y_waiting, y_scaled, y_sort, y_typeA, y_typeB, y_typeC, y_fieldName, y_fieldType, y_fields, y_tags, y_needed, y_text, y_begin, y_end, y_inside, y_whole, y_kind, y_value, y_parent, y_name, y_slotOf, y_placeOf, y_complete, y_openNode, y_openType, y_openCount, y_openNames, y_openChoice, ow_1 y_output m c, y_todo)) : wpY_out Q (y_length, y_parts, y_bad, y_nodes, y_fault, y_place, y_bound, y_depth, y_nextName, y_wantsName, y_wantsTag, nI m, y_waiting, y_scaled, y_sort, y_typeA, y_typeB, y_typeC, y_fieldName, y_fieldType, y_fields, y_tags, y_needed, y_text, y_begin, y_end, y_inside, y_whole, y_kind, y_value, y_parent, y_name, y_slotOf, y_placeOf, y_complete, y_openNode, y_openType, y_openCount, y_openNames, y_openChoice, y_output, y_todo) c := by
  unfold ow_1 at h
  rcases Nat.lt_or_ge m 192 with w | w
  · rw [if_pos w] at h
    refine br_f (nI_ge (b := 192) w (by decide)) ⟨vp_in_nI w (by decide), ?_⟩
    rw [nI_clamp (by omega)]
    exact nm_e (nm_r (nI_1 m) h)
  · rw [if_neg (by omega)] at h
    exact br_t (nI_le (a := 192) w (by omega)) (nm_r (nI_1 m) h)
end
end
section
/-! digits of numbers as both print them: pure -/
def pn_L (w j : Nat) : Prop := w / 10 ^ j < 10 ∧ ∀ i, i < j → 10 ≤ w / 10 ^ i
theorem pn_mono (w : Nat) {i j : Nat} (h : i ≤ j) : w / 10 ^ j ≤ w / 10 ^ i :=
  Nat.div_le_div_left (Nat.pow_le_pow_right (by decide) h) (Nat.pow_pos (by decide))
theorem pn_uni {w i j : Nat} (hi : pn_L w i) (hj : pn_L w j) : i = j := by
  rcases Nat.lt_trichotomy i j with h | h | h
  · have := hj.2 i h; have := hi.1; omega
  · exact h
  · have := hi.2 j h; have := hj.1; omega
theorem pn_div {w j : Nat} (h : Nat) (hj : pn_L w j) : pn_L (w / 10 ^ h) (j - h) := by
  refine ⟨?_, fun i hi => ?_⟩
  · rw [Nat.div_div_eq_div_mul, ← Nat.pow_add]
    exact Nat.lt_of_le_of_lt (pn_mono w (by omega)) hj.1
  · rw [Nat.div_div_eq_div_mul, ← Nat.pow_add]
    exact hj.2 _ (by omega)
def pn_dl (w : Nat) : Nat → List Int32
  | 0 => [nI (w % 10)]
  | j + 1 => nI (w / 10 ^ (j + 1) % 10) :: pn_dl w j
def pn_yl (b h : Nat) : Nat → List Int32
  | 0 => [nI (b % 10)]
  | j + 1 => nI (b / 10 ^ (j + 1) % 10) :: ((if j + 1 = h then [18] else []) ++ pn_yl b h j)
theorem pn_yl_lo (b h : Nat) : ∀ j, j < h → pn_yl b h j = pn_dl b j
  | 0, _ => rfl
  | j + 1, hj => by
    unfold pn_yl pn_dl
    rw [if_neg (by omega), pn_yl_lo b h j (by omega)]
    rfl
theorem pn_yl_hi (b h : Nat) : ∀ j, pn_yl b h (j + h) = pn_dl (b / 10 ^ h) j ++ (if 0 < h then 18 :: pn_dl b (h - 1) else [])
  | 0 => by
    cases h with
    | zero => simp [pn_yl, pn_dl]
    | succ h =>
      rw [Nat.zero_add]
      unfold pn_yl
      rw [if_pos rfl, if_pos (by omega), pn_yl_lo b (h + 1) h (by omega)]
      rfl
  | j + 1 => by
    rw [show j + 1 + h = (j + h) + 1 from by omega]
    unfold pn_yl
    rw [if_neg (by omega), pn_yl_hi b h j]
    rw [show pn_dl (b / 10 ^ h) (j + 1) = nI (b / 10 ^ h / 10 ^ (j + 1) % 10) :: pn_dl (b / 10 ^ h) j from rfl, Nat.div_div_eq_div_mul, ← Nat.pow_add, show h + (j + 1) = j + h + 1 from by omega]
    rfl
/-- the fraction as the component prints it: rest = (b % 10^m) * 10^(D-m) -/
theorem pn_frac (b m D : Nat) (hD : D ≤ 4) (hm : m < D) : b % 10 ^ (m + 1) * 10 ^ (D - (m + 1)) * 10 / 10 ^ D = b / 10 ^ m % 10 ∧ b % 10 ^ (m + 1) * 10 ^ (D - (m + 1)) * 10 % 10 ^ D = b % 10 ^ m * 10 ^ (D - m) := by
  have hD' : D = 1 ∨ D = 2 ∨ D = 3 ∨ D = 4 := by omega
  rcases hD' with rfl | rfl | rfl | rfl
  · have : m = 0 := by omega
    subst this; simp; omega
  · have hm' : m = 0 ∨ m = 1 := by omega
    rcases hm' with rfl | rfl <;> (simp; omega)
  · have hm' : m = 0 ∨ m = 1 ∨ m = 2 := by omega
    rcases hm' with rfl | rfl | rfl <;> (simp; omega)
  · have hm' : m = 0 ∨ m = 1 ∨ m = 2 ∨ m = 3 := by omega
    rcases hm' with rfl | rfl | rfl | rfl <;> (simp; omega)
theorem pn_dl_len (w : Nat) : ∀ j, (pn_dl w j).length = j + 1
  | 0 => rfl
  | j + 1 => by unfold pn_dl; rw [List.length_cons, pn_dl_len w j]
end
section
/-! printing: the component's numbers -/
theorem pn_pos (j : Nat) : 0 < 10 ^ j := Nat.pow_pos (by decide)
theorem pn_lt {j : Nat} (h : j ≤ 18) : 10 ^ j < 2 ^ 63 := Nat.lt_of_le_of_lt (Nat.pow_le_pow_right (by decide) h) (by decide)
theorem pn_dig (A W : Nat) (hA : A < 2 ^ 63) (hW0 : 0 < W) (hW : W < 2 ^ 63) : (lN A / lN W - lN A / lN W / 10 * 10).toInt32 = nI (A / W % 10) := by
  have h10 : (10 : Int64) = lN 10 := rfl
  rw [pk_lDiv hA hW0 hW, h10, pk_lRem (Nat.lt_of_le_of_lt (Nat.div_le_self _ _) hA) (by decide) (by decide), lN_i]
theorem lN_ne0 {W : Nat} (h0 : 0 < W) (h : W < 2 ^ 63) : ¬ lN W = 0 := by
  intro e
  have e' : lN W = lN 0 := e
  have := (pk_lEQ h (by decide)).mp e'
  omega
section
variable {x_length x_nodeCount x_bound x_fault x_faultPlace x_mode x_at x_tokenStart x_textCount x_escaped x_valueSlot x_valueName x_depth : Int32} {x_text x_typeKind x_typeDetail x_typeLeast x_typeMost x_fieldCount x_fieldName x_fieldType x_fieldNeeded x_tagType x_nodeKind x_nodeValue x_nodeParent x_nodeName x_nodeSlot x_nodeStart x_nodeTag x_completeCount x_openNode x_openSlot x_openNames x_openNext x_openComma : Nat → Int32} {w : Nat} {Q : SX → Prop}
/-- the digits from weight 10^j down -/
theorem ww_dig (hw : w < 2 ^ 40) : ∀ (j i m : Nat) (o : Nat → Int32), i + j ≤ 9 → m + j < 100000 → Q (x_length, x_nodeCount, x_bound, x_fault, x_faultPlace, x_mode, x_at, x_tokenStart, x_textCount, x_escaped, x_valueSlot, x_valueName, x_depth, nI (m + (j + 1)), x_text, x_typeKind, x_typeDetail, x_typeLeast, x_typeMost, x_fieldCount, x_fieldName, x_fieldType, x_fieldNeeded, x_tagType, x_nodeKind, x_nodeValue, x_nodeParent, x_nodeName, x_nodeSlot, x_nodeStart, x_nodeTag, x_completeCount, x_openNode, x_openSlot, x_openNames, x_openNext, x_openComma, ow_L o m (pn_dl w j)) → ∃ n, wX_writeWhole_37 Q (lN w) n (lN (10 ^ j)) (nI i) x_length x_nodeCount x_bound x_fault x_faultPlace x_mode x_at x_tokenStart x_textCount x_escaped x_valueSlot x_valueName x_depth (nI m) x_text x_typeKind x_typeDetail x_typeLeast x_typeMost x_fieldCount x_fieldName x_fieldType x_fieldNeeded x_tagType x_nodeKind x_nodeValue x_nodeParent x_nodeName x_nodeSlot x_nodeStart x_nodeTag x_completeCount x_openNode x_openSlot x_openNames x_openNext x_openComma o := by
  intro j
  induction j with
  | zero =>
    intro i m o hi hm h
    refine ⟨1 + 1, br_f (nI_nlt (a := 9) (by omega) (by omega)) (br_f ?_ ⟨lN_ne0 (by decide) (by decide), by decide, wr_x (by omega) ⟨by decide, nm_r (e' := lN 0) ?_ (nm_r (nI_1 i) ?_)⟩⟩)⟩
    · decide
    · decide
    · rw [pn_dig w (10 ^ 0) (by omega) (by decide) (by decide), Nat.pow_zero, Nat.div_one]
      exact br_c (fun _ => h) (fun _ => br_t (by decide) h)
  | succ j ih =>
    intro i m o hi hm h
    have p1 := pn_lt (j := j + 1) (by omega)
    have p0 := pn_pos (j + 1)
    obtain ⟨n, hn⟩ := ih (i + 1) (m + 1) (ow_1 o m (nI (w / 10 ^ (j + 1) % 10))) (by omega) (by omega) (by
      rw [show m + 1 + (j + 1) = m + (j + 1 + 1) from by omega]; exact h)
    have d10 : lN (10 ^ (j + 1)) / 10 = lN (10 ^ j) := by
      rw [show (10 : Int64) = lN 10 from rfl, pk_lDiv p1 (by decide) (by decide), Nat.pow_succ, Nat.mul_div_cancel _ (by decide)]
    refine ⟨n + 1, br_f (nI_nlt (a := 9) (by omega) (by omega)) (br_f ?_ ⟨lN_ne0 p0 p1, by decide, wr_x (by omega) ⟨by decide, nm_r d10 (nm_r (nI_1 i) ?_)⟩⟩)⟩
    · rw [show (0 : Int64) = lN 0 from rfl, pk_lLE p1 (by decide)]; omega
    · rw [pn_dig w _ (by omega) p0 p1]; exact hn
/-- the first weight -/
theorem ww_top (hw : w < 10 ^ 10) : ∃ J, J ≤ 9 ∧ pn_L w J ∧ ∀ (m : Nat) (o : Nat → Int32), m < 90000 → Q (x_length, x_nodeCount, x_bound, x_fault, x_faultPlace, x_mode, x_at, x_tokenStart, x_textCount, x_escaped, x_valueSlot, x_valueName, x_depth, nI (m + (J + 1)), x_text, x_typeKind, x_typeDetail, x_typeLeast, x_typeMost, x_fieldCount, x_fieldName, x_fieldType, x_fieldNeeded, x_tagType, x_nodeKind, x_nodeValue, x_nodeParent, x_nodeName, x_nodeSlot, x_nodeStart, x_nodeTag, x_completeCount, x_openNode, x_openSlot, x_openNames, x_openNext, x_openComma, ow_L o m (pn_dl w J)) → wpX_writeWhole Q (x_length, x_nodeCount, x_bound, x_fault, x_faultPlace, x_mode, x_at, x_tokenStart, x_textCount, x_escaped, x_valueSlot, x_valueName, x_depth, nI m, x_text, x_typeKind, x_typeDetail, x_typeLeast, x_typeMost, x_fieldCount, x_fieldName, x_fieldType, x_fieldNeeded, x_tagType, x_nodeKind, x_nodeValue, x_nodeParent, x_nodeName, x_nodeSlot, x_nodeStart, x_nodeTag, x_completeCount, x_openNode, x_openSlot, x_openNames, x_openNext, x_openComma, o) (lN w) := by
  have key : ∀ (r j : Nat), j + r = 9 → (∀ i, i < j → 10 ≤ w / 10 ^ i) → ∃ J, J ≤ 9 ∧ pn_L w J ∧ ∀ (m : Nat) (o : Nat → Int32), m < 90000 → Q (x_length, x_nodeCount, x_bound, x_fault, x_faultPlace, x_mode, x_at, x_tokenStart, x_textCount, x_escaped, x_valueSlot, x_valueName, x_depth, nI (m + (J + 1)), x_text, x_typeKind, x_typeDetail, x_typeLeast, x_typeMost, x_fieldCount, x_fieldName, x_fieldType, x_fieldNeeded, x_tagType, x_nodeKind, x_nodeValue, x_nodeParent, x_nodeName, x_nodeSlot, x_nodeStart, x_nodeTag, x_completeCount, x_openNode, x_openSlot, x_openNames, x_openNext, x_openComma, ow_L o m (pn_dl w J)) → ∃ n, wX_writeWhole_5 Q (lN w) x_length x_nodeCount x_bound x_fault x_faultPlace x_mode x_at x_tokenStart x_textCount x_escaped x_valueSlot x_valueName x_depth (nI m) x_text x_typeKind x_typeDetail x_typeLeast x_typeMost x_fieldCount x_fieldName x_fieldType x_fieldNeeded x_tagType x_nodeKind x_nodeValue x_nodeParent x_nodeName x_nodeSlot x_nodeStart x_nodeTag x_completeCount x_openNode x_openSlot x_openNames x_openNext x_openComma o n (lN (10 ^ j)) (nI j) := by
    intro r
    induction r with
    | zero =>
      intro j hj hl
      have : j = 9 := by omega
      subst this
      refine ⟨9, by omega, ⟨?_, hl⟩, fun m o hm h => ⟨1, br_t (by decide) (ww_dig (by omega) 9 0 m o (by omega) (by omega) h)⟩⟩
      rw [Nat.div_lt_iff_lt_mul (by decide)]; omega
    | succ r ih =>
      intro j hj hl
      have p1 := pn_lt (j := j) (by omega)
      have p0 := pn_pos j
      have dv : lN w / lN (10 ^ j) = lN (w / 10 ^ j) := pk_lDiv (by omega) p0 p1
      have wl : w / 10 ^ j < 2 ^ 63 := Nat.lt_of_le_of_lt (Nat.div_le_self _ _) (by omega)
      by_cases z : w / 10 ^ j < 10
      · refine ⟨j, by omega, ⟨z, hl⟩, fun m o hm h => ⟨1, br_f (nI_ge (b := 9) (by omega) (by decide)) ⟨lN_ne0 p0 p1, ?_⟩⟩⟩
        rw [dv]
        exact br_t ((pk_lLT (b := 10) wl (by decide)).mpr z) (ww_dig (by omega) j 0 m o (by omega) (by omega) h)
      · obtain ⟨J, hJ, hL, hJw⟩ := ih (j + 1) (by omega) (fun i hi => by
          by_cases y : i = j
          · subst y; omega
          · exact hl i (by omega))
        refine ⟨J, hJ, hL, fun m o hm h => ?_⟩
        obtain ⟨n, hn⟩ := hJw m o hm h
        refine ⟨n + 1, br_f (nI_ge (b := 9) (by omega) (by decide)) ⟨lN_ne0 p0 p1, ?_⟩⟩
        rw [dv]
        refine br_f (fun y => z ((pk_lLT (b := 10) wl (by decide)).mp y)) (nm_r (e' := lN (10 ^ (j + 1))) ?_ (nm_r (nI_1 j) hn))
        show lN (10 ^ j) * lN 10 = _
        rw [lN_mul, Nat.pow_succ]
  obtain ⟨J, a, b, c⟩ := key 9 0 (by omega) (fun i hi => absurd hi (by omega))
  exact ⟨J, a, b, fun m o hm h => c m o hm h⟩
end
end
section
/-! printing: the component's fractions and numbers -/
def pn_fl (b : Nat) : Nat → List Int32
  | 0 => []
  | j + 1 => nI (b / 10 ^ j % 10) :: pn_fl b j
theorem pn_fl_dl (b : Nat) : ∀ j, pn_fl b (j + 1) = pn_dl b j
  | 0 => by
    show [nI (b / 10 ^ 0 % 10)] = [nI (b % 10)]
    rw [Nat.pow_zero, Nat.div_one]
  | j + 1 => by
    show nI (b / 10 ^ (j + 1) % 10) :: pn_fl b (j + 1) = nI (b / 10 ^ (j + 1) % 10) :: pn_dl b j
    rw [pn_fl_dl b j]
theorem pn_fl_len (b : Nat) : ∀ j, (pn_fl b j).length = j
  | 0 => rfl
  | j + 1 => by
    show (pn_fl b j).length + 1 = j + 1
    rw [pn_fl_len b j]
theorem pn_nz {b : Nat} (h : b % 10 ≠ 0) (j : Nat) : 0 < b % 10 ^ (j + 1) := by
  have e : b % 10 ^ (j + 1) % 10 = b % 10 := Nat.mod_mod_of_dvd b ⟨10 ^ j, by rw [Nat.pow_succ, Nat.mul_comm]⟩
  rcases Nat.eq_zero_or_pos (b % 10 ^ (j + 1)) with z | z
  · rw [z] at e; omega
  · exact z
section
variable {x_length x_nodeCount x_bound x_fault x_faultPlace x_mode x_at x_tokenStart x_textCount x_escaped x_valueSlot x_valueName x_depth : Int32} {x_text x_typeKind x_typeDetail x_typeLeast x_typeMost x_fieldCount x_fieldName x_fieldType x_fieldNeeded x_tagType x_nodeKind x_nodeValue x_nodeParent x_nodeName x_nodeSlot x_nodeStart x_nodeTag x_completeCount x_openNode x_openSlot x_openNames x_openNext x_openComma : Nat → Int32} {b D : Nat} {Q : SX → Prop}
theorem wf_dig (hD : D ≤ 4) : ∀ (mm i m : Nat) (o : Nat → Int32), i + mm ≤ D → m + mm < 100000 → (0 < mm → b % 10 ≠ 0) → Q (x_length, x_nodeCount, x_bound, x_fault, x_faultPlace, x_mode, x_at, x_tokenStart, x_textCount, x_escaped, x_valueSlot, x_valueName, x_depth, nI (m + mm), x_text, x_typeKind, x_typeDetail, x_typeLeast, x_typeMost, x_fieldCount, x_fieldName, x_fieldType, x_fieldNeeded, x_tagType, x_nodeKind, x_nodeValue, x_nodeParent, x_nodeName, x_nodeSlot, x_nodeStart, x_nodeTag, x_completeCount, x_openNode, x_openSlot, x_openNames, x_openNext, x_openComma, ow_L o m (pn_fl b mm)) → ∃ n, wX_writeNumber_52 Q (nI D) (lN (10 ^ D)) n (lN (b % 10 ^ mm * 10 ^ (D - mm))) (nI i) x_length x_nodeCount x_bound x_fault x_faultPlace x_mode x_at x_tokenStart x_textCount x_escaped x_valueSlot x_valueName x_depth (nI m) x_text x_typeKind x_typeDetail x_typeLeast x_typeMost x_fieldCount x_fieldName x_fieldType x_fieldNeeded x_tagType x_nodeKind x_nodeValue x_nodeParent x_nodeName x_nodeSlot x_nodeStart x_nodeTag x_completeCount x_openNode x_openSlot x_openNames x_openNext x_openComma o := by
  intro mm
  induction mm with
  | zero =>
    intro i m o hi hm hb h
    refine ⟨1, br_c (fun _ => h) (fun _ => br_t ?_ h)⟩
    rw [Nat.pow_zero, Nat.mod_one, Nat.zero_mul]; decide
  | succ j ih =>
    intro i m o hi hm hb h
    have nz := pn_nz (hb (by omega)) j
    have fr := pn_frac b j D hD (by omega)
    have p1 := pn_lt (j := D) (by omega)
    have p0 := pn_pos D
    have lt1 : b % 10 ^ (j + 1) * 10 ^ (D - (j + 1)) < 10 ^ D := by
      have e : 10 ^ D = 10 ^ (j + 1) * 10 ^ (D - (j + 1)) := by rw [← Nat.pow_add]; congr 1; omega
      rw [e]
      exact (Nat.mul_lt_mul_right (pn_pos _)).mpr (Nat.mod_lt _ (pn_pos _))
    have le4 : 10 ^ D ≤ 10 ^ 4 := Nat.pow_le_pow_right (by decide) hD
    have pos : 0 < b % 10 ^ (j + 1) * 10 ^ (D - (j + 1)) := Nat.mul_pos nz (pn_pos _)
    generalize hr : b % 10 ^ (j + 1) * 10 ^ (D - (j + 1)) = r at fr lt1 pos
    obtain ⟨n, hn⟩ := ih (i + 1) (m + 1) (ow_1 o m (nI (b / 10 ^ j % 10))) (by omega) (by omega) (fun _ => hb (by omega)) (by
      rw [show m + 1 + j = m + (j + 1) from by omega]; exact h)
    refine ⟨n + 1, br_f (nI_ge (by omega) (by omega)) (br_f ?_ (nm_r (e' := lN (r * 10)) ?_ ⟨lN_ne0 p0 p1, wr_x (by omega) ⟨lN_ne0 p0 p1, nm_r (e' := lN (b % 10 ^ j * 10 ^ (D - j))) ?_ (nm_r (nI_1 i) ?_)⟩⟩))⟩
    · rw [show (0 : Int64) = lN 0 from rfl, pk_lLE (by omega) (by decide)]; omega
    · show lN r * lN 10 = _
      rw [lN_mul]
    · rw [pk_lRem (by omega) p0 p1, fr.2]
    · rw [pk_lDiv (by omega) p0 p1, fr.1, lN_i]; exact hn
/-- the list of a number's characters: behind the point h, the digits b, the whole part's first weight J -/
def nm_L (neg : Bool) (b h J : Nat) : List Int32 := (if neg then [17] else []) ++ (pn_dl (b / 10 ^ h) J ++ (if 0 < h then 18 :: pn_dl b (h - 1) else []))
theorem nm_len (neg : Bool) (b h J : Nat) (hJ : J ≤ 9) (hh : h ≤ 4) : (nm_L neg b h J).length ≤ 17 := by
  unfold nm_L
  rw [List.length_append, List.length_append, pn_dl_len]
  have h1 : (if neg then [(17 : Int32)] else []).length ≤ 1 := by cases neg <;> simp
  have h2 : (if 0 < h then (18 : Int32) :: pn_dl b (h - 1) else []).length ≤ 5 := by
    by_cases z : 0 < h
    · rw [if_pos z, List.length_cons, pn_dl_len]; omega
    · rw [if_neg z]; simp
  omega
/-- from the number's value on -/
theorem wn_18 {A h : Nat} (hD : D ≤ 4) (hh : h ≤ D) (hA : A ≤ 2147483648) (eA : A = b * 10 ^ (D - h)) (hb : 0 < h → b % 10 ≠ 0) : ∃ J, J ≤ 9 ∧ pn_L (b / 10 ^ h) J ∧ ∀ (m : Nat) (o : Nat → Int32), m < 80000 → Q (x_length, x_nodeCount, x_bound, x_fault, x_faultPlace, x_mode, x_at, x_tokenStart, x_textCount, x_escaped, x_valueSlot, x_valueName, x_depth, nI (m + (nm_L false b h J).length), x_text, x_typeKind, x_typeDetail, x_typeLeast, x_typeMost, x_fieldCount, x_fieldName, x_fieldType, x_fieldNeeded, x_tagType, x_nodeKind, x_nodeValue, x_nodeParent, x_nodeName, x_nodeSlot, x_nodeStart, x_nodeTag, x_completeCount, x_openNode, x_openSlot, x_openNames, x_openNext, x_openComma, ow_L o m (nm_L false b h J)) → wX_writeNumber_18 Q (nI D) (lN A) x_length x_nodeCount x_bound x_fault x_faultPlace x_mode x_at x_tokenStart x_textCount x_escaped x_valueSlot x_valueName x_depth (nI m) x_text x_typeKind x_typeDetail x_typeLeast x_typeMost x_fieldCount x_fieldName x_fieldType x_fieldNeeded x_tagType x_nodeKind x_nodeValue x_nodeParent x_nodeName x_nodeSlot x_nodeStart x_nodeTag x_completeCount x_openNode x_openSlot x_openNames x_openNext x_openComma o := by
  have p1 := pn_lt (j := D) (by omega)
  have p0 := pn_pos D
  have eD : 10 ^ D = 10 ^ h * 10 ^ (D - h) := by rw [← Nat.pow_add]; congr 1; omega
  have dv : A / 10 ^ D = b / 10 ^ h := by rw [eA, eD, Nat.mul_div_mul_right _ _ (pn_pos _)]
  have md : A % 10 ^ D = b % 10 ^ h * 10 ^ (D - h) := by rw [eA, eD, Nat.mul_mod_mul_right]
  have wl : b / 10 ^ h < 10 ^ 10 := by
    rw [← dv]
    exact Nat.lt_of_le_of_lt (Nat.div_le_self _ _) (by omega)
  obtain ⟨J, hJ, hL, -⟩ := ww_top (Q := fun _ => True) (x_length := x_length) (x_nodeCount := x_nodeCount) (x_bound := x_bound) (x_fault := x_fault) (x_faultPlace := x_faultPlace) (x_mode := x_mode) (x_at := x_at) (x_tokenStart := x_tokenStart) (x_textCount := x_textCount) (x_escaped := x_escaped) (x_valueSlot := x_valueSlot) (x_valueName := x_valueName) (x_depth := x_depth) (x_text := x_text) (x_typeKind := x_typeKind) (x_typeDetail := x_typeDetail) (x_typeLeast := x_typeLeast) (x_typeMost := x_typeMost) (x_fieldCount := x_fieldCount) (x_fieldName := x_fieldName) (x_fieldType := x_fieldType) (x_fieldNeeded := x_fieldNeeded) (x_tagType := x_tagType) (x_nodeKind := x_nodeKind) (x_nodeValue := x_nodeValue) (x_nodeParent := x_nodeParent) (x_nodeName := x_nodeName) (x_nodeSlot := x_nodeSlot) (x_nodeStart := x_nodeStart) (x_nodeTag := x_nodeTag) (x_completeCount := x_completeCount) (x_openNode := x_openNode) (x_openSlot := x_openSlot) (x_openNames := x_openNames) (x_openNext := x_openNext) (x_openComma := x_openComma) (w := b / 10 ^ h) wl
  refine ⟨J, hJ, hL, fun m o hm hq => ?_⟩
  unfold wX_writeNumber_18
  refine xu_pow (by omega) ⟨lN_ne0 p0 p1, ?_⟩
  rw [pk_lDiv (by omega) p0 p1, dv]
  obtain ⟨J', -, hL', hW⟩ := ww_top (Q := fun u => match u with | (x_length, x_nodeCount, x_bound, x_fault, x_faultPlace, x_mode, x_at, x_tokenStart, x_textCount, x_escaped, x_valueSlot, x_valueName, x_depth, x_outputLength, x_text, x_typeKind, x_typeDetail, x_typeLeast, x_typeMost, x_fieldCount, x_fieldName, x_fieldType, x_fieldNeeded, x_tagType, x_nodeKind, x_nodeValue, x_nodeParent, x_nodeName, x_nodeSlot, x_nodeStart, x_nodeTag, x_completeCount, x_openNode, x_openSlot, x_openNames, x_openNext, x_openComma, x_output) => (¬ lN (10 ^ D) = 0 ∧ (∀ x3 : Int64, x3 = lN A - lN A / lN (10 ^ D) * lN (10 ^ D) → (((x3 ≤ 0 → (∃ n52 : Nat, wX_writeNumber_52 Q (nI D) (lN (10 ^ D)) n52 x3 0 x_length x_nodeCount x_bound x_fault x_faultPlace x_mode x_at x_tokenStart x_textCount x_escaped x_valueSlot x_valueName x_depth x_outputLength x_text x_typeKind x_typeDetail x_typeLeast x_typeMost x_fieldCount x_fieldName x_fieldType x_fieldNeeded x_tagType x_nodeKind x_nodeValue x_nodeParent x_nodeName x_nodeSlot x_nodeStart x_nodeTag x_completeCount x_openNode x_openSlot x_openNames x_openNext x_openComma x_output)) ∧ (¬ x3 ≤ 0 → (wpX_write (fun u => match u with | (x_length, x_nodeCount, x_bound, x_fault, x_faultPlace, x_mode, x_at, x_tokenStart, x_textCount, x_escaped, x_valueSlot, x_valueName, x_depth, x_outputLength, x_text, x_typeKind, x_typeDetail, x_typeLeast, x_typeMost, x_fieldCount, x_fieldName, x_fieldType, x_fieldNeeded, x_tagType, x_nodeKind, x_nodeValue, x_nodeParent, x_nodeName, x_nodeSlot, x_nodeStart, x_nodeTag, x_completeCount, x_openNode, x_openSlot, x_openNames, x_openNext, x_openComma, x_output) => (∃ n52 : Nat, wX_writeNumber_52 Q (nI D) (lN (10 ^ D)) n52 x3 0 x_length x_nodeCount x_bound x_fault x_faultPlace x_mode x_at x_tokenStart x_textCount x_escaped x_valueSlot x_valueName x_depth x_outputLength x_text x_typeKind x_typeDetail x_typeLeast x_typeMost x_fieldCount x_fieldName x_fieldType x_fieldNeeded x_tagType x_nodeKind x_nodeValue x_nodeParent x_nodeName x_nodeSlot x_nodeStart x_nodeTag x_completeCount x_openNode x_openSlot x_openNames x_openNext x_openComma x_output)) (x_length, x_nodeCount, x_bound, x_fault, x_faultPlace, x_mode, x_at, x_tokenStart, x_textCount, x_escaped, x_valueSlot, x_valueName, x_depth, x_outputLength, x_text, x_typeKind, x_typeDetail, x_typeLeast, x_typeMost, x_fieldCount, x_fieldName, x_fieldType, x_fieldNeeded, x_tagType, x_nodeKind, x_nodeValue, x_nodeParent, x_nodeName, x_nodeSlot, x_nodeStart, x_nodeTag, x_completeCount, x_openNode, x_openSlot, x_openNames, x_openNext, x_openComma, x_output) 18))))))) (x_length := x_length) (x_nodeCount := x_nodeCount) (x_bound := x_bound) (x_fault := x_fault) (x_faultPlace := x_faultPlace) (x_mode := x_mode) (x_at := x_at) (x_tokenStart := x_tokenStart) (x_textCount := x_textCount) (x_escaped := x_escaped) (x_valueSlot := x_valueSlot) (x_valueName := x_valueName) (x_depth := x_depth) (x_text := x_text) (x_typeKind := x_typeKind) (x_typeDetail := x_typeDetail) (x_typeLeast := x_typeLeast) (x_typeMost := x_typeMost) (x_fieldCount := x_fieldCount) (x_fieldName := x_fieldName) (x_fieldType := x_fieldType) (x_fieldNeeded := x_fieldNeeded) (x_tagType := x_tagType) (x_nodeKind := x_nodeKind) (x_nodeValue := x_nodeValue) (x_nodeParent := x_nodeParent) (x_nodeName := x_nodeName) (x_nodeSlot := x_nodeSlot) (x_nodeStart := x_nodeStart) (x_nodeTag := x_nodeTag) (x_completeCount := x_completeCount) (x_openNode := x_openNode) (x_openSlot := x_openSlot) (x_openNames := x_openNames) (x_openNext := x_openNext) (x_openComma := x_openComma) (w := b / 10 ^ h) wl
  have eJ : J' = J := pn_uni hL' hL
  subst eJ
  rw [pk_lDiv (by omega) p0 p1, dv] at hW
  refine hW m o (by omega) ⟨lN_ne0 p0 p1, nm_r (e' := lN (b % 10 ^ h * 10 ^ (D - h))) ?_ ?_⟩
  · have := pk_lRem (a := A) (by omega) p0 p1
    rw [pk_lDiv (by omega) p0 p1, dv, md] at this
    exact this
  have lst : nm_L false b h J' = pn_dl (b / 10 ^ h) J' ++ (if 0 < h then 18 :: pn_dl b (h - 1) else []) := rfl
  rw [lst, List.length_append, pn_dl_len, ow_app, pn_dl_len] at hq
  rcases Nat.eq_zero_or_pos h with z | z
  · subst z
    rw [if_neg (Nat.lt_irrefl 0)] at hq
    refine br_t ?_ (wf_dig hD 0 0 _ _ (by omega) (by omega) (fun y => absurd y (by omega)) hq)
    rw [Nat.pow_zero, Nat.mod_one, Nat.zero_mul]; decide
  · rw [if_pos z, List.length_cons, pn_dl_len] at hq
    obtain ⟨h', rfl⟩ : ∃ h', h = h' + 1 := ⟨h - 1, by omega⟩
    have pos : 0 < b % 10 ^ (h' + 1) * 10 ^ (D - (h' + 1)) := Nat.mul_pos (pn_nz (hb z) h') (pn_pos _)
    have lt1 : b % 10 ^ (h' + 1) * 10 ^ (D - (h' + 1)) < 2 ^ 63 := by
      rw [← md]; exact Nat.lt_trans (Nat.mod_lt _ p0) p1
    refine br_f ?_ (wr_x (by omega) (wf_dig hD (h' + 1) 0 _ _ (by omega) (by omega) (fun _ => hb z) ?_))
    · rw [show (0 : Int64) = lN 0 from rfl, pk_lLE lt1 (by decide)]; omega
    · rw [pn_fl_dl]
      rw [show m + (J' + 1) + 1 + (h' + 1) = m + (J' + 1 + (h' + 1 - 1 + 1 + 1)) from by omega]
      exact hq
end
end
section
/-! printing: the reference's numbers -/
theorem pn_yl_len (b h : Nat) : ∀ j, (pn_yl b h j).length ≤ j + 2 ∧ (j < h → (pn_yl b h j).length = j + 1)
  | 0 => ⟨by show 1 ≤ 2; omega, fun _ => rfl⟩
  | j + 1 => by
    obtain ⟨h1, h2⟩ := pn_yl_len b h j
    unfold pn_yl
    rw [List.length_cons, List.length_append]
    by_cases z : j + 1 = h
    · rw [if_pos z, h2 (by omega)]
      exact ⟨by show 1 + (j + 1) + 1 ≤ j + 1 + 2; omega, fun y => by omega⟩
    · rw [if_neg z]
      exact ⟨by show 0 + (pn_yl b h j).length + 1 ≤ j + 1 + 2; omega, fun y => by show 0 + (pn_yl b h j).length + 1 = j + 1 + 1; rw [h2 (by omega)]; omega⟩
theorem pn_inj {i j : Nat} (hi : i ≤ 18) (hj : j ≤ 18) (h : lN (10 ^ i) = lN (10 ^ j)) : i = j := by
  have e := (pk_lEQ (pn_lt hi) (pn_lt hj)).mp h
  rcases Nat.lt_trichotomy i j with z | z | z
  · have := (Nat.pow_lt_pow_iff_right (a := 10) (by decide)).mpr z; omega
  · exact z
  · have := (Nat.pow_lt_pow_iff_right (a := 10) (by decide)).mpr z; omega
section
variable {y_length y_parts y_bad y_nodes y_fault y_place y_bound y_depth y_nextName y_wantsName y_wantsTag y_waiting y_scaled : Int32} {y_sort y_typeA y_typeB y_typeC y_fieldName y_fieldType y_fields y_tags y_needed y_text y_begin y_end y_inside y_whole y_kind y_value y_parent y_name y_slotOf y_placeOf y_complete y_openNode y_openType y_openCount y_openNames y_openChoice y_todo : Nat → Int32} {b h : Nat} {Q : SY → Prop}
theorem yn_132 (hb : b < 2 ^ 40) (hh : h ≤ 4) : ∀ (j m : Nat) (o : Nat → Int32), j ≤ 13 → m + 2 * j < 100000 → Q (y_length, y_parts, y_bad, y_nodes, y_fault, y_place, y_bound, y_depth, y_nextName, y_wantsName, y_wantsTag, nI (m + (pn_yl b h j).length), y_waiting, y_scaled, y_sort, y_typeA, y_typeB, y_typeC, y_fieldName, y_fieldType, y_fields, y_tags, y_needed, y_text, y_begin, y_end, y_inside, y_whole, y_kind, y_value, y_parent, y_name, y_slotOf, y_placeOf, y_complete, y_openNode, y_openType, y_openCount, y_openNames, y_openChoice, ow_L o m (pn_yl b h j), y_todo) → ∃ n, wY_showNumber_132 Q (lN b) (nI h) (nI (h + 1)) (lN (10 ^ h)) n (lN (10 ^ j)) y_length y_parts y_bad y_nodes y_fault y_place y_bound y_depth y_nextName y_wantsName y_wantsTag (nI m) y_waiting y_scaled y_sort y_typeA y_typeB y_typeC y_fieldName y_fieldType y_fields y_tags y_needed y_text y_begin y_end y_inside y_whole y_kind y_value y_parent y_name y_slotOf y_placeOf y_complete y_openNode y_openType y_openCount y_openNames y_openChoice o y_todo := by
  intro j
  induction j with
  | zero =>
    intro m o hj hm hq
    have e0 : lN (10 ^ 0) / 10 = lN 0 := by decide
    have fin : ∃ n, ∀ x5 : Int64, x5 = lN 0 → wY_showNumber_132 Q (lN b) (nI h) (nI (h + 1)) (lN (10 ^ h)) n x5 y_length y_parts y_bad y_nodes y_fault y_place y_bound y_depth y_nextName y_wantsName y_wantsTag (nI (m + 1)) y_waiting y_scaled y_sort y_typeA y_typeB y_typeC y_fieldName y_fieldType y_fields y_tags y_needed y_text y_begin y_end y_inside y_whole y_kind y_value y_parent y_name y_slotOf y_placeOf y_complete y_openNode y_openType y_openCount y_openNames y_openChoice (ow_1 o m (nI (b % 10))) y_todo := ⟨0 + 1, fun x5 e => by subst e; exact br_t (by decide) hq⟩
    obtain ⟨n, fin⟩ := fin
    refine ⟨n + 1, br_f (by decide) ⟨lN_ne0 (by decide) (by decide), by decide, nm_e (ou_y (by omega) ?_)⟩⟩
    rw [pn_dig b (10 ^ 0) (by omega) (by decide) (by decide), Nat.pow_zero, Nat.div_one]
    by_cases z : h = 0
    · subst z
      exact br_t rfl (br_t (by decide) ⟨by decide, nm_r e0 (fin _ rfl)⟩)
    · exact br_f (fun y => z (pn_inj (i := 0) (by omega) (by omega) y).symm) ⟨by decide, nm_r e0 (fin _ rfl)⟩
  | succ j ih =>
    intro m o hj hm hq
    have p1 := pn_lt (j := j + 1) (by omega)
    have p0 := pn_pos (j + 1)
    have d10 : lN (10 ^ (j + 1)) / 10 = lN (10 ^ j) := by
      rw [show (10 : Int64) = lN 10 from rfl, pk_lDiv p1 (by decide) (by decide), Nat.pow_succ, Nat.mul_div_cancel _ (by decide)]
    have n0 : ¬ lN (10 ^ (j + 1)) ≤ 0 := by rw [show (0 : Int64) = lN 0 from rfl, pk_lLE p1 (by decide)]; omega
    have lst : pn_yl b h (j + 1) = nI (b / 10 ^ (j + 1) % 10) :: ((if j + 1 = h then [18] else []) ++ pn_yl b h j) := rfl
    rw [lst, List.length_cons, List.length_append] at hq
    by_cases z : j + 1 = h
    · rw [if_pos z] at hq
      obtain ⟨n, hn⟩ := ih (m + 1 + 1) (ow_1 (ow_1 o m (nI (b / 10 ^ (j + 1) % 10))) (m + 1) 18) (by omega) (by omega) (by
        rw [show m + 1 + 1 + (pn_yl b h j).length = m + ([(18 : Int32)].length + (pn_yl b h j).length + 1) from by show m + 1 + 1 + _ = m + (1 + _ + 1); omega]
        exact hq)
      refine ⟨n + 1, br_f n0 ⟨lN_ne0 p0 p1, by decide, nm_e (ou_y (by omega) ?_)⟩⟩
      rw [pn_dig b _ (by omega) p0 p1]
      refine br_t (by rw [z]) (br_f (nI_nle (by omega) (by omega)) (br_f ?_ (ou_y (by omega) ⟨by decide, nm_r d10 hn⟩)))
      exact nI_ge (b := h + 1) (a := 1) (by omega) (by omega)
    · rw [if_neg z] at hq
      obtain ⟨n, hn⟩ := ih (m + 1) (ow_1 o m (nI (b / 10 ^ (j + 1) % 10))) (by omega) (by omega) (by
        rw [show m + 1 + (pn_yl b h j).length = m + (([] : List Int32).length + (pn_yl b h j).length + 1) from by show m + 1 + _ = m + (0 + _ + 1); omega]
        exact hq)
      refine ⟨n + 1, br_f n0 ⟨lN_ne0 p0 p1, by decide, nm_e (ou_y (by omega) ?_)⟩⟩
      rw [pn_dig b _ (by omega) p0 p1]
      exact br_f (fun y => z (pn_inj (by omega) (by omega) y)) ⟨by decide, nm_r d10 hn⟩
end
section
variable {y_length y_parts y_bad y_nodes y_fault y_place y_bound y_depth y_nextName y_wantsName y_wantsTag y_printed y_waiting y_scaled : Int32} {y_sort y_typeA y_typeB y_typeC y_fieldName y_fieldType y_fields y_tags y_needed y_text y_begin y_end y_inside y_whole y_kind y_value y_parent y_name y_slotOf y_placeOf y_complete y_openNode y_openType y_openCount y_openNames y_openChoice y_output y_todo : Nat → Int32} {b h J : Nat} {Q : SY → Prop}
theorem yn_99 (hh : h ≤ 4) (hJ : J ≤ 9) (hq : ∃ n, wY_showNumber_132 Q (lN b) (nI h) (nI (h + 1)) (lN (10 ^ h)) n (lN (10 ^ (J - h + h))) y_length y_parts y_bad y_nodes y_fault y_place y_bound y_depth y_nextName y_wantsName y_wantsTag y_printed y_waiting y_scaled y_sort y_typeA y_typeB y_typeC y_fieldName y_fieldType y_fields y_tags y_needed y_text y_begin y_end y_inside y_whole y_kind y_value y_parent y_name y_slotOf y_placeOf y_complete y_openNode y_openType y_openCount y_openNames y_openChoice y_output y_todo) : ∀ (r i : Nat), i + r = h → ∃ n, wY_showNumber_99 Q (lN b) (lN (10 ^ J)) (nI h) (nI (h + 1)) y_length y_parts y_bad y_nodes y_fault y_place y_bound y_depth y_nextName y_wantsName y_wantsTag y_printed y_waiting y_scaled y_sort y_typeA y_typeB y_typeC y_fieldName y_fieldType y_fields y_tags y_needed y_text y_begin y_end y_inside y_whole y_kind y_value y_parent y_name y_slotOf y_placeOf y_complete y_openNode y_openType y_openCount y_openNames y_openChoice y_output y_todo n (lN (10 ^ i)) (nI i) := by
  intro r
  induction r with
  | zero =>
    intro i hi
    have : i = h := by omega
    subst this
    refine ⟨1, br_t (nI_le (Nat.le_refl _) (by omega)) ?_⟩
    by_cases z : i ≤ J
    · refine br_t ?_ ?_
      · rw [pk_lLE (pn_lt (by omega)) (pn_lt (by omega))]; exact Nat.pow_le_pow_right (by decide) z
      · rw [show J - i + i = J from by omega] at hq; exact hq
    · refine br_f ?_ ?_
      · rw [pk_lLE (pn_lt (by omega)) (pn_lt (by omega))]
        have := (Nat.pow_lt_pow_iff_right (a := 10) (by decide)).mpr (show J < i by omega)
        omega
      · rw [show J - i + i = i from by omega] at hq; exact hq
  | succ r ih =>
    intro i hi
    obtain ⟨n, hn⟩ := ih (i + 1) (by omega)
    refine ⟨n + 1, br_f (nI_ge (by omega) (by omega)) (nm_r (e' := lN (10 ^ (i + 1))) ?_ (nm_r (nI_1 i) hn))⟩
    show lN (10 ^ i) * lN 10 = _
    rw [lN_mul, Nat.pow_succ]
theorem yn_65 (hb : b < 10 ^ 10) (J : Nat) (hJ : pn_L b J) (hJ9 : J ≤ 9) (x8 : Int32) (hq : ∃ n, wY_showNumber_99 Q (lN b) (lN (10 ^ J)) (nI h) x8 y_length y_parts y_bad y_nodes y_fault y_place y_bound y_depth y_nextName y_wantsName y_wantsTag y_printed y_waiting y_scaled y_sort y_typeA y_typeB y_typeC y_fieldName y_fieldType y_fields y_tags y_needed y_text y_begin y_end y_inside y_whole y_kind y_value y_parent y_name y_slotOf y_placeOf y_complete y_openNode y_openType y_openCount y_openNames y_openChoice y_output y_todo n 1 0) : ∀ (r i : Nat), i + r = J → ∃ n, wY_showNumber_65 Q (lN b) (nI h) x8 y_length y_parts y_bad y_nodes y_fault y_place y_bound y_depth y_nextName y_wantsName y_wantsTag y_printed y_waiting y_scaled y_sort y_typeA y_typeB y_typeC y_fieldName y_fieldType y_fields y_tags y_needed y_text y_begin y_end y_inside y_whole y_kind y_value y_parent y_name y_slotOf y_placeOf y_complete y_openNode y_openType y_openCount y_openNames y_openChoice y_output y_todo n (lN (10 ^ i)) (lN (b / 10 ^ i)) := by
  intro r
  induction r with
  | zero =>
    intro i hi
    have : i = J := by omega
    subst this
    refine ⟨1, br_t ?_ hq⟩
    rw [show (9 : Int64) = lN 9 from rfl, pk_lLE (Nat.lt_of_le_of_lt (Nat.div_le_self _ _) (by omega)) (by decide)]
    have := hJ.1; omega
  | succ r ih =>
    intro i hi
    obtain ⟨n, hn⟩ := ih (i + 1) (by omega)
    have bl : b / 10 ^ i < 2 ^ 63 := Nat.lt_of_le_of_lt (Nat.div_le_self _ _) (by omega)
    refine ⟨n + 1, br_f ?_ (nm_r (e' := lN (10 ^ (i + 1))) ?_ ⟨by decide, nm_r (e' := lN (b / 10 ^ (i + 1))) ?_ hn⟩)⟩
    · rw [show (9 : Int64) = lN 9 from rfl, pk_lLE bl (by decide)]
      have := hJ.2 i (by omega); omega
    · show lN (10 ^ i) * lN 10 = _
      rw [lN_mul, Nat.pow_succ]
    · rw [show (10 : Int64) = lN 10 from rfl, pk_lDiv bl (by decide) (by decide), Nat.div_div_eq_div_mul, Nat.pow_succ]
end
theorem pn_ex {b : Nat} (hb : b < 10 ^ 10) : ∃ J, J ≤ 9 ∧ pn_L b J := by
  obtain ⟨J, hJ, hm⟩ := pk_least (fun j => b / 10 ^ j < 10) ⟨9, by rw [Nat.div_lt_iff_lt_mul (by decide)]; omega⟩
  refine ⟨J, ?_, hJ, fun i hi => Nat.le_of_not_lt (hm i hi)⟩
  rcases Nat.lt_or_ge 9 J with z | z
  · exact absurd (show b / 10 ^ 9 < 10 by rw [Nat.div_lt_iff_lt_mul (by decide)]; omega) (hm 9 z)
  · exact z
/-- the zeros behind are left out -/
theorem yn_19 {v : Int32} : ∀ (h A : Nat), h ≤ 4 → A < 2 ^ 40 → ∃ b h', h' ≤ h ∧ A = b * 10 ^ (h - h') ∧ (0 < h' → b % 10 ≠ 0) ∧ b ≤ A ∧ ∀ {y_length y_parts y_bad y_nodes y_fault y_place y_bound y_depth y_nextName y_wantsName y_wantsTag y_printed y_waiting y_scaled : Int32} {y_sort y_typeA y_typeB y_typeC y_fieldName y_fieldType y_fields y_tags y_needed y_text y_begin y_end y_inside y_whole y_kind y_value y_parent y_name y_slotOf y_placeOf y_complete y_openNode y_openType y_openCount y_openNames y_openChoice y_output y_todo : Nat → Int32} (Q : SY → Prop), wY_showNumber_46 Q v (lN b) 1 (nI h') y_length y_parts y_bad y_nodes y_fault y_place y_bound y_depth y_nextName y_wantsName y_wantsTag y_printed y_waiting y_scaled y_sort y_typeA y_typeB y_typeC y_fieldName y_fieldType y_fields y_tags y_needed y_text y_begin y_end y_inside y_whole y_kind y_value y_parent y_name y_slotOf y_placeOf y_complete y_openNode y_openType y_openCount y_openNames y_openChoice y_output y_todo → ∃ n, wY_showNumber_19 Q v 1 y_length y_parts y_bad y_nodes y_fault y_place y_bound y_depth y_nextName y_wantsName y_wantsTag y_printed y_waiting y_scaled y_sort y_typeA y_typeB y_typeC y_fieldName y_fieldType y_fields y_tags y_needed y_text y_begin y_end y_inside y_whole y_kind y_value y_parent y_name y_slotOf y_placeOf y_complete y_openNode y_openType y_openCount y_openNames y_openChoice y_output y_todo n (lN A) (nI h) := by
  intro h
  induction h with
  | zero =>
    intro A _ hA
    exact ⟨A, 0, Nat.le_refl _, by rw [Nat.sub_self, Nat.pow_zero, Nat.mul_one], fun z => absurd z (by omega), Nat.le_refl _, fun Q w => ⟨1, br_t (by decide) w⟩⟩
  | succ h ih =>
    intro A hh hA
    have rem : lN A - lN A / 10 * 10 = lN (A % 10) := by
      rw [show (10 : Int64) = lN 10 from rfl]
      exact pk_lRem (by omega) (by decide) (by decide)
    have n0 : ¬ nI (h + 1) ≤ 0 := nI_nle (by omega) (by omega)
    by_cases z : A % 10 = 0
    · obtain ⟨b, h', p1, p2, p3, p4, p5⟩ := ih (A / 10) (by omega) (Nat.lt_of_le_of_lt (Nat.div_le_self _ _) hA)
      refine ⟨b, h', by omega, ?_, p3, Nat.le_trans p4 (Nat.div_le_self _ _), fun Q w => ?_⟩
      · have e : A = A / 10 * 10 := by omega
        rw [show h + 1 - h' = h - h' + 1 from by omega, Nat.pow_succ, ← Nat.mul_assoc, ← p2]; exact e
      · obtain ⟨n, hn⟩ := p5 Q w
        refine ⟨n + 1, br_f n0 ⟨by decide, ?_⟩⟩
        rw [rem, z]
        refine br_t rfl ⟨by decide, nm_r (e' := lN (A / 10)) ?_ (nm_r (pk_m1 h) hn)⟩
        rw [show (10 : Int64) = lN 10 from rfl]
        exact pk_lDiv (by omega) (by decide) (by decide)
    · refine ⟨A, h + 1, Nat.le_refl _, by rw [Nat.sub_self, Nat.pow_zero, Nat.mul_one], fun _ => z, Nat.le_refl _, fun Q w => ⟨1, br_f n0 ⟨by decide, ?_⟩⟩⟩
      rw [rem]
      refine br_f (fun y => z ?_) w
      exact (pk_lEQ (b := 0) (by omega) (by decide)).mp y
end
section
/-! printing: numbers on both sides -/
theorem ng_A {v : Int32} (h : ¬ 0 ≤ v) : ∃ A : Nat, A ≤ 2147483648 ∧ -v.toInt64 = lN A := by
  have h1 : v.toInt < 0 := by
    rw [Int32.le_iff_toInt_le] at h
    have : (0 : Int32).toInt = 0 := by decide
    omega
  have h2 := Int32.le_toInt v
  refine ⟨(-v.toInt).toNat, by omega, ?_⟩
  apply Int64.toInt_inj.mp
  rw [pk_lT (by omega), Int64.toInt_neg, Int32.toInt_toInt64]
  rw [Int.bmod_eq_of_le (by omega) (by omega)]
  omega
theorem ng_0 {v : Int32} : (0 : Int64) ≤ v.toInt64 ↔ 0 ≤ v := by
  rw [Int64.le_iff_toInt_le, Int32.toInt_toInt64, Int32.le_iff_toInt_le]
  have a : (0 : Int64).toInt = 0 := by decide
  have b : (0 : Int32).toInt = 0 := by decide
  omega
theorem pr_num (v : Int32) {D : Nat} (hD : D ≤ 4) : ∃ l : List Int32, l.length ≤ 18 ∧
    (∀ {x_length x_nodeCount x_bound x_fault x_faultPlace x_mode x_at x_tokenStart x_textCount x_escaped x_valueSlot x_valueName x_depth : Int32} {x_text x_typeKind x_typeDetail x_typeLeast x_typeMost x_fieldCount x_fieldName x_fieldType x_fieldNeeded x_tagType x_nodeKind x_nodeValue x_nodeParent x_nodeName x_nodeSlot x_nodeStart x_nodeTag x_completeCount x_openNode x_openSlot x_openNames x_openNext x_openComma : Nat → Int32} (Q : SX → Prop) (m : Nat) (o : Nat → Int32), m < 70000 → Q (x_length, x_nodeCount, x_bound, x_fault, x_faultPlace, x_mode, x_at, x_tokenStart, x_textCount, x_escaped, x_valueSlot, x_valueName, x_depth, nI (m + l.length), x_text, x_typeKind, x_typeDetail, x_typeLeast, x_typeMost, x_fieldCount, x_fieldName, x_fieldType, x_fieldNeeded, x_tagType, x_nodeKind, x_nodeValue, x_nodeParent, x_nodeName, x_nodeSlot, x_nodeStart, x_nodeTag, x_completeCount, x_openNode, x_openSlot, x_openNames, x_openNext, x_openComma, ow_L o m l) → wpX_writeNumber Q (x_length, x_nodeCount, x_bound, x_fault, x_faultPlace, x_mode, x_at, x_tokenStart, x_textCount, x_escaped, x_valueSlot, x_valueName, x_depth, nI m, x_text, x_typeKind, x_typeDetail, x_typeLeast, x_typeMost, x_fieldCount, x_fieldName, x_fieldType, x_fieldNeeded, x_tagType, x_nodeKind, x_nodeValue, x_nodeParent, x_nodeName, x_nodeSlot, x_nodeStart, x_nodeTag, x_completeCount, x_openNode, x_openSlot, x_openNames, x_openNext, x_openComma, o) v (nI D)) ∧
    (∀ {y_length y_parts y_bad y_nodes y_fault y_place y_bound y_depth y_nextName y_wantsName y_wantsTag y_waiting y_scaled : Int32} {y_sort y_typeA y_typeB y_typeC y_fieldName y_fieldType y_fields y_tags y_needed y_text y_begin y_end y_inside y_whole y_kind y_value y_parent y_name y_slotOf y_placeOf y_complete y_openNode y_openType y_openCount y_openNames y_openChoice y_todo : Nat → Int32} (Q : SY → Prop) (m : Nat) (o : Nat → Int32), m < 70000 → Q (y_length, y_parts, y_bad, y_nodes, y_fault, y_place, y_bound, y_depth, y_nextName, y_wantsName, y_wantsTag, nI (m + l.length), y_waiting, y_scaled, y_sort, y_typeA, y_typeB, y_typeC, y_fieldName, y_fieldType, y_fields, y_tags, y_needed, y_text, y_begin, y_end, y_inside, y_whole, y_kind, y_value, y_parent, y_name, y_slotOf, y_placeOf, y_complete, y_openNode, y_openType, y_openCount, y_openNames, y_openChoice, ow_L o m l, y_todo) → wpY_showNumber Q (y_length, y_parts, y_bad, y_nodes, y_fault, y_place, y_bound, y_depth, y_nextName, y_wantsName, y_wantsTag, nI m, y_waiting, y_scaled, y_sort, y_typeA, y_typeB, y_typeC, y_fieldName, y_fieldType, y_fields, y_tags, y_needed, y_text, y_begin, y_end, y_inside, y_whole, y_kind, y_value, y_parent, y_name, y_slotOf, y_placeOf, y_complete, y_openNode, y_openType, y_openCount, y_openNames, y_openChoice, o, y_todo) v (nI D)) := by
  -- the value without its sign
  obtain ⟨A, hA, hpos, hneg⟩ : ∃ A : Nat, A ≤ 2147483648 ∧ (0 ≤ v → v.toInt64 = lN A) ∧ (¬ 0 ≤ v → -v.toInt64 = lN A) := by
    by_cases z : 0 ≤ v
    · obtain ⟨A, hA, rfl⟩ := nI_of (x := v) (Int32.not_lt.mpr z)
      exact ⟨A, by omega, fun _ => nI_l hA, fun y => absurd z y⟩
    · obtain ⟨A, hA, e⟩ := ng_A z
      exact ⟨A, hA, fun y => absurd y z, fun _ => e⟩
  obtain ⟨b, h, hh, eA, hb10, hbA, hY19⟩ := yn_19 (v := v) D A hD (by omega)
  obtain ⟨J, hJ9, hJ⟩ := pn_ex (b := b) (by omega)
  have hJh := pn_div h hJ
  have body : pn_yl b h (J - h + h) = nm_L false b h (J - h) := pn_yl_hi b h (J - h)
  have len := nm_len false b h (J - h) (by omega) (by omega)
  -- the two walks without the sign
  have X18 : ∀ {x_length x_nodeCount x_bound x_fault x_faultPlace x_mode x_at x_tokenStart x_textCount x_escaped x_valueSlot x_valueName x_depth : Int32} {x_text x_typeKind x_typeDetail x_typeLeast x_typeMost x_fieldCount x_fieldName x_fieldType x_fieldNeeded x_tagType x_nodeKind x_nodeValue x_nodeParent x_nodeName x_nodeSlot x_nodeStart x_nodeTag x_completeCount x_openNode x_openSlot x_openNames x_openNext x_openComma : Nat → Int32} (Q : SX → Prop) (m : Nat) (o : Nat → Int32), m < 80000 → Q (x_length, x_nodeCount, x_bound, x_fault, x_faultPlace, x_mode, x_at, x_tokenStart, x_textCount, x_escaped, x_valueSlot, x_valueName, x_depth, nI (m + (nm_L false b h (J - h)).length), x_text, x_typeKind, x_typeDetail, x_typeLeast, x_typeMost, x_fieldCount, x_fieldName, x_fieldType, x_fieldNeeded, x_tagType, x_nodeKind, x_nodeValue, x_nodeParent, x_nodeName, x_nodeSlot, x_nodeStart, x_nodeTag, x_completeCount, x_openNode, x_openSlot, x_openNames, x_openNext, x_openComma, ow_L o m (nm_L false b h (J - h))) → wX_writeNumber_18 Q (nI D) (lN A) x_length x_nodeCount x_bound x_fault x_faultPlace x_mode x_at x_tokenStart x_textCount x_escaped x_valueSlot x_valueName x_depth (nI m) x_text x_typeKind x_typeDetail x_typeLeast x_typeMost x_fieldCount x_fieldName x_fieldType x_fieldNeeded x_tagType x_nodeKind x_nodeValue x_nodeParent x_nodeName x_nodeSlot x_nodeStart x_nodeTag x_completeCount x_openNode x_openSlot x_openNames x_openNext x_openComma o := by
    intro x_length x_nodeCount x_bound x_fault x_faultPlace x_mode x_at x_tokenStart x_textCount x_escaped x_valueSlot x_valueName x_depth x_text x_typeKind x_typeDetail x_typeLeast x_typeMost x_fieldCount x_fieldName x_fieldType x_fieldNeeded x_tagType x_nodeKind x_nodeValue x_nodeParent x_nodeName x_nodeSlot x_nodeStart x_nodeTag x_completeCount x_openNode x_openSlot x_openNames x_openNext x_openComma Q m o hm hq
    obtain ⟨J', -, hJ', hw⟩ := wn_18 (Q := Q) (x_length := x_length) (x_nodeCount := x_nodeCount) (x_bound := x_bound) (x_fault := x_fault) (x_faultPlace := x_faultPlace) (x_mode := x_mode) (x_at := x_at) (x_tokenStart := x_tokenStart) (x_textCount := x_textCount) (x_escaped := x_escaped) (x_valueSlot := x_valueSlot) (x_valueName := x_valueName) (x_depth := x_depth) (x_text := x_text) (x_typeKind := x_typeKind) (x_typeDetail := x_typeDetail) (x_typeLeast := x_typeLeast) (x_typeMost := x_typeMost) (x_fieldCount := x_fieldCount) (x_fieldName := x_fieldName) (x_fieldType := x_fieldType) (x_fieldNeeded := x_fieldNeeded) (x_tagType := x_tagType) (x_nodeKind := x_nodeKind) (x_nodeValue := x_nodeValue) (x_nodeParent := x_nodeParent) (x_nodeName := x_nodeName) (x_nodeSlot := x_nodeSlot) (x_nodeStart := x_nodeStart) (x_nodeTag := x_nodeTag) (x_completeCount := x_completeCount) (x_openNode := x_openNode) (x_openSlot := x_openSlot) (x_openNames := x_openNames) (x_openNext := x_openNext) (x_openComma := x_openComma) hD hh hA eA hb10
    have : J' = J - h := pn_uni hJ' hJh
    subst this
    exact hw m o hm hq
  have Y65 : ∀ {y_length y_parts y_bad y_nodes y_fault y_place y_bound y_depth y_nextName y_wantsName y_wantsTag y_waiting y_scaled : Int32} {y_sort y_typeA y_typeB y_typeC y_fieldName y_fieldType y_fields y_tags y_needed y_text y_begin y_end y_inside y_whole y_kind y_value y_parent y_name y_slotOf y_placeOf y_complete y_openNode y_openType y_openCount y_openNames y_openChoice y_todo : Nat → Int32} (Q : SY → Prop) (m : Nat) (o : Nat → Int32), m < 80000 → Q (y_length, y_parts, y_bad, y_nodes, y_fault, y_place, y_bound, y_depth, y_nextName, y_wantsName, y_wantsTag, nI (m + (nm_L false b h (J - h)).length), y_waiting, y_scaled, y_sort, y_typeA, y_typeB, y_typeC, y_fieldName, y_fieldType, y_fields, y_tags, y_needed, y_text, y_begin, y_end, y_inside, y_whole, y_kind, y_value, y_parent, y_name, y_slotOf, y_placeOf, y_complete, y_openNode, y_openType, y_openCount, y_openNames, y_openChoice, ow_L o m (nm_L false b h (J - h)), y_todo) → ∃ n, wY_showNumber_65 Q (lN b) (nI h) (nI (h + 1)) y_length y_parts y_bad y_nodes y_fault y_place y_bound y_depth y_nextName y_wantsName y_wantsTag (nI m) y_waiting y_scaled y_sort y_typeA y_typeB y_typeC y_fieldName y_fieldType y_fields y_tags y_needed y_text y_begin y_end y_inside y_whole y_kind y_value y_parent y_name y_slotOf y_placeOf y_complete y_openNode y_openType y_openCount y_openNames y_openChoice o y_todo n 1 (lN b) := by
    intro y_length y_parts y_bad y_nodes y_fault y_place y_bound y_depth y_nextName y_wantsName y_wantsTag y_waiting y_scaled y_sort y_typeA y_typeB y_typeC y_fieldName y_fieldType y_fields y_tags y_needed y_text y_begin y_end y_inside y_whole y_kind y_value y_parent y_name y_slotOf y_placeOf y_complete y_openNode y_openType y_openCount y_openNames y_openChoice y_todo Q m o hm hq
    rw [← body] at hq
    have t := yn_65 (h := h) (Q := Q) (y_length := y_length) (y_parts := y_parts) (y_bad := y_bad) (y_nodes := y_nodes) (y_fault := y_fault) (y_place := y_place) (y_bound := y_bound) (y_depth := y_depth) (y_nextName := y_nextName) (y_wantsName := y_wantsName) (y_wantsTag := y_wantsTag) (y_waiting := y_waiting) (y_scaled := y_scaled) (y_sort := y_sort) (y_typeA := y_typeA) (y_typeB := y_typeB) (y_typeC := y_typeC) (y_fieldName := y_fieldName) (y_fieldType := y_fieldType) (y_fields := y_fields) (y_tags := y_tags) (y_needed := y_needed) (y_text := y_text) (y_begin := y_begin) (y_end := y_end) (y_inside := y_inside) (y_whole := y_whole) (y_kind := y_kind) (y_value := y_value) (y_parent := y_parent) (y_name := y_name) (y_slotOf := y_slotOf) (y_placeOf := y_placeOf) (y_complete := y_complete) (y_openNode := y_openNode) (y_openType := y_openType) (y_openCount := y_openCount) (y_openNames := y_openNames) (y_openChoice := y_openChoice) (y_todo := y_todo) (y_printed := nI m) (y_output := o) (by omega) J hJ hJ9 (nI (h + 1)) (yn_99 (by omega) hJ9 (yn_132 (by omega) (by omega) (J - h + h) m o (by omega) (by omega) hq) h 0 (by omega)) J 0 (by omega)
    rw [Nat.pow_zero, Nat.div_one] at t
    exact t
  by_cases z : 0 ≤ v
  · refine ⟨nm_L false b h (J - h), by omega, fun Q m o hm hq => br_t (ng_0.mpr z) ?_, fun Q m o hm hq => br_t z ?_⟩
    · rw [hpos z]; exact X18 Q m o (by omega) hq
    · rw [hpos z]
      exact hY19 Q (br_t z (nm_r (nI_1 h) (Y65 Q m o (by omega) hq)))
  · refine ⟨17 :: nm_L false b h (J - h), by rw [List.length_cons]; omega, fun Q m o hm hq => br_f (fun y => z (ng_0.mp y)) (wr_x (by omega) (nm_r (hneg z) (X18 Q (m + 1) _ (by omega) ?_))), fun Q m o hm hq => br_f z (nm_r (hneg z) (hY19 Q (br_f z (ou_y (by omega) (nm_r (nI_1 h) (Y65 Q (m + 1) _ (by omega) ?_))))))⟩
    · rw [List.length_cons, show m + ((nm_L false b h (J - h)).length + 1) = m + 1 + (nm_L false b h (J - h)).length from by omega] at hq
      exact hq
    · rw [List.length_cons, show m + ((nm_L false b h (J - h)).length + 1) = m + 1 + (nm_L false b h (J - h)).length from by omega] at hq
      exact hq
end
section
/-! printing: texts on both sides -/
def rg_L (t : Nat → Int32) (i : Nat) : Nat → List Int32
  | 0 => []
  | k + 1 => t i :: rg_L t (i + 1) k
theorem rg_len (t : Nat → Int32) : ∀ k i, (rg_L t i k).length = k
  | 0, _ => rfl
  | k + 1, i => by
    show (rg_L t (i + 1) k).length + 1 = k + 1
    rw [rg_len t k (i + 1)]
section
variable {x_nodeCount x_bound x_fault x_faultPlace x_mode x_at x_tokenStart x_textCount x_escaped x_valueSlot x_valueName x_depth : Int32} {x_text x_typeKind x_typeDetail x_typeLeast x_typeMost x_fieldCount x_fieldName x_fieldType x_fieldNeeded x_tagType x_nodeKind x_nodeValue x_nodeParent x_nodeName x_nodeSlot x_nodeStart x_nodeTag x_completeCount x_openNode x_openSlot x_openNames x_openNext x_openComma : Nat → Int32} {L q : Nat} {Q : SX → Prop}
theorem ws_one (hL : L ≤ 96) {i m n : Nat} {o : Nat → Int32} {bh : Int32} (hi : i < L) (hm : m < 90000) (h : (x_text i = 16 → bh = 0 → Q (nI L, x_nodeCount, x_bound, x_fault, x_faultPlace, x_mode, x_at, x_tokenStart, x_textCount, x_escaped, x_valueSlot, x_valueName, x_depth, nI (m + 1), x_text, x_typeKind, x_typeDetail, x_typeLeast, x_typeMost, x_fieldCount, x_fieldName, x_fieldType, x_fieldNeeded, x_tagType, x_nodeKind, x_nodeValue, x_nodeParent, x_nodeName, x_nodeSlot, x_nodeStart, x_nodeTag, x_completeCount, x_openNode, x_openSlot, x_openNames, x_openNext, x_openComma, ow_1 o m (x_text i))) ∧ (¬ (x_text i = 16 ∧ bh = 0) → (x_text i = 30 ∧ bh = 0 → wX_writeString_12 Q n 1 (nI (i + 1)) (nI L) x_nodeCount x_bound x_fault x_faultPlace x_mode x_at x_tokenStart x_textCount x_escaped x_valueSlot x_valueName x_depth (nI (m + 1)) x_text x_typeKind x_typeDetail x_typeLeast x_typeMost x_fieldCount x_fieldName x_fieldType x_fieldNeeded x_tagType x_nodeKind x_nodeValue x_nodeParent x_nodeName x_nodeSlot x_nodeStart x_nodeTag x_completeCount x_openNode x_openSlot x_openNames x_openNext x_openComma ((ow_1 o m (x_text i)))) ∧ (¬ (x_text i = 30 ∧ bh = 0) → wX_writeString_12 Q n 0 (nI (i + 1)) (nI L) x_nodeCount x_bound x_fault x_faultPlace x_mode x_at x_tokenStart x_textCount x_escaped x_valueSlot x_valueName x_depth (nI (m + 1)) x_text x_typeKind x_typeDetail x_typeLeast x_typeMost x_fieldCount x_fieldName x_fieldType x_fieldNeeded x_tagType x_nodeKind x_nodeValue x_nodeParent x_nodeName x_nodeSlot x_nodeStart x_nodeTag x_completeCount x_openNode x_openSlot x_openNames x_openNext x_openComma ((ow_1 o m (x_text i)))))) : wX_writeString_12 Q (n + 1) bh (nI i) (nI L) x_nodeCount x_bound x_fault x_faultPlace x_mode x_at x_tokenStart x_textCount x_escaped x_valueSlot x_valueName x_depth (nI m) x_text x_typeKind x_typeDetail x_typeLeast x_typeMost x_fieldCount x_fieldName x_fieldType x_fieldNeeded x_tagType x_nodeKind x_nodeValue x_nodeParent x_nodeName x_nodeSlot x_nodeStart x_nodeTag x_completeCount x_openNode x_openSlot x_openNames x_openNext x_openComma o := by
  refine br_f (nI_ge hi (by omega)) ⟨vp_in_nI (by omega) (by decide), ?_⟩
  rw [nI_clamp (by omega)]
  refine nm_e (wr_x (by omega) ?_)
  have t46 : ¬ (x_text i = 16 ∧ bh = 0) → wX_writeString_46 Q (wX_writeString_12 Q n) bh (nI i) (x_text i) (nI L) x_nodeCount x_bound x_fault x_faultPlace x_mode x_at x_tokenStart x_textCount x_escaped x_valueSlot x_valueName x_depth (nI (m + 1)) x_text x_typeKind x_typeDetail x_typeLeast x_typeMost x_fieldCount x_fieldName x_fieldType x_fieldNeeded x_tagType x_nodeKind x_nodeValue x_nodeParent x_nodeName x_nodeSlot x_nodeStart x_nodeTag x_completeCount x_openNode x_openSlot x_openNames x_openNext x_openComma ((ow_1 o m (x_text i))) := by
    intro z
    refine br_c (fun c30 => br_c (fun b0 => nm_r (nI_1 i) ((h.2 z).1 ⟨c30, b0⟩)) (fun b0 => nm_r (nI_1 i) ((h.2 z).2 (fun y => b0 y.2)))) (fun c30 => nm_r (nI_1 i) ((h.2 z).2 (fun y => c30 y.1)))
  exact br_c (fun c16 => br_c (fun b0 => h.1 c16 b0) (fun b0 => t46 (fun y => b0 y.2))) (fun c16 => t46 (fun y => c16 y.1))
theorem ws_run (hL : L ≤ 96) (hq : q < L) (q16 : x_text q = 16) : ∀ (mu i m : Nat) (o : Nat → Int32), ss_R x_text L mu i q → m + (q - i) < 80000 → Q (nI L, x_nodeCount, x_bound, x_fault, x_faultPlace, x_mode, x_at, x_tokenStart, x_textCount, x_escaped, x_valueSlot, x_valueName, x_depth, nI (m + (q + 1 - i)), x_text, x_typeKind, x_typeDetail, x_typeLeast, x_typeMost, x_fieldCount, x_fieldName, x_fieldType, x_fieldNeeded, x_tagType, x_nodeKind, x_nodeValue, x_nodeParent, x_nodeName, x_nodeSlot, x_nodeStart, x_nodeTag, x_completeCount, x_openNode, x_openSlot, x_openNames, x_openNext, x_openComma, ow_L o m (rg_L x_text i (q + 1 - i))) → ∃ n, wX_writeString_12 Q n 0 (nI i) (nI L) x_nodeCount x_bound x_fault x_faultPlace x_mode x_at x_tokenStart x_textCount x_escaped x_valueSlot x_valueName x_depth (nI m) x_text x_typeKind x_typeDetail x_typeLeast x_typeMost x_fieldCount x_fieldName x_fieldType x_fieldNeeded x_tagType x_nodeKind x_nodeValue x_nodeParent x_nodeName x_nodeSlot x_nodeStart x_nodeTag x_completeCount x_openNode x_openSlot x_openNames x_openNext x_openComma o := by
  intro mu
  induction mu with
  | zero =>
    intro i m o hR hm h
    have e : i = q := hR
    subst e
    rw [show i + 1 - i = 1 from by omega] at h
    exact ⟨0 + 1, ws_one hL hq (by omega) ⟨fun _ _ => h, fun z => absurd ⟨q16, rfl⟩ z⟩⟩
  | succ mu ih =>
    intro i m o hR hm h
    obtain ⟨j, hG, hR'⟩ := hR
    have hjq := ss_R_le hR'
    rcases hG with ⟨g1, g2, g3, rfl⟩ | ⟨g1, g2, g3, rfl⟩
    · obtain ⟨n, hn⟩ := ih (i + 1) (m + 1) (ow_1 o m (x_text i)) hR' (by omega) (by
        rw [show q + 1 - i = (q + 1 - (i + 1)) + 1 from by omega, show m + (q + 1 - (i + 1) + 1) = m + 1 + (q + 1 - (i + 1)) from by omega] at h
        exact h)
      exact ⟨n + 1, ws_one hL g1 (by omega) ⟨fun z => absurd z g2, fun _ => ⟨fun z => absurd z.1 g3, fun _ => hn⟩⟩⟩
    · obtain ⟨n, hn⟩ := ih (i + 2) (m + 1 + 1) (ow_1 (ow_1 o m (x_text i)) (m + 1) (x_text (i + 1))) hR' (by omega) (by
        rw [show q + 1 - i = (q + 1 - (i + 2)) + 1 + 1 from by omega, show m + (q + 1 - (i + 2) + 1 + 1) = m + 1 + 1 + (q + 1 - (i + 2)) from by omega] at h
        exact h)
      refine ⟨n + 1 + 1, ws_one hL (by omega) (by omega) ⟨fun z => by rw [g2] at z; exact absurd z (by decide), fun _ => ⟨fun _ => ?_, fun z => absurd ⟨g2, rfl⟩ z⟩⟩⟩
      exact ws_one hL g1 (by omega) ⟨fun _ z => absurd z (by decide), fun _ => ⟨fun z => absurd z.2 (by decide), fun _ => hn⟩⟩
end
section
variable {y_length y_parts y_bad y_nodes y_fault y_place y_bound y_depth y_nextName y_wantsName y_wantsTag y_waiting y_scaled : Int32} {y_sort y_typeA y_typeB y_typeC y_fieldName y_fieldType y_fields y_tags y_needed y_text y_begin y_end y_inside y_whole y_kind y_value y_parent y_name y_slotOf y_placeOf y_complete y_openNode y_openType y_openCount y_openNames y_openChoice y_todo : Nat → Int32} {L q : Nat} {Q : SY → Prop}
theorem st_run (hL : L ≤ 96) (hq : q < L) (q16 : y_text q = 16) : ∀ (mu p m : Nat) (o : Nat → Int32), ss_R y_text L mu (p + 1) q → m + (q - p) < 80000 → Q (y_length, y_parts, y_bad, y_nodes, y_fault, y_place, y_bound, y_depth, y_nextName, y_wantsName, y_wantsTag, nI (m + (q - p)), y_waiting, y_scaled, y_sort, y_typeA, y_typeB, y_typeC, y_fieldName, y_fieldType, y_fields, y_tags, y_needed, y_text, y_begin, y_end, y_inside, y_whole, y_kind, y_value, y_parent, y_name, y_slotOf, y_placeOf, y_complete, y_openNode, y_openType, y_openCount, y_openNames, y_openChoice, ow_L o m (rg_L y_text (p + 1) (q - p)), y_todo) → ∃ n, wY_showText_36 Q (wY_showText_2 Q n) (nI p) y_length y_parts y_bad y_nodes y_fault y_place y_bound y_depth y_nextName y_wantsName y_wantsTag (nI m) y_waiting y_scaled y_sort y_typeA y_typeB y_typeC y_fieldName y_fieldType y_fields y_tags y_needed y_text y_begin y_end y_inside y_whole y_kind y_value y_parent y_name y_slotOf y_placeOf y_complete y_openNode y_openType y_openCount y_openNames y_openChoice o y_todo := by
  intro mu
  induction mu with
  | zero =>
    intro p m o hR hm h
    have e : p + 1 = q := hR
    subst e
    rw [show p + 1 - p = 1 from by omega] at h
    refine ⟨0, nm_r (nI_1 p) ⟨vp_in_nI (by omega) (by decide), ?_⟩⟩
    rw [nI_clamp (by omega)]
    refine br_t q16 (ou_y (by omega) ?_)
    have h' : Q (y_length, y_parts, y_bad, y_nodes, y_fault, y_place, y_bound, y_depth, y_nextName, y_wantsName, y_wantsTag, nI (m + 1), y_waiting, y_scaled, y_sort, y_typeA, y_typeB, y_typeC, y_fieldName, y_fieldType, y_fields, y_tags, y_needed, y_text, y_begin, y_end, y_inside, y_whole, y_kind, y_value, y_parent, y_name, y_slotOf, y_placeOf, y_complete, y_openNode, y_openType, y_openCount, y_openNames, y_openChoice, ow_1 o m (y_text (p + 1)), y_todo) := h
    rw [q16] at h'; exact h'
  | succ mu ih =>
    intro p m o hR hm h
    obtain ⟨j, hG, hR'⟩ := hR
    have hjq := ss_R_le hR'
    have hlt := ss_G_lt hG
    have n16 : ¬ y_text (p + 1) = 16 := by
      rcases hG with g | g
      · exact g.2.1
      · rw [g.2.1]; decide
    have ec : (nI (p + 1)).toNatClampNeg = p + 1 := nI_clamp (by omega)
    rcases hG with ⟨g1, g2, g3, rfl⟩ | ⟨g1, g2, g3, rfl⟩
    · obtain ⟨n, hn⟩ := ih (p + 1) (m + 1) (ow_1 o m (y_text (p + 1))) hR' (by omega) (by
        rw [show q - p = (q - (p + 1)) + 1 from by omega, show m + (q - (p + 1) + 1) = m + 1 + (q - (p + 1)) from by omega] at h
        exact h)
      refine ⟨n + 1, nm_r (nI_1 p) ⟨vp_in_nI (by omega) (by decide), ?_⟩⟩
      rw [ec]
      refine br_f n16 (And.intro (vp_in_nI (by omega) (by decide)) ?_)
      rw [ec]
      exact ou_y (by omega) ⟨vp_in_nI (by omega) (by decide), br_f g3 hn⟩
    · obtain ⟨n, hn⟩ := ih (p + 2) (m + 1 + 1) (ow_1 (ow_1 o m (y_text (p + 1))) (m + 1) (y_text (p + 2))) hR' (by omega) (by
        rw [show q - p = (q - (p + 2)) + 1 + 1 from by omega, show m + (q - (p + 2) + 1 + 1) = m + 1 + 1 + (q - (p + 2)) from by omega] at h
        exact h)
      refine ⟨n + 1, nm_r (nI_1 p) ⟨vp_in_nI (by omega) (by decide), ?_⟩⟩
      rw [ec]
      refine br_f n16 (And.intro (vp_in_nI (by omega) (by decide)) ?_)
      rw [ec]
      refine ou_y (by omega) ⟨vp_in_nI (by omega) (by decide), br_t g2 (nm_r (nI_1 (p + 1)) ⟨vp_in_nI (by omega) (by decide), ?_⟩)⟩
      rw [nI_clamp (by omega)]
      exact ou_y (by omega) hn
end
theorem pr_txt {t : Nat → Int32} {L b q : Nat} (hL : L ≤ 96) (hbL : b < L) (b16 : t b = 16) (hW : ss_W t L (b + 1) q) : ∃ l : List Int32, l.length ≤ 100 ∧
    (∀ {x_nodeCount x_bound x_fault x_faultPlace x_mode x_at x_tokenStart x_textCount x_escaped x_valueSlot x_valueName x_depth : Int32} {x_typeKind x_typeDetail x_typeLeast x_typeMost x_fieldCount x_fieldName x_fieldType x_fieldNeeded x_tagType x_nodeKind x_nodeValue x_nodeParent x_nodeName x_nodeSlot x_nodeStart x_nodeTag x_completeCount x_openNode x_openSlot x_openNames x_openNext x_openComma : Nat → Int32} (Q : SX → Prop) (m : Nat) (o : Nat → Int32), m < 70000 → Q (nI L, x_nodeCount, x_bound, x_fault, x_faultPlace, x_mode, x_at, x_tokenStart, x_textCount, x_escaped, x_valueSlot, x_valueName, x_depth, nI (m + l.length), t, x_typeKind, x_typeDetail, x_typeLeast, x_typeMost, x_fieldCount, x_fieldName, x_fieldType, x_fieldNeeded, x_tagType, x_nodeKind, x_nodeValue, x_nodeParent, x_nodeName, x_nodeSlot, x_nodeStart, x_nodeTag, x_completeCount, x_openNode, x_openSlot, x_openNames, x_openNext, x_openComma, ow_L o m l) → wpX_writeString Q (nI L, x_nodeCount, x_bound, x_fault, x_faultPlace, x_mode, x_at, x_tokenStart, x_textCount, x_escaped, x_valueSlot, x_valueName, x_depth, nI m, t, x_typeKind, x_typeDetail, x_typeLeast, x_typeMost, x_fieldCount, x_fieldName, x_fieldType, x_fieldNeeded, x_tagType, x_nodeKind, x_nodeValue, x_nodeParent, x_nodeName, x_nodeSlot, x_nodeStart, x_nodeTag, x_completeCount, x_openNode, x_openSlot, x_openNames, x_openNext, x_openComma, o) (nI b)) ∧
    (∀ {y_length y_parts y_bad y_nodes y_fault y_place y_bound y_depth y_nextName y_wantsName y_wantsTag y_waiting y_scaled : Int32} {y_sort y_typeA y_typeB y_typeC y_fieldName y_fieldType y_fields y_tags y_needed y_begin y_end y_inside y_whole y_kind y_value y_parent y_name y_slotOf y_placeOf y_complete y_openNode y_openType y_openCount y_openNames y_openChoice y_todo : Nat → Int32} (Q : SY → Prop) (m : Nat) (o : Nat → Int32), m < 70000 → Q (y_length, y_parts, y_bad, y_nodes, y_fault, y_place, y_bound, y_depth, y_nextName, y_wantsName, y_wantsTag, nI (m + l.length), y_waiting, y_scaled, y_sort, y_typeA, y_typeB, y_typeC, y_fieldName, y_fieldType, y_fields, y_tags, y_needed, t, y_begin, y_end, y_inside, y_whole, y_kind, y_value, y_parent, y_name, y_slotOf, y_placeOf, y_complete, y_openNode, y_openType, y_openCount, y_openNames, y_openChoice, ow_L o m l, y_todo) → wpY_showText Q (y_length, y_parts, y_bad, y_nodes, y_fault, y_place, y_bound, y_depth, y_nextName, y_wantsName, y_wantsTag, nI m, y_waiting, y_scaled, y_sort, y_typeA, y_typeB, y_typeC, y_fieldName, y_fieldType, y_fields, y_tags, y_needed, t, y_begin, y_end, y_inside, y_whole, y_kind, y_value, y_parent, y_name, y_slotOf, y_placeOf, y_complete, y_openNode, y_openType, y_openCount, y_openNames, y_openChoice, o, y_todo) (nI b)) := by
  obtain ⟨hq, q16, mu, hmu⟩ := hW
  have hbq := ss_R_le hmu
  have hlen : (rg_L t (b + 1) (q - b)).length = q - b := rg_len _ _ _
  refine ⟨16 :: rg_L t (b + 1) (q - b), by rw [List.length_cons, hlen]; omega, fun Q m o hm hq2 => ?_, ?_⟩
  · rw [List.length_cons, hlen, show m + (q - b + 1) = m + 1 + (q - b) from by omega] at hq2
    unfold wpX_writeString
    dsimp only
    refine wr_x (by omega) (nm_r (nI_1 b) (ws_run hL hq q16 mu (b + 1) (m + 1) _ hmu (by omega) ?_))
    rw [show q + 1 - (b + 1) = q - b from by omega]
    exact hq2
  · intro y_length y_parts y_bad y_nodes y_fault y_place y_bound y_depth y_nextName y_wantsName y_wantsTag y_waiting y_scaled y_sort y_typeA y_typeB y_typeC y_fieldName y_fieldType y_fields y_tags y_needed y_begin y_end y_inside y_whole y_kind y_value y_parent y_name y_slotOf y_placeOf y_complete y_openNode y_openType y_openCount y_openNames y_openChoice y_todo Q m o hm hq2
    rw [List.length_cons, hlen, show m + (q - b + 1) = m + 1 + (q - b) from by omega] at hq2
    obtain ⟨n, hn⟩ := st_run (y_text := t) (Q := Q) (y_length := y_length) (y_parts := y_parts) (y_bad := y_bad) (y_nodes := y_nodes) (y_fault := y_fault) (y_place := y_place) (y_bound := y_bound) (y_depth := y_depth) (y_nextName := y_nextName) (y_wantsName := y_wantsName) (y_wantsTag := y_wantsTag) (y_waiting := y_waiting) (y_scaled := y_scaled) (y_sort := y_sort) (y_typeA := y_typeA) (y_typeB := y_typeB) (y_typeC := y_typeC) (y_fieldName := y_fieldName) (y_fieldType := y_fieldType) (y_fields := y_fields) (y_tags := y_tags) (y_needed := y_needed) (y_begin := y_begin) (y_end := y_end) (y_inside := y_inside) (y_whole := y_whole) (y_kind := y_kind) (y_value := y_value) (y_parent := y_parent) (y_name := y_name) (y_slotOf := y_slotOf) (y_placeOf := y_placeOf) (y_complete := y_complete) (y_openNode := y_openNode) (y_openType := y_openType) (y_openCount := y_openCount) (y_openNames := y_openNames) (y_openChoice := y_openChoice) (y_todo := y_todo) hL hq q16 mu b (m + 1) (ow_1 o m 16) hmu (by omega) hq2
    refine ⟨n + 1, And.intro (vp_in_nI (by omega) (by decide)) ?_⟩
    rw [nI_clamp (by omega)]
    refine ou_y (by omega) ⟨vp_in_nI (by omega) (by decide), br_f (by rw [b16]; decide) ?_⟩
    rw [b16]; exact hn
end
section
/-! printing: the child of a name, and what waits -/
/-- r is the child of p under the name v, or -1 -/
def fd_R (N : Nat) (pa nm : Nat → Int32) (p v r : Int32) : Prop :=
  (∃ c, c < N ∧ pa c = p ∧ nm c = v ∧ (∀ c', c' < N → pa c' = p → nm c' = v → c' = c) ∧ r = nI c) ∨ ((∀ c, c < N → ¬ (pa c = p ∧ nm c = v)) ∧ r = -1)
theorem fd_e {N : Nat} {pa nm pa' nm' : Nat → Int32} {p v r : Int32} (e1 : pe_N N pa pa') (e2 : pe_N N nm nm') (h : fd_R N pa nm p v r) : fd_R N pa' nm' p v r := by
  rcases h with ⟨c, hc, a, b, u, rfl⟩ | ⟨u, rfl⟩
  · exact Or.inl ⟨c, hc, by rw [e1 c hc]; exact a, by rw [e2 c hc]; exact b, fun c' hc' a' b' => u c' hc' (by rw [← e1 c' hc']; exact a') (by rw [← e2 c' hc']; exact b'), rfl⟩
  · exact Or.inr ⟨fun c hc z => u c hc ⟨by rw [← e1 c hc]; exact z.1, by rw [← e2 c hc]; exact z.2⟩, rfl⟩
theorem fd_u {N : Nat} {pa nm : Nat → Int32} {p v r r' : Int32} (h : fd_R N pa nm p v r) (h' : fd_R N pa nm p v r') : r = r' := by
  rcases h with ⟨c, hc, a, b, u, rfl⟩ | ⟨u, rfl⟩
  · rcases h' with ⟨c', hc', a', b', u', rfl⟩ | ⟨u', rfl⟩
    · rw [u c' hc' a' b']
    · exact absurd ⟨a, b⟩ (u' c hc)
  · rcases h' with ⟨c', hc', a', b', u', rfl⟩ | ⟨u', rfl⟩
    · exact absurd ⟨a', b'⟩ (u c' hc')
    · rfl
section
variable {x_length x_bound x_fault x_faultPlace x_mode x_at x_tokenStart x_textCount x_escaped x_valueSlot x_valueName x_depth x_outputLength : Int32} {x_text x_typeKind x_typeDetail x_typeLeast x_typeMost x_fieldCount x_fieldName x_fieldType x_fieldNeeded x_tagType x_nodeKind x_nodeValue x_nodeParent x_nodeName x_nodeSlot x_nodeStart x_nodeTag x_completeCount x_openNode x_openSlot x_openNames x_openNext x_openComma x_output : Nat → Int32} {N : Nat} {p v r : Int32} {post : Int32 → Prop}
theorem fc_w (hN : N ≤ 40) (h : fd_R N x_nodeParent x_nodeName p v r) (hp : post r) : ∀ (j i : Nat), i + j = N → (∀ c, c < i → ¬ (x_nodeParent c = p ∧ x_nodeName c = v)) → ∃ k, wX_findChild_2 post p v x_length (nI N) x_bound x_fault x_faultPlace x_mode x_at x_tokenStart x_textCount x_escaped x_valueSlot x_valueName x_depth x_outputLength x_text x_typeKind x_typeDetail x_typeLeast x_typeMost x_fieldCount x_fieldName x_fieldType x_fieldNeeded x_tagType x_nodeKind x_nodeValue x_nodeParent x_nodeName x_nodeSlot x_nodeStart x_nodeTag x_completeCount x_openNode x_openSlot x_openNames x_openNext x_openComma x_output k (nI i) := by
  intro j
  induction j with
  | zero =>
    intro i hi hb
    have : i = N := by omega
    subst this
    rcases h with ⟨c, hc, a, b, -, -⟩ | ⟨-, rfl⟩
    · exact absurd ⟨a, b⟩ (hb c hc)
    · exact ⟨0 + 1, br_t (nI_le (Nat.le_refl i) (by omega)) hp⟩
  | succ j ih =>
    intro i hi hb
    by_cases z : x_nodeParent i = p ∧ x_nodeName i = v
    · have er : r = nI i := by
        rcases h with ⟨c, hc, a, b, u, rfl⟩ | ⟨u, rfl⟩
        · rw [u i (by omega) z.1 z.2]
        · exact absurd z (u i (by omega))
      subst er
      refine ⟨0 + 1, br_f (nI_ge (by omega) (by omega)) ⟨vp_in_nI (by omega) (by decide), ?_⟩⟩
      rw [nI_clamp (by omega)]
      exact br_t z.1 ⟨vp_in_nI (by omega) (by decide), br_t z.2 hp⟩
    · obtain ⟨k, hk⟩ := ih (i + 1) (by omega) (fun c hc y => by
        rcases Nat.lt_or_ge c i with w | w
        · exact hb c w y
        · have : c = i := by omega
          subst this; exact z y)
      refine ⟨k + 1, br_f (nI_ge (by omega) (by omega)) ⟨vp_in_nI (by omega) (by decide), ?_⟩⟩
      rw [nI_clamp (by omega)]
      exact br_c (fun e1 => ⟨vp_in_nI (by omega) (by decide), br_c (fun e2 => absurd ⟨e1, e2⟩ z) (fun _ => nm_r (nI_1 i) hk)⟩) (fun _ => nm_r (nI_1 i) hk)
theorem fc_x (hN : N ≤ 40) (h : fd_R N x_nodeParent x_nodeName p v r) (hp : post r) : wpX_findChild post (x_length, nI N, x_bound, x_fault, x_faultPlace, x_mode, x_at, x_tokenStart, x_textCount, x_escaped, x_valueSlot, x_valueName, x_depth, x_outputLength, x_text, x_typeKind, x_typeDetail, x_typeLeast, x_typeMost, x_fieldCount, x_fieldName, x_fieldType, x_fieldNeeded, x_tagType, x_nodeKind, x_nodeValue, x_nodeParent, x_nodeName, x_nodeSlot, x_nodeStart, x_nodeTag, x_completeCount, x_openNode, x_openSlot, x_openNames, x_openNext, x_openComma, x_output) p v :=
  fc_w hN h hp N 0 (by omega) (fun c hc => absurd hc (by omega))
end
section
variable {y_length y_parts y_bad y_fault y_place y_bound y_depth y_nextName y_wantsName y_wantsTag y_printed y_waiting y_scaled : Int32} {y_sort y_typeA y_typeB y_typeC y_fieldName y_fieldType y_fields y_tags y_needed y_text y_begin y_end y_inside y_whole y_kind y_value y_parent y_name y_slotOf y_placeOf y_complete y_openNode y_openType y_openCount y_openNames y_openChoice y_output y_todo : Nat → Int32} {N n : Nat} {v r : Int32} {post : Int32 → Prop}
theorem cy_w (hN : N ≤ 40) (h : fd_R N y_parent y_name (nI n) v r) (hp : post r) : ∀ (j i : Nat), i + j = N → (∀ c, c < i → ¬ (y_parent c = nI n ∧ y_name c = v)) → ∃ k, wY_child_4 post (nI n) v y_length y_parts y_bad (nI N) y_fault y_place y_bound y_depth y_nextName y_wantsName y_wantsTag y_printed y_waiting y_scaled y_sort y_typeA y_typeB y_typeC y_fieldName y_fieldType y_fields y_tags y_needed y_text y_begin y_end y_inside y_whole y_kind y_value y_parent y_name y_slotOf y_placeOf y_complete y_openNode y_openType y_openCount y_openNames y_openChoice y_output y_todo k (nI i) := by
  intro j
  induction j with
  | zero =>
    intro i hi hb
    have : i = N := by omega
    subst this
    rcases h with ⟨c, hc, a, b, -, -⟩ | ⟨-, rfl⟩
    · exact absurd ⟨a, b⟩ (hb c hc)
    · exact ⟨0 + 1, br_t (nI_le (Nat.le_refl i) (by omega)) hp⟩
  | succ j ih =>
    intro i hi hb
    by_cases z : y_parent i = nI n ∧ y_name i = v
    · have er : r = nI i := by
        rcases h with ⟨c, hc, a, b, u, rfl⟩ | ⟨u, rfl⟩
        · rw [u i (by omega) z.1 z.2]
        · exact absurd z (u i (by omega))
      subst er
      refine ⟨0 + 1, br_f (nI_ge (by omega) (by omega)) ⟨vp_in_nI (by omega) (by decide), ?_⟩⟩
      rw [nI_clamp (by omega)]
      exact br_t z.1 ⟨vp_in_nI (by omega) (by decide), br_t z.2 hp⟩
    · obtain ⟨k, hk⟩ := ih (i + 1) (by omega) (fun c hc y => by
        rcases Nat.lt_or_ge c i with w | w
        · exact hb c w y
        · have : c = i := by omega
          subst this; exact z y)
      refine ⟨k + 1, br_f (nI_ge (by omega) (by omega)) ⟨vp_in_nI (by omega) (by decide), ?_⟩⟩
      rw [nI_clamp (by omega)]
      exact br_c (fun e1 => ⟨vp_in_nI (by omega) (by decide), br_c (fun e2 => absurd ⟨e1, e2⟩ z) (fun _ => nm_r (nI_1 i) hk)⟩) (fun _ => nm_r (nI_1 i) hk)
theorem ch_y (hN : N ≤ 40) (hn : n < N) (hlt : ∀ c, c < N → y_parent c = nI n → n < c) (h : fd_R N y_parent y_name (nI n) v r) (hp : post r) : wpY_child post (y_length, y_parts, y_bad, nI N, y_fault, y_place, y_bound, y_depth, y_nextName, y_wantsName, y_wantsTag, y_printed, y_waiting, y_scaled, y_sort, y_typeA, y_typeB, y_typeC, y_fieldName, y_fieldType, y_fields, y_tags, y_needed, y_text, y_begin, y_end, y_inside, y_whole, y_kind, y_value, y_parent, y_name, y_slotOf, y_placeOf, y_complete, y_openNode, y_openType, y_openCount, y_openNames, y_openChoice, y_output, y_todo) (nI n) v :=
  nm_r (nI_1 n) (cy_w hN h hp (N - (n + 1)) (n + 1) (by omega) (fun c hc z => by
    have := hlt c (by omega) z.1
    omega))
end
/-- what waits, the next to come first -/
def hol (a : Nat → Int32) : List Int32 → Prop
  | [] => True
  | c :: r => a r.length = c ∧ hol a r
theorem hol_u {a : Nat → Int32} {x : Int32} : ∀ {s : List Int32} {k : Nat}, s.length ≤ k → hol a s → hol (upd a k x) s
  | [], _, _, _ => trivial
  | c :: r, k, hk, h => by
    rw [List.length_cons] at hk
    exact ⟨by rw [pk_un (by omega)]; exact h.1, hol_u (by omega) h.2⟩
theorem hol_p {a : Nat → Int32} {x : Int32} {s : List Int32} (h : hol a s) : hol (upd a s.length x) (x :: s) := ⟨pk_us, hol_u (Nat.le_refl _) h⟩
section
variable {y_length y_parts y_bad y_nodes y_fault y_place y_bound y_depth y_nextName y_wantsName y_wantsTag y_printed y_scaled : Int32} {y_sort y_typeA y_typeB y_typeC y_fieldName y_fieldType y_fields y_tags y_needed y_text y_begin y_end y_inside y_whole y_kind y_value y_parent y_name y_slotOf y_placeOf y_complete y_openNode y_openType y_openCount y_openNames y_openChoice y_output y_todo : Nat → Int32} {w : Nat} {c : Int32}
theorem la_y {Q : SY → Prop} (hw : w < 600) (h : Q (y_length, y_parts, y_bad, y_nodes, y_fault, y_place, y_bound, y_depth, y_nextName, y_wantsName, y_wantsTag, y_printed, nI (w + 1), y_scaled, y_sort, y_typeA, y_typeB, y_typeC, y_fieldName, y_fieldType, y_fields, y_tags, y_needed, y_text, y_begin, y_end, y_inside, y_whole, y_kind, y_value, y_parent, y_name, y_slotOf, y_placeOf, y_complete, y_openNode, y_openType, y_openCount, y_openNames, y_openChoice, y_output, upd y_todo w c)) : wpY_later Q (y_length, y_parts, y_bad, y_nodes, y_fault, y_place, y_bound, y_depth, y_nextName, y_wantsName, y_wantsTag, y_printed, nI w, y_scaled, y_sort, y_typeA, y_typeB, y_typeC, y_fieldName, y_fieldType, y_fields, y_tags, y_needed, y_text, y_begin, y_end, y_inside, y_whole, y_kind, y_value, y_parent, y_name, y_slotOf, y_placeOf, y_complete, y_openNode, y_openType, y_openCount, y_openNames, y_openChoice, y_output, y_todo) c := by
  refine ⟨vp_in_nI hw (by decide), ?_⟩
  rw [nI_clamp (by omega)]
  exact nm_e (nm_r (nI_1 w) h)
end
/-! counting -/
noncomputable def cq_N (P : Nat → Prop) : Nat → Nat
  | 0 => 0
  | k + 1 => cq_N P k + @ite Nat (P k) (Classical.propDecidable (P k)) 1 0
theorem cq_le (P : Nat → Prop) : ∀ N, cq_N P N ≤ N
  | 0 => Nat.le_refl 0
  | k + 1 => by
    have := cq_le P k
    unfold cq_N
    split <;> omega
theorem cq_m {P Q : Nat → Prop} : ∀ {N : Nat}, (∀ i, i < N → P i → Q i) → cq_N P N ≤ cq_N Q N
  | 0, _ => Nat.le_refl 0
  | k + 1, h => by
    have := cq_m (N := k) (fun i hi => h i (by omega))
    have h2 := h k (by omega)
    unfold cq_N
    by_cases a : P k
    · rw [if_pos a, if_pos (h2 a)]; omega
    · rw [if_neg a]; omega
theorem cq_a {P Q R : Nat → Prop} : ∀ {N : Nat}, (∀ i, i < N → P i → R i) → (∀ i, i < N → Q i → R i) → (∀ i, i < N → P i → ¬ Q i) → cq_N P N + cq_N Q N ≤ cq_N R N
  | 0, _, _, _ => Nat.le_refl 0
  | k + 1, h1, h2, h3 => by
    have := cq_a (N := k) (fun i hi => h1 i (by omega)) (fun i hi => h2 i (by omega)) (fun i hi => h3 i (by omega))
    have a1 := h1 k (by omega)
    have a2 := h2 k (by omega)
    have a3 := h3 k (by omega)
    unfold cq_N
    by_cases a : P k
    · rw [if_pos a, if_neg (a3 a), if_pos (a1 a)]; omega
    · rw [if_neg a]
      by_cases b : Q k
      · rw [if_pos b, if_pos (a2 b)]; omega
      · rw [if_neg b]; omega
theorem cq_1 {P : Nat → Prop} : ∀ {N n : Nat}, n < N → P n → 1 ≤ cq_N P N
  | 0, _, h, _ => absurd h (by omega)
  | k + 1, n, h, hp => by
    unfold cq_N
    by_cases e : n = k
    · subst e; rw [if_pos hp]; omega
    · have := cq_1 (N := k) (n := n) (by omega) hp
      omega
end
section
/-! printing: weights -/
def up_N (pa : Nat → Int32) : Nat → Nat → Nat
  | 0, x => x
  | k + 1, x => up_N pa k (pa x).toNatClampNeg
theorem up_s (pa : Nat → Int32) : ∀ k x, up_N pa (k + 1) x = (pa (up_N pa k x)).toNatClampNeg
  | 0, _ => rfl
  | k + 1, x => by
    show up_N pa (k + 1) (pa x).toNatClampNeg = _
    rw [up_s pa k]; rfl
/-- x lies under n, or is n -/
def ds_D (pa : Nat → Int32) (dp : Nat → Nat) (n x : Nat) : Prop := dp n ≤ dp x ∧ up_N pa (dp x - dp n) x = n
section
variable {pa : Nat → Int32} {dp : Nat → Nat} {N n c c' x d : Nat} {S S' : Nat → Prop}
theorem ds_0 : ds_D pa dp n n := ⟨Nat.le_refl _, by rw [Nat.sub_self]; rfl⟩
theorem ds_c (hn : n < 40) (hp : pa c = nI n) (hd : dp c = dp n + 1) (h : ds_D pa dp c x) : ds_D pa dp n x := by
  refine ⟨by have := h.1; omega, ?_⟩
  have := h.1
  rw [show dp x - dp n = (dp x - dp c) + 1 from by omega, up_s, h.2, hp, nI_clamp (by omega)]
theorem ds_u (hd : dp c = dp c') (h : ds_D pa dp c x) (h' : ds_D pa dp c' x) : c = c' := by
  have a := h.2
  have b := h'.2
  rw [← hd] at b
  rw [← a, ← b]
noncomputable def wt_N (pa : Nat → Int32) (dp : Nat → Nat) (N n : Nat) : Nat := cq_N (ds_D pa dp n) N
noncomputable def wt_S (pa : Nat → Int32) (dp : Nat → Nat) (N : Nat) (S : Nat → Prop) : Nat := cq_N (fun x => ∃ c, S c ∧ ds_D pa dp c x) N
theorem wt_1 (hn : n < N) : 1 ≤ wt_N pa dp N n := cq_1 hn ds_0
theorem wt_m (h : ∀ c, S' c → S c) : wt_S pa dp N S' ≤ wt_S pa dp N S := cq_m (fun _ _ ⟨c, a, b⟩ => ⟨c, h c a, b⟩)
theorem wt_a (h : ∀ c, S' c → S c) (hc : S c) (hc' : ¬ S' c) (hd : ∀ c, S c → dp c = d) : wt_N pa dp N c + wt_S pa dp N S' ≤ wt_S pa dp N S := by
  refine cq_a (fun i _ a => ⟨c, hc, a⟩) (fun i _ ⟨c1, a, b⟩ => ⟨c1, h c1 a, b⟩) (fun i _ a ⟨c1, e, b⟩ => ?_)
  have := ds_u (by rw [hd c hc, hd c1 (h c1 e)]) a b
  subst this
  exact hc' e
theorem wt_n (hN : N ≤ 40) (hn : n < N) (h : ∀ c, S c → pa c = nI n ∧ dp c = dp n + 1) : 1 + wt_S pa dp N S ≤ wt_N pa dp N n := by
  have a : 1 ≤ cq_N (fun x => x = n) N := cq_1 hn rfl
  have b : cq_N (fun x => x = n) N + wt_S pa dp N S ≤ wt_N pa dp N n := by
    refine cq_a (fun i _ e => ?_) (fun i _ ⟨c, e, f⟩ => ds_c (by omega) (h c e).1 (h c e).2 f) (fun i _ e ⟨c, e2, f⟩ => ?_)
    · have e' : i = n := e
      subst e'; exact ds_0
    · have e' : i = n := e
      subst e'
      have := f.1
      have := (h c e2).2
      omega
  omega
end
/-- from each an existence, one function -/
theorem pk_ax {β : Type} [Inhabited β] {A : Nat → Prop} {B : Nat → β → Prop} (h : ∀ c, A c → ∃ x, B c x) : ∃ g : Nat → β, ∀ c, A c → B c (g c) := by
  refine ⟨fun c => @dite β (A c) (Classical.propDecidable (A c)) (fun z => Classical.choose (h c z)) (fun _ => default), fun c z => ?_⟩
  dsimp only
  rw [dif_pos z]
  exact Classical.choose_spec (h c z)
end
section
/-! printing: what waits for the reference, level by level -/
def sg_Y : List (List Int32 × Nat) → List Int32
  | [] => []
  | e :: r => e.1 ++ nI (100 + e.2) :: sg_Y r
def pt_L (lc : Nat → List Int32) : List (List Int32 × Nat) → List Int32
  | [] => []
  | e :: r => e.1 ++ (lc e.2 ++ pt_L lc r)
/-- characters, none of them a node -/
def lo_L : List Int32 → Prop
  | [] => True
  | c :: r => (∃ j, j < 100 ∧ c = nI j) ∧ lo_L r
section
variable {y_length y_parts y_bad y_nodes y_fault y_place y_bound y_depth y_nextName y_wantsName y_wantsTag : Int32} {y_sort y_typeA y_typeB y_typeC y_fieldName y_fieldType y_fields y_tags y_needed y_text y_begin y_end y_inside y_whole y_kind y_value y_parent y_name y_slotOf y_placeOf y_complete y_openNode y_openType y_openCount y_openNames y_openChoice : Nat → Int32} {dp : Nat → Nat} {post : Int32 → SY → Prop}
theorem yp_c {s : List Int32} {a o : Nat → Int32} {m j : Nat} {x sc : Int32} (ha : hol a (x :: s)) (hx : x = nI j) (hj : j < 100) (hs : s.length < 600) (hm : m < 70000) (h : ∃ k, wY_print_23 post k y_length y_parts y_bad y_nodes y_fault y_place y_bound y_depth y_nextName y_wantsName y_wantsTag (nI (m + 1)) (nI (s.length)) sc y_sort y_typeA y_typeB y_typeC y_fieldName y_fieldType y_fields y_tags y_needed y_text y_begin y_end y_inside y_whole y_kind y_value y_parent y_name y_slotOf y_placeOf y_complete y_openNode y_openType y_openCount y_openNames y_openChoice (ow_1 o m x) a) : ∃ k, wY_print_23 post k y_length y_parts y_bad y_nodes y_fault y_place y_bound y_depth y_nextName y_wantsName y_wantsTag (nI (m)) (nI (s.length + 1)) sc y_sort y_typeA y_typeB y_typeC y_fieldName y_fieldType y_fields y_tags y_needed y_text y_begin y_end y_inside y_whole y_kind y_value y_parent y_name y_slotOf y_placeOf y_complete y_openNode y_openType y_openCount y_openNames y_openChoice o a := by
  obtain ⟨k, hk⟩ := h
  refine ⟨k + 1, br_f (nI_nle (by omega) (by omega)) (nm_r (nI_pred s.length) ⟨vp_in_nI hs (by decide), ?_⟩)⟩
  rw [nI_clamp (by omega), ha.1]
  refine nm_e (br_f ?_ (ou_y (by omega) hk))
  rw [hx]
  exact nI_ge (b := 100) hj (by decide)
theorem yp_l {s : List Int32} {a : Nat → Int32} {sc : Int32} : ∀ (ld : List Int32) (m : Nat) (o : Nat → Int32), hol a (ld ++ s) → lo_L ld → (ld ++ s).length < 600 → m + ld.length < 70000 → (∃ k, wY_print_23 post k y_length y_parts y_bad y_nodes y_fault y_place y_bound y_depth y_nextName y_wantsName y_wantsTag (nI (m + ld.length)) (nI (s.length)) sc y_sort y_typeA y_typeB y_typeC y_fieldName y_fieldType y_fields y_tags y_needed y_text y_begin y_end y_inside y_whole y_kind y_value y_parent y_name y_slotOf y_placeOf y_complete y_openNode y_openType y_openCount y_openNames y_openChoice (ow_L o m ld) a) → ∃ k, wY_print_23 post k y_length y_parts y_bad y_nodes y_fault y_place y_bound y_depth y_nextName y_wantsName y_wantsTag (nI (m)) (nI ((ld ++ s).length)) sc y_sort y_typeA y_typeB y_typeC y_fieldName y_fieldType y_fields y_tags y_needed y_text y_begin y_end y_inside y_whole y_kind y_value y_parent y_name y_slotOf y_placeOf y_complete y_openNode y_openType y_openCount y_openNames y_openChoice o a
  | [], m, o, ha, hl, hs, hm, h => h
  | c :: r, m, o, ha, hl, hs, hm, h => by
    obtain ⟨⟨j, hj, e⟩, hl'⟩ := hl
    rw [List.cons_append, List.length_cons] at hs ⊢
    rw [List.length_cons] at hm h
    refine yp_c ha e hj (by omega) (by omega) (yp_l r (m + 1) _ ha.2 hl' (by omega) (by omega) ?_)
    rw [show m + 1 + r.length = m + (r.length + 1) from by omega]
    exact h
theorem yp_lv {lc : Nat → List Int32} {d : Nat} {s : List Int32} {cl : Int32} (hcl : ∃ j, j < 100 ∧ cl = nI j) (hd : d ≤ 5) : ∀ (es : List (List Int32 × Nat)) (m : Nat) (a o : Nat → Int32) (sc : Int32),
    (∀ e, e ∈ es → lo_L e.1 ∧ dp e.2 = d + 1 ∧ ∀ (post : Int32 → SY → Prop) (s : List Int32) (a : Nat → Int32) (m : Nat) (o : Nat → Int32) (sc : Int32), hol a (nI (100 + e.2) :: s) → s.length ≤ 41 * dp e.2 → m + (lc e.2).length < 60000 → (∀ (a' : Nat → Int32) (sc' : Int32), hol a' s → ∃ k, wY_print_23 post k y_length y_parts y_bad y_nodes y_fault y_place y_bound y_depth y_nextName y_wantsName y_wantsTag (nI (m + (lc e.2).length)) (nI (s.length)) (sc') y_sort y_typeA y_typeB y_typeC y_fieldName y_fieldType y_fields y_tags y_needed y_text y_begin y_end y_inside y_whole y_kind y_value y_parent y_name y_slotOf y_placeOf y_complete y_openNode y_openType y_openCount y_openNames y_openChoice (ow_L o m (lc e.2)) (a')) → ∃ k, wY_print_23 post k y_length y_parts y_bad y_nodes y_fault y_place y_bound y_depth y_nextName y_wantsName y_wantsTag (nI (m)) (nI (s.length + 1)) sc y_sort y_typeA y_typeB y_typeC y_fieldName y_fieldType y_fields y_tags y_needed y_text y_begin y_end y_inside y_whole y_kind y_value y_parent y_name y_slotOf y_placeOf y_complete y_openNode y_openType y_openCount y_openNames y_openChoice o a) → hol a (sg_Y es ++ cl :: s) → (sg_Y es ++ cl :: s).length ≤ 41 * (d + 1) → m + (pt_L lc es).length + 1 < 60000 →
    (∀ (a' : Nat → Int32) (sc' : Int32), hol a' s → ∃ k, wY_print_23 post k y_length y_parts y_bad y_nodes y_fault y_place y_bound y_depth y_nextName y_wantsName y_wantsTag (nI (m + ((pt_L lc es).length + 1))) (nI (s.length)) (sc') y_sort y_typeA y_typeB y_typeC y_fieldName y_fieldType y_fields y_tags y_needed y_text y_begin y_end y_inside y_whole y_kind y_value y_parent y_name y_slotOf y_placeOf y_complete y_openNode y_openType y_openCount y_openNames y_openChoice (ow_L o m (pt_L lc es ++ [cl])) (a')) → ∃ k, wY_print_23 post k y_length y_parts y_bad y_nodes y_fault y_place y_bound y_depth y_nextName y_wantsName y_wantsTag (nI (m)) (nI ((sg_Y es ++ cl :: s).length)) sc y_sort y_typeA y_typeB y_typeC y_fieldName y_fieldType y_fields y_tags y_needed y_text y_begin y_end y_inside y_whole y_kind y_value y_parent y_name y_slotOf y_placeOf y_complete y_openNode y_openType y_openCount y_openNames y_openChoice o a
  | [], m, a, o, sc, hes, ha, hlen, hm, h => by
    obtain ⟨j, hj, e⟩ := hcl
    have hl2 : (cl :: s).length ≤ 41 * (d + 1) := hlen
    rw [List.length_cons] at hl2
    have hm2 : m + 0 + 1 < 60000 := hm
    exact yp_c ha e hj (by omega) (by omega) (h a sc ha.2)
  | e :: r, m, a, o, sc, hes, ha, hlen, hm, h => by
    obtain ⟨h1, h2, h3⟩ := hes e (.head _)
    have es1 : sg_Y (e :: r) ++ cl :: s = e.1 ++ (nI (100 + e.2) :: (sg_Y r ++ cl :: s)) := by
      show (e.1 ++ nI (100 + e.2) :: sg_Y r) ++ cl :: s = _
      rw [List.append_assoc, List.cons_append]
    have es2 : pt_L lc (e :: r) = e.1 ++ (lc e.2 ++ pt_L lc r) := rfl
    rw [es1] at ha hlen ⊢
    rw [es2] at hm h
    have hl1 : (e.1 ++ (nI (100 + e.2) :: (sg_Y r ++ cl :: s))).length = e.1.length + ((sg_Y r ++ cl :: s).length + 1) := by rw [List.length_append, List.length_cons]
    have hl2 : (e.1 ++ (lc e.2 ++ pt_L lc r)).length = e.1.length + ((lc e.2).length + (pt_L lc r).length) := by rw [List.length_append, List.length_append]
    rw [hl2] at hm h
    have ha2 : ∀ (l : List Int32) (s : List Int32), hol a (l ++ s) → hol a s := by
      intro l
      induction l with
      | nil => exact fun _ z => z
      | cons c l ih => exact fun s z => ih s z.2
    have ha3 := ha2 _ _ ha
    refine yp_l e.1 m o ha h1 (by omega) (by omega) ?_
    rw [List.length_cons]
    refine h3 post (sg_Y r ++ cl :: s) a (m + e.1.length) _ sc ha3 (by rw [h2]; omega) (by omega) (fun a' sc' ha' => ?_)
    refine yp_lv hcl hd r (m + e.1.length + (lc e.2).length) a' _ sc' (fun e' he' => hes e' (.tail _ he')) ha' (by omega) (by omega) (fun a2 sc2 ha2 => ?_)
    obtain ⟨k, hk⟩ := h a2 sc2 ha2
    refine ⟨k, ?_⟩
    rw [List.append_assoc, List.append_assoc, ow_app, ow_app] at hk
    rw [show m + e.1.length + (lc e.2).length + ((pt_L lc r).length + 1) = m + (e.1.length + ((lc e.2).length + (pt_L lc r).length) + 1) from by omega]
    exact hk
end
end
section
/-! printing: how the reference lays lists and records by -/
theorem pq_m (x : Int32) : x + -1 = x - 1 := by grind
theorem pq_100 (c : Nat) : (100 : Int32) + nI c = nI (100 + c) := nI_add 100 c
theorem pq_lt {a : Nat} (h : a < 1000) : nI a - 1 < nI a := by
  rw [Int32.lt_iff_toInt_lt]
  cases a with
  | zero => decide
  | succ a =>
    rw [nI_pred, nI_toInt (by omega), nI_toInt (by omega)]
    omega
/-- a list's entries from k on -/
def eL_L (ch : Nat → Nat) (k : Nat) : Nat → List (List Int32 × Nat)
  | 0 => []
  | r + 1 => ((if k = 0 then [] else [15]), ch k) :: eL_L ch (k + 1) r
/-- a record's entries from field k on -/
def eR_L (rr : Nat → Int32) (pc : Nat → Nat) (fn : Nat → Int32) (k : Nat) : Nat → List (List Int32 × Nat)
  | 0 => []
  | r + 1 => if rr k = -1 then eR_L rr pc fn (k + 1) r else (((if pc k = 0 then [] else [15]) ++ [16, 21 + fn k, 16, 14]), (rr k).toNatClampNeg) :: eR_L rr pc fn (k + 1) r
/-- how many are there before field i -/
def pc_N (rr : Nat → Int32) (z : Nat) : Nat → Nat
  | 0 => z
  | i + 1 => pc_N rr z i + (if rr i = -1 then 0 else 1)
theorem pc_le (rr : Nat → Int32) (z : Nat) : ∀ i, pc_N rr z i ≤ z + i
  | 0 => Nat.le_refl _
  | i + 1 => by
    have := pc_le rr z i
    unfold pc_N
    split <;> omega
theorem eL_len (ch : Nat → Nat) : ∀ r k, (sg_Y (eL_L ch k r)).length ≤ 2 * r
  | 0, k => Nat.le_refl 0
  | r + 1, k => by
    have := eL_len ch r (k + 1)
    show ((if k = 0 then [] else [15]) ++ nI (100 + ch k) :: sg_Y (eL_L ch (k + 1) r)).length ≤ _
    rw [List.length_append, List.length_cons]
    split
    · rw [List.length_nil]; omega
    · rw [List.length_singleton]; omega
theorem eR_len (rr : Nat → Int32) (pc : Nat → Nat) (fn : Nat → Int32) : ∀ r k, (sg_Y (eR_L rr pc fn k r)).length ≤ 6 * r
  | 0, k => Nat.le_refl 0
  | r + 1, k => by
    have := eR_len rr pc fn r (k + 1)
    unfold eR_L
    by_cases z : rr k = -1
    · rw [if_pos z]; omega
    · rw [if_neg z]
      show (((if pc k = 0 then [] else [15]) ++ [16, 21 + fn k, 16, 14]) ++ nI (100 + (rr k).toNatClampNeg) :: sg_Y (eR_L rr pc fn (k + 1) r)).length ≤ _
      rw [List.length_append, List.length_cons, List.length_append]
      have : ([16, 21 + fn k, 16, 14] : List Int32).length = 4 := rfl
      split
      · rw [List.length_nil]; omega
      · rw [List.length_singleton]; omega
section
variable {y_length y_parts y_bad y_fault y_place y_bound y_depth y_nextName y_wantsName y_wantsTag y_printed y_scaled : Int32} {y_sort y_typeA y_typeB y_typeC y_fieldName y_fieldType y_fields y_tags y_needed y_text y_begin y_end y_inside y_whole y_kind y_value y_parent y_name y_slotOf y_placeOf y_complete y_openNode y_openType y_openCount y_openNames y_openChoice y_output : Nat → Int32} {N n : Nat} {s : List Int32}
theorem sl_w (hN : N ≤ 40) (hn : n < N) (hlt : ∀ c, c < N → y_parent c = nI n → n < c) {q : Nat} {ch : Nat → Nat} (hq : q ≤ 20) (hch : ∀ j, j < q → fd_R N y_parent y_name (nI n) (nI j) (nI (ch j))) (hs : s.length ≤ 250) :
    ∀ (k : Nat) (a : Nat → Int32), k ≤ q → hol a (sg_Y (eL_L ch k (q - k)) ++ 13 :: s) → ∃ a', hol a' (sg_Y (eL_L ch 0 q) ++ 13 :: s) ∧ ∀ (Q : SY → Prop), Q (y_length, y_parts, y_bad, nI N, y_fault, y_place, y_bound, y_depth, y_nextName, y_wantsName, y_wantsTag, y_printed, nI ((sg_Y (eL_L ch 0 q) ++ 13 :: s).length), y_scaled, y_sort, y_typeA, y_typeB, y_typeC, y_fieldName, y_fieldType, y_fields, y_tags, y_needed, y_text, y_begin, y_end, y_inside, y_whole, y_kind, y_value, y_parent, y_name, y_slotOf, y_placeOf, y_complete, y_openNode, y_openType, y_openCount, y_openNames, y_openChoice, y_output, a') → ∃ fu, wY_showList_21 Q (nI n) fu (nI k - 1) y_length y_parts y_bad (nI N) y_fault y_place y_bound y_depth y_nextName y_wantsName y_wantsTag y_printed (nI ((sg_Y (eL_L ch k (q - k)) ++ 13 :: s).length)) y_scaled y_sort y_typeA y_typeB y_typeC y_fieldName y_fieldType y_fields y_tags y_needed y_text y_begin y_end y_inside y_whole y_kind y_value y_parent y_name y_slotOf y_placeOf y_complete y_openNode y_openType y_openCount y_openNames y_openChoice y_output a := by
  intro k
  induction k with
  | zero =>
    intro a _ ha
    rw [Nat.sub_zero] at ha
    exact ⟨a, ha, fun Q hQ => ⟨0 + 1, br_t (by decide) hQ⟩⟩
  | succ k ih =>
    intro a hk ha
    have e1 : q - k = (q - (k + 1)) + 1 := by omega
    have e2 : sg_Y (eL_L ch k (q - k)) ++ 13 :: s = (if k = 0 then [] else [15]) ++ (nI (100 + ch k) :: (sg_Y (eL_L ch (k + 1) (q - (k + 1))) ++ 13 :: s)) := by
      rw [e1]
      show ((if k = 0 then [] else [15]) ++ nI (100 + ch k) :: sg_Y (eL_L ch (k + 1) (q - (k + 1)))) ++ 13 :: s = _
      rw [List.append_assoc, List.cons_append]
    have hl := eL_len ch (q - (k + 1)) (k + 1)
    have hl2 : (sg_Y (eL_L ch (k + 1) (q - (k + 1))) ++ 13 :: s).length = (sg_Y (eL_L ch (k + 1) (q - (k + 1)))).length + (s.length + 1) := by rw [List.length_append, List.length_cons]
    have p1 := hol_p (x := nI (100 + ch k)) ha
    by_cases z : k = 0
    · rw [if_pos z, List.nil_append] at e2
      rw [← e2] at p1
      obtain ⟨a', ha', hw⟩ := ih _ (by omega) p1
      refine ⟨a', ha', fun Q hQ => ?_⟩
      obtain ⟨fu, hf⟩ := hw Q hQ
      rw [e2, List.length_cons] at hf
      refine ⟨fu + 1, ?_⟩
      rw [nI_pred]
      refine br_f (nI_pos (by omega)) (ch_y hN hn hlt (hch k (by omega)) ?_)
      rw [pq_100]
      refine la_y (by omega) (br_t (by rw [z]; decide) (nm_r (pq_m _) hf))
    · rw [if_neg z] at e2
      have p2 := hol_p (x := 15) p1
      have e3 : sg_Y (eL_L ch k (q - k)) ++ 13 :: s = 15 :: nI (100 + ch k) :: (sg_Y (eL_L ch (k + 1) (q - (k + 1))) ++ 13 :: s) := e2
      rw [← e3] at p2
      obtain ⟨a', ha', hw⟩ := ih _ (by omega) p2
      refine ⟨a', ha', fun Q hQ => ?_⟩
      obtain ⟨fu, hf⟩ := hw Q hQ
      rw [e3, List.length_cons, List.length_cons] at hf
      refine ⟨fu + 1, ?_⟩
      rw [nI_pred]
      refine br_f (nI_pos (by omega)) (ch_y hN hn hlt (hch k (by omega)) ?_)
      rw [pq_100]
      exact la_y (by omega) (br_f (nI_nle (by omega) (by omega)) (la_y (by omega) (nm_r (pq_m _) hf)))
end
end
section
/-! printing: how the reference lays records by -/
theorem pq_4 (a : Nat) : (4 : Int32) * nI a = nI (4 * a) := (Int32.ofNat_mul 4 a).symm
section
variable {y_length y_parts y_bad y_fault y_place y_bound y_depth y_nextName y_wantsName y_wantsTag y_printed y_scaled : Int32} {y_sort y_typeA y_typeB y_typeC y_fieldName y_fieldType y_fields y_tags y_needed y_text y_begin y_end y_inside y_whole y_kind y_value y_parent y_name y_slotOf y_placeOf y_complete y_openNode y_openType y_openCount y_openNames y_openChoice y_output : Nat → Int32} {N n : Nat} {s : List Int32}
theorem sr_c (hN : N ≤ 40) (hn : n < N) (hlt : ∀ c, c < N → y_parent c = nI n → n < c) {w rs mq z : Nat} {rr a : Nat → Int32} (hz : z ≤ 1) (hrs : rs < 12) (hq : mq ≤ 4) (ef : y_fields rs = nI mq) (hrr : ∀ i, i < mq → fd_R N y_parent y_name (nI n) (y_fieldName (4 * rs + i)) (rr i)) (hrr2 : ∀ i, i < mq → rr i = -1 ∨ ∃ c, c < N ∧ rr i = nI c) {x2 x4 : Int32} {Q : SY → Prop}
    (h : ∃ fu, wY_showRecord_56 Q (nI n) x2 (nI rs) x4 y_length y_parts y_bad (nI N) y_fault y_place y_bound y_depth y_nextName y_wantsName y_wantsTag y_printed (nI (w)) y_scaled y_sort y_typeA y_typeB y_typeC y_fieldName y_fieldType y_fields y_tags y_needed y_text y_begin y_end y_inside y_whole y_kind y_value y_parent y_name y_slotOf y_placeOf y_complete y_openNode y_openType y_openCount y_openNames y_openChoice y_output a fu (nI (pc_N rr z mq)) (nI (4 * rs + mq))) : ∀ j i, i + j = mq → ∃ fu, wY_showRecord_56 Q (nI n) x2 (nI rs) x4 y_length y_parts y_bad (nI N) y_fault y_place y_bound y_depth y_nextName y_wantsName y_wantsTag y_printed (nI (w)) y_scaled y_sort y_typeA y_typeB y_typeC y_fieldName y_fieldType y_fields y_tags y_needed y_text y_begin y_end y_inside y_whole y_kind y_value y_parent y_name y_slotOf y_placeOf y_complete y_openNode y_openType y_openCount y_openNames y_openChoice y_output a fu (nI (pc_N rr z i)) (nI (4 * rs + i)) := by
  intro j
  induction j with
  | zero =>
    intro i hi
    have : i = mq := by omega
    subst this
    exact h
  | succ j ih =>
    intro i hi
    obtain ⟨fu, hf⟩ := ih (i + 1) (by omega)
    have ep : pc_N rr z (i + 1) = pc_N rr z i + (if rr i = -1 then 0 else 1) := rfl
    refine ⟨fu + 1, And.intro (vp_in_nI hrs (by decide)) ?_⟩
    rw [nI_clamp (by omega), ef, pq_4, nI_add]
    refine br_f (nI_ge (by omega) (by omega)) ⟨vp_in_nI (by omega) (by decide), ?_⟩
    rw [nI_clamp (by omega)]
    refine ch_y hN hn hlt (hrr i (by omega)) ?_
    rcases hrr2 i (by omega) with e | ⟨c, hc, e⟩
    · rw [if_pos e] at ep
      rw [ep] at hf
      refine br_t (by rw [e]; decide) (nm_r (nI_1 _) hf)
    · rw [if_neg (by rw [e]; exact hh_m1 (by omega))] at ep
      rw [ep] at hf
      exact br_f (by rw [e]; exact nI_pos (by omega)) (nm_r (nI_1 _) (nm_r (nI_1 _) hf))
theorem sr_w (hN : N ≤ 40) (hn : n < N) (hlt : ∀ c, c < N → y_parent c = nI n → n < c) {rs mq z : Nat} {rr : Nat → Int32} (hz : z ≤ 1) (hrs : rs < 12) (hq : mq ≤ 4) (hrr : ∀ i, i < mq → fd_R N y_parent y_name (nI n) (y_fieldName (4 * rs + i)) (rr i)) (hrr2 : ∀ i, i < mq → rr i = -1 ∨ ∃ c, c < N ∧ rr i = nI c) (hs : s.length ≤ 250) :
    ∀ (k : Nat) (a : Nat → Int32), k ≤ mq → hol a (sg_Y (eR_L rr (pc_N rr z) (fun i => y_fieldName (4 * rs + i)) k (mq - k)) ++ 11 :: s) → ∃ a', hol a' (sg_Y (eR_L rr (pc_N rr z) (fun i => y_fieldName (4 * rs + i)) 0 mq) ++ 11 :: s) ∧ ∀ (Q : SY → Prop), Q (y_length, y_parts, y_bad, nI N, y_fault, y_place, y_bound, y_depth, y_nextName, y_wantsName, y_wantsTag, y_printed, nI ((sg_Y (eR_L rr (pc_N rr z) (fun i => y_fieldName (4 * rs + i)) 0 mq) ++ 11 :: s).length), y_scaled, y_sort, y_typeA, y_typeB, y_typeC, y_fieldName, y_fieldType, y_fields, y_tags, y_needed, y_text, y_begin, y_end, y_inside, y_whole, y_kind, y_value, y_parent, y_name, y_slotOf, y_placeOf, y_complete, y_openNode, y_openType, y_openCount, y_openNames, y_openChoice, y_output, a') → ∃ fu, wY_showRecord_167 Q (nI n) (nI rs) fu (nI (pc_N rr z k)) (nI (4 * rs + k) - 1) y_length y_parts y_bad (nI N) y_fault y_place y_bound y_depth y_nextName y_wantsName y_wantsTag y_printed (nI ((sg_Y (eR_L rr (pc_N rr z) (fun i => y_fieldName (4 * rs + i)) k (mq - k)) ++ 11 :: s).length)) y_scaled y_sort y_typeA y_typeB y_typeC y_fieldName y_fieldType y_fields y_tags y_needed y_text y_begin y_end y_inside y_whole y_kind y_value y_parent y_name y_slotOf y_placeOf y_complete y_openNode y_openType y_openCount y_openNames y_openChoice y_output a := by
  intro k
  induction k with
  | zero =>
    intro a _ ha
    rw [Nat.sub_zero] at ha
    refine ⟨a, ha, fun Q hQ => ⟨0 + 1, br_t ?_ hQ⟩⟩
    rw [pq_4]
    exact pq_lt (by omega)
  | succ k ih =>
    intro a hk ha
    have e1 : mq - k = (mq - (k + 1)) + 1 := by omega
    have ep : pc_N rr z (k + 1) = pc_N rr z k + (if rr k = -1 then 0 else 1) := rfl
    have hpc := pc_le rr z k
    have e6 : nI (4 * rs + (k + 1)) - 1 = nI (4 * rs + k) := nI_pred _
    have g6 : ¬ nI (4 * rs + k) < 4 * nI rs := by
      rw [pq_4]
      exact nI_nlt (by omega) (by omega)
    have eR : eR_L rr (pc_N rr z) (fun i => y_fieldName (4 * rs + i)) k (mq - k) = if rr k = -1 then eR_L rr (pc_N rr z) (fun i => y_fieldName (4 * rs + i)) (k + 1) (mq - (k + 1)) else (((if pc_N rr z k = 0 then [] else [15]) ++ [16, 21 + y_fieldName (4 * rs + k), 16, 14]), (rr k).toNatClampNeg) :: eR_L rr (pc_N rr z) (fun i => y_fieldName (4 * rs + i)) (k + 1) (mq - (k + 1)) := by
      rw [e1]; rfl
    have hl := eR_len rr (pc_N rr z) (fun i => y_fieldName (4 * rs + i)) (mq - (k + 1)) (k + 1)
    generalize eT : eR_L rr (pc_N rr z) (fun i => y_fieldName (4 * rs + i)) (k + 1) (mq - (k + 1)) = T at ha eR hl ⊢
    have hl2 : (sg_Y T ++ 11 :: s).length = (sg_Y T).length + (s.length + 1) := by rw [List.length_append, List.length_cons]
    rcases hrr2 k (by omega) with e | ⟨c, hc, e⟩
    · rw [if_pos e] at ep eR
      rw [eR] at ih
      obtain ⟨a', ha', hw⟩ := ih a (by omega) ha
      refine ⟨a', ha', fun Q hQ => ?_⟩
      obtain ⟨fu, hf⟩ := hw Q hQ
      refine ⟨fu + 1, ?_⟩
      rw [e6, ep]
      refine br_f g6 ⟨vp_in_nI (by omega) (by decide), ?_⟩
      rw [nI_clamp (by omega)]
      exact ch_y hN hn hlt (hrr k (by omega)) (br_f (by rw [e]; decide) (nm_r (pq_m _) hf))
    · have hne : ¬ rr k = -1 := by rw [e]; exact hh_m1 (by omega)
      rw [if_neg hne] at ep eR
      have ec : (rr k).toNatClampNeg = c := by rw [e]; exact nI_clamp (by omega)
      rw [ec] at eR
      have p1 := hol_p (x := nI (100 + c)) ha
      have p2 := hol_p (x := 14) p1
      have p3 := hol_p (x := 16) p2
      have p4 := hol_p (x := 21 + y_fieldName (4 * rs + k)) p3
      have p5 := hol_p (x := 16) p4
      by_cases zz : pc_N rr z k = 0
      · rw [if_pos zz] at eR
        have e3 : sg_Y (eR_L rr (pc_N rr z) (fun i => y_fieldName (4 * rs + i)) k (mq - k)) ++ 11 :: s = 16 :: (21 + y_fieldName (4 * rs + k)) :: 16 :: 14 :: nI (100 + c) :: (sg_Y T ++ 11 :: s) := by rw [eR]; rfl
        rw [← e3] at p5
        obtain ⟨a', ha', hw⟩ := ih _ (by omega) p5
        refine ⟨a', ha', fun Q hQ => ?_⟩
        obtain ⟨fu, hf⟩ := hw Q hQ
        rw [e3, List.length_cons, List.length_cons, List.length_cons, List.length_cons, List.length_cons] at hf
        refine ⟨fu + 1, ?_⟩
        rw [e6, ep]
        refine br_f g6 ⟨vp_in_nI (by omega) (by decide), ?_⟩
        rw [nI_clamp (by omega)]
        refine ch_y hN hn hlt (hrr k (by omega)) (br_t (by rw [e]; exact nI_le (a := 0) (by omega) (by omega)) ?_)
        rw [e, pq_100]
        refine la_y (by omega) (la_y (by omega) (la_y (by omega) (And.intro (vp_in_nI (by omega) (by decide)) ?_)))
        refine la_y (by omega) (la_y (by omega) (nm_r (pq_m _) ?_))
        rw [nI_pred]
        exact br_t (by rw [zz]; decide) (nm_r (pq_m _) hf)
      · rw [if_neg zz] at eR
        have p6 := hol_p (x := 15) p5
        have e3 : sg_Y (eR_L rr (pc_N rr z) (fun i => y_fieldName (4 * rs + i)) k (mq - k)) ++ 11 :: s = 15 :: 16 :: (21 + y_fieldName (4 * rs + k)) :: 16 :: 14 :: nI (100 + c) :: (sg_Y T ++ 11 :: s) := by rw [eR]; rfl
        rw [← e3] at p6
        obtain ⟨a', ha', hw⟩ := ih _ (by omega) p6
        refine ⟨a', ha', fun Q hQ => ?_⟩
        obtain ⟨fu, hf⟩ := hw Q hQ
        rw [e3, List.length_cons, List.length_cons, List.length_cons, List.length_cons, List.length_cons, List.length_cons] at hf
        refine ⟨fu + 1, ?_⟩
        rw [e6, ep]
        refine br_f g6 ⟨vp_in_nI (by omega) (by decide), ?_⟩
        rw [nI_clamp (by omega)]
        refine ch_y hN hn hlt (hrr k (by omega)) (br_t (by rw [e]; exact nI_le (a := 0) (by omega) (by omega)) ?_)
        rw [e, pq_100]
        refine la_y (by omega) (la_y (by omega) (la_y (by omega) (And.intro (vp_in_nI (by omega) (by decide)) ?_)))
        refine la_y (by omega) (la_y (by omega) (nm_r (pq_m _) ?_))
        rw [nI_pred]
        exact br_f (nI_nle (by omega) (by omega)) (la_y (by omega) (nm_r (pq_m _) hf))
end
section
variable {y_length y_parts y_bad y_nodes y_fault y_place y_bound y_depth y_nextName y_wantsName y_wantsTag y_printed y_waiting y_scaled : Int32} {y_sort y_typeA y_typeB y_typeC y_fieldName y_fieldType y_fields y_tags y_needed y_text y_begin y_end y_inside y_whole y_kind y_value y_parent y_name y_slotOf y_placeOf y_complete y_openNode y_openType y_openCount y_openNames y_openChoice y_output y_todo : Nat → Int32} {n b K : Nat} {ok g : Int32}
theorem ta_w {post : Int32 → SY → Prop} (hn : n < 40) (hK : K < 96) (e1 : y_begin K = nI b) (e2 : ∀ j, j < K → y_begin j ≠ nI b) (e3 : y_placeOf n = nI b) (hu : un_Y y_text y_begin y_end (K + 3) 0 ok g) (h : post g (y_length, y_parts, y_bad, y_nodes, y_fault, y_place, y_bound, y_depth, y_nextName, y_wantsName, y_wantsTag, y_printed, y_waiting, g, y_sort, y_typeA, y_typeB, y_typeC, y_fieldName, y_fieldType, y_fields, y_tags, y_needed, y_text, y_begin, y_end, y_inside, y_whole, y_kind, y_value, y_parent, y_name, y_slotOf, y_placeOf, y_complete, y_openNode, y_openType, y_openCount, y_openNames, y_openChoice, y_output, y_todo)) : ∀ (m j : Nat), j + m = K → ∃ fu, wY_tagOf_2 post (nI n) y_length y_parts y_bad y_nodes y_fault y_place y_bound y_depth y_nextName y_wantsName y_wantsTag y_printed y_waiting y_scaled y_sort y_typeA y_typeB y_typeC y_fieldName y_fieldType y_fields y_tags y_needed y_text y_begin y_end y_inside y_whole y_kind y_value y_parent y_name y_slotOf y_placeOf y_complete y_openNode y_openType y_openCount y_openNames y_openChoice y_output y_todo fu (nI j) := by
  intro m
  have en : (nI n).toNatClampNeg = n := nI_clamp (by omega)
  induction m with
  | zero =>
    intro j hj
    have : j = K := by omega
    subst this
    refine ⟨0 + 1, And.intro (vp_in_nI hK (by decide)) (And.intro (vp_in_nI hn (by decide)) ?_)⟩
    rw [nI_clamp (by omega), en]
    refine br_t (by rw [e1, e3]) ?_
    rw [show nI j + 3 = nI (j + 3) from nI_add j 3]
    exact hu y_length y_parts y_bad y_nodes y_fault y_place y_bound y_depth y_nextName y_wantsName y_wantsTag y_printed y_waiting y_scaled y_sort y_typeA y_typeB y_typeC y_fieldName y_fieldType y_fields y_tags y_needed y_inside y_whole y_kind y_value y_parent y_name y_slotOf y_placeOf y_complete y_openNode y_openType y_openCount y_openNames y_openChoice y_output y_todo _ h
  | succ m ih =>
    intro j hj
    obtain ⟨fu, hf⟩ := ih (j + 1) (by omega)
    refine ⟨fu + 1, And.intro (vp_in_nI (by omega) (by decide)) (And.intro (vp_in_nI hn (by decide)) ?_)⟩
    rw [nI_clamp (by omega), en]
    exact br_f (by rw [e3]; exact e2 j (by omega)) (nm_r (nI_1 j) hf)
end
end
section
/-! printing: the reference begins a list or a record -/
theorem pq_s (n : Nat) : nI (100 + n) - 100 = nI n := by
  rw [← pq_100]; grind
section
variable {y_length y_parts y_bad y_fault y_place y_bound y_depth y_nextName y_wantsName y_wantsTag : Int32} {y_sort y_typeA y_typeB y_typeC y_fieldName y_fieldType y_fields y_tags y_needed y_text y_begin y_end y_inside y_whole y_kind y_value y_parent y_name y_slotOf y_placeOf y_complete y_openNode y_openType y_openCount y_openNames y_openChoice : Nat → Int32} {N n : Nat} {post : Int32 → SY → Prop}
/-- a node waits first -/
theorem yp_n {s : List Int32} {a o : Nat → Int32} {m : Nat} {sc : Int32} (hn : n < 40) (ha : hol a (nI (100 + n) :: s)) (hs : s.length < 600) {k : Nat} (h : wpY_show (fun u => match u with | (y_length, y_parts, y_bad, y_nodes, y_fault, y_place, y_bound, y_depth, y_nextName, y_wantsName, y_wantsTag, y_printed, y_waiting, y_scaled, y_sort, y_typeA, y_typeB, y_typeC, y_fieldName, y_fieldType, y_fields, y_tags, y_needed, y_text, y_begin, y_end, y_inside, y_whole, y_kind, y_value, y_parent, y_name, y_slotOf, y_placeOf, y_complete, y_openNode, y_openType, y_openCount, y_openNames, y_openChoice, y_output, y_todo) => wY_print_23 post k y_length y_parts y_bad y_nodes y_fault y_place y_bound y_depth y_nextName y_wantsName y_wantsTag y_printed y_waiting y_scaled y_sort y_typeA y_typeB y_typeC y_fieldName y_fieldType y_fields y_tags y_needed y_text y_begin y_end y_inside y_whole y_kind y_value y_parent y_name y_slotOf y_placeOf y_complete y_openNode y_openType y_openCount y_openNames y_openChoice y_output y_todo) (y_length, y_parts, y_bad, nI N, y_fault, y_place, y_bound, y_depth, y_nextName, y_wantsName, y_wantsTag, nI m, nI s.length, sc, y_sort, y_typeA, y_typeB, y_typeC, y_fieldName, y_fieldType, y_fields, y_tags, y_needed, y_text, y_begin, y_end, y_inside, y_whole, y_kind, y_value, y_parent, y_name, y_slotOf, y_placeOf, y_complete, y_openNode, y_openType, y_openCount, y_openNames, y_openChoice, o, a) (nI n)) : ∃ k, wY_print_23 post k y_length y_parts y_bad (nI N) y_fault y_place y_bound y_depth y_nextName y_wantsName y_wantsTag (nI (m)) (nI (s.length + 1)) sc y_sort y_typeA y_typeB y_typeC y_fieldName y_fieldType y_fields y_tags y_needed y_text y_begin y_end y_inside y_whole y_kind y_value y_parent y_name y_slotOf y_placeOf y_complete y_openNode y_openType y_openCount y_openNames y_openChoice o a := by
  refine ⟨k + 1, br_f (nI_nle (by omega) (by omega)) (nm_r (nI_pred s.length) ⟨vp_in_nI hs (by decide), ?_⟩)⟩
  rw [nI_clamp (by omega), ha.1]
  refine nm_e (br_t (nI_le (a := 100) (by omega) (by omega)) ?_)
  rw [pq_s]
  exact h
theorem yo_l (hN : N ≤ 40) (hn : n < N) (hlt : ∀ c, c < N → y_parent c = nI n → n < c) {q : Nat} {ch : Nat → Nat} (hq : q ≤ 20) (hch : ∀ j, j < q → fd_R N y_parent y_name (nI n) (nI j) (nI (ch j))) (ek : y_kind n = 3) (ev : y_value n = nI q)
    {s : List Int32} {a o : Nat → Int32} {m : Nat} {sc : Int32} (ha : hol a (nI (100 + n) :: s)) (hs : s.length ≤ 210) (hm : m < 60000)
    (h : ∀ a', hol a' (sg_Y (eL_L ch 0 q) ++ 13 :: s) → ∃ k, wY_print_23 post k y_length y_parts y_bad (nI N) y_fault y_place y_bound y_depth y_nextName y_wantsName y_wantsTag (nI (m + 1)) (nI ((sg_Y (eL_L ch 0 q) ++ 13 :: s).length)) sc y_sort y_typeA y_typeB y_typeC y_fieldName y_fieldType y_fields y_tags y_needed y_text y_begin y_end y_inside y_whole y_kind y_value y_parent y_name y_slotOf y_placeOf y_complete y_openNode y_openType y_openCount y_openNames y_openChoice (ow_L o m [12]) (a')) : ∃ k, wY_print_23 post k y_length y_parts y_bad (nI N) y_fault y_place y_bound y_depth y_nextName y_wantsName y_wantsTag (nI (m)) (nI (s.length + 1)) sc y_sort y_typeA y_typeB y_typeC y_fieldName y_fieldType y_fields y_tags y_needed y_text y_begin y_end y_inside y_whole y_kind y_value y_parent y_name y_slotOf y_placeOf y_complete y_openNode y_openType y_openCount y_openNames y_openChoice o a := by
  have p1 := hol_p (x := 13) ha.2
  have en : (nI n).toNatClampNeg = n := nI_clamp (by omega)
  obtain ⟨a', ha', hw⟩ := sl_w (y_length := y_length) (y_parts := y_parts) (y_bad := y_bad) (y_fault := y_fault) (y_place := y_place) (y_bound := y_bound) (y_depth := y_depth) (y_nextName := y_nextName) (y_wantsName := y_wantsName) (y_wantsTag := y_wantsTag) (y_sort := y_sort) (y_typeA := y_typeA) (y_typeB := y_typeB) (y_typeC := y_typeC) (y_fieldName := y_fieldName) (y_fieldType := y_fieldType) (y_fields := y_fields) (y_tags := y_tags) (y_needed := y_needed) (y_text := y_text) (y_begin := y_begin) (y_end := y_end) (y_inside := y_inside) (y_whole := y_whole) (y_kind := y_kind) (y_value := y_value) (y_parent := y_parent) (y_name := y_name) (y_slotOf := y_slotOf) (y_placeOf := y_placeOf) (y_complete := y_complete) (y_openNode := y_openNode) (y_openType := y_openType) (y_openCount := y_openCount) (y_openNames := y_openNames) (y_openChoice := y_openChoice) (y_printed := nI (m + 1)) (y_output := ow_1 o m 12) (y_scaled := sc) (s := s) hN hn hlt hq hch (by omega) q (upd a s.length 13) (Nat.le_refl q) (by rw [Nat.sub_self]; exact p1)
  obtain ⟨k, hk⟩ := h a' ha'
  refine yp_n (k := k) (by omega) ha (by omega) ⟨vp_in_nI (by omega) (by decide), nm_r (show y_kind (nI n).toNatClampNeg = 3 by rw [en]; exact ek) (br_f (by decide) (br_f (by decide) (br_f (by decide) (br_t rfl ?_))))⟩
  unfold wpY_showList
  dsimp only
  refine ou_y (by omega) (la_y (by omega) ⟨vp_in_nI (by omega) (by decide), ?_⟩)
  rw [Nat.sub_self] at hw
  exact nm_r (show y_value (nI n).toNatClampNeg - 1 = nI q - 1 by rw [en, ev]) (hw _ hk)
theorem yo_147 (hN : N ≤ 40) (hn : n < N) (hlt : ∀ c, c < N → y_parent c = nI n → n < c) {rs mq z : Nat} {rr : Nat → Int32} (hz : z ≤ 1) (hrs : rs < 12) (hq : mq ≤ 4) (ef : y_fields rs = nI mq) (hrr : ∀ i, i < mq → fd_R N y_parent y_name (nI n) (y_fieldName (4 * rs + i)) (rr i)) (hrr2 : ∀ i, i < mq → rr i = -1 ∨ ∃ c, c < N ∧ rr i = nI c)
    {s : List Int32} {a o : Nat → Int32} {pr sc : Int32} (ha : hol a s) (hs : s.length ≤ 210) :
    ∃ a', hol a' (sg_Y (eR_L rr (pc_N rr z) (fun i => y_fieldName (4 * rs + i)) 0 mq) ++ 11 :: s) ∧ ∀ Q : SY → Prop, Q (y_length, y_parts, y_bad, nI N, y_fault, y_place, y_bound, y_depth, y_nextName, y_wantsName, y_wantsTag, pr, nI ((sg_Y (eR_L rr (pc_N rr z) (fun i => y_fieldName (4 * rs + i)) 0 mq) ++ 11 :: s).length), sc, y_sort, y_typeA, y_typeB, y_typeC, y_fieldName, y_fieldType, y_fields, y_tags, y_needed, y_text, y_begin, y_end, y_inside, y_whole, y_kind, y_value, y_parent, y_name, y_slotOf, y_placeOf, y_complete, y_openNode, y_openType, y_openCount, y_openNames, y_openChoice, o, a') → wY_showRecord_147 Q (nI n) (nI rs) (nI (pc_N rr z mq)) y_length y_parts y_bad (nI N) y_fault y_place y_bound y_depth y_nextName y_wantsName y_wantsTag pr (nI s.length) sc y_sort y_typeA y_typeB y_typeC y_fieldName y_fieldType y_fields y_tags y_needed y_text y_begin y_end y_inside y_whole y_kind y_value y_parent y_name y_slotOf y_placeOf y_complete y_openNode y_openType y_openCount y_openNames y_openChoice o a := by
  have p1 := hol_p (x := 11) ha
  obtain ⟨a', ha', hw⟩ := sr_w (y_length := y_length) (y_parts := y_parts) (y_bad := y_bad) (y_fault := y_fault) (y_place := y_place) (y_bound := y_bound) (y_depth := y_depth) (y_nextName := y_nextName) (y_wantsName := y_wantsName) (y_wantsTag := y_wantsTag) (y_sort := y_sort) (y_typeA := y_typeA) (y_typeB := y_typeB) (y_typeC := y_typeC) (y_fieldName := y_fieldName) (y_fieldType := y_fieldType) (y_fields := y_fields) (y_tags := y_tags) (y_needed := y_needed) (y_text := y_text) (y_begin := y_begin) (y_end := y_end) (y_inside := y_inside) (y_whole := y_whole) (y_kind := y_kind) (y_value := y_value) (y_parent := y_parent) (y_name := y_name) (y_slotOf := y_slotOf) (y_placeOf := y_placeOf) (y_complete := y_complete) (y_openNode := y_openNode) (y_openType := y_openType) (y_openCount := y_openCount) (y_openNames := y_openNames) (y_openChoice := y_openChoice) (y_printed := pr) (y_output := o) (y_scaled := sc) (s := s) hN hn hlt hz hrs hq hrr hrr2 (by omega) mq (upd a s.length 11) (Nat.le_refl mq) (by rw [Nat.sub_self]; exact p1)
  refine ⟨a', ha', fun Q hQ => ?_⟩
  unfold wY_showRecord_147
  refine la_y (by omega) ⟨vp_in_nI hrs (by decide), ?_⟩
  rw [nI_clamp (by omega), ef, pq_4, nI_add]
  rw [Nat.sub_self] at hw
  exact nm_e (hw Q hQ)
theorem yo_r (hN : N ≤ 40) (hn : n < N) (hlt : ∀ c, c < N → y_parent c = nI n → n < c) {rs mq : Nat} {rr : Nat → Int32} (hrs : rs < 12) (hq : mq ≤ 4) (ef : y_fields rs = nI mq) (hrr : ∀ i, i < mq → fd_R N y_parent y_name (nI n) (y_fieldName (4 * rs + i)) (rr i)) (hrr2 : ∀ i, i < mq → rr i = -1 ∨ ∃ c, c < N ∧ rr i = nI c) (ek : y_kind n = 4) (es : y_slotOf n = nI rs) (e5 : y_sort rs = 5)
    {s : List Int32} {a o : Nat → Int32} {m : Nat} {sc : Int32} (ha : hol a (nI (100 + n) :: s)) (hs : s.length ≤ 210) (hm : m < 60000)
    (h : ∀ a', hol a' (sg_Y (eR_L rr (pc_N rr 0) (fun i => y_fieldName (4 * rs + i)) 0 mq) ++ 11 :: s) → ∃ k, wY_print_23 post k y_length y_parts y_bad (nI N) y_fault y_place y_bound y_depth y_nextName y_wantsName y_wantsTag (nI (m + 1)) (nI ((sg_Y (eR_L rr (pc_N rr 0) (fun i => y_fieldName (4 * rs + i)) 0 mq) ++ 11 :: s).length)) sc y_sort y_typeA y_typeB y_typeC y_fieldName y_fieldType y_fields y_tags y_needed y_text y_begin y_end y_inside y_whole y_kind y_value y_parent y_name y_slotOf y_placeOf y_complete y_openNode y_openType y_openCount y_openNames y_openChoice (ow_L o m [10]) (a')) : ∃ k, wY_print_23 post k y_length y_parts y_bad (nI N) y_fault y_place y_bound y_depth y_nextName y_wantsName y_wantsTag (nI (m)) (nI (s.length + 1)) sc y_sort y_typeA y_typeB y_typeC y_fieldName y_fieldType y_fields y_tags y_needed y_text y_begin y_end y_inside y_whole y_kind y_value y_parent y_name y_slotOf y_placeOf y_complete y_openNode y_openType y_openCount y_openNames y_openChoice o a := by
  have en : (nI n).toNatClampNeg = n := nI_clamp (by omega)
  have er : (nI rs).toNatClampNeg = rs := nI_clamp (by omega)
  obtain ⟨a', ha', hw⟩ := yo_147 (y_length := y_length) (y_parts := y_parts) (y_bad := y_bad) (y_fault := y_fault) (y_place := y_place) (y_bound := y_bound) (y_depth := y_depth) (y_nextName := y_nextName) (y_wantsName := y_wantsName) (y_wantsTag := y_wantsTag) (y_sort := y_sort) (y_typeA := y_typeA) (y_typeB := y_typeB) (y_typeC := y_typeC) (y_fieldName := y_fieldName) (y_fieldType := y_fieldType) (y_fields := y_fields) (y_tags := y_tags) (y_needed := y_needed) (y_text := y_text) (y_begin := y_begin) (y_end := y_end) (y_inside := y_inside) (y_whole := y_whole) (y_kind := y_kind) (y_value := y_value) (y_parent := y_parent) (y_name := y_name) (y_slotOf := y_slotOf) (y_placeOf := y_placeOf) (y_complete := y_complete) (y_openNode := y_openNode) (y_openType := y_openType) (y_openCount := y_openCount) (y_openNames := y_openNames) (y_openChoice := y_openChoice) (z := 0) (pr := nI (m + 1)) (o := ow_1 o m 10) (sc := sc) (s := s) hN hn hlt (by omega) hrs hq ef hrr hrr2 ha.2 hs
  obtain ⟨k, hk⟩ := h a' ha'
  refine yp_n (k := k) (by omega) ha (by omega) ⟨vp_in_nI (by omega) (by decide), nm_r (show y_kind (nI n).toNatClampNeg = 4 by rw [en]; exact ek) (br_f (by decide) (br_f (by decide) (br_f (by decide) (br_f (by decide) (br_t rfl ?_)))))⟩
  have n6 : ¬ y_sort (nI rs).toNatClampNeg = 6 := by rw [er, e5]; decide
  refine ⟨vp_in_nI (by omega) (by decide), nm_r (show y_slotOf (nI n).toNatClampNeg = nI rs by rw [en]; exact es) ⟨vp_in_nI hrs (by decide), br_f n6 ⟨vp_in_nI hrs (by decide), br_f n6 (nm_r (pq_4 rs) ?_)⟩⟩⟩
  refine sr_c (z := 0) hN hn hlt (by omega) hrs hq ef hrr hrr2 ⟨0 + 1, And.intro (vp_in_nI hrs (by decide)) ?_⟩ mq 0 (by omega)
  rw [er, ef, pq_4, nI_add]
  refine br_t (nI_le (Nat.le_refl _) (by omega)) (ou_y (by omega) (br_f (by decide) ?_))
  exact hw _ hk
theorem yo_t (hN : N ≤ 40) (hn : n < N) (hlt : ∀ c, c < N → y_parent c = nI n → n < c) {rs mq sl : Nat} {rr : Nat → Int32} (hrs : rs < 12) (hq : mq ≤ 4) (ef : y_fields rs = nI mq) (hrr : ∀ i, i < mq → fd_R N y_parent y_name (nI n) (y_fieldName (4 * rs + i)) (rr i)) (hrr2 : ∀ i, i < mq → rr i = -1 ∨ ∃ c, c < N ∧ rr i = nI c) (ek : y_kind n = 4) (hsl : sl < 12) (es : y_slotOf n = nI sl) (e6 : y_sort sl = 6) (ev : y_value n = nI rs)
    {b K : Nat} {ok g : Int32} (hK : K < 96) (e1 : y_begin K = nI b) (e2 : ∀ j, j < K → y_begin j ≠ nI b) (e3 : y_placeOf n = nI b) (hu : un_Y y_text y_begin y_end (K + 3) 0 ok g)
    {s : List Int32} {a o : Nat → Int32} {m : Nat} {sc : Int32} (ha : hol a (nI (100 + n) :: s)) (hs : s.length ≤ 210) (hm : m < 60000)
    (h : ∀ a', hol a' (sg_Y (eR_L rr (pc_N rr 1) (fun i => y_fieldName (4 * rs + i)) 0 mq) ++ 11 :: s) → ∃ k, wY_print_23 post k y_length y_parts y_bad (nI N) y_fault y_place y_bound y_depth y_nextName y_wantsName y_wantsTag (nI (m + 6)) (nI ((sg_Y (eR_L rr (pc_N rr 1) (fun i => y_fieldName (4 * rs + i)) 0 mq) ++ 11 :: s).length)) g y_sort y_typeA y_typeB y_typeC y_fieldName y_fieldType y_fields y_tags y_needed y_text y_begin y_end y_inside y_whole y_kind y_value y_parent y_name y_slotOf y_placeOf y_complete y_openNode y_openType y_openCount y_openNames y_openChoice (ow_L o m [10, 16, 21 + y_typeA sl, 16, 14, g]) (a')) : ∃ k, wY_print_23 post k y_length y_parts y_bad (nI N) y_fault y_place y_bound y_depth y_nextName y_wantsName y_wantsTag (nI (m)) (nI (s.length + 1)) sc y_sort y_typeA y_typeB y_typeC y_fieldName y_fieldType y_fields y_tags y_needed y_text y_begin y_end y_inside y_whole y_kind y_value y_parent y_name y_slotOf y_placeOf y_complete y_openNode y_openType y_openCount y_openNames y_openChoice o a := by
  have en : (nI n).toNatClampNeg = n := nI_clamp (by omega)
  have er : (nI rs).toNatClampNeg = rs := nI_clamp (by omega)
  have el : (nI sl).toNatClampNeg = sl := nI_clamp (by omega)
  obtain ⟨a', ha', hw⟩ := yo_147 (y_length := y_length) (y_parts := y_parts) (y_bad := y_bad) (y_fault := y_fault) (y_place := y_place) (y_bound := y_bound) (y_depth := y_depth) (y_nextName := y_nextName) (y_wantsName := y_wantsName) (y_wantsTag := y_wantsTag) (y_sort := y_sort) (y_typeA := y_typeA) (y_typeB := y_typeB) (y_typeC := y_typeC) (y_fieldName := y_fieldName) (y_fieldType := y_fieldType) (y_fields := y_fields) (y_tags := y_tags) (y_needed := y_needed) (y_text := y_text) (y_begin := y_begin) (y_end := y_end) (y_inside := y_inside) (y_whole := y_whole) (y_kind := y_kind) (y_value := y_value) (y_parent := y_parent) (y_name := y_name) (y_slotOf := y_slotOf) (y_placeOf := y_placeOf) (y_complete := y_complete) (y_openNode := y_openNode) (y_openType := y_openType) (y_openCount := y_openCount) (y_openNames := y_openNames) (y_openChoice := y_openChoice) (z := 1) (pr := nI (m + 6)) (o := ow_L o m [10, 16, 21 + y_typeA sl, 16, 14, g]) (sc := g) (s := s) hN hn hlt (by omega) hrs hq ef hrr hrr2 ha.2 hs
  obtain ⟨k, hk⟩ := h a' ha'
  refine yp_n (k := k) (by omega) ha (by omega) ⟨vp_in_nI (by omega) (by decide), nm_r (show y_kind (nI n).toNatClampNeg = 4 by rw [en]; exact ek) (br_f (by decide) (br_f (by decide) (br_f (by decide) (br_f (by decide) (br_t rfl ?_)))))⟩
  have y6 : y_sort (nI sl).toNatClampNeg = 6 := by rw [el]; exact e6
  refine ⟨vp_in_nI (by omega) (by decide), nm_r (show y_slotOf (nI n).toNatClampNeg = nI sl by rw [en]; exact es) ⟨vp_in_nI hsl (by decide), br_t y6 ⟨vp_in_nI (by omega) (by decide), ?_⟩⟩⟩
  rw [en, ev]
  refine ⟨vp_in_nI hsl (by decide), br_t y6 (nm_r (pq_4 rs) ?_)⟩
  refine sr_c (z := 1) hN hn hlt (by omega) hrs hq ef hrr hrr2 ⟨0 + 1, And.intro (vp_in_nI hrs (by decide)) ?_⟩ mq 0 (by omega)
  rw [er, ef, pq_4, nI_add]
  refine br_t (nI_le (Nat.le_refl _) (by omega)) (ou_y (by omega) (br_t rfl (ou_y (by omega) ⟨vp_in_nI hsl (by decide), ?_⟩)))
  rw [el]
  refine ou_y (by omega) (ou_y (by omega) (ou_y (by omega) (ta_w (by omega) hK e1 e2 e3 hu (ou_y (by omega) ?_) K 0 (by omega))))
  exact hw _ hk
end
end
