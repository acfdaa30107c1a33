/-! digits of numbers as both print them: pure -/
def pn_L (w j : Nat) : Prop := w / 10 ^ j < 10 ∧ ∀ i, i < j → 10 ≤ w / 10 ^ i
theorem pn_mono (w : Nat) {i j : Nat} (h : i ≤ j) : w / 10 ^ j ≤ w / 10 ^ i :=
  Nat.div_le_div_left (Nat.pow_le_pow_right (by decide) h) (Nat.pow_pos (by decide))
theorem pn_uni {w i j : Nat} (hi : pn_L w i) (hj : pn_L w j) : i = j := by
  rcases Nat.lt_trichotomy i j with h | h | h
  · have := hj.2 i h; have := hi.1; omega
  · exact h
  · have := hi.2 j h; have := hj.1; omega
theorem pn_div {w j : Nat} (h : Nat) (hj : pn_L w j) : pn_L (w / 10 ^ h) (j - h) := by
  refine ⟨?_, fun i hi => ?_⟩
  · rw [Nat.div_div_eq_div_mul, ← Nat.pow_add]
    exact Nat.lt_of_le_of_lt (pn_mono w (by omega)) hj.1
  · rw [Nat.div_div_eq_div_mul, ← Nat.pow_add]
    exact hj.2 _ (by omega)
def pn_dl (w : Nat) : Nat → List Int32
  | 0 => [nI (w % 10)]
  | j + 1 => nI (w / 10 ^ (j + 1) % 10) :: pn_dl w j
def pn_yl (b h : Nat) : Nat → List Int32
  | 0 => [nI (b % 10)]
  | j + 1 => nI (b / 10 ^ (j + 1) % 10) :: ((if j + 1 = h then [18] else []) ++ pn_yl b h j)
theorem pn_yl_lo (b h : Nat) : ∀ j, j < h → pn_yl b h j = pn_dl b j
  | 0, _ => rfl
  | j + 1, hj => by
    unfold pn_yl pn_dl
    rw [if_neg (by omega), pn_yl_lo b h j (by omega)]
    rfl
theorem pn_yl_hi (b h : Nat) : ∀ j, pn_yl b h (j + h) = pn_dl (b / 10 ^ h) j ++ (if 0 < h then 18 :: pn_dl b (h - 1) else [])
  | 0 => by
    cases h with
    | zero => simp [pn_yl, pn_dl]
    | succ h =>
      rw [Nat.zero_add]
      unfold pn_yl
      rw [if_pos rfl, if_pos (by omega), pn_yl_lo b (h + 1) h (by omega)]
      rfl
  | j + 1 => by
    rw [show j + 1 + h = (j + h) + 1 from by omega]
    unfold pn_yl
    rw [if_neg (by omega), pn_yl_hi b h j]
    rw [show pn_dl (b / 10 ^ h) (j + 1) = nI (b / 10 ^ h / 10 ^ (j + 1) % 10) :: pn_dl (b / 10 ^ h) j from rfl, Nat.div_div_eq_div_mul, ← Nat.pow_add, show h + (j + 1) = j + h + 1 from by omega]
    rfl
/-- the fraction as the component prints it: rest = (b % 10^m) * 10^(D-m) -/
theorem pn_frac (b m D : Nat) (hD : D ≤ 4) (hm : m < D) : b % 10 ^ (m + 1) * 10 ^ (D - (m + 1)) * 10 / 10 ^ D = b / 10 ^ m % 10 ∧ b % 10 ^ (m + 1) * 10 ^ (D - (m + 1)) * 10 % 10 ^ D = b % 10 ^ m * 10 ^ (D - m) := by
  have hD' : D = 1 ∨ D = 2 ∨ D = 3 ∨ D = 4 := by omega
  rcases hD' with rfl | rfl | rfl | rfl
  · have : m = 0 := by omega
    subst this; simp; omega
  · have hm' : m = 0 ∨ m = 1 := by omega
    rcases hm' with rfl | rfl <;> (simp; omega)
  · have hm' : m = 0 ∨ m = 1 ∨ m = 2 := by omega
    rcases hm' with rfl | rfl | rfl <;> (simp; omega)
  · have hm' : m = 0 ∨ m = 1 ∨ m = 2 ∨ m = 3 := by omega
    rcases hm' with rfl | rfl | rfl | rfl <;> (simp; omega)
theorem pn_dl_len (w : Nat) : ∀ j, (pn_dl w j).length = j + 1
  | 0 => rfl
  | j + 1 => by unfold pn_dl; rw [List.length_cons, pn_dl_len w j]
