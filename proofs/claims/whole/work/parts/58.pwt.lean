/-! printing: weights -/
def up_N (pa : Nat → Int32) : Nat → Nat → Nat
  | 0, x => x
  | k + 1, x => up_N pa k (pa x).toNatClampNeg
theorem up_s (pa : Nat → Int32) : ∀ k x, up_N pa (k + 1) x = (pa (up_N pa k x)).toNatClampNeg
  | 0, _ => rfl
  | k + 1, x => by
    show up_N pa (k + 1) (pa x).toNatClampNeg = _
    rw [up_s pa k]; rfl
/-- x lies under n, or is n -/
def ds_D (pa : Nat → Int32) (dp : Nat → Nat) (n x : Nat) : Prop := dp n ≤ dp x ∧ up_N pa (dp x - dp n) x = n
section
variable {pa : Nat → Int32} {dp : Nat → Nat} {N n c c' x d : Nat} {S S' : Nat → Prop}
theorem ds_0 : ds_D pa dp n n := ⟨Nat.le_refl _, by rw [Nat.sub_self]; rfl⟩
theorem ds_c (hn : n < 40) (hp : pa c = nI n) (hd : dp c = dp n + 1) (h : ds_D pa dp c x) : ds_D pa dp n x := by
  refine ⟨by have := h.1; omega, ?_⟩
  have := h.1
  rw [show dp x - dp n = (dp x - dp c) + 1 from by omega, up_s, h.2, hp, nI_clamp (by omega)]
theorem ds_u (hd : dp c = dp c') (h : ds_D pa dp c x) (h' : ds_D pa dp c' x) : c = c' := by
  have a := h.2
  have b := h'.2
  rw [← hd] at b
  rw [← a, ← b]
noncomputable def wt_N (pa : Nat → Int32) (dp : Nat → Nat) (N n : Nat) : Nat := cq_N (ds_D pa dp n) N
noncomputable def wt_S (pa : Nat → Int32) (dp : Nat → Nat) (N : Nat) (S : Nat → Prop) : Nat := cq_N (fun x => ∃ c, S c ∧ ds_D pa dp c x) N
theorem wt_1 (hn : n < N) : 1 ≤ wt_N pa dp N n := cq_1 hn ds_0
theorem wt_m (h : ∀ c, S' c → S c) : wt_S pa dp N S' ≤ wt_S pa dp N S := cq_m (fun _ _ ⟨c, a, b⟩ => ⟨c, h c a, b⟩)
theorem wt_a (h : ∀ c, S' c → S c) (hc : S c) (hc' : ¬ S' c) (hd : ∀ c, S c → dp c = d) : wt_N pa dp N c + wt_S pa dp N S' ≤ wt_S pa dp N S := by
  refine cq_a (fun i _ a => ⟨c, hc, a⟩) (fun i _ ⟨c1, a, b⟩ => ⟨c1, h c1 a, b⟩) (fun i _ a ⟨c1, e, b⟩ => ?_)
  have := ds_u (by rw [hd c hc, hd c1 (h c1 e)]) a b
  subst this
  exact hc' e
theorem wt_n (hN : N ≤ 40) (hn : n < N) (h : ∀ c, S c → pa c = nI n ∧ dp c = dp n + 1) : 1 + wt_S pa dp N S ≤ wt_N pa dp N n := by
  have a : 1 ≤ cq_N (fun x => x = n) N := cq_1 hn rfl
  have b : cq_N (fun x => x = n) N + wt_S pa dp N S ≤ wt_N pa dp N n := by
    refine cq_a (fun i _ e => ?_) (fun i _ ⟨c, e, f⟩ => ds_c (by omega) (h c e).1 (h c e).2 f) (fun i _ e ⟨c, e2, f⟩ => ?_)
    · have e' : i = n := e
      subst e'; exact ds_0
    · have e' : i = n := e
      subst e'
      have := f.1
      have := (h c e2).2
      omega
  omega
end
/-- from each an existence, one function -/
theorem pk_ax {β : Type} [Inhabited β] {A : Nat → Prop} {B : Nat → β → Prop} (h : ∀ c, A c → ∃ x, B c x) : ∃ g : Nat → β, ∀ c, A c → B c (g c) := by
  refine ⟨fun c => @dite β (A c) (Classical.propDecidable (A c)) (fun z => Classical.choose (h c z)) (fun _ => default), fun c z => ?_⟩
  dsimp only
  rw [dif_pos z]
  exact Classical.choose_spec (h c z)
