/-! PURE FACTS, 83: the way, the least, and how long the shortest is -/
variable {R : Nat → Nat} {σ τ : St} {s : Nat}
theorem bsf_min {A : Nat → Bool} {d : Nat → Nat} {i : Nat} (h : bsf A d i ≠ 1) : (∀ j, j < i → A j = true → d (bsf A d i - 2) ≤ d j) ∧ ∀ j, j < bsf A d i - 2 → A j = true → d (bsf A d i - 2) < d j := by
  induction i with
  | zero => exact absurd rfl h
  | succ i ih =>
    by_cases a : A i = true
    · have e : bsf A d (i + 1) = if bsf A d i = 1 ∨ d i < d (bsf A d i - 2) then i + 2 else bsf A d i := by rw [bsf, if_pos a]
      have none : bsf A d i = 1 → ∀ j, j < i → ¬ A j = true := fun h1 j hj ha => bsf_1 hj ha h1
      by_cases q : bsf A d i = 1 ∨ d i < d (bsf A d i - 2)
      · rw [if_pos q] at e
        rw [e, Nat.add_sub_cancel]
        have less : ∀ j, j < i → A j = true → d i < d j := fun j hj ha => by
          by_cases h1 : bsf A d i = 1
          · exact absurd ha (none h1 j hj)
          · have := (ih h1).1 j hj ha
            have := q.resolve_left h1
            omega
        refine ⟨fun j hj ha => ?_, less⟩
        by_cases e2 : j = i
        · rw [e2]; exact Nat.le_refl _
        · have := less j (by omega) ha; omega
      · rw [if_neg q] at e
        rw [e] at h ⊢
        obtain ⟨m1, m2⟩ := ih h
        refine ⟨fun j hj ha => ?_, m2⟩
        by_cases e2 : j = i
        · subst e2
          have : ¬ d j < d (bsf A d j - 2) := fun x => q (Or.inr x)
          omega
        · exact m1 j (by omega) ha
    · have e : bsf A d (i + 1) = bsf A d i := by rw [bsf, if_neg a]
      rw [e] at h ⊢
      obtain ⟨m1, m2⟩ := ih h
      refine ⟨fun j hj ha => ?_, m2⟩
      by_cases e2 : j = i
      · subst e2; exact absurd ha a
      · exact m1 j (by omega) ha
/-- the walk so far, and what is left, are the whole -/
theorem wk_len {M : Nat → Nat} (G : Good R) (hs : s < R 0) (hM : InnM R s M) (i : Nat) (hi : i ≤ sk R s) : (wk R s M (dS R s M) i).2.2 + rst R s M (wk R s M (dS R s M) i).1 (wk R s M (dS R s M) i).2.1 = rst R s M 0 1 := by
  induction i with
  | zero => exact Nat.zero_add _
  | succ i ih =>
    obtain ⟨a1, a2, a3, a4⟩ := wk_ok (d := dS R s M) G hs hM i (by omega)
    obtain ⟨b1, b2, b3⟩ := nxt_r (d := dS R s M) (i := i) G hM (by omega)
    have h := ih (by omega)
    rw [rst_s G hM (show cn R s (wk R s M (dS R s M) i).1 < sk R s by unfold cn; omega)] at h
    have efc : lwf R (sP R s (nxt R s M (dS R s M) i - 2)) = fc R s (nxt R s M (dS R s M) i) := by unfold fc; rw [if_neg (by omega)]
    have e1 : dS R s M (wk R s M (dS R s M) i).1 (wk R s M (dS R s M) i).2.1 (nxt R s M (dS R s M) i - 2) = dw (sc R s) (fc R s (wk R s M (dS R s M) i).2.1) (fc R s (nxt R s M (dS R s M) i)) + rst R s M ((wk R s M (dS R s M) i).1 ||| 2 ^ (nxt R s M (dS R s M) i - 2)) (nxt R s M (dS R s M) i) := by
      rw [← efc]
      show dst _ _ _ _ + rst _ _ _ _ (nxt R s M (dS R s M) i - 2 + 2) = _
      rw [Nat.sub_add_cancel b1]
      rfl
    have h2 : (wk R s M (dS R s M) i).2.2 + dS R s M (wk R s M (dS R s M) i).1 (wk R s M (dS R s M) i).2.1 (nxt R s M (dS R s M) i - 2) = rst R s M 0 1 := h
    rw [e1] at h2
    show (wk R s M (dS R s M) i).2.2 + dw (sc R s) (fc R s (wk R s M (dS R s M) i).2.1) (fc R s (nxt R s M (dS R s M) i)) + rst R s M ((wk R s M (dS R s M) i).1 ||| 2 ^ (nxt R s M (dS R s M) i - 2)) (nxt R s M (dS R s M) i) = _
    omega
theorem wk_whole {M : Nat → Nat} (G : Good R) (hs : s < R 0) (hM : InnM R s M) : (wk R s M (dS R s M) (sk R s)).2.2 = rst R s M 0 1 := by
  have h := wk_len G hs hM (sk R s) (Nat.le_refl _)
  rw [rst_all (wk_ok (d := dS R s M) G hs hM (sk R s) (Nat.le_refl _)).2.2.1, Nat.add_zero] at h
  exact h
