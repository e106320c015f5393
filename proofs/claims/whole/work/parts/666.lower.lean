/-! PURE FACTS, 73: the way, what surrounds lies lower -/
variable {R : Nat → Nat} {σ τ : St} {s : Nat}
theorem climb {w h l : Nat} {f0 : Nat → Nat} (hw : 1 ≤ w) (hl : l < w * h) (hf : ∀ c, c ≤ l → f0 c = 1) : Out w (w * h) f0 l := by
  have : ∀ y, w * y + l % w ≤ l → Out w (w * h) f0 (w * y + l % w) := by
    intro y
    induction y with
    | zero =>
      intro hy
      refine Rch_s ⟨by omega, Or.inr (Or.inr (Or.inl ?_)), hf _ hy⟩
      rw [Nat.mul_zero, Nat.zero_add]
      exact Nat.mod_lt _ hw
    | succ y ih =>
      intro hy
      rw [Nat.mul_succ] at hy ⊢
      refine Rch_n (ih (by omega)) (Or.inr (Or.inr (Or.inr ⟨by omega, by omega⟩))) (hf _ hy)
  have h2 := this (l / w) (by rw [Nat.div_add_mod]; exact Nat.le_refl _)
  rw [Nat.div_add_mod] at h2
  exact h2
theorem Wi_low (G : Good R) {p q : Nat} (hp : p < R 2) (hq : q < R 2) (W : Wi R p q (lwf R p)) : lwf R q < lwf R p := by
  obtain ⟨w1, w2, w3⟩ := W
  obtain ⟨l1, l2⟩ := lwf_low G hp
  obtain ⟨m1, m2⟩ := lwf_low G hq
  have hs := (G.2.2.2.2.2.1 p hp).2.1
  have hS := GS G hs
  apply Classical.byContradiction
  intro hn
  refine w3 (climb (by omega) l2 (fun c hc => ?_))
  unfold hf0
  rw [if_neg]
  intro e
  have hc2 : c < sc R (R (681 + p)) * sr R (R (681 + p)) := by omega
  have e2 : ck R (R (681 + p)) c = q + 2 := by rw [ck_on G hs hc2 (by omega)]; exact e
  rcases Nat.lt_or_ge c (lwf R q) with h | h
  · exact m1.2 c h (by rw [w2]; exact e2)
  · have h3 : c = lwf R p := by omega
    have := l1.1
    rw [← h3, e2] at this
    omega
