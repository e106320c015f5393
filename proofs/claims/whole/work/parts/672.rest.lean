/-! PURE FACTS, 79: the way, what is left of the shortest -/
variable {R : Nat → Nat} {σ τ : St} {s : Nat}
theorem bsf_e {A : Nat → Bool} {d e : Nat → Nat} {i : Nat} (h : ∀ j, j < i → A j = true → d j = e j) : bsf A d i = bsf A e i := by
  induction i with
  | zero => rfl
  | succ i ih =>
    have h1 := ih (fun j hj => h j (by omega))
    unfold bsf
    rw [h1]
    by_cases a : A i = true
    · rw [if_pos a, if_pos a, h i (by omega) a]
      rcases bsf_r A e i with q | ⟨q1, q2, q3⟩
      · rw [if_pos (Or.inl q), if_pos (Or.inl q)]
      · rw [h (bsf A e i - 2) (by omega) q3]
    · rw [if_neg a, if_neg a]
/-- how many stops are done -/
def cn (R : Nat → Nat) (s D : Nat) : Nat := cnt (fun j => decide (bit D j = 1)) (sk R s)
/-- the shortest way on, with n stops left -/
def rs (R : Nat → Nat) (s : Nat) (M : Nat → Nat) : Nat → Nat → Nat → Nat
  | 0, _, _ => 0
  | n + 1, D, x => if bsf (alw M D) (fun j => dst R s (fc R s x) j + rs R s M n (D ||| 2 ^ j) (j + 2)) (sk R s) = 1 then 1000000 else dst R s (fc R s x) (bsf (alw M D) (fun j => dst R s (fc R s x) j + rs R s M n (D ||| 2 ^ j) (j + 2)) (sk R s) - 2) + rs R s M n (D ||| 2 ^ (bsf (alw M D) (fun j => dst R s (fc R s x) j + rs R s M n (D ||| 2 ^ j) (j + 2)) (sk R s) - 2)) (bsf (alw M D) (fun j => dst R s (fc R s x) j + rs R s M n (D ||| 2 ^ j) (j + 2)) (sk R s) - 2 + 2)
def rst (R : Nat → Nat) (s : Nat) (M : Nat → Nat) (D x : Nat) : Nat := rs R s M (sk R s - cn R s D) D x
/-- a stop's way when the shortest is asked -/
def dS (R : Nat → Nat) (s : Nat) (M : Nat → Nat) : Nat → Nat → Nat → Nat := fun D x j => dst R s (fc R s x) j + rst R s M (D ||| 2 ^ j) (j + 2)
theorem cn_s {D j : Nat} (hj : j < sk R s) (h : ¬ bit D j = 1) : cn R s (D ||| 2 ^ j) = cn R s D + 1 := cnt_or hj h
theorem some_ex {M : Nat → Nat} {D : Nat} (G : Good R) (hM : InnM R s M) (hl : cn R s D < sk R s) (d : Nat → Nat) : 2 ≤ bsf (alw M D) d (sk R s) ∧ bsf (alw M D) d (sk R s) < sk R s + 2 ∧ alw M D (bsf (alw M D) d (sk R s) - 2) = true := by
  have ex : ∃ j, j < sk R s ∧ ¬ bit D j = 1 := by
    apply Classical.byContradiction
    intro hn
    have := cnt_t (P := fun j => decide (bit D j = 1)) (n := sk R s) (fun j hj => decide_eq_true (Classical.byContradiction (fun h => hn ⟨j, hj, h⟩)))
    unfold cn at hl
    omega
  obtain ⟨j, h1, h2⟩ := next_ex G hM ex
  exact (bsf_r (alw M D) d (sk R s)).resolve_left (bsf_1 h1 h2)
theorem rst_s {M : Nat → Nat} {D x : Nat} (G : Good R) (hM : InnM R s M) (hl : cn R s D < sk R s) : rst R s M D x = dS R s M D x (bsf (alw M D) (dS R s M D x) (sk R s) - 2) := by
  obtain ⟨n, hn⟩ : ∃ n, sk R s - cn R s D = n + 1 := ⟨sk R s - cn R s D - 1, by omega⟩
  have e : bsf (alw M D) (fun j => dst R s (fc R s x) j + rs R s M n (D ||| 2 ^ j) (j + 2)) (sk R s) = bsf (alw M D) (dS R s M D x) (sk R s) := bsf_e (fun j hj ha => by
    unfold dS rst
    rw [cn_s hj (alw_n ha), show sk R s - (cn R s D + 1) = n by omega])
  obtain ⟨b1, b2, b3⟩ := some_ex G hM hl (dS R s M D x)
  unfold rst
  rw [hn, rs, e, if_neg (by omega)]
  generalize bsf (alw M D) (dS R s M D x) (sk R s) = b at *
  unfold dS rst
  rw [cn_s (show b - 2 < sk R s by omega) (alw_n b3), show sk R s - (cn R s D + 1) = n by omega]
theorem rst_all {M : Nat → Nat} {D x : Nat} (h : cn R s D = sk R s) : rst R s M D x = 0 := by
  unfold rst
  rw [h, Nat.sub_self]
  rfl
theorem rst_le {M : Nat → Nat} (G : Good R) (hs : s < R 0) (hM : InnM R s M) (n : Nat) : ∀ D x, cn R s D + n = sk R s → (x = 1 ∨ 2 ≤ x ∧ x < sk R s + 2) → rst R s M D x ≤ 400 * n := by
  induction n with
  | zero => intro D x h _; rw [rst_all (by omega)]; exact Nat.zero_le _
  | succ n ih =>
    intro D x h hx
    rw [rst_s G hM (by omega)]
    obtain ⟨b1, b2, b3⟩ := some_ex G hM (show cn R s D < sk R s by omega) (dS R s M D x)
    generalize bsf (alw M D) (dS R s M D x) (sk R s) = b at *
    have h2 := ih (D ||| 2 ^ (b - 2)) (b - 2 + 2) (by rw [cn_s (by omega) (alw_n b3)]; omega) (Or.inr ⟨by omega, by omega⟩)
    have h3 := dw_lt (w := sc R s) (fc_100 G hs hx) (low_100 G hs (show b - 2 < sk R s by omega))
    show dw (sc R s) (fc R s x) (lwf R (sP R s (b - 2))) + rst R s M (D ||| 2 ^ (b - 2)) (b - 2 + 2) ≤ _
    omega
