/-! PURE FACTS, 85: the way, the reference's least -/
variable {R : Nat → Nat} {σ τ : St} {s : Nat}
/-- the least way by the stops below i -/
def lst (A : Nat → Bool) (d : Nat → Nat) (i : Nat) : Nat := if bsf A d i = 1 then 1000000 else d (bsf A d i - 2)
theorem lst_s {A : Nat → Bool} {d : Nat → Nat} {i : Nat} (h : A i = true) (hd : d i < 1000000) : lst A d (i + 1) = if lst A d i ≤ d i then lst A d i else d i := by
  have e : bsf A d (i + 1) = if bsf A d i = 1 ∨ d i < d (bsf A d i - 2) then i + 2 else bsf A d i := by rw [bsf, if_pos h]
  unfold lst
  rw [e]
  by_cases q : bsf A d i = 1
  · rw [if_pos (Or.inl q), if_pos q, if_neg (by omega), Nat.add_sub_cancel, if_neg (by omega)]
  · by_cases q2 : d i < d (bsf A d i - 2)
    · rw [if_pos (Or.inr q2), if_neg q, if_neg (by omega), Nat.add_sub_cancel, if_neg (by omega)]
    · rw [if_neg (show ¬ (bsf A d i = 1 ∨ d i < d (bsf A d i - 2)) from fun x => x.elim q q2), if_neg q, if_pos (show d (bsf A d i - 2) ≤ d i by omega)]
theorem lst_n {A : Nat → Bool} {d : Nat → Nat} {i : Nat} (h : ¬ A i = true) : lst A d (i + 1) = lst A d i := by
  unfold lst
  rw [show bsf A d (i + 1) = bsf A d i by rw [bsf, if_neg h]]
