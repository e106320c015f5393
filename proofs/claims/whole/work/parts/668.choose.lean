/-! PURE FACTS, 75: the way, choosing the next stop -/
variable {R : Nat → Nat} {σ τ : St} {s : Nat}
/-- a stop may follow the stops D -/
def alw (M : Nat → Nat) (D j : Nat) : Bool := decide (¬ bit D j = 1) && decide (M j ^^^ (M j &&& D) = 0)
/-- the first of the nearest, coded: 1 for none -/
def bsf (A : Nat → Bool) (d : Nat → Nat) : Nat → Nat
  | 0 => 1
  | i + 1 => if A i = true then (if bsf A d i = 1 ∨ d i < d (bsf A d i - 2) then i + 2 else bsf A d i) else bsf A d i
theorem bsf_r (A : Nat → Bool) (d : Nat → Nat) (i : Nat) : bsf A d i = 1 ∨ 2 ≤ bsf A d i ∧ bsf A d i < i + 2 ∧ A (bsf A d i - 2) = true := by
  induction i with
  | zero => exact Or.inl rfl
  | succ i ih =>
    unfold bsf
    by_cases a : A i = true
    · rw [if_pos a]
      split
      · exact Or.inr ⟨by omega, by omega, by rw [Nat.add_sub_cancel]; exact a⟩
      · rcases ih with h | h
        · exact Or.inl h
        · exact Or.inr ⟨h.1, by omega, h.2.2⟩
    · rw [if_neg a]
      rcases ih with h | h
      · exact Or.inl h
      · exact Or.inr ⟨h.1, by omega, h.2.2⟩
theorem bsf_1 {A : Nat → Bool} {d : Nat → Nat} {i j : Nat} (hj : j < i) (h : A j = true) : bsf A d i ≠ 1 := by
  induction i with
  | zero => omega
  | succ i ih =>
    unfold bsf
    by_cases a : A i = true
    · rw [if_pos a]
      split
      · omega
      · rename_i q
        exact fun e => q (Or.inl e)
    · rw [if_neg a]
      refine ih ?_
      rcases Nat.lt_or_ge j i with b | b
      · exact b
      · rw [show j = i by omega] at h; exact absurd h a
theorem nand_lt {a b : Nat} (h : a < 2 ^ 31) : a ^^^ (a &&& b) < 2 ^ 31 := Nat.xor_lt_two_pow h (Nat.lt_of_le_of_lt Nat.and_le_left h)
theorem alwC_eq {M : Nat → Nat} {D j k : Nat} (hk : k ≤ 20) (hM : ∀ o, o < k → σ 96 o = nI (M o) ∧ M o < 2 ^ k) (hD : D < 2 ^ k) (hj : j < k) : f_X5_isAllowed (nI D) (nI j) σ = some (nI (bN (alw M D j))) := by
  obtain ⟨L1, L2, L3, L4, L5⟩ := ln9x
  have h20 : 2 ^ k ≤ 2 ^ 20 := Nat.pow_le_pow_right (by decide) hk
  have hMj := hM j hj
  have hl := nand_lt (a := M j) (b := D) (by omega)
  unfold f_X5_isAllowed f_X5_isAllowed_0
  rw [show (31 : Int32) = nI 31 from rfl, show ((nI D >>> (nI j &&& nI 31)) &&& 1) = nI (bit D j) by rw [shrx (by omega) (by omega), show (1 : Int32) = nI 1 from rfl, and1]; rfl, show (0 : Int32) = nI 0 from rfl, bit_if, at_h (by omega) (by omega), bind_s, hMj.1, nI_nand]
  unfold alw
  by_cases e : bit D j = 1
  · rw [if_pos e, decide_eq_false (fun h => h e)]; rfl
  · rw [if_neg e, decide_eq_true e]
    by_cases e2 : M j ^^^ (M j &&& D) = 0
    · rw [if_pos (by rw [e2]), decide_eq_true e2]; rfl
    · rw [if_neg (by rw [nI_eqI hl (by decide)]; exact e2), decide_eq_false e2]; rfl
theorem choose_eq {M d : Nat → Nat} {D k : Nat} {x2 x3 : Int32} (hk : k ≤ 20) (h6 : σ 92 6 = nI k) (hM : ∀ o, o < k → σ 96 o = nI (M o) ∧ M o < 2 ^ k) (hD : D < 2 ^ k) (hd : ∀ j, j < k → alw M D j = true → d j < 1000000 ∧ ∀ τ c, (∀ a, a ≠ 92 → τ a = σ a) → (f_X5_distance x2 (nI j) τ).bind (fun q4 => if x3 = 0 then f_X5_choose_j68 (nI D) x2 x3 c (nI j) q4 τ else (f_X10_at 98 (((nI D ||| ((1 : Int32) <<< (nI j &&& 31))) * 9) + nI j) τ).bind fun q7 => f_X5_choose_j68 (nI D) x2 x3 c (nI j) (q4 + q7) τ) = f_X5_choose_j68 (nI D) x2 x3 c (nI j) (nI (d j)) τ) : ∃ τ, f_X5_choose (nI D) x2 x3 σ = some (nI (bsf (alw M D) d k - 2), τ) ∧ τ 92 8 = nI (if bsf (alw M D) d k = 1 then 1000000 else d (bsf (alw M D) d k - 2)) ∧ (∀ j, j ≠ 8 → τ 92 j = σ 92 j) ∧ ∀ a, a ≠ 92 → τ a = σ a := by
  obtain ⟨v, q1, τ, rfl, q2, q3, q4⟩ := lp_fu (f := f_X5_choose_l12 (nI D) x2 x3) (fun j z => ∃ τ, z = (nI (bsf (alw M D) d j - 2), nI j, τ) ∧ τ 92 8 = nI (if bsf (alw M D) d j = 1 then 1000000 else d (bsf (alw M D) d j - 2)) ∧ (∀ j, j ≠ 8 → τ 92 j = σ 92 j) ∧ ∀ a, a ≠ 92 → τ a = σ a) (fun v => ∃ τ, v = (nI (bsf (alw M D) d k - 2), τ) ∧ τ 92 8 = nI (if bsf (alw M D) d k = 1 then 1000000 else d (bsf (alw M D) d k - 2)) ∧ (∀ j, j ≠ 8 → τ 92 j = σ 92 j) ∧ ∀ a, a ≠ 92 → τ a = σ a) k (by omega) (nI 0, nI 0, up σ 92 8 (nI 1000000)) ⟨_, rfl, up_s .., fun j hj => up_j _ _ _ hj, fun a ha => up_k _ _ _ ha⟩ (by
    rintro j z hj ⟨τ, rfl, e1, e2, e3⟩
    left
    have hal := alwC_eq (σ := τ) (M := M) hk (fun o ho => by rw [e3 96 (by decide)]; exact hM o ho) hD hj
    have nn : ¬ τ 92 6 ≤ nI j := by rw [e2 6 (by decide), h6]; exact nI_ge hj (by omega)
    have hb := bsf_r (alw M D) d j
    by_cases a : alw M D j = true
    · obtain ⟨d1, d2⟩ := hd j hj a
      have hcur : (if bsf (alw M D) d j = 1 then 1000000 else d (bsf (alw M D) d j - 2)) < 2 ^ 20 := by
        split
        · decide
        · rcases hb with h | ⟨h1, h2, h3⟩
          · omega
          · have := (hd (bsf (alw M D) d j - 2) (by omega) h3).1
            omega
      have hle : (if bsf (alw M D) d j = 1 then 1000000 else d (bsf (alw M D) d j - 2)) ≤ d j ↔ ¬ (bsf (alw M D) d j = 1 ∨ d j < d (bsf (alw M D) d j - 2)) := by
        by_cases h : bsf (alw M D) d j = 1
        · rw [if_pos h]; exact ⟨fun q => by omega, fun q => absurd (Or.inl h) q⟩
        · rw [if_neg h]; exact ⟨fun q r => by omega, fun q => by omega⟩
      have hs : bsf (alw M D) d (j + 1) = if bsf (alw M D) d j = 1 ∨ d j < d (bsf (alw M D) d j - 2) then j + 2 else bsf (alw M D) d j := by
        rw [bsf, if_pos a]
      have hstep : f_X5_choose_l12 (nI D) x2 x3 (nI (bsf (alw M D) d j - 2), nI j, τ) = f_X5_choose_j68 (nI D) x2 x3 (nI (bsf (alw M D) d j - 2)) (nI j) (nI (d j)) τ := by
        unfold f_X5_choose_l12
        dsimp only
        rw [if_neg nn, hal, bind_s, bNi, if_pos a]
        exact d2 τ _ e3
      rw [hs, hstep]
      unfold f_X5_choose_j68 f_X5_choose_j87
      by_cases q : bsf (alw M D) d j = 1 ∨ d j < d (bsf (alw M D) d j - 2)
      · rw [if_pos q, if_neg (show ¬ τ 92 8 ≤ nI (d j) by rw [e1, nI_leI (by omega) (by omega), hle]; exact fun h => h q)]
        refine ⟨_, rfl, up τ 92 8 (nI (d j)), by rw [nI_1, Nat.add_sub_cancel], ?_, fun i hi => by rw [up_j _ _ _ hi, e2 i hi], fun a ha => by rw [up_k _ _ _ ha, e3 a ha]⟩
        rw [up_s, if_neg (by omega), Nat.add_sub_cancel]
      · rw [if_neg q, if_pos (show τ 92 8 ≤ nI (d j) by rw [e1, nI_leI (by omega) (by omega), hle]; exact q)]
        exact ⟨_, rfl, τ, by rw [nI_1], e1, e2, e3⟩
    · have hs : bsf (alw M D) d (j + 1) = bsf (alw M D) d j := by rw [bsf, if_neg a]
      rw [hs]
      refine ⟨_, ?_, τ, rfl, e1, e2, e3⟩
      unfold f_X5_choose_l12 f_X5_choose_j87
      dsimp only
      rw [if_neg nn, hal, bind_s, bNi, if_neg a, nI_1]) (by
    rintro z ⟨τ, rfl, e1, e2, e3⟩
    refine ⟨_, ?_, τ, rfl, e1, e2, e3⟩
    unfold f_X5_choose_l12
    dsimp only
    exact if_pos (by rw [e2 6 (by decide), h6]; exact Int32.le_refl _))
  refine ⟨τ, ?_, q2, q3, q4⟩
  unfold f_X5_choose f_X5_choose_0
  rw [show (0 : Int32) = nI 0 from rfl, show (1000000 : Int32) = nI 1000000 from rfl, q1]
  rfl
