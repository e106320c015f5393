/-! PURE FACTS, 80: the way, the class's choice of the shortest -/
variable {R : Nat → Nat} {σ τ : St} {s : Nat}
theorem ln98 : ln 98 = 4608 := by decide +kernel
theorem shortC_ch {M : Nat → Nat} {D x : Nat} (G : Good R) (hs : s < R 0) (hM : InnM R s M) (hk9 : sk R s ≤ 9) (A : Sps R s (R 2) (τ 93) (τ 94) (τ 95) (τ 92 6) (fun p => p) (fun p => lwf R p % sc R s) (fun p => lwf R p / sc R s)) (hM2 : ∀ o, o < sk R s → τ 96 o = nI (M o)) (hD : D < 2 ^ sk R s) (hx : x = 1 ∨ 2 ≤ x ∧ x < sk R s + 2) (hT : ∀ j, j < sk R s → ¬ bit D j = 1 → τ 98 ((D ||| 2 ^ j) * 9 + j) = nI (rst R s M (D ||| 2 ^ j) (j + 2))) : ∃ τ1, f_X5_choose (nI D) (wI x) (nI 1) τ = some (nI (bsf (alw M D) (dS R s M D x) (sk R s) - 2), τ1) ∧ (cn R s D < sk R s → τ1 92 8 = nI (rst R s M D x)) ∧ (∀ j, j ≠ 8 → τ1 92 j = τ 92 j) ∧ ∀ a, a ≠ 92 → τ1 a = τ a := by
  have hk := sk_le (s := s) G
  have A1 : τ 92 6 = nI (sk R s) := A.1
  have h9 : 2 ^ sk R s ≤ 2 ^ 9 := Nat.pow_le_pow_right (by decide) hk9
  have hf := fc_100 G hs hx
  obtain ⟨τ1, c1, c2, c3, c4⟩ := choose_eq (σ := τ) (M := M) (d := dS R s M D x) (D := D) (k := sk R s) (x2 := wI x) (x3 := nI 1) hk A1 (fun o ho => ⟨hM2 o ho, (hM o ho).1⟩) hD (fun j hj ha => by
    have hlt := dw_lt (w := sc R s) hf (low_100 G hs hj)
    have hnb := alw_n ha
    have hcn := cn_s hj hnb
    have hcl : cn R s (D ||| 2 ^ j) ≤ sk R s := cnt_le _ _
    have hr := rst_le (M := M) G hs hM (sk R s - cn R s (D ||| 2 ^ j)) (D ||| 2 ^ j) (j + 2) (by omega) (Or.inr ⟨by omega, by omega⟩)
    have hor : D ||| 2 ^ j < 2 ^ sk R s := Nat.or_lt_two_pow hD (Nat.pow_lt_pow_right (by decide) hj)
    refine ⟨by show dw _ _ _ + _ < _; omega, fun τ' c hτ' => ?_⟩
    have dist := distC_eq (σ := up τ' 92 6 (τ 92 6)) (by rw [up_k _ _ _ (by decide), up_k _ _ _ (by decide), up_k _ _ _ (by decide), up_s, hτ' 93 (by decide), hτ' 94 (by decide), hτ' 95 (by decide)]; exact A) G hs (x := x) (j := j) hx hj
    have same : f_X5_distance (wI x) (nI j) τ' = f_X5_distance (wI x) (nI j) (up τ' 92 6 (τ 92 6)) := by
      unfold f_X5_distance f_X5_distance_0 f_X5_distance_j17 f_X5_distance_j35 f_X10_at f_X10_at_0
      rw [up_k _ _ _ (show (94 : Nat) ≠ 92 by decide), up_k _ _ _ (show (95 : Nat) ≠ 92 by decide)]
    have hat := at_h (t := 98) (j := (D ||| 2 ^ j) * 9 + j) (τ := τ') (by rw [ln98]; omega) (by rw [ln98]; decide)
    rw [hτ' 98 (by decide), hT j hj hnb] at hat
    rw [same, dist, bind_s, if_neg (by decide), show (31 : Int32) = nI 31 from rfl, show (1 : Int32) = nI 1 from rfl, show (9 : Int32) = nI 9 from rfl, shl1 (by omega), nI_or, pk_mul, nI_add, hat, bind_s, nI_add]
    rfl)
  refine ⟨τ1, c1, fun hl => ?_, c3, c4⟩
  obtain ⟨b1, b2, b3⟩ := some_ex (M := M) G hM hl (dS R s M D x)
  rw [c2, if_neg (by omega), ← rst_s G hM hl]
