/-! PURE FACTS, 82: the way, the class's plan of the shortest -/
variable {R : Nat → Nat} {σ τ : St} {s : Nat}
theorem restsC_eq {M : Nat → Nat} (G : Good R) (hs : s < R 0) (hM : InnM R s M) (hk9 : sk R s ≤ 9) (A : Sps R s (R 2) (σ 93) (σ 94) (σ 95) (σ 92 6) (fun p => p) (fun p => lwf R p % sc R s) (fun p => lwf R p / sc R s)) (hM2 : ∀ o, o < sk R s → σ 96 o = nI (M o)) : ∃ τ, f_X5_findRests σ = some τ ∧ TabC R s M 1 (τ 98) ∧ (∀ j, j ≠ 8 → τ 92 j = σ 92 j) ∧ ∀ a, a ≠ 92 → a ≠ 98 → τ a = σ a := by
  have hk := sk_le (s := s) G
  have A1 : σ 92 6 = nI (sk R s) := A.1
  have h9 : 2 ^ sk R s ≤ 2 ^ 9 := Nat.pow_le_pow_right (by decide) hk9
  have h1 : 1 ≤ 2 ^ sk R s := Nat.one_le_two_pow
  obtain ⟨v, q1, q2, q3, q4⟩ := lp_fu (f := f_X5_findRests_l11 (nI (2 ^ sk R s - 1))) (fun i z => ∃ τ, z = (nI (2 ^ sk R s - 1 - i), τ) ∧ TabC R s M (2 ^ sk R s - i) (τ 98) ∧ (∀ j, j ≠ 8 → τ 92 j = σ 92 j) ∧ ∀ a, a ≠ 92 → a ≠ 98 → τ a = σ a) (fun τ => TabC R s M 1 (τ 98) ∧ (∀ j, j ≠ 8 → τ 92 j = σ 92 j) ∧ ∀ a, a ≠ 92 → a ≠ 98 → τ a = σ a) (2 ^ sk R s - 1) (by omega) (nI (2 ^ sk R s - 1), σ) ⟨σ, rfl, fun D h1 h2 => absurd h2 (by omega), fun _ _ => rfl, fun _ _ _ => rfl⟩ (by
    rintro i z hi ⟨τ, rfl, e1, e2, e3⟩
    left
    have e1' : TabC R s M (2 ^ sk R s - 1 - i + 1) (τ 98) := by
      rw [show 2 ^ sk R s - 1 - i + 1 = 2 ^ sk R s - i by omega]; exact e1
    obtain ⟨τ1, c1, c2, c3, c4⟩ := restsIn_eq (σ := τ) (D := 2 ^ sk R s - 1 - i) G hs hM hk9 (by rw [e3 93 (by decide) (by decide), e3 94 (by decide) (by decide), e3 95 (by decide) (by decide), e2 6 (by decide)]; exact A) (fun o ho => by rw [e3 96 (by decide) (by decide)]; exact hM2 o ho) (by omega) e1'
    refine ⟨(nI (2 ^ sk R s - 1 - (i + 1)), τ1), ?_, τ1, rfl, by rw [show 2 ^ sk R s - (i + 1) = 2 ^ sk R s - 1 - i by omega]; exact c2, fun j hj => by rw [c3 j hj, e2 j hj], fun a h1 h2 => by rw [c4 a h1 h2, e3 a h1 h2]⟩
    unfold f_X5_findRests_l11
    dsimp only
    rw [if_neg (show ¬ nI (2 ^ sk R s - 1 - i) ≤ 0 from nI_ge (a := 0) (by omega) (by omega)), show (0 : Int32) = nI 0 from rfl, c1, bind_s, nI_dec (by omega), show 2 ^ sk R s - 1 - i - 1 = 2 ^ sk R s - 1 - (i + 1) by omega]) (by
    rintro z ⟨τ, rfl, e1, e2, e3⟩
    refine ⟨τ, ?_, by rw [show 2 ^ sk R s - (2 ^ sk R s - 1) = 1 by omega] at e1; exact e1, e2, e3⟩
    unfold f_X5_findRests_l11
    dsimp only
    rw [Nat.sub_self]
    rfl)
  refine ⟨v, ?_, q2, q3, q4⟩
  unfold f_X5_findRests f_X5_findRests_0
  rw [A1, show (31 : Int32) = nI 31 from rfl, show (1 : Int32) = nI 1 from rfl, shl1 (by omega), nI_subx h1, q1]
  rfl
/-- the choice in the walk, when the shortest is asked -/
theorem shortC_wk {M : Nat → Nat} (G : Good R) (hs : s < R 0) (hM : InnM R s M) (hk9 : sk R s ≤ 9) (A : Sps R s (R 2) (σ 93) (σ 94) (σ 95) (σ 92 6) (fun p => p) (fun p => lwf R p % sc R s) (fun p => lwf R p / sc R s)) (hM2 : ∀ o, o < sk R s → σ 96 o = nI (M o)) (hT : TabC R s M 1 (σ 98)) (i : Nat) (hi : i < sk R s) (τ : St) (h1 : ∀ j, j ≠ 7 → j ≠ 8 → τ 92 j = σ 92 j) (h2 : ∀ a, a ≠ 92 → a ≠ 97 → τ a = σ a) : ∃ τ1, f_X5_choose (nI (wk R s M (dS R s M) i).1) (wI (wk R s M (dS R s M) i).2.1) (nI 1) τ = some (nI (nxt R s M (dS R s M) i - 2), τ1) ∧ (∀ j, j ≠ 8 → τ1 92 j = τ 92 j) ∧ ∀ a, a ≠ 92 → τ1 a = τ a := by
  obtain ⟨a1, a2, a3, a4⟩ := wk_ok (d := dS R s M) G hs hM i (by omega)
  obtain ⟨τ1, c1, c2, c3, c4⟩ := shortC_ch (τ := τ) (D := (wk R s M (dS R s M) i).1) (x := (wk R s M (dS R s M) i).2.1) G hs hM hk9 (by rw [h2 93 (by decide) (by decide), h2 94 (by decide) (by decide), h2 95 (by decide) (by decide), h1 6 (by decide) (by decide)]; exact A) (fun o ho => by rw [h2 96 (by decide) (by decide)]; exact hM2 o ho) a1 a2 (fun j hj hb => by
    rw [h2 98 (by decide) (by decide)]
    have := or_gt hb
    exact hT _ (by omega) (Nat.or_lt_two_pow a1 (Nat.pow_lt_pow_right (by decide) hj)) j hj ((bit_or _ _ _).mpr (Or.inr ((bit_pow _ _).mpr rfl))))
  exact ⟨τ1, c1, c3, c4⟩
