/-! PURE FACTS, 107: the start, and the law on every script -/
theorem sg0_10 {k : Nat} (h : kd k = 10) (j : Nat) : sg0 k j = if j = 0 then (if k % 7 = 2 then 103 else if k % 7 = 4 then 9 else 5) else 0 := by
  unfold sg0
  rw [if_pos h]
theorem sg0_0 {k : Nat} (h : kd k ≠ 10) (h2 : kd k ≠ 8) (j : Nat) : sg0 k j = 0 := by
  unfold sg0
  rw [if_neg h, if_neg h2]
theorem good0 : Good (fun _ => 0) := ⟨Nat.zero_le _, Nat.zero_le _, Nat.zero_le _, fun s h => absurd h (Nat.not_lt_zero _), fun s h => absurd h (Nat.not_lt_zero _), fun s h => absurd h (Nat.not_lt_zero _), fun p q s c h => absurd h (Nat.not_lt_zero _), fun _ _ => rfl⟩
theorem kd_shop : ∀ i : Fin 11, kd (1 + 7 * i.1 + 1) = 10 ∧ kd (1 + 7 * i.1 + 3) = 10 ∧ kd (1 + 7 * i.1 + 5) = 10 ∧ ln (1 + 7 * i.1 + 1 + 1) = 618 ∧ ln (1 + 7 * i.1 + 3 + 1) = 72 ∧ ln (1 + 7 * i.1 + 5 + 1) = 100 := by decide +kernel
theorem shop0 {i : Nat} (hi : i < 11) : ShR (1 + 7 * i) (fun _ => 0) sg0 := by
  obtain ⟨h1, h2, h3, l1, l2, l3⟩ := kd_shop ⟨i, hi⟩
  refine ⟨⟨l1, l2, l3⟩, ⟨?_, ?_, ?_, ?_, ?_, ?_⟩, fun s h => absurd h (Nat.not_lt_zero _), fun s h => absurd h (Nat.not_lt_zero _), fun s h => absurd h (Nat.not_lt_zero _)⟩
  · rw [sg0_10 h1, if_pos rfl, if_pos (by omega)]; rfl
  · rw [sg0_10 h1, if_neg (by decide)]; rfl
  · rw [sg0_10 h2, if_pos rfl, if_neg (by omega), if_pos (by omega)]; rfl
  · rw [sg0_10 h2, if_neg (by decide)]; rfl
  · rw [sg0_10 h3, if_pos rfl, if_neg (by omega), if_neg (by omega)]; rfl
  · rw [sg0_10 h3, if_neg (by decide)]; rfl
theorem inv0 : Inv sg0 := by
  have z : ∀ {k : Nat}, kd k ≠ 10 → kd k ≠ 8 → ∀ j, sg0 k j = nI 0 := fun h h2 j => sg0_0 h h2 j
  refine ⟨fun _ => 0, 0, fun _ _ => 0, false, fun _ => 0, 0, fun _ => 0, 0, fun _ => 0, fun _ => 0, 0, fun _ => 0, fun _ => 0, good0, ⟨by decide, by decide, fun _ _ => show (0 : Nat) < 65536 by decide, by decide, by decide⟩, ⟨shop0 (i := 0) (by decide), ShK_of (shop0 (i := 1) (by decide)), ShK_of (shop0 (i := 2) (by decide)), ⟨0, by decide, by decide, ?_, ?_, fun j hj => ?_, fun i hi => absurd hi (Nat.not_lt_zero _)⟩, ?_, fun h => absurd h (by decide)⟩, ⟨?_, fun i hi => absurd hi (Nat.not_lt_zero _), ?_, fun i hi => absurd hi (Nat.not_lt_zero _), ?_, fun i hi => absurd hi (Nat.not_lt_zero _)⟩, ⟨?_, ?_, fun i hi => absurd hi (Nat.not_lt_zero _), ?_, fun h => absurd h (by decide)⟩, ⟨?_, fun i hi => absurd hi (Nat.not_lt_zero _), ?_, fun i hi => absurd hi (Nat.not_lt_zero _), ?_, fun i hi => absurd hi (Nat.not_lt_zero _)⟩⟩
  · exact z (by decide) (by decide) _
  · exact z (by decide) (by decide) _
  · have := ShK_of (shop0 (i := 3 + j) (by omega))
    rw [show 1 + 7 * (3 + j) = 22 + 7 * j by omega] at this
    exact this
  · exact z (by decide) (by decide) _
  · exact z (by decide) (by decide) _
  · exact z (by decide) (by decide) _
  · exact z (by decide) (by decide) _
  · funext j
    exact z (by decide) (by decide) _
  · exact z (by decide) (by decide) _
  · exact z (by decide) (by decide) _
  · exact z (by decide) (by decide) _
  · exact z (by decide) (by decide) _
  · exact z (by decide) (by decide) _
theorem law_pure : LawPure := by
  intro xs L hL
  have key := lp_c (f := lawf xs L) (fun i z => ∃ τ, z = (nI (6 * i), τ) ∧ Inv τ) (fun _ => True) (L / 6) (by
    rintro i z hi ⟨τ, rfl, I⟩
    left
    have h6 : 6 * i + 6 ≤ L := by omega
    have hx : ¬ ((Int32.ofNat L) - 6) < nI (6 * i) := by
      show ¬ (nI L - nI 6) < nI (6 * i)
      rw [nI_subx (by omega), nI_ltI (by omega) (by omega)]
      omega
    have hb : ∀ k, k < 6 → inb (nI (6 * i) + nI k) L = true := fun k hk => by
      rw [nI_add]
      exact inb_nI (by omega) (by omega)
    obtain ⟨τ', h1, h2⟩ := law_round (xs := xs) I ⟨inb_nI (by omega) (by omega), hb 1 (by decide), hb 2 (by decide), hb 3 (by decide), hb 4 (by decide), hb 5 (by decide)⟩ hx
    refine ⟨_, h1, τ', ?_, h2⟩
    show (nI (6 * i) + nI 6, τ') = _
    rw [nI_add, show 6 * i + 6 = 6 * (i + 1) by omega]) (by
    rintro z ⟨τ, rfl, I⟩
    refine ⟨τ, ?_, trivial⟩
    unfold lawf f_L_law_l28
    dsimp only
    rw [if_pos]
    show (nI L - nI 6) < nI (6 * (L / 6))
    by_cases h : 6 ≤ L
    · rw [nI_subx h, nI_ltI (by omega) (by omega)]
      omega
    · have e : 6 * (L / 6) = 0 := by omega
      rw [e, Int32.lt_iff_toInt_lt]
      have e2 : (nI L - nI 6).toInt = (L : Int) - 6 := pk_sub_toInt (b := 6) (by omega) (by decide)
      have e0 : (nI 0).toInt = 0 := by decide
      rw [e2, e0]
      omega) 514 0 (0, sg0) (Nat.zero_le _) ⟨sg0, rfl, inv0⟩ (by omega)
  obtain ⟨τ, h, _⟩ := key
  exact ⟨τ, h⟩
