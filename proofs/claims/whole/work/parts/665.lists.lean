/-! PURE FACTS, 72: the way, what lies within what, the reference's -/
variable {R : Nat → Nat} {σ τ : St} {s : Nat}
theorem lists2_eq (hR : σ 102 = rwN R) (G : Good R) (hs : s < R 0) (hC : Cov R s (σ 111)) (A : Sps R s (R 2) (σ 116) (σ 117) (σ 117) (σ 101 35) (fun p => p) (lwf R) (lwf R)) : ∃ τ, lp f_X11_lists_l78 FU (nI 0, σ) = some τ ∧ Inn R s (τ 118) (sk R s) ∧ ∀ a, a ≠ 115 → a ≠ 118 → τ a = σ a := by
  have hk := sk_le (s := s) G
  have A1 : σ 101 35 = nI (sk R s) := A.1
  obtain ⟨v, q1, q2, q3⟩ := lp_fu (f := f_X11_lists_l78) (fun o z => ∃ τ, z = (nI o, τ) ∧ Inn R s (τ 118) o ∧ ∀ a, a ≠ 115 → a ≠ 118 → τ a = σ a) (fun τ => Inn R s (τ 118) (sk R s) ∧ ∀ a, a ≠ 115 → a ≠ 118 → τ a = σ a) (sk R s) (by omega) (nI 0, σ) ⟨σ, rfl, fun o h => absurd h (Nat.not_lt_zero _), fun _ _ _ => rfl⟩ (by
    rintro o z ho ⟨τ, rfl, B, F⟩
    left
    obtain ⟨o1, o2⟩ := sP_on ho
    obtain ⟨w, p1, p2, p3, p4⟩ := lp_fu (f := f_X11_lists_l95 (nI o)) (fun j z => ∃ τ', z = (nI j, τ') ∧ (∃ M, τ' 118 o = nI M ∧ M < 2 ^ sk R s ∧ ∀ q, bit M q = 1 ↔ q < j ∧ Wi R (sP R s q) (sP R s o) (lwf R (sP R s q))) ∧ (∀ i, i ≠ o → τ' 118 i = τ 118 i) ∧ ∀ a, a ≠ 115 → a ≠ 118 → τ' a = σ a) (fun τ' => (∃ M, τ' 118 o = nI M ∧ M < 2 ^ sk R s ∧ ∀ q, bit M q = 1 ↔ q < sk R s ∧ Wi R (sP R s q) (sP R s o) (lwf R (sP R s q))) ∧ (∀ i, i ≠ o → τ' 118 i = τ 118 i) ∧ ∀ a, a ≠ 115 → a ≠ 118 → τ' a = σ a) (sk R s) (by omega) (nI 0, up τ 118 o (nI 0)) ⟨_, rfl, ⟨0, up_s .., Nat.two_pow_pos _, fun q => ⟨fun h => (by rw [bit_z] at h; cases h), fun h => absurd h.1 (Nat.not_lt_zero _)⟩⟩, fun i hi => up_j _ _ _ hi, fun a x1 x2 => by rw [up_k _ _ _ x2, F a x1 x2]⟩ (by
      rintro j z hj ⟨τ', rfl, ⟨M, m1, m2, m3⟩, E, F'⟩
      left
      obtain ⟨j1, j2⟩ := sP_on hj
      obtain ⟨w1, w2⟩ := lwf_low G j1
      have hR1 : τ' 102 = rwN R := by rw [F' 102 (by decide) (by decide), hR]
      have hC1 : Cov R (R (681 + sP R s j)) (τ' 111) := by rw [j2, F' 111 (by decide) (by decide)]; exact hC
      obtain ⟨b, τ2, i1, i2, i3⟩ := withinR_eq hR1 G j1 o1 hC1 w1
      have e1 : τ' 116 j = nI (sP R s j) := by rw [F' 116 (by decide) (by decide)]; exact (A.2 j hj).1
      have e2 : τ' 116 o = nI (sP R s o) := by rw [F' 116 (by decide) (by decide)]; exact (A.2 o ho).1
      have hc : τ' 101 35 = nI (sk R s) := by rw [F' 101 (by decide) (by decide), A1]
      refine ⟨(nI (j + 1), up τ2 118 o (nI (if b = true then M ||| 2 ^ j else M))), ?_, _, rfl, ⟨_, up_s .., ?_, fun q => ?_⟩, fun i hi => ?_, fun a x1 x2 => ?_⟩
      · unfold f_X11_lists_l95 f_X11_lists_j136
        dsimp only
        rw [if_neg (by rw [hc]; exact nI_ge hj (by omega)), chkin (by omega) (by omega), chkin (by omega) (by omega), chkin (by omega) (by omega), nI_clamp (by omega), nI_clamp (by omega), e1, e2, i1, bind_s]
        dsimp only
        rw [bNi, m1]
        cases b
        · rw [if_neg (by decide), if_neg (by decide), chkin (by omega) (by omega), show (0 : Int32) = nI 0 from rfl, nI_or, Nat.or_zero, nI_1]
        · rw [if_pos rfl, if_pos rfl, chkin (by omega) (by omega), show (31 : Int32) = nI 31 from rfl, show (1 : Int32) = nI 1 from rfl, shl1 (by omega), nI_or, nI_add]
      · split
        · exact Nat.or_lt_two_pow m2 (Nat.pow_lt_pow_right (by decide) hj)
        · exact m2
      · cases b
        · rw [if_neg (by decide), m3]
          constructor
          · rintro ⟨h1, h2⟩; exact ⟨by omega, h2⟩
          · rintro ⟨h1, h2⟩
            by_cases q2 : q = j
            · subst q2; exact absurd (i2.mpr h2) (by decide)
            · exact ⟨by omega, h2⟩
        · rw [if_pos rfl, bit_or, bit_pow, m3]
          constructor
          · rintro (⟨h1, h2⟩ | rfl)
            · exact ⟨by omega, h2⟩
            · exact ⟨by omega, i2.mp rfl⟩
          · rintro ⟨h1, h2⟩
            by_cases q2 : q = j
            · exact Or.inr q2.symm
            · exact Or.inl ⟨by omega, h2⟩
      · rw [up_j _ _ _ hi, i3 118 (by decide), E i hi]
      · rw [up_k _ _ _ x2, i3 a x1, F' a x1 x2]) (by
      rintro z ⟨τ', rfl, m, E, F'⟩
      refine ⟨τ', ?_, m, E, F'⟩
      unfold f_X11_lists_l95
      dsimp only
      exact if_pos (by rw [F' 101 (by decide) (by decide), A1]; exact Int32.le_refl _))
    refine ⟨(nI (o + 1), w), ?_, w, rfl, fun o' ho' => ?_, p4⟩
    · have hc : τ 101 35 = nI (sk R s) := by rw [F 101 (by decide) (by decide), A1]
      unfold f_X11_lists_l78
      dsimp only
      rw [if_neg (by rw [hc]; exact nI_ge ho (by omega)), chkin (by omega) (by omega), nI_clamp (by omega), show (0 : Int32) = nI 0 from rfl, p1, bind_s, nI_1]
    · by_cases e : o' = o
      · subst e; exact p2
      · rw [p3 o' e]; exact B o' (by omega)) (by
    rintro z ⟨τ, rfl, B, F⟩
    refine ⟨τ, ?_, B, F⟩
    unfold f_X11_lists_l78
    dsimp only
    exact if_pos (by rw [F 101 (by decide) (by decide), A1]; exact Int32.le_refl _))
  exact ⟨v, q1, q2, q3⟩
theorem lists_eq (hR : σ 102 = rwN R) (G : Good R) (hs : s < R 0) : ∃ τ, f_X11_lists (nI s) σ = some τ ∧ Sps R s (R 2) (τ 116) (τ 117) (τ 117) (τ 101 35) (fun p => p) (lwf R) (lwf R) ∧ Inn R s (τ 118) (sk R s) ∧ (∀ a, a ≠ 101 → a ≠ 111 → a ≠ 115 → a ≠ 116 → a ≠ 117 → a ≠ 118 → τ a = σ a) ∧ ∀ j, j ≠ 35 → τ 101 j = σ 101 j := by
  have g0 := G.1
  obtain ⟨row, l1, l2⟩ := looks_eq hR G s (by omega)
  have hR1 : (upA σ 111 row) 102 = rwN R := by rw [upA_ne _ _ (by decide), hR]
  obtain ⟨τ1, a1, a2, a3, a4⟩ := lists1_eq hR1 G hs
  have hC : Cov R s (τ1 111) := by rw [a3 111 (by decide) (by decide) (by decide), upA_same]; exact l2
  obtain ⟨τ2, b1, b2, b3⟩ := lists2_eq (by rw [a3 102 (by decide) (by decide) (by decide), hR1]) G hs hC a2
  refine ⟨τ2, ?_, ?_, b2, fun a x1 x2 x3 x4 x5 x6 => ?_, fun j hj => ?_⟩
  · unfold f_X11_lists f_X11_lists_0
    rw [l1, bind_s, show (0 : Int32) = nI 0 from rfl, a1, bind_s, b1]
    rfl
  · rw [b3 116 (by decide) (by decide), b3 117 (by decide) (by decide), b3 101 (by decide) (by decide)]
    exact a2
  · rw [b3 a x3 x6, a3 a x1 x4 x5, upA_ne _ _ x2]
  · rw [b3 101 (by decide) (by decide), a4 j hj, upA_ne _ _ (by decide)]
