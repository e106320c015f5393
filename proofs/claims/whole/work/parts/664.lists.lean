/-! PURE FACTS, 71: the way, the reference's lists -/
variable {R : Nat → Nat} {σ τ : St} {s : Nat}
theorem lists1_eq (hR : σ 102 = rwN R) (G : Good R) (hs : s < R 0) : ∃ τ, lp (f_X11_lists_l12 (nI s)) FU (nI 0, up σ 101 35 (nI 0)) = some τ ∧ Sps R s (R 2) (τ 116) (τ 117) (τ 117) (τ 101 35) (fun p => p) (lwf R) (lwf R) ∧ (∀ a, a ≠ 101 → a ≠ 116 → a ≠ 117 → τ a = σ a) ∧ ∀ j, j ≠ 35 → τ 101 j = σ 101 j := by
  have g2 := G.2.2.1
  have g0 := G.1
  obtain ⟨v, q1, q2, q3, q4⟩ := lp_fu (f := f_X11_lists_l12 (nI s)) (fun p z => ∃ τ, z = (nI p, τ) ∧ Sps R s p (τ 116) (τ 117) (τ 117) (τ 101 35) (fun p => p) (lwf R) (lwf R) ∧ (∀ a, a ≠ 101 → a ≠ 116 → a ≠ 117 → τ a = σ a) ∧ ∀ j, j ≠ 35 → τ 101 j = σ 101 j) (fun τ => Sps R s (R 2) (τ 116) (τ 117) (τ 117) (τ 101 35) (fun p => p) (lwf R) (lwf R) ∧ (∀ a, a ≠ 101 → a ≠ 116 → a ≠ 117 → τ a = σ a) ∧ ∀ j, j ≠ 35 → τ 101 j = σ 101 j) (R 2) (by omega) (nI 0, up σ 101 35 (nI 0)) ⟨_, rfl, ⟨up_s .., fun j hj => absurd hj (Nat.not_lt_zero _)⟩, fun a ha _ _ => up_k _ _ _ ha, fun j hj => up_j _ _ _ hj⟩ (by
    rintro p z hp ⟨τ, rfl, A, F, F2⟩
    left
    have hR1 : τ 102 = rwN R := by rw [F 102 (by decide) (by decide) (by decide), hR]
    have hk := kk_le R s p
    have row2 : τ 102 (2 : Int32).toNatClampNeg = nI (R 2) := by rw [hR1]; rfl
    have hps := (G.2.2.2.2.2.1 p hp).2.1
    have hpS := (GS G hps).1
    have rowp : τ 102 (681 + p) = nI (R (681 + p)) := by rw [hR1]; rfl
    have c2 : inb (2 : Int32) 761 = true := by decide
    by_cases e : R (681 + p) = s
    · obtain ⟨w1, w2⟩ := lwf_low G hp
      have hR2 : (up τ 116 (kk R s p) (nI p)) 102 = rwN R := by rw [up_k _ _ _ (by decide), hR1]
      have hlow := lowR_eq hR2 G hp w1
      refine ⟨(nI (p + 1), up (up (up τ 116 (kk R s p) (nI p)) 117 (kk R s p) (nI (lwf R p))) 101 35 (nI (kk R s p + 1))), ?_, _, rfl, ?_, fun a x1 x2 x3 => ?_, fun j hj => ?_⟩
      · unfold f_X11_lists_l12 f_X11_lists_j70
        dsimp only
        rw [c2]
        show (if τ 102 (2 : Int32).toNatClampNeg ≤ nI p then _ else _) = _
        rw [if_neg (by rw [row2]; exact nI_ge hp (by omega)), show (681 : Int32) = nI 681 from rfl, nI_add, chkin (by omega) (by omega), nI_clamp (by omega), if_pos (by rw [rowp, e]), A.1, chkin (by omega) (by omega), nI_clamp (by omega), hlow, bind_s, up_k _ _ _ (show (101 : Nat) ≠ 116 by decide), A.1, chkin (by omega) (by omega), nI_clamp (by omega), up_k _ _ _ (show (101 : Nat) ≠ 117 by decide), up_k _ _ _ (show (101 : Nat) ≠ 116 by decide), A.1, nI_1, nI_1]
      · have := Sps_1 A e
        have x1 : ∀ σ' : St, ∀ v, (up σ' 117 (kk R s p) v) 117 = upd (σ' 117) (kk R s p) v := fun σ' v => upA_same ..
        have x2 : ∀ σ' : St, ∀ v, (up σ' 116 (kk R s p) v) 116 = upd (σ' 116) (kk R s p) v := fun σ' v => upA_same ..
        rw [up_k _ _ _ (show (116 : Nat) ≠ 101 by decide), up_k _ _ _ (show (116 : Nat) ≠ 117 by decide), x2, up_k _ _ _ (show (117 : Nat) ≠ 101 by decide), x1, up_k _ _ _ (show (117 : Nat) ≠ 116 by decide), up_s]
        exact this
      · rw [up_k _ _ _ x1, up_k _ _ _ x3, up_k _ _ _ x2, F a x1 x2 x3]
      · rw [up_j _ _ _ hj, up_k _ _ _ (by decide), up_k _ _ _ (by decide), F2 j hj]
    · refine ⟨(nI (p + 1), τ), ?_, τ, rfl, Sps_0 A e, F, F2⟩
      unfold f_X11_lists_l12 f_X11_lists_j70
      dsimp only
      rw [c2]
      show (if τ 102 (2 : Int32).toNatClampNeg ≤ nI p then _ else _) = _
      rw [if_neg (by rw [row2]; exact nI_ge hp (by omega)), show (681 : Int32) = nI 681 from rfl, nI_add, chkin (by omega) (by omega), nI_clamp (by omega), if_neg (by rw [rowp, nI_eqI (by omega) (by omega)]; exact e), nI_1]) (by
    rintro z ⟨τ, rfl, A, F, F2⟩
    refine ⟨τ, ?_, A, F, F2⟩
    have hR1 : τ 102 = rwN R := by rw [F 102 (by decide) (by decide) (by decide), hR]
    have row2 : τ 102 (2 : Int32).toNatClampNeg = nI (R 2) := by rw [hR1]; rfl
    have c2 : inb (2 : Int32) 761 = true := by decide
    unfold f_X11_lists_l12
    dsimp only
    rw [c2]
    show (if τ 102 (2 : Int32).toNatClampNeg ≤ nI (R 2) then _ else _) = _
    rw [if_pos (by rw [row2]; exact Int32.le_refl _)])
  exact ⟨v, q1, q2, q3, q4⟩
