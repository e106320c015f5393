/-! PURE FACTS, 78: the way, the reference's walk to the nearest -/
variable {R : Nat → Nat} {σ τ : St} {s : Nat}
def dN (R : Nat → Nat) (s : Nat) : Nat → Nat → Nat → Nat := fun _ x j => dst R s (fc R s x) j
theorem nearR_eq {M : Nat → Nat} (hR : σ 102 = rwN R) (G : Good R) (hs : s < R 0) (hM : InnM R s M) (h35 : σ 101 35 = nI (sk R s)) (h117 : ∀ j, j < sk R s → σ 117 j = nI (lwf R (sP R s j))) (hM2 : ∀ o, o < sk R s → σ 118 o = nI (M o)) : ∃ τ, f_X11_nearest (nI s) σ = some τ ∧ τ 101 36 = nI (wk R s M (dN R s) (sk R s)).2.2 ∧ (∀ i, i < sk R s → τ 119 i = nI (nxt R s M (dN R s) i - 2)) ∧ (∀ j, j ≠ 36 → τ 101 j = σ 101 j) ∧ ∀ a, a ≠ 101 → a ≠ 119 → τ a = σ a := by
  have hk := sk_le (s := s) G
  obtain ⟨v, q1, q2, q3, q4, q5⟩ := lp_fu (f := f_X11_nearest_l12 (nI s)) (fun i z => ∃ τ, z = (nI (wk R s M (dN R s) i).1, nI (fc R s (wk R s M (dN R s) i).2.1), nI i, τ) ∧ τ 101 36 = nI (wk R s M (dN R s) i).2.2 ∧ (∀ j, j < i → τ 119 j = nI (nxt R s M (dN R s) j - 2)) ∧ (∀ j, j ≠ 36 → τ 101 j = σ 101 j) ∧ ∀ a, a ≠ 101 → a ≠ 119 → τ a = σ a) (fun τ => τ 101 36 = nI (wk R s M (dN R s) (sk R s)).2.2 ∧ (∀ i, i < sk R s → τ 119 i = nI (nxt R s M (dN R s) i - 2)) ∧ (∀ j, j ≠ 36 → τ 101 j = σ 101 j) ∧ ∀ a, a ≠ 101 → a ≠ 119 → τ a = σ a) (sk R s) (by omega) (nI 0, nI 0, nI 0, up σ 101 36 (nI 0)) ⟨_, rfl, up_s .., fun j h => absurd h (Nat.not_lt_zero _), fun j h => up_j _ _ _ h, fun a h1 h2 => up_k _ _ _ h1⟩ (by
    rintro i z hi ⟨τ, rfl, e1, e2, e3, e4⟩
    left
    obtain ⟨a1, a2, a3, a4⟩ := wk_ok (d := dN R s) G hs hM i (by omega)
    obtain ⟨b1, b2, b3⟩ := nxt_r (d := dN R s) (i := i) G hM (by omega)
    have hR1 : τ 102 = rwN R := by rw [e4 102 (by decide) (by decide), hR]
    have hf := fc_100 G hs a2
    have hb : nxt R s M (dN R s) i - 2 < sk R s := by omega
    have hc35 : τ 101 35 = nI (sk R s) := by rw [e3 35 (by decide), h35]
    have nx := nextR_eq (σ := τ) (p := nI i) hR1 G hs hc35 (fun j hj => by rw [e4 117 (by decide) (by decide)]; exact h117 j hj) (fun o ho => ⟨by rw [e4 118 (by decide) (by decide)]; exact hM2 o ho, (hM o ho).1⟩) a1 hf
    have nx2 : lp (f_X11_nearest_l27 (nI s) (nI (wk R s M (dN R s) i).1) (nI (fc R s (wk R s M (dN R s) i).2.1)) (nI i) τ) FU (wI 1, nI 0) = some (nI (nxt R s M (dN R s) i - 2)) := by
      rw [nx]
      show some (wI (nxt R s M (dN R s) i)) = _
      rw [← wI_p (nxt R s M (dN R s) i - 2), Nat.sub_add_cancel b1]
    have hR2 : (up τ 119 i (nI (nxt R s M (dN R s) i - 2))) 102 = rwN R := by rw [up_k _ _ _ (by decide), hR1]
    have efc : lwf R (sP R s (nxt R s M (dN R s) i - 2)) = fc R s (nxt R s M (dN R s) i) := by unfold fc; rw [if_neg (by omega)]
    have h17 : (up τ 119 i (nI (nxt R s M (dN R s) i - 2))) 117 (nxt R s M (dN R s) i - 2) = nI (fc R s (nxt R s M (dN R s) i)) := by
      rw [up_k _ _ _ (by decide), e4 117 (by decide) (by decide), h117 _ hb, efc]
    have far := farR_eq hR2 G hs hf (fc_100 G hs (Or.inr ⟨b1, b2⟩))
    refine ⟨(nI (wk R s M (dN R s) (i + 1)).1, nI (fc R s (wk R s M (dN R s) (i + 1)).2.1), nI (i + 1), up (up τ 119 i (nI (nxt R s M (dN R s) i - 2))) 101 36 (nI (wk R s M (dN R s) (i + 1)).2.2)), ?_, _, rfl, up_s .., fun j hj => ?_, fun j h1 => ?_, fun a h1 h2 => ?_⟩
    · unfold f_X11_nearest_l12
      dsimp only
      have nn : ¬ τ 101 35 ≤ nI i := by rw [hc35]; exact nI_ge hi (by omega)
      rw [if_neg nn, show (-1 : Int32) = wI 1 from rfl, show (0 : Int32) = nI 0 from rfl, nx2, bind_s, chkin (by omega) (by omega), chkin (by omega) (by omega), nI_clamp (by omega), nI_clamp (by omega), h17, far, bind_s, chkin (by omega) (by omega), up_k _ _ _ (show (101 : Nat) ≠ 119 by decide), e1, nI_add, nI_1, show (31 : Int32) = nI 31 from rfl, show (1 : Int32) = nI 1 from rfl, shl1 (by omega), nI_or, up_k _ _ _ (show (117 : Nat) ≠ 101 by decide), h17]
      rfl
    · rw [up_k _ _ _ (by decide)]
      by_cases e : j = i
      · subst e; exact up_s ..
      · rw [up_j _ _ _ e]; exact e2 j (by omega)
    · rw [up_j _ _ _ h1, up_k _ _ _ (by decide), e3 j h1]
    · rw [up_k _ _ _ h1, up_k _ _ _ h2, e4 a h1 h2]) (by
    rintro z ⟨τ, rfl, e1, e2, e3, e4⟩
    refine ⟨τ, ?_, e1, e2, e3, e4⟩
    unfold f_X11_nearest_l12
    dsimp only
    exact if_pos (by rw [e3 35 (by decide), h35]; exact Int32.le_refl _))
  refine ⟨v, ?_, q2, q3, q4, q5⟩
  unfold f_X11_nearest f_X11_nearest_0
  rw [show (0 : Int32) = nI 0 from rfl, q1]
  rfl
/-- the class's choice in the way to the nearest -/
theorem nearC_ch {M : Nat → Nat} (G : Good R) (hs : s < R 0) (hM : InnM R s M) (A : Sps R s (R 2) (σ 93) (σ 94) (σ 95) (σ 92 6) (fun p => p) (fun p => lwf R p % sc R s) (fun p => lwf R p / sc R s)) (hM2 : ∀ o, o < sk R s → σ 96 o = nI (M o)) (i : Nat) (hi : i < sk R s) (τ : St) (h1 : ∀ j, j ≠ 7 → j ≠ 8 → τ 92 j = σ 92 j) (h2 : ∀ a, a ≠ 92 → a ≠ 97 → τ a = σ a) : ∃ τ1, f_X5_choose (nI (wk R s M (dN R s) i).1) (wI (wk R s M (dN R s) i).2.1) (nI 0) τ = some (nI (nxt R s M (dN R s) i - 2), τ1) ∧ (∀ j, j ≠ 8 → τ1 92 j = τ 92 j) ∧ ∀ a, a ≠ 92 → τ1 a = τ a := by
  have hk := sk_le (s := s) G
  have A1 : σ 92 6 = nI (sk R s) := A.1
  obtain ⟨a1, a2, a3, a4⟩ := wk_ok (d := dN R s) G hs hM i (by omega)
  have hf := fc_100 G hs a2
  obtain ⟨τ1, c1, c2, c3, c4⟩ := choose_eq (σ := τ) (M := M) (d := dN R s (wk R s M (dN R s) i).1 (wk R s M (dN R s) i).2.1) (D := (wk R s M (dN R s) i).1) (k := sk R s) (x2 := wI (wk R s M (dN R s) i).2.1) (x3 := nI 0) hk (by rw [h1 6 (by decide) (by decide), A1]) (fun o ho => ⟨by rw [h2 96 (by decide) (by decide)]; exact hM2 o ho, (hM o ho).1⟩) a1 (fun j hj _ => by
    have hlt := dw_lt (w := sc R s) hf (low_100 G hs hj)
    refine ⟨by show dw _ _ _ < _; omega, fun τ' c hτ' => ?_⟩
    have A' : Sps R s (R 2) (τ' 93) (τ' 94) (τ' 95) (σ 92 6) (fun p => p) (fun p => lwf R p % sc R s) (fun p => lwf R p / sc R s) := by
      rw [hτ' 93 (by decide), hτ' 94 (by decide), hτ' 95 (by decide), h2 93 (by decide) (by decide), h2 94 (by decide) (by decide), h2 95 (by decide) (by decide)]
      exact A
    have dist := distC_eq (σ := up τ' 92 6 (σ 92 6)) (by rw [up_k _ _ _ (by decide), up_k _ _ _ (by decide), up_k _ _ _ (by decide), up_s]; exact A') G hs (x := (wk R s M (dN R s) i).2.1) (j := j) a2 hj
    have same : f_X5_distance (wI (wk R s M (dN R s) i).2.1) (nI j) τ' = f_X5_distance (wI (wk R s M (dN R s) i).2.1) (nI j) (up τ' 92 6 (σ 92 6)) := by
      unfold f_X5_distance f_X5_distance_0 f_X5_distance_j17 f_X5_distance_j35 f_X10_at f_X10_at_0
      rw [up_k _ _ _ (show (94 : Nat) ≠ 92 by decide), up_k _ _ _ (show (95 : Nat) ≠ 92 by decide)]
    rw [same, dist, bind_s, if_pos (by rfl)]
    rfl)
  exact ⟨τ1, c1, c3, c4⟩
