/-! PURE FACTS, 81: the way, the class's table -/
variable {R : Nat → Nat} {σ τ : St} {s : Nat}
theorem bit_all {k j : Nat} : bit (2 ^ k - 1) j = 1 ↔ j < k := by
  rw [bit_1, Nat.testBit_two_pow_sub_one, decide_eq_true_iff]
theorem cn_all : cn R s (2 ^ sk R s - 1) = sk R s := cnt_t (fun j hj => decide_eq_true (bit_all.mpr hj))
theorem cn_lt {D : Nat} (hD : D < 2 ^ sk R s) (hne : D ≠ 2 ^ sk R s - 1) : cn R s D < sk R s := by
  rcases Nat.lt_or_ge (cn R s D) (sk R s) with h | h
  · exact h
  · exfalso
    refine hne (bit_eq (fun j => ?_))
    rw [bit_all]
    refine ⟨fun hj => bit_hi hD hj, fun hj => ?_⟩
    apply Classical.byContradiction
    intro hn
    have := cnt_lt (P := fun j => decide (bit D j = 1)) (Q := fun _ => true) (n := sk R s) (k := j) (fun _ _ _ => rfl) hj rfl (fun q => hn (of_decide_eq_true q))
    rw [cnt_t (P := fun _ => true) (fun _ _ => rfl)] at this
    unfold cn at h
    omega
theorem or_gt {D j : Nat} (h : ¬ bit D j = 1) : D < D ||| 2 ^ j := by
  have h1 : D ≤ D ||| 2 ^ j := Nat.left_le_or
  rcases Nat.lt_or_ge D (D ||| 2 ^ j) with q | q
  · exact q
  · exfalso
    apply h
    have e : D = D ||| 2 ^ j := by omega
    rw [e]
    exact (bit_or _ _ _).mpr (Or.inr ((bit_pow _ _).mpr rfl))
theorem nI_dec {D : Nat} (h : 0 < D) : nI D + (-1) = nI (D - 1) := by
  rw [show (-1 : Int32) = -nI 1 from rfl, ← Int32.sub_eq_add_neg, nI_subx (b := 1) h]
/-- the table from D0 on -/
def TabC (R : Nat → Nat) (s : Nat) (M : Nat → Nat) (D0 : Nat) (f : Nat → Int32) : Prop := ∀ D, D0 ≤ D → D < 2 ^ sk R s → ∀ j, j < sk R s → bit D j = 1 → f (D * 9 + j) = nI (rst R s M D (j + 2))
theorem restsIn_eq {M : Nat → Nat} {D : Nat} (G : Good R) (hs : s < R 0) (hM : InnM R s M) (hk9 : sk R s ≤ 9) (A : Sps R s (R 2) (σ 93) (σ 94) (σ 95) (σ 92 6) (fun p => p) (fun p => lwf R p % sc R s) (fun p => lwf R p / sc R s)) (hM2 : ∀ o, o < sk R s → σ 96 o = nI (M o)) (hD : D < 2 ^ sk R s) (hT : TabC R s M (D + 1) (σ 98)) : ∃ τ, lp (f_X5_findRests_l17 (nI (2 ^ sk R s - 1)) (nI D)) FU (nI 0, σ) = some τ ∧ TabC R s M D (τ 98) ∧ (∀ j, j ≠ 8 → τ 92 j = σ 92 j) ∧ ∀ a, a ≠ 92 → a ≠ 98 → τ a = σ a := by
  have hk := sk_le (s := s) G
  have A1 : σ 92 6 = nI (sk R s) := A.1
  have h9 : 2 ^ sk R s ≤ 2 ^ 9 := Nat.pow_le_pow_right (by decide) hk9
  obtain ⟨v, q1, q2, q3, q4, q5⟩ := lp_fu (f := f_X5_findRests_l17 (nI (2 ^ sk R s - 1)) (nI D)) (fun i z => ∃ τ, z = (nI i, τ) ∧ TabC R s M (D + 1) (τ 98) ∧ (∀ j, j < i → bit D j = 1 → τ 98 (D * 9 + j) = nI (rst R s M D (j + 2))) ∧ (∀ j, j ≠ 8 → τ 92 j = σ 92 j) ∧ ∀ a, a ≠ 92 → a ≠ 98 → τ a = σ a) (fun τ => TabC R s M (D + 1) (τ 98) ∧ (∀ j, j < sk R s → bit D j = 1 → τ 98 (D * 9 + j) = nI (rst R s M D (j + 2))) ∧ (∀ j, j ≠ 8 → τ 92 j = σ 92 j) ∧ ∀ a, a ≠ 92 → a ≠ 98 → τ a = σ a) (sk R s) (by omega) (nI 0, σ) ⟨σ, rfl, hT, fun j h => absurd h (Nat.not_lt_zero _), fun _ _ => rfl, fun _ _ _ => rfl⟩ (by
    rintro i z hi ⟨τ, rfl, e1, e2, e3, e4⟩
    left
    have nn : ¬ τ 92 6 ≤ nI i := by rw [e3 6 (by decide), A1]; exact nI_ge hi (by omega)
    have ecnd : ((nI D >>> (nI i &&& 31)) &&& 1) = nI (bit D i) := by rw [show (31 : Int32) = nI 31 from rfl, shrx (by omega) (by omega), show (1 : Int32) = nI 1 from rfl, and1]; rfl
    by_cases b : bit D i = 1
    · obtain ⟨τ1, c1, c2, c3, c4⟩ := shortC_ch (τ := τ) (D := D) (x := i + 2) G hs hM hk9 (by rw [e4 93 (by decide) (by decide), e4 94 (by decide) (by decide), e4 95 (by decide) (by decide), e3 6 (by decide)]; exact A) (fun o ho => by rw [e4 96 (by decide) (by decide)]; exact hM2 o ho) hD (Or.inr ⟨by omega, by omega⟩) (fun j hj hb => e1 _ (or_gt hb) (Nat.or_lt_two_pow hD (Nat.pow_lt_pow_right (by decide) hj)) j hj ((bit_or _ _ _).mpr (Or.inr ((bit_pow _ _).mpr rfl))))
      rw [wI_p] at c1
      have hput : ∀ v, f_X10_put 98 (nI (D * 9 + i)) v τ1 = _ := fun v => put_h (t := 98) (j := D * 9 + i) (τ := τ1) (v := v) (by rw [ln98]; omega) (by rw [ln98]; decide)
      have step : f_X5_findRests_l17 (nI (2 ^ sk R s - 1)) (nI D) (nI i, τ) = some (.inl (nI (i + 1), up τ1 98 (D * 9 + i) (nI (rst R s M D (i + 2))))) := by
        unfold f_X5_findRests_l17 f_X5_findRests_j65 f_X5_findRests_j68
        dsimp only
        rw [if_neg nn, if_pos (by rw [ecnd, b]; rfl), show (1 : Int32) = nI 1 from rfl, c1, bind_s, show (9 : Int32) = nI 9 from rfl, pk_mul, nI_add]
        by_cases q : D = 2 ^ sk R s - 1
        · rw [if_pos (by rw [q]), hput, bind_s, rst_all (by rw [q]; exact cn_all), nI_add]; rfl
        · rw [if_neg (by rw [nI_eqI (by omega) (by omega)]; exact q), hput, bind_s]
          dsimp only
          rw [c2 (cn_lt hD q), nI_add]
      refine ⟨_, step, _, rfl, fun D' h1 h2 j hj hb => ?_, fun j hj hb => ?_, fun j hj => ?_, fun a h1 h2 => ?_⟩
      · rw [up_j _ _ _ (by omega), c4 98 (by decide)]; exact e1 D' h1 h2 j hj hb
      · by_cases q : j = i
        · subst q; exact up_s ..
        · rw [up_j _ _ _ (by omega), c4 98 (by decide)]; exact e2 j (by omega) hb
      · rw [up_k _ _ _ (by decide), c3 j hj, e3 j hj]
      · rw [up_k _ _ _ h2, c4 a h1, e4 a h1 h2]
    · refine ⟨(nI (i + 1), τ), ?_, τ, rfl, e1, fun j hj hb => ?_, e3, e4⟩
      · unfold f_X5_findRests_l17 f_X5_findRests_j68
        dsimp only
        rw [if_neg nn, if_neg (by rw [ecnd, show (1 : Int32) = nI 1 from rfl, bit_e1]; exact b), nI_1]
      · by_cases q : j = i
        · subst q; exact absurd hb b
        · exact e2 j (by omega) hb) (by
    rintro z ⟨τ, rfl, e1, e2, e3, e4⟩
    refine ⟨τ, ?_, e1, e2, e3, e4⟩
    unfold f_X5_findRests_l17
    dsimp only
    exact if_pos (by rw [e3 6 (by decide), A1]; exact Int32.le_refl _))
  refine ⟨v, q1, fun D' h1 h2 j hj hb => ?_, q4, q5⟩
  by_cases q : D' = D
  · subst q; exact q3 j hj hb
  · exact q2 D' (by omega) h2 j hj hb
