/-! PURE FACTS, 77: the way, the walk -/
variable {R : Nat → Nat} {σ τ : St} {s : Nat}
/-- behind i stops: which are done, where it stands, how long it was -/
def wk (R : Nat → Nat) (s : Nat) (M : Nat → Nat) (d : Nat → Nat → Nat → Nat) : Nat → Nat × Nat × Nat
  | 0 => (0, 1, 0)
  | i + 1 => ((wk R s M d i).1 ||| 2 ^ (bsf (alw M (wk R s M d i).1) (d (wk R s M d i).1 (wk R s M d i).2.1) (sk R s) - 2), bsf (alw M (wk R s M d i).1) (d (wk R s M d i).1 (wk R s M d i).2.1) (sk R s), (wk R s M d i).2.2 + dw (sc R s) (fc R s (wk R s M d i).2.1) (fc R s (bsf (alw M (wk R s M d i).1) (d (wk R s M d i).1 (wk R s M d i).2.1) (sk R s))))
def nxt (R : Nat → Nat) (s : Nat) (M : Nat → Nat) (d : Nat → Nat → Nat → Nat) (i : Nat) : Nat := bsf (alw M (wk R s M d i).1) (d (wk R s M d i).1 (wk R s M d i).2.1) (sk R s)
def InnM (R : Nat → Nat) (s : Nat) (M : Nat → Nat) : Prop := ∀ o, o < sk R s → M o < 2 ^ sk R s ∧ ∀ j, bit (M o) j = 1 ↔ j < sk R s ∧ Wi R (sP R s j) (sP R s o) (lwf R (sP R s j))
theorem alw_n {M : Nat → Nat} {D j : Nat} (h : alw M D j = true) : ¬ bit D j = 1 := by
  unfold alw at h
  rw [Bool.and_eq_true] at h
  exact of_decide_eq_true h.1
theorem nxt_r {M : Nat → Nat} {d : Nat → Nat → Nat → Nat} {i : Nat} (G : Good R) (hM : InnM R s M) (hl : cnt (fun j => decide (bit (wk R s M d i).1 j = 1)) (sk R s) < sk R s) : 2 ≤ nxt R s M d i ∧ nxt R s M d i < sk R s + 2 ∧ ¬ bit (wk R s M d i).1 (nxt R s M d i - 2) = 1 := by
  have ex : ∃ j, j < sk R s ∧ ¬ bit (wk R s M d i).1 j = 1 := by
    apply Classical.byContradiction
    intro hn
    have := cnt_t (P := fun j => decide (bit (wk R s M d i).1 j = 1)) (n := sk R s) (fun j hj => decide_eq_true (Classical.byContradiction (fun h => hn ⟨j, hj, h⟩)))
    omega
  obtain ⟨j, h1, h2⟩ := next_ex G hM ex
  have h3 := bsf_1 (d := d (wk R s M d i).1 (wk R s M d i).2.1) h1 h2
  rcases bsf_r (alw M (wk R s M d i).1) (d (wk R s M d i).1 (wk R s M d i).2.1) (sk R s) with h | ⟨a, b, c⟩
  · exact absurd h h3
  · exact ⟨a, b, alw_n c⟩
theorem cnt_or {D b k : Nat} (hb : b < k) (h : ¬ bit D b = 1) : cnt (fun j => decide (bit (D ||| 2 ^ b) j = 1)) k = cnt (fun j => decide (bit D j = 1)) k + 1 := by
  have e1 : cnt (fun j => decide (j = b)) k = 1 := by
    rw [cnt_su, su_1 hb (fun i _ hne => by rw [decide_eq_false hne]; rfl), decide_eq_true rfl]; rfl
  rw [cnt_p (Q := fun j => decide (bit D j = 1)) (T := fun j => decide (j = b)) (fun i _ => ?_), e1]
  by_cases e : i = b
  · subst e
    rw [decide_eq_true (show bit (D ||| 2 ^ i) i = 1 from (bit_or _ _ _).mpr (Or.inr ((bit_pow _ _).mpr rfl))), decide_eq_false h, decide_eq_true rfl]; rfl
  · have : (bit (D ||| 2 ^ b) i = 1) ↔ (bit D i = 1) := by
      rw [bit_or, bit_pow]
      exact ⟨fun h => h.resolve_right (fun q => e q.symm), Or.inl⟩
    rw [decide_eq_false e]
    by_cases q : bit D i = 1
    · rw [decide_eq_true q, decide_eq_true (this.mpr q)]; rfl
    · rw [decide_eq_false q, decide_eq_false (fun h => q (this.mp h))]; rfl
theorem fc_100 (G : Good R) (hs : s < R 0) {x : Nat} (hx : x = 1 ∨ 2 ≤ x ∧ x < sk R s + 2) : fc R s x < 100 := by
  unfold fc
  split
  · decide
  · exact low_100 G hs (by omega)
theorem wk_ok {M : Nat → Nat} {d : Nat → Nat → Nat → Nat} (G : Good R) (hs : s < R 0) (hM : InnM R s M) (i : Nat) (hi : i ≤ sk R s) : (wk R s M d i).1 < 2 ^ sk R s ∧ ((wk R s M d i).2.1 = 1 ∨ 2 ≤ (wk R s M d i).2.1 ∧ (wk R s M d i).2.1 < sk R s + 2) ∧ cnt (fun j => decide (bit (wk R s M d i).1 j = 1)) (sk R s) = i ∧ (wk R s M d i).2.2 ≤ 400 * i := by
  induction i with
  | zero =>
    refine ⟨Nat.two_pow_pos _, Or.inl rfl, ?_, Nat.le_refl _⟩
    have : ∀ n, cnt (fun j => decide (bit (wk R s M d 0).1 j = 1)) n = 0 := by
      intro n
      rw [cnt_su]
      exact su_0 (fun j _ => by
        rw [decide_eq_false (show ¬ bit (wk R s M d 0).1 j = 1 from fun h => (by
          have h2 : bit 0 j = 1 := h
          rw [bit_z] at h2; cases h2))]; rfl)
    exact this _
  | succ i ih =>
    obtain ⟨a1, a2, a3, a4⟩ := ih (by omega)
    obtain ⟨b1, b2, b3⟩ := nxt_r (d := d) (i := i) G hM (by omega)
    have w := dw_lt (w := sc R s) (fc_100 G hs a2) (fc_100 G hs (Or.inr ⟨b1, b2⟩))
    refine ⟨?_, Or.inr ⟨b1, b2⟩, ?_, ?_⟩
    · exact Nat.or_lt_two_pow a1 (Nat.pow_lt_pow_right (by decide) (show nxt R s M d i - 2 < sk R s by omega))
    · have := cnt_or (D := (wk R s M d i).1) (b := nxt R s M d i - 2) (k := sk R s) (by omega) b3
      rw [a3] at this
      exact this
    · show (wk R s M d i).2.2 + dw (sc R s) (fc R s (wk R s M d i).2.1) (fc R s (nxt R s M d i)) ≤ _
      omega
/-- the class's walk -/
theorem planC_eq {M : Nat → Nat} {d : Nat → Nat → Nat → Nat} {x4 : Int32} (G : Good R) (hs : s < R 0) (hM : InnM R s M) (A : Sps R s (R 2) (σ 93) (σ 94) (σ 95) (σ 92 6) (fun p => p) (fun p => lwf R p % sc R s) (fun p => lwf R p / sc R s)) (hch : ∀ i, i < sk R s → ∀ τ : St, (∀ j, j ≠ 7 → j ≠ 8 → τ 92 j = σ 92 j) → (∀ a, a ≠ 92 → a ≠ 97 → τ a = σ a) → ∃ τ1, f_X5_choose (nI (wk R s M d i).1) (wI (wk R s M d i).2.1) x4 τ = some (nI (nxt R s M d i - 2), τ1) ∧ (∀ j, j ≠ 8 → τ1 92 j = τ 92 j) ∧ ∀ a, a ≠ 92 → τ1 a = τ a) : ∃ τ, f_X5_plan_j22 1 x4 σ = some τ ∧ τ 92 7 = nI (wk R s M d (sk R s)).2.2 ∧ (∀ i, i < sk R s → τ 97 i = nI (nxt R s M d i - 2)) ∧ ∀ a, a ≠ 92 → a ≠ 97 → τ a = σ a := by
  have hk := sk_le (s := s) G
  have A1 : σ 92 6 = nI (sk R s) := A.1
  obtain ⟨L1, L2, L3, L4, L5⟩ := ln9x
  obtain ⟨v, q1, q2, q3, q4⟩ := lp_fu (f := f_X5_plan_l36 1 x4) (fun i z => ∃ τ, z = (nI (wk R s M d i).1, wI (wk R s M d i).2.1, nI i, τ) ∧ τ 92 7 = nI (wk R s M d i).2.2 ∧ (∀ j, j < i → τ 97 j = nI (nxt R s M d j - 2)) ∧ (∀ j, j ≠ 7 → j ≠ 8 → τ 92 j = σ 92 j) ∧ ∀ a, a ≠ 92 → a ≠ 97 → τ a = σ a) (fun τ => τ 92 7 = nI (wk R s M d (sk R s)).2.2 ∧ (∀ i, i < sk R s → τ 97 i = nI (nxt R s M d i - 2)) ∧ ∀ a, a ≠ 92 → a ≠ 97 → τ a = σ a) (sk R s) (by omega) (nI 0, wI 1, nI 0, up σ 92 7 (nI 0)) ⟨_, rfl, up_s .., fun j h => absurd h (Nat.not_lt_zero _), fun j h1 h2 => up_j _ _ _ h1, fun a h1 h2 => up_k _ _ _ h1⟩ (by
    rintro i z hi ⟨τ, rfl, e1, e2, e3, e4⟩
    left
    obtain ⟨a1, a2, a3, a4⟩ := wk_ok (d := d) G hs hM i (by omega)
    obtain ⟨b1, b2, b3⟩ := nxt_r (d := d) (i := i) G hM (by omega)
    obtain ⟨τ1, c1, c2, c3⟩ := hch i hi τ e3 e4
    have p1 := put_h (t := 97) (j := i) (τ := τ1) (v := nI (nxt R s M d i - 2)) (by omega) (by omega)
    have off : ∀ a, a ≠ 92 → a ≠ 97 → (up τ1 97 i (nI (nxt R s M d i - 2))) a = σ a := fun a h1 h2 => by rw [up_k _ _ _ h2, c3 a h1, e4 a h1 h2]
    have h92 : (up τ1 97 i (nI (nxt R s M d i - 2))) 92 = τ1 92 := up_k _ _ _ (by decide)
    have A' : Sps R s (R 2) ((up τ1 97 i (nI (nxt R s M d i - 2))) 93) ((up τ1 97 i (nI (nxt R s M d i - 2))) 94) ((up τ1 97 i (nI (nxt R s M d i - 2))) 95) ((up τ1 97 i (nI (nxt R s M d i - 2))) 92 6) (fun p => p) (fun p => lwf R p % sc R s) (fun p => lwf R p / sc R s) := by
      rw [off 93 (by decide) (by decide), off 94 (by decide) (by decide), off 95 (by decide) (by decide), h92, c2 6 (by decide), e3 6 (by decide) (by decide)]
      exact A
    have dist := distC_eq A' G hs (x := (wk R s M d i).2.1) (j := nxt R s M d i - 2) a2 (by omega)
    have efc : lwf R (sP R s (nxt R s M d i - 2)) = fc R s (nxt R s M d i) := by unfold fc; rw [if_neg (by omega)]
    rw [efc] at dist
    refine ⟨(nI (wk R s M d (i + 1)).1, wI (wk R s M d (i + 1)).2.1, nI (i + 1), up (up τ1 97 i (nI (nxt R s M d i - 2))) 92 7 (nI (wk R s M d (i + 1)).2.2)), ?_, _, rfl, up_s .., fun j hj => ?_, fun j h1 h2 => ?_, fun a h1 h2 => ?_⟩
    · unfold f_X5_plan_l36
      dsimp only
      have nn : ¬ τ 92 6 ≤ nI i := by rw [e3 6 (by decide) (by decide), A1]; exact nI_ge hi (by omega)
      rw [if_neg nn, c1, bind_s, p1, bind_s, dist, bind_s, h92, c2 7 (by decide), e1, nI_add, nI_1, show (31 : Int32) = nI 31 from rfl, show (1 : Int32) = nI 1 from rfl, shl1 (by omega), nI_or]
      have ew : wI (wk R s M d (i + 1)).2.1 = nI (nxt R s M d i - 2) := by
        show wI (nxt R s M d i) = _
        rw [← wI_p, Nat.sub_add_cancel b1]
      rw [ew]
      rfl
    · rw [up_k _ _ _ (by decide)]
      by_cases e : j = i
      · subst e; exact up_s ..
      · rw [up_j _ _ _ e, c3 97 (by decide)]; exact e2 j (by omega)
    · rw [up_j _ _ _ h1, h92, c2 j h2, e3 j h1 h2]
    · rw [up_k _ _ _ h1, off a h1 h2]) (by
    rintro z ⟨τ, rfl, e1, e2, e3, e4⟩
    refine ⟨τ, ?_, e1, e2, e4⟩
    unfold f_X5_plan_l36
    dsimp only
    exact if_pos (by rw [e3 6 (by decide) (by decide), A1]; exact Int32.le_refl _))
  refine ⟨v, ?_, q2, q3, q4⟩
  unfold f_X5_plan_j22
  rw [show (0 : Int32) = nI 0 from rfl, show (-1 : Int32) = wI 1 from rfl, q1]
  rfl
