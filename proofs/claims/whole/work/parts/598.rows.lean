/-! PURE FACTS, 18: rows that change, and stay good (a part taken) -/
variable {k : Nat} {R : Nat → Nat} {σ : St}
def tq (p q : Nat) : Nat := if q < p then q else q + 1
theorem shf_f {b p i : Nat} (h : ¬ (b + p ≤ i ∧ i < b + (R 2 - 1))) : shf R b p i = false := by
  unfold shf
  by_cases e : b + p ≤ i
  · rw [decide_eq_false (show ¬ i < b + (R 2 - 1) from fun h2 => h ⟨e, h2⟩), Bool.and_false]
  · rw [decide_eq_false e, Bool.false_and]
theorem shf_t {b p i : Nat} (h : b + p ≤ i ∧ i < b + (R 2 - 1)) : shf R b p i = true := by
  unfold shf
  rw [decide_eq_true h.1, decide_eq_true h.2]
  rfl
theorem rTake_n (G : Good R) {p : Nat} (hp : p < R 2) : rTake R p 2 = R 2 - 1 ∧ rTake R p (653 + R (661 + p)) = min 99 (R (653 + R (661 + p)) + 1) ∧ (∀ i, i < 661 → i ≠ 2 → i ≠ 653 + R (661 + p) → rTake R p i = R i) ∧ (∀ i, 761 ≤ i → rTake R p i = R i) ∧ ∀ q, q < R 2 - 1 → rTake R p (661 + q) = R (661 + tq p q) ∧ rTake R p (681 + q) = R (681 + tq p q) ∧ rTake R p (701 + q) = R (701 + tq p q) ∧ rTake R p (721 + q) = R (721 + tq p q) ∧ rTake R p (741 + q) = R (741 + tq p q) := by
  have g2 := G.2.2.1
  have hP := GP G hp
  have hb : ∀ i, i < 661 ∨ 761 ≤ i → i ≠ 2 → i ≠ 653 + R (661 + p) → rTake R p i = R i := fun i h h2 h3 => by
    unfold rTake
    rw [if_neg h2, if_neg h3, shf_f (by omega), shf_f (by omega), shf_f (by omega), shf_f (by omega), shf_f (by omega)]
    rfl
  refine ⟨by unfold rTake; rw [if_pos rfl], by unfold rTake; rw [if_neg (by omega), if_pos rfl], fun i h h2 h3 => hb i (Or.inl h) h2 h3, fun i h => hb i (Or.inr h) (by omega) (by omega), fun q hq => ?_⟩
  have hq2 : tq p q = q ∨ tq p q = q + 1 := by unfold tq; split <;> omega
  by_cases e : q < p
  · have e1 : tq p q = q := if_pos e
    rw [e1]
    refine ⟨?_, ?_, ?_, ?_, ?_⟩ <;> (unfold rTake; rw [if_neg (by omega), if_neg (by omega), shf_f (by omega), shf_f (by omega), shf_f (by omega), shf_f (by omega), shf_f (by omega)]; rfl)
  · have e1 : tq p q = q + 1 := if_neg e
    rw [e1]
    refine ⟨?_, ?_, ?_, ?_, ?_⟩
    · unfold rTake; rw [if_neg (by omega), if_neg (by omega), shf_t (b := 661) (by omega), shf_f (by omega), shf_f (by omega), shf_f (by omega), shf_f (by omega)]; rfl
    · unfold rTake; rw [if_neg (by omega), if_neg (by omega), shf_f (by omega), shf_t (b := 681) (by omega), shf_f (by omega), shf_f (by omega), shf_f (by omega)]; rfl
    · unfold rTake; rw [if_neg (by omega), if_neg (by omega), shf_f (by omega), shf_f (by omega), shf_t (b := 701) (by omega), shf_f (by omega), shf_f (by omega)]; rfl
    · unfold rTake; rw [if_neg (by omega), if_neg (by omega), shf_f (by omega), shf_f (by omega), shf_f (by omega), shf_t (b := 721) (by omega), shf_f (by omega)]; rfl
    · unfold rTake; rw [if_neg (by omega), if_neg (by omega), shf_f (by omega), shf_f (by omega), shf_f (by omega), shf_f (by omega), shf_t (b := 741) (by omega)]; rfl
theorem tq_lt {n p q : Nat} (hq : q < n - 1) : tq p q < n ∧ tq p q ≠ p := by
  unfold tq
  split <;> omega
theorem rTake_S (G : Good R) {p q : Nat} (hp : p < R 2) (hq : q < R 2 - 1) : SmP R (rTake R p) (tq p q) q := by
  obtain ⟨n1, n2, n3, n4, n5⟩ := rTake_n G hp
  have hP := GP G hp
  have hQ := tq_lt (p := p) hq
  have P := G.2.2.2.2.2.1 _ hQ.1
  have g0 := G.1
  have g1 := G.2.1
  obtain ⟨q1, q2, q3, q4, q5⟩ := n5 q hq
  have p1 := P.1
  have p2 := P.2.1
  exact ⟨q1, q2, q3, q4, q5, n3 _ (by omega) (by omega) (by omega), n3 _ (by omega) (by omega) (by omega), n3 _ (by omega) (by omega) (by omega), n3 _ (by omega) (by omega) (by omega)⟩
theorem rTake_G (G : Good R) {p : Nat} (hp : p < R 2) : Good (rTake R p) := by
  obtain ⟨n1, n2, n3, n4, n5⟩ := rTake_n G hp
  have hP := GP G hp
  have G' := G
  have hSm : ∀ q, q < R 2 - 1 → SmP R (rTake R p) (tq p q) q := fun q hq => rTake_S G hp hq
  obtain ⟨g0, g1, g2, g3, g4, g5, g6, g7⟩ := G
  have m0 := n3 0 (by omega) (by omega) (by omega)
  have m1 := n3 1 (by omega) (by omega) (by omega)
  refine ⟨by omega, by omega, by omega, fun s' hs' => ?_, fun h' hh' => ?_, fun q hq => ?_, fun q q' s' d hq hq' h1 h3 => ?_, fun i hi => ?_⟩
  · have := g3 s' (by omega)
    unfold GSh sc sr us at *
    rw [n3 _ (by omega) (by omega) (by omega), n3 _ (by omega) (by omega) (by omega), n3 _ (by omega) (by omega) (by omega)]
    exact ⟨this.1, this.2.1, this.2.2.1, this.2.2.2.1, this.2.2.2.2.1, fun d hd => by rw [n3 _ (by omega) (by omega) (by omega)]; exact this.2.2.2.2.2 d hd⟩
  · have := g4 h' (by omega)
    refine GHp_c this (n3 _ (by omega) (by omega) (by omega)) (n3 _ (by omega) (by omega) (by omega)) (n3 _ (by omega) (by omega) (by omega)) (n3 _ (by omega) (by omega) (by omega)) ?_
    by_cases e : h' = R (661 + p)
    · subst e
      rw [n2]
      omega
    · rw [n3 _ (by omega) (by omega) (by omega)]
      exact this.2.2.2
  · have hq' : q < R 2 - 1 := by omega
    have hQ := tq_lt (p := p) hq'
    have P := g5 _ hQ.1
    have p2 := P.2.1
    have e2 : sr (rTake R p) (R (681 + tq p q)) = sr R (R (681 + tq p q)) := n3 _ (by omega) (by omega) (by omega)
    refine GPt_c (hSm q hq') P (by omega) (by omega) e2 (fun k hk hb => ?_)
    have hc := (cl_xy G' hQ.1 hb).2.2.2.2.2.1
    unfold us
    rw [n3 _ (by omega) (by omega) (by omega)]
    exact P.2.2.2.2.2 k hk hb
  · have hq1 : q < R 2 - 1 := by omega
    have hq2 : q' < R 2 - 1 := by omega
    rw [(SmP_e (hSm q hq1)).2.2.2.2] at h1
    rw [(SmP_e (hSm q' hq2)).2.2.2.2] at h3
    have := g6 _ _ s' d (tq_lt (p := p) hq1).1 (tq_lt (p := p) hq2).1 h1 h3
    unfold tq at this
    split at this <;> split at this <;> omega
  · rw [n4 i (by omega)]
    exact g7 i hi
theorem rTake_ck (G : Good R) {p : Nat} (hp : p < R 2) (s d : Nat) : ck (rTake R p) s d = if ck R s d = p + 2 then 1 else if ck R s d > p + 2 then ck R s d - 1 else ck R s d := by
  obtain ⟨n1, n2, n3, n4, n5⟩ := rTake_n G hp
  have G2 := rTake_G G hp
  have h1 := ck_ge R s d
  have h2 := ck_ge (rTake R p) s d
  by_cases e : ck R s d = 1
  · rw [if_neg (by omega), if_neg (by omega), e]
    refine (ck_1 G2).mpr (fun q hq => ?_)
    rw [(SmP_e (rTake_S G hp (by omega))).2.2.2.2]
    exact (ck_1 G).mp e _ (tq_lt (n := R 2) (by omega)).1
  · obtain ⟨v, hv⟩ : ∃ v, ck R s d = v + 2 := ⟨ck R s d - 2, by omega⟩
    obtain ⟨h3, h4⟩ := (ck_i G).mp hv
    rw [hv]
    by_cases e2 : v = p
    · subst e2
      rw [if_pos rfl]
      refine (ck_1 G2).mpr (fun q hq => ?_)
      rw [(SmP_e (rTake_S G hp (by omega))).2.2.2.2]
      apply Bool.eq_false_iff.mpr
      intro h5
      have h6 := tq_lt (n := R 2) (p := v) (q := q) (by omega)
      exact h6.2 (G.2.2.2.2.2.2.1 _ _ s d h6.1 h3 h5 h4)
    · have e3 : ∃ q, q < R 2 - 1 ∧ tq p q = v ∧ (if v + 2 = p + 2 then 1 else if v + 2 > p + 2 then v + 2 - 1 else v + 2) = q + 2 := by
        by_cases e4 : v < p
        · exact ⟨v, by omega, if_pos e4, by rw [if_neg (by omega), if_neg (by omega)]⟩
        · refine ⟨v - 1, by omega, ?_, by rw [if_neg (by omega), if_pos (by omega)]; omega⟩
          unfold tq
          rw [if_neg (by omega)]
          omega
      obtain ⟨q, q1, q2, q3⟩ := e3
      rw [q3]
      refine (ck_i G2).mpr ⟨by omega, ?_⟩
      rw [(SmP_e (rTake_S G hp q1)).2.2.2.2, q2]
      exact h4
theorem rTake_on (G : Good R) {p : Nat} (hp : p < R 2) {s d : Nat} (hs : s < R 0) (hd : d < sc R s * sr R s) : on (rTake R p) s d = if on R s d = p + 2 then 1 else if on R s d > p + 2 then on R s d - 1 else on R s d := by
  obtain ⟨n1, n2, n3, n4, n5⟩ := rTake_n G hp
  have h0 := GS G hs
  have hu : us (rTake R p) s d = us R s d := n3 _ (by omega) (by omega) (by omega)
  have h1 := on_cases G hs hd
  have h3 : ck R s d = p + 2 → us R s d = 1 := fun h => (hit_cell G hp ((ck_i G).mp h).2).2.1
  have h4 : on (rTake R p) s d = if ck (rTake R p) s d = 1 then us (rTake R p) s d else ck (rTake R p) s d := rfl
  rw [h4, rTake_ck G hp, hu]
  by_cases e : ck R s d = p + 2
  · rw [if_pos e, if_pos rfl, if_pos (by omega), h3 e]
  · rw [if_neg e, if_neg (show ¬ on R s d = p + 2 by omega)]
    by_cases e2 : ck R s d > p + 2
    · rw [if_pos e2, if_pos (show on R s d > p + 2 by omega), if_neg (by omega)]
      omega
    · rw [if_neg e2, if_neg (show ¬ on R s d > p + 2 by omega)]
      by_cases e3 : ck R s d = 1
      · rw [if_pos e3]
        omega
      · rw [if_neg e3]
        omega
