/-! PURE FACTS, 76: the way, the reference's next stop -/
variable {R : Nat → Nat} {σ τ : St} {s : Nat}
/-- how far the stops lie from a cell -/
def dst (R : Nat → Nat) (s c j : Nat) : Nat := dw (sc R s) c (lwf R (sP R s j))
theorem low_100 (G : Good R) (hs : s < R 0) {j : Nat} (hj : j < sk R s) : lwf R (sP R s j) < 100 := by
  obtain ⟨j1, j2⟩ := sP_on hj
  have h1 := (lwf_low G j1).2
  have h2 := (GS G hs).2.2.2.2.2.2.1
  rw [j2] at h1
  omega
theorem dw_lt {w a b : Nat} (ha : a < 100) (hb : b < 100) : dw w a b < 400 := by
  unfold dw ad
  have := Nat.mod_le a w
  have := Nat.mod_le b w
  have := Nat.div_le_self a w
  have := Nat.div_le_self b w
  generalize a % w = x1 at *
  generalize b % w = x2 at *
  generalize a / w = x3 at *
  generalize b / w = x4 at *
  omega
theorem nextR_eq {M : Nat → Nat} {D c : Nat} {p : Int32} (hR : σ 102 = rwN R) (G : Good R) (hs : s < R 0) (h35 : σ 101 35 = nI (sk R s)) (h117 : ∀ j, j < sk R s → σ 117 j = nI (lwf R (sP R s j))) (hM : ∀ o, o < sk R s → σ 118 o = nI (M o) ∧ M o < 2 ^ sk R s) (hD : D < 2 ^ sk R s) (hc : c < 100) : lp (f_X11_nearest_l27 (nI s) (nI D) (nI c) p σ) FU (wI 1, nI 0) = some (wI (bsf (alw M D) (dst R s c) (sk R s))) := by
  have hk := sk_le (s := s) G
  have h20 : 2 ^ sk R s ≤ 2 ^ 20 := Nat.pow_le_pow_right (by decide) hk
  obtain ⟨v, q1, q2⟩ := lp_fu (f := f_X11_nearest_l27 (nI s) (nI D) (nI c) p σ) (fun j z => z = (wI (bsf (alw M D) (dst R s c) j), nI j)) (fun v => v = wI (bsf (alw M D) (dst R s c) (sk R s))) (sk R s) (by omega) (wI 1, nI 0) rfl (by
    rintro j z hj rfl
    left
    have hMj := hM j hj
    have hl := nand_lt (a := M j) (b := D) (by omega)
    have hb := bsf_r (alw M D) (dst R s c) j
    have nn : ¬ σ 101 35 ≤ nI j := by rw [h35]; exact nI_ge hj (by omega)
    have no : ¬ alw M D j = true → (some (.inl (wI (bsf (alw M D) (dst R s c) j), nI j + 1)) : Option ((Int32 × Int32) ⊕ Int32)) = some (.inl (wI (bsf (alw M D) (dst R s c) (j + 1)), nI (j + 1))) := fun a => by
      rw [show bsf (alw M D) (dst R s c) (j + 1) = bsf (alw M D) (dst R s c) j by rw [bsf, if_neg a], nI_1]
    refine ⟨(wI (bsf (alw M D) (dst R s c) (j + 1)), nI (j + 1)), ?_, rfl⟩
    unfold f_X11_nearest_l27 f_X11_nearest_j63 f_X11_nearest_j64 f_X11_nearest_j111 f_X11_nearest_j106 f_X11_nearest_j113
    dsimp only
    rw [if_neg nn, has_eq (by omega) (by omega), bind_s, show (0 : Int32) = nI 0 from rfl, bit_if]
    by_cases e : bit D j = 1
    · rw [if_pos e, if_pos (by rfl)]
      exact no (by unfold alw; rw [decide_eq_false (fun h => h e), Bool.false_and]; decide)
    · rw [if_neg e, chkin (by omega) (by omega), nI_clamp (by omega), hMj.1, nI_nand]
      by_cases e2 : M j ^^^ (M j &&& D) = 0
      · have a : alw M D j = true := by unfold alw; rw [decide_eq_true e, decide_eq_true e2]; rfl
        rw [if_pos (by rw [e2]), if_neg (by decide)]
        have hsn : bsf (alw M D) (dst R s c) (j + 1) = if bsf (alw M D) (dst R s c) j = 1 ∨ dst R s c j < dst R s c (bsf (alw M D) (dst R s c) j - 2) then j + 2 else bsf (alw M D) (dst R s c) j := by
          rw [bsf, if_pos a]
        rw [hsn]
        rcases hb with h | ⟨h1, h2, h3⟩
        · rw [h, if_pos (by rfl), if_pos (Or.inl rfl), wI_p, nI_1]
        · obtain ⟨b, hb⟩ : ∃ b, bsf (alw M D) (dst R s c) j = b + 2 := ⟨_, (Nat.sub_add_cancel h1).symm⟩
          rw [hb] at h2 ⊢
          have hbk : b < sk R s := by omega
          have l1 := low_100 G hs hj
          have l2 := low_100 G hs hbk
          have w1 := dw_lt (w := sc R s) hc l1
          have w2 := dw_lt (w := sc R s) hc l2
          rw [Nat.add_sub_cancel, if_neg (show ¬ wI (b + 2) = -1 by rw [wI_m1 (by omega)]; omega), wI_p, chkin (by omega) (by omega), nI_clamp (by omega), h117 j hj, farR_eq hR G hs hc l1, bind_s, chkin (by omega) (by omega), h117 b hbk, farR_eq hR G hs hc l2, bind_s]
          show (if nI (dst R s c b) ≤ nI (dst R s c j) then _ else _) = _
          have w1' : dst R s c j < 400 := w1
          have w2' : dst R s c b < 400 := w2
          by_cases q : dst R s c j < dst R s c b
          · rw [if_neg (by rw [nI_leI (by omega) (by omega)]; omega), if_pos (Or.inr q), wI_p, nI_1]
          · rw [if_pos (by rw [nI_leI (by omega) (by omega)]; omega), if_neg (by omega), wI_p, nI_1]
      · rw [if_neg (by rw [nI_eqI hl (by decide)]; exact e2), if_pos (by rfl)]
        exact no (by unfold alw; rw [decide_eq_false e2, Bool.and_false]; decide)) (by
    rintro z rfl
    refine ⟨_, ?_, rfl⟩
    unfold f_X11_nearest_l27
    dsimp only
    exact if_pos (by rw [h35]; exact Int32.le_refl _))
  rw [q1, q2]
/-- while a stop is left, one may follow -/
theorem next_ex {M : Nat → Nat} {D : Nat} (G : Good R) (hM : ∀ o, o < sk R s → M o < 2 ^ sk R s ∧ ∀ j, bit (M o) j = 1 ↔ j < sk R s ∧ Wi R (sP R s j) (sP R s o) (lwf R (sP R s j))) (hl : ∃ j, j < sk R s ∧ ¬ bit D j = 1) : ∃ j, j < sk R s ∧ alw M D j = true := by
  have key : ∀ n j, 100 - lwf R (sP R s j) ≤ n → j < sk R s → ¬ bit D j = 1 → ∃ j, j < sk R s ∧ alw M D j = true := by
    intro n
    induction n with
    | zero =>
      intro j h1 h2 h3
      obtain ⟨a1, a2⟩ := sP_on h2
      have h4 := (lwf_low G a1).2
      have h5 := (GS G (G.2.2.2.2.2.1 _ a1).2.1).2.2.2.2.2.2.1
      omega
    | succ n ih =>
      intro j h1 h2 h3
      by_cases e : M j ^^^ (M j &&& D) = 0
      · exact ⟨j, h2, by unfold alw; rw [decide_eq_true h3, decide_eq_true e]; rfl⟩
      · have : ∃ q, bit (M j) q = 1 ∧ ¬ bit D q = 1 := by
          apply Classical.byContradiction
          intro hn
          apply e
          refine bit_eq (fun q => ?_)
          rw [bit_nand, bit_z]
          exact ⟨fun h => absurd ⟨q, h⟩ hn, fun h => (by cases h)⟩
        obtain ⟨q, q1, q2⟩ := this
        obtain ⟨q3, q4⟩ := ((hM j h2).2 q).mp q1
        obtain ⟨a1, a2⟩ := sP_on h2
        obtain ⟨b1, b2⟩ := sP_on q3
        have hlow := Wi_low G b1 a1 q4
        have h4 := (lwf_low G b1).2
        have h5 := (GS G (G.2.2.2.2.2.1 _ b1).2.1).2.2.2.2.2.2.1
        exact ih q (by omega) q3 q2
  obtain ⟨j, h1, h2⟩ := hl
  exact key _ j (Nat.le_refl _) h1 h2
