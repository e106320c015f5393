/-! PURE FACTS, 102: texts, all items, the class's -/
variable {len p c k m n C q : Nat} {f : Nat → Nat} {b e o : Bool} {σ τ υ : St} {R : Nat → Nat}
theorem itm_ch (h : (itm f p).1 = true) : f p = 115 ∨ f p = 112 ∨ f p = 100 := by
  unfold itm at h
  by_cases q1 : f p = 115
  · exact Or.inl q1
  · rw [if_neg q1] at h
    by_cases q2 : f p = 112
    · exact Or.inr (Or.inl q2)
    · rw [if_neg q2] at h
      by_cases q3 : f p = 100
      · exact Or.inr (Or.inr q3)
      · rw [if_neg q3] at h
        exact absurd (show false = true from h) (by decide)
/-- the items of a text that is one -/
theorem items_ok (X : TX f len) (ht : tok f len = true) (hq : q ≤ lq f) : (itm f (qS f q)).1 = true ∧ qS f q < len ∧ (itm f (qS f q)).2 ≤ len ∧ (q < lq f → f (itm f (qS f q)).2 = 59 ∧ qS f (q + 1) = (itm f (qS f q)).2 + 1) ∧ (q = lq f → f (itm f (qS f q)).2 ≠ 59 ∧ (itm f (qS f q)).2 = len) := by
  obtain ⟨r1, r2⟩ := lq_ok X
  unfold tok at ht
  rw [Bool.and_eq_true, decide_eq_true_iff] at ht
  obtain ⟨t1, t2⟩ := ht
  have h1 : (itm f (qS f q)).1 = true := by
    by_cases e : q = lq f
    · rw [e]; exact t1
    · exact (cnI_i.mp (r1 q (by omega))).1
  have hch := itm_ch h1
  have hp := TX_in X (p := qS f q) (by omega)
  have hE : (itm f (qS f q)).2 ≤ len := by
    by_cases e : q = lq f
    · rw [e]
      have : (itm f (qS f (lq f))).2 = len := t2
      omega
    · have h59 := (cnI_i.mp (r1 q (by omega))).2
      have := TX_in X (p := (itm f (qS f q)).2) (by omega)
      omega
  refine ⟨h1, hp, hE, fun h => ⟨(cnI_i.mp (r1 q h)).2, rfl⟩, fun h => ?_⟩
  subst h
  exact ⟨fun g => r2 (cnI_i.mpr ⟨t1, g⟩), t2⟩
/-- the row behind the first items -/
def rsR (f : Nat → Nat) (R : Nat → Nat) : Nat → Nat → Nat
  | 0 => R
  | q + 1 => (doI f (qS f q) (rsR f R q)).elim (fun _ => rsR f R q) (fun R' => R')
def bad (f : Nat → Nat) (R : Nat → Nat) (q : Nat) : Bool := (doI f (qS f q) (rsR f R q)).elim (fun _ => true) (fun _ => false)
theorem rsR_s {R' : Nat → Nat} (h : doI f (qS f q) (rsR f R q) = .inr R') : rsR f R (q + 1) = R' ∧ bad f R q = false := by
  unfold bad
  rw [rsR, h]
  exact ⟨rfl, rfl⟩
theorem rsR_b {z : Nat × Nat} (h : doI f (qS f q) (rsR f R q) = .inl z) : bad f R q = true := by
  unfold bad
  rw [h]
  rfl
theorem least_ex (P : Nat → Bool) (n : Nat) : (∃ q, q < n ∧ P q = true ∧ ∀ j, j < q → P j = false) ∨ ∀ j, j < n → P j = false := by
  induction n with
  | zero => exact Or.inr (fun j h => absurd h (Nat.not_lt_zero _))
  | succ n ih =>
    rcases ih with ⟨q, h1, h2⟩ | h
    · exact Or.inl ⟨q, by omega, h2⟩
    · cases e : P n
      · refine Or.inr (fun j hj => ?_)
        by_cases g : j = n
        · rw [g]; exact e
        · exact h j (by omega)
      · exact Or.inl ⟨n, by omega, e, h⟩
theorem DC_c (h : ∀ j, j ≠ 2 → j ≠ 5 → τ 99 j = σ 99 j) (D : DC f p σ) : DC f p τ := by
  unfold DC at *
  rw [h 4 (by decide) (by decide), h 6 (by decide) (by decide), h 7 (by decide) (by decide), h 8 (by decide) (by decide), h 9 (by decide) (by decide), h 10 (by decide) (by decide), h 11 (by decide) (by decide), h 12 (by decide) (by decide)]
  exact D
theorem stepC (X : TX f len) (ht : tok f len = true) (hq : q ≤ lq f) (T0 : CT f len (qS f q) σ) (T : ShR 1 (rsR f R q) σ) (G : Good (rsR f R q)) : (bad f R q = false ∧ ∃ τ, f_X10_carryOutItems_l20 (nI (lq f + 1)) (nI q, σ) = some (.inl (nI (q + 1), τ)) ∧ (q < lq f → CT f len (qS f (q + 1)) τ) ∧ τ 99 1 = nI len ∧ ShR 1 (rsR f R (q + 1)) τ ∧ Good (rsR f R (q + 1)) ∧ ∀ a, ¬ (2 ≤ a ∧ a ≤ 7) → a ≠ 99 → τ a = σ a) ∨ (bad f R q = true ∧ ∃ τ kd pl, doI f (qS f q) (rsR f R q) = .inl (kd, pl) ∧ f_X10_carryOutItems_l20 (nI (lq f + 1)) (nI q, σ) = some (.inr (.inr (nI q, nI (rsR f R q 0 + rsR f R q 1), τ))) ∧ τ 99 13 = nI kd ∧ τ 99 14 = nI pl ∧ τ 99 1 = nI len ∧ ∀ a, a ≠ 99 → τ a = σ a) := by
  have hl := X.1
  have hlq : lq f ≤ 70 := by
    have := qS_b X (lq f) (lq_ok X).1
    omega
  obtain ⟨i1, i2, i3, i4, i5⟩ := items_ok X ht hq
  obtain ⟨τ1, a1, a2, a3, a4⟩ := itemC_eq X T0
  obtain ⟨hch, D1⟩ := a4 i1
  obtain ⟨τ2, b1, b2, b3⟩ := accC_eq (c := 59) X a2 (by decide) (by decide)
  have b1' : f_X6_accepts 59 τ1 = _ := b1
  have D2 : DC f (qS f q) τ2 := DC_c b3.2 D1
  have fr : ∀ a, a ≠ 99 → τ2 a = σ a := fun a ha => by rw [b3.1 a ha, a3.1 a ha]
  have T2 : ShR 1 (rsR f R q) τ2 := ShR_c (fun a h1 h2 => fr a (by omega)) T
  have s2 : f_X9_size 2 τ2 = some (nI (rsR f R q 0)) := by rw [size_eq]; exact congrArg some T2.2.1.2.1
  have s4 : f_X9_size 4 τ2 = some (nI (rsR f R q 1)) := by rw [size_eq]; exact congrArg some T2.2.1.2.2.2.1
  have e1 : τ2 99 1 = nI len := b2.1
  have nn : ¬ nI (lq f + 1) ≤ nI q := nI_ge (by omega) (by omega)
  have head : ∀ (w : Int32 × St), f_X6_carryOut 1 τ2 = some w → f_X10_carryOutItems_l20 (nI (lq f + 1)) (nI q, σ) = if w.1 = 0 then some (.inr (.inr (nI q, nI (rsR f R q 0 + rsR f R q 1), w.2))) else some (.inl (nI (q + 1), w.2)) := fun w hw => by
    unfold f_X10_carryOutItems_l20
    dsimp only
    rw [if_neg nn, a1, bind_s, b1', bind_s, s2, bind_s, s4, bind_s, hw, bind_s, nI_add, nI_1]
  rcases doC_eq X i2 T2 G i1 hch D2 with ⟨kd, pl, c1, c2⟩ | ⟨R', c1, c2, τ3, c3, c4, c5⟩
  · right
    refine ⟨rsR_b c1, _, kd, pl, c1, by rw [head _ c2, if_pos (by rfl)], ?_, up_s .., ?_, fun a ha => by rw [up_k _ _ _ ha, up_k _ _ _ ha, fr a ha]⟩
    · rw [up_j _ _ _ (by decide), up_s]
    · rw [up_j _ _ _ (by decide), up_j _ _ _ (by decide), e1]
  · left
    obtain ⟨g1, g2⟩ := rsR_s c1
    refine ⟨g2, τ3, by rw [head _ c3, if_neg (show ¬ nI 1 = 0 by decide)], fun h => ?_, by rw [c5 99 (by decide), e1], by rw [g1]; exact c4, by rw [g1]; exact c2, fun a h1 h2 => by rw [c5 a h1, fr a h2]⟩
    obtain ⟨h59, hS⟩ := i4 h
    have g3 : xM f 59 true (itm f (qS f q)).2 = (true, qS f (q + 1)) := if_pos ⟨rfl, h59⟩
    rw [g3] at b2
    exact CT_c (c5 100 (by decide)) (by rw [c5 99 (by decide)]) (by rw [c5 99 (by decide)]) b2
theorem loopC_ok (X : TX f len) (ht : tok f len = true) (T0 : CT f len 0 σ) (T : ShR 1 R σ) (G : Good R) (hall : ∀ j, j < lq f + 1 → bad f R j = false) : ∃ τ, lp (f_X10_carryOutItems_l20 (nI (lq f + 1))) FU (nI 0, σ) = some (.inl τ) ∧ τ 99 1 = nI len ∧ ShR 1 (rsR f R (lq f + 1)) τ ∧ Good (rsR f R (lq f + 1)) ∧ ∀ a, ¬ (2 ≤ a ∧ a ≤ 7) → a ≠ 99 → τ a = σ a := by
  have hl := X.1
  have hlq : lq f ≤ 70 := by
    have := qS_b X (lq f) (lq_ok X).1
    omega
  obtain ⟨v, q1, τ, rfl, q2⟩ := lp_fu (f := f_X10_carryOutItems_l20 (nI (lq f + 1))) (fun q z => ∃ τ, z = (nI q, τ) ∧ (q ≤ lq f → CT f len (qS f q) τ) ∧ τ 99 1 = nI len ∧ ShR 1 (rsR f R q) τ ∧ Good (rsR f R q) ∧ ∀ a, ¬ (2 ≤ a ∧ a ≤ 7) → a ≠ 99 → τ a = σ a) (fun v => ∃ τ, v = .inl τ ∧ τ 99 1 = nI len ∧ ShR 1 (rsR f R (lq f + 1)) τ ∧ Good (rsR f R (lq f + 1)) ∧ ∀ a, ¬ (2 ≤ a ∧ a ≤ 7) → a ≠ 99 → τ a = σ a) (lq f + 1) (by omega) (nI 0, σ) ⟨σ, rfl, fun _ => T0, T0.1, T, G, fun _ _ _ => rfl⟩ (by
    rintro q z hq ⟨τ, rfl, e1, e2, e3, e4, e5⟩
    left
    rcases stepC (R := R) X ht (show q ≤ lq f by omega) (e1 (by omega)) e3 e4 with ⟨_, τ2, h1, h2, h3, h4, h5, h6⟩ | ⟨hb, _⟩
    · exact ⟨_, h1, τ2, rfl, fun h => h2 (by omega), h3, h4, h5, fun a g1 g2 => by rw [h6 a g1 g2, e5 a g1 g2]⟩
    · rw [hall q hq] at hb
      exact absurd hb (by decide)) (by
    rintro z ⟨τ, rfl, e1, e2, e3, e4, e5⟩
    refine ⟨_, ?_, τ, rfl, e2, e3, e4, e5⟩
    unfold f_X10_carryOutItems_l20
    dsimp only
    rw [if_pos (Int32.le_refl _)])
  exact ⟨τ, q1, q2⟩
theorem loopC_bad (X : TX f len) (ht : tok f len = true) (T0 : CT f len 0 σ) (T : ShR 1 R σ) (G : Good R) (hq : q ≤ lq f) (hb : bad f R q = true) (hall : ∀ j, j < q → bad f R j = false) : ∃ τ kd pl, doI f (qS f q) (rsR f R q) = .inl (kd, pl) ∧ lp (f_X10_carryOutItems_l20 (nI (lq f + 1))) FU (nI 0, σ) = some (.inr (nI q, nI (rsR f R q 0 + rsR f R q 1), τ)) ∧ τ 99 13 = nI kd ∧ τ 99 14 = nI pl ∧ τ 99 1 = nI len ∧ ShR 1 (rsR f R q) τ ∧ ∀ a, ¬ (2 ≤ a ∧ a ≤ 7) → a ≠ 99 → τ a = σ a := by
  have hl := X.1
  have hlq : lq f ≤ 70 := by
    have := qS_b X (lq f) (lq_ok X).1
    omega
  obtain ⟨v, q1, τ, kd, pl, d1, rfl, q2⟩ := lp_fu (f := f_X10_carryOutItems_l20 (nI (lq f + 1))) (fun q z => ∃ τ, z = (nI q, τ) ∧ CT f len (qS f q) τ ∧ ShR 1 (rsR f R q) τ ∧ Good (rsR f R q) ∧ ∀ a, ¬ (2 ≤ a ∧ a ≤ 7) → a ≠ 99 → τ a = σ a) (fun v => ∃ τ kd pl, doI f (qS f q) (rsR f R q) = .inl (kd, pl) ∧ v = .inr (nI q, nI (rsR f R q 0 + rsR f R q 1), τ) ∧ τ 99 13 = nI kd ∧ τ 99 14 = nI pl ∧ τ 99 1 = nI len ∧ ShR 1 (rsR f R q) τ ∧ ∀ a, ¬ (2 ≤ a ∧ a ≤ 7) → a ≠ 99 → τ a = σ a) q (by omega) (nI 0, σ) ⟨σ, rfl, T0, T, G, fun _ _ _ => rfl⟩ (by
    rintro j z hj ⟨τ, rfl, e1, e3, e4, e5⟩
    left
    rcases stepC (R := R) X ht (show j ≤ lq f by omega) e1 e3 e4 with ⟨_, τ2, h1, h2, h3, h4, h5, h6⟩ | ⟨hb, _⟩
    · exact ⟨_, h1, τ2, rfl, h2 (by omega), h4, h5, fun a g1 g2 => by rw [h6 a g1 g2, e5 a g1 g2]⟩
    · rw [hall j hj] at hb
      exact absurd hb (by decide)) (by
    rintro z ⟨τ, rfl, e1, e3, e4, e5⟩
    rcases stepC (R := R) X ht hq e1 e3 e4 with ⟨hb2, _⟩ | ⟨_, τ2, kd, pl, d1, h1, h2, h3, h4, h5⟩
    · rw [hb] at hb2
      exact absurd hb2 (by decide)
    · exact ⟨_, h1, τ2, kd, pl, d1, rfl, h2, h3, h4, ShR_c (fun a g1 g2 => h5 a (by omega)) e3, fun a g1 g2 => by rw [h5 a g2, e5 a g1 g2]⟩)
  exact ⟨τ, kd, pl, d1, q1, q2⟩
