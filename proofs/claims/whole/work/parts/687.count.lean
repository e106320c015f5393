/-! PURE FACTS, 94: texts, the class counts the items -/
variable {len p c k C Ck : Nat} {f : Nat → Nat} {b e : Bool} {σ τ υ : St}
/-- where the items begin -/
def qS (f : Nat → Nat) : Nat → Nat
  | 0 => 0
  | q + 1 => (itm f (qS f q)).2 + 1
/-- another item follows -/
def cnI (f : Nat → Nat) (q : Nat) : Bool := (itm f (qS f q)).1 && decide (f (itm f (qS f q)).2 = 59)
theorem cnI_i {q : Nat} : cnI f q = true ↔ (itm f (qS f q)).1 = true ∧ f (itm f (qS f q)).2 = 59 := by
  unfold cnI
  rw [Bool.and_eq_true, decide_eq_true_iff]
def lqf (f : Nat → Nat) : Nat → Nat → Nat
  | 0, k => k
  | n + 1, k => if cnI f k = true then lqf f n (k + 1) else k
/-- the last item -/
def lq (f : Nat → Nat) : Nat := lqf f 72 0
theorem qS_b (X : TX f len) : ∀ k, (∀ j, j < k → cnI f j = true) → k ≤ qS f k ∧ qS f k ≤ len := by
  intro k
  induction k with
  | zero => intro _; exact ⟨Nat.le_refl _, Nat.zero_le _⟩
  | succ k ih =>
    intro h
    obtain ⟨h1, h2⟩ := ih (fun j hj => h j (by omega))
    obtain ⟨g1, g2⟩ := cnI_i.mp (h k (by omega))
    have h3 := TX_in X (p := (itm f (qS f k)).2) (by omega)
    have h4 := (Nos_i X h2).1
    show k + 1 ≤ (itm f (qS f k)).2 + 1 ∧ (itm f (qS f k)).2 + 1 ≤ len
    omega
theorem lqf_ok (X : TX f len) : ∀ n k, k + n = 72 → (∀ j, j < k → cnI f j = true) → (∀ j, j < lqf f n k → cnI f j = true) ∧ ¬ cnI f (lqf f n k) = true := by
  intro n
  induction n with
  | zero =>
    intro k hk h
    have h1 := qS_b X k h
    have h2 := X.1
    omega
  | succ n ih =>
    intro k hk h
    unfold lqf
    by_cases e : cnI f k = true
    · rw [if_pos e]
      refine ih (k + 1) (by omega) (fun j hj => ?_)
      by_cases q : j = k
      · rw [q]; exact e
      · exact h j (by omega)
    · rw [if_neg e]
      exact ⟨h, e⟩
theorem lq_ok (X : TX f len) : (∀ j, j < lq f → cnI f j = true) ∧ ¬ cnI f (lq f) = true := lqf_ok X 72 0 rfl (fun j h => absurd h (Nat.not_lt_zero _))
/-- where the reading ends, and whether the text is one -/
def eT (f : Nat → Nat) : Nat := (itm f (qS f (lq f))).2
def tok (f : Nat → Nat) (len : Nat) : Bool := (itm f (qS f (lq f))).1 && decide (eT f = len)
def KC (σ τ : St) : Prop := (∀ a, a ≠ 99 → τ a = σ a) ∧ ∀ j, j = 1 ∨ j = 13 ∨ j = 14 → τ 99 j = σ 99 j
theorem KC_t (h : KC σ τ) (h2 : KC τ υ) : KC σ υ := ⟨fun a ha => (h2.1 a ha).trans (h.1 a ha), fun j hj => (h2.2 j hj).trans (h.2 j hj)⟩
theorem KC_J (h : KJ σ τ) : KC σ τ := ⟨h.1, fun j hj => h.2 j (by omega)⟩
theorem KC_r (σ : St) : KC σ σ := ⟨fun _ _ => rfl, fun _ _ => rfl⟩
theorem KC_up (σ : St) {j : Nat} (v : Int32) (h : j = 2 ∨ j = 3) : KC σ (up σ 99 j v) := ⟨fun a ha => up_k _ _ _ ha, fun i hi => up_j _ _ _ (by omega)⟩
theorem countC_eq (X : TX f len) (T : CT f len p σ) : ∃ τ, f_X6_countItems σ = some (if tok f len = true then nI (lq f + 1) else -1, τ) ∧ CT f len (eT f) τ ∧ KC σ τ ∧ τ 99 3 = nI (lq f) := by
  have hl := X.1
  obtain ⟨r1, r2⟩ := lq_ok X
  have hb := fun k (hk : k ≤ lq f) => qS_b X k (fun j hj => r1 j (by omega))
  have hbl := hb (lq f) (Nat.le_refl _)
  have T0 : CT f len 0 (up (up σ 99 2 (nI 0)) 99 3 (nI 0)) := CT_up (CT_s T (Nat.zero_le _)) (by decide) (by decide)
  obtain ⟨v, q1, τ9, q2, q3⟩ := lp_fu (f := f_X6_countItems_l9) (fun k z => CT f len (qS f k) z ∧ KC σ z ∧ z 99 3 = nI k) (fun v => ∃ τ, (v = (if tok f len = true then .inr (.inr (.inl τ)) else .inr (.inl τ)) ∨ (tok f len = false ∧ v = .inr (.inr (.inr τ)))) ∧ CT f len (eT f) τ ∧ KC σ τ ∧ τ 99 3 = nI (lq f)) (lq f) (by omega) (up (up σ 99 2 (nI 0)) 99 3 (nI 0)) ⟨T0, KC_t (KC_up _ _ (by omega)) (KC_up _ _ (by omega)), up_s ..⟩ (by
    rintro k τ hk ⟨T1, F1, h3⟩
    left
    obtain ⟨g1, g2⟩ := cnI_i.mp (r1 k hk)
    have hbk := hb k (by omega)
    obtain ⟨τ2, a1, a2, a3, a4⟩ := itemC_eq X T1
    obtain ⟨τ3, c1, c2, c3⟩ := accC_eq (c := 59) X a2 (by decide) (by decide)
    have g3 : xM f 59 true (itm f (qS f k)).2 = (true, qS f (k + 1)) := if_pos ⟨rfl, g2⟩
    rw [g3] at c1 c2
    have hE := TX_in X (p := (itm f (qS f k)).2) (by omega)
    have e3 : τ3 99 3 = nI k := by rw [c3.2 3 (by decide) (by decide), a3.2 3 (by decide), h3]
    refine ⟨up τ3 99 3 (nI (k + 1)), ?_, CT_up c2 (by decide) (by decide), KC_t F1 (KC_t (KC_J a3) (KC_t (KC_J (KJ_5 c3)) (KC_up _ _ (by omega)))), up_s ..⟩
    have c1' : f_X6_accepts 59 τ2 = _ := c1
    unfold f_X6_countItems_l9
    rw [if_neg (show ¬ τ 99 1 < τ 99 3 by rw [T1.1, h3, nI_ltI (by omega) (by omega)]; omega), a1, bind_s, g1, if_neg t0, if_pos (show τ2 99 2 < τ2 99 1 by rw [a2.1, a2.2.2.1]; exact nI_lt hE (by omega)), c1', bind_s, if_neg t0]
    dsimp only
    rw [e3, nI_1]) (by
    rintro τ ⟨T1, F1, h3⟩
    obtain ⟨τ2, a1, a2, a3, a4⟩ := itemC_eq X T1
    have nn : ¬ τ 99 1 < τ 99 3 := by rw [T1.1, h3, nI_ltI (by omega) (by omega)]; omega
    have e3 : τ2 99 3 = nI (lq f) := by rw [a3.2 3 (by decide), h3]
    have F2 := KC_t F1 (KC_J a3)
    cases g1 : (itm f (qS f (lq f))).1
    · have ht : tok f len = false := by unfold tok; rw [g1]; rfl
      rw [g1] at a1
      refine ⟨.inr (.inl τ2), ?_, τ2, Or.inl (by rw [ht]; rfl), a2, F2, e3⟩
      unfold f_X6_countItems_l9
      rw [if_neg nn, a1, bind_s, if_pos f0]
    · have g2 : ¬ f (eT f) = 59 := fun h => r2 (cnI_i.mpr ⟨g1, h⟩)
      rw [g1] at a1
      have hE : eT f ≤ len := a2.2.2.2
      by_cases g4 : eT f < len
      · obtain ⟨τ3, c1, c2, c3⟩ := accC_eq (c := 59) X a2 (by decide) (by decide)
        have g3 : xM f 59 true (itm f (qS f (lq f))).2 = (false, eT f) := if_neg (fun h => g2 h.2)
        rw [g3] at c1 c2
        have ht : tok f len = false := by unfold tok; rw [g1, decide_eq_false (by omega)]; rfl
        refine ⟨.inr (.inr (.inr τ3)), ?_, τ3, Or.inr ⟨ht, rfl⟩, c2, KC_t F2 (KC_J (KJ_5 c3)), by rw [c3.2 3 (by decide) (by decide), e3]⟩
        have c1' : f_X6_accepts 59 τ2 = _ := c1
        unfold f_X6_countItems_l9
        rw [if_neg nn, a1, bind_s, if_neg t0, if_pos (show τ2 99 2 < τ2 99 1 by rw [a2.1, a2.2.2.1]; exact nI_lt g4 (by omega)), c1', bind_s, if_pos f0]
      · have ht : tok f len = true := by unfold tok; rw [g1, decide_eq_true (by omega)]; rfl
        refine ⟨.inr (.inr (.inl τ2)), ?_, τ2, Or.inl (by rw [ht]; rfl), a2, F2, e3⟩
        unfold f_X6_countItems_l9
        rw [if_neg nn, a1, bind_s, if_neg t0, if_neg (show ¬ τ2 99 2 < τ2 99 1 by rw [a2.1, a2.2.2.1, nI_ltI (by unfold eT at hE; omega) (by omega)]; exact g4)])
  refine ⟨τ9, ?_, q3⟩
  have q1' : lp f_X6_countItems_l9 FU (up (up σ 99 2 0) 99 3 0) = some v := q1
  unfold f_X6_countItems f_X6_countItems_0 f_X6_rewind f_X6_rewind_0
  rw [bind_s, q1', bind_s]
  rcases q2 with q2 | ⟨ht, q2⟩
  · rw [q2]
    cases ht : tok f len
    · rfl
    · rw [if_pos rfl, if_pos rfl]
      show some ((τ9 99 3) + 1, τ9) = _
      rw [q3.2.2, nI_1]
  · rw [q2, ht]
    rfl
