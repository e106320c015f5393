/-! PURE FACTS, 103: texts, all items, the reference's -/
variable {len p c k m n C q : Nat} {f : Nat → Nat} {b e o : Bool} {σ τ υ : St} {R : Nat → Nat}
/-- what the reference's reading leaves alone -/
def PL (σ τ : St) : Prop := (∀ a, a ≠ 101 → a ≠ 102 → a ≠ 109 → a ≠ 110 → a ≠ 111 → a ≠ 121 → τ a = σ a) ∧ ∀ j, j ≠ 14 → ¬ (38 ≤ j ∧ j ≤ 46) → τ 101 j = σ 101 j
theorem PL_t (h : PL σ τ) (h2 : PL τ υ) : PL σ υ := ⟨fun a x1 x2 x3 x4 x5 x6 => (h2.1 a x1 x2 x3 x4 x5 x6).trans (h.1 a x1 x2 x3 x4 x5 x6), fun j x1 x2 => (h2.2 j x1 x2).trans (h.2 j x1 x2)⟩
theorem PL_r (σ : St) : PL σ σ := ⟨fun _ _ _ _ _ _ _ => rfl, fun _ _ _ => rfl⟩
theorem PL_Z (h : PZ σ τ) : PL σ τ := ⟨fun a x1 x2 x3 x4 x5 x6 => h.1 a x1 x6, fun j x1 x2 => h.2 j (by omega) (by omega) (by omega)⟩
theorem PL_up (σ : St) {j : Nat} (v : Int32) (h : 38 ≤ j ∧ j ≤ 46) : PL σ (up σ 101 j v) := ⟨fun a ha _ _ _ _ _ => up_k _ _ _ ha, fun i h1 h2 => up_j _ _ _ (by omega)⟩
theorem stepR (X : TX f len) (ht : tok f len = true) (hq : q ≤ lq f) (P : PS f len true (qS f q) σ) (hR : σ 102 = rwN (rsR f R q)) (G : Good (rsR f R q)) (h40 : σ 101 40 = nI q) (h14 : σ 101 14 = 0) : (bad f R q = false ∧ ∃ τ, f_X11_read_l107 (nI 1, σ) = some (.inl (nI (bN (decide (q < lq f))), τ)) ∧ (q < lq f → PS f len true (qS f (q + 1)) τ) ∧ τ 102 = rwN (rsR f R (q + 1)) ∧ τ 101 40 = nI (q + 1) ∧ τ 101 14 = 0 ∧ PL σ τ) ∨ (bad f R q = true ∧ ∃ τ kd pl, doI f (qS f q) (rsR f R q) = .inl (kd, pl) ∧ f_X11_read_l107 (nI 1, σ) = some (.inl (nI (bN (decide (q < lq f))), τ)) ∧ FT kd pl q (rsR f R q 0 + rsR f R q 1) τ ∧ PL σ τ ∧ τ 102 = rwN (rsR f R q)) := by
  have hl := X.1
  obtain ⟨i1, i2, i3, i4, i5⟩ := items_ok X ht hq
  obtain ⟨τ1, a1, a2, a3, a4⟩ := itemR_eq X P
  have D1 := a4 i1
  have hch := itm_ch i1
  have hR1 : τ1 102 = rwN (rsR f R q) := by rw [a3.1 102 (by decide) (by decide), hR]
  have g40 : τ1 101 40 = nI q := by rw [a3.2 40 (by decide) (by decide) (by decide), h40]
  have g14 : τ1 101 14 = 0 := by rw [a3.2 14 (by decide) (by decide) (by decide), h14]
  rw [i1] at a2
  -- behind what the item does
  have head : ∀ τ2, f_X11_does τ1 = some τ2 → τ2 106 = τ1 106 → (∀ j, j ≠ 14 → τ2 101 j = τ1 101 j) → f_X11_read_l107 (nI 1, σ) = some (.inl (nI (bN (decide (q < lq f))), up (up τ2 101 38 (nI ((itm f (qS f q)).2 + 1))) 101 40 (nI (q + 1)))) ∧ (q < lq f → PS f len true (qS f (q + 1)) (up (up τ2 101 38 (nI ((itm f (qS f q)).2 + 1))) 101 40 (nI (q + 1)))) := fun τ2 h1 h2 h3 => by
    have P2 : PS f len true (itm f (qS f q)).2 τ2 := PS_c h2 (h3 8 (by decide)) (h3 38 (by decide)) (h3 39 (by decide)) a2
    obtain ⟨h, c1, c2, c3⟩ := hereR_eq X P2
    have j140 : ∀ w : Int32, f_X11_read_j140 w τ2 = some (.inl (w, up (up τ2 101 38 (nI ((itm f (qS f q)).2 + 1))) 101 40 (nI (q + 1)))) := fun w => by
      unfold f_X11_read_j140
      rw [P2.2.2.1, nI_1, up_j _ _ _ (show (40 : Nat) ≠ 38 by decide), h3 40 (by decide), g40, nI_1]
    refine ⟨?_, fun hlt => ?_⟩
    · unfold f_X11_read_l107
      dsimp only
      rw [if_neg (show ¬ nI 1 = 0 by decide), if_pos h14, a1, bind_s, h1, bind_s, c1, bind_s]
      by_cases hlt : q < lq f
      · rw [if_pos (show h = 59 from (c2 59 (by decide) (by decide)).mpr (i4 hlt).1), decide_eq_true hlt, j140]
        rfl
      · rw [if_neg (show ¬ h = 59 from fun g => (i5 (by omega)).1 ((c2 59 (by decide) (by decide)).mp g)), decide_eq_false hlt, j140]
        rfl
    · rw [(i4 hlt).2]
      have h59 := (i4 hlt).1
      have := TX_in X (p := (itm f (qS f q)).2) (by omega)
      exact PS_up (PS_38 P2 (by omega)) (by decide) (by decide) (by decide)
  rcases doR_eq X i2 hR1 G i1 hch D1 g40 with ⟨kd, pl, c1, τ2, c2, c3, c4, c5⟩ | ⟨R', c1, τ2, c2, c3, c4⟩
  · right
    obtain ⟨e1, _⟩ := head τ2 c2 (c4 106 (by decide) (by decide) (by decide) (by decide)) c5
    refine ⟨rsR_b c1, _, kd, pl, c1, e1, ?_, ?_, by rw [up_k _ _ _ (by decide), up_k _ _ _ (by decide), c4 102 (by decide) (by decide) (by decide) (by decide), hR1]⟩
    · unfold FT at *
      rw [up_j _ _ _ (by decide), up_j _ _ _ (by decide), up_k _ _ _ (by decide), up_k _ _ _ (by decide), up_k _ _ _ (by decide), up_k _ _ _ (by decide)]
      exact c3
    · refine PL_t (PL_Z a3) (PL_t ?_ (PL_t (PL_up _ _ (by omega)) (PL_up _ _ (by omega))))
      exact ⟨fun a x1 x2 x3 x4 x5 x6 => c4 a x1 x3 x4 x5, fun j x1 x2 => c5 j x1⟩
  · left
    obtain ⟨g1, g2⟩ := rsR_s c1
    obtain ⟨e1, e2⟩ := head τ2 c2 (c4 106 (by decide) (by decide)) (fun j _ => by rw [c4 101 (by decide) (by decide)])
    refine ⟨g2, _, e1, e2, ?_, up_s .., ?_, ?_⟩
    · rw [up_k _ _ _ (by decide), up_k _ _ _ (by decide), c3, g1]
    · rw [up_j _ _ _ (by decide), up_j _ _ _ (by decide), c4 101 (by decide) (by decide), g14]
    · refine PL_t (PL_Z a3) (PL_t ?_ (PL_t (PL_up _ _ (by omega)) (PL_up _ _ (by omega))))
      exact ⟨fun a x1 x2 x3 x4 x5 x6 => c4 a x2 x5, fun j x1 x2 => by rw [c4 101 (by decide) (by decide)]⟩
theorem loopR_ok (X : TX f len) (ht : tok f len = true) (P : PS f len true 0 σ) (hR : σ 102 = rwN R) (hG : ∀ j, j ≤ lq f → Good (rsR f R j)) (h40 : σ 101 40 = nI 0) (h14 : σ 101 14 = 0) (hall : ∀ j, j < lq f + 1 → bad f R j = false) : ∃ τ, lp f_X11_read_l107 FU (nI 1, σ) = some τ ∧ τ 102 = rwN (rsR f R (lq f + 1)) ∧ τ 101 40 = nI (lq f + 1) ∧ τ 101 14 = 0 ∧ PL σ τ := by
  have hl := X.1
  have hlq : lq f ≤ 70 := by
    have := qS_b X (lq f) (lq_ok X).1
    omega
  obtain ⟨v, q1, q2⟩ := lp_fu (f := f_X11_read_l107) (fun q z => ∃ τ, z = (nI (bN (decide (q ≤ lq f))), τ) ∧ (q ≤ lq f → PS f len true (qS f q) τ) ∧ τ 102 = rwN (rsR f R q) ∧ τ 101 40 = nI q ∧ τ 101 14 = 0 ∧ PL σ τ) (fun τ => τ 102 = rwN (rsR f R (lq f + 1)) ∧ τ 101 40 = nI (lq f + 1) ∧ τ 101 14 = 0 ∧ PL σ τ) (lq f + 1) (by omega) (nI 1, σ) ⟨σ, by rw [decide_eq_true (Nat.zero_le _)]; rfl, fun _ => P, hR, h40, h14, PL_r _⟩ (by
    rintro q z hq ⟨τ, rfl, e1, e2, e3, e4, e5⟩
    left
    rcases stepR (R := R) X ht (show q ≤ lq f by omega) (e1 (by omega)) e2 (hG q (by omega)) e3 e4 with ⟨_, τ2, h1, h2, h3, h4, h5, h6⟩ | ⟨hb, _⟩
    · rw [decide_eq_true (show q ≤ lq f by omega)]
      exact ⟨_, h1, τ2, by rw [show decide (q < lq f) = decide (q + 1 ≤ lq f) from rfl], fun h => h2 (by omega), h3, h4, h5, PL_t e5 h6⟩
    · rw [hall q hq] at hb
      exact absurd hb (by decide)) (by
    rintro z ⟨τ, rfl, e1, e2, e3, e4, e5⟩
    refine ⟨τ, ?_, e2, e3, e4, e5⟩
    rw [decide_eq_false (by omega)]
    unfold f_X11_read_l107
    dsimp only
    rw [if_pos f0])
  exact ⟨v, q1, q2⟩
theorem loopR_bad (X : TX f len) (ht : tok f len = true) (P : PS f len true 0 σ) (hR : σ 102 = rwN R) (hG : ∀ j, j ≤ q → Good (rsR f R j)) (h40 : σ 101 40 = nI 0) (h14 : σ 101 14 = 0) (hq : q ≤ lq f) (hb : bad f R q = true) (hall : ∀ j, j < q → bad f R j = false) : ∃ τ kd pl, doI f (qS f q) (rsR f R q) = .inl (kd, pl) ∧ lp f_X11_read_l107 FU (nI 1, σ) = some τ ∧ FT kd pl q (rsR f R q 0 + rsR f R q 1) τ ∧ PL σ τ ∧ τ 102 = rwN (rsR f R q) := by
  have hl := X.1
  have hlq : lq f ≤ 70 := by
    have := qS_b X (lq f) (lq_ok X).1
    omega
  obtain ⟨v, q1, kd, pl, d1, q2⟩ := lp_fu (f := f_X11_read_l107) (fun i z => ∃ τ, (i ≤ q → z = (nI 1, τ) ∧ PS f len true (qS f i) τ ∧ τ 102 = rwN (rsR f R i) ∧ τ 101 40 = nI i ∧ τ 101 14 = 0 ∧ PL σ τ) ∧ (q < i → ∃ w kd pl, z = (w, τ) ∧ doI f (qS f q) (rsR f R q) = .inl (kd, pl) ∧ FT kd pl q (rsR f R q 0 + rsR f R q 1) τ ∧ PL σ τ ∧ τ 102 = rwN (rsR f R q))) (fun τ => ∃ kd pl, doI f (qS f q) (rsR f R q) = .inl (kd, pl) ∧ FT kd pl q (rsR f R q 0 + rsR f R q 1) τ ∧ PL σ τ ∧ τ 102 = rwN (rsR f R q)) (q + 1) (by omega) (nI 1, σ) ⟨σ, fun _ => ⟨rfl, P, hR, h40, h14, PL_r _⟩, fun h => absurd h (Nat.not_lt_zero _)⟩ (by
    rintro i z hi ⟨τ, e1, _⟩
    left
    obtain ⟨rfl, e2, e3, e4, e5, e6⟩ := e1 (by omega)
    rcases stepR (R := R) X ht (show i ≤ lq f by omega) e2 e3 (hG i (by omega)) e4 e5 with ⟨hb2, τ2, h1, h2, h3, h4, h5, h6⟩ | ⟨hb2, τ2, kd, pl, d1, h1, h2, h3, h4⟩
    · have hne : i ≠ q := fun h => by
        rw [h, hb] at hb2
        exact absurd hb2 (by decide)
      refine ⟨_, h1, τ2, fun h => ⟨?_, h2 (by omega), h3, h4, h5, PL_t e6 h6⟩, fun h => by omega⟩
      rw [decide_eq_true (show i < lq f by omega)]
      rfl
    · have he : i = q := by
        rcases Nat.lt_or_ge i q with g | g
        · rw [hall i g] at hb2
          exact absurd hb2 (by decide)
        · omega
      subst he
      exact ⟨_, h1, τ2, fun h => by omega, fun _ => ⟨_, kd, pl, rfl, d1, h2, PL_t e6 h3, h4⟩⟩) (by
    rintro z ⟨τ, _, e2⟩
    obtain ⟨w, kd, pl, rfl, d1, h1, h2⟩ := e2 (by omega)
    refine ⟨τ, ?_, kd, pl, d1, h1, h2⟩
    unfold f_X11_read_l107
    dsimp only
    by_cases g : w = 0
    · rw [if_pos g]
    · rw [if_neg g, if_neg (show ¬ τ 101 14 = 0 by rw [h1.1]; decide)])
  exact ⟨v, kd, pl, d1, q1, q2⟩
/-- as many semicolons as items before -/
theorem cnt_Nos {P : Nat → Bool} {r : Nat} (hP : ∀ i, f i ≠ 59 → P i = false) (h : Nos f p r) : cnt P r = cnt P p := by
  obtain ⟨d, rfl⟩ : ∃ d, r = p + d := ⟨r - p, by have := h.1; omega⟩
  induction d with
  | zero => rfl
  | succ d ih =>
    have h1 : Nos f p (p + d) := ⟨by omega, fun i g1 g2 => h.2 i g1 (by omega)⟩
    rw [show p + (d + 1) = p + d + 1 from rfl, cnt_s, hP _ (h.2 (p + d) (by omega) (by omega)), if_neg (by decide), ih h1]
theorem semi_q (X : TX f len) (hq : q ≤ lq f) : cnt (fun i => decide (f i = 59)) (qS f q) = q := by
  induction q with
  | zero => rfl
  | succ q ih =>
    obtain ⟨g1, g2⟩ := cnI_i.mp ((lq_ok X).1 q (by omega))
    have hb := qS_b X q (fun j hj => (lq_ok X).1 j (by omega))
    have hn := Nos_i X hb.2
    have e : cnt (fun i => decide (f i = 59)) (itm f (qS f q)).2 = cnt (fun i => decide (f i = 59)) (qS f q) := cnt_Nos (fun i hi => decide_eq_false hi) hn
    show cnt _ ((itm f (qS f q)).2 + 1) = q + 1
    rw [cnt_s, decide_eq_true g2, if_pos rfl, e, ih (by omega)]
theorem semi_e (X : TX f len) : cnt (fun i => decide (f i = 59)) (eT f) = lq f := by
  have hb := qS_b X (lq f) (lq_ok X).1
  have e : cnt (fun i => decide (f i = 59)) (eT f) = cnt (fun i => decide (f i = 59)) (qS f (lq f)) := cnt_Nos (fun i hi => decide_eq_false hi) (Nos_i X hb.2)
  rw [e, semi_q X (Nat.le_refl _)]
theorem semiR_eq (X : TX f len) {b : Bool} (P : PS f len b (eT f) σ) : lp (f_X11_read_l21 σ) FU (nI 0, nI 0) = some (nI (lq f)) := by
  have hl := X.1
  have hE : eT f ≤ len := P.2.2.2.1
  have h := lp_f0 (f := f_X11_read_l21 σ) (fun i n => (nI n, nI i)) (fun i a => if decide (f i = 59) = true then a + 1 else a) (fun n => nI n) (eT f) (by omega) 0 (fun i a hi => by
    have x1 := X.2.1 i
    unfold f_X11_read_l21 f_X11_read_j54
    dsimp only
    rw [if_neg (show ¬ σ 101 38 ≤ nI i by rw [P.2.2.1]; exact nI_ge hi (by omega)), if_neg (show ¬ σ 101 8 ≤ nI i by rw [P.1]; exact nI_ge (by omega) (by omega)), chkin (by omega) (by omega), nI_clamp (by omega)]
    by_cases g : f i = 59
    · rw [if_pos (show σ 106 i = 59 by rw [P.2.1 i (by omega), g]; rfl), if_pos (decide_eq_true g), nI_1, nI_1]
    · rw [if_neg (show ¬ σ 106 i = 59 by rw [P.2.1 i (by omega)]; show ¬ nI (f i) = nI 59; rw [nI_eqI (by omega) (by decide)]; exact g), if_neg (by rw [decide_eq_false g]; decide), nI_1, show nI a + 0 = nI a from nI_add a 0]) (fun a => by
    unfold f_X11_read_l21
    dsimp only
    rw [if_pos (show σ 101 38 ≤ nI (eT f) by rw [P.2.2.1]; exact Int32.le_refl _)])
  rw [h]
  exact congrArg (fun n => some (nI n)) (semi_e X)
