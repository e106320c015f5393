/-! PURE FACTS, 92: texts, a shape's item, the class's -/
variable {len p c k C Ck : Nat} {f : Nat → Nat} {b e : Bool} {σ τ υ : St}
/-- where the rows begin, if the first begins at p -/
def pS (f : Nat → Nat) (p : Nat) : Nat → Nat
  | 0 => p
  | k + 1 => pS f p k + wd f (pS f p k) + 1
/-- another row follows -/
def cnR (f : Nat → Nat) (p k : Nat) : Bool := decide (0 < wd f (pS f p k)) && decide (f (pS f p k + wd f (pS f p k)) = 47)
theorem cnR_i : cnR f p k = true ↔ 0 < wd f (pS f p k) ∧ f (pS f p k + wd f (pS f p k)) = 47 := by
  unfold cnR
  rw [Bool.and_eq_true, decide_eq_true_iff, decide_eq_true_iff]
def lrf (f : Nat → Nat) (p : Nat) : Nat → Nat → Nat
  | 0, k => k
  | n + 1, k => if cnR f p k = true then lrf f p n (k + 1) else k
/-- the last row -/
def lr (f : Nat → Nat) (p : Nat) : Nat := lrf f p 71 0
theorem pS_b (X : TX f len) (hp : p ≤ len) : ∀ k, (∀ j, j < k → cnR f p j = true) → p + 2 * k ≤ pS f p k ∧ pS f p k ≤ len := by
  intro k
  induction k with
  | zero => intro _; exact ⟨by show p + 0 ≤ p; omega, hp⟩
  | succ k ih =>
    intro h
    obtain ⟨h1, h2⟩ := ih (fun j hj => h j (by omega))
    obtain ⟨g1, g2⟩ := cnR_i.mp (h k (by omega))
    have := TX_in X (p := pS f p k + wd f (pS f p k)) (by omega)
    show p + 2 * (k + 1) ≤ pS f p k + wd f (pS f p k) + 1 ∧ pS f p k + wd f (pS f p k) + 1 ≤ len
    omega
theorem lrf_ok (X : TX f len) (hp : p ≤ len) : ∀ n k, k + n = 71 → (∀ j, j < k → cnR f p j = true) → (∀ j, j < lrf f p n k → cnR f p j = true) ∧ ¬ cnR f p (lrf f p n k) = true := by
  intro n
  induction n with
  | zero =>
    intro k hk h
    have h1 := pS_b X hp k h
    have h2 := X.1
    omega
  | succ n ih =>
    intro k hk h
    unfold lrf
    by_cases e : cnR f p k = true
    · rw [if_pos e]
      refine ih (k + 1) (by omega) (fun j hj => ?_)
      by_cases q : j = k
      · rw [q]; exact e
      · exact h j (by omega)
    · rw [if_neg e]
      exact ⟨h, e⟩
theorem lr_ok (X : TX f len) (hp : p ≤ len) : (∀ j, j < lr f p → cnR f p j = true) ∧ ¬ cnR f p (lr f p) = true := lrf_ok X hp 71 0 rfl (fun j h => absurd h (Nat.not_lt_zero _))
/-- the rows: whether they are rows, and where they end -/
def xR (f : Nat → Nat) (p : Nat) : Bool × Nat := (decide (0 < wd f (pS f p (lr f p))), pS f p (lr f p) + wd f (pS f p (lr f p)))
def evn (f : Nat → Nat) (p n : Nat) : Bool := fo (fun k e => e && decide (wd f (pS f p k) = wd f p)) n true
def clm (f : Nat → Nat) (p n : Nat) : Nat := fo (fun k m => rowN f (wd f p) k (pS f p k) m (wd f (pS f p k))) n 0
theorem bzb (w : Bool) (τ : St) : bzW (some (nI (bN w), τ)) = some (nI (bN w), τ) := by cases w <;> rfl
theorem rowsC_eq (X : TX f len) (T : CT f len p σ) : ∃ τ, f_X6_isRows σ = some (nI (bN (xR f p).1), τ) ∧ CT f len (xR f p).2 τ ∧ KR σ τ ∧ τ 99 9 = nI (wd f p) ∧ τ 99 10 = nI (lr f p + 1) ∧ τ 99 12 = nI (bN (evn f p (lr f p + 1))) ∧ (wd f p ≤ 4 → τ 99 11 = nI (clm f p (lr f p + 1))) := by
  have hl := X.1
  have hp := T.2.2.2
  obtain ⟨r1, r2⟩ := lr_ok X hp
  have hb := fun k (hk : k ≤ lr f p) => pS_b X hp k (fun j hj => r1 j (by omega))
  have hbl := hb (lr f p) (Nat.le_refl _)
  have w0 := wd_le X hp
  -- one row
  have row : ∀ k τ, k ≤ lr f p → CT f len (pS f p k) τ → τ 99 9 = nI (if k = 0 then 0 else wd f p) → τ 99 10 = nI k → τ 99 12 = nI (bN (evn f p k)) → (wd f p ≤ 4 → τ 99 11 = nI (clm f p k)) → ∃ τ2, f_X6_isRow τ = some (nI (bN (decide (0 < wd f (pS f p k)))), τ2) ∧ CT f len (pS f p k + wd f (pS f p k)) τ2 ∧ KR τ τ2 ∧ τ2 99 9 = nI (wd f p) ∧ τ2 99 10 = nI (k + 1) ∧ τ2 99 12 = nI (bN (evn f p (k + 1))) ∧ (wd f p ≤ 4 → τ2 99 11 = nI (clm f p (k + 1))) := fun k τ hk T9 h9 h10 h12 h11 => by
    have hb1 := hb k hk
    obtain ⟨τ2, a1, a2, a3, a4, a5, a6, a7⟩ := rowC_eq (C := wd f p) X T9 h9 h10 (fun e => by subst e; rfl) (fun e => if_neg e) (by omega) (by omega) h12
    exact ⟨τ2, a1, a2, a3, a4, a5, a6, fun h4 => a7 _ h4 (h11 h4)⟩
  obtain ⟨v, q1, τ9, q2, q3⟩ := lp_fu (f := f_X6_isRows_l22) (fun k z => ∃ τ, z = (nI k, τ) ∧ CT f len (pS f p k) τ ∧ KR σ τ ∧ τ 99 9 = nI (if k = 0 then 0 else wd f p) ∧ τ 99 10 = nI k ∧ τ 99 12 = nI (bN (evn f p k)) ∧ (wd f p ≤ 4 → τ 99 11 = nI (clm f p k))) (fun v => ∃ τ, v = (if (xR f p).1 = true then .inr (.inr τ) else .inr (.inl τ)) ∧ CT f len (xR f p).2 τ ∧ KR σ τ ∧ τ 99 9 = nI (wd f p) ∧ τ 99 10 = nI (lr f p + 1) ∧ τ 99 12 = nI (bN (evn f p (lr f p + 1))) ∧ (wd f p ≤ 4 → τ 99 11 = nI (clm f p (lr f p + 1)))) (lr f p) (by omega) (nI 0, up (up (up (up σ 99 9 (nI 0)) 99 10 (nI 0)) 99 11 (nI 0)) 99 12 (nI 1)) ⟨_, rfl, CT_up (CT_up (CT_up (CT_up T (by decide) (by decide)) (by decide) (by decide)) (by decide) (by decide)) (by decide) (by decide), KR_t (KR_up _ _ (by omega)) (KR_t (KR_up _ _ (by omega)) (KR_t (KR_up _ _ (by omega)) (KR_up _ _ (by omega)))), by rw [up_j _ _ _ (by decide), up_j _ _ _ (by decide), up_j _ _ _ (by decide), up_s]; rfl, by rw [up_j _ _ _ (by decide), up_j _ _ _ (by decide), up_s], up_s .., fun _ => by rw [up_j _ _ _ (by decide), up_s]; rfl⟩ (by
    rintro k z hk ⟨τ, rfl, T1, F1, h9, h10, h12, h11⟩
    left
    obtain ⟨g1, g2⟩ := cnR_i.mp (r1 k hk)
    obtain ⟨τ2, a1, a2, a3, a4, a5, a6, a7⟩ := row k τ (by omega) T1 h9 h10 h12 h11
    obtain ⟨τ3, c1, c2, c3⟩ := accC_eq (c := 47) X a2 (by decide) (by decide)
    have g3 : xM f 47 true (pS f p k + wd f (pS f p k)) = (true, pS f p (k + 1)) := if_pos ⟨rfl, g2⟩
    rw [g3] at c1 c2
    have hbk := hb k (by omega)
    refine ⟨(nI (k + 1), τ3), ?_, τ3, rfl, c2, KR_t F1 (KR_t a3 (KR_5 c3)), ?_, ?_, ?_, fun h4 => ?_⟩
    · have c1' : f_X6_accepts 47 τ2 = _ := c1
      unfold f_X6_isRows_l22
      dsimp only
      rw [if_neg (show ¬ τ 99 1 < nI k by rw [T1.1, nI_ltI (by omega) (by omega)]; omega), a1, bind_s, decide_eq_true g1, if_neg t0, c1', bind_s, if_neg t0, nI_1]
    · rw [c3.2 9 (by decide) (by decide), a4, if_neg (by omega)]
    · rw [c3.2 10 (by decide) (by decide), a5]
    · rw [c3.2 12 (by decide) (by decide), a6]
    · rw [c3.2 11 (by decide) (by decide), a7 h4]) (by
    rintro z ⟨τ, rfl, T1, F1, h9, h10, h12, h11⟩
    obtain ⟨τ2, a1, a2, a3, a4, a5, a6, a7⟩ := row (lr f p) τ (Nat.le_refl _) T1 h9 h10 h12 h11
    have nn : ¬ τ 99 1 < nI (lr f p) := by rw [T1.1, nI_ltI (by omega) (by omega)]; omega
    by_cases g1 : 0 < wd f (pS f p (lr f p))
    · have g2 : ¬ f (pS f p (lr f p) + wd f (pS f p (lr f p))) = 47 := fun h => r2 (cnR_i.mpr ⟨g1, h⟩)
      obtain ⟨τ3, c1, c2, c3⟩ := accC_eq (c := 47) X a2 (by decide) (by decide)
      have g3 : xM f 47 true (pS f p (lr f p) + wd f (pS f p (lr f p))) = (false, pS f p (lr f p) + wd f (pS f p (lr f p))) := if_neg (fun h => g2 h.2)
      rw [g3] at c1 c2
      have c1' : f_X6_accepts 47 τ2 = _ := c1
      refine ⟨.inr (.inr τ3), ?_, τ3, ?_, c2, KR_t F1 (KR_t a3 (KR_5 c3)), ?_, ?_, ?_, fun h4 => ?_⟩
      · unfold f_X6_isRows_l22
        dsimp only
        rw [if_neg nn, a1, bind_s, decide_eq_true g1, if_neg t0, c1', bind_s, if_pos f0]
      · unfold xR
        dsimp only
        rw [decide_eq_true g1, if_pos rfl]
      · rw [c3.2 9 (by decide) (by decide), a4]
      · rw [c3.2 10 (by decide) (by decide), a5]
      · rw [c3.2 12 (by decide) (by decide), a6]
      · rw [c3.2 11 (by decide) (by decide), a7 h4]
    · refine ⟨.inr (.inl τ2), ?_, τ2, ?_, a2, KR_t F1 a3, a4, a5, a6, a7⟩
      · unfold f_X6_isRows_l22
        dsimp only
        rw [if_neg nn, a1, bind_s, decide_eq_false g1, if_pos f0]
      · unfold xR
        dsimp only
        rw [decide_eq_false g1, if_neg (by decide)])
  refine ⟨τ9, ?_, q3⟩
  have q1' : lp f_X6_isRows_l22 FU (0, up (up (up (up σ 99 9 0) 99 10 0) 99 11 0) 99 12 1) = some v := q1
  unfold f_X6_isRows f_X6_isRows_0
  rw [q1', bind_s, q2]
  cases h : (xR f p).1
  · rfl
  · rfl
/-- a shape's item behind its letter -/
def iP1 (f : Nat → Nat) (p : Nat) : Bool × Nat := xM f 58 (xR f p).1 (xR f p).2
def iP2 (f : Nat → Nat) (p : Nat) : Bool × Nat := xD f (iP1 f p).1 (iP1 f p).2
def iP3 (f : Nat → Nat) (p : Nat) : Bool × Nat := xM f 42 (iP2 f p).1 (iP2 f p).2
def iP4 (f : Nat → Nat) (p : Nat) : Bool × Nat := xN f (iP3 f p).1 (iP3 f p).2
theorem KI_R (h : KR σ τ) : KI σ τ := ⟨h.1, fun j hj => h.2 j (by omega) (by omega) (by omega)⟩
theorem shapeC_eq (X : TX f len) (T : CT f len p σ) : ∃ τ, f_X6_isShapeItem σ = some (nI (bN (iP4 f p).1), τ) ∧ CT f len (iP4 f p).2 τ ∧ KI σ τ ∧ ((iP4 f p).1 = true → τ 99 6 = nI (f (iP1 f p).2 - 48) ∧ τ 99 7 = nI (nv f (iP3 f p).2) ∧ τ 99 9 = nI (wd f p) ∧ τ 99 10 = nI (lr f p + 1) ∧ τ 99 12 = nI (bN (evn f p (lr f p + 1))) ∧ (wd f p ≤ 4 → τ 99 11 = nI (clm f p (lr f p + 1)))) := by
  obtain ⟨τ1, a1, a2, a3, a4, a5, a6, a7⟩ := rowsC_eq X T
  unfold f_X6_isShapeItem f_X6_isShapeItem_0
  rw [a1, bind_s]
  have F1 := KI_R a3
  have D1 : τ1 99 9 = nI (wd f p) ∧ τ1 99 10 = nI (lr f p + 1) ∧ τ1 99 12 = nI (bN (evn f p (lr f p + 1))) ∧ (wd f p ≤ 4 → τ1 99 11 = nI (clm f p (lr f p + 1))) := ⟨a4, a5, a6, a7⟩
  have keep : ∀ τ' τ'' : St, (∀ j, 9 ≤ j → τ'' 99 j = τ' 99 j) → (τ' 99 9 = nI (wd f p) ∧ τ' 99 10 = nI (lr f p + 1) ∧ τ' 99 12 = nI (bN (evn f p (lr f p + 1))) ∧ (wd f p ≤ 4 → τ' 99 11 = nI (clm f p (lr f p + 1)))) → (τ'' 99 9 = nI (wd f p) ∧ τ'' 99 10 = nI (lr f p + 1) ∧ τ'' 99 12 = nI (bN (evn f p (lr f p + 1))) ∧ (wd f p ≤ 4 → τ'' 99 11 = nI (clm f p (lr f p + 1)))) := fun τ' τ'' h D => by
    rw [h 9 (by decide), h 10 (by decide), h 12 (by decide), h 11 (by decide)]
    exact D
  clear a3 a4 a5 a6 a7
  rcases h1 : xR f p with ⟨b1, p1⟩
  rw [h1] at a2
  dsimp only at a2 ⊢
  cases b1
  · have e : iP4 f p = (false, p1) := by simp only [iP4, iP3, iP2, iP1, h1, xM_f, xN_f, xD_f]
    rw [if_pos f0, e]
    exact ⟨_, bzW_0 _, a2, F1, fun h => absurd (show false = true from h) (by decide)⟩
  · rw [if_neg t0]
    obtain ⟨τ2, b1, b2, b3⟩ := accC_eq (c := 58) X a2 (by decide) (by decide)
    have b1' : f_X6_accepts 58 τ1 = _ := b1
    rw [b1', bind_s]
    rcases h2 : iP1 f p with ⟨b2', p2⟩
    have g2 : xM f 58 true p1 = (b2', p2) := by rw [← h2]; unfold iP1; rw [h1]
    rw [g2] at b2 ⊢
    dsimp only at b2 ⊢
    have F2 := KI_t F1 (KI_5 b3)
    have D2 := keep τ1 τ2 (fun j hj => b3.2 j (by omega) (by omega)) D1
    cases b2'
    · have e : iP4 f p = (false, p2) := by simp only [iP4, iP3, iP2, h2, xM_f, xN_f, xD_f]
      rw [if_pos f0, e]
      exact ⟨_, bzW_0 _, b2, F2, fun h => absurd (show false = true from h) (by decide)⟩
    · rw [if_neg t0]
      obtain ⟨τ3, c1, c2, c3, c4, _⟩ := digC_eq X b2
      rw [c1, bind_s]
      rcases h3 : iP2 f p with ⟨b3', p3⟩
      have g3 : xD f true p2 = (b3', p3) := by rw [← h3]; unfold iP2; rw [h2]
      rw [g3] at c2 c4 ⊢
      dsimp only at c2 c4 ⊢
      have F3 := KI_t F2 (KI_5 c3)
      have D3 := keep τ2 τ3 (fun j hj => c3.2 j (by omega) (by omega)) D2
      cases b3'
      · have e : iP4 f p = (false, p3) := by simp only [iP4, iP3, h3, xM_f, xN_f]
        rw [if_pos f0, e]
        exact ⟨_, bzW_0 _, c2, F3, fun h => absurd (show false = true from h) (by decide)⟩
      · rw [if_neg t0, c4 rfl]
        have C4 : CT f len p3 (up τ3 99 6 (nI (f p2 - 48))) := CT_up c2 (by decide) (by decide)
        have F4 : KI σ (up τ3 99 6 (nI (f p2 - 48))) := KI_t F3 (KI_up _ _ (by decide))
        have D4 := keep τ3 (up τ3 99 6 (nI (f p2 - 48))) (fun j hj => up_j _ _ _ (by omega)) D3
        have w6 : (up τ3 99 6 (nI (f p2 - 48))) 99 6 = nI (f p2 - 48) := up_s ..
        generalize up τ3 99 6 (nI (f p2 - 48)) = τ4 at *
        obtain ⟨τ5, d1, d2, d3⟩ := accC_eq (c := 42) X C4 (by decide) (by decide)
        have d1' : f_X6_accepts 42 τ4 = _ := d1
        rw [d1', bind_s]
        rcases h4 : iP3 f p with ⟨b4', p4⟩
        have g4 : xM f 42 true p3 = (b4', p4) := by rw [← h4]; unfold iP3; rw [h3]
        rw [g4] at d2 ⊢
        dsimp only at d2 ⊢
        have F5 := KI_t F4 (KI_5 d3)
        have D5 := keep τ4 τ5 (fun j hj => d3.2 j (by omega) (by omega)) D4
        cases b4'
        · have e : iP4 f p = (false, p4) := by simp only [iP4, h4, xN_f]
          rw [if_pos f0, e]
          exact ⟨_, bzW_0 _, d2, F5, fun h => absurd (show false = true from h) (by decide)⟩
        · rw [if_neg t0]
          obtain ⟨τ6, i1, i2, i3, i4⟩ := numC_eq X d2
          rw [i1, bind_s]
          rcases h5 : iP4 f p with ⟨b5', p5⟩
          have g5 : xN f true p4 = (b5', p5) := by rw [← h5]; unfold iP4; rw [h4]
          rw [g5] at i2 i4 ⊢
          dsimp only at i2 i4 ⊢
          have F6 := KI_t F5 (KI_5 i3)
          have D6 := keep τ5 τ6 (fun j hj => i3.2 j (by omega) (by omega)) D5
          cases b5'
          · rw [if_pos f0]
            exact ⟨_, bzW_0 _, i2, F6, fun h => absurd (show false = true from h) (by decide)⟩
          · rw [if_neg t0, i4 rfl]
            refine ⟨_, bzW_1 _, CT_up i2 (by decide) (by decide), KI_t F6 (KI_up _ _ (by decide)), fun _ => ⟨?_, up_s .., ?_⟩⟩
            · rw [up_j _ _ _ (by decide), i3.2 6 (by decide) (by decide), d3.2 6 (by decide) (by decide), w6]
            · exact keep τ6 _ (fun j hj => up_j _ _ _ (by omega)) D6
