/-! PURE FACTS, 91: texts, a shape's rows, the class's -/
variable {len p c k C Ck : Nat} {f : Nat → Nat} {b e : Bool} {σ τ υ : St}
def ro (f : Nat → Nat) (p : Nat) : Bool := decide (f p = 35) || decide (f p = 46)
theorem ro_i : ro f p = true ↔ f p = 35 ∨ f p = 46 := by
  unfold ro
  rw [Bool.or_eq_true, decide_eq_true_iff, decide_eq_true_iff]
/-- how wide the row is that begins at p -/
def wdf (f : Nat → Nat) : Nat → Nat → Nat
  | 0, _ => 0
  | n + 1, p => if ro f p = true then wdf f n (p + 1) + 1 else 0
def wd (f : Nat → Nat) (p : Nat) : Nat := wdf f 71 p
theorem wdf_ok (X : TX f len) : ∀ n p, len < p + n → (∀ i, i < wdf f n p → ro f (p + i) = true) ∧ ¬ ro f (p + wdf f n p) = true := by
  intro n
  induction n with
  | zero =>
    intro p h
    refine ⟨fun i hi => absurd hi (Nat.not_lt_zero _), fun h2 => ?_⟩
    have := X.2.2 p (by omega)
    rcases ro_i.mp h2 with q | q
    · rw [show p + wdf f 0 p = p from rfl] at q; omega
    · rw [show p + wdf f 0 p = p from rfl] at q; omega
  | succ n ih =>
    intro p h
    unfold wdf
    by_cases e : ro f p = true
    · rw [if_pos e]
      obtain ⟨h1, h2⟩ := ih (p + 1) (by omega)
      refine ⟨fun i hi => ?_, by rw [show p + (wdf f n (p + 1) + 1) = p + 1 + wdf f n (p + 1) by omega]; exact h2⟩
      cases i with
      | zero => exact e
      | succ i =>
        have := h1 i (by omega)
        rw [show p + (i + 1) = p + 1 + i by omega]
        exact this
    · rw [if_neg e]
      exact ⟨fun i hi => absurd hi (Nat.not_lt_zero _), e⟩
theorem wd_ok (X : TX f len) (p : Nat) : (∀ i, i < wd f p → ro f (p + i) = true) ∧ ¬ ro f (p + wd f p) = true := wdf_ok X 71 p (by have := X.1; omega)
theorem ro_in (X : TX f len) (h : ro f p = true) : p < len := TX_in X (by rcases ro_i.mp h with q | q <;> omega)
theorem wd_le (X : TX f len) (hp : p ≤ len) : p + wd f p ≤ len := by
  rcases Nat.eq_zero_or_pos (wd f p) with h | h
  · omega
  · have := ro_in X ((wd_ok X p).1 (wd f p - 1) (by omega))
    omega
/-- a figure of the shape, at row k and column c -/
def hs (f : Nat → Nat) (k p c : Nat) : Bool := decide (c < 4) && decide (k < 4) && decide (f (p + c) = 35)
def rowN (f : Nat → Nat) (C k p m n : Nat) : Nat := fo (fun c a => if hs f k p c = true then a ||| 2 ^ (C * k + c) else a) n m
def K11 (σ τ : St) : Prop := (∀ a, a ≠ 99 → τ a = σ a) ∧ ∀ j, j ≠ 2 → j ≠ 11 → τ 99 j = σ 99 j
theorem cover_eq {i : Nat} (h9 : σ 99 9 = nI Ck) (h10 : σ 99 10 = nI k) (hC : Ck * k = C * k) (hk : k < 100) (hi : i < 100) : ∃ τ, f_X6_cover (nI i) σ = some τ ∧ (∀ a, a ≠ 99 → τ a = σ a) ∧ (∀ j, j ≠ 11 → τ 99 j = σ 99 j) ∧ ∀ m, C ≤ 4 → σ 99 11 = nI m → τ 99 11 = nI (if i < 4 ∧ k < 4 then m ||| 2 ^ (C * k + i) else m) := by
  unfold f_X6_cover f_X6_cover_0
  rw [h10, h9]
  by_cases a : i < 4
  · rw [if_neg (show ¬ (4 : Int32) ≤ nI i from nI_ge (a := i) (b := 4) a (by decide))]
    by_cases q : k < 4
    · rw [if_neg (show ¬ (4 : Int32) ≤ nI k from nI_ge (a := k) (b := 4) q (by decide))]
      refine ⟨_, rfl, fun a ha => up_k _ _ _ ha, fun j hj => up_j _ _ _ hj, fun m h4 hm => ?_⟩
      have hb : C * k ≤ 4 * 3 := Nat.mul_le_mul h4 (by omega)
      rw [up_s, hm, pk_mul, hC, nI_add, show (31 : Int32) = nI 31 from rfl, show (1 : Int32) = nI 1 from rfl, shl1 (by omega), nI_or, if_pos ⟨a, q⟩, Nat.add_comm i]
    · rw [if_pos (show (4 : Int32) ≤ nI k from nI_le (a := 4) (b := k) (by omega) (by omega))]
      exact ⟨_, rfl, fun _ _ => rfl, fun _ _ => rfl, fun m _ hm => by rw [if_neg (fun h => q h.2)]; exact hm⟩
  · rw [if_pos (show (4 : Int32) ≤ nI i from nI_le (a := 4) (b := i) (by omega) (by omega))]
    exact ⟨_, rfl, fun _ _ => rfl, fun _ _ => rfl, fun m _ hm => by rw [if_neg (fun h => a h.1)]; exact hm⟩
theorem rowlpC_eq (X : TX f len) (T : CT f len p σ) (h9 : σ 99 9 = nI Ck) (h10 : σ 99 10 = nI k) (hC : Ck * k = C * k) (hk : k < 100) : ∃ τ, lp f_X6_isRow_l4 FU (nI 0, nI 0, σ) = some (nI (wd f p), τ) ∧ CT f len (p + wd f p) τ ∧ K11 σ τ ∧ ∀ m, C ≤ 4 → σ 99 11 = nI m → τ 99 11 = nI (rowN f C k p m (wd f p)) := by
  have hw := wd_le X T.2.2.2
  have hl := X.1
  obtain ⟨w1, w2⟩ := wd_ok X p
  obtain ⟨v, q1, τ, rfl, q2⟩ := lp_fu (f := f_X6_isRow_l4) (fun i z => ∃ τ, z = (nI i, nI i, τ) ∧ CT f len (p + i) τ ∧ K11 σ τ ∧ ∀ m, C ≤ 4 → σ 99 11 = nI m → τ 99 11 = nI (rowN f C k p m i)) (fun v => ∃ τ, v = (nI (wd f p), τ) ∧ CT f len (p + wd f p) τ ∧ K11 σ τ ∧ ∀ m, C ≤ 4 → σ 99 11 = nI m → τ 99 11 = nI (rowN f C k p m (wd f p))) (wd f p) (by omega) (nI 0, nI 0, σ) ⟨σ, rfl, T, ⟨fun _ _ => rfl, fun _ _ _ => rfl⟩, fun m _ hm => hm⟩ (by
    rintro i z hi ⟨τ, rfl, T1, F1, M1⟩
    left
    have hin := ro_in X (w1 i hi)
    have x1 := X.2.1 (p + i)
    have nn : ¬ τ 99 1 ≤ nI i := by rw [T1.1]; exact nI_ge (by omega) (by omega)
    have rs : ∀ m, rowN f C k p m (i + 1) = if hs f k p i = true then rowN f C k p m i ||| 2 ^ (C * k + i) else rowN f C k p m i := fun m => rfl
    rcases ro_i.mp (w1 i hi) with q | q
    · obtain ⟨τ2, c1, c2, c3, c4⟩ := cover_eq (i := i) (σ := τ) (by rw [F1.2 9 (by decide) (by decide), h9]) (by rw [F1.2 10 (by decide) (by decide), h10]) hC hk (by omega)
      have T2 : CT f len (p + i) τ2 := CT_c (c2 100 (by decide)) (c3 1 (by decide)) (c3 2 (by decide)) T1
      refine ⟨(nI (i + 1), nI (i + 1), up τ2 99 2 (nI (p + i + 1))), ?_, _, rfl, CT_s T2 (by omega), ⟨fun a ha => by rw [up_k _ _ _ ha, c2 a ha, F1.1 a ha], fun j h1 h2 => by rw [up_j _ _ _ h1, c3 j h2, F1.2 j h1 h2]⟩, fun m h4 hm => ?_⟩
      · unfold f_X6_isRow_l4 f_X6_isRow_j30 f_X6_isRow_j44
        dsimp only
        rw [if_neg nn, nextC_eq X T1, bind_s, if_pos (show nI (f (p + i)) = 35 by rw [q]; rfl), bind_s, if_pos (show nI (f (p + i)) = 35 by rw [q]; rfl), c1, bind_s, T2.2.2.1, nI_1, nI_1]
      · rw [up_j _ _ _ (by decide), c4 _ h4 (M1 m h4 hm), rs]
        unfold hs
        rw [decide_eq_true q, Bool.and_true]
        by_cases h : i < 4 ∧ k < 4
        · rw [if_pos h, decide_eq_true h.1, decide_eq_true h.2]; rfl
        · rw [if_neg h, if_neg (fun g => h (by rw [Bool.and_eq_true, decide_eq_true_iff, decide_eq_true_iff] at g; exact g))]
    · have ne : ¬ nI (f (p + i)) = 35 := by rw [q]; decide
      refine ⟨(nI (i + 1), nI (i + 1), up τ 99 2 (nI (p + i + 1))), ?_, _, rfl, CT_s T1 (by omega), ⟨fun a ha => by rw [up_k _ _ _ ha, F1.1 a ha], fun j h1 h2 => by rw [up_j _ _ _ h1, F1.2 j h1 h2]⟩, fun m h4 hm => ?_⟩
      · unfold f_X6_isRow_l4 f_X6_isRow_j30 f_X6_isRow_j44
        dsimp only
        rw [if_neg nn, nextC_eq X T1, bind_s, if_neg ne, bind_s, if_pos (show nI (f (p + i)) = 46 by rw [q]; rfl), bind_s, if_neg ne, T1.2.2.1, nI_1, nI_1]
      · rw [up_j _ _ _ (by decide), M1 m h4 hm, rs, if_neg]
        unfold hs
        rw [decide_eq_false (show ¬ f (p + i) = 35 by omega), Bool.and_false]
        decide) (by
    rintro z ⟨τ, rfl, T1, F1, M1⟩
    refine ⟨_, ?_, τ, rfl, T1, F1, M1⟩
    have x1 := X.2.1 (p + wd f p)
    unfold f_X6_isRow_l4
    dsimp only
    by_cases q : len ≤ wd f p
    · rw [if_pos (show τ 99 1 ≤ nI (wd f p) by rw [T1.1]; exact nI_le q (by omega))]
    · have n1 : ¬ nI (f (p + wd f p)) = 35 := fun h => w2 (ro_i.mpr (Or.inl ((nI_eq (b := 35) (by omega) (by decide)).mp h)))
      have n2 : ¬ nI (f (p + wd f p)) = 46 := fun h => w2 (ro_i.mpr (Or.inr ((nI_eq (b := 46) (by omega) (by decide)).mp h)))
      rw [if_neg (show ¬ τ 99 1 ≤ nI (wd f p) by rw [T1.1]; exact nI_ge (by omega) (by omega)), nextC_eq X T1, bind_s, if_neg n1, bind_s, if_neg n2])
  exact ⟨τ, q1, q2⟩
def KR (σ τ : St) : Prop := (∀ a, a ≠ 99 → τ a = σ a) ∧ ∀ j, j ≠ 2 → j ≠ 5 → ¬ (9 ≤ j ∧ j ≤ 12) → τ 99 j = σ 99 j
theorem KR_t (h : KR σ τ) (h2 : KR τ υ) : KR σ υ := ⟨fun a ha => (h2.1 a ha).trans (h.1 a ha), fun j h3 h4 h5 => (h2.2 j h3 h4 h5).trans (h.2 j h3 h4 h5)⟩
theorem KR_5 (h : K5 σ τ) : KR σ τ := ⟨h.1, fun j h1 h2 _ => h.2 j h1 h2⟩
theorem KR_up (σ : St) {j : Nat} (v : Int32) (h : j = 2 ∨ 9 ≤ j ∧ j ≤ 12) : KR σ (up σ 99 j v) := ⟨fun a ha => up_k _ _ _ ha, fun i h1 h2 h3 => up_j _ _ _ (by omega)⟩
theorem KR_11 (h : K11 σ τ) : KR σ τ := ⟨h.1, fun j h1 _ h2 => h.2 j h1 (by omega)⟩
theorem rowC_eq (X : TX f len) (T : CT f len p σ) (h9 : σ 99 9 = nI Ck) (h10 : σ 99 10 = nI k) (h0 : k = 0 → C = wd f p) (h1 : k ≠ 0 → Ck = C) (hk : k < 100) (hC : C < 1000) (h12 : σ 99 12 = nI (bN e)) : ∃ τ, f_X6_isRow σ = some (nI (bN (decide (0 < wd f p))), τ) ∧ CT f len (p + wd f p) τ ∧ KR σ τ ∧ τ 99 9 = nI C ∧ τ 99 10 = nI (k + 1) ∧ τ 99 12 = nI (bN (e && decide (wd f p = C))) ∧ ∀ m, C ≤ 4 → σ 99 11 = nI m → τ 99 11 = nI (rowN f C k p m (wd f p)) := by
  have hw := wd_le X T.2.2.2
  have hl := X.1
  obtain ⟨τ, a1, a2, a3, a4⟩ := rowlpC_eq (C := C) X T h9 h10 (by
    by_cases q : k = 0
    · subst q; rw [Nat.mul_zero, Nat.mul_zero]
    · rw [h1 q]) hk
  have b10 : τ 99 10 = nI k := by rw [a3.2 10 (by decide) (by decide), h10]
  have b12 : τ 99 12 = nI (bN e) := by rw [a3.2 12 (by decide) (by decide), h12]
  have fin : ∀ τ2 w, τ2 99 10 = nI k → True ∧ f_X6_isRow_j96 (nI (wd f p)) (nI (bN w)) τ2 = some (nI (bN (decide (0 < wd f p))), up (up τ2 99 12 (nI (bN w))) 99 10 (nI (k + 1))) := fun τ2 w h => by
    refine ⟨trivial, ?_⟩
    unfold f_X6_isRow_j96
    have ok : okz (nI (bN w)) = true := by cases w <;> decide
    rw [ok, up_j _ _ _ (show (10 : Nat) ≠ 12 by decide), h, nI_1]
    show (if nI (wd f p) ≤ 0 then _ else _) = _
    by_cases q : 0 < wd f p
    · rw [if_neg (show ¬ nI (wd f p) ≤ 0 from nI_ge (a := 0) q (by omega)), decide_eq_true q]; rfl
    · rw [if_pos (show nI (wd f p) ≤ 0 from nI_le (b := 0) (by omega) (by decide)), decide_eq_false q]; rfl
  have mid : ∀ τ2, τ2 99 10 = nI k → τ2 99 12 = nI (bN e) → τ2 99 9 = nI C → f_X6_isRow_j75 (nI (wd f p)) τ2 = some (nI (bN (decide (0 < wd f p))), up (up τ2 99 12 (nI (bN (e && decide (wd f p = C))))) 99 10 (nI (k + 1))) := fun τ2 g1 g2 g3 => by
    unfold f_X6_isRow_j75 f_X6_isRow_j95
    rw [g2, g3]
    cases e
    · rw [if_pos (by rfl)]
      exact (fin τ2 false g1).2
    · rw [if_neg (by decide), Bool.true_and]
      by_cases q : wd f p = C
      · rw [if_pos (show nI (wd f p) = nI C by rw [q]), decide_eq_true q]
        exact (fin τ2 true g1).2
      · rw [if_neg (show ¬ nI (wd f p) = nI C by rw [nI_eqI (by omega) (by omega)]; exact q), decide_eq_false q]
        exact (fin τ2 false g1).2
  unfold f_X6_isRow f_X6_isRow_0
  rw [show (0 : Int32) = nI 0 from rfl, a1, bind_s]
  dsimp only
  unfold f_X6_isRow_j63
  have bz : ∀ (w : Bool) (τ9 : St), bzW (some (nI (bN w), τ9)) = some (nI (bN w), τ9) := fun w τ9 => by cases w <;> rfl
  by_cases q : k = 0
  · have d10 : (up τ 99 9 (nI (wd f p))) 99 10 = nI k := by rw [up_j _ _ _ (by decide), b10]
    have d12 : (up τ 99 9 (nI (wd f p))) 99 12 = nI (bN e) := by rw [up_j _ _ _ (by decide), b12]
    have d9 : (up τ 99 9 (nI (wd f p))) 99 9 = nI C := by rw [up_s, h0 q]
    rw [if_pos (by rw [b10, q]; rfl), mid _ d10 d12 d9, bz]
    refine ⟨_, rfl, CT_up (CT_up (CT_up a2 (by decide) (by decide)) (by decide) (by decide)) (by decide) (by decide), KR_t (KR_11 a3) (KR_t (KR_up _ _ (by omega)) (KR_t (KR_up _ _ (by omega)) (KR_up _ _ (by omega)))), ?_, up_s .., ?_, fun m h4 hm => ?_⟩
    · rw [up_j _ _ _ (by decide), up_j _ _ _ (by decide), d9]
    · rw [up_j _ _ _ (by decide), up_s]
    · rw [up_j _ _ _ (by decide), up_j _ _ _ (by decide), up_j _ _ _ (by decide), a4 m h4 hm]
  · have d9 : τ 99 9 = nI C := by rw [a3.2 9 (by decide) (by decide), h9, h1 q]
    rw [if_neg (by rw [b10]; exact nI_ne0 (by omega) (by omega)), mid _ b10 b12 d9, bz]
    refine ⟨_, rfl, CT_up (CT_up a2 (by decide) (by decide)) (by decide) (by decide), KR_t (KR_11 a3) (KR_t (KR_up _ _ (by omega)) (KR_up _ _ (by omega))), ?_, up_s .., ?_, fun m h4 hm => ?_⟩
    · rw [up_j _ _ _ (by decide), up_j _ _ _ (by decide), d9]
    · rw [up_j _ _ _ (by decide), up_s]
    · rw [up_j _ _ _ (by decide), up_j _ _ _ (by decide), a4 m h4 hm]
