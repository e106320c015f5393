/-! PURE FACTS, 17: rows that change, and stay good (spoiling, shapes, parts) -/
variable {k : Nat} {R : Nat → Nat} {σ : St}
theorem rUse_n {s : Nat} {u : Nat → Nat} (hs : s < 6) : (∀ i, i < 21 → rUse R s u i = R i) ∧ (∀ i, 621 ≤ i → rUse R s u i = R i) ∧ (∀ j, j < 100 → us (rUse R s u) s j = u j) ∧ ∀ s' j, s' ≠ s → s' < 6 → j < 100 → us (rUse R s u) s' j = us R s' j := by
  refine ⟨fun i hi => ?_, fun i hi => ?_, fun j hj => ?_, fun s' j hs' h6 hj => ?_⟩
  · unfold rUse; ((repeat' split) <;> first | rfl | omega | (congr 1; omega))
  · unfold rUse; ((repeat' split) <;> first | rfl | omega | (congr 1; omega))
  · unfold us rUse; ((repeat' split) <;> first | rfl | omega | (congr 1; omega))
  · unfold us rUse; ((repeat' split) <;> first | rfl | omega | (congr 1; omega))
theorem rUse_S (G : Good R) {s : Nat} {u : Nat → Nat} (hs : s < 6) {p : Nat} (hp : p < R 2) : SmP R (rUse R s u) p p := by
  obtain ⟨n1, n2, n3, n4⟩ := rUse_n (R := R) (s := s) (u := u) hs
  have g0 := G.1
  exact SmP_hi G n2 (fun s hs => n1 _ (by omega)) hp
theorem rUse_G (G : Good R) {s : Nat} {u : Nat → Nat} (hs : s < R 0) (hu : ∀ j, j < 100 → u j ≤ 1) (hh : ∀ p j, p < R 2 → hit R p s j = true → u j = 1) : Good (rUse R s u) := by
  have g0 := G.1
  obtain ⟨n1, n2, n3, n4⟩ := rUse_n (R := R) (s := s) (u := u) (by omega)
  have hS : ∀ p, p < R 2 → SmP R (rUse R s u) p p := fun p hp => rUse_S G (by omega) hp
  have G' := G
  obtain ⟨g0, g1, g2, g3, g4, g5, g6, g7⟩ := G
  have m0 := n1 0 (by omega)
  have m1 := n1 1 (by omega)
  have m2 := n1 2 (by omega)
  refine ⟨by omega, by omega, by omega, fun s' hs' => ?_, fun h hh => ?_, fun p hp => ?_, fun p q s d hp hq h1 h2 => ?_, fun i hi => ?_⟩
  · have := g3 s' (by omega)
    unfold GSh at *
    have e1 : sc (rUse R s u) s' = sc R s' := n1 _ (by omega)
    have e2 : sr (rUse R s u) s' = sr R s' := n1 _ (by omega)
    rw [e1, e2, n1 _ (by omega)]
    refine ⟨this.1, this.2.1, this.2.2.1, this.2.2.2.1, this.2.2.2.2.1, fun d hd => ?_⟩
    by_cases e : s' = s
    · subst e; rw [n3 d hd]; exact hu d hd
    · rw [n4 s' d e (by omega) hd]; exact this.2.2.2.2.2 d hd
  · have := g4 h (by omega)
    exact GHp_c this (n2 _ (by omega)) (n2 _ (by omega)) (n2 _ (by omega)) (n2 _ (by omega)) (by rw [n2 _ (by omega)]; exact this.2.2.2)
  · have hp' : p < R 2 := by omega
    have P := g5 p hp'
    have e2 : sr (rUse R s u) (R (681 + p)) = sr R (R (681 + p)) := n1 _ (by have := P.2.1; omega)
    refine GPt_c (hS p hp') P (by omega) (by omega) e2 (fun k hk hb => ?_)
    have hc := (cl_xy G' hp' hb).2.2.2.2.2.1
    by_cases e : R (681 + p) = s
    · rw [e, n3 _ hc]
      exact hh p _ hp' (hit_i.mpr ⟨e, k, hk, hb, rfl⟩)
    · rw [n4 _ _ e (by have := P.2.1; omega) hc]
      exact P.2.2.2.2.2 k hk hb
  · rw [(SmP_e (hS p (by omega))).2.2.2.2] at h1
    rw [(SmP_e (hS q (by omega))).2.2.2.2] at h2
    exact g6 p q s d (by omega) (by omega) h1 h2
  · rw [n2 i (by omega)]
    exact g7 i hi
theorem rUse_on (G : Good R) {s : Nat} {u : Nat → Nat} (hs : s < R 0) : (∀ s' d, ck (rUse R s u) s' d = ck R s' d) ∧ (∀ d, d < 100 → on (rUse R s u) s d = if ck R s d = 1 then u d else ck R s d) ∧ ∀ s' d, s' ≠ s → s' < R 0 → d < 100 → on (rUse R s u) s' d = on R s' d := by
  have g0 := G.1
  obtain ⟨n1, n2, n3, n4⟩ := rUse_n (R := R) (s := s) (u := u) (by omega)
  have hck : ∀ s' d, ck (rUse R s u) s' d = ck R s' d := fun s' d => ck_c (n1 2 (by omega)) (fun p hp => rUse_S G (by omega) hp) s' d
  refine ⟨hck, fun d hd => ?_, fun s' d hs' h0 hd => ?_⟩
  · unfold on
    rw [hck, n3 d hd]
  · unfold on
    rw [hck, n4 s' d hs' (by omega) hd]
theorem rShape_n {c r m u st : Nat} (h1 : R 1 < 8) : rShape R c r m u st 1 = R 1 + 1 ∧ rShape R c r m u st (621 + R 1) = c ∧ rShape R c r m u st (629 + R 1) = r ∧ rShape R c r m u st (637 + R 1) = m ∧ rShape R c r m u st (645 + R 1) = u ∧ rShape R c r m u st (653 + R 1) = st ∧ (∀ i, i < 621 → i ≠ 1 → rShape R c r m u st i = R i) ∧ (∀ i, 661 ≤ i → rShape R c r m u st i = R i) ∧ ∀ h, h < R 1 → rShape R c r m u st (621 + h) = R (621 + h) ∧ rShape R c r m u st (629 + h) = R (629 + h) ∧ rShape R c r m u st (637 + h) = R (637 + h) ∧ rShape R c r m u st (645 + h) = R (645 + h) ∧ rShape R c r m u st (653 + h) = R (653 + h) := by
  refine ⟨?_, ?_, ?_, ?_, ?_, ?_, fun i hi h2 => ?_, fun i hi => ?_, fun h hh => ⟨?_, ?_, ?_, ?_, ?_⟩⟩ <;> (unfold rShape; ((repeat' split) <;> first | rfl | omega | (congr 1; omega)))
theorem rShape_S (G : Good R) {c r m u st : Nat} (h1 : R 1 < 8) {p : Nat} (hp : p < R 2) : SmP R (rShape R c r m u st) p p := by
  obtain ⟨n1, _, _, _, _, _, n7, n8, n9⟩ := rShape_n (R := R) (c := c) (r := r) (m := m) (u := u) (st := st) h1
  have P := G.2.2.2.2.2.1 p hp
  have := G.1
  obtain ⟨q1, q2, q3, _⟩ := n9 _ P.1
  exact ⟨n8 _ (by omega), n8 _ (by omega), n8 _ (by omega), n8 _ (by omega), n8 _ (by omega), q1, q2, q3, n7 _ (by have := P.2.1; omega) (by omega)⟩
theorem rShape_G (G : Good R) {c r m u st : Nat} (h1 : R 1 < 8) (hS : 1 ≤ c ∧ c ≤ 4 ∧ 1 ≤ r ∧ r ≤ 4 ∧ m < 2 ^ (c * r)) (hF : Ful c r m) (hu : u ≤ 2) (hst : st ≤ 99) : Good (rShape R c r m u st) := by
  obtain ⟨n1, n2, n3, n4, n5, n6, n7, n8, n9⟩ := rShape_n (R := R) (c := c) (r := r) (m := m) (u := u) (st := st) h1
  have hSm : ∀ p, p < R 2 → SmP R (rShape R c r m u st) p p := fun p hp => rShape_S G h1 hp
  have G' := G
  obtain ⟨g0, g1, g2, g3, g4, g5, g6, g7⟩ := G
  have m0 := n7 0 (by omega) (by omega)
  have m2 := n7 2 (by omega) (by omega)
  refine ⟨by omega, by omega, by omega, fun s' hs' => ?_, fun h hh => ?_, fun p hp => ?_, fun p q s d hp hq h1 h2 => ?_, fun i hi => ?_⟩
  · have := g3 s' (by omega)
    unfold GSh sc sr us at *
    rw [n7 _ (by omega) (by omega), n7 _ (by omega) (by omega), n7 _ (by omega) (by omega)]
    exact ⟨this.1, this.2.1, this.2.2.1, this.2.2.2.1, this.2.2.2.2.1, fun d hd => by rw [n7 _ (by omega) (by omega)]; exact this.2.2.2.2.2 d hd⟩
  · by_cases e : h = R 1
    · subst e
      unfold GHp SM
      rw [n2, n3, n4, n5, n6]
      exact ⟨hS, hF, hu, hst⟩
    · have hh' : h < R 1 := by omega
      obtain ⟨q1, q2, q3, q4, q5⟩ := n9 h hh'
      have := g4 h hh'
      exact GHp_c this q1 q2 q3 q4 (by rw [q5]; exact this.2.2.2)
  · have hp' : p < R 2 := by omega
    have P := g5 p hp'
    have e2 : sr (rShape R c r m u st) (R (681 + p)) = sr R (R (681 + p)) := n7 _ (by have := P.2.1; omega) (by omega)
    refine GPt_c (hSm p hp') P (by omega) (by omega) e2 (fun k hk hb => ?_)
    have hc := (cl_xy G' hp' hb).2.2.2.2.2.1
    unfold us
    rw [n7 _ (by have := P.2.1; omega) (by omega)]
    exact P.2.2.2.2.2 k hk hb
  · rw [(SmP_e (hSm p (by omega))).2.2.2.2] at h1
    rw [(SmP_e (hSm q (by omega))).2.2.2.2] at h2
    exact g6 p q s d (by omega) (by omega) h1 h2
  · rw [n8 i (by omega)]
    exact g7 i hi
theorem rShape_on (G : Good R) {c r m u st : Nat} (h1 : R 1 < 8) : (∀ s d, ck (rShape R c r m u st) s d = ck R s d) ∧ ∀ s d, s < R 0 → d < 100 → on (rShape R c r m u st) s d = on R s d := by
  obtain ⟨n1, n2, n3, n4, n5, n6, n7, n8, n9⟩ := rShape_n (R := R) (c := c) (r := r) (m := m) (u := u) (st := st) h1
  have g0 := G.1
  have hck : ∀ s d, ck (rShape R c r m u st) s d = ck R s d := fun s d => ck_c (n7 2 (by omega) (by omega)) (fun p hp => rShape_S G h1 hp) s d
  refine ⟨hck, fun s d hs hd => ?_⟩
  unfold on us
  rw [hck, n7 _ (by omega) (by omega)]
/-- a new part: its cells, with the field's width w and the set m -/
def ncl (R : Nat → Nat) (s x y w k : Nat) : Nat := sc R s * (y + k / w) + (x + k % w)
def nhit (R : Nat → Nat) (h s x y t s' c : Nat) : Bool := decide (s = s') && ex (fun k => decide (bit (tm R h t) k = 1) && decide (ncl R s x y (tc R h t) k = c)) 16
/-- the shape can be placed so -/
def Fits (R : Nat → Nat) (h s x y t : Nat) : Prop := x + tc R h t ≤ sc R s ∧ y + tr R h t ≤ sr R s ∧ ∀ k, k < 16 → bit (tm R h t) k = 1 → on R s (ncl R s x y (tc R h t) k) = 1
theorem rPart_n {h s x y t : Nat} (h2 : R 2 < 20) (hh : h < 8) : rPart R h s x y t 2 = R 2 + 1 ∧ rPart R h s x y t (661 + R 2) = h ∧ rPart R h s x y t (681 + R 2) = s ∧ rPart R h s x y t (701 + R 2) = x ∧ rPart R h s x y t (721 + R 2) = y ∧ rPart R h s x y t (741 + R 2) = t ∧ rPart R h s x y t (653 + h) = R (653 + h) - 1 ∧ (∀ i, i < 661 → i ≠ 2 → i ≠ 653 + h → rPart R h s x y t i = R i) ∧ (∀ i, 761 ≤ i → rPart R h s x y t i = R i) ∧ ∀ p, p < R 2 → rPart R h s x y t (661 + p) = R (661 + p) ∧ rPart R h s x y t (681 + p) = R (681 + p) ∧ rPart R h s x y t (701 + p) = R (701 + p) ∧ rPart R h s x y t (721 + p) = R (721 + p) ∧ rPart R h s x y t (741 + p) = R (741 + p) := by
  refine ⟨?_, ?_, ?_, ?_, ?_, ?_, ?_, fun i hi h3 h4 => ?_, fun i hi => ?_, fun p hp => ⟨?_, ?_, ?_, ?_, ?_⟩⟩ <;> (unfold rPart; ((repeat' split) <;> first | rfl | omega | (congr 1; omega)))
theorem rPart_S (G : Good R) {h s x y t : Nat} (h2 : R 2 < 20) (hh : h < R 1) {p : Nat} (hp : p < R 2) : SmP R (rPart R h s x y t) p p := by
  have g1 := G.2.1
  obtain ⟨n1, _, _, _, _, _, _, n7, n8, n9⟩ := rPart_n (R := R) (h := h) (s := s) (x := x) (y := y) (t := t) h2 (by omega)
  have P := G.2.2.2.2.2.1 p hp
  have := G.1
  obtain ⟨q1, q2, q3, q4, q5⟩ := n9 p hp
  have p1 := P.1
  have p2 := P.2.1
  exact ⟨q1, q2, q3, q4, q5, n7 _ (by omega) (by omega) (by omega), n7 _ (by omega) (by omega) (by omega), n7 _ (by omega) (by omega) (by omega), n7 _ (by omega) (by omega) (by omega)⟩
theorem rPart_N (G : Good R) {h s x y t : Nat} (h2 : R 2 < 20) (hh : h < R 1) (hs : s < R 0) : pcw (rPart R h s x y t) (R 2) = tc R h t ∧ prh (rPart R h s x y t) (R 2) = tr R h t ∧ pm (rPart R h s x y t) (R 2) = tm R h t ∧ (∀ k, cl (rPart R h s x y t) (R 2) k = ncl R s x y (tc R h t) k) ∧ ∀ s' c, hit (rPart R h s x y t) (R 2) s' c = nhit R h s x y t s' c := by
  have g0 := G.1
  have g1 := G.2.1
  obtain ⟨n1, n2, n3, n4, n5, n6, _, n7, n8, n9⟩ := rPart_n (R := R) (h := h) (s := s) (x := x) (y := y) (t := t) h2 (by omega)
  have e := tm_c (R := R) (R' := rPart R h s x y t) (h := h) (n7 _ (by omega) (by omega) (by omega)) (n7 _ (by omega) (by omega) (by omega)) (n7 _ (by omega) (by omega) (by omega)) t
  have e1 : pcw (rPart R h s x y t) (R 2) = tc R h t := by unfold pcw; rw [n2, n6]; exact e.1
  have e2 : prh (rPart R h s x y t) (R 2) = tr R h t := by unfold prh; rw [n2, n6]; exact e.2.1
  have e3 : pm (rPart R h s x y t) (R 2) = tm R h t := by unfold pm; rw [n2, n6]; exact e.2.2
  have e4 : ∀ k, cl (rPart R h s x y t) (R 2) k = ncl R s x y (tc R h t) k := fun k => by
    have e5 : sc (rPart R h s x y t) s = sc R s := n7 _ (by omega) (by omega) (by omega)
    unfold cl ncl
    rw [n3, e5, n4, n5, e1]
  refine ⟨e1, e2, e3, e4, fun s' c => ?_⟩
  unfold hit nhit
  rw [n3, e3]
  simp only [e4]
theorem nhit_i {h s x y t s' c : Nat} : nhit R h s x y t s' c = true ↔ s = s' ∧ ∃ k, k < 16 ∧ bit (tm R h t) k = 1 ∧ ncl R s x y (tc R h t) k = c := by
  unfold nhit
  rw [Bool.and_eq_true, ex_i]
  simp
theorem ncl_lt (G : Good R) {h s x y t k : Nat} (hh : h < R 1) (hs : s < R 0) (hx : x + tc R h t ≤ sc R s) (hy : y + tr R h t ≤ sr R s) (hb : bit (tm R h t) k = 1) : ncl R s x y (tc R h t) k < sc R s * sr R s ∧ k / tc R h t < tr R h t ∧ k % tc R h t < tc R h t ∧ k < 16 := by
  have hH := (GH G hh).2.1
  have h1 := bit_hi (tm_lt hH t) hb
  have h2 := SM_t hH t
  have h3 : k / tc R h t < tr R h t := Nat.div_lt_of_lt_mul h1
  have h4 : k % tc R h t < tc R h t := Nat.mod_lt _ (by omega)
  have h5 : tc R h t * tr R h t ≤ 4 * 4 := Nat.mul_le_mul h2.2.1 h2.2.2.2
  exact ⟨xy_lt (by omega) (by omega), h3, h4, by omega⟩
theorem on1 {s c : Nat} (G : Good R) (hs : s < R 0) (hc : c < sc R s * sr R s) (h : on R s c = 1) : us R s c = 1 ∧ ck R s c = 1 := by
  rcases on_cases G hs hc with e | e | e
  · omega
  · exact e.2
  · omega
theorem rPart_G (G : Good R) {h s x y t : Nat} (h2 : R 2 < 20) (hh : h < R 1) (hs : s < R 0) (ht : t < 4) (F : Fits R h s x y t) : Good (rPart R h s x y t) := by
  obtain ⟨n1, n2, n3, n4, n5, n6, n10, n7, n8, n9⟩ := rPart_n (R := R) (h := h) (s := s) (x := x) (y := y) (t := t) h2 (by have := G.2.1; omega)
  have hSm : ∀ p, p < R 2 → SmP R (rPart R h s x y t) p p := fun p hp => rPart_S G h2 hh hp
  have hN := rPart_N (x := x) (y := y) (t := t) G h2 hh hs
  obtain ⟨f1, f2, f3⟩ := F
  have hnew : ∀ p s' d, p < R 2 → hit R p s' d = true → nhit R h s x y t s' d = true → False := fun p s' d hp h1 h3 => by
    obtain ⟨e1, k, e2, e3, e4⟩ := nhit_i.mp h3
    subst e1
    have h4 := on1 G hs (ncl_lt G hh hs f1 f2 e3).1 (f3 k e2 e3)
    rw [e4] at h4
    have := (ck_1 G).mp h4.2 p hp
    rw [this] at h1
    cases h1
  have G' := G
  obtain ⟨g0, g1, g2, g3, g4, g5, g6, g7⟩ := G
  have m0 := n7 0 (by omega) (by omega) (by omega)
  have m2 := n7 1 (by omega) (by omega) (by omega)
  refine ⟨by omega, by omega, by omega, fun s' hs' => ?_, fun h' hh' => ?_, fun p hp => ?_, fun p q s' d hp hq h1 h3 => ?_, fun i hi => ?_⟩
  · have := g3 s' (by omega)
    unfold GSh sc sr us at *
    rw [n7 _ (by omega) (by omega) (by omega), n7 _ (by omega) (by omega) (by omega), n7 _ (by omega) (by omega) (by omega)]
    exact ⟨this.1, this.2.1, this.2.2.1, this.2.2.2.1, this.2.2.2.2.1, fun d hd => by rw [n7 _ (by omega) (by omega) (by omega)]; exact this.2.2.2.2.2 d hd⟩
  · have := g4 h' (by omega)
    refine GHp_c this (n7 _ (by omega) (by omega) (by omega)) (n7 _ (by omega) (by omega) (by omega)) (n7 _ (by omega) (by omega) (by omega)) (n7 _ (by omega) (by omega) (by omega)) ?_
    by_cases e : h' = h
    · subst e
      have := this.2.2.2
      rw [n10]
      omega
    · rw [n7 _ (by omega) (by omega) (by omega)]
      exact this.2.2.2
  · by_cases e : p = R 2
    · subst e
      obtain ⟨k1, k2, k3, k4, k5⟩ := hN
      have e5 : sc (rPart R h s x y t) s = sc R s := n7 _ (by omega) (by omega) (by omega)
      have e6 : sr (rPart R h s x y t) s = sr R s := n7 _ (by omega) (by omega) (by omega)
      unfold GPt
      rw [n2, n3, n4, n5, n6, k1, k2, k3, e5, e6]
      refine ⟨by omega, by omega, ht, f1, f2, fun k hk hb => ?_⟩
      rw [k4]
      have h6 := ncl_lt G' hh hs f1 f2 hb
      have h7 := (on1 G' hs h6.1 (f3 k hk hb)).1
      have h8 := (GS G' hs).2.2.2.2.2.2.1
      unfold us at *
      rw [n7 _ (by omega) (by omega) (by omega)]
      exact h7
    · have hp' : p < R 2 := by omega
      have P := g5 p hp'
      have e2 : sr (rPart R h s x y t) (R (681 + p)) = sr R (R (681 + p)) := n7 _ (by have := P.2.1; omega) (by omega) (by have := P.2.1; omega)
      refine GPt_c (hSm p hp') P (by omega) (by omega) e2 (fun k hk hb => ?_)
      have hc := (cl_xy G' hp' hb).2.2.2.2.2.1
      unfold us
      rw [n7 _ (by have := P.2.1; omega) (by omega) (by have := P.2.1; omega)]
      exact P.2.2.2.2.2 k hk hb
  · by_cases e : p = R 2
    · by_cases e' : q = R 2
      · omega
      · rw [e, hN.2.2.2.2] at h1
        rw [(SmP_e (hSm q (by omega))).2.2.2.2] at h3
        exact absurd h1 (fun h1 => hnew q s' d (by omega) h3 h1)
    · by_cases e' : q = R 2
      · rw [e', hN.2.2.2.2] at h3
        rw [(SmP_e (hSm p (by omega))).2.2.2.2] at h1
        exact absurd h3 (fun h3 => hnew p s' d (by omega) h1 h3)
      · rw [(SmP_e (hSm p (by omega))).2.2.2.2] at h1
        rw [(SmP_e (hSm q (by omega))).2.2.2.2] at h3
        exact g6 p q s' d (by omega) (by omega) h1 h3
  · rw [n8 i (by omega)]
    exact g7 i hi
theorem rPart_on (G : Good R) {h s x y t : Nat} (h2 : R 2 < 20) (hh : h < R 1) (hs : s < R 0) : (∀ s' d, ck (rPart R h s x y t) s' d = if nhit R h s x y t s' d = true then R 2 + 2 else ck R s' d) ∧ ∀ s' d, s' < R 0 → d < 100 → on (rPart R h s x y t) s' d = if nhit R h s x y t s' d = true then R 2 + 2 else on R s' d := by
  have g0 := G.1
  obtain ⟨n1, n2, n3, n4, n5, n6, n10, n7, n8, n9⟩ := rPart_n (R := R) (h := h) (s := s) (x := x) (y := y) (t := t) h2 (by have := G.2.1; omega)
  have hck : ∀ s' d, ck (rPart R h s x y t) s' d = if nhit R h s x y t s' d = true then R 2 + 2 else ck R s' d := fun s' d => by
    unfold ck
    rw [n1]
    show (if hit (rPart R h s x y t) (R 2) s' d = true then R 2 + 2 else _) = _
    rw [(rPart_N G h2 hh hs).2.2.2.2]
    congr 1
    exact fo_c (fun p v hp => by rw [(SmP_e (rPart_S G h2 hh hp)).2.2.2.2])
  refine ⟨hck, fun s' d hs' hd => ?_⟩
  unfold on
  rw [hck]
  by_cases e : nhit R h s x y t s' d = true
  · rw [if_pos e, if_pos e, if_neg (by omega)]
  · rw [if_neg e, if_neg e]
    unfold us
    rw [n7 _ (by omega) (by omega) (by omega)]
