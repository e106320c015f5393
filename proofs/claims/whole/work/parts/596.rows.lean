/-! PURE FACTS, 16: rows that change, and stay good -/
variable {k : Nat} {R : Nat → Nat} {σ : St}
theorem tm_c {R' : Nat → Nat} {h : Nat} (e1 : R' (621 + h) = R (621 + h)) (e2 : R' (629 + h) = R (629 + h)) (e3 : R' (637 + h) = R (637 + h)) (t : Nat) : tc R' h t = tc R h t ∧ tr R' h t = tr R h t ∧ tm R' h t = tm R h t := by
  have h1 : ∀ t, tc R' h t = tc R h t := fun t => by unfold tc; rw [e1, e2]
  have h2 : ∀ t, tr R' h t = tr R h t := fun t => by unfold tr; rw [e1, e2]
  refine ⟨h1 t, h2 t, ?_⟩
  induction t with
  | zero => exact e3
  | succ t ih =>
    show qt (tc R' h t) (tr R' h t) (tm R' h t) = qt (tc R h t) (tr R h t) (tm R h t)
    rw [h1, h2, ih]
/-- part q of R' is part p of R -/
def SmP (R R' : Nat → Nat) (p q : Nat) : Prop := R' (661 + q) = R (661 + p) ∧ R' (681 + q) = R (681 + p) ∧ R' (701 + q) = R (701 + p) ∧ R' (721 + q) = R (721 + p) ∧ R' (741 + q) = R (741 + p) ∧ R' (621 + R (661 + p)) = R (621 + R (661 + p)) ∧ R' (629 + R (661 + p)) = R (629 + R (661 + p)) ∧ R' (637 + R (661 + p)) = R (637 + R (661 + p)) ∧ sc R' (R (681 + p)) = sc R (R (681 + p))
theorem SmP_e {R' : Nat → Nat} {p q : Nat} (S : SmP R R' p q) : pcw R' q = pcw R p ∧ prh R' q = prh R p ∧ pm R' q = pm R p ∧ (∀ k, cl R' q k = cl R p k) ∧ ∀ s c, hit R' q s c = hit R p s c := by
  obtain ⟨a1, a2, a3, a4, a5, a6, a7, a8, a9⟩ := S
  have h := tm_c (R := R) (R' := R') (h := R (661 + p)) a6 a7 a8 (R (741 + p))
  have h1 : pcw R' q = pcw R p := by unfold pcw; rw [a1, a5]; exact h.1
  have h2 : prh R' q = prh R p := by unfold prh; rw [a1, a5]; exact h.2.1
  have h3 : pm R' q = pm R p := by unfold pm; rw [a1, a5]; exact h.2.2
  have h4 : ∀ k, cl R' q k = cl R p k := fun k => by unfold cl; rw [a2, a9, a3, a4, h1]
  refine ⟨h1, h2, h3, h4, fun s c => ?_⟩
  unfold hit
  rw [a2, h3]
  simp only [h4]
theorem fo_c {B : Type} {g h : Nat → B → B} {b : B} {n : Nat} (e : ∀ i b, i < n → g i b = h i b) : fo g n b = fo h n b := by
  induction n with
  | zero => rfl
  | succ n ih =>
    show g n (fo g n b) = h n (fo h n b)
    rw [ih (fun i b hi => e i b (Nat.lt_succ_of_lt hi)), e n _ (Nat.lt_succ_self n)]
theorem ck_c {R' : Nat → Nat} (e : R' 2 = R 2) (S : ∀ p, p < R 2 → SmP R R' p p) (s c : Nat) : ck R' s c = ck R s c := by
  unfold ck
  rw [e]
  exact fo_c (fun p v hp => by rw [(SmP_e (S p hp)).2.2.2.2 s c])
/-- a new sheet, with the cells u -/
def rSheet (R : Nat → Nat) (c r g : Nat) (u : Nat → Nat) : Nat → Nat := fun i => if i = 0 then R 0 + 1 else if i = 3 + R 0 then c else if i = 9 + R 0 then r else if i = 15 + R 0 then g else if 21 + 100 * R 0 ≤ i ∧ i < 121 + 100 * R 0 then u (i - (21 + 100 * R 0)) else R i
/-- a sheet's cells are now u -/
def rUse (R : Nat → Nat) (s : Nat) (u : Nat → Nat) : Nat → Nat := fun i => if 21 + 100 * s ≤ i ∧ i < 121 + 100 * s then u (i - (21 + 100 * s)) else R i
def rShape (R : Nat → Nat) (c r m u st : Nat) : Nat → Nat := fun i => if i = 1 then R 1 + 1 else if i = 621 + R 1 then c else if i = 629 + R 1 then r else if i = 637 + R 1 then m else if i = 645 + R 1 then u else if i = 653 + R 1 then st else R i
def rPart (R : Nat → Nat) (h s x y t : Nat) : Nat → Nat := fun i => if i = 2 then R 2 + 1 else if i = 661 + R 2 then h else if i = 681 + R 2 then s else if i = 701 + R 2 then x else if i = 721 + R 2 then y else if i = 741 + R 2 then t else if i = 653 + h then R (653 + h) - 1 else R i
def shf (R : Nat → Nat) (b p i : Nat) : Bool := decide (b + p ≤ i) && decide (i < b + (R 2 - 1))
def rTake (R : Nat → Nat) (p : Nat) : Nat → Nat := fun i => if i = 2 then R 2 - 1 else if i = 653 + R (661 + p) then min 99 (R (653 + R (661 + p)) + 1) else if (shf R 661 p i || shf R 681 p i || shf R 701 p i || shf R 721 p i || shf R 741 p i) = true then R (i + 1) else R i
theorem rSheet_sc {c r g s : Nat} {u : Nat → Nat} (h0 : R 0 < 6) (hs : s < R 0) : sc (rSheet R c r g u) s = sc R s ∧ sr (rSheet R c r g u) s = sr R s ∧ rSheet R c r g u (15 + s) = R (15 + s) ∧ ∀ j, j < 100 → us (rSheet R c r g u) s j = us R s j := by
  refine ⟨?_, ?_, ?_, fun j hj => ?_⟩
  · unfold sc rSheet; ((repeat' split) <;> first | rfl | omega | (congr 1; omega))
  · unfold sr rSheet; ((repeat' split) <;> first | rfl | omega | (congr 1; omega))
  · unfold rSheet; ((repeat' split) <;> first | rfl | omega | (congr 1; omega))
  · unfold us rSheet; ((repeat' split) <;> first | rfl | omega | (congr 1; omega))
theorem rSheet_n {c r g : Nat} {u : Nat → Nat} (h0 : R 0 < 6) : rSheet R c r g u 0 = R 0 + 1 ∧ rSheet R c r g u 1 = R 1 ∧ rSheet R c r g u 2 = R 2 ∧ sc (rSheet R c r g u) (R 0) = c ∧ sr (rSheet R c r g u) (R 0) = r ∧ rSheet R c r g u (15 + R 0) = g ∧ (∀ j, j < 100 → us (rSheet R c r g u) (R 0) j = u j) ∧ ∀ i, 621 ≤ i → rSheet R c r g u i = R i := by
  refine ⟨?_, ?_, ?_, ?_, ?_, ?_, fun j hj => ?_, fun i hi => ?_⟩
  · unfold rSheet; ((repeat' split) <;> first | rfl | omega | (congr 1; omega))
  · unfold rSheet; ((repeat' split) <;> first | rfl | omega | (congr 1; omega))
  · unfold rSheet; ((repeat' split) <;> first | rfl | omega | (congr 1; omega))
  · unfold sc rSheet; ((repeat' split) <;> first | rfl | omega | (congr 1; omega))
  · unfold sr rSheet; ((repeat' split) <;> first | rfl | omega | (congr 1; omega))
  · unfold rSheet; ((repeat' split) <;> first | rfl | omega | (congr 1; omega))
  · unfold us rSheet; ((repeat' split) <;> first | rfl | omega | (congr 1; omega))
  · unfold rSheet; ((repeat' split) <;> first | rfl | omega | (congr 1; omega))
theorem SmP_hi {R' : Nat → Nat} (G : Good R) (h1 : ∀ i, 621 ≤ i → R' i = R i) (h2 : ∀ s, s < R 0 → sc R' s = sc R s) {p : Nat} (hp : p < R 2) : SmP R R' p p :=
  ⟨h1 _ (by omega), h1 _ (by omega), h1 _ (by omega), h1 _ (by omega), h1 _ (by omega), h1 _ (by omega), h1 _ (by omega), h1 _ (by omega), h2 _ (G.2.2.2.2.2.1 p hp).2.1⟩
theorem GPt_c {R' : Nat → Nat} {p q : Nat} (S : SmP R R' p q) (P : GPt R p) (e0 : R 0 ≤ R' 0) (e1 : R 1 ≤ R' 1) (e2 : sr R' (R (681 + p)) = sr R (R (681 + p))) (e3 : ∀ k, k < 16 → bit (pm R p) k = 1 → us R' (R (681 + p)) (cl R p k) = 1) : GPt R' q := by
  obtain ⟨b1, b2, b3, b4, b5⟩ := SmP_e S
  obtain ⟨a1, a2, a3, a4, a5, a6, a7, a8, a9⟩ := S
  obtain ⟨c1, c2, c3, c4, c5, c6⟩ := P
  unfold GPt
  rw [a1, a2, a3, a4, a5, b1, b2, b3, a9, e2]
  refine ⟨by omega, by omega, c3, c4, c5, fun k hk hb => ?_⟩
  rw [b4]
  exact e3 k hk hb
theorem GHp_c {R' : Nat → Nat} {h : Nat} (H : GHp R h) (e1 : R' (621 + h) = R (621 + h)) (e2 : R' (629 + h) = R (629 + h)) (e3 : R' (637 + h) = R (637 + h)) (e4 : R' (645 + h) = R (645 + h)) (e5 : R' (653 + h) ≤ 99) : GHp R' h := by
  unfold GHp SM at *
  rw [e1, e2, e3, e4]
  exact ⟨H.1, H.2.1, H.2.2.1, e5⟩
theorem rSheet_G (G : Good R) {c r g : Nat} {u : Nat → Nat} (h0 : R 0 < 6) (hc : 2 ≤ c ∧ c ≤ 10) (hr : 2 ≤ r ∧ r ≤ 10) (hg : g ≤ 2) (hu : ∀ j, j < 100 → u j ≤ 1) : Good (rSheet R c r g u) := by
  obtain ⟨n0, n1, n2, n3, n4, n5, n6, n7⟩ := rSheet_n (R := R) (c := c) (r := r) (g := g) (u := u) h0
  have hS : ∀ p, p < R 2 → SmP R (rSheet R c r g u) p p := fun p hp => SmP_hi G n7 (fun s hs => (rSheet_sc h0 hs).1) hp
  obtain ⟨g0, g1, g2, g3, g4, g5, g6, g7⟩ := G
  refine ⟨by omega, by omega, by omega, fun s hs => ?_, fun h hh => ?_, fun p hp => ?_, fun p q s d hp hq h1 h2 => ?_, fun i hi => ?_⟩
  · by_cases e : s = R 0
    · subst e
      unfold GSh
      rw [n3, n4, n5]
      exact ⟨hc.1, hc.2, hr.1, hr.2, hg, fun d hd => by rw [n6 d hd]; exact hu d hd⟩
    · have hs' : s < R 0 := by omega
      obtain ⟨m1, m2, m3, m4⟩ := rSheet_sc (R := R) (c := c) (r := r) (g := g) (u := u) h0 hs'
      have := g3 s hs'
      unfold GSh at *
      rw [m1, m2, m3]
      exact ⟨this.1, this.2.1, this.2.2.1, this.2.2.2.1, this.2.2.2.2.1, fun d hd => by rw [m4 d hd]; exact this.2.2.2.2.2 d hd⟩
  · have := g4 h (by omega)
    exact GHp_c this (n7 _ (by omega)) (n7 _ (by omega)) (n7 _ (by omega)) (n7 _ (by omega)) (by rw [n7 _ (by omega)]; exact this.2.2.2)
  · have hp' : p < R 2 := by omega
    have P := g5 p hp'
    obtain ⟨m1, m2, m3, m4⟩ := rSheet_sc (R := R) (c := c) (r := r) (g := g) (u := u) h0 P.2.1
    exact GPt_c (hS p hp') P (by omega) (by omega) m2 (fun k hk hb => by rw [m4 _ (cl_xy ⟨g0, g1, g2, g3, g4, g5, g6, g7⟩ hp' hb).2.2.2.2.2.1]; exact P.2.2.2.2.2 k hk hb)
  · rw [(SmP_e (hS p (by omega))).2.2.2.2] at h1
    rw [(SmP_e (hS q (by omega))).2.2.2.2] at h2
    exact g6 p q s d (by omega) (by omega) h1 h2
  · rw [n7 i (by omega)]
    exact g7 i hi
theorem rSheet_on (G : Good R) {c r g : Nat} {u : Nat → Nat} (h0 : R 0 < 6) : (∀ s d, ck (rSheet R c r g u) s d = ck R s d) ∧ (∀ s d, s < R 0 → d < 100 → on (rSheet R c r g u) s d = on R s d) ∧ ∀ d, d < 100 → on (rSheet R c r g u) (R 0) d = u d := by
  obtain ⟨n0, n1, n2, n3, n4, n5, n6, n7⟩ := rSheet_n (R := R) (c := c) (r := r) (g := g) (u := u) h0
  have hck : ∀ s d, ck (rSheet R c r g u) s d = ck R s d := fun s d => ck_c n2 (fun p hp => SmP_hi G n7 (fun s hs => (rSheet_sc h0 hs).1) hp) s d
  refine ⟨hck, fun s d hs hd => ?_, fun d hd => ?_⟩
  · unfold on
    rw [hck, (rSheet_sc h0 hs).2.2.2 d hd]
  · unfold on
    rw [hck, n6 d hd, if_pos]
    refine (ck_1 G).mpr (fun p hp => ?_)
    apply Bool.eq_false_iff.mpr
    intro h
    have := (hit_cell G hp h).2.2
    omega
