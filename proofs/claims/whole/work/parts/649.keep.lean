/-! PURE FACTS, 56: a remnant becomes a sheet, the rows -/
variable {k : Nat} {R : Nat → Nat} {σ τ : St}
theorem RemS_f {w h i m : Nat} {f0 f : Nat → Nat} (h0 : ∀ c, c < w * h → f0 c ≤ 1) (A : RemS w (w * h) f0 i f m) : ∀ c, c < w * h → 1 ≤ f c → f0 c = 1 := by
  induction i generalizing f m with
  | zero => intro c hc h; have := A.1 c hc; have := h0 c hc; omega
  | succ i ih =>
    obtain ⟨f', m', a1, a2⟩ := A
    have e := ih a1
    intro c hc hv
    rcases a2 with ⟨x1, x2, x3⟩ | ⟨x1, x2, x3⟩
    · by_cases q : Rch w (w * h) (fun c => f' c = 1) (fun c => c = i ∧ f' c = 1) c
      · have : f' c = 1 := q (fun c => f' c = 1) (fun a ha => ha.2) (fun a b _ _ hb => hb)
        exact e c hc (by omega)
      · exact e c hc (by rw [← (x3 c hc).2 q]; exact hv)
    · exact e c hc (by rw [← x3 c hc]; exact hv)
/-- the new sheet's usable cells, behind the cells below i -/
def ku (P : Nat → Bool) (x : Nat → Nat) : Nat → Nat → Nat
  | 0 => fun _ => 0
  | i + 1 => if P i = true then updN (ku P x i) (x i) 1 else ku P x i
/-- and the old sheet's -/
def ko (P : Nat → Bool) (g : Nat → Nat) : Nat → Nat → Nat
  | 0 => g
  | i + 1 => if P i = true then updN (ko P g i) i 0 else ko P g i
theorem ku_1 (P : Nat → Bool) (x : Nat → Nat) (i j : Nat) : ku P x i j ≤ 1 := by
  induction i with
  | zero => exact Nat.zero_le _
  | succ i ih =>
    unfold ku
    split
    · unfold updN
      split
      · exact Nat.le_refl _
      · exact ih
    · exact ih
theorem ko_e (P : Nat → Bool) (g : Nat → Nat) (i j : Nat) : ko P g i j = if j < i ∧ P j = true then 0 else g j := by
  induction i with
  | zero => rw [if_neg (fun h => absurd h.1 (Nat.not_lt_zero _))]; rfl
  | succ i ih =>
    unfold ko
    by_cases p : P i = true
    · rw [if_pos p]
      unfold updN
      by_cases e : j = i
      · rw [if_pos e, if_pos ⟨by omega, e ▸ p⟩]
      · rw [if_neg e, ih]
        by_cases q : j < i ∧ P j = true
        · rw [if_pos q, if_pos ⟨by omega, q.2⟩]
        · rw [if_neg q, if_neg (fun h => q ⟨by omega, h.2⟩)]
    · rw [if_neg p, ih]
      by_cases q : j < i ∧ P j = true
      · rw [if_pos q, if_pos ⟨by omega, q.2⟩]
      · rw [if_neg q, if_neg (fun h => q ⟨by
          rcases Nat.lt_or_ge j i with h1 | h1
          · exact h1
          · exact absurd (show j = i by omega) (fun e => p (e ▸ h.2)), h.2⟩)]
/-- the row, behind the cells below i -/
def kp (R : Nat → Nat) (c r g s : Nat) (P : Nat → Bool) (x : Nat → Nat) (i : Nat) : Nat → Nat := rUse (rSheet R c r g (ku P x i)) s (ko P (us R s) i)
theorem kp_0 {c r g s : Nat} {P : Nat → Bool} {x : Nat → Nat} (h0 : R 0 < 6) (hs : s < R 0) : kp R c r g s P x 0 = rSheet R c r g (fun _ => 0) := by
  funext i
  unfold kp rUse
  by_cases e : 21 + 100 * s ≤ i ∧ i < 121 + 100 * s
  · rw [if_pos e]
    show R (21 + 100 * s + (i - (21 + 100 * s))) = _
    rw [show 21 + 100 * s + (i - (21 + 100 * s)) = i by omega]
    unfold rSheet
    rw [if_neg (by omega), if_neg (by omega), if_neg (by omega), if_neg (by omega), if_neg (by omega)]
  · rw [if_neg e]
    rfl
theorem kp_s {c r g s i : Nat} {P : Nat → Bool} {x : Nat → Nat} (h0 : R 0 < 6) (hs : s < R 0) (hp : P i = true) (hx : x i < 100) (hi : i < 100) : updN (updN (kp R c r g s P x i) (21 + 100 * R 0 + x i) 1) (21 + 100 * s + i) 0 = kp R c r g s P x (i + 1) := by
  funext j
  unfold kp rUse rSheet
  have e1 : ku P x (i + 1) = updN (ku P x i) (x i) 1 := by rw [ku, if_pos hp]
  have e2 : ko P (us R s) (i + 1) = updN (ko P (us R s) i) i 0 := by rw [ko, if_pos hp]
  rw [e1, e2]
  unfold updN
  by_cases q1 : 21 + 100 * s ≤ j ∧ j < 121 + 100 * s
  · simp only [if_pos q1]
    by_cases q2 : j = 21 + 100 * s + i
    · rw [if_pos q2, if_pos (by omega)]
    · rw [if_neg q2, if_neg (by omega), if_neg (by omega)]
  · simp only [if_neg q1]
    rw [if_neg (by omega)]
    by_cases q3 : j = 21 + 100 * R 0 + x i
    · rw [if_pos q3, if_neg (by omega), if_neg (by omega), if_neg (by omega), if_neg (by omega), if_pos (by omega), if_pos (by omega)]
    · rw [if_neg q3]
      by_cases q4 : 21 + 100 * R 0 ≤ j ∧ j < 121 + 100 * R 0
      · simp only [if_pos q4]
        rw [if_neg (show ¬ j - (21 + 100 * R 0) = x i by omega)]
      · simp only [if_neg q4]
theorem kp_n {c r g s i : Nat} {P : Nat → Bool} {x : Nat → Nat} (hp : ¬ P i = true) : kp R c r g s P x i = kp R c r g s P x (i + 1) := by
  unfold kp
  rw [show ku P x (i + 1) = ku P x i by rw [ku, if_neg hp], show ko P (us R s) (i + 1) = ko P (us R s) i by rw [ko, if_neg hp]]
theorem kp_lo {c r g s i : Nat} {P : Nat → Bool} {x : Nat → Nat} (h0 : R 0 < 6) (hs : s < R 0) : kp R c r g s P x i 0 = R 0 + 1 ∧ kp R c r g s P x i (3 + s) = R (3 + s) ∧ kp R c r g s P x i (9 + s) = R (9 + s) ∧ kp R c r g s P x i (3 + R 0) = c := by
  unfold kp rUse rSheet
  refine ⟨?_, ?_, ?_, ?_⟩
  · rw [if_neg (by omega), if_pos rfl]
  · rw [if_neg (by omega), if_neg (by omega), if_neg (by omega), if_neg (by omega), if_neg (by omega), if_neg (by omega)]
  · rw [if_neg (by omega), if_neg (by omega), if_neg (by omega), if_neg (by omega), if_neg (by omega), if_neg (by omega)]
  · rw [if_neg (by omega), if_neg (by omega), if_pos rfl]
section
variable {c r g s n : Nat} {P : Nat → Bool} {x : Nat → Nat}
theorem kp_G (G : Good R) (h0 : R 0 < 6) (hs : s < R 0) (hc : 2 ≤ c ∧ c ≤ 10) (hr : 2 ≤ r ∧ r ≤ 10) (hg : g ≤ 2) (hP : ∀ j, P j = true → j < sc R s * sr R s ∧ on R s j = 1) : Good (kp R c r g s P x n) := by
  have G1 := rSheet_G (u := ku P x n) G h0 hc hr hg (fun j _ => ku_1 P x n j)
  have hS := GS G hs
  obtain ⟨m1, m2, m3, m4⟩ := rSheet_sc (R := R) (c := c) (r := r) (g := g) (u := ku P x n) h0 hs
  have n0 : (rSheet R c r g (ku P x n)) 0 = R 0 + 1 := (rSheet_n h0).1
  refine rUse_G G1 (by omega) (fun j hj => ?_) (fun p j hp hh => ?_)
  · rw [ko_e]
    have := hS.2.2.2.2.2.2.2 j hj
    split <;> omega
  · obtain ⟨a1, a2, a3⟩ := hit_cell G1 hp hh
    rw [ko_e]
    rw [m1, m2] at a1
    rw [m4 j (by omega)] at a2
    rw [if_neg, a2]
    intro h
    obtain ⟨b1, b2⟩ := hP j h.2
    have b3 := (on1 G hs b1 b2).2
    have O := rSheet_on (c := c) (r := r) (g := g) (u := ku P x n) G h0
    rw [← O.1, ck_1 G1] at b3
    rw [b3 p hp] at hh
    cases hh
theorem kp_on (G : Good R) (h0 : R 0 < 6) (hs : s < R 0) (hc : 2 ≤ c ∧ c ≤ 10) (hr : 2 ≤ r ∧ r ≤ 10) (hg : g ≤ 2) (hP : ∀ j, P j = true → j < sc R s * sr R s ∧ on R s j = 1) : (∀ j, j < 100 → on (kp R c r g s P x n) (R 0) j = ku P x n j) ∧ (∀ j, j < 100 → on (kp R c r g s P x n) s j = if j < n ∧ P j = true then 0 else on R s j) ∧ ∀ s' j, s' ≠ s → s' < R 0 → j < 100 → on (kp R c r g s P x n) s' j = on R s' j := by
  have G1 := rSheet_G (u := ku P x n) G h0 hc hr hg (fun j _ => ku_1 P x n j)
  have n0 : (rSheet R c r g (ku P x n)) 0 = R 0 + 1 := (rSheet_n h0).1
  have O := rSheet_on (c := c) (r := r) (g := g) (u := ku P x n) G h0
  have U := rUse_on (R := rSheet R c r g (ku P x n)) (s := s) (u := ko P (us R s) n) G1 (by omega)
  refine ⟨fun j hj => ?_, fun j hj => ?_, fun s' j h1 h2 hj => ?_⟩
  · unfold kp
    rw [U.2.2 _ j (by omega) (by omega) hj, O.2.2 j hj]
  · unfold kp
    rw [U.2.1 j hj, O.1, ko_e]
    by_cases q : j < n ∧ P j = true
    · obtain ⟨b1, b2⟩ := hP j q.2
      rw [if_pos (on1 G hs b1 b2).2, if_pos q, if_pos q]
    · rw [if_neg q, if_neg q]
      rfl
  · unfold kp
    rw [U.2.2 _ j h1 (by omega) hj, O.2.1 s' j h2 hj]
/-- the class's cells, behind the cells below i -/
def kf (P : Nat → Bool) (x : Nat → Nat) (a b : Nat) (f : Nat → Int32) : Nat → Nat → Int32
  | 0 => f
  | i + 1 => if P i = true then upd (upd (kf P x a b f i) (a + x i) (wI 1)) (b + i) (wI 0) else kf P x a b f i
theorem kf_n {a b i : Nat} {f : Nat → Int32} (hp : ¬ P i = true) : kf P x a b f (i + 1) = kf P x a b f i := by rw [kf, if_neg hp]
theorem kf_c {a b i j : Nat} {f : Nat → Int32} (h : i ≤ j) (hp : ∀ c, i ≤ c → c < j → ¬ P c = true) : kf P x a b f j = kf P x a b f i := by
  induction j with
  | zero => rw [show i = 0 by omega]
  | succ j ih =>
    by_cases e : i = j + 1
    · rw [e]
    · rw [kf_n (hp j (by omega) (by omega)), ih (by omega) (fun c h1 h2 => hp c h1 (by omega))]
theorem kf_o {a b i q : Nat} {f : Nat → Int32} (hP : ∀ c, P c = true → c < 100 ∧ x c < 100) (h1 : ¬ (a ≤ q ∧ q < a + 100)) (h2 : ¬ (b ≤ q ∧ q < b + 100)) : kf P x a b f i q = f q := by
  induction i with
  | zero => rfl
  | succ i ih =>
    unfold kf
    by_cases p : P i = true
    · have := hP i p
      rw [if_pos p]
      unfold upd
      rw [if_neg (by omega), if_neg (by omega), ih]
    · rw [if_neg p, ih]
theorem kf_new {a b i j : Nat} {f : Nat → Int32} (hab : b + 100 ≤ a) (hP : ∀ c, P c = true → c < 100 ∧ x c < 100) (hf : f (a + j) = wI 0) : kf P x a b f i (a + j) = wI (ku P x i j) := by
  induction i with
  | zero => exact hf
  | succ i ih =>
    unfold kf ku
    by_cases p : P i = true
    · have := hP i p
      rw [if_pos p, if_pos p]
      unfold upd updN
      rw [if_neg (by omega)]
      by_cases e : j = x i
      · rw [if_pos (by omega), if_pos e]
      · rw [if_neg (by omega), if_neg e, ih]
    · rw [if_neg p, if_neg p, ih]
theorem kf_old {a b i c v : Nat} {f : Nat → Int32} (hab : b + 100 ≤ a) (hP : ∀ c, P c = true → c < 100 ∧ x c < 100) (hc : c < 100) (hf : f (b + c) = wI v) : kf P x a b f i (b + c) = wI (if c < i ∧ P c = true then 0 else v) := by
  induction i with
  | zero => rw [if_neg (fun h => absurd h.1 (Nat.not_lt_zero _))]; exact hf
  | succ i ih =>
    unfold kf
    by_cases p : P i = true
    · have := hP i p
      rw [if_pos p]
      unfold upd
      by_cases e : c = i
      · rw [if_pos (by omega), if_pos ⟨by omega, e ▸ p⟩]
      · rw [if_neg (by omega), if_neg (by omega), ih]
        by_cases q : c < i ∧ P c = true
        · rw [if_pos q, if_pos ⟨by omega, q.2⟩]
        · rw [if_neg q, if_neg (fun h => q ⟨by omega, h.2⟩)]
    · rw [if_neg p, ih]
      by_cases q : c < i ∧ P c = true
      · rw [if_pos q, if_pos ⟨by omega, q.2⟩]
      · rw [if_neg q, if_neg (fun h => q ⟨by
          rcases Nat.lt_or_ge c i with h1 | h1
          · exact h1
          · exact absurd (show c = i by omega) (fun e => p (e ▸ h.2)), h.2⟩)]
theorem ShR_k (T : ShR k (rSheet R c r g (fun _ => 0)) τ) (G : Good R) (h0 : R 0 < 6) (hs : s < R 0) (hc : 2 ≤ c ∧ c ≤ 10) (hr : 2 ≤ r ∧ r ≤ 10) (hg : g ≤ 2) (hP : ∀ j, P j = true → j < sc R s * sr R s ∧ on R s j = 1) (hx : ∀ j, P j = true → x j < 100) : ShR k (kp R c r g s P x n) (upA τ (k + 1 + 1) (kf P x (R 0 * 103 + 3) (s * 103 + 3) (τ (k + 1 + 1)) n)) := by
  have G0 := rSheet_G (u := fun _ => 0) G h0 hc hr hg (fun j _ => by omega)
  obtain ⟨z0, z1, z2, z3, z4, z5, hn, _⟩ := GS G hs
  obtain ⟨n0, n1, n2, n3, n4, n5, n6, n7⟩ := rSheet_n (R := R) (c := c) (r := r) (g := g) (u := fun _ => 0) h0
  have O0 := rSheet_on (c := c) (r := r) (g := g) (u := fun _ => 0) G h0
  obtain ⟨o1, o2, o3⟩ := kp_on (c := c) (r := r) (g := g) (P := P) (x := x) (n := n) G h0 hs hc hr hg hP
  have hPx : ∀ c, P c = true → c < 100 ∧ x c < 100 := fun c h => ⟨by have := hP c h; omega, hx c h⟩
  have hcr : c * r ≤ 100 := Nat.mul_le_mul hc.2 hr.2
  refine ShR_cells T G0 (fun i hi => ?_) (fun i hi => ?_) (fun s' hs' => ?_)
  · unfold kp rUse rSheet
    simp only [if_neg (show ¬ (21 + 100 * s ≤ i ∧ i < 121 + 100 * s) by omega), if_neg (show ¬ (21 + 100 * R 0 ≤ i ∧ i < 121 + 100 * R 0) by omega)]
  · unfold kp rUse rSheet
    simp only [if_neg (show ¬ (21 + 100 * s ≤ i ∧ i < 121 + 100 * s) by omega), if_neg (show ¬ (21 + 100 * R 0 ≤ i ∧ i < 121 + 100 * R 0) by omega)]
  · rw [n0] at hs'
    have w : ∀ d, d < 3 → kf P x (R 0 * 103 + 3) (s * 103 + 3) (τ (k + 1 + 1)) n (s' * 103 + d) = τ (k + 1 + 1) (s' * 103 + d) := fun d hd => kf_o hPx (by omega) (by omega)
    obtain ⟨y0, y1, y2, y3⟩ := T.2.2.1 s' (by omega)
    refine ⟨w 0 (by omega), w 1 (by omega), w 2 (by omega), fun j hj => ?_⟩
    by_cases e : s' = R 0
    · subst e
      rw [n3, n4] at hj
      have := y3 j (by rw [n3, n4]; exact hj)
      rw [O0.2.2 j (by omega), ← Nat.add_assoc] at this
      rw [o1 j (by omega), ← Nat.add_assoc]
      exact kf_new (by omega) hPx this
    · have hs2 : s' < R 0 := by omega
      obtain ⟨m1, m2, m3, m4⟩ := rSheet_sc (R := R) (c := c) (r := r) (g := g) (u := fun _ => 0) h0 hs2
      have hS' := GS G hs2
      have := y3 j hj
      rw [m1, m2] at hj
      rw [O0.2.1 s' j hs2 (by omega), ← Nat.add_assoc] at this
      by_cases e2 : s' = s
      · subst e2
        rw [o2 j (by omega), ← Nat.add_assoc]
        exact kf_old (by omega) hPx (by omega) this
      · rw [o3 s' j e2 hs2 (by omega), ← Nat.add_assoc, ← this]
        exact kf_o hPx (by omega) (by omega)
end
