/-! PURE FACTS, 99: texts, a shape's rows on both sides -/
variable {len p c k m n C : Nat} {f : Nat → Nat} {b e o : Bool} {σ τ υ : St}
theorem evn_i : evn f p n = true ↔ ∀ k, k < n → wd f (pS f p k) = wd f p := by
  induction n with
  | zero => exact ⟨fun _ k h => absurd h (Nat.not_lt_zero _), fun _ => rfl⟩
  | succ n ih =>
    have e : evn f p (n + 1) = (evn f p n && decide (wd f (pS f p n) = wd f p)) := rfl
    rw [e, Bool.and_eq_true, ih, decide_eq_true_iff]
    constructor
    · rintro ⟨h1, h2⟩ k hk
      by_cases q : k = n
      · rw [q]; exact h2
      · exact h1 k (by omega)
    · intro h
      exact ⟨fun k hk => h k (by omega), h n (by omega)⟩
theorem odn_i : odn f p n = false ↔ (∀ k, k < n → wd f (pS f p k) = wd f p) ∧ (∀ k, k < n → wd f (pS f p k) ≤ 4) ∧ n ≤ 4 := by
  induction n with
  | zero => exact ⟨fun _ => ⟨fun k h => absurd h (Nat.not_lt_zero _), fun k h => absurd h (Nat.not_lt_zero _), Nat.zero_le _⟩, fun _ => rfl⟩
  | succ n ih =>
    have e : odn f p (n + 1) = oddR (odn f p n) n (wd f (pS f p n)) (wd f (pS f p (n - 1))) := rfl
    rw [e]
    unfold oddR
    rw [Bool.or_eq_false_iff, Bool.or_eq_false_iff, Bool.or_eq_false_iff, ih, decide_eq_false_iff_not, decide_eq_false_iff_not]
    constructor
    · rintro ⟨⟨⟨⟨h1, h2, h3⟩, h4⟩, h5⟩, h6⟩
      have h7 : wd f (pS f p n) = wd f p := by
        by_cases q : n = 0
        · rw [q]; rfl
        · rw [decide_eq_true (show 0 < n by omega), Bool.true_and, decide_eq_false_iff_not] at h4
          have := h1 (n - 1) (by omega)
          rw [← this]
          exact Classical.byContradiction h4
      refine ⟨fun k hk => ?_, fun k hk => ?_, by omega⟩
      · by_cases q : k = n
        · rw [q]; exact h7
        · exact h1 k (by omega)
      · by_cases q : k = n
        · rw [q]; omega
        · exact h2 k (by omega)
    · rintro ⟨h1, h2, h3⟩
      refine ⟨⟨⟨⟨fun k hk => h1 k (by omega), fun k hk => h2 k (by omega), by omega⟩, ?_⟩, ?_⟩, by omega⟩
      · by_cases q : n = 0
        · rw [decide_eq_false (show ¬ 0 < n by omega)]; rfl
        · rw [decide_eq_false (show ¬ wd f (pS f p n) ≠ wd f (pS f p (n - 1)) by rw [h1 n (by omega), h1 (n - 1) (by omega)]; exact fun g => g rfl), Bool.and_false]
      · have := h2 n (by omega); omega
theorem rowN_bit {q : Nat} : bit (rowN f C k p m n) q = 1 ↔ bit m q = 1 ∨ ∃ c, c < n ∧ hs f k p c = true ∧ C * k + c = q := by
  induction n with
  | zero => exact ⟨fun h => Or.inl h, fun h => h.elim id (fun ⟨c, h, _⟩ => absurd h (Nat.not_lt_zero _))⟩
  | succ n ih =>
    have rs : rowN f C k p m (n + 1) = if hs f k p n = true then rowN f C k p m n ||| 2 ^ (C * k + n) else rowN f C k p m n := rfl
    rw [rs]
    by_cases h : hs f k p n = true
    · rw [if_pos h, bit_or, bit_pow, ih]
      constructor
      · rintro ((g | ⟨c, g1, g2, g3⟩) | g)
        · exact Or.inl g
        · exact Or.inr ⟨c, by omega, g2, g3⟩
        · exact Or.inr ⟨n, by omega, h, g⟩
      · rintro (g | ⟨c, g1, g2, g3⟩)
        · exact Or.inl (Or.inl g)
        · by_cases q2 : c = n
          · subst q2; exact Or.inr g3
          · exact Or.inl (Or.inr ⟨c, by omega, g2, g3⟩)
    · rw [if_neg h, ih]
      constructor
      · rintro (g | ⟨c, g1, g2, g3⟩)
        · exact Or.inl g
        · exact Or.inr ⟨c, by omega, g2, g3⟩
      · rintro (g | ⟨c, g1, g2, g3⟩)
        · exact Or.inl g
        · by_cases q2 : c = n
          · subst q2; exact absurd g2 h
          · exact Or.inr ⟨c, by omega, g2, g3⟩
theorem rfm_bit {q : Nat} : bit (rfm f p n) q = 1 ↔ ∃ k c, k < n ∧ c < wd f (pS f p k) ∧ hs f k (pS f p k) c = true ∧ 4 * k + c = q := by
  induction n with
  | zero =>
    have : rfm f p 0 = 0 := rfl
    rw [this, bit_z]
    exact ⟨fun h => (by cases h), fun ⟨k, c, h, _⟩ => absurd h (Nat.not_lt_zero _)⟩
  | succ n ih =>
    have rs : rfm f p (n + 1) = rowN f 4 n (pS f p n) (rfm f p n) (wd f (pS f p n)) := rfl
    rw [rs, rowN_bit, ih]
    constructor
    · rintro (⟨k, c, h1, h2⟩ | ⟨c, h1, h2⟩)
      · exact ⟨k, c, by omega, h2⟩
      · exact ⟨n, c, by omega, h1, h2⟩
    · rintro ⟨k, c, h1, h2⟩
      by_cases q2 : k = n
      · subst q2; exact Or.inr ⟨c, h2⟩
      · exact Or.inl ⟨k, c, by omega, h2⟩
theorem rfm_hs {k c : Nat} (hk : k < n) (hc : c < wd f (pS f p k)) (hc4 : c < 4) : bit (rfm f p n) (4 * k + c) = 1 ↔ hs f k (pS f p k) c = true := by
  rw [rfm_bit]
  constructor
  · rintro ⟨k', c', h1, h2, h3, h4⟩
    have h5 : c' < 4 := by
      unfold hs at h3
      rw [Bool.and_eq_true, Bool.and_eq_true, decide_eq_true_iff] at h3
      exact h3.1.1
    have e1 : k' = k := by omega
    subst e1
    have e2 : c' = c := by omega
    subst e2
    exact h3
  · intro h
    exact ⟨k, c, hk, hc, h, rfl⟩
theorem rfm_lt (hn : n ≤ 4) : rfm f p n < 2 ^ 16 := by
  unfold rfm
  refine fo_inv (fun _ a => a < 2 ^ 16) _ 0 (by decide) n (fun k a hk ha => ?_)
  unfold rowN
  refine fo_inv (fun _ a => a < 2 ^ 16) _ a ha _ (fun c a hc ha => ?_)
  by_cases h : hs f k (pS f p k) c = true
  · rw [if_pos h]
    have h5 : c < 4 := by
      unfold hs at h
      rw [Bool.and_eq_true, Bool.and_eq_true, decide_eq_true_iff] at h
      exact h.1.1
    exact Nat.or_lt_two_pow ha (Nat.pow_lt_pow_right (by decide) (by omega))
  · rw [if_neg h]; exact ha
theorem clm_lt (h : ∀ k, k < n → wd f (pS f p k) = wd f p) : clm f p n < 2 ^ (wd f p * n) := by
  unfold clm
  refine fo_inv (fun _ a => a < 2 ^ (wd f p * n)) _ 0 (Nat.two_pow_pos _) n (fun k a hk ha => ?_)
  unfold rowN
  refine fo_inv (fun _ a => a < 2 ^ (wd f p * n)) _ a ha _ (fun c a hc ha => ?_)
  by_cases g : hs f k (pS f p k) c = true
  · rw [if_pos g]
    rw [h k hk] at hc
    have h1 : wd f p * k + c < wd f p * n := xy_lt hc hk
    exact Nat.or_lt_two_pow ha (Nat.pow_lt_pow_right (by decide) h1)
  · rw [if_neg g]; exact ha
/-- the reference's field is the class's set -/
theorem fieldR_eq (h43 : σ 101 43 = nI n) (h44 : σ 101 44 = nI (wd f p)) (h45 : σ 101 45 = nI (rfm f p n)) (h1 : ∀ k, k < n → wd f (pS f p k) = wd f p) (hw : wd f p ≤ 4) (hn : n ≤ 4) : f_X11_field σ = some (nI (clm f p n)) := by
  have hr := rfm_lt (f := f) (p := p) hn
  have key : fo (fun r a => fo (fun c a => if bit (rfm f p n) (4 * r + c) = 0 then a else a ||| 2 ^ (wd f p * r + c)) (wd f p) a) n 0 = clm f p n := by
    unfold clm
    refine fo_c (fun k a hk => ?_)
    unfold rowN
    rw [h1 k hk]
    refine fo_c (fun c a hc => ?_)
    have := rfm_hs (f := f) (p := p) (n := n) hk (by rw [h1 k hk]; exact hc) (show c < 4 by omega)
    by_cases g : hs f k (pS f p k) c = true
    · have g1 := this.mpr g
      rw [if_neg (by omega), if_pos g]
    · have g1 : ¬ bit (rfm f p n) (4 * k + c) = 1 := fun q => g (this.mp q)
      have g2 := bit_lt (rfm f p n) (4 * k + c)
      rw [if_pos (by omega), if_neg g]
  have outer := lp_f0 (f := f_X11_field_l4 σ) (fun i n => (nI n, nI i)) (fun r a => fo (fun c a => if bit (rfm f p n) (4 * r + c) = 0 then a else a ||| 2 ^ (wd f p * r + c)) (wd f p) a) (fun n => nI n) n (by omega) 0 (fun r a hr2 => by
    have inner := lp_f0 (f := f_X11_field_l14 (nI r) σ) (fun i n => (nI n, nI i)) (fun c a => if bit (rfm f p n) (4 * r + c) = 0 then a else a ||| 2 ^ (wd f p * r + c)) (fun n => nI n) (wd f p) (by omega) a (fun c b hc => by
      have hwr : wd f p * r ≤ 4 * 3 := Nat.mul_le_mul hw (by omega)
      unfold f_X11_field_l14 f_X11_field_j53
      dsimp only
      rw [if_neg (show ¬ σ 101 44 ≤ nI c by rw [h44]; exact nI_ge hc (by omega)), h45, h44, show (4 : Int32) = nI 4 from rfl, pk_mul, nI_add, has_eq (by omega) (by omega), bind_s]
      by_cases g : bit (rfm f p n) (4 * r + c) = 0
      · rw [if_pos (show nI (bit (rfm f p n) (4 * r + c)) = 0 by rw [g]; rfl), if_pos g, nI_1, show nI b ||| 0 = nI (b ||| 0) from nI_or b 0, Nat.or_zero]
      · have g2 := bit_lt (rfm f p n) (4 * r + c)
        rw [if_neg (show ¬ nI (bit (rfm f p n) (4 * r + c)) = 0 from nI_ne0 (by omega) (by omega)), if_neg g, at_eq, bind_s, show (31 : Int32) = nI 31 from rfl, show (1 : Int32) = nI 1 from rfl, shl1 (by omega), nI_or, nI_add]) (fun b => by
      unfold f_X11_field_l14
      dsimp only
      rw [if_pos (show σ 101 44 ≤ nI (wd f p) by rw [h44]; exact Int32.le_refl _)])
    unfold f_X11_field_l4
    dsimp only
    have inner' : lp (f_X11_field_l14 (nI r) σ) FU (nI a, 0) = _ := inner
    rw [if_neg (show ¬ σ 101 43 ≤ nI r by rw [h43]; exact nI_ge hr2 (by omega)), inner', bind_s, nI_1]) (fun b => by
    unfold f_X11_field_l4
    dsimp only
    rw [if_pos (show σ 101 43 ≤ nI n by rw [h43]; exact Int32.le_refl _)])
  have outer' : lp (f_X11_field_l4 σ) FU (0, 0) = _ := outer
  unfold f_X11_field f_X11_field_0
  rw [outer', bind_s, key]
theorem shp_eq {c r m : Nat} (hc : 1 ≤ c ∧ c ≤ 4) (hr : 1 ≤ r ∧ r ≤ 4) (hm : m < 2 ^ (c * r)) : ∃ b, f_X3_isShape (nI c) (nI r) (nI m) = some (nI (bN b)) ∧ f_X11_isField (nI c) (nI r) (nI m) = some (nI (bN b)) ∧ (b = true → Ful c r m) := by
  by_cases h0 : 0 < m
  · exact field_eq hc hr h0 hm
  · have e : m = 0 := by omega
    subst e
    refine ⟨false, ?_, ?_, fun h => absurd h (by decide)⟩
    · unfold f_X3_isShape f_X3_isShape_0
      have e1 : f_X10_isWithin (nI c) 1 4 = some (nI 1) := wi_in hc.1 hc.2 (by decide)
      have e2 : f_X10_isWithin (nI r) 1 4 = some (nI 1) := wi_in hr.1 hr.2 (by decide)
      rw [e1, bind_s, if_neg (by decide), e2, bind_s, if_neg (by decide), if_pos (show nI 0 ≤ 0 by decide)]
      rfl
    · obtain ⟨b3, f1, f2⟩ := fullR_eq (m := 0) hc hr (by decide)
      have hb : b3 = false := by
        refine Bool.eq_false_iff.mpr (fun h => ?_)
        obtain ⟨i, g1, g2⟩ := (f2.mp h).1 0 (by omega)
        rw [bit_z] at g2
        cases g2
      unfold f_X11_isField f_X11_isField_0
      rw [f1, bind_s, hb, if_pos f0]
      rfl
theorem shp_out {c r : Nat} {x : Int32} (h : 4 < c ∨ 4 < r) (hc : c < 1000) (hr : r < 1000) (hc0 : 1 ≤ c) : f_X3_isShape (nI c) (nI r) x = some (nI 0) := by
  unfold f_X3_isShape f_X3_isShape_0
  by_cases q : 4 < c
  · have e1 : f_X10_isWithin (nI c) 1 4 = some (nI 0) := wi_out (a := 1) (b := 4) (Or.inr (nI_lt q (by omega)))
    rw [e1]; rfl
  · have e1 : f_X10_isWithin (nI c) 1 4 = some (nI 1) := wi_in (a := 1) (b := 4) (by omega) (by omega) (by decide)
    have e2 : f_X10_isWithin (nI r) 1 4 = some (nI 0) := wi_out (a := 1) (b := 4) (Or.inr (nI_lt (h.resolve_left q) (by omega)))
    rw [e1, bind_s, if_neg (by decide), e2]
    rfl
