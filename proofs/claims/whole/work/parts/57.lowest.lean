/-! PURE FACTS, 8: turned sets are full; lowest cells -/
variable {k : Nat} {R : Nat → Nat} {σ : St}
theorem bit_or (a b k : Nat) : bit (a ||| b) k = 1 ↔ bit a k = 1 ∨ bit b k = 1 := by
  rw [bit_1, bit_1, bit_1, Nat.testBit_or, Bool.or_eq_true]
theorem bit_pow (n k : Nat) : bit (2 ^ n) k = 1 ↔ n = k := by
  rw [bit_1, Nat.testBit_two_pow, decide_eq_true_iff]
theorem bit_z (k : Nat) : bit 0 k = 0 := by simp [bit]
theorem qt_bit' {c r m q : Nat} : bit (qt c r m) q = 1 ↔ ∃ i j, i < c ∧ j < r ∧ q = r * i + j ∧ bit m (c * (r - 1 - j) + i) = 1 := by
  unfold qt
  have := fo_inv (fun n a => bit a q = 1 ↔ ∃ i j, i < n ∧ j < r ∧ q = r * i + j ∧ bit m (c * (r - 1 - j) + i) = 1) (fun i a => fo (fun j a => if bit m (c * (r - 1 - j) + i) = 0 then a else a ||| 2 ^ (r * i + j)) r a) 0 (by
    rw [bit_z]
    constructor
    · intro h; cases h
    · rintro ⟨i, j, h, _⟩; exact absurd h (Nat.not_lt_zero _)) c (fun i a hi ha => by
    have hq := fo_inv (fun n b => bit b q = 1 ↔ bit a q = 1 ∨ ∃ j, j < n ∧ q = r * i + j ∧ bit m (c * (r - 1 - j) + i) = 1) (fun j a => if bit m (c * (r - 1 - j) + i) = 0 then a else a ||| 2 ^ (r * i + j)) a (by
      constructor
      · intro h; exact Or.inl h
      · rintro (h | ⟨j, h, _⟩)
        · exact h
        · exact absurd h (Nat.not_lt_zero _)) r (fun j b hj hb => by
      by_cases e : bit m (c * (r - 1 - j) + i) = 0
      · rw [if_pos e, hb]
        constructor
        · rintro (h | ⟨j', h1, h2, h3⟩)
          · exact Or.inl h
          · exact Or.inr ⟨j', by omega, h2, h3⟩
        · rintro (h | ⟨j', h1, h2, h3⟩)
          · exact Or.inl h
          · refine Or.inr ⟨j', ?_, h2, h3⟩
            by_cases e2 : j' = j
            · subst e2; omega
            · omega
      · have e1 : bit m (c * (r - 1 - j) + i) = 1 := by have := bit_lt m (c * (r - 1 - j) + i); omega
        rw [if_neg e, bit_or, bit_pow, hb]
        constructor
        · rintro ((h | ⟨j', h1, h2, h3⟩) | h)
          · exact Or.inl h
          · exact Or.inr ⟨j', by omega, h2, h3⟩
          · exact Or.inr ⟨j, by omega, h.symm, e1⟩
        · rintro (h | ⟨j', h1, h2, h3⟩)
          · exact Or.inl (Or.inl h)
          · by_cases e2 : j' = j
            · subst e2; exact Or.inr h2.symm
            · exact Or.inl (Or.inr ⟨j', by omega, h2, h3⟩))
    rw [hq, ha]
    constructor
    · rintro (⟨i', j, h1, h2, h3, h4⟩ | ⟨j, h1, h2, h3⟩)
      · exact ⟨i', j, by omega, h2, h3, h4⟩
      · exact ⟨i, j, by omega, h1, h2, h3⟩
    · rintro ⟨i', j, h1, h2, h3, h4⟩
      by_cases e2 : i' = i
      · subst e2; exact Or.inr ⟨j, h2, h3, h4⟩
      · exact Or.inl ⟨i', j, by omega, h2, h3, h4⟩)
  exact this
theorem Ful_qt {c r m : Nat} (h : Ful c r m) : Ful r c (qt c r m) := by
  constructor
  · intro i hi
    obtain ⟨j, h1, h2⟩ := h.2 i hi
    exact ⟨r - 1 - j, by omega, qt_bit'.mpr ⟨i, r - 1 - j, hi, by omega, rfl, by rw [show r - 1 - (r - 1 - j) = j by omega]; exact h2⟩⟩
  · intro j hj
    obtain ⟨i, h1, h2⟩ := h.1 (r - 1 - j) (by omega)
    exact ⟨i, h1, qt_bit'.mpr ⟨i, j, h1, hj, rfl, h2⟩⟩
theorem tcr_s (R : Nat → Nat) (h t : Nat) : tc R h (t + 1) = tr R h t ∧ tr R h (t + 1) = tc R h t := by
  unfold tc tr
  by_cases e : t % 2 = 0
  · have e2 : ¬ (t + 1) % 2 = 0 := by omega
    rw [if_neg e2, if_neg e2, if_pos e, if_pos e]; exact ⟨rfl, rfl⟩
  · have e2 : (t + 1) % 2 = 0 := by omega
    rw [if_pos e2, if_pos e2, if_neg e, if_neg e]; exact ⟨rfl, rfl⟩
theorem Ful_t {R : Nat → Nat} {h : Nat} (H : Ful (R (621 + h)) (R (629 + h)) (R (637 + h))) (t : Nat) : Ful (tc R h t) (tr R h t) (tm R h t) := by
  induction t with
  | zero => exact H
  | succ t ih =>
    rw [(tcr_s R h t).1, (tcr_s R h t).2]
    exact Ful_qt ih
theorem ck_i {R : Nat → Nat} (G : Good R) {p s c : Nat} : ck R s c = p + 2 ↔ p < R 2 ∧ hit R p s c = true := by
  have h := fo_inv (fun i v => (v = 1 ∧ ∀ q, q < i → hit R q s c = false) ∨ ∃ q, q < i ∧ v = q + 2 ∧ hit R q s c = true) (fun p v => if hit R p s c = true then p + 2 else v) 1 (Or.inl ⟨rfl, fun q hq => absurd hq (Nat.not_lt_zero _)⟩) (R 2) (fun i b hi hb => by
    by_cases e : hit R i s c = true
    · rw [if_pos e]; exact Or.inr ⟨i, by omega, rfl, e⟩
    · rw [if_neg e]
      rcases hb with ⟨h1, h2⟩ | ⟨q, h1, h2, h3⟩
      · refine Or.inl ⟨h1, fun q hq => ?_⟩
        by_cases e2 : q = i
        · subst e2; exact Bool.eq_false_iff.mpr e
        · exact h2 q (by omega)
      · exact Or.inr ⟨q, by omega, h2, h3⟩)
  change (ck R s c = 1 ∧ _) ∨ (∃ q, q < R 2 ∧ ck R s c = q + 2 ∧ _) at h
  rcases h with ⟨h1, h2⟩ | ⟨q, h1, h2, h3⟩
  · rw [h1]
    constructor
    · intro h; omega
    · rintro ⟨h3, h4⟩; rw [h2 p h3] at h4; cases h4
  · rw [h2]
    constructor
    · intro h
      have : q = p := by omega
      subst this
      exact ⟨h1, h3⟩
    · rintro ⟨h4, h5⟩
      rw [G.2.2.2.2.2.2.1 p q s c h4 h1 h5 h3]
theorem ck_1 {R : Nat → Nat} (G : Good R) {s c : Nat} : ck R s c = 1 ↔ ∀ p, p < R 2 → hit R p s c = false := by
  constructor
  · intro h p hp
    apply Bool.eq_false_iff.mpr
    intro h2
    have := (ck_i G).mpr ⟨hp, h2⟩
    omega
  · intro h
    have h1 := ck_ge R s c
    by_cases e : ck R s c = 1
    · exact e
    · have := (ck_i (R := R) (s := s) (c := c) (p := ck R s c - 2) G).mp (by omega)
      rw [h _ this.1] at this
      cases this.2
/-- a covered cell lies on the sheet, and is usable -/
theorem hit_cell {R : Nat → Nat} (G : Good R) {p s c : Nat} (hp : p < R 2) (h : hit R p s c = true) : c < sc R s * sr R s ∧ us R s c = 1 ∧ s < R 0 := by
  obtain ⟨h1, k, h2, h3, h4⟩ := hit_i.mp h
  subst h1
  subst h4
  exact ⟨(cl_xy G hp h3).2.2.2.2.1, (G.2.2.2.2.2.1 p hp).2.2.2.2.2 k h2 h3, (G.2.2.2.2.2.1 p hp).2.1⟩
def IsLow (R : Nat → Nat) (p c : Nat) : Prop := ck R (R (681 + p)) c = p + 2 ∧ ∀ d, d < c → ck R (R (681 + p)) d ≠ p + 2
theorem IsLow_u {R : Nat → Nat} {p c d : Nat} (h : IsLow R p c) (h2 : IsLow R p d) : c = d := by
  rcases Nat.lt_trichotomy c d with e | e | e
  · exact absurd h.1 (h2.2 c e)
  · exact e
  · exact absurd h2.1 (h.2 d e)
/-- the cells of a part ascend as its places do -/
theorem cl_mono {R : Nat → Nat} (G : Good R) {p a b : Nat} (hp : p < R 2) (hb : bit (pm R p) a = 1) (h : a ≤ b) (hb2 : bit (pm R p) b = 1) : cl R p a ≤ cl R p b := by
  obtain ⟨a1, a2, a3, a4, _⟩ := cl_xy G hp hb
  obtain ⟨b1, b2, b3, b4, _⟩ := cl_xy G hp hb2
  have h1 := Nat.div_le_div_right (c := pcw R p) h
  unfold cl
  rcases Nat.lt_or_ge (a / pcw R p) (b / pcw R p) with e | e
  · have h2 : sc R (R (681 + p)) * (R (721 + p) + a / pcw R p) + sc R (R (681 + p)) ≤ sc R (R (681 + p)) * (R (721 + p) + b / pcw R p) := by
      rw [← Nat.mul_succ]
      exact Nat.mul_le_mul_left _ (by omega)
    omega
  · have e2 : a / pcw R p = b / pcw R p := by omega
    have h3 := Nat.div_add_mod a (pcw R p)
    have h4 := Nat.div_add_mod b (pcw R p)
    rw [e2] at h3 ⊢
    omega
theorem pm_ne {R : Nat → Nat} (G : Good R) {p : Nat} (hp : p < R 2) : ∃ k, bit (pm R p) k = 1 := by
  have h1 := (G.2.2.2.2.2.1 p hp).1
  have h2 := Ful_t (G.2.2.2.2.1 _ h1).2.1 (R (741 + p))
  obtain ⟨i, _, h⟩ := h2.1 0 (GP G hp).2.2.2.2.2.2.2.2.1
  exact ⟨_, h⟩
theorem low_ex {R : Nat → Nat} (G : Good R) {p : Nat} (hp : p < R 2) : ∃ k, k < 16 ∧ bit (pm R p) k = 1 ∧ (∀ j, j < k → bit (pm R p) j = 0) ∧ IsLow R p (cl R p k) := by
  obtain ⟨k, h1, h2⟩ := pk_least (fun k => bit (pm R p) k = 1) (pm_ne G hp)
  refine ⟨k, (cl_xy G hp h1).2.2.2.2.2.2, h1, fun j hj => by have := h2 j hj; have := bit_lt (pm R p) j; omega, (ck_i G).mpr ⟨hp, hit_i.mpr ⟨rfl, k, (cl_xy G hp h1).2.2.2.2.2.2, h1, rfl⟩⟩, fun d hd e => ?_⟩
  obtain ⟨_, h3⟩ := (ck_i G).mp e
  obtain ⟨_, j, _, h4, h5⟩ := hit_i.mp h3
  have : k ≤ j := by
    rcases Nat.lt_or_ge j k with h | h
    · exact absurd h4 (h2 j h)
    · exact h
  have := cl_mono G hp h1 this h4
  omega
theorem lp_ex {S R : Type} {f : S → Option (S ⊕ R)} (emb : Nat → S) (r : R) (N : Nat) (hN : N < 1000000) (hs : ∀ i, i < N → f (emb i) = some (.inl (emb (i + 1)))) (hx : f (emb N) = some (.inr r)) : lp f FU (emb 0) = some r := by
  obtain ⟨q, h1, h2⟩ := lp_fu (f := f) (fun i z => z = emb i) (fun q => q = r) N hN (emb 0) rfl (fun i z hi e => Or.inl ⟨_, by rw [e]; exact hs i hi, rfl⟩) (fun z e => ⟨_, by rw [e]; exact hx, rfl⟩)
  rw [h1, h2]
theorem lowC_eq (T : ShR k R σ) (G : Good R) {p c : Nat} (hp : p < R 2) (hl : IsLow R p c) : f_X8_lowestCell k (nI p) σ = some (nI c) := by
  have hP := GP G hp
  have hs := (G.2.2.2.2.2.1 p hp).2.1
  have hS := GS G hs
  obtain ⟨hc, _, _⟩ := hit_cell G hp ((ck_i G).mp hl.1).2
  unfold f_X8_lowestCell f_X8_lowestCell_0
  have := lp_ex (f := f_X8_lowestCell_l12 k (nI p) (nI (R (681 + p))) σ) (fun i => nI i) (.inr (nI c)) c (by omega) (fun i hi => by
    unfold f_X8_lowestCell_l12
    have h1 := on_lt G hs (show i < _ by omega)
    have h2 := hl.2 i hi
    have h3 := on_cases G hs (show i < _ by omega)
    simp (disch := omega) only [bind_s, sum_l, sum_r, chkin, lit, nI_add, pk_mul, nI_clamp, nI_leI, nI_ltI, nI_eqI, nI_or, and1, shl1, shrx, nI_subx, pk_divx, pk_remx, nmod, nzx, if_tt, if_ff, bz_n1, bz_n0, nm1, nm2, wI_p, wI_inj, wI_n, nI_w, wI_ltI, wI_leI, nI_ltw, nI_lew, reduceIte, cellsOf_eq T G hs, onCell_eq T G hs (show i < _ by omega)]
    try rw [if_neg (by omega)]) (by
    unfold f_X8_lowestCell_l12
    have h1 := on_lt G hs hc
    have h2 := hl.1
    have h3 := on_cases G hs hc
    have h4 : on R (R (681 + p)) c = p + 2 := by omega
    simp (disch := omega) only [bind_s, sum_l, sum_r, chkin, lit, nI_add, pk_mul, nI_clamp, nI_leI, nI_ltI, nI_eqI, nI_or, and1, shl1, shrx, nI_subx, pk_divx, pk_remx, nmod, nzx, if_tt, if_ff, bz_n1, bz_n0, nm1, nm2, wI_p, wI_inj, wI_n, nI_w, wI_ltI, wI_leI, nI_ltw, nI_lew, reduceIte, cellsOf_eq T G hs, onCell_eq T G hs hc, h4])
  simp (disch := omega) only [bind_s, sum_l, sum_r, chkin, lit, nI_add, pk_mul, nI_clamp, nI_leI, nI_ltI, nI_eqI, nI_or, and1, shl1, shrx, nI_subx, pk_divx, pk_remx, nmod, nzx, if_tt, if_ff, bz_n1, bz_n0, nm1, nm2, wI_p, wI_inj, wI_n, nI_w, wI_ltI, wI_leI, nI_ltw, nI_lew, reduceIte, pg_eq T, (T.2.2.2.2 p hp).2.1, this]
