/-! PURE FACTS, 61: shares, the sums -/
variable {k : Nat} {R : Nat → Nat} {σ τ : St}
def su (g : Nat → Nat) (n : Nat) : Nat := fo (fun i a => a + g i) n 0
theorem su_s (g : Nat → Nat) (n : Nat) : su g (n + 1) = su g n + g n := rfl
theorem su_e {g h : Nat → Nat} {n : Nat} (e : ∀ i, i < n → g i = h i) : su g n = su h n := by
  induction n with
  | zero => rfl
  | succ n ih => rw [su_s, su_s, ih (fun i hi => e i (by omega)), e n (by omega)]
theorem su_a (g h : Nat → Nat) (n : Nat) : su (fun i => g i + h i) n = su g n + su h n := by
  induction n with
  | zero => rfl
  | succ n ih => rw [su_s, su_s, su_s, ih]; omega
theorem su_0 {g : Nat → Nat} {n : Nat} (e : ∀ i, i < n → g i = 0) : su g n = 0 := by
  induction n with
  | zero => rfl
  | succ n ih => rw [su_s, ih (fun i hi => e i (by omega)), e n (by omega)]
theorem su_w (g : Nat → Nat → Nat) (n m : Nat) : su (fun i => su (fun j => g i j) m) n = su (fun j => su (fun i => g i j) n) m := by
  induction n with
  | zero => exact (su_0 (fun _ _ => rfl)).symm
  | succ n ih =>
    rw [su_s, ih, ← su_a]
    exact su_e (fun j _ => rfl)
theorem su_1 {g : Nat → Nat} {n a : Nat} (ha : a < n) (e : ∀ i, i < n → i ≠ a → g i = 0) : su g n = g a := by
  induction n with
  | zero => omega
  | succ n ih =>
    rw [su_s]
    by_cases q : a = n
    · rw [su_0 (fun i hi => e i (by omega) (by omega)), q, Nat.zero_add]
    · rw [ih (by omega) (fun i hi h => e i (by omega) h), e n (by omega) (by omega), Nat.add_zero]
theorem su_le {g : Nat → Nat} {n b : Nat} (e : ∀ i, i < n → g i ≤ b) : su g n ≤ n * b := by
  induction n with
  | zero => exact Nat.zero_le _
  | succ n ih =>
    rw [su_s, Nat.succ_mul]
    have := ih (fun i hi => e i (by omega))
    have := e n (by omega)
    omega
theorem cnt_su (P : Nat → Bool) (n : Nat) : cnt P n = su (fun i => bN (P i)) n := by
  induction n with
  | zero => rfl
  | succ n ih =>
    rw [cnt_s, su_s, ih]
    cases P n <;> simp [bN]
theorem ex_s (P : Nat → Bool) (n : Nat) : ex P (n + 1) = (ex P n || P n) := rfl
/-- of at most one -/
theorem su_ex {P : Nat → Bool} {n : Nat} (u : ∀ p q, p < n → q < n → P p = true → P q = true → p = q) : su (fun i => bN (P i)) n = bN (ex P n) := by
  induction n with
  | zero => rfl
  | succ n ih =>
    rw [su_s, ih (fun p q hp hq => u p q (by omega) (by omega)), ex_s]
    by_cases e : P n = true
    · have : ex P n = false := by
        apply Bool.eq_false_iff.mpr
        intro h
        obtain ⟨i, h1, h2⟩ := ex_i.mp h
        have := u i n (by omega) (by omega) h2 e
        omega
      rw [this, e]; rfl
    · rw [Bool.eq_false_iff.mpr e, Bool.or_false]; rfl
/-- as many as their images -/
theorem img {P Q : Nat → Bool} {n N : Nat} {π : Nat → Nat} (h1 : ∀ i, i < n → P i = true → π i < N) (h2 : ∀ i j, i < n → j < n → P i = true → P j = true → π i = π j → i = j) (h3 : ∀ c, c < N → (Q c = true ↔ ∃ i, i < n ∧ P i = true ∧ π i = c)) : cnt Q N = cnt P n := by
  have e1 : ∀ c, c < N → bN (Q c) = su (fun i => bN (P i && decide (π i = c))) n := fun c hc => by
    rw [su_ex (fun p q hp hq a b => by
      have a' := Bool.and_eq_true_iff.mp a
      have b' := Bool.and_eq_true_iff.mp b
      exact h2 p q hp hq a'.1 b'.1 ((of_decide_eq_true a'.2).trans (of_decide_eq_true b'.2).symm))]
    congr 1
    by_cases q : Q c = true
    · obtain ⟨i, i1, i2, i3⟩ := (h3 c hc).mp q
      rw [q, ex_i.mpr ⟨i, i1, by rw [i2, Bool.true_and]; exact decide_eq_true i3⟩]
    · rw [Bool.eq_false_iff.mpr q]
      symm
      apply Bool.eq_false_iff.mpr
      intro h
      obtain ⟨i, i1, i2⟩ := ex_i.mp h
      have i3 := Bool.and_eq_true_iff.mp i2
      exact q ((h3 c hc).mpr ⟨i, i1, i3.1, of_decide_eq_true i3.2⟩)
  rw [cnt_su, cnt_su, su_e e1, su_w]
  refine su_e (fun i hi => ?_)
  by_cases q : P i = true
  · rw [su_1 (h1 i hi q) (fun c hc hne => by rw [decide_eq_false (fun h => hne h.symm), Bool.and_false]; rfl), q]
    simp [bN]
  · rw [Bool.eq_false_iff.mpr q]
    exact su_0 (fun c _ => rfl)
theorem pcn_cnt (m : Nat) : pcn m = cnt (fun k => decide (bit m k = 1)) 16 := by
  unfold pcn cnt
  refine fo_c (fun i b _ => ?_)
  have h2 : m / 2 ^ i % 2 < 2 := Nat.mod_lt _ (by decide)
  show b + bit m i = if decide (bit m i = 1) = true then b + 1 else b
  have h3 : bit m i < 2 := h2
  by_cases e : bit m i = 1
  · rw [e]; rfl
  · rw [decide_eq_false e]
    simp
    omega
theorem bit_hj {m n q : Nat} (h : m < 2 ^ n) (hb : bit m q = 1) : q < n := by
  rcases Nat.lt_or_ge q n with a | a
  · exact a
  · exfalso
    have : m / 2 ^ q = 0 := Nat.div_eq_of_lt (Nat.lt_of_lt_of_le h (Nat.pow_le_pow_right (by decide) a))
    unfold bit at hb
    rw [this] at hb
    cases hb
theorem rs_lt {r y : Nat} (h : 1 ≤ r) : r - 1 - y < r := by omega
/-- a turned shape has as many cells -/
theorem pcn_qt {c r m : Nat} (hc : 1 ≤ c ∧ c ≤ 4) (hr : 1 ≤ r ∧ r ≤ 4) (hm : m < 2 ^ (c * r)) : pcn (qt c r m) = pcn m := by
  have h16 : c * r ≤ 16 := Nat.mul_le_mul hc.2 hr.2
  rw [pcn_cnt, pcn_cnt]
  have hk : ∀ i, bit m i = 1 → i % c < c ∧ i / c < r := fun i hi => by
    have := bit_hj hm hi
    exact ⟨Nat.mod_lt _ (by omega), Nat.div_lt_of_lt_mul this⟩
  have lt : ∀ i, bit m i = 1 → r * (i % c) + (r - 1 - i / c) < c * r := fun i hi => by
    obtain ⟨a, b⟩ := hk i hi
    have := xy_lt (w := r) (h := c) (x := r - 1 - i / c) (y := i % c) (rs_lt hr.1) a
    rw [Nat.mul_comm c r]
    exact this
  refine img (π := fun i => r * (i % c) + (r - 1 - i / c)) (fun i _ h => by have := lt i (of_decide_eq_true h); omega) (fun i j _ _ h1 h2 e => ?_) (fun q hq => ?_)
  · obtain ⟨a1, a2⟩ := hk i (of_decide_eq_true h1)
    obtain ⟨b1, b2⟩ := hk j (of_decide_eq_true h2)
    have e1 := congrArg (· % r) e
    have e2 := congrArg (· / r) e
    rw [lin_mod (rs_lt hr.1), lin_mod (rs_lt hr.1)] at e1
    rw [lin_div (rs_lt hr.1), lin_div (rs_lt hr.1)] at e2
    have e3 : i / c = j / c := by
      generalize i / c = y1 at *
      generalize j / c = y2 at *
      omega
    rw [← Nat.div_add_mod i c, ← Nat.div_add_mod j c, e2, e3]
  · rw [decide_eq_true_iff, qt_bit']
    constructor
    · rintro ⟨i, j, h1, h2, rfl, h4⟩
      have h5 := bit_hj hm h4
      refine ⟨c * (r - 1 - j) + i, by omega, decide_eq_true h4, ?_⟩
      rw [lin_mod h1, lin_div h1, show r - 1 - (r - 1 - j) = j by omega]
    · rintro ⟨i, h1, h2, rfl⟩
      have h2 := of_decide_eq_true h2
      obtain ⟨a1, a2⟩ := hk i h2
      refine ⟨i % c, r - 1 - i / c, a1, rs_lt hr.1, rfl, ?_⟩
      rw [show r - 1 - (r - 1 - i / c) = i / c by generalize i / c = y at *; omega, Nat.div_add_mod]
      exact h2
