/-! PURE FACTS, 65: shapes, whether they hold together -/
theorem bit_eq {a b : Nat} (h : ∀ k, bit a k = 1 ↔ bit b k = 1) : a = b := by
  apply Nat.eq_of_testBit_eq
  intro k
  have := h k
  rw [bit_1, bit_1] at this
  cases p : a.testBit k <;> cases q : b.testBit k <;> simp_all
theorem bit_and (a b k : Nat) : bit (a &&& b) k = 1 ↔ bit a k = 1 ∧ bit b k = 1 := by
  rw [bit_1, bit_1, bit_1, Nat.testBit_and, Bool.and_eq_true]
theorem bit_nand (a b k : Nat) : bit (a ^^^ (a &&& b)) k = 1 ↔ bit a k = 1 ∧ ¬ bit b k = 1 := by
  rw [bit_1, bit_1, bit_1, Nat.testBit_xor, Nat.testBit_and]
  cases a.testBit k <;> cases b.testBit k <;> simp
theorem bit_shl (a i k : Nat) : bit (a * 2 ^ i) k = 1 ↔ i ≤ k ∧ bit a (k - i) = 1 := by
  rw [bit_1, bit_1, ← Nat.shiftLeft_eq, Nat.testBit_shiftLeft, Bool.and_eq_true, decide_eq_true_iff]
theorem bit_shr (a i k : Nat) : bit (a / 2 ^ i) k = bit a (k + i) := by
  unfold bit
  rw [Nat.div_div_eq_div_mul, ← Nat.pow_add, Nat.add_comm]
theorem cnt_lt {P Q : Nat → Bool} {n k : Nat} (h : ∀ i, i < n → P i = true → Q i = true) (hk : k < n) (h1 : Q k = true) (h2 : ¬ P k = true) : cnt P n < cnt Q n := by
  have e := cnt_p (P := Q) (Q := P) (T := fun i => Q i && !P i) (n := n) (fun i hi => by
    have := h i hi
    cases p : P i <;> cases q : Q i <;> simp_all [bN])
  have := cnt_pos (P := fun i => Q i && !P i) hk (by simp [h1, h2])
  omega
/-- what a growing set of places comes to -/
def Clo (c n m s k : Nat) : Prop := Rch c n (fun k => bit m k = 1) (fun k => bit s k = 1) k
theorem Clo_m {c n m s k : Nat} (hs : ∀ k, bit s k = 1 → bit m k = 1) (h : Clo c n m s k) : bit m k = 1 := h (fun k => bit m k = 1) hs (fun _ _ _ _ o => o)
/-- a set of places that grew t times -/
def Big (c n m s t a : Nat) : Prop := (∀ k, bit a k = 1 → Clo c n m s k) ∧ (∀ k, bit s k = 1 → bit a k = 1) ∧ (t + 1 ≤ cnt (fun k => decide (bit a k = 1)) n ∨ ∀ k, Clo c n m s k → bit a k = 1) ∧ a < 2 ^ n
theorem Big_0 {c n m s : Nat} (hne : ∃ k, bit s k = 1) (hs : s < 2 ^ n) : Big c n m s 0 s := by
  refine ⟨fun k h => Rch_s h, fun k h => h, Or.inl ?_, hs⟩
  obtain ⟨k, hk⟩ := hne
  exact cnt_pos (bit_hi hs hk) (decide_eq_true hk)
theorem Big_s {c n m s t a b : Nat} (B : Big c n m s t a) (hb : b < 2 ^ n) (h1 : ∀ k, bit a k = 1 → bit b k = 1) (h2 : ∀ k, bit b k = 1 → Clo c n m s k) (h3 : ∀ j k, bit a j = 1 → Nb c n j k → bit m k = 1 → bit b k = 1) : Big c n m s (t + 1) b := by
  obtain ⟨b1, b2, b3, b4⟩ := B
  refine ⟨h2, fun k h => h1 k (b2 k h), ?_, hb⟩
  rcases b3 with x | x
  · by_cases st : ∀ k, bit b k = 1 → bit a k = 1
    · right
      intro k hk
      exact h1 k (hk (fun k => bit a k = 1) b2 (fun x y hx hn ho => st y (h3 x y hx hn ho)))
    · left
      obtain ⟨k, hk⟩ := Classical.not_forall.mp st
      obtain ⟨k1, k2⟩ := Classical.not_imp.mp hk
      have := cnt_lt (P := fun k => decide (bit a k = 1)) (Q := fun k => decide (bit b k = 1)) (n := n) (k := k) (fun i _ hi => decide_eq_true (h1 i (of_decide_eq_true hi))) (bit_hi hb k1) (decide_eq_true k1) (fun h => k2 (of_decide_eq_true h))
      omega
  · exact Or.inr (fun k hk => h1 k (x k hk))
theorem Big_T {c n m s t a : Nat} (B : Big c n m s t a) (hs : ∀ k, bit s k = 1 → bit m k = 1) (hm : m < 2 ^ n) (hT : n ≤ t + 1) (k : Nat) : bit a k = 1 ↔ Clo c n m s k := by
  obtain ⟨b1, b2, b3, b4⟩ := B
  refine ⟨b1 k, fun hk => ?_⟩
  rcases b3 with x | x
  · apply Classical.byContradiction
    intro hn
    have := cnt_lt (P := fun k => decide (bit a k = 1)) (Q := fun _ => true) (n := n) (k := k) (fun _ _ _ => rfl) (bit_hi hm (Clo_m hs hk)) rfl (fun h => hn (of_decide_eq_true h))
    rw [cnt_t (P := fun _ => true) (fun _ _ => rfl)] at this
    omega
  · exact x k hk
/-- the last set is the field's when all of it is reached -/
theorem Big_e {c n m s t a : Nat} (B : Big c n m s t a) (hs : ∀ k, bit s k = 1 → bit m k = 1) (hm : m < 2 ^ n) (hT : n ≤ t + 1) : a = m ↔ ∀ k, bit m k = 1 → Clo c n m s k := by
  constructor
  · rintro rfl k hk
    exact (Big_T B hs hm hT k).mp hk
  · intro h
    refine bit_eq (fun k => ?_)
    rw [Big_T B hs hm hT k]
    exact ⟨fun h2 => Clo_m hs h2, h k⟩
/-- one step of the class -/
def gC (c r m a : Nat) : Nat := a ||| ((((a ^^^ (a &&& colM c r (c - 1))) * 2 ^ 1 ||| (a ^^^ (a &&& colM c r 0)) / 2 ^ 1) ||| (a * 2 ^ c ||| a / 2 ^ c)) &&& m)
theorem col_mod {c r x k : Nat} (hx : x < c) (hk : k < c * r) : bit (colM c r x) k = 1 ↔ k % c = x := by
  rw [colM_bit]
  constructor
  · rintro ⟨y, h1, rfl⟩
    rw [Nat.add_mul_mod_self_left, Nat.mod_eq_of_lt hx]
  · intro h
    exact ⟨k / c, Nat.div_lt_of_lt_mul hk, by have := Nat.div_add_mod k c; omega⟩
theorem last_mod {c j : Nat} (hc : 1 ≤ c ∧ c ≤ 4) : j % c = c - 1 ↔ (j + 1) % c = 0 := by
  have : c = 1 ∨ c = 2 ∨ c = 3 ∨ c = 4 := by omega
  rcases this with rfl | rfl | rfl | rfl <;> omega
theorem gC_bit {c r m a k : Nat} (hc : 1 ≤ c ∧ c ≤ 4) (hm : m < 2 ^ (c * r)) (ha : a < 2 ^ (c * r)) : bit (gC c r m a) k = 1 ↔ bit a k = 1 ∨ (bit m k = 1 ∧ ∃ j, bit a j = 1 ∧ Nb c (c * r) j k) := by
  unfold gC
  rw [bit_or, bit_and, bit_or, bit_or, bit_or, bit_shl, bit_shl, bit_shr, bit_shr, bit_nand, bit_nand]
  constructor
  · rintro (h | ⟨(⟨h1, h2, h3⟩ | ⟨h1, h2⟩) | (⟨h1, h2⟩ | h1), hk⟩)
    · exact Or.inl h
    · refine Or.inr ⟨hk, k - 1, h2, Or.inl ⟨by omega, ?_⟩⟩
      rw [col_mod (by omega) (bit_hi ha h2), last_mod hc] at h3
      exact h3
    · refine Or.inr ⟨hk, k + 1, h1, Or.inr (Or.inl ⟨rfl, ?_⟩)⟩
      rw [col_mod (by omega) (bit_hi ha h1)] at h2
      exact h2
    · exact Or.inr ⟨hk, k - c, h2, Or.inr (Or.inr (Or.inr ⟨by omega, bit_hi hm hk⟩))⟩
    · exact Or.inr ⟨hk, k + c, h1, Or.inr (Or.inr (Or.inl rfl))⟩
  · rintro (h | ⟨hk, j, h1, h2⟩)
    · exact Or.inl h
    · refine Or.inr ⟨?_, hk⟩
      rcases h2 with ⟨rfl, h2⟩ | ⟨rfl, h2⟩ | rfl | ⟨rfl, h2⟩
      · refine Or.inl (Or.inl ⟨by omega, by rw [Nat.add_sub_cancel]; exact h1, ?_⟩)
        rw [Nat.add_sub_cancel, col_mod (by omega) (bit_hi ha h1), last_mod hc]
        exact h2
      · refine Or.inl (Or.inr ⟨h1, ?_⟩)
        rw [col_mod (by omega) (bit_hi ha h1)]
        exact h2
      · exact Or.inr (Or.inr h1)
      · exact Or.inr (Or.inl ⟨by omega, by rw [Nat.add_sub_cancel]; exact h1⟩)
theorem gC_lt {c r m a : Nat} (hm : m < 2 ^ (c * r)) (ha : a < 2 ^ (c * r)) : gC c r m a < 2 ^ (c * r) :=
  Nat.or_lt_two_pow ha (Nat.lt_of_le_of_lt Nat.and_le_right hm)
theorem connC_eq {c r m s : Nat} (hc : 1 ≤ c ∧ c ≤ 4) (hr : 1 ≤ r ∧ r ≤ 4) (hm : m < 2 ^ (c * r)) (h0 : nI m &&& -(nI m) = nI s) (hs : ∀ k, bit s k = 1 → bit m k = 1) (hne : ∃ k, bit s k = 1) (hsl : s ≤ m) : ∃ b, f_X3_isConnected (nI c) (nI r) (nI m) = some (nI (bN b)) ∧ (b = true ↔ ∀ k, bit m k = 1 → Clo c (c * r) m s k) := by
  have h16 : c * r ≤ 4 * 4 := Nat.mul_le_mul hc.2 hr.2
  have h1 : 1 * 1 ≤ c * r := Nat.mul_le_mul hc.1 hr.1
  have hp : ∀ a, a < 2 ^ (c * r) → a < 65536 := fun a h => Nat.lt_of_lt_of_le h (Nat.pow_le_pow_right (n := 2) (by decide) (by omega : c * r ≤ 16))
  have h2 : 2 ^ c ≤ 2 ^ 4 := Nat.pow_le_pow_right (by decide) hc.2
  obtain ⟨v, q1, a, rfl, q2⟩ := lp_from (f := f_X3_isConnected_l30 (nI c) (nI r) (nI m) (nI (colM c r 0) ^^^ (-1)) (nI (colM c r (c - 1)) ^^^ (-1))) (fun i z => ∃ a, z = (nI a, nI i) ∧ Big c (c * r) m s (i - 1) a) (fun v => ∃ a, v = nI a ∧ Big c (c * r) m s (c * r - 1) a) 1 (c * r) (by omega) (by omega) (nI s, nI 1) ⟨s, rfl, Big_0 hne (by omega)⟩ (by
    rintro i z i1 i2 ⟨a, rfl, B⟩
    left
    have ha := B.2.2.2
    have ha2 := hp a ha
    refine ⟨(nI (gC c r m a), nI (i + 1)), ?_, gC c r m a, rfl, ?_⟩
    · unfold f_X3_isConnected_l30
      dsimp only
      have x1 : a ^^^ (a &&& colM c r (c - 1)) < 2 ^ 16 := Nat.xor_lt_two_pow ha2 (Nat.lt_of_le_of_lt Nat.and_le_left ha2)
      have x2 : a ^^^ (a &&& colM c r 0) < 2 ^ 16 := Nat.xor_lt_two_pow ha2 (Nat.lt_of_le_of_lt Nat.and_le_left ha2)
      have x3 : a * 2 ^ c ≤ 65536 * 2 ^ 4 := Nat.mul_le_mul (by omega) h2
      rw [pk_mul, if_neg (nI_ge i2 (by omega)), nI_nand, nI_nand, show (31 : Int32) = nI 31 from rfl, show (1 : Int32) = nI 1 from rfl, shlx (by omega) (by omega), shrx (by omega) (by omega), shlx (by omega) (by omega), shrx (by omega) (by omega), nI_or, nI_or, nI_or, nI_and, nI_or, nI_add]
      rfl
    · have G := Big_s B (gC_lt (c := c) (r := r) (m := m) hm ha) (fun k h => (gC_bit hc hm ha).mpr (Or.inl h)) (fun k h => by
        rcases (gC_bit hc hm ha).mp h with x | ⟨x, j, x2, x3⟩
        · exact B.1 k x
        · exact Rch_n (B.1 j x2) x3 x) (fun j k x1 x2 x3 => (gC_bit hc hm ha).mpr (Or.inr ⟨x3, j, x1, x2⟩))
      rw [show i + 1 - 1 = i - 1 + 1 by omega]
      exact G) (by
    rintro z ⟨a, rfl, B⟩
    refine ⟨nI a, ?_, a, rfl, B⟩
    unfold f_X3_isConnected_l30
    dsimp only
    rw [pk_mul, if_pos (by exact Int32.le_refl _)])
  have ha := hp a q2.2.2.2
  refine ⟨decide (a = m), ?_, ?_⟩
  · have hm2 := hp m hm
    unfold f_X3_isConnected f_X3_isConnected_0
    rw [show (0 : Int32) = nI 0 from rfl, show (1 : Int32) = nI 1 from rfl, nI_subx hc.1, colM_eq hc.2 hr.2 (by omega), bind_s, colM_eq hc.2 hr.2 (by omega), bind_s, h0, show (-nI 1 : Int32) = (-1 : Int32) from rfl, q1, bind_s]
    by_cases e : a = m
    · rw [if_pos (by rw [e]), decide_eq_true e]; rfl
    · rw [if_neg (by rw [nI_eqI (by omega) (by omega)]; exact e), decide_eq_false e]; rfl
  · rw [decide_eq_true_iff]
    exact Big_e q2 hs hm (by omega)
