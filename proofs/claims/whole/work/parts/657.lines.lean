/-! PURE FACTS, 64: shapes, their lines -/
theorem nI_nand (a b : Nat) : nI a &&& (nI b ^^^ (-1)) = nI (a ^^^ (a &&& b)) := by
  apply Int32.toBitVec_inj.mp
  apply BitVec.eq_of_toNat_eq
  show (a % 2 ^ 32) &&& ((b % 2 ^ 32) ^^^ (2 ^ 32 - 1)) = (a ^^^ (a &&& b)) % 2 ^ 32
  apply Nat.eq_of_testBit_eq
  intro i
  simp only [Nat.testBit_and, Nat.testBit_xor, Nat.testBit_mod_two_pow, Nat.testBit_two_pow_sub_one]
  by_cases h : i < 32 <;> cases a.testBit i <;> cases b.testBit i <;> simp [h]
theorem nI_neg {m : Nat} (h0 : 0 < m) (h : m < 2 ^ 32) : -(nI m) = nI (2 ^ 32 - m) := by
  apply Int32.toBitVec_inj.mp
  apply BitVec.eq_of_toNat_eq
  rw [Int32.toBitVec_neg, BitVec.toNat_neg]
  show (2 ^ 32 - m % 2 ^ 32) % 2 ^ 32 = (2 ^ 32 - m) % 2 ^ 32
  rw [Nat.mod_eq_of_lt h]
theorem low_bit : ∀ (n m : Nat), m ≤ n → 0 < m → ∃ l, m / 2 ^ l % 2 = 1 ∧ (m - 1) / 2 ^ l % 2 = 0 := by
  intro n
  induction n with
  | zero => intro m h1 h2; omega
  | succ n ih =>
    intro m h1 h2
    rcases Nat.mod_two_eq_zero_or_one m with e | e
    · obtain ⟨l, a, b⟩ := ih (m / 2) (by omega) (by omega)
      refine ⟨l + 1, ?_, ?_⟩
      · rw [Nat.pow_succ, Nat.mul_comm, ← Nat.div_div_eq_div_mul]; exact a
      · rw [Nat.pow_succ, Nat.mul_comm, ← Nat.div_div_eq_div_mul, show (m - 1) / 2 = m / 2 - 1 by omega]; exact b
    · exact ⟨0, by omega, by omega⟩
/-- the lowest cell as a set: within, and not empty -/
theorem lowest_eq {m : Nat} (h0 : 0 < m) (h : m < 65536) : ∃ s, nI m &&& -(nI m) = nI s ∧ s ≤ m ∧ (∀ k, bit s k = 1 → bit m k = 1) ∧ ∃ k, bit s k = 1 := by
  rw [nI_neg h0 (by omega), nI_and]
  refine ⟨_, rfl, Nat.and_le_left, fun k hk => ?_, ?_⟩
  · rw [bit_1, Nat.testBit_and, Bool.and_eq_true] at hk
    exact bit_1.mpr hk.1
  · obtain ⟨l, a, b⟩ := low_bit m m (Nat.le_refl _) h0
    refine ⟨l, bit_1.mpr ?_⟩
    have hl : l < 16 := bit_hi (show m < 2 ^ 16 from h) a
    rw [Nat.testBit_and, bit_1.mp a, show 2 ^ 32 - m = 2 ^ 32 - ((m - 1) + 1) by omega, Nat.testBit_two_pow_sub_succ (by omega), bit_0.mp b]
    simp
    omega
theorem and_0 {a b : Nat} : a &&& b = 0 ↔ ∀ k, ¬ (bit a k = 1 ∧ bit b k = 1) := by
  constructor
  · intro h k hk
    have := congrArg (fun q => q.testBit k) h
    rw [Nat.testBit_and, bit_1.mp hk.1, bit_1.mp hk.2, Nat.zero_testBit] at this
    cases this
  · intro h
    apply Nat.eq_of_testBit_eq
    intro k
    rw [Nat.testBit_and, Nat.zero_testBit]
    apply Bool.eq_false_iff.mpr
    intro q
    rw [Bool.and_eq_true] at q
    exact h k ⟨bit_1.mpr q.1, bit_1.mpr q.2⟩
def colM (c r x : Nat) : Nat := fo (fun y a => a ||| 2 ^ (x + c * y)) r 0
theorem colM_bit {c r x k : Nat} : bit (colM c r x) k = 1 ↔ ∃ y, y < r ∧ k = x + c * y := by
  unfold colM
  refine fo_inv (fun n a => bit a k = 1 ↔ ∃ y, y < n ∧ k = x + c * y) (fun y a => a ||| 2 ^ (x + c * y)) 0 ?_ r (fun i b _ h => ?_)
  · rw [bit_z]
    constructor
    · intro h; cases h
    · rintro ⟨y, h, _⟩; exact absurd h (Nat.not_lt_zero _)
  · rw [bit_or, bit_pow, h]
    constructor
    · rintro (⟨y, h1, h2⟩ | h1)
      · exact ⟨y, by omega, h2⟩
      · exact ⟨i, by omega, h1.symm⟩
    · rintro ⟨y, h1, h2⟩
      by_cases e : y = i
      · subst e; exact Or.inr h2.symm
      · exact Or.inl ⟨y, by omega, h2⟩
theorem colM_lt {c r x : Nat} (h : ∀ y, y < r → x + c * y < 16) : colM c r x < 65536 := by
  unfold colM
  refine fo_inv (fun _ a => a < 2 ^ 16) (fun y a => a ||| 2 ^ (x + c * y)) 0 (by decide) r (fun i b hi hb => ?_)
  exact Nat.or_lt_two_pow hb (Nat.pow_lt_pow_right (by decide) (h i hi))
theorem colM_eq {c r x : Nat} (hc : c ≤ 4) (hr : r ≤ 4) (hx : x < c) : f_X3_columnMask (nI c) (nI r) (nI x) = some (nI (colM c r x)) := by
  unfold f_X3_columnMask f_X3_columnMask_0
  have := lp_f0 (f := f_X3_columnMask_l5 (nI c) (nI r) (nI x)) (fun i n => (nI n, nI i)) (fun y a => a ||| 2 ^ (x + c * y)) (fun n => nI n) r (by omega) 0 (fun i b hi => by
    have h1 : c * i + x < 16 := at_lt hx hi (Nat.mul_le_mul hc hr)
    unfold f_X3_columnMask_l5
    dsimp only
    simp (disch := omega) only [bind_s, sum_l, sum_r, chkin, lit, nI_add, pk_mul, nI_clamp, nI_leI, nI_ltI, nI_eqI, nI_or, and1, shl1, shrx, nI_subx, pk_divx, pk_remx, nmod, nzx, if_tt, if_ff, bz_n1, bz_n0, nm1, nm2, wI_p, wI_inj, wI_n, nI_w, wI_ltI, wI_leI, nI_ltw, nI_lew, reduceIte]) (fun b => by
    unfold f_X3_columnMask_l5
    dsimp only
    simp (disch := omega) only [bind_s, sum_l, sum_r, chkin, lit, nI_add, pk_mul, nI_clamp, nI_leI, nI_ltI, nI_eqI, nI_or, and1, shl1, shrx, nI_subx, pk_divx, pk_remx, nmod, nzx, if_tt, if_ff, bz_n1, bz_n0, nm1, nm2, wI_p, wI_inj, wI_n, nI_w, wI_ltI, wI_leI, nI_ltw, nI_lew, reduceIte])
  rw [show ((0 : Int32), (0 : Int32)) = (nI 0, nI 0) from rfl, this]
  rfl
def rowM (c y : Nat) : Nat := (2 ^ c - 1) * 2 ^ (c * y)
theorem rowM_bit {c y k : Nat} : bit (rowM c y) k = 1 ↔ ∃ x, x < c ∧ k = c * y + x := by
  unfold rowM
  rw [bit_1, ← Nat.shiftLeft_eq, Nat.testBit_shiftLeft, Nat.testBit_two_pow_sub_one, Bool.and_eq_true, decide_eq_true_iff, decide_eq_true_iff]
  constructor
  · rintro ⟨h1, h2⟩; exact ⟨k - c * y, h2, by omega⟩
  · rintro ⟨x, h1, h2⟩; exact ⟨by omega, by omega⟩
theorem rowM_eq {c y : Nat} (hc : c ≤ 4) (hy : y < 4) : f_X3_rowMask (nI c) (nI y) = some (nI (rowM c y)) := by
  unfold f_X3_rowMask f_X3_rowMask_0 rowM
  have h1 : c * y ≤ 4 * 3 := Nat.mul_le_mul hc (by omega)
  have h2 : (2 ^ c - 1) * 2 ^ (c * y) ≤ 2 ^ 4 * 2 ^ 12 := Nat.mul_le_mul (Nat.le_trans (Nat.sub_le _ _) (Nat.pow_le_pow_right (by decide) hc)) (Nat.pow_le_pow_right (by decide) h1)
  have h3 : 1 ≤ 2 ^ c := Nat.one_le_two_pow
  rw [show (31 : Int32) = nI 31 from rfl, show (1 : Int32) = nI 1 from rfl, shl1 (by omega), nI_subx h3, pk_mul, shlx (by omega) (by omega)]
/-- the class's empty lines -/
theorem linesC_eq {c r m : Nat} (hc : 1 ≤ c ∧ c ≤ 4) (hr : 1 ≤ r ∧ r ≤ 4) (hm : m < 65536) : ∃ b, f_X3_hasEmptyLine (nI c) (nI r) (nI m) = some (nI (bN (!b))) ∧ (b = true ↔ Ful c r m) := by
  obtain ⟨v, q1, q2⟩ := lp_fu (f := f_X3_hasEmptyLine_l2 (nI c) (nI r) (nI m)) (fun y z => z = nI y ∧ ∀ j, j < y → ∃ i, i < c ∧ bit m (c * j + i) = 1) (fun v => (v = .inl () ∧ ∀ j, j < r → ∃ i, i < c ∧ bit m (c * j + i) = 1) ∨ (v = .inr () ∧ ∃ j, j < r ∧ ∀ i, i < c → ¬ bit m (c * j + i) = 1)) r (by omega) (nI 0) ⟨rfl, fun j h => absurd h (Nat.not_lt_zero _)⟩ (by
    rintro y z hy ⟨rfl, A⟩
    have hl : m &&& rowM c y < 2 ^ 31 := Nat.lt_of_le_of_lt Nat.and_le_left (by omega)
    unfold f_X3_hasEmptyLine_l2
    rw [if_neg (nI_ge hy (by omega)), rowM_eq hc.2 (by omega), bind_s, nI_and]
    by_cases e : m &&& rowM c y = 0
    · right
      refine ⟨.inr (), by rw [e]; rfl, Or.inr ⟨rfl, y, hy, fun i hi hb => and_0.mp e _ ⟨hb, rowM_bit.mpr ⟨i, hi, rfl⟩⟩⟩⟩
    · left
      refine ⟨nI (y + 1), ?_, rfl, fun j hj => ?_⟩
      · rw [if_neg (show ¬ nI (m &&& rowM c y) = 0 from fun h => e (by rw [show (0 : Int32) = nI 0 from rfl, nI_eqI hl (by decide)] at h; exact h)), nI_1]
      · by_cases q : j = y
        · subst q
          apply Classical.byContradiction
          intro h
          refine e (and_0.mpr (fun k hk => ?_))
          obtain ⟨x, hx, rfl⟩ := rowM_bit.mp hk.2
          exact h ⟨x, hx, hk.1⟩
        · exact A j (by omega)) (by
    rintro z ⟨rfl, A⟩
    refine ⟨.inl (), ?_, Or.inl ⟨rfl, A⟩⟩
    unfold f_X3_hasEmptyLine_l2
    rw [if_pos (by exact Int32.le_refl _)])
  obtain ⟨w, p1, p2⟩ := lp_fu (f := f_X3_hasEmptyLine_l27 (nI c) (nI r) (nI m)) (fun x z => z = nI x ∧ ∀ i, i < x → ∃ j, j < r ∧ bit m (c * j + i) = 1) (fun v => (v = .inl () ∧ ∀ i, i < c → ∃ j, j < r ∧ bit m (c * j + i) = 1) ∨ (v = .inr () ∧ ∃ i, i < c ∧ ∀ j, j < r → ¬ bit m (c * j + i) = 1)) c (by omega) (nI 0) ⟨rfl, fun j h => absurd h (Nat.not_lt_zero _)⟩ (by
    rintro x z hx ⟨rfl, A⟩
    have hl : m &&& colM c r x < 2 ^ 31 := Nat.lt_of_le_of_lt Nat.and_le_left (by omega)
    unfold f_X3_hasEmptyLine_l27
    rw [if_neg (nI_ge hx (by omega)), colM_eq hc.2 hr.2 hx, bind_s, nI_and]
    by_cases e : m &&& colM c r x = 0
    · right
      refine ⟨.inr (), by rw [e]; rfl, Or.inr ⟨rfl, x, hx, fun j hj hb => and_0.mp e _ ⟨hb, colM_bit.mpr ⟨j, hj, Nat.add_comm _ _⟩⟩⟩⟩
    · left
      refine ⟨nI (x + 1), ?_, rfl, fun i hi => ?_⟩
      · rw [if_neg (show ¬ nI (m &&& colM c r x) = 0 from fun h => e (by rw [show (0 : Int32) = nI 0 from rfl, nI_eqI hl (by decide)] at h; exact h)), nI_1]
      · by_cases q : i = x
        · subst q
          apply Classical.byContradiction
          intro h
          refine e (and_0.mpr (fun k hk => ?_))
          obtain ⟨y, hy, rfl⟩ := colM_bit.mp hk.2
          exact h ⟨y, hy, by rw [Nat.add_comm]; exact hk.1⟩
        · exact A i (by omega)) (by
    rintro z ⟨rfl, A⟩
    refine ⟨.inl (), ?_, Or.inl ⟨rfl, A⟩⟩
    unfold f_X3_hasEmptyLine_l27
    rw [if_pos (by exact Int32.le_refl _)])
  have key : ∀ x, f_X3_hasEmptyLine_0 (nI c) (nI r) (nI m) = some x → f_X3_hasEmptyLine (nI c) (nI r) (nI m) = bz (some x) := fun x h => by
    unfold f_X3_hasEmptyLine
    rw [h]
  rcases q2 with ⟨rfl, q2⟩ | ⟨rfl, j, hj, q2⟩
  · rcases p2 with ⟨rfl, p2⟩ | ⟨rfl, i, hi, p2⟩
    · refine ⟨true, ?_, fun _ => ⟨q2, p2⟩, fun _ => rfl⟩
      rw [key 0 (by
        unfold f_X3_hasEmptyLine_0
        rw [show (0 : Int32) = nI 0 from rfl, q1, bind_s]
        show ((lp (f_X3_hasEmptyLine_l27 (nI c) (nI r) (nI m)) FU (nI 0)).bind _) = _
        rw [p1]
        rfl)]
      rfl
    · refine ⟨false, ?_, fun h => (by cases h), fun h => ?_⟩
      · rw [key 1 (by
          unfold f_X3_hasEmptyLine_0
          rw [show (0 : Int32) = nI 0 from rfl, q1, bind_s]
          show ((lp (f_X3_hasEmptyLine_l27 (nI c) (nI r) (nI m)) FU (nI 0)).bind _) = _
          rw [p1]
          rfl)]
        rfl
      · obtain ⟨j, h1, h2⟩ := h.2 i hi
        exact absurd h2 (p2 j h1)
  · refine ⟨false, ?_, fun h => (by cases h), fun h => ?_⟩
    · rw [key 1 (by
        unfold f_X3_hasEmptyLine_0
        rw [show (0 : Int32) = nI 0 from rfl, q1]
        rfl)]
      rfl
    · obtain ⟨i, h1, h2⟩ := h.1 j hj
      exact absurd h2 (q2 i h1)
