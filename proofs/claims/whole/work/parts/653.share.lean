/-! PURE FACTS, 60: shares, the numbers with a point -/
theorem b32_n : FP.Core.b32.tails = 8388608 ∧ FP.Core.b32.exps = 256 ∧ FP.Core.b32.qmin = -149 ∧ FP.Core.b32.qmax = 104 ∧ 2 ^ FP.Core.b32.p = 16777216 := by decide
theorem b64_n : FP.Core.b64.tails = 4503599627370496 ∧ FP.Core.b64.exps = 2048 ∧ FP.Core.b64.qmin = -1074 ∧ FP.Core.b64.qmax = 971 ∧ 2 ^ FP.Core.b64.p = 9007199254740992 := by decide
theorem settle_fit {f : FP.Core.Fmt} {s : Bool} {c : Nat} {q : Int} (h : f.tails < 2 ^ f.p) : FP.Core.settle f s c q = .inf s ∨ ∃ c' q', FP.Core.settle f s c q = .fin s c' q' ∧ c' < 2 ^ f.p ∧ q' ≤ f.qmax := by
  unfold FP.Core.settle FP.Core.bound
  by_cases a : c < 2 ^ f.p
  · rw [if_pos a]
    by_cases b : q ≤ f.qmax
    · rw [if_pos b]; exact Or.inr ⟨c, q, rfl, a, b⟩
    · rw [if_neg b]; exact Or.inl rfl
  · rw [if_neg a]
    by_cases b : q + 1 ≤ f.qmax
    · rw [if_pos b]; exact Or.inr ⟨_, _, rfl, h, b⟩
    · rw [if_neg b]; exact Or.inl rfl
theorem ratio_fit {f : FP.Core.Fmt} {s : Bool} {a b : Nat} {e : Int} (h : f.tails < 2 ^ f.p) (h2 : f.qmin ≤ f.qmax) : FP.Core.roundRatio f s a b e = .inf s ∨ ∃ c' q', FP.Core.roundRatio f s a b e = .fin s c' q' ∧ c' < 2 ^ f.p ∧ q' ≤ f.qmax := by
  unfold FP.Core.roundRatio FP.Core.roundAt
  by_cases q : a = 0
  · rw [if_pos q]; exact Or.inr ⟨_, _, rfl, by omega, h2⟩
  · rw [if_neg q]; exact settle_fit h
theorem enc32 {d : FP.Core.Datum} (h : d = .inf false ∨ ∃ c' q', d = .fin false c' q' ∧ c' < 2 ^ FP.Core.b32.p ∧ q' ≤ FP.Core.b32.qmax) : FP.Core.encode FP.Core.b32 d ≤ 2139095040 := by
  obtain ⟨t1, t2, t3, t4, t5⟩ := b32_n
  rcases h with rfl | ⟨c, q, rfl, h1, h2⟩
  · decide
  · unfold FP.Core.encode FP.Core.assemble
    rw [t5] at h1
    rw [t4] at h2
    rw [t1, t2, t3]
    show (if c < 8388608 then (0 * 256 + 0) * 8388608 + c else (0 * 256 + ((q - -149).toNat + 1)) * 8388608 + (c - 8388608)) ≤ 2139095040
    split <;> omega
theorem enc64 {d : FP.Core.Datum} (h : d = .inf false ∨ ∃ c' q', d = .fin false c' q' ∧ c' < 2 ^ FP.Core.b64.p ∧ q' ≤ FP.Core.b64.qmax) : FP.Core.encode FP.Core.b64 d ≤ 9218868437227405312 := by
  obtain ⟨t1, t2, t3, t4, t5⟩ := b64_n
  rcases h with rfl | ⟨c, q, rfl, h1, h2⟩
  · decide
  · unfold FP.Core.encode FP.Core.assemble
    rw [t5] at h1
    rw [t4] at h2
    rw [t1, t2, t3]
    show (if c < 4503599627370496 then (0 * 2048 + 0) * 4503599627370496 + c else (0 * 2048 + ((q - -1074).toNat + 1)) * 4503599627370496 + (c - 4503599627370496)) ≤ 9218868437227405312
    split <;> omega
/-- a code below the infinity's is a number without a sign, or the infinity -/
theorem dec32 {n : Nat} (h : n ≤ 2139095040) : FP.Core.decode FP.Core.b32 n = .inf false ∨ ∃ c q, FP.Core.decode FP.Core.b32 n = .fin false c q := by
  obtain ⟨t1, t2, t3, t4, t5⟩ := b32_n
  have hs : FP.Core.fieldS FP.Core.b32 n = false := by
    unfold FP.Core.fieldS
    rw [t1, t2, show n / 8388608 / 256 = 0 by omega]
    rfl
  unfold FP.Core.decode
  by_cases a : FP.Core.fieldE FP.Core.b32 n = FP.Core.b32.exps - 1
  · have ht : FP.Core.fieldT FP.Core.b32 n = 0 := by
      unfold FP.Core.fieldE at a
      unfold FP.Core.fieldT
      rw [t1, t2] at a
      rw [t1]
      omega
    rw [if_pos a, if_pos ht, hs]
    exact Or.inl rfl
  · rw [if_neg a]
    by_cases b : FP.Core.fieldE FP.Core.b32 n = 0
    · rw [if_pos b, hs]; exact Or.inr ⟨_, _, rfl⟩
    · rw [if_neg b, hs]; exact Or.inr ⟨_, _, rfl⟩
theorem dec64 {n : Nat} (h : n ≤ 9218868437227405312) : FP.Core.decode FP.Core.b64 n = .inf false ∨ ∃ c q, FP.Core.decode FP.Core.b64 n = .fin false c q := by
  obtain ⟨t1, t2, t3, t4, t5⟩ := b64_n
  have hs : FP.Core.fieldS FP.Core.b64 n = false := by
    unfold FP.Core.fieldS
    rw [t1, t2, show n / 4503599627370496 / 2048 = 0 by omega]
    rfl
  unfold FP.Core.decode
  by_cases a : FP.Core.fieldE FP.Core.b64 n = FP.Core.b64.exps - 1
  · have ht : FP.Core.fieldT FP.Core.b64 n = 0 := by
      unfold FP.Core.fieldE at a
      unfold FP.Core.fieldT
      rw [t1, t2] at a
      rw [t1]
      omega
    rw [if_pos a, if_pos ht, hs]
    exact Or.inl rfl
  · rw [if_neg a]
    by_cases b : FP.Core.fieldE FP.Core.b64 n = 0
    · rw [if_pos b, hs]; exact Or.inr ⟨_, _, rfl⟩
    · rw [if_neg b, hs]; exact Or.inr ⟨_, _, rfl⟩
theorem nf32_le {r : UInt32} (h : r.toNat ≤ 2139095040) : nf32 r = true := by
  refine decide_eq_true (show r &&& 0x7fffffff ≤ 0x7f800000 from ?_)
  rw [UInt32.le_iff_toNat_le, UInt32.toNat_and]
  exact Nat.le_trans Nat.and_le_left h
theorem nf64_le {r : UInt64} (h : r.toNat ≤ 9218868437227405312) : nf64 r = true := by
  refine decide_eq_true (show r &&& 0x7fffffffffffffff ≤ 0x7ff0000000000000 from ?_)
  rw [UInt64.le_iff_toNat_le, UInt64.toNat_and]
  exact Nat.le_trans Nat.and_le_left h
/-- the codes of small whole numbers -/
def i2ok (n : Nat) : Bool := match FP.Core.decode FP.Core.b32 (FP.i2f (Int32.ofNat n)).toNat with
  | .fin false c _ => (c == 0) == (n == 0)
  | _ => false
theorem i2ok_all : (List.range 640).all i2ok = true := by decide +kernel
theorem i2f_dec {n : Nat} (h : n < 640) : ∃ c q, FP.Core.decode FP.Core.b32 (FP.i2f (nI n)).toNat = .fin false c q ∧ (0 < n → c ≠ 0) := by
  have := List.all_eq_true.mp i2ok_all n (List.mem_range.mpr h)
  unfold i2ok at this
  change (match FP.Core.decode FP.Core.b32 (FP.i2f (nI n)).toNat with | .fin false c _ => (c == 0) == (n == 0) | _ => false) = true at this
  split at this
  · rename_i c q e
    refine ⟨c, q, e, fun hn hc => ?_⟩
    subst hc
    have : (n == 0) = false := by simp; omega
    simp_all
  · cases this
theorem fdiv_le {a b : Nat} (ha : a < 640) (hb : b < 640) (h0 : 0 < b) : (FP.fdiv (FP.i2f (nI a)) (FP.i2f (nI b))).toNat ≤ 2139095040 := by
  obtain ⟨c, q, e1, _⟩ := i2f_dec ha
  obtain ⟨d, r, e2, e3⟩ := i2f_dec hb
  have key : FP.Core.div FP.Core.b32 (FP.i2f (nI a)).toNat (FP.i2f (nI b)).toNat ≤ 2139095040 := by
    unfold FP.Core.div
    rw [e1, e2]
    refine enc32 ?_
    unfold FP.Core.quotient
    dsimp only
    rw [if_neg (e3 h0)]
    exact ratio_fit (by decide) (by decide)
  show (UInt32.ofNat (FP.Core.div FP.Core.b32 (FP.i2f (nI a)).toNat (FP.i2f (nI b)).toNat)).toNat ≤ _
  rw [UInt32.toNat_ofNat_of_lt' (by show _ < 4294967296; omega)]
  exact key
theorem f2d_le {x : UInt32} (h : x.toNat ≤ 2139095040) : (FP.f2d x).toNat ≤ 9218868437227405312 := by
  have hd := dec32 h
  have hn : FP.Core.fIsNaN x = false := by
    unfold FP.Core.fIsNaN FP.Core.isNaN
    rcases hd with e | ⟨c, q, e⟩ <;> rw [e] <;> rfl
  have key : FP.Core.convert FP.Core.b32 FP.Core.b64 x.toNat ≤ 9218868437227405312 := by
    unfold FP.Core.convert
    refine enc64 ?_
    rcases hd with e | ⟨c, q, e⟩ <;> rw [e]
    · exact Or.inl rfl
    · exact ratio_fit (by decide) (by decide)
  unfold FP.f2d
  rw [if_neg (by rw [hn]; decide)]
  show (UInt64.ofNat (FP.Core.convert FP.Core.b32 FP.Core.b64 x.toNat)).toNat ≤ _
  rw [UInt64.toNat_ofNat_of_lt' (by show _ < 18446744073709551616; omega)]
  exact key
theorem dcmp_same {y : UInt64} (h : y.toNat ≤ 9218868437227405312) : (Op.cmpValue (FP.dcmp y y) CmpOp.l) = 0 := by
  have e : FP.dcmp y y = some .eq := by
    show FP.Core.order (FP.Core.decode FP.Core.b64 y.toNat) (FP.Core.decode FP.Core.b64 y.toNat) = _
    rcases dec64 h with e | ⟨c, q, e⟩ <;> rw [e] <;> unfold FP.Core.order <;> simp
  rw [e]
  rfl
