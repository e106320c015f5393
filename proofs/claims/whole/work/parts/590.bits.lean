/-! PURE FACTS, 10: how many bits -/
variable {k : Nat} {R : Nat → Nat} {σ : St}
theorem ushx {n k : Nat} (hn : n < 2 ^ 32) (hk : k < 32) (h : ((nI k).toUInt32 &&& (nI 31).toUInt32).toBitVec.toNat = k) : ((nI n).toUInt32 >>> ((nI k).toUInt32 &&& (nI 31).toUInt32)).toInt32 = nI (n / 2 ^ k) :=
  pk_ushrN hn (nI k) k (by
    show (((nI k).toUInt32 &&& (nI 31).toUInt32).toBitVec % 32).toNat = k
    rw [BitVec.toNat_umod, h]
    exact Nat.mod_eq_of_lt hk)
theorem and16 (x c M : Nat) (hc : c < 16) : x &&& (c + 16 * M) = (x % 16 &&& c) + 16 * ((x / 16) &&& M) := by
  have h1 : (x &&& (c + 16 * M)) / 2 ^ 4 = x / 2 ^ 4 &&& (c + 16 * M) / 2 ^ 4 := Nat.and_div_two_pow
  have h2 : (x &&& (c + 16 * M)) % 2 ^ 4 = x % 2 ^ 4 &&& (c + 16 * M) % 2 ^ 4 := Nat.and_mod_two_pow
  have h3 : (c + 16 * M) / 2 ^ 4 = M := by omega
  have h4 : (c + 16 * M) % 2 ^ 4 = c := by omega
  rw [h3] at h1
  rw [h4] at h2
  have h5 := Nat.div_add_mod (x &&& (c + 16 * M)) (2 ^ 4)
  rw [h1, h2] at h5
  simp only [Nat.reducePow] at h5
  omega
def bh (n : Nat) : Nat := n - (n / 2 &&& 5)
def bg (n : Nat) : Nat := (bh n &&& 3) + (bh n / 4 &&& 3)
theorem b5a : ∀ n : Fin 16, ∀ e : Fin 2, ((n.1 / 2 + 8 * e.1) &&& 5) = (n.1 / 2 &&& 5) ∧ (n.1 / 2 &&& 5) ≤ n.1 ∧ bh n.1 ≤ 10 := by decide
theorem b3a : ∀ n : Fin 16, bg n.1 = n.1 % 2 + n.1 / 2 % 2 + n.1 / 4 % 2 + n.1 / 8 % 2 ∧ bg n.1 ≤ 4 := by decide
theorem b3b : ∀ n : Fin 11, ∀ e : Fin 4, ((n.1 / 4 + 4 * e.1) &&& 3) = (n.1 / 4 &&& 3) := by decide
theorem b15 : ∀ n : Fin 16, n.1 &&& 15 = n.1 ∧ n.1 &&& 0 = 0 := by decide
def bc1 (m : Nat) : Nat := m - (m / 2 ^ 1 &&& 1431655765)
def bc2 (m : Nat) : Nat := (bc1 m &&& 858993459) + (bc1 m / 2 ^ 2 &&& 858993459)
def bc3 (m : Nat) : Nat := bc2 m + bc2 m / 2 ^ 4 &&& 252645135
def bc4 (m : Nat) : Nat := bc3 m + bc3 m / 2 ^ 8
def bc5 (m : Nat) : Nat := bc4 m + bc4 m / 2 ^ 16 &&& 63
theorem and_m5 (y : Nat) (h : y < 65536) : y &&& 1431655765 = (y % 16 &&& 5) + 16 * (y / 16 % 16 &&& 5) + 256 * (y / 256 % 16 &&& 5) + 4096 * (y / 4096 % 16 &&& 5) := by
  rw [show 1431655765 = 5 + 16 * 89478485 from rfl, and16 _ _ _ (by decide), show 89478485 = 5 + 16 * 5592405 from rfl, and16 _ _ _ (by decide), show 5592405 = 5 + 16 * 349525 from rfl, and16 _ _ _ (by decide), show 349525 = 5 + 16 * 21845 from rfl, and16 _ _ _ (by decide)]
  rw [Nat.div_div_eq_div_mul, Nat.div_div_eq_div_mul, Nat.div_div_eq_div_mul, show 16 * 16 = 256 from rfl, show 256 * 16 = 4096 from rfl, show y / (4096 * 16) = 0 by omega, Nat.zero_and]
  omega
theorem and_m3 (y : Nat) (h : y < 65536) : y &&& 858993459 = (y % 16 &&& 3) + 16 * (y / 16 % 16 &&& 3) + 256 * (y / 256 % 16 &&& 3) + 4096 * (y / 4096 % 16 &&& 3) := by
  rw [show 858993459 = 3 + 16 * 53687091 from rfl, and16 _ _ _ (by decide), show 53687091 = 3 + 16 * 3355443 from rfl, and16 _ _ _ (by decide), show 3355443 = 3 + 16 * 209715 from rfl, and16 _ _ _ (by decide), show 209715 = 3 + 16 * 13107 from rfl, and16 _ _ _ (by decide)]
  rw [Nat.div_div_eq_div_mul, Nat.div_div_eq_div_mul, Nat.div_div_eq_div_mul, show 16 * 16 = 256 from rfl, show 256 * 16 = 4096 from rfl, show y / (4096 * 16) = 0 by omega, Nat.zero_and]
  omega
theorem and_mf (y : Nat) (h : y < 65536) : y &&& 252645135 = (y % 16) + 256 * (y / 256 % 16) := by
  rw [show 252645135 = 15 + 16 * 15790320 from rfl, and16 _ _ _ (by decide), show 15790320 = 0 + 16 * 986895 from rfl, and16 _ _ _ (by decide), show 986895 = 15 + 16 * 61680 from rfl, and16 _ _ _ (by decide), show 61680 = 0 + 16 * 3855 from rfl, and16 _ _ _ (by decide)]
  rw [Nat.div_div_eq_div_mul, Nat.div_div_eq_div_mul, Nat.div_div_eq_div_mul, show 16 * 16 = 256 from rfl, show 256 * 16 = 4096 from rfl, show y / (4096 * 16) = 0 by omega, Nat.zero_and]
  have h1 := (b15 ⟨y % 16, by omega⟩).1
  have h2 := (b15 ⟨y / 256 % 16, by omega⟩).1
  simp only [Nat.and_zero] at *
  rw [h1, h2]
  omega
theorem bc1_n {a b c d : Nat} (ha : a < 16) (hb : b < 16) (hc : c < 16) (hd : d < 16) : bc1 (a + 16 * b + 256 * c + 4096 * d) = bh a + 16 * bh b + 256 * bh c + 4096 * bh d := by
  have q1 := b5a ⟨a, ha⟩ ⟨b % 2, by omega⟩
  have q2 := b5a ⟨b, hb⟩ ⟨c % 2, by omega⟩
  have q3 := b5a ⟨c, hc⟩ ⟨d % 2, by omega⟩
  have q4 := b5a ⟨d, hd⟩ ⟨0, by omega⟩
  have h1 : (a + 16 * b + 256 * c + 4096 * d) / 2 ^ 1 % 16 = a / 2 + 8 * (b % 2) := by clear q1 q2 q3 q4; omega
  have h2 : (a + 16 * b + 256 * c + 4096 * d) / 2 ^ 1 / 16 % 16 = b / 2 + 8 * (c % 2) := by clear q1 q2 q3 q4; omega
  have h3 : (a + 16 * b + 256 * c + 4096 * d) / 2 ^ 1 / 256 % 16 = c / 2 + 8 * (d % 2) := by clear q1 q2 q3 q4; omega
  have h4 : (a + 16 * b + 256 * c + 4096 * d) / 2 ^ 1 / 4096 % 16 = d / 2 + 8 * 0 := by clear q1 q2 q3 q4; omega
  unfold bc1
  rw [and_m5 _ (by clear q1 q2 q3 q4; omega), h1, h2, h3, h4]
  clear h1 h2 h3 h4
  simp only at q1 q2 q3 q4
  rw [q1.1, q2.1, q3.1, q4.1]
  have t1 := q1.2.1
  have t2 := q2.2.1
  have t3 := q3.2.1
  have t4 := q4.2.1
  clear q1 q2 q3 q4
  unfold bh
  generalize a / 2 &&& 5 = u1 at *
  generalize b / 2 &&& 5 = u2 at *
  generalize c / 2 &&& 5 = u3 at *
  generalize d / 2 &&& 5 = u4 at *
  omega
theorem bc2_n {a b c d m : Nat} (ha : a ≤ 10) (hb : b ≤ 10) (hc : c ≤ 10) (hd : d ≤ 10) (e : bc1 m = a + 16 * b + 256 * c + 4096 * d) : bc2 m = ((a &&& 3) + (a / 4 &&& 3)) + 16 * ((b &&& 3) + (b / 4 &&& 3)) + 256 * ((c &&& 3) + (c / 4 &&& 3)) + 4096 * ((d &&& 3) + (d / 4 &&& 3)) := by
  have q1 := b3b ⟨a, by omega⟩ ⟨b % 4, by omega⟩
  have q2 := b3b ⟨b, by omega⟩ ⟨c % 4, by omega⟩
  have q3 := b3b ⟨c, by omega⟩ ⟨d % 4, by omega⟩
  have q4 := b3b ⟨d, by omega⟩ ⟨0, by omega⟩
  unfold bc2
  rw [e]
  have h0 : (a + 16 * b + 256 * c + 4096 * d) % 16 = a := by clear q1 q2 q3 q4; omega
  have h1 : (a + 16 * b + 256 * c + 4096 * d) / 16 % 16 = b := by clear q1 q2 q3 q4; omega
  have h2 : (a + 16 * b + 256 * c + 4096 * d) / 256 % 16 = c := by clear q1 q2 q3 q4; omega
  have h3 : (a + 16 * b + 256 * c + 4096 * d) / 4096 % 16 = d := by clear q1 q2 q3 q4; omega
  have g0 : (a + 16 * b + 256 * c + 4096 * d) / 2 ^ 2 % 16 = a / 4 + 4 * (b % 4) := by clear q1 q2 q3 q4; omega
  have g1 : (a + 16 * b + 256 * c + 4096 * d) / 2 ^ 2 / 16 % 16 = b / 4 + 4 * (c % 4) := by clear q1 q2 q3 q4; omega
  have g2 : (a + 16 * b + 256 * c + 4096 * d) / 2 ^ 2 / 256 % 16 = c / 4 + 4 * (d % 4) := by clear q1 q2 q3 q4; omega
  have g3 : (a + 16 * b + 256 * c + 4096 * d) / 2 ^ 2 / 4096 % 16 = d / 4 + 4 * 0 := by clear q1 q2 q3 q4; omega
  rw [and_m3 _ (by clear q1 q2 q3 q4; omega), and_m3 _ (by clear q1 q2 q3 q4; omega), h0, h1, h2, h3, g0, g1, g2, g3]
  clear h0 h1 h2 h3 g0 g1 g2 g3
  simp only at q1 q2 q3 q4
  rw [q1, q2, q3, q4]
  clear q1 q2 q3 q4
  generalize a &&& 3 = u1
  generalize b &&& 3 = u2
  generalize c &&& 3 = u3
  generalize d &&& 3 = u4
  generalize a / 4 &&& 3 = v1
  generalize b / 4 &&& 3 = v2
  generalize c / 4 &&& 3 = v3
  generalize d / 4 &&& 3 = v4
  omega
theorem bc3_n {a b c d : Nat} (ha : a ≤ 4) (hb : b ≤ 4) (hc : c ≤ 4) (hd : d ≤ 4) : (a + 16 * b + 256 * c + 4096 * d) / 2 ^ 4 = b + 16 * c + 256 * d := by omega
theorem bc5_n {a b c d m : Nat} (ha : a ≤ 4) (hb : b ≤ 4) (hc : c ≤ 4) (hd : d ≤ 4) (e : bc2 m = a + 16 * b + 256 * c + 4096 * d) : bc5 m = a + b + c + d ∧ bc3 m < 65536 ∧ bc4 m < 65536 := by
  have e3 : bc3 m = (a + b) + 256 * (c + d) := by
    unfold bc3
    rw [e, bc3_n ha hb hc hd]
    clear e
    have h1 : a + 16 * b + 256 * c + 4096 * d + (b + 16 * c + 256 * d) = (a + b) + 16 * (b + c) + 256 * ((c + d) + 16 * d) := by omega
    rw [h1]
    clear h1
    have h2 : (a + b) + 16 * (b + c) + 256 * ((c + d) + 16 * d) < 65536 := by omega
    rw [and_mf _ h2]
    clear h2
    have h3 : ((a + b) + 16 * (b + c) + 256 * ((c + d) + 16 * d)) % 16 = a + b := by omega
    have h4 : ((a + b) + 16 * (b + c) + 256 * ((c + d) + 16 * d)) / 256 = (c + d) + 16 * d := by omega
    have h5 : ((c + d) + 16 * d) % 16 = c + d := by omega
    rw [h3, h4, h5]
  clear e
  have e4 : bc4 m = (a + b) + (c + d) + 256 * (c + d) := by
    unfold bc4
    rw [e3, show (a + b + 256 * (c + d)) / 2 ^ 8 = c + d by clear e3; omega]
    clear e3
    omega
  refine ⟨?_, by clear e4; omega, by clear e3; omega⟩
  unfold bc5
  rw [show (63 : Nat) = 2 ^ 6 - 1 from rfl, Nat.and_two_pow_sub_one_eq_mod, e4, show ((a + b) + (c + d) + 256 * (c + d)) / 2 ^ 16 = 0 by clear e3 e4; omega]
  clear e3 e4
  omega
theorem pcn_n {a b c d : Nat} (ha : a < 16) (hb : b < 16) (hc : c < 16) (hd : d < 16) : pcn (a + 16 * b + 256 * c + 4096 * d) = (a % 2 + a / 2 % 2 + a / 4 % 2 + a / 8 % 2) + (b % 2 + b / 2 % 2 + b / 4 % 2 + b / 8 % 2) + (c % 2 + c / 2 % 2 + c / 4 % 2 + c / 8 % 2) + (d % 2 + d / 2 % 2 + d / 4 % 2 + d / 8 % 2) := by
  generalize hm : a + 16 * b + 256 * c + 4096 * d = m
  show 0 + m / 2 ^ 0 % 2 + m / 2 ^ 1 % 2 + m / 2 ^ 2 % 2 + m / 2 ^ 3 % 2 + m / 2 ^ 4 % 2 + m / 2 ^ 5 % 2 + m / 2 ^ 6 % 2 + m / 2 ^ 7 % 2 + m / 2 ^ 8 % 2 + m / 2 ^ 9 % 2 + m / 2 ^ 10 % 2 + m / 2 ^ 11 % 2 + m / 2 ^ 12 % 2 + m / 2 ^ 13 % 2 + m / 2 ^ 14 % 2 + m / 2 ^ 15 % 2 = _
  rw [show m / 2 ^ 0 % 2 = a % 2 by omega, show m / 2 ^ 1 % 2 = a / 2 % 2 by omega, show m / 2 ^ 2 % 2 = a / 4 % 2 by omega, show m / 2 ^ 3 % 2 = a / 8 % 2 by omega]
  rw [show m / 2 ^ 4 % 2 = b % 2 by omega, show m / 2 ^ 5 % 2 = b / 2 % 2 by omega, show m / 2 ^ 6 % 2 = b / 4 % 2 by omega, show m / 2 ^ 7 % 2 = b / 8 % 2 by omega]
  rw [show m / 2 ^ 8 % 2 = c % 2 by omega, show m / 2 ^ 9 % 2 = c / 2 % 2 by omega, show m / 2 ^ 10 % 2 = c / 4 % 2 by omega, show m / 2 ^ 11 % 2 = c / 8 % 2 by omega]
  rw [show m / 2 ^ 12 % 2 = d % 2 by omega, show m / 2 ^ 13 % 2 = d / 2 % 2 by omega, show m / 2 ^ 14 % 2 = d / 4 % 2 by omega, show m / 2 ^ 15 % 2 = d / 8 % 2 by omega]
  simp only [Nat.zero_add, Nat.add_assoc]
theorem bc5_eq {m : Nat} (h : m < 65536) : bc5 m = pcn m ∧ bc1 m < 65536 ∧ bc2 m < 65536 ∧ bc3 m < 65536 ∧ bc4 m < 65536 := by
  obtain ⟨a, b, c, d, ha, hb, hc, hd, rfl⟩ : ∃ a b c d : Nat, a < 16 ∧ b < 16 ∧ c < 16 ∧ d < 16 ∧ m = a + 16 * b + 256 * c + 4096 * d := ⟨m % 16, m / 16 % 16, m / 256 % 16, m / 4096, by omega, by omega, by omega, by omega, by omega⟩
  have r1 := (b5a ⟨a, ha⟩ 0).2.2
  have r2 := (b5a ⟨b, hb⟩ 0).2.2
  have r3 := (b5a ⟨c, hc⟩ 0).2.2
  have r4 := (b5a ⟨d, hd⟩ 0).2.2
  have t1 := b3a ⟨a, ha⟩
  have t2 := b3a ⟨b, hb⟩
  have t3 := b3a ⟨c, hc⟩
  have t4 := b3a ⟨d, hd⟩
  simp only at r1 r2 r3 r4 t1 t2 t3 t4
  have e1 := bc1_n ha hb hc hd
  have e2 : bc2 (a + 16 * b + 256 * c + 4096 * d) = bg a + 16 * bg b + 256 * bg c + 4096 * bg d := by
    unfold bg
    exact bc2_n r1 r2 r3 r4 e1
  generalize bh a = ha' at *
  generalize bh b = hb' at *
  generalize bh c = hc' at *
  generalize bh d = hd' at *
  generalize bg a = ga at *
  generalize bg b = gb at *
  generalize bg c = gc at *
  generalize bg d = gd at *
  generalize hpm : a + 16 * b + 256 * c + 4096 * d = m at *
  obtain ⟨e5, e3, e4⟩ := bc5_n t1.2 t2.2 t3.2 t4.2 e2
  refine ⟨?_, ?_, ?_, e3, e4⟩
  · rw [← hpm, pcn_n ha hb hc hd, hpm, e5, t1.1, t2.1, t3.1, t4.1]
  · rw [e1]
    clear e1 e2 e3 e4 e5 t1 t2 t3 t4 hpm h
    omega
  · rw [e2]
    have t1 := t1.2
    have t2 := t2.2
    have t3 := t3.2
    have t4 := t4.2
    clear e1 e2 e3 e4 e5 r1 r2 r3 r4 hpm h
    omega
set_option maxHeartbeats 4000000 in
theorem bitC_eq {m : Nat} (h : m < 65536) : f_J6_bitCount_0f7a4 (nI m) = some (nI (pcn m)) := by
  obtain ⟨h5, h1, h2, h3, h4⟩ := bc5_eq h
  unfold f_J6_bitCount_0f7a4 f_J6_bitCount_0f7a4_0
  simp only [lit]
  have u : ∀ n, n < 65536 * 2 → ((nI n).toUInt32 >>> ((nI 1).toUInt32 &&& (nI 31).toUInt32)).toInt32 = nI (n / 2 ^ 1) := fun n hn => ushx (by omega) (by decide) (by decide)
  have u2 : ∀ n, n < 65536 * 2 → ((nI n).toUInt32 >>> ((nI 2).toUInt32 &&& (nI 31).toUInt32)).toInt32 = nI (n / 2 ^ 2) := fun n hn => ushx (by omega) (by decide) (by decide)
  have u4 : ∀ n, n < 65536 * 2 → ((nI n).toUInt32 >>> ((nI 4).toUInt32 &&& (nI 31).toUInt32)).toInt32 = nI (n / 2 ^ 4) := fun n hn => ushx (by omega) (by decide) (by decide)
  have u8 : ∀ n, n < 65536 * 2 → ((nI n).toUInt32 >>> ((nI 8).toUInt32 &&& (nI 31).toUInt32)).toInt32 = nI (n / 2 ^ 8) := fun n hn => ushx (by omega) (by decide) (by decide)
  have u16 : ∀ n, n < 65536 * 2 → ((nI n).toUInt32 >>> ((nI 16).toUInt32 &&& (nI 31).toUInt32)).toInt32 = nI (n / 2 ^ 16) := fun n hn => ushx (by omega) (by decide) (by decide)
  have e1 : nI m - ((((nI m).toUInt32 >>> ((nI 1).toUInt32 &&& (nI 31).toUInt32)).toInt32) &&& nI 1431655765) = nI (bc1 m) := by
    rw [u m (by omega), nI_and, nI_subx (Nat.le_trans Nat.and_le_left (by omega))]
    rfl
  have e2 : (nI (bc1 m) &&& nI 858993459) + ((((nI (bc1 m)).toUInt32 >>> ((nI 2).toUInt32 &&& (nI 31).toUInt32)).toInt32) &&& nI 858993459) = nI (bc2 m) := by
    rw [u2 _ (by omega), nI_and, nI_and, nI_add]
    rfl
  have e3 : (nI (bc2 m) + (((nI (bc2 m)).toUInt32 >>> ((nI 4).toUInt32 &&& (nI 31).toUInt32)).toInt32)) &&& nI 252645135 = nI (bc3 m) := by
    rw [u4 _ (by omega), nI_add, nI_and]
    rfl
  have e4 : nI (bc3 m) + (((nI (bc3 m)).toUInt32 >>> ((nI 8).toUInt32 &&& (nI 31).toUInt32)).toInt32) = nI (bc4 m) := by
    rw [u8 _ (by omega), nI_add]
    rfl
  have e5 : (nI (bc4 m) + (((nI (bc4 m)).toUInt32 >>> ((nI 16).toUInt32 &&& (nI 31).toUInt32)).toInt32)) &&& nI 63 = nI (bc5 m) := by
    rw [u16 _ (by omega), nI_add, nI_and]
    rfl
  simp only [e1, e2, e3, e4, e5, h5]
theorem sizeOf_eq (T : ShR k R σ) (G : Good R) {h : Nat} (hh : h < R 1) : f_X8_sizeOf k (nI h) σ = some (nI (pcn (R (637 + h)))) := by
  have := GH G hh
  unfold f_X8_sizeOf f_X8_sizeOf_0
  simp (disch := omega) only [bind_s, sum_l, sum_r, chkin, lit, nI_add, pk_mul, nI_clamp, nI_leI, nI_ltI, nI_eqI, nI_or, and1, shl1, shrx, nI_subx, pk_divx, pk_remx, nmod, nzx, if_tt, if_ff, bz_n1, bz_n0, nm1, nm2, wI_p, wI_inj, wI_n, nI_w, wI_ltI, wI_leI, nI_ltw, nI_lew, reduceIte, hg_eq T, (T.2.2.2.1 h hh).2.2.1, bitC_eq]
