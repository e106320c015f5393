/-! PURE FACTS, 4: bits of sets, quarters, turned sets -/
def bit (m k : Nat) : Nat := m / 2 ^ k % 2
theorem bit_lt (m k : Nat) : bit m k < 2 := Nat.mod_lt _ (by decide)
theorem bit_t (m k : Nat) : bit m k = if m.testBit k then 1 else 0 := by
  unfold bit
  rw [Nat.testBit_eq_decide_div_mod_eq]
  have := Nat.mod_two_eq_zero_or_one (m / 2 ^ k)
  rcases this with h | h <;> simp [h]
theorem bit_0 {m k : Nat} : bit m k = 0 ↔ m.testBit k = false := by
  rw [bit_t]
  cases m.testBit k <;> simp
theorem bit_1 {m k : Nat} : bit m k = 1 ↔ m.testBit k = true := by
  rw [bit_t]
  cases m.testBit k <;> simp
theorem bit_e0 (m k : Nat) : (nI (bit m k) = nI 0) = (bit m k = 0) := nI_eqI (by have := bit_lt m k; omega) (by decide)
theorem bit_e1 (m k : Nat) : (nI (bit m k) = nI 1) = (bit m k = 1) := nI_eqI (by have := bit_lt m k; omega) (by decide)
theorem bz_b {n : Nat} (h : n < 2) : bz (some (nI n)) = some (nI n) := by
  rcases Nat.lt_succ_iff_lt_or_eq.mp h with h | h
  · have : n = 0 := by omega
    subst this; rfl
  · subst h; rfl
theorem ite01 {n : Nat} (h : n < 2) : (if n = 1 then some (nI 1) else some (nI 0)) = some (nI n) := by
  by_cases e : n = 1
  · rw [if_pos e, e]
  · rw [if_neg e, show n = 0 by omega]
theorem has_eq {m k : Nat} (hm : m < 2 ^ 31) (hk : k < 32) : f_X11_has (nI m) (nI k) = some (nI (bit m k)) := by
  unfold f_X11_has f_X11_has_0
  simp (disch := omega) only [bind_s, sum_l, sum_r, chkin, lit, nI_add, pk_mul, nI_clamp, nI_leI, nI_ltI, nI_eqI, nI_or, and1, shl1, shrx, nI_subx, pk_divx, pk_remx, nmod, nzx, if_tt, if_ff, bz_n1, bz_n0, nm1, nm2, wI_p, wI_inj, wI_n, nI_w, wI_ltI, wI_leI, nI_ltw, nI_lew, reduceIte]
  show bz (if bit m k = 1 then _ else _) = _
  rw [ite01 (bit_lt m k), bz_b (bit_lt m k)]
theorem covers_eq {m w c r : Nat} (hm : m < 2 ^ 31) (hk : w * r + c < 32) : f_X3_covers (nI m) (nI w) (nI c) (nI r) = some (nI (bit m (w * r + c))) := by
  unfold f_X3_covers f_X3_covers_0
  have : c + w * r < 32 := by omega
  simp (disch := omega) only [bind_s, sum_l, sum_r, chkin, lit, nI_add, pk_mul, nI_clamp, nI_leI, nI_ltI, nI_eqI, nI_or, and1, shl1, shrx, nI_subx, pk_divx, pk_remx, nmod, nzx, if_tt, if_ff, bz_n1, bz_n0, nm1, nm2, wI_p, wI_inj, wI_n, nI_w, wI_ltI, wI_leI, nI_ltw, nI_lew, reduceIte]
  show bz (if bit m (c + w * r) = 1 then _ else _) = _
  rw [ite01 (bit_lt _ _), bz_b (bit_lt _ _), Nat.add_comm c]
theorem at_eq (w c r : Nat) : f_X11_at (nI w) (nI c) (nI r) = some (nI (w * r + c)) := by
  unfold f_X11_at f_X11_at_0
  rw [pk_mul, nI_add]
def pcn (m : Nat) : Nat := fo (fun k n => n + m / 2 ^ k % 2) 16 0
theorem bits_eq {m : Nat} (h : m < 65536) : f_X11_bits (nI m) = some (nI (pcn m)) := by
  unfold f_X11_bits f_X11_bits_0
  have := lp_f0 (f := f_X11_bits_l4 (nI m)) (fun i n => (nI n, nI i)) (fun k n => n + m / 2 ^ k % 2) (fun n => nI n) 16 (by decide) 0 (fun i b hi => by
    unfold f_X11_bits_l4
    dsimp only
    simp (disch := omega) only [bind_s, sum_l, sum_r, chkin, lit, nI_add, pk_mul, nI_clamp, nI_leI, nI_ltI, nI_eqI, nI_or, and1, shl1, shrx, nI_subx, pk_divx, pk_remx, nmod, nzx, if_tt, if_ff, bz_n1, bz_n0, nm1, nm2, wI_p, wI_inj, wI_n, nI_w, wI_ltI, wI_leI, nI_ltw, nI_lew, reduceIte]) (fun b => by
    unfold f_X11_bits_l4
    dsimp only
    simp (disch := omega) only [bind_s, sum_l, sum_r, chkin, lit, nI_add, pk_mul, nI_clamp, nI_leI, nI_ltI, nI_eqI, nI_or, and1, shl1, shrx, nI_subx, pk_divx, pk_remx, nmod, nzx, if_tt, if_ff, bz_n1, bz_n0, nm1, nm2, wI_p, wI_inj, wI_n, nI_w, wI_ltI, wI_leI, nI_ltw, nI_lew, reduceIte])
  rw [show ((0 : Int32), (0 : Int32)) = (nI 0, nI 0) from rfl, this]
  rfl
def qt (c r m : Nat) : Nat := fo (fun i a => fo (fun j a => if bit m (c * (r - 1 - j) + i) = 0 then a else a ||| 2 ^ (r * i + j)) r a) c 0
theorem at_lt {c r i j n : Nat} (hi : i < c) (hj : j < r) (h : c * r ≤ n) : c * j + i < n := by
  have h1 : c * j + c ≤ c * r := by rw [← Nat.mul_succ]; exact Nat.mul_le_mul_left c hj
  omega
theorem qR_eq {c r m : Nat} (hc : c ≤ 4) (hr : r ≤ 4) (hm : m < 65536) : f_X11_quarter (nI c) (nI r) (nI m) = some (nI (qt c r m)) := by
  have hcr : c * r ≤ 16 := Nat.mul_le_mul hc hr
  have hrc : r * c ≤ 16 := Nat.mul_le_mul hr hc
  unfold f_X11_quarter f_X11_quarter_0
  have := lp_f0 (f := f_X11_quarter_l5 (nI c) (nI r) (nI m)) (fun i n => (nI n, nI i)) (fun i a => fo (fun j a => if bit m (c * (r - 1 - j) + i) = 0 then a else a ||| 2 ^ (r * i + j)) r a) (fun n => nI n) c (by omega) 0 (fun i a hi => by
    unfold f_X11_quarter_l5
    dsimp only
    have := lp_f0 (f := f_X11_quarter_l14 (nI c) (nI r) (nI m) (nI i)) (fun i n => (nI n, nI i)) (fun j a => if bit m (c * (r - 1 - j) + i) = 0 then a else a ||| 2 ^ (r * i + j)) (fun n => nI n) r (by omega) a (fun j b hj => by
      unfold f_X11_quarter_l14 f_X11_quarter_j54
      dsimp only
      have h1 : c * (r - 1 - j) + i < 16 := at_lt hi (by omega) hcr
      have h2 : r * i + j < 16 := at_lt hj hi hrc
      simp (disch := omega) only [bind_s, sum_l, sum_r, chkin, lit, nI_add, pk_mul, nI_clamp, nI_leI, nI_ltI, nI_eqI, nI_or, and1, shl1, shrx, nI_subx, pk_divx, pk_remx, nmod, nzx, if_tt, if_ff, bz_n1, bz_n0, nm1, nm2, wI_p, wI_inj, wI_n, nI_w, wI_ltI, wI_leI, nI_ltw, nI_lew, reduceIte, at_eq, has_eq, bit_e0]
      by_cases e : bit m (c * (r - 1 - j) + i) = 0
      · rw [if_pos e, if_pos e, Nat.or_zero]
      · rw [if_neg e, if_neg e]) (fun b => by
      unfold f_X11_quarter_l14
      dsimp only
      simp (disch := omega) only [bind_s, sum_l, sum_r, chkin, lit, nI_add, pk_mul, nI_clamp, nI_leI, nI_ltI, nI_eqI, nI_or, and1, shl1, shrx, nI_subx, pk_divx, pk_remx, nmod, nzx, if_tt, if_ff, bz_n1, bz_n0, nm1, nm2, wI_p, wI_inj, wI_n, nI_w, wI_ltI, wI_leI, nI_ltw, nI_lew, reduceIte])
    simp (disch := omega) only [bind_s, sum_l, sum_r, chkin, lit, nI_add, pk_mul, nI_clamp, nI_leI, nI_ltI, nI_eqI, nI_or, and1, shl1, shrx, nI_subx, pk_divx, pk_remx, nmod, nzx, if_tt, if_ff, bz_n1, bz_n0, nm1, nm2, wI_p, wI_inj, wI_n, nI_w, wI_ltI, wI_leI, nI_ltw, nI_lew, reduceIte, this]) (fun b => by
    unfold f_X11_quarter_l5
    dsimp only
    simp (disch := omega) only [bind_s, sum_l, sum_r, chkin, lit, nI_add, pk_mul, nI_clamp, nI_leI, nI_ltI, nI_eqI, nI_or, and1, shl1, shrx, nI_subx, pk_divx, pk_remx, nmod, nzx, if_tt, if_ff, bz_n1, bz_n0, nm1, nm2, wI_p, wI_inj, wI_n, nI_w, wI_ltI, wI_leI, nI_ltw, nI_lew, reduceIte])
  simp (disch := omega) only [bind_s, sum_l, sum_r, chkin, lit, nI_add, pk_mul, nI_clamp, nI_leI, nI_ltI, nI_eqI, nI_or, and1, shl1, shrx, nI_subx, pk_divx, pk_remx, nmod, nzx, if_tt, if_ff, bz_n1, bz_n0, nm1, nm2, wI_p, wI_inj, wI_n, nI_w, wI_ltI, wI_leI, nI_ltw, nI_lew, reduceIte, this]
  rfl
theorem qC_eq {c r m : Nat} (hc : c ≤ 4) (hr : r ≤ 4) (hm : m < 65536) : f_X3_quarterTurned (nI c) (nI r) (nI m) = some (nI (qt c r m)) := by
  have hcr : c * r ≤ 16 := Nat.mul_le_mul hc hr
  have hrc : r * c ≤ 16 := Nat.mul_le_mul hr hc
  unfold f_X3_quarterTurned f_X3_quarterTurned_0
  have := lp_f0 (f := f_X3_quarterTurned_l5 (nI c) (nI r) (nI m)) (fun i n => (nI n, nI i)) (fun i a => fo (fun j a => if bit m (c * (r - 1 - j) + i) = 0 then a else a ||| 2 ^ (r * i + j)) r a) (fun n => nI n) c (by omega) 0 (fun i a hi => by
    unfold f_X3_quarterTurned_l5
    dsimp only
    have := lp_f0 (f := f_X3_quarterTurned_l14 (nI c) (nI r) (nI m) (nI i)) (fun i n => (nI n, nI i)) (fun j a => if bit m (c * (r - 1 - j) + i) = 0 then a else a ||| 2 ^ (r * i + j)) (fun n => nI n) r (by omega) a (fun j b hj => by
      unfold f_X3_quarterTurned_l14 f_X3_quarterTurned_j48
      dsimp only
      have h1 : c * (r - 1 - j) + i < 16 := at_lt hi (by omega) hcr
      have h2 : r * i + j < 16 := at_lt hj hi hrc
      simp (disch := omega) only [bind_s, sum_l, sum_r, chkin, lit, nI_add, pk_mul, nI_clamp, nI_leI, nI_ltI, nI_eqI, nI_or, and1, shl1, shrx, nI_subx, pk_divx, pk_remx, nmod, nzx, if_tt, if_ff, bz_n1, bz_n0, nm1, nm2, wI_p, wI_inj, wI_n, nI_w, wI_ltI, wI_leI, nI_ltw, nI_lew, reduceIte, covers_eq, bit_e0]
      by_cases e : bit m (c * (r - 1 - j) + i) = 0
      · rw [if_pos e, if_pos e]
      · rw [if_neg e, if_neg e, Nat.add_comm j]) (fun b => by
      unfold f_X3_quarterTurned_l14
      dsimp only
      simp (disch := omega) only [bind_s, sum_l, sum_r, chkin, lit, nI_add, pk_mul, nI_clamp, nI_leI, nI_ltI, nI_eqI, nI_or, and1, shl1, shrx, nI_subx, pk_divx, pk_remx, nmod, nzx, if_tt, if_ff, bz_n1, bz_n0, nm1, nm2, wI_p, wI_inj, wI_n, nI_w, wI_ltI, wI_leI, nI_ltw, nI_lew, reduceIte])
    simp (disch := omega) only [bind_s, sum_l, sum_r, chkin, lit, nI_add, pk_mul, nI_clamp, nI_leI, nI_ltI, nI_eqI, nI_or, and1, shl1, shrx, nI_subx, pk_divx, pk_remx, nmod, nzx, if_tt, if_ff, bz_n1, bz_n0, nm1, nm2, wI_p, wI_inj, wI_n, nI_w, wI_ltI, wI_leI, nI_ltw, nI_lew, reduceIte, this]) (fun b => by
    unfold f_X3_quarterTurned_l5
    dsimp only
    simp (disch := omega) only [bind_s, sum_l, sum_r, chkin, lit, nI_add, pk_mul, nI_clamp, nI_leI, nI_ltI, nI_eqI, nI_or, and1, shl1, shrx, nI_subx, pk_divx, pk_remx, nmod, nzx, if_tt, if_ff, bz_n1, bz_n0, nm1, nm2, wI_p, wI_inj, wI_n, nI_w, wI_ltI, wI_leI, nI_ltw, nI_lew, reduceIte])
  simp (disch := omega) only [bind_s, sum_l, sum_r, chkin, lit, nI_add, pk_mul, nI_clamp, nI_leI, nI_ltI, nI_eqI, nI_or, and1, shl1, shrx, nI_subx, pk_divx, pk_remx, nmod, nzx, if_tt, if_ff, bz_n1, bz_n0, nm1, nm2, wI_p, wI_inj, wI_n, nI_w, wI_ltI, wI_leI, nI_ltw, nI_lew, reduceIte, this]
  rfl
theorem fo_inv {B : Type} (P : Nat → B → Prop) (g : Nat → B → B) (b : B) (h0 : P 0 b) : ∀ n, (∀ i b, i < n → P i b → P (i + 1) (g i b)) → P n (fo g n b) := by
  intro n
  induction n with
  | zero => intro _; exact h0
  | succ n ih => intro h; exact h n _ (Nat.lt_succ_self n) (ih (fun i b hi => h i b (Nat.lt_succ_of_lt hi)))
theorem qt_lt {c r m : Nat} : qt c r m < 2 ^ (c * r) := by
  unfold qt
  refine fo_inv (fun _ a => a < 2 ^ (c * r)) _ 0 (Nat.two_pow_pos _) c (fun i a hi ha => ?_)
  refine fo_inv (fun _ a => a < 2 ^ (c * r)) _ a ha r (fun j a hj ha => ?_)
  split
  · exact ha
  · refine Nat.or_lt_two_pow ha (Nat.pow_lt_pow_right (by decide) ?_)
    rw [Nat.mul_comm c]
    exact at_lt hj hi (Nat.le_refl _)
theorem p16 {a b m : Nat} (ha : a ≤ 4) (hb : b ≤ 4) (h : m < 2 ^ (a * b)) : m < 65536 :=
  Nat.lt_of_lt_of_le h (Nat.pow_le_pow_right (n := 2) (by decide) (Nat.mul_le_mul ha hb : a * b ≤ 16))
/-- the reference's row as small numbers -/
def rwN (R : Nat → Nat) : Nat → Int32 := fun i => nI (R i)
theorem rwN_a (R : Nat → Nat) (i : Nat) : rwN R i = nI (R i) := rfl
def updN (R : Nat → Nat) (k v : Nat) : Nat → Nat := fun j => if j = k then v else R j
theorem updN_s (R : Nat → Nat) (k v : Nat) : updN R k v k = v := if_pos rfl
theorem updN_n (R : Nat → Nat) {k j : Nat} (v : Nat) (h : j ≠ k) : updN R k v j = R j := if_neg h
theorem upd_rw (R : Nat → Nat) (k v : Nat) : upd (rwN R) k (nI v) = rwN (updN R k v) := by
  funext j
  simp only [upd, rwN, updN]
  split <;> rfl
def sc (R : Nat → Nat) (s : Nat) : Nat := R (3 + s)
def sr (R : Nat → Nat) (s : Nat) : Nat := R (9 + s)
def us (R : Nat → Nat) (s c : Nat) : Nat := R (21 + 100 * s + c)
def tc (R : Nat → Nat) (h t : Nat) : Nat := if t % 2 = 0 then R (621 + h) else R (629 + h)
def tr (R : Nat → Nat) (h t : Nat) : Nat := if t % 2 = 0 then R (629 + h) else R (621 + h)
def tm (R : Nat → Nat) (h t : Nat) : Nat := fo (fun n m => qt (tc R h n) (tr R h n) m) t (R (637 + h))
/-- a shape's numbers are small -/
def SM (R : Nat → Nat) (h : Nat) : Prop := 1 ≤ R (621 + h) ∧ R (621 + h) ≤ 4 ∧ 1 ≤ R (629 + h) ∧ R (629 + h) ≤ 4 ∧ R (637 + h) < 2 ^ (R (621 + h) * R (629 + h))
theorem SM_t {R : Nat → Nat} {h : Nat} (H : SM R h) (t : Nat) : 1 ≤ tc R h t ∧ tc R h t ≤ 4 ∧ 1 ≤ tr R h t ∧ tr R h t ≤ 4 := by
  obtain ⟨a, b, c, d, _⟩ := H
  unfold tc tr
  split <;> exact ⟨by omega, by omega, by omega, by omega⟩
theorem tm_lt {R : Nat → Nat} {h : Nat} (H : SM R h) (t : Nat) : tm R h t < 2 ^ (tc R h t * tr R h t) := by
  cases t with
  | zero => exact H.2.2.2.2
  | succ t =>
    show qt (tc R h t) (tr R h t) _ < _
    have : tc R h (t + 1) * tr R h (t + 1) = tc R h t * tr R h t := by
      unfold tc tr
      by_cases e : t % 2 = 0
      · rw [if_pos e, if_pos e, if_neg (by omega), if_neg (by omega), Nat.mul_comm]
      · rw [if_neg e, if_neg e, if_pos (by omega), if_pos (by omega), Nat.mul_comm]
    rw [this]
    exact qt_lt
theorem tm_16 {R : Nat → Nat} {h : Nat} (H : SM R h) (t : Nat) : tm R h t < 65536 := p16 (SM_t H t).2.1 (SM_t H t).2.2.2 (tm_lt H t)
theorem tcR_eq {σ : St} {R : Nat → Nat} {h t : Nat} (hR : σ 102 = rwN R) (hh : h < 8) (ht : t < 2 ^ 20) : f_X11_turnedColumns (nI h) (nI t) σ = some (nI (tc R h t)) := by
  unfold f_X11_turnedColumns f_X11_turnedColumns_0 tc
  simp (disch := omega) only [bind_s, sum_l, sum_r, chkin, lit, nI_add, pk_mul, nI_clamp, nI_leI, nI_ltI, nI_eqI, nI_or, and1, shl1, shrx, nI_subx, pk_divx, pk_remx, nmod, nzx, if_tt, if_ff, bz_n1, bz_n0, nm1, nm2, wI_p, wI_inj, wI_n, nI_w, wI_ltI, wI_leI, nI_ltw, nI_lew, reduceIte, hR, rwN_a]
  by_cases e : t % 2 = 0
  · rw [if_pos e, if_pos e]
  · rw [if_neg e, if_neg e]
theorem trR_eq {σ : St} {R : Nat → Nat} {h t : Nat} (hR : σ 102 = rwN R) (hh : h < 8) (ht : t < 2 ^ 20) : f_X11_turnedRows (nI h) (nI t) σ = some (nI (tr R h t)) := by
  unfold f_X11_turnedRows f_X11_turnedRows_0 tr
  simp (disch := omega) only [bind_s, sum_l, sum_r, chkin, lit, nI_add, pk_mul, nI_clamp, nI_leI, nI_ltI, nI_eqI, nI_or, and1, shl1, shrx, nI_subx, pk_divx, pk_remx, nmod, nzx, if_tt, if_ff, bz_n1, bz_n0, nm1, nm2, wI_p, wI_inj, wI_n, nI_w, wI_ltI, wI_leI, nI_ltw, nI_lew, reduceIte, hR, rwN_a]
  by_cases e : t % 2 = 0
  · rw [if_pos e, if_pos e]
  · rw [if_neg e, if_neg e]
theorem tmR_eq {σ : St} {R : Nat → Nat} {h t : Nat} (hR : σ 102 = rwN R) (hh : h < 8) (H : SM R h) (ht : t < 100) : f_X11_turnedSet (nI h) (nI t) σ = some (nI (tm R h t)) := by
  unfold f_X11_turnedSet f_X11_turnedSet_0
  have := lp_fo (f := f_X11_turnedSet_l14 (nI h) (nI t) σ) (fun i n => (nI n, nI i)) (fun n m => qt (tc R h n) (tr R h n) m) (fun i n => n = tm R h i) (fun n => nI n) t (by omega) (R (637 + h)) rfl (fun i a hi ha => by
    subst ha
    refine ⟨?_, rfl⟩
    unfold f_X11_turnedSet_l14
    dsimp only
    have h1 := SM_t H i
    have h2 := tm_16 H i
    simp (disch := omega) only [bind_s, sum_l, sum_r, chkin, lit, nI_add, pk_mul, nI_clamp, nI_leI, nI_ltI, nI_eqI, nI_or, and1, shl1, shrx, nI_subx, pk_divx, pk_remx, nmod, nzx, if_tt, if_ff, bz_n1, bz_n0, nm1, nm2, wI_p, wI_inj, wI_n, nI_w, wI_ltI, wI_leI, nI_ltw, nI_lew, reduceIte, tcR_eq hR, trR_eq hR, qR_eq]) (fun b _ => by
    unfold f_X11_turnedSet_l14
    dsimp only
    simp (disch := omega) only [bind_s, sum_l, sum_r, chkin, lit, nI_add, pk_mul, nI_clamp, nI_leI, nI_ltI, nI_eqI, nI_or, and1, shl1, shrx, nI_subx, pk_divx, pk_remx, nmod, nzx, if_tt, if_ff, bz_n1, bz_n0, nm1, nm2, wI_p, wI_inj, wI_n, nI_w, wI_ltI, wI_leI, nI_ltw, nI_lew, reduceIte])
  simp (disch := omega) only [bind_s, sum_l, sum_r, chkin, lit, nI_add, pk_mul, nI_clamp, nI_leI, nI_ltI, nI_eqI, nI_or, and1, shl1, shrx, nI_subx, pk_divx, pk_remx, nmod, nzx, if_tt, if_ff, bz_n1, bz_n0, nm1, nm2, wI_p, wI_inj, wI_n, nI_w, wI_ltI, wI_leI, nI_ltw, nI_lew, reduceIte, hR, rwN_a, this]
