/-! PURE FACTS, 7: counts; the class's small questions on a shop -/
variable {k : Nat} {R : Nat → Nat} {σ : St}
def bN (b : Bool) : Nat := if b = true then 1 else 0
theorem bN_lt (b : Bool) : bN b < 2 := by cases b <;> decide
theorem bN_e0 (b : Bool) : (nI (bN b) = nI 0) = (b = false) := by cases b <;> simp [bN] <;> decide
theorem bN_e1 (b : Bool) : (nI (bN b) = nI 1) = (b = true) := by cases b <;> simp [bN] <;> decide
theorem bz_N (b : Bool) : bz (some (nI (bN b))) = some (nI (bN b)) := bz_b (bN_lt b)
theorem bN_if (P : Prop) [Decidable P] : (if P then some (nI 1) else some (nI 0)) = some (nI (bN (decide P))) := by
  by_cases h : P <;> simp [h, bN]
theorem bN_jf (P : Prop) [Decidable P] : (if P then some (nI 0) else some (nI 1)) = some (nI (bN (!decide P))) := by
  by_cases h : P <;> simp [h, bN]
def cnt (P : Nat → Bool) (n : Nat) : Nat := fo (fun i a => if P i = true then a + 1 else a) n 0
theorem cnt_s (P : Nat → Bool) (n : Nat) : cnt P (n + 1) = if P n = true then cnt P n + 1 else cnt P n := rfl
theorem cnt_le (P : Nat → Bool) (n : Nat) : cnt P n ≤ n := by
  induction n with
  | zero => exact Nat.le_refl _
  | succ n ih => rw [cnt_s]; split <;> omega
theorem cnt_e {P Q : Nat → Bool} {n : Nat} (h : ∀ i, i < n → P i = Q i) : cnt P n = cnt Q n := by
  induction n with
  | zero => rfl
  | succ n ih => rw [cnt_s, cnt_s, h n (Nat.lt_succ_self n), ih (fun i hi => h i (Nat.lt_succ_of_lt hi))]
theorem cnt_p {P Q T : Nat → Bool} {n : Nat} (h : ∀ i, i < n → bN (P i) = bN (Q i) + bN (T i)) : cnt P n = cnt Q n + cnt T n := by
  induction n with
  | zero => rfl
  | succ n ih =>
    have e := h n (Nat.lt_succ_self n)
    rw [cnt_s, cnt_s, cnt_s, ih (fun i hi => h i (Nat.lt_succ_of_lt hi))]
    revert e
    cases P n <;> cases Q n <;> cases T n <;> simp [bN] <;> omega
theorem cnt_t {P : Nat → Bool} {n : Nat} (h : ∀ i, i < n → P i = true) : cnt P n = n := by
  induction n with
  | zero => rfl
  | succ n ih => rw [cnt_s, if_pos (h n (Nat.lt_succ_self n)), ih (fun i hi => h i (Nat.lt_succ_of_lt hi))]
/-- a loop that counts: its state is the count and the index -/
theorem lp_cnt {f : Int32 × Int32 → Option ((Int32 × Int32) ⊕ Int32)} (P : Nat → Bool) (N : Nat) (hN : N < 1000000) (hs : ∀ i a, i < N → a ≤ i → f (nI a, nI i) = some (.inl (nI (if P i = true then a + 1 else a), nI (i + 1)))) (hx : ∀ a, a ≤ N → f (nI a, nI N) = some (.inr (nI a))) : lp f FU (nI 0, nI 0) = some (nI (cnt P N)) :=
  (lp_fo (f := f) (fun i a => (nI a, nI i)) (fun i a => if P i = true then a + 1 else a) (fun i a => a ≤ i) (fun a => nI a) N hN 0 (Nat.le_refl _) (fun i b hi hb => ⟨hs i b hi hb, by
    split <;> omega⟩) (fun b hb => hx b hb)).1
theorem cellsWith_eq (T : ShR k R σ) (G : Good R) {s d : Nat} (hs : s < R 0) (hd : d < 2 ^ 20) : f_X8_cellsWith k (nI s) (wI d) σ = some (nI (cnt (fun c => decide (on R s c = d)) (sc R s * sr R s))) := by
  have hG := GS G hs
  unfold f_X8_cellsWith f_X8_cellsWith_0
  have := lp_cnt (f := f_X8_cellsWith_l5 k (nI s) (wI d) σ) (fun c => decide (on R s c = d)) (sc R s * sr R s) (by omega) (fun i a hi ha => by
    unfold f_X8_cellsWith_l5 f_X8_cellsWith_j29
    have := on_lt G hs hi
    dsimp only
    simp (disch := omega) only [bind_s, sum_l, sum_r, chkin, lit, nI_add, pk_mul, nI_clamp, nI_leI, nI_ltI, nI_eqI, nI_or, and1, shl1, shrx, nI_subx, pk_divx, pk_remx, nmod, nzx, if_tt, if_ff, bz_n1, bz_n0, nm1, nm2, wI_p, wI_inj, wI_n, nI_w, wI_ltI, wI_leI, nI_ltw, nI_lew, reduceIte, cellsOf_eq T G hs, onCell_eq T G hs hi]
    by_cases e : on R s i = d
    · simp [e]
    · simp [e]) (fun a ha => by
    unfold f_X8_cellsWith_l5
    dsimp only
    simp (disch := omega) only [bind_s, sum_l, sum_r, chkin, lit, nI_add, pk_mul, nI_clamp, nI_leI, nI_ltI, nI_eqI, nI_or, and1, shl1, shrx, nI_subx, pk_divx, pk_remx, nmod, nzx, if_tt, if_ff, bz_n1, bz_n0, nm1, nm2, wI_p, wI_inj, wI_n, nI_w, wI_ltI, wI_leI, nI_ltw, nI_lew, reduceIte, cellsOf_eq T G hs])
  simp (disch := omega) only [bind_s, sum_l, sum_r, chkin, lit, nI_add, pk_mul, nI_clamp, nI_leI, nI_ltI, nI_eqI, nI_or, and1, shl1, shrx, nI_subx, pk_divx, pk_remx, nmod, nzx, if_tt, if_ff, bz_n1, bz_n0, nm1, nm2, wI_p, wI_inj, wI_n, nI_w, wI_ltI, wI_leI, nI_ltw, nI_lew, reduceIte, this]
theorem on_cases {R : Nat → Nat} (G : Good R) {s c : Nat} (hs : s < R 0) (hc : c < sc R s * sr R s) : (on R s c = 0 ∧ us R s c = 0 ∧ ck R s c = 1) ∨ (on R s c = 1 ∧ us R s c = 1 ∧ ck R s c = 1) ∨ (2 ≤ on R s c ∧ on R s c = ck R s c) := by
  obtain ⟨_, _, _, _, _, _, h6, h7⟩ := GS G hs
  have h8 := h7 c (by omega)
  have h9 := ck_ge R s c
  unfold on
  by_cases e : ck R s c = 1
  · rw [if_pos e]; omega
  · rw [if_neg e]; omega
theorem covered_eq (T : ShR k R σ) (G : Good R) {s : Nat} (hs : s < R 0) : f_X8_coveredCells k (nI s) σ = some (nI (cnt (fun c => decide (2 ≤ on R s c)) (sc R s * sr R s))) := by
  have hG := GS G hs
  unfold f_X8_coveredCells f_X8_coveredCells_0
  have e1 := cnt_p (P := fun _ => true) (Q := fun c => decide (on R s c = 1)) (T := fun c => decide (on R s c ≠ 1)) (n := sc R s * sr R s) (fun i hi => by
    by_cases e : on R s i = 1 <;> simp [e, bN])
  have e2 := cnt_p (P := fun c => decide (on R s c ≠ 1)) (Q := fun c => decide (on R s c = 0)) (T := fun c => decide (2 ≤ on R s c)) (n := sc R s * sr R s) (fun i hi => by
    rcases on_cases G hs hi with h | h | h
    · simp [h.1, bN]
    · simp [h.1, bN]
    · have a1 : on R s i ≠ 1 := by omega
      have a2 : on R s i ≠ 0 := by omega
      simp [a1, a2, h.1, bN])
  rw [cnt_t (fun i _ => rfl)] at e1
  rw [show (-1 : Int32) = wI 1 from rfl, show (-2 : Int32) = wI 0 from rfl]
  simp (disch := omega) only [bind_s, sum_l, sum_r, chkin, lit, nI_add, pk_mul, nI_clamp, nI_leI, nI_ltI, nI_eqI, nI_or, and1, shl1, shrx, nI_subx, pk_divx, pk_remx, nmod, nzx, if_tt, if_ff, bz_n1, bz_n0, nm1, nm2, wI_p, wI_inj, wI_n, nI_w, wI_ltI, wI_leI, nI_ltw, nI_lew, reduceIte, cellsOf_eq T G hs, cellsWith_eq T G hs]
  congr 2
  omega
theorem rowsWith_eq (T : ShR k R σ) (G : Good R) {v : Nat} (hv : v < 2 ^ 20) : f_X9_rowsWith (k + 5) 1 (nI v) σ = some (nI (cnt (fun p => decide (R (681 + p) = v)) (R 2))) ∧ f_X9_rowsWith (k + 5) 0 (nI v) σ = some (nI (cnt (fun p => decide (R (661 + p) = v)) (R 2))) := by
  have g2 := G.2.2.1
  have hsz := T.2.1.2.2.2.2.2
  constructor
  · unfold f_X9_rowsWith f_X9_rowsWith_0
    have := lp_cnt (f := f_X9_rowsWith_l5 (k + 5) 1 (nI v) σ) (fun p => decide (R (681 + p) = v)) (R 2) (by omega) (fun i a hi ha => by
      unfold f_X9_rowsWith_l5 f_X9_rowsWith_j28
      have hp := GP G hi
      dsimp only
      simp (disch := omega) only [bind_s, sum_l, sum_r, chkin, lit, nI_add, pk_mul, nI_clamp, nI_leI, nI_ltI, nI_eqI, nI_or, and1, shl1, shrx, nI_subx, pk_divx, pk_remx, nmod, nzx, if_tt, if_ff, bz_n1, bz_n0, nm1, nm2, wI_p, wI_inj, wI_n, nI_w, wI_ltI, wI_leI, nI_ltw, nI_lew, reduceIte, hsz, pg_eq T, (T.2.2.2.2 i hi).2.1]
      by_cases e : R (681 + i) = v
      · simp [e]
      · simp [e]) (fun a ha => by
      unfold f_X9_rowsWith_l5
      dsimp only
      simp (disch := omega) only [bind_s, sum_l, sum_r, chkin, lit, nI_add, pk_mul, nI_clamp, nI_leI, nI_ltI, nI_eqI, nI_or, and1, shl1, shrx, nI_subx, pk_divx, pk_remx, nmod, nzx, if_tt, if_ff, bz_n1, bz_n0, nm1, nm2, wI_p, wI_inj, wI_n, nI_w, wI_ltI, wI_leI, nI_ltw, nI_lew, reduceIte, hsz])
    rw [show (1 : Int32) = nI 1 from rfl] at this ⊢
    simp (disch := omega) only [bind_s, sum_l, sum_r, chkin, lit, nI_add, pk_mul, nI_clamp, nI_leI, nI_ltI, nI_eqI, nI_or, and1, shl1, shrx, nI_subx, pk_divx, pk_remx, nmod, nzx, if_tt, if_ff, bz_n1, bz_n0, nm1, nm2, wI_p, wI_inj, wI_n, nI_w, wI_ltI, wI_leI, nI_ltw, nI_lew, reduceIte, this]
  · unfold f_X9_rowsWith f_X9_rowsWith_0
    have := lp_cnt (f := f_X9_rowsWith_l5 (k + 5) 0 (nI v) σ) (fun p => decide (R (661 + p) = v)) (R 2) (by omega) (fun i a hi ha => by
      unfold f_X9_rowsWith_l5 f_X9_rowsWith_j28
      have hp := GP G hi
      dsimp only
      simp (disch := omega) only [bind_s, sum_l, sum_r, chkin, lit, nI_add, pk_mul, nI_clamp, nI_leI, nI_ltI, nI_eqI, nI_or, and1, shl1, shrx, nI_subx, pk_divx, pk_remx, nmod, nzx, if_tt, if_ff, bz_n1, bz_n0, nm1, nm2, wI_p, wI_inj, wI_n, nI_w, wI_ltI, wI_leI, nI_ltw, nI_lew, reduceIte, hsz, pg_eq T, (T.2.2.2.2 i hi).1]
      by_cases e : R (661 + i) = v
      · simp [e]
      · simp [e]) (fun a ha => by
      unfold f_X9_rowsWith_l5
      dsimp only
      simp (disch := omega) only [bind_s, sum_l, sum_r, chkin, lit, nI_add, pk_mul, nI_clamp, nI_leI, nI_ltI, nI_eqI, nI_or, and1, shl1, shrx, nI_subx, pk_divx, pk_remx, nmod, nzx, if_tt, if_ff, bz_n1, bz_n0, nm1, nm2, wI_p, wI_inj, wI_n, nI_w, wI_ltI, wI_leI, nI_ltw, nI_lew, reduceIte, hsz])
    rw [show (0 : Int32) = nI 0 from rfl] at this ⊢
    simp (disch := omega) only [bind_s, sum_l, sum_r, chkin, lit, nI_add, pk_mul, nI_clamp, nI_leI, nI_ltI, nI_eqI, nI_or, and1, shl1, shrx, nI_subx, pk_divx, pk_remx, nmod, nzx, if_tt, if_ff, bz_n1, bz_n0, nm1, nm2, wI_p, wI_inj, wI_n, nI_w, wI_ltI, wI_leI, nI_ltw, nI_lew, reduceIte, this]
