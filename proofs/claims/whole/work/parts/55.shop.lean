/-! PURE FACTS, 6: a shop that holds a row -/
def on (R : Nat → Nat) (s c : Nat) : Nat := if ck R s c = 1 then us R s c else ck R s c
def SL (k : Nat) : Prop := ln (k + 1 + 1) = 618 ∧ ln (k + 3 + 1) = 72 ∧ ln (k + 5 + 1) = 100
def ShS (k : Nat) (R : Nat → Nat) (σ : St) (s : Nat) : Prop := σ (k + 1 + 1) (s * 103 + 0) = nI (sc R s) ∧ σ (k + 1 + 1) (s * 103 + 1) = nI (sr R s) ∧ σ (k + 1 + 1) (s * 103 + 2) = nI (R (15 + s)) ∧ ∀ c, c < sc R s * sr R s → σ (k + 1 + 1) (s * 103 + (3 + c)) = wI (on R s c)
def ShH (k : Nat) (R : Nat → Nat) (σ : St) (h : Nat) : Prop := σ (k + 3 + 1) (h * 9 + 0) = nI (R (621 + h)) ∧ σ (k + 3 + 1) (h * 9 + 1) = nI (R (629 + h)) ∧ σ (k + 3 + 1) (h * 9 + 2) = nI (R (637 + h)) ∧ σ (k + 3 + 1) (h * 9 + 3) = nI (R (645 + h)) ∧ σ (k + 3 + 1) (h * 9 + 4) = nI (R (653 + h)) ∧ ∀ t, t < 4 → σ (k + 3 + 1) (h * 9 + (5 + t)) = nI (tm R h t)
def ShP (k : Nat) (R : Nat → Nat) (σ : St) (p : Nat) : Prop := σ (k + 5 + 1) (p * 5 + 0) = nI (R (661 + p)) ∧ σ (k + 5 + 1) (p * 5 + 1) = nI (R (681 + p)) ∧ σ (k + 5 + 1) (p * 5 + 2) = nI (R (701 + p)) ∧ σ (k + 5 + 1) (p * 5 + 3) = nI (R (721 + p)) ∧ σ (k + 5 + 1) (p * 5 + 4) = nI (R (741 + p))
def ShW (k : Nat) (R : Nat → Nat) (σ : St) : Prop := σ (k + 1) 0 = nI 103 ∧ σ (k + 1) 2 = nI (R 0) ∧ σ (k + 3) 0 = nI 9 ∧ σ (k + 3) 2 = nI (R 1) ∧ σ (k + 5) 0 = nI 5 ∧ σ (k + 5) 2 = nI (R 2)
def ShR (k : Nat) (R : Nat → Nat) (σ : St) : Prop := SL k ∧ ShW k R σ ∧ (∀ s, s < R 0 → ShS k R σ s) ∧ (∀ h, h < R 1 → ShH k R σ h) ∧ (∀ p, p < R 2 → ShP k R σ p)
/-- a sheet of a good row -/
theorem GS {R : Nat → Nat} (G : Good R) {s : Nat} (hs : s < R 0) : s < 6 ∧ 2 ≤ sc R s ∧ sc R s ≤ 10 ∧ 2 ≤ sr R s ∧ sr R s ≤ 10 ∧ R (15 + s) ≤ 2 ∧ sc R s * sr R s ≤ 100 ∧ (∀ c, c < 100 → us R s c ≤ 1) := by
  have g0 := G.1
  have h := G.2.2.2.1 s hs
  exact ⟨by omega, h.1, h.2.1, h.2.2.1, h.2.2.2.1, h.2.2.2.2.1, cell_100 h, h.2.2.2.2.2⟩
theorem GH {R : Nat → Nat} (G : Good R) {h : Nat} (hh : h < R 1) : h < 8 ∧ SM R h ∧ R (637 + h) < 65536 ∧ R (645 + h) ≤ 2 ∧ R (653 + h) ≤ 99 := by
  have g0 := G.2.1
  have H := G.2.2.2.2.1 h hh
  exact ⟨by omega, H.1, tm_16 H.1 0, H.2.2.1, H.2.2.2⟩
theorem ck_lt (R : Nat → Nat) (s c : Nat) : ck R s c < R 2 + 2 := by
  unfold ck
  have := fo_inv (fun i v => v < i + 2) (fun p v => if hit R p s c = true then p + 2 else v) 1 (by decide) (R 2) (fun i b _ hb => by
    split <;> omega)
  exact this
theorem ck_ge (R : Nat → Nat) (s c : Nat) : 1 ≤ ck R s c := by
  unfold ck
  exact fo_inv (fun i v => 1 ≤ v) (fun p v => if hit R p s c = true then p + 2 else v) 1 (by decide) (R 2) (fun i b _ hb => by
    split <;> omega)
theorem on_lt {R : Nat → Nat} (G : Good R) {s c : Nat} (hs : s < R 0) (hc : c < sc R s * sr R s) : on R s c < 22 := by
  have g2 := G.2.2.1
  have h := ck_lt R s c
  obtain ⟨_, _, _, _, _, _, h6, h7⟩ := GS G hs
  have := h7 c (by omega)
  unfold on
  split <;> omega
theorem sg_eq {k : Nat} {R : Nat → Nat} {σ : St} (T : ShR k R σ) {s f : Nat} (h : s * 103 + f < 618) : f_X9_get (k + 1) (nI s) (nI f) σ = some (σ (k + 1 + 1) (s * 103 + f)) :=
  get_eq T.2.1.1 (by rw [T.1.1]; exact h) (by rw [T.1.1]; decide)
theorem hg_eq {k : Nat} {R : Nat → Nat} {σ : St} (T : ShR k R σ) {s f : Nat} (h : s * 9 + f < 72) : f_X9_get (k + 3) (nI s) (nI f) σ = some (σ (k + 3 + 1) (s * 9 + f)) :=
  get_eq T.2.1.2.2.1 (by rw [T.1.2.1]; exact h) (by rw [T.1.2.1]; decide)
theorem pg_eq {k : Nat} {R : Nat → Nat} {σ : St} (T : ShR k R σ) {s f : Nat} (h : s * 5 + f < 100) : f_X9_get (k + 5) (nI s) (nI f) σ = some (σ (k + 5 + 1) (s * 5 + f)) :=
  get_eq T.2.1.2.2.2.2.1 (by rw [T.1.2.2]; exact h) (by rw [T.1.2.2]; decide)
variable {k : Nat} {R : Nat → Nat} {σ : St}
theorem columnsOf_eq (T : ShR k R σ) (G : Good R) {s : Nat} (hs : s < R 0) : f_X8_columnsOf k (nI s) σ = some (nI (sc R s)) := by
  have := GS G hs
  unfold f_X8_columnsOf f_X8_columnsOf_0
  simp (disch := omega) only [bind_s, sum_l, sum_r, chkin, lit, nI_add, pk_mul, nI_clamp, nI_leI, nI_ltI, nI_eqI, nI_or, and1, shl1, shrx, nI_subx, pk_divx, pk_remx, nmod, nzx, if_tt, if_ff, bz_n1, bz_n0, nm1, nm2, wI_p, wI_inj, wI_n, nI_w, wI_ltI, wI_leI, nI_ltw, nI_lew, reduceIte, sg_eq T, (T.2.2.1 s hs).1]
theorem rowsOf_eq (T : ShR k R σ) (G : Good R) {s : Nat} (hs : s < R 0) : f_X8_rowsOf k (nI s) σ = some (nI (sr R s)) := by
  have := GS G hs
  unfold f_X8_rowsOf f_X8_rowsOf_0
  simp (disch := omega) only [bind_s, sum_l, sum_r, chkin, lit, nI_add, pk_mul, nI_clamp, nI_leI, nI_ltI, nI_eqI, nI_or, and1, shl1, shrx, nI_subx, pk_divx, pk_remx, nmod, nzx, if_tt, if_ff, bz_n1, bz_n0, nm1, nm2, wI_p, wI_inj, wI_n, nI_w, wI_ltI, wI_leI, nI_ltw, nI_lew, reduceIte, sg_eq T, (T.2.2.1 s hs).2.1]
theorem cellsOf_eq (T : ShR k R σ) (G : Good R) {s : Nat} (hs : s < R 0) : f_X8_cellsOf k (nI s) σ = some (nI (sc R s * sr R s)) := by
  unfold f_X8_cellsOf f_X8_cellsOf_0
  simp (disch := omega) only [bind_s, sum_l, sum_r, chkin, lit, nI_add, pk_mul, nI_clamp, nI_leI, nI_ltI, nI_eqI, nI_or, and1, shl1, shrx, nI_subx, pk_divx, pk_remx, nmod, nzx, if_tt, if_ff, bz_n1, bz_n0, nm1, nm2, wI_p, wI_inj, wI_n, nI_w, wI_ltI, wI_leI, nI_ltw, nI_lew, reduceIte, columnsOf_eq T G hs, rowsOf_eq T G hs]
theorem onCell_eq (T : ShR k R σ) (G : Good R) {s c : Nat} (hs : s < R 0) (hc : c < sc R s * sr R s) : f_X8_onCell k (nI s) (nI c) σ = some (wI (on R s c)) := by
  have := GS G hs
  unfold f_X8_onCell f_X8_onCell_0
  simp (disch := omega) only [bind_s, sum_l, sum_r, chkin, lit, nI_add, pk_mul, nI_clamp, nI_leI, nI_ltI, nI_eqI, nI_or, and1, shl1, shrx, nI_subx, pk_divx, pk_remx, nmod, nzx, if_tt, if_ff, bz_n1, bz_n0, nm1, nm2, wI_p, wI_inj, wI_n, nI_w, wI_ltI, wI_leI, nI_ltw, nI_lew, reduceIte, sg_eq T, (T.2.2.1 s hs).2.2.2 c hc]
/-- a cell by its column and row; those beyond the sheet are like unusable ones -/
def onP (R : Nat → Nat) (s x y : Nat) : Nat := if x < sc R s ∧ y < sr R s then on R s (sc R s * y + x) else 0
theorem onPlace_eq (T : ShR k R σ) (G : Good R) {s x y : Nat} (hs : s < R 0) (hx : x < 2 ^ 20) (hy : y < 2 ^ 20) : f_X8_onPlace k (nI s) (nI x) (nI y) σ = some (wI (onP R s x y)) := by
  obtain ⟨h0, h1, h2, h3, h4, h5, h6, h7⟩ := GS G hs
  unfold f_X8_onPlace f_X8_onPlace_0 f_X8_onPlace_j42 onP
  by_cases ex : x < sc R s
  · by_cases ey : y < sr R s
    · have hxy := xy_lt ex ey
      have e := (T.2.2.1 s hs).2.2.2 _ hxy
      rw [show (3 + (sc R s * y + x)) = 3 + x + sc R s * y by omega] at e
      simp (disch := omega) only [bind_s, sum_l, sum_r, chkin, lit, nI_add, pk_mul, nI_clamp, nI_leI, nI_ltI, nI_eqI, nI_or, and1, shl1, shrx, nI_subx, pk_divx, pk_remx, nmod, nzx, if_tt, if_ff, bz_n1, bz_n0, nm1, nm2, wI_p, wI_inj, wI_n, nI_w, wI_ltI, wI_leI, nI_ltw, nI_lew, reduceIte, sg_eq T, (T.2.2.1 s hs).1, (T.2.2.1 s hs).2.1, ex, ey, e, and_self, Nat.not_lt_zero]
    · simp (disch := omega) only [bind_s, sum_l, sum_r, chkin, lit, nI_add, pk_mul, nI_clamp, nI_leI, nI_ltI, nI_eqI, nI_or, and1, shl1, shrx, nI_subx, pk_divx, pk_remx, nmod, nzx, if_tt, if_ff, bz_n1, bz_n0, nm1, nm2, wI_p, wI_inj, wI_n, nI_w, wI_ltI, wI_leI, nI_ltw, nI_lew, reduceIte, sg_eq T, (T.2.2.1 s hs).1, (T.2.2.1 s hs).2.1, ex, ey, and_false, Nat.not_lt_zero]
  · simp (disch := omega) only [bind_s, sum_l, sum_r, chkin, lit, nI_add, pk_mul, nI_clamp, nI_leI, nI_ltI, nI_eqI, nI_or, and1, shl1, shrx, nI_subx, pk_divx, pk_remx, nmod, nzx, if_tt, if_ff, bz_n1, bz_n0, nm1, nm2, wI_p, wI_inj, wI_n, nI_w, wI_ltI, wI_leI, nI_ltw, nI_lew, reduceIte, sg_eq T, (T.2.2.1 s hs).1, (T.2.2.1 s hs).2.1, ex, false_and, Nat.not_lt_zero]
theorem onPlace_m1 (T : ShR k R σ) (G : Good R) {s : Nat} {y : Int32} (hs : s < R 0) : f_X8_onPlace k (nI s) (wI 1) y σ = some (wI 0) := by
  have := GS G hs
  unfold f_X8_onPlace f_X8_onPlace_0 f_X8_onPlace_j42
  simp (disch := omega) only [bind_s, sum_l, sum_r, chkin, lit, nI_add, pk_mul, nI_clamp, nI_leI, nI_ltI, nI_eqI, nI_or, and1, shl1, shrx, nI_subx, pk_divx, pk_remx, nmod, nzx, if_tt, if_ff, bz_n1, bz_n0, nm1, nm2, wI_p, wI_inj, wI_n, nI_w, wI_ltI, wI_leI, nI_ltw, nI_lew, reduceIte, sg_eq T, (T.2.2.1 s hs).1, (T.2.2.1 s hs).2.1]
theorem onPlace_m2 (T : ShR k R σ) (G : Good R) {s x : Nat} (hs : s < R 0) (hx : x < 2 ^ 20) : f_X8_onPlace k (nI s) (nI x) (wI 1) σ = some (wI 0) := by
  have := GS G hs
  unfold f_X8_onPlace f_X8_onPlace_0 f_X8_onPlace_j42
  simp (disch := omega) only [bind_s, sum_l, sum_r, chkin, lit, nI_add, pk_mul, nI_clamp, nI_leI, nI_ltI, nI_eqI, nI_or, and1, shl1, shrx, nI_subx, pk_divx, pk_remx, nmod, nzx, if_tt, if_ff, bz_n1, bz_n0, nm1, nm2, wI_p, wI_inj, wI_n, nI_w, wI_ltI, wI_leI, nI_ltw, nI_lew, reduceIte, sg_eq T, (T.2.2.1 s hs).1, (T.2.2.1 s hs).2.1, Nat.not_lt_zero]
  split <;> rfl
theorem coveredAfter_eq (T : ShR k R σ) (G : Good R) {h t : Nat} (hh : h < R 1) (ht : t < 4) : f_X8_coveredAfter k (nI h) (nI t) σ = some (nI (tm R h t)) := by
  have := GH G hh
  unfold f_X8_coveredAfter f_X8_coveredAfter_0
  simp (disch := omega) only [bind_s, sum_l, sum_r, chkin, lit, nI_add, pk_mul, nI_clamp, nI_leI, nI_ltI, nI_eqI, nI_or, and1, shl1, shrx, nI_subx, pk_divx, pk_remx, nmod, nzx, if_tt, if_ff, bz_n1, bz_n0, nm1, nm2, wI_p, wI_inj, wI_n, nI_w, wI_ltI, wI_leI, nI_ltw, nI_lew, reduceIte, hg_eq T, (T.2.2.2.1 h hh).2.2.2.2.2 t ht]
theorem columnsAfter_eq (T : ShR k R σ) (G : Good R) {h t : Nat} (hh : h < R 1) (ht : t < 4) : f_X8_columnsAfter k (nI h) (nI t) σ = some (nI (tc R h t)) := by
  have := GH G hh
  obtain ⟨t0, t1, _⟩ := T.2.2.2.1 h hh
  unfold f_X8_columnsAfter f_X8_columnsAfter_0 f_X8_columnsAfter_j16 tc
  simp (disch := omega) only [bind_s, sum_l, sum_r, chkin, lit, nI_add, pk_mul, nI_clamp, nI_leI, nI_ltI, nI_eqI, nI_or, and1, shl1, shrx, nI_subx, pk_divx, pk_remx, nmod, nzx, if_tt, if_ff, bz_n1, bz_n0, nm1, nm2, wI_p, wI_inj, wI_n, nI_w, wI_ltI, wI_leI, nI_ltw, nI_lew, reduceIte, hg_eq T, t0, t1]
  split <;> rfl
theorem rowsAfter_eq (T : ShR k R σ) (G : Good R) {h t : Nat} (hh : h < R 1) (ht : t < 4) : f_X8_rowsAfter k (nI h) (nI t) σ = some (nI (tr R h t)) := by
  have := GH G hh
  obtain ⟨t0, t1, _⟩ := T.2.2.2.1 h hh
  unfold f_X8_rowsAfter f_X8_rowsAfter_0 f_X8_rowsAfter_j16 tr
  simp (disch := omega) only [bind_s, sum_l, sum_r, chkin, lit, nI_add, pk_mul, nI_clamp, nI_leI, nI_ltI, nI_eqI, nI_or, and1, shl1, shrx, nI_subx, pk_divx, pk_remx, nmod, nzx, if_tt, if_ff, bz_n1, bz_n0, nm1, nm2, wI_p, wI_inj, wI_n, nI_w, wI_ltI, wI_leI, nI_ltw, nI_lew, reduceIte, hg_eq T, t0, t1]
  split <;> rfl
