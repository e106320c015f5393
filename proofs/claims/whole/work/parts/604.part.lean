/-! PURE FACTS, 23: the class makes a part -/
variable {k : Nat} {R : Nat → Nat} {σ : St}
/-- the class's questions on a state of which only the needed entries are known -/
theorem columns_h {τ : St} {s a : Nat} (L : SL k) (hw : τ (k + 1) 0 = nI 103) (hs : s < 6) (h0 : τ (k + 1 + 1) (s * 103 + 0) = nI a) : f_X8_columnsOf k (nI s) τ = some (nI a) := by
  unfold f_X8_columnsOf f_X8_columnsOf_0
  rw [show (0 : Int32) = nI 0 from rfl, get_eq hw (by rw [L.1]; omega) (by rw [L.1]; decide), h0]
  rfl
theorem rows_h {τ : St} {s a : Nat} (L : SL k) (hw : τ (k + 1) 0 = nI 103) (hs : s < 6) (h0 : τ (k + 1 + 1) (s * 103 + 1) = nI a) : f_X8_rowsOf k (nI s) τ = some (nI a) := by
  unfold f_X8_rowsOf f_X8_rowsOf_0
  rw [show (1 : Int32) = nI 1 from rfl, get_eq hw (by rw [L.1]; omega) (by rw [L.1]; decide), h0]
  rfl
theorem cells_h {τ : St} {s a b : Nat} (L : SL k) (hw : τ (k + 1) 0 = nI 103) (hs : s < 6) (h0 : τ (k + 1 + 1) (s * 103 + 0) = nI a) (h1 : τ (k + 1 + 1) (s * 103 + 1) = nI b) : f_X8_cellsOf k (nI s) τ = some (nI (a * b)) := by
  unfold f_X8_cellsOf f_X8_cellsOf_0
  simp (disch := omega) only [bind_s, sum_l, sum_r, chkin, lit, nI_add, pk_mul, nI_clamp, nI_leI, nI_ltI, nI_eqI, nI_or, and1, shl1, shrx, nI_subx, pk_divx, pk_remx, nmod, nzx, if_tt, if_ff, bz_n1, bz_n0, nm1, nm2, wI_p, wI_inj, wI_n, nI_w, wI_ltI, wI_leI, nI_ltw, nI_lew, reduceIte, columns_h L hw hs h0, rows_h L hw hs h1]
theorem onCell_h {τ : St} {s c : Nat} {v : Int32} (L : SL k) (hw : τ (k + 1) 0 = nI 103) (h : s * 103 + (3 + c) < 618) (h0 : τ (k + 1 + 1) (s * 103 + (3 + c)) = v) : f_X8_onCell k (nI s) (nI c) τ = some v := by
  unfold f_X8_onCell f_X8_onCell_0
  rw [show (3 : Int32) = nI 3 from rfl, nI_add, get_eq hw (by rw [L.1]; omega) (by rw [L.1]; decide), h0]
  rfl
theorem setCell_h {τ : St} {s c : Nat} {v : Int32} (L : SL k) (hw : τ (k + 1) 0 = nI 103) (h : s * 103 + (3 + c) < 618) : f_X8_setCell k (nI s) (nI c) v τ = some (up τ (k + 1 + 1) (s * 103 + (3 + c)) v) := by
  unfold f_X8_setCell f_X8_setCell_0
  simp (disch := omega) only [bind_s, sum_l, sum_r, chkin, lit, nI_add, pk_mul, nI_clamp, nI_leI, nI_ltI, nI_eqI, nI_or, and1, shl1, shrx, nI_subx, pk_divx, pk_remx, nmod, nzx, if_tt, if_ff, bz_n1, bz_n0, nm1, nm2, wI_p, wI_inj, wI_n, nI_w, wI_ltI, wI_leI, nI_ltw, nI_lew, reduceIte, sset_eq L hw]
theorem rowsAfter_h {τ : St} {h t : Nat} (L : SL k) (hw : τ (k + 3) 0 = nI 9) (hh : h < 8) (ht : t < 4) {a b : Nat} (h0 : τ (k + 3 + 1) (h * 9 + 0) = nI a) (h1 : τ (k + 3 + 1) (h * 9 + 1) = nI b) : f_X8_rowsAfter k (nI h) (nI t) τ = some (nI (if t % 2 = 0 then b else a)) ∧ f_X8_columnsAfter k (nI h) (nI t) τ = some (nI (if t % 2 = 0 then a else b)) := by
  have g : ∀ f, h * 9 + f < 72 → f_X9_get (k + 3) (nI h) (nI f) τ = some (τ (k + 3 + 1) (h * 9 + f)) := fun f hf => get_eq hw (by rw [L.2.1]; exact hf) (by rw [L.2.1]; decide)
  constructor
  · unfold f_X8_rowsAfter f_X8_rowsAfter_0 f_X8_rowsAfter_j16
    simp (disch := omega) only [bind_s, sum_l, sum_r, chkin, lit, nI_add, pk_mul, nI_clamp, nI_leI, nI_ltI, nI_eqI, nI_or, and1, shl1, shrx, nI_subx, pk_divx, pk_remx, nmod, nzx, if_tt, if_ff, bz_n1, bz_n0, nm1, nm2, wI_p, wI_inj, wI_n, nI_w, wI_ltI, wI_leI, nI_ltw, nI_lew, reduceIte, g, h0, h1]
    split <;> rfl
  · unfold f_X8_columnsAfter f_X8_columnsAfter_0 f_X8_columnsAfter_j16
    simp (disch := omega) only [bind_s, sum_l, sum_r, chkin, lit, nI_add, pk_mul, nI_clamp, nI_leI, nI_ltI, nI_eqI, nI_or, and1, shl1, shrx, nI_subx, pk_divx, pk_remx, nmod, nzx, if_tt, if_ff, bz_n1, bz_n0, nm1, nm2, wI_p, wI_inj, wI_n, nI_w, wI_ltI, wI_leI, nI_ltw, nI_lew, reduceIte, g, h0, h1]
    split <;> rfl
theorem coveredAfter_h {τ : St} {h t : Nat} (L : SL k) (hw : τ (k + 3) 0 = nI 9) (hh : h < 8) (ht : t < 4) {v : Int32} (h0 : τ (k + 3 + 1) (h * 9 + (5 + t)) = v) : f_X8_coveredAfter k (nI h) (nI t) τ = some v := by
  unfold f_X8_coveredAfter f_X8_coveredAfter_0
  rw [show (5 : Int32) = nI 5 from rfl, nI_add, get_eq hw (by rw [L.2.1]; omega) (by rw [L.2.1]; decide), h0]
  rfl
/-- the sheets' array behind the first i places of a new part -/
def pArr (R : Nat → Nat) (h s x y t i : Nat) (f : Nat → Int32) : Nat → Int32 := fun j => if ex (fun k => decide (bit (tm R h t) k = 1) && decide (s * 103 + (3 + ncl R s x y (tc R h t) k) = j)) i = true then nI (R 2) else f j
theorem pArr_0 (R : Nat → Nat) (h s x y t : Nat) (f : Nat → Int32) : pArr R h s x y t 0 f = f := by
  funext j
  exact if_neg Bool.false_ne_true
theorem pArr_s0 {h s x y t i : Nat} {f : Nat → Int32} (e : bit (tm R h t) i = 0) : pArr R h s x y t (i + 1) f = pArr R h s x y t i f := by
  funext j
  unfold pArr
  rw [ex_f (by simp [e])]
theorem pArr_s1 {h s x y t i : Nat} {f : Nat → Int32} (e : bit (tm R h t) i = 1) : pArr R h s x y t (i + 1) f = upd (pArr R h s x y t i f) (s * 103 + (3 + ncl R s x y (tc R h t) i)) (nI (R 2)) := by
  funext j
  unfold pArr upd
  by_cases e2 : j = s * 103 + (3 + ncl R s x y (tc R h t) i)
  · rw [if_pos e2, if_pos]
    exact ex_i.mpr ⟨i, by omega, by simp [e, e2]⟩
  · rw [if_neg e2, ex_f]
    have : ¬ s * 103 + (3 + ncl R s x y (tc R h t) i) = j := fun q => e2 q.symm
    simp [this]
set_option maxHeartbeats 4000000 in
theorem createPart_eq (T : ShR k R σ) (G : Good R) (h2 : R 2 < 20) {h s x y t : Nat} (hh : h < R 1) (hs : s < R 0) (ht : t < 4) (F : Fits R h s x y t) (hst : 1 ≤ R (653 + h)) : ∃ τ, f_X8_createPart k (nI h) (nI s) (nI x) (nI y) (nI t) σ = some (nI (R 2), τ) ∧ ShR k (rPart R h s x y t) τ ∧ ∀ a, a < k + 1 ∨ k + 6 < a → τ a = σ a := by
  obtain ⟨L, W, S, H, P⟩ := T
  obtain ⟨w1, w2, w3, w4, w5, w6⟩ := W
  have hG := GH G hh
  have hS := GS G hs
  have hT := SM_t hG.2.1 t
  have h16 := tm_16 hG.2.1 t
  obtain ⟨f1, f2, f3⟩ := F
  have a1 := append_eq (lim := 20) w5 w6 L.2.2 (by decide) h2 (by decide)
  generalize hσ1 : up σ (k + 5) 2 (nI (R 2 + 1)) = σ1 at a1
  have b1 : σ1 (k + 5) 0 = nI 5 := by rw [← hσ1, up_j _ _ _ (by decide), w5]
  have b2 : σ1 (k + 5 + 1) = σ (k + 5 + 1) := by rw [← hσ1, up_k _ _ _ (by omega)]
  have c1 : ∀ f, (upA σ1 (k + 5 + 1) f) (k + 5) 0 = nI 5 := fun f => by rw [upA_ne _ _ (by omega), b1]
  generalize hg : upd (upd (upd (upd (upd (σ (k + 5 + 1)) (R 2 * 5 + 0) (nI h)) (R 2 * 5 + 1) (nI s)) (R 2 * 5 + 2) (nI x)) (R 2 * 5 + 3) (nI y)) (R 2 * 5 + 4) (nI t) = pa
  generalize hσ2 : upA σ1 (k + 5 + 1) pa = σ2
  have d : ∀ a, a ≠ k + 5 → a ≠ k + 5 + 1 → σ2 a = σ a := fun a q1 q2 => by rw [← hσ2, upA_ne _ _ q2, ← hσ1, up_k _ _ _ q1]
  have hSh := S s hs
  have hHh := H h hh
  unfold ShS at hSh
  unfold ShH at hHh
  have rc : ∀ f, f_X8_rowsAfter k (nI h) (nI t) (upA σ2 (k + 1 + 1) f) = some (nI (tr R h t)) := fun f => by
    have := (rowsAfter_h (τ := upA σ2 (k + 1 + 1) f) (t := t) L (by rw [upA_ne _ _ (by omega), d _ (by omega) (by omega), w3]) hG.1 ht (by rw [upA_ne _ _ (by omega), d _ (by omega) (by omega)]; exact hHh.1) (by rw [upA_ne _ _ (by omega), d _ (by omega) (by omega)]; exact hHh.2.1)).1
    exact this
  have cc := (rowsAfter_h (τ := σ2) (t := t) L (by rw [d _ (by omega) (by omega), w3]) hG.1 ht (by rw [d _ (by omega) (by omega)]; exact hHh.1) (by rw [d _ (by omega) (by omega)]; exact hHh.2.1)).2
  change _ = some (nI (tc R h t)) at cc
  have cv : f_X8_coveredAfter k (nI h) (nI t) σ2 = some (nI (tm R h t)) := coveredAfter_h (τ := σ2) (t := t) L (by rw [d _ (by omega) (by omega), w3]) hG.1 ht (by rw [d _ (by omega) (by omega)]; exact hHh.2.2.2.2.2 t ht)
  have hds : σ2 (k + 1 + 1) = σ (k + 1 + 1) := d _ (by omega) (by omega)
  have hdw : ∀ f, (upA σ2 (k + 1 + 1) f) (k + 1) 0 = nI 103 := fun f => by rw [upA_ne _ _ (by omega), d _ (by omega) (by omega), w1]
  have hncl : ∀ i, bit (tm R h t) i = 1 → ncl R s x y (tc R h t) i < sc R s * sr R s := fun i hi => (ncl_lt G hh hs f1 f2 hi).1
  have hhd : ∀ i, pArr R h s x y t i (σ (k + 1 + 1)) (s * 103 + 0) = nI (sc R s) := fun i => by
    unfold pArr
    rw [if_neg, hSh.1]
    rw [ex_i]
    rintro ⟨q, _, hq⟩
    simp only [Bool.and_eq_true, decide_eq_true_eq] at hq
    omega
  have loop := lp_ex (f := f_X8_createPart_l87 k (nI h) (nI s) (nI x) (nI y) (nI t) (nI (R 2)) (nI (tc R h t)) (nI (tm R h t))) (fun r => (nI r, upA σ2 (k + 1 + 1) (pArr R h s x y t (tc R h t * r) (σ (k + 1 + 1))))) (upA σ2 (k + 1 + 1) (pArr R h s x y t (tc R h t * tr R h t) (σ (k + 1 + 1)))) (tr R h t) (by omega) (fun r hr => by
    have inner := lp_ex (f := f_X8_createPart_l102 k (nI h) (nI s) (nI x) (nI y) (nI t) (nI (R 2)) (nI (tc R h t)) (nI (tm R h t)) (nI r)) (fun c => (nI c, upA σ2 (k + 1 + 1) (pArr R h s x y t (tc R h t * r + c) (σ (k + 1 + 1))))) (upA σ2 (k + 1 + 1) (pArr R h s x y t (tc R h t * (r + 1)) (σ (k + 1 + 1)))) (tc R h t) (by omega) (fun c hc => by
      have hlt : tc R h t * r + c < 16 := at_lt hc hr (Nat.mul_le_mul hT.2.1 hT.2.2.2)
      unfold f_X8_createPart_l102 f_X8_createPart_j146
      dsimp only
      by_cases e : bit (tm R h t) (tc R h t * r + c) = 0
      · simp (disch := omega) only [bind_s, sum_l, sum_r, chkin, lit, nI_add, pk_mul, nI_clamp, nI_leI, nI_ltI, nI_eqI, nI_or, and1, shl1, shrx, nI_subx, pk_divx, pk_remx, nmod, nzx, if_tt, if_ff, bz_n1, bz_n0, nm1, nm2, wI_p, wI_inj, wI_n, nI_w, wI_ltI, wI_leI, nI_ltw, nI_lew, reduceIte, covers_eq, bit_e0, e]
        rw [show tc R h t * r + (c + 1) = tc R h t * r + c + 1 from rfl, pArr_s0 e]
      · have e1 : bit (tm R h t) (tc R h t * r + c) = 1 := by have := bit_lt (tm R h t) (tc R h t * r + c); omega
        have hn := hncl _ e1
        have hc2 := columns_h (τ := upA σ2 (k + 1 + 1) (pArr R h s x y t (tc R h t * r + c) (σ (k + 1 + 1)))) L (hdw _) (show s < 6 by omega) (by rw [upA_same]; exact hhd _)
        have hcell : x + c + sc R s * (y + r) = ncl R s x y (tc R h t) (tc R h t * r + c) := by
          unfold ncl
          rw [lin_mod hc, lin_div hc]
          omega
        simp (disch := omega) only [bind_s, sum_l, sum_r, chkin, lit, nI_add, pk_mul, nI_clamp, nI_leI, nI_ltI, nI_eqI, nI_or, and1, shl1, shrx, nI_subx, pk_divx, pk_remx, nmod, nzx, if_tt, if_ff, bz_n1, bz_n0, nm1, nm2, wI_p, wI_inj, wI_n, nI_w, wI_ltI, wI_leI, nI_ltw, nI_lew, reduceIte, covers_eq, bit_e0, e1, hc2, hcell, setCell_h L (hdw _), upA_w]
        rw [show tc R h t * r + (c + 1) = tc R h t * r + c + 1 from rfl, pArr_s1 e1]) (by
      unfold f_X8_createPart_l102
      dsimp only
      simp (disch := omega) only [bind_s, sum_l, sum_r, chkin, lit, nI_add, pk_mul, nI_clamp, nI_leI, nI_ltI, nI_eqI, nI_or, and1, shl1, shrx, nI_subx, pk_divx, pk_remx, nmod, nzx, if_tt, if_ff, bz_n1, bz_n0, nm1, nm2, wI_p, wI_inj, wI_n, nI_w, wI_ltI, wI_leI, nI_ltw, nI_lew, reduceIte]
      rw [Nat.mul_succ])
    simp only [Nat.add_zero] at inner
    unfold f_X8_createPart_l87
    dsimp only
    simp (disch := omega) only [bind_s, sum_l, sum_r, chkin, lit, nI_add, pk_mul, nI_clamp, nI_leI, nI_ltI, nI_eqI, nI_or, and1, shl1, shrx, nI_subx, pk_divx, pk_remx, nmod, nzx, if_tt, if_ff, bz_n1, bz_n0, nm1, nm2, wI_p, wI_inj, wI_n, nI_w, wI_ltI, wI_leI, nI_ltw, nI_lew, reduceIte, rc, inner]) (by
    unfold f_X8_createPart_l87
    dsimp only
    simp (disch := omega) only [bind_s, sum_l, sum_r, chkin, lit, nI_add, pk_mul, nI_clamp, nI_leI, nI_ltI, nI_eqI, nI_or, and1, shl1, shrx, nI_subx, pk_divx, pk_remx, nmod, nzx, if_tt, if_ff, bz_n1, bz_n0, nm1, nm2, wI_p, wI_inj, wI_n, nI_w, wI_ltI, wI_leI, nI_ltw, nI_lew, reduceIte, rc])
  rw [Nat.mul_zero, pArr_0, ← hds, upA_id, hds] at loop
  generalize hsa : pArr R h s x y t (tc R h t * tr R h t) (σ (k + 1 + 1)) = sa at loop
  have hst2 : (upA σ2 (k + 1 + 1) sa) (k + 3 + 1) = σ (k + 3 + 1) := by rw [upA_ne _ _ (by omega), d _ (by omega) (by omega)]
  have hw3 : (upA σ2 (k + 1 + 1) sa) (k + 3) 0 = nI 9 := by rw [upA_ne _ _ (by omega), d _ (by omega) (by omega), w3]
  have hget : f_X9_get (k + 3) (nI h) (nI 4) (upA σ2 (k + 1 + 1) sa) = some (nI (R (653 + h))) := by
    rw [get_eq hw3 (by rw [L.2.1]; omega) (by rw [L.2.1]; decide), hst2]
    exact congrArg some hHh.2.2.2.2.1
  refine ⟨up (upA σ2 (k + 1 + 1) sa) (k + 3 + 1) (h * 9 + 4) (nI (R (653 + h) - 1)), ?_, ?_, fun a ha => ?_⟩
  · unfold f_X8_createPart f_X8_createPart_0
    simp (disch := omega) only [bind_s, sum_l, sum_r, chkin, lit, nI_add, pk_mul, nI_clamp, nI_leI, nI_ltI, nI_eqI, nI_or, and1, shl1, shrx, nI_subx, pk_divx, pk_remx, nmod, nzx, if_tt, if_ff, bz_n1, bz_n0, nm1, nm2, wI_p, wI_inj, wI_n, nI_w, wI_ltI, wI_leI, nI_ltw, nI_lew, reduceIte, a1, pset_eq L b1, pset_eq L (c1 _), up_as σ1, upA_w, b2, hg, hσ2, cc, cv, loop, hget, hset_eq L hw3]
  · obtain ⟨n1, n2, n3, n4, n5, n6, n10, n7, n8, n9⟩ := rPart_n (R := R) (h := h) (s := s) (x := x) (y := y) (t := t) h2 (by omega)
    have O := rPart_on (x := x) (y := y) (t := t) G h2 hh hs
    have g0 := G.1
    have g1 := G.2.1
    have m0 := n7 0 (by omega) (by omega) (by omega)
    have m1 := n7 1 (by omega) (by omega) (by omega)
    have hk5 : σ2 (k + 5) = upd (σ (k + 5)) 2 (nI (R 2 + 1)) := by rw [← hσ2, upA_ne _ _ (by omega), ← hσ1]; exact upA_same ..
    refine ⟨L, ⟨?_, ?_, ?_, ?_, ?_, ?_⟩, fun s' hs' => ?_, fun h' hh' => ?_, fun p hp => ?_⟩
    · rw [up_k _ _ _ (by omega)]; exact hdw sa
    · rw [up_k _ _ _ (by omega), upA_ne _ _ (by omega), d _ (by omega) (by omega), w2, m0]
    · rw [up_k _ _ _ (by omega)]; exact hw3
    · rw [up_k _ _ _ (by omega), upA_ne _ _ (by omega), d _ (by omega) (by omega), w4, m1]
    · rw [up_k _ _ _ (by omega), upA_ne _ _ (by omega), hk5, pk_un (by decide), w5]
    · rw [up_k _ _ _ (by omega), upA_ne _ _ (by omega), hk5, pk_us, n1]
    · have hs0 : s' < R 0 := by omega
      have hS' := GS G hs0
      have Ss := S s' hs0
      have e1 : sc (rPart R h s x y t) s' = sc R s' := n7 _ (by omega) (by omega) (by omega)
      have e2 : sr (rPart R h s x y t) s' = sr R s' := n7 _ (by omega) (by omega) (by omega)
      unfold ShS at *
      rw [up_k _ _ _ (by omega), upA_same, e1, e2, n7 _ (by omega) (by omega) (by omega), ← hsa]
      have hno : ∀ q j, q < 3 ∨ s' ≠ s → j = s' * 103 + q → q < 103 → pArr R h s x y t (tc R h t * tr R h t) (σ (k + 1 + 1)) j = σ (k + 1 + 1) j := fun q j hq hj hq2 => by
        unfold pArr
        rw [if_neg]
        rw [ex_i]
        rintro ⟨i, _, hi⟩
        simp only [Bool.and_eq_true, decide_eq_true_eq] at hi
        have := hncl i hi.1
        omega
      refine ⟨by rw [hno 0 _ (by omega) rfl (by omega)]; exact Ss.1, by rw [hno 1 _ (by omega) rfl (by omega)]; exact Ss.2.1, by rw [hno 2 _ (by omega) rfl (by omega)]; exact Ss.2.2.1, fun j hj => ?_⟩
      rw [O.2 s' j hs0 (by omega)]
      by_cases e : nhit R h s x y t s' j = true
      · rw [if_pos e]
        obtain ⟨q1, q, q2, q3, q4⟩ := nhit_i.mp e
        subst q1
        have hq := bit_hi (tm_lt hG.2.1 t) q3
        unfold pArr
        rw [if_pos, wI_p]
        exact ex_i.mpr ⟨q, hq, by simp [q3, q4]⟩
      · rw [if_neg e, ← Ss.2.2.2 j hj]
        unfold pArr
        rw [if_neg]
        rw [ex_i]
        rintro ⟨i, hi, hi2⟩
        simp only [Bool.and_eq_true, decide_eq_true_eq] at hi2
        have q1 := hncl i hi2.1
        have q2 : s = s' := by omega
        subst q2
        exact e (nhit_i.mpr ⟨rfl, i, (ncl_lt G hh hs f1 f2 hi2.1).2.2.2, hi2.1, by omega⟩)
    · have hh1 : h' < R 1 := by omega
      have Hh := H h' hh1
      unfold ShH at *
      have hq : ∀ q, q ≠ h * 9 + 4 → (up (upA σ2 (k + 1 + 1) sa) (k + 3 + 1) (h * 9 + 4) (nI (R (653 + h) - 1))) (k + 3 + 1) q = σ (k + 3 + 1) q := fun q hq => by rw [up_j _ _ _ hq, hst2]
      rw [hq _ (by omega), hq _ (by omega), hq _ (by omega), hq _ (by omega), n7 _ (by omega) (by omega) (by omega), n7 _ (by omega) (by omega) (by omega), n7 _ (by omega) (by omega) (by omega), n7 _ (by omega) (by omega) (by omega)]
      refine ⟨Hh.1, Hh.2.1, Hh.2.2.1, Hh.2.2.2.1, ?_, fun t' ht' => ?_⟩
      · by_cases e : h' = h
        · subst e
          rw [up_s, n10]
        · rw [hq _ (by omega), n7 _ (by omega) (by omega) (by omega)]
          exact Hh.2.2.2.2.1
      · rw [hq _ (by omega), (tm_c (R := R) (n7 _ (by omega) (by omega) (by omega)) (n7 _ (by omega) (by omega) (by omega)) (n7 _ (by omega) (by omega) (by omega)) t').2.2]
        exact Hh.2.2.2.2.2 t' ht'
    · unfold ShP at *
      have e5 : (up (upA σ2 (k + 1 + 1) sa) (k + 3 + 1) (h * 9 + 4) (nI (R (653 + h) - 1))) (k + 5 + 1) = pa := by rw [up_k _ _ _ (by omega), upA_ne _ _ (by omega), ← hσ2, upA_same]
      rw [e5, ← hg]
      simp only [upd]
      by_cases e : p = R 2
      · subst e
        rw [n2, n3, n4, n5, n6]
        refine ⟨?_, ?_, ?_, ?_, ?_⟩
        · rw [if_neg (by omega), if_neg (by omega), if_neg (by omega), if_neg (by omega), if_pos rfl]
        · rw [if_neg (by omega), if_neg (by omega), if_neg (by omega), if_pos rfl]
        · rw [if_neg (by omega), if_neg (by omega), if_pos rfl]
        · rw [if_neg (by omega), if_pos rfl]
        · rw [if_pos rfl]
      · have hp' : p < R 2 := by omega
        obtain ⟨q1, q2, q3, q4, q5⟩ := n9 p hp'
        have Pp := P p hp'
        rw [q1, q2, q3, q4, q5]
        refine ⟨?_, ?_, ?_, ?_, ?_⟩
        · rw [if_neg (by omega), if_neg (by omega), if_neg (by omega), if_neg (by omega), if_neg (by omega)]; exact Pp.1
        · rw [if_neg (by omega), if_neg (by omega), if_neg (by omega), if_neg (by omega), if_neg (by omega)]; exact Pp.2.1
        · rw [if_neg (by omega), if_neg (by omega), if_neg (by omega), if_neg (by omega), if_neg (by omega)]; exact Pp.2.2.1
        · rw [if_neg (by omega), if_neg (by omega), if_neg (by omega), if_neg (by omega), if_neg (by omega)]; exact Pp.2.2.2.1
        · rw [if_neg (by omega), if_neg (by omega), if_neg (by omega), if_neg (by omega), if_neg (by omega)]; exact Pp.2.2.2.2
  · rw [up_k _ _ _ (by omega), upA_ne _ _ (by omega), d _ (by omega) (by omega)]
