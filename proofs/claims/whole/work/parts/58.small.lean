/-! PURE FACTS, 9: the reference's small questions -/
variable {k : Nat} {R : Nat → Nat} {σ : St}
theorem in_eq (x a b : Int32) : f_X11_in x a b = some (if x < a ∨ b < x then 0 else 1) := by
  unfold f_X11_in f_X11_in_0
  by_cases h1 : x < a
  · rw [if_pos h1, if_pos (Or.inl h1)]; rfl
  · by_cases h2 : b < x
    · rw [if_neg h1, if_pos h2, if_pos (Or.inr h2)]; rfl
    · rw [if_neg h1, if_neg h2, if_neg (fun h => h.elim h1 h2)]; rfl
theorem in_N {j a b : Nat} (hj : j < 2 ^ 20) (ha : a < 2 ^ 20) (hb : b < 2 ^ 20) : f_X11_in (nI j) (nI a) (nI b) = some (nI (bN (decide (a ≤ j ∧ j ≤ b)))) := by
  rw [in_eq]
  simp (disch := omega) only [bind_s, sum_l, sum_r, chkin, lit, nI_add, pk_mul, nI_clamp, nI_leI, nI_ltI, nI_eqI, nI_or, and1, shl1, shrx, nI_subx, pk_divx, pk_remx, nmod, nzx, if_tt, if_ff, bz_n1, bz_n0, nm1, nm2, wI_p, wI_inj, wI_n, nI_w, wI_ltI, wI_leI, nI_ltw, nI_lew, reduceIte]
  by_cases h : a ≤ j ∧ j ≤ b
  · rw [if_neg (by omega), decide_eq_true h]; rfl
  · rw [if_pos (by omega), decide_eq_false h]; rfl
/-- n - 1 for an n that may be 0 -/
theorem pr_w (n : Nat) : nI n - nI 1 = wI (n + 1) := by
  cases n with
  | zero => decide
  | succ n => rw [wI_p]; exact nI_pred n
theorem in_in {j n : Nat} (hj : j < n) (hn : n < 2 ^ 20) : f_X11_in (nI j) (nI 0) (nI n - nI 1) = some (nI 1) := by
  rw [in_eq, pr_w]
  simp (disch := omega) only [bind_s, sum_l, sum_r, chkin, lit, nI_add, pk_mul, nI_clamp, nI_leI, nI_ltI, nI_eqI, nI_or, and1, shl1, shrx, nI_subx, pk_divx, pk_remx, nmod, nzx, if_tt, if_ff, bz_n1, bz_n0, nm1, nm2, wI_p, wI_inj, wI_n, nI_w, wI_ltI, wI_leI, nI_ltw, nI_lew, reduceIte]
  try rw [if_neg (by omega)]
theorem in_out {n : Nat} {x : Int32} (hn : n < 2 ^ 20) (h : x < 0 ∨ (¬ x < 0 ∧ nI n ≤ x)) : f_X11_in x (nI 0) (nI n - nI 1) = some (nI 0) := by
  rw [in_eq, pr_w, if_pos]
  · rfl
  · rcases h with h | ⟨h1, h2⟩
    · exact Or.inl h
    · right
      obtain ⟨j, hj, rfl⟩ := nI_of h1
      rw [nI_leI (by omega) (by omega)] at h2
      rw [Int32.lt_iff_toInt_lt]
      have h3 : (wI (n + 1)).toInt = ((n + 1 : Nat) : Int) - 2 := pk_sub_toInt (by omega) (by decide)
      rw [h3, nI_toInt (by omega)]
      omega
theorem isSheet_in (hR : σ 102 = rwN R) (G : Good R) {s : Nat} (hs : s < R 0) : f_X11_isSheet (nI s) σ = some (nI 1) := by
  have := G.1
  unfold f_X11_isSheet f_X11_isSheet_0
  rw [chk_t (by decide), hR]
  show bz ((f_X11_in (nI s) (nI 0) (nI (R 0) - nI 1)).bind _) = _
  rw [in_in hs (by omega)]
  rfl
theorem isSheet_out (hR : σ 102 = rwN R) (G : Good R) {x : Int32} (h : x < 0 ∨ (¬ x < 0 ∧ nI (R 0) ≤ x)) : f_X11_isSheet x σ = some (nI 0) := by
  have := G.1
  unfold f_X11_isSheet f_X11_isSheet_0
  rw [chk_t (by decide), hR]
  show bz ((f_X11_in x (nI 0) (nI (R 0) - nI 1)).bind _) = _
  rw [in_out (by omega) h]
  rfl
theorem isShape_in (hR : σ 102 = rwN R) (G : Good R) {s : Nat} (hs : s < R 1) : f_X11_isShape (nI s) σ = some (nI 1) := by
  have := G.2.1
  unfold f_X11_isShape f_X11_isShape_0
  rw [chk_t (by decide), hR]
  show bz ((f_X11_in (nI s) (nI 0) (nI (R 1) - nI 1)).bind _) = _
  rw [in_in hs (by omega)]
  rfl
theorem isShape_out (hR : σ 102 = rwN R) (G : Good R) {x : Int32} (h : x < 0 ∨ (¬ x < 0 ∧ nI (R 1) ≤ x)) : f_X11_isShape x σ = some (nI 0) := by
  have := G.2.1
  unfold f_X11_isShape f_X11_isShape_0
  rw [chk_t (by decide), hR]
  show bz ((f_X11_in x (nI 0) (nI (R 1) - nI 1)).bind _) = _
  rw [in_out (by omega) h]
  rfl
theorem isPart_in (hR : σ 102 = rwN R) (G : Good R) {s : Nat} (hs : s < R 2) : f_X11_isPart (nI s) σ = some (nI 1) := by
  have := G.2.2.1
  unfold f_X11_isPart f_X11_isPart_0
  rw [chk_t (by decide), hR]
  show bz ((f_X11_in (nI s) (nI 0) (nI (R 2) - nI 1)).bind _) = _
  rw [in_in hs (by omega)]
  rfl
theorem isPart_out (hR : σ 102 = rwN R) (G : Good R) {x : Int32} (h : x < 0 ∨ (¬ x < 0 ∧ nI (R 2) ≤ x)) : f_X11_isPart x σ = some (nI 0) := by
  have := G.2.2.1
  unfold f_X11_isPart f_X11_isPart_0
  rw [chk_t (by decide), hR]
  show bz ((f_X11_in x (nI 0) (nI (R 2) - nI 1)).bind _) = _
  rw [in_out (by omega) h]
  rfl
theorem cellsR_eq (hR : σ 102 = rwN R) {s : Nat} (hs : s < 6) : f_X11_cells (nI s) σ = some (nI (sc R s * sr R s)) := by
  unfold f_X11_cells f_X11_cells_0
  simp (disch := omega) only [bind_s, sum_l, sum_r, chkin, lit, nI_add, pk_mul, nI_clamp, nI_leI, nI_ltI, nI_eqI, nI_or, and1, shl1, shrx, nI_subx, pk_divx, pk_remx, nmod, nzx, if_tt, if_ff, bz_n1, bz_n0, nm1, nm2, wI_p, wI_inj, wI_n, nI_w, wI_ltI, wI_leI, nI_ltw, nI_lew, reduceIte, hR, rwN_a]
  rfl
theorem usable_eq (hR : σ 102 = rwN R) (G : Good R) {s c : Nat} (hs : s < R 0) (hc : c < 100) : f_X11_isUsable (nI s) (nI c) σ = some (nI (bN (decide (us R s c = 1)))) := by
  obtain ⟨h0, _, _, _, _, _, _, h7⟩ := GS G hs
  have h8 := h7 c hc
  unfold f_X11_isUsable f_X11_isUsable_0
  unfold us at *
  simp (disch := omega) only [bind_s, sum_l, sum_r, chkin, lit, nI_add, pk_mul, nI_clamp, nI_leI, nI_ltI, nI_eqI, nI_or, and1, shl1, shrx, nI_subx, pk_divx, pk_remx, nmod, nzx, if_tt, if_ff, bz_n1, bz_n0, nm1, nm2, wI_p, wI_inj, wI_n, nI_w, wI_ltI, wI_leI, nI_ltw, nI_lew, reduceIte, hR, rwN_a, bN_if, bz_N]
def Cov (R : Nat → Nat) (s : Nat) (row : Nat → Int32) : Prop := ∀ c, c < 100 → row c = wI (ck R s c)
def fr (R : Nat → Nat) (s c : Nat) : Bool := decide (us R s c = 1) && decide (ck R s c = 1)
theorem freeR_eq (hR : σ 102 = rwN R) (G : Good R) {s c : Nat} (hs : s < R 0) (hc : c < 100) (hC : Cov R s (σ 111)) : f_X11_isFree (nI s) (nI c) σ = some (nI (bN (fr R s c))) := by
  have h1 := ck_lt R s c
  have h2 := G.2.2.1
  unfold f_X11_isFree f_X11_isFree_0 fr
  simp (disch := omega) only [bind_s, sum_l, sum_r, chkin, lit, nI_add, pk_mul, nI_clamp, nI_leI, nI_ltI, nI_eqI, nI_or, and1, shl1, shrx, nI_subx, pk_divx, pk_remx, nmod, nzx, if_tt, if_ff, bz_n1, bz_n0, nm1, nm2, wI_p, wI_inj, wI_n, nI_w, wI_ltI, wI_leI, nI_ltw, nI_lew, reduceIte, usable_eq hR G hs hc, hC c hc, bN_e0]
  by_cases e : us R s c = 1
  · simp only [e, decide_true, Bool.true_and, bN_if, bz_N]
    simp (disch := omega) only [bind_s, sum_l, sum_r, chkin, lit, nI_add, pk_mul, nI_clamp, nI_leI, nI_ltI, nI_eqI, nI_or, and1, shl1, shrx, nI_subx, pk_divx, pk_remx, nmod, nzx, if_tt, if_ff, bz_n1, bz_n0, nm1, nm2, wI_p, wI_inj, wI_n, nI_w, wI_ltI, wI_leI, nI_ltw, nI_lew, reduceIte, bN_if, bz_N, reduceCtorEq]
  · simp only [e, decide_false, Bool.false_and, if_true]
    exact bz_N false
theorem on_fr {s c : Nat} (G : Good R) (hs : s < R 0) (hc : c < sc R s * sr R s) : fr R s c = decide (on R s c = 1) := by
  rcases on_cases G hs hc with h | h | h
  · simp [fr, h.1, h.2.1]
  · simp [fr, h.1, h.2.1, h.2.2]
  · have : ck R s c ≠ 1 := by omega
    have h2 : on R s c ≠ 1 := by omega
    simp [fr, this, h2]
theorem freeN_eq (hR : σ 102 = rwN R) (G : Good R) {s : Nat} (hs : s < R 0) : ∃ row, f_X11_free (nI s) σ = some (nI (cnt (fun c => decide (on R s c = 1)) (sc R s * sr R s)), upA σ 111 row) := by
  obtain ⟨row, h1, h2⟩ := looks_eq hR G s (by have := G.1; omega)
  have hS := GS G hs
  have hR2 : (upA σ 111 row) 102 = rwN R := by rw [upA_ne _ _ (by decide), hR]
  have hC : Cov R s ((upA σ 111 row) 111) := by rw [upA_same]; exact h2
  refine ⟨row, ?_⟩
  unfold f_X11_free f_X11_free_0
  have := lp_cnt (f := f_X11_free_l9 (nI s) (upA σ 111 row)) (fun c => decide (on R s c = 1)) (sc R s * sr R s) (by omega) (fun i a hi ha => by
    unfold f_X11_free_l9 f_X11_free_j33
    dsimp only
    simp (disch := omega) only [bind_s, sum_l, sum_r, chkin, lit, nI_add, pk_mul, nI_clamp, nI_leI, nI_ltI, nI_eqI, nI_or, and1, shl1, shrx, nI_subx, pk_divx, pk_remx, nmod, nzx, if_tt, if_ff, bz_n1, bz_n0, nm1, nm2, wI_p, wI_inj, wI_n, nI_w, wI_ltI, wI_leI, nI_ltw, nI_lew, reduceIte, cellsR_eq hR2 hS.1, freeR_eq hR2 G hs (show i < 100 by omega) hC, bN_e0]
    rw [on_fr G hs hi]
    by_cases e : on R s i = 1 <;> simp [e]) (fun a ha => by
    unfold f_X11_free_l9
    dsimp only
    simp (disch := omega) only [bind_s, sum_l, sum_r, chkin, lit, nI_add, pk_mul, nI_clamp, nI_leI, nI_ltI, nI_eqI, nI_or, and1, shl1, shrx, nI_subx, pk_divx, pk_remx, nmod, nzx, if_tt, if_ff, bz_n1, bz_n0, nm1, nm2, wI_p, wI_inj, wI_n, nI_w, wI_ltI, wI_leI, nI_ltw, nI_lew, reduceIte, cellsR_eq hR2 hS.1])
  simp (disch := omega) only [bind_s, sum_l, sum_r, chkin, lit, nI_add, pk_mul, nI_clamp, nI_leI, nI_ltI, nI_eqI, nI_or, and1, shl1, shrx, nI_subx, pk_divx, pk_remx, nmod, nzx, if_tt, if_ff, bz_n1, bz_n0, nm1, nm2, wI_p, wI_inj, wI_n, nI_w, wI_ltI, wI_leI, nI_ltw, nI_lew, reduceIte, h1, this]
theorem partsOn_eq (hR : σ 102 = rwN R) (G : Good R) {v : Nat} (hv : v < 2 ^ 20) : f_X11_partsOn (nI v) σ = some (nI (cnt (fun p => decide (R (681 + p) = v)) (R 2))) ∧ f_X11_partsOf (nI v) σ = some (nI (cnt (fun p => decide (R (661 + p) = v)) (R 2))) := by
  have g2 := G.2.2.1
  constructor
  · unfold f_X11_partsOn f_X11_partsOn_0
    have := lp_cnt (f := f_X11_partsOn_l4 (nI v) σ) (fun p => decide (R (681 + p) = v)) (R 2) (by omega) (fun i a hi ha => by
      unfold f_X11_partsOn_l4 f_X11_partsOn_j34
      have hp := GP G hi
      dsimp only
      simp (disch := omega) only [bind_s, sum_l, sum_r, chkin, lit, nI_add, pk_mul, nI_clamp, nI_leI, nI_ltI, nI_eqI, nI_or, and1, shl1, shrx, nI_subx, pk_divx, pk_remx, nmod, nzx, if_tt, if_ff, bz_n1, bz_n0, nm1, nm2, wI_p, wI_inj, wI_n, nI_w, wI_ltI, wI_leI, nI_ltw, nI_lew, reduceIte, hR, rwN_a]
      by_cases e : R (681 + i) = v <;> simp [e]) (fun a ha => by
      unfold f_X11_partsOn_l4
      dsimp only
      simp (disch := omega) only [bind_s, sum_l, sum_r, chkin, lit, nI_add, pk_mul, nI_clamp, nI_leI, nI_ltI, nI_eqI, nI_or, and1, shl1, shrx, nI_subx, pk_divx, pk_remx, nmod, nzx, if_tt, if_ff, bz_n1, bz_n0, nm1, nm2, wI_p, wI_inj, wI_n, nI_w, wI_ltI, wI_leI, nI_ltw, nI_lew, reduceIte, hR, rwN_a])
    simp (disch := omega) only [bind_s, sum_l, sum_r, chkin, lit, nI_add, pk_mul, nI_clamp, nI_leI, nI_ltI, nI_eqI, nI_or, and1, shl1, shrx, nI_subx, pk_divx, pk_remx, nmod, nzx, if_tt, if_ff, bz_n1, bz_n0, nm1, nm2, wI_p, wI_inj, wI_n, nI_w, wI_ltI, wI_leI, nI_ltw, nI_lew, reduceIte, this]
  · unfold f_X11_partsOf f_X11_partsOf_0
    have := lp_cnt (f := f_X11_partsOf_l4 (nI v) σ) (fun p => decide (R (661 + p) = v)) (R 2) (by omega) (fun i a hi ha => by
      unfold f_X11_partsOf_l4 f_X11_partsOf_j34
      have hp := GP G hi
      dsimp only
      simp (disch := omega) only [bind_s, sum_l, sum_r, chkin, lit, nI_add, pk_mul, nI_clamp, nI_leI, nI_ltI, nI_eqI, nI_or, and1, shl1, shrx, nI_subx, pk_divx, pk_remx, nmod, nzx, if_tt, if_ff, bz_n1, bz_n0, nm1, nm2, wI_p, wI_inj, wI_n, nI_w, wI_ltI, wI_leI, nI_ltw, nI_lew, reduceIte, hR, rwN_a]
      by_cases e : R (661 + i) = v <;> simp [e]) (fun a ha => by
      unfold f_X11_partsOf_l4
      dsimp only
      simp (disch := omega) only [bind_s, sum_l, sum_r, chkin, lit, nI_add, pk_mul, nI_clamp, nI_leI, nI_ltI, nI_eqI, nI_or, and1, shl1, shrx, nI_subx, pk_divx, pk_remx, nmod, nzx, if_tt, if_ff, bz_n1, bz_n0, nm1, nm2, wI_p, wI_inj, wI_n, nI_w, wI_ltI, wI_leI, nI_ltw, nI_lew, reduceIte, hR, rwN_a])
    simp (disch := omega) only [bind_s, sum_l, sum_r, chkin, lit, nI_add, pk_mul, nI_clamp, nI_leI, nI_ltI, nI_eqI, nI_or, and1, shl1, shrx, nI_subx, pk_divx, pk_remx, nmod, nzx, if_tt, if_ff, bz_n1, bz_n0, nm1, nm2, wI_p, wI_inj, wI_n, nI_w, wI_ltI, wI_leI, nI_ltw, nI_lew, reduceIte, this]
theorem lowR_eq (hR : σ 102 = rwN R) (G : Good R) {p c : Nat} (hp : p < R 2) (hl : IsLow R p c) : f_X11_lowestCell (nI p) σ = some (nI c) := by
  obtain ⟨b1, b2, b3, b4, b5, b6, b7, b8, b9, b10, b11, b12, b13, b14⟩ := GP G hp
  obtain ⟨q, q1, q2, q3, q4⟩ := low_ex G hp
  rw [← IsLow_u q4 hl]
  unfold f_X11_lowestCell f_X11_lowestCell_0
  have e3 := tmR_eq hR b2 b5 (show R (741 + p) < 100 by omega)
  change _ = some (nI (pm R p)) at e3
  have := lp_ex (f := f_X11_lowestCell_l27 (nI p) (nI (pm R p)) σ) (fun i => nI i) (nI q) q (by omega) (fun i hi => by
    unfold f_X11_lowestCell_l27
    simp (disch := omega) only [bind_s, sum_l, sum_r, chkin, lit, nI_add, pk_mul, nI_clamp, nI_leI, nI_ltI, nI_eqI, nI_or, and1, shl1, shrx, nI_subx, pk_divx, pk_remx, nmod, nzx, if_tt, if_ff, bz_n1, bz_n0, nm1, nm2, wI_p, wI_inj, wI_n, nI_w, wI_ltI, wI_leI, nI_ltw, nI_lew, reduceIte, has_eq, q3 i hi]) (by
    unfold f_X11_lowestCell_l27
    simp (disch := omega) only [bind_s, sum_l, sum_r, chkin, lit, nI_add, pk_mul, nI_clamp, nI_leI, nI_ltI, nI_eqI, nI_or, and1, shl1, shrx, nI_subx, pk_divx, pk_remx, nmod, nzx, if_tt, if_ff, bz_n1, bz_n0, nm1, nm2, wI_p, wI_inj, wI_n, nI_w, wI_ltI, wI_leI, nI_ltw, nI_lew, reduceIte, has_eq, q2])
  simp (disch := omega) only [bind_s, sum_l, sum_r, chkin, lit, nI_add, pk_mul, nI_clamp, nI_leI, nI_ltI, nI_eqI, nI_or, and1, shl1, shrx, nI_subx, pk_divx, pk_remx, nmod, nzx, if_tt, if_ff, bz_n1, bz_n0, nm1, nm2, wI_p, wI_inj, wI_n, nI_w, wI_ltI, wI_leI, nI_ltw, nI_lew, reduceIte, hR, rwN_a, e3, this, clR_eq hR G hp q1]
def gr (R : Nat → Nat) (h s t : Nat) : Bool := decide (R (645 + h) = 0) || decide (R (15 + s) = 0) || (decide (R (645 + h) = 1) == (decide (t % 2 = 0) == decide (R (15 + s) = 1)))
theorem grainR_eq (hR : σ 102 = rwN R) (G : Good R) {h s t : Nat} (hh : h < R 1) (hs : s < R 0) (ht : t < 4) : f_X11_fitsGrain (nI h) (nI s) (nI t) σ = some (nI (bN (gr R h s t))) := by
  obtain ⟨a1, a2, a3, a4, a5⟩ := GH G hh
  obtain ⟨h0, _, _, _, _, h5, _, _⟩ := GS G hs
  unfold f_X11_fitsGrain f_X11_fitsGrain_0 f_X11_fitsGrain_j54 f_X11_fitsGrain_j85
  simp (disch := omega) only [bind_s, sum_l, sum_r, chkin, lit, nI_add, pk_mul, nI_clamp, nI_leI, nI_ltI, nI_eqI, nI_or, and1, shl1, shrx, nI_subx, pk_divx, pk_remx, nmod, nzx, if_tt, if_ff, bz_n1, bz_n0, nm1, nm2, wI_p, wI_inj, wI_n, nI_w, wI_ltI, wI_leI, nI_ltw, nI_lew, reduceIte, hR, rwN_a]
  have ht2 := Nat.mod_two_eq_zero_or_one t
  have c1 : R (645 + h) = 0 ∨ R (645 + h) = 1 ∨ R (645 + h) = 2 := by omega
  have c2 : R (15 + s) = 0 ∨ R (15 + s) = 1 ∨ R (15 + s) = 2 := by omega
  rcases c1 with e1 | e1 | e1 <;> rcases c2 with e2 | e2 | e2 <;> rcases ht2 with e3 | e3 <;> simp [e1, e2, e3, gr, bN] <;> rfl
theorem grainC_eq (T : ShR k R σ) (G : Good R) {h s t : Nat} (hh : h < R 1) (hs : s < R 0) (ht : t < 4) : f_X8_grainAllows k (nI h) (nI s) (nI t) σ = some (nI (bN (gr R h s t))) := by
  obtain ⟨a1, a2, a3, a4, a5⟩ := GH G hh
  obtain ⟨h0, _, _, _, _, h5, _, _⟩ := GS G hs
  unfold f_X8_grainAllows f_X8_grainAllows_0 f_X8_grainAllows_j45 f_X8_grainAllows_j56 f_X8_grainAllows_j64 f_X8_grainAllows_j79
  simp (disch := omega) only [bind_s, sum_l, sum_r, chkin, lit, nI_add, pk_mul, nI_clamp, nI_leI, nI_ltI, nI_eqI, nI_or, and1, shl1, shrx, nI_subx, pk_divx, pk_remx, nmod, nzx, if_tt, if_ff, bz_n1, bz_n0, nm1, nm2, wI_p, wI_inj, wI_n, nI_w, wI_ltI, wI_leI, nI_ltw, nI_lew, reduceIte, sg_eq T, hg_eq T, (T.2.2.1 s hs).2.2.1, (T.2.2.2.1 h hh).2.2.2.1]
  have ht2 := Nat.mod_two_eq_zero_or_one t
  have c1 : R (645 + h) = 0 ∨ R (645 + h) = 1 ∨ R (645 + h) = 2 := by omega
  have c2 : R (15 + s) = 0 ∨ R (15 + s) = 1 ∨ R (15 + s) = 2 := by omega
  rcases c1 with e1 | e1 | e1 <;> rcases c2 with e2 | e2 | e2 <;> rcases ht2 with e3 | e3 <;> simp [e1, e2, e3, gr, bN] <;> rfl
