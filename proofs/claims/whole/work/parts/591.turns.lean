/-! PURE FACTS, 11: turns that differ; cuts -/
variable {k : Nat} {R : Nat → Nat} {σ : St}
def alk (R : Nat → Nat) (h t e : Nat) : Bool := decide (tc R h e = tc R h t) && decide (tm R h e = tm R h t)
theorem alk_r {h t e : Nat} (H : tc R h e = tc R h t) : tr R h e = tr R h t := by
  unfold tc tr at *
  by_cases a : e % 2 = 0 <;> by_cases b : t % 2 = 0 <;> simp only [a, b, if_true, if_false] at * <;> omega
theorem likeC_eq (T : ShR k R σ) (G : Good R) {h t : Nat} (hh : h < R 1) (ht : t < 4) : f_X8_isLikeAnEarlier k (nI h) (nI t) σ = some (nI (bN (ex (alk R h t) t))) := by
  have hH := (GH G hh).2.1
  unfold f_X8_isLikeAnEarlier f_X8_isLikeAnEarlier_0
  have := lp_fu (f := f_X8_isLikeAnEarlier_l2 k (nI h) (nI t) σ) (fun i z => z = nI i ∧ ex (alk R h t) i = false) (fun r => r = if ex (alk R h t) t = true then .inr () else .inl ()) t (by omega) (nI 0) ⟨rfl, rfl⟩ (by
    rintro i z hi ⟨rfl, hz⟩
    unfold f_X8_isLikeAnEarlier_l2 f_X8_isLikeAnEarlier_j39
    have a1 := SM_t hH i
    have a2 := SM_t hH t
    have a3 := tm_16 hH i
    have a4 := tm_16 hH t
    simp (disch := omega) only [bind_s, sum_l, sum_r, chkin, lit, nI_add, pk_mul, nI_clamp, nI_leI, nI_ltI, nI_eqI, nI_or, and1, shl1, shrx, nI_subx, pk_divx, pk_remx, nmod, nzx, if_tt, if_ff, bz_n1, bz_n0, nm1, nm2, wI_p, wI_inj, wI_n, nI_w, wI_ltI, wI_leI, nI_ltw, nI_lew, reduceIte, columnsAfter_eq T G hh, coveredAfter_eq T G hh]
    by_cases e1 : tc R h i = tc R h t
    · by_cases e2 : tm R h i = tm R h t
      · right
        refine ⟨.inr (), by simp [e1, e2], ?_⟩
        rw [if_pos]
        exact ex_i.mpr ⟨i, hi, by simp [alk, e1, e2]⟩
      · left
        refine ⟨_, by simp [e1, e2], rfl, ?_⟩
        rw [ex_f (by simp [alk, e2]), hz]
    · left
      refine ⟨_, by simp [e1], rfl, ?_⟩
      rw [ex_f (by simp [alk, e1]), hz]) (by
    rintro z ⟨rfl, hz⟩
    refine ⟨.inl (), ?_, by rw [hz]; rfl⟩
    unfold f_X8_isLikeAnEarlier_l2
    simp (disch := omega) only [bind_s, sum_l, sum_r, chkin, lit, nI_add, pk_mul, nI_clamp, nI_leI, nI_ltI, nI_eqI, nI_or, and1, shl1, shrx, nI_subx, pk_divx, pk_remx, nmod, nzx, if_tt, if_ff, bz_n1, bz_n0, nm1, nm2, wI_p, wI_inj, wI_n, nI_w, wI_ltI, wI_leI, nI_ltw, nI_lew, reduceIte])
  obtain ⟨r, h1, h2⟩ := this
  subst h2
  cases e : ex (alk R h t) t
  · rw [e] at h1
    simp (disch := omega) only [bind_s, sum_l, sum_r, chkin, lit, nI_add, pk_mul, nI_clamp, nI_leI, nI_ltI, nI_eqI, nI_or, and1, shl1, shrx, nI_subx, pk_divx, pk_remx, nmod, nzx, if_tt, if_ff, bz_n1, bz_n0, nm1, nm2, wI_p, wI_inj, wI_n, nI_w, wI_ltI, wI_leI, nI_ltw, nI_lew, reduceIte, h1, Bool.false_eq_true, if_false]
    rfl
  · rw [e] at h1
    simp (disch := omega) only [bind_s, sum_l, sum_r, chkin, lit, nI_add, pk_mul, nI_clamp, nI_leI, nI_ltI, nI_eqI, nI_or, and1, shl1, shrx, nI_subx, pk_divx, pk_remx, nmod, nzx, if_tt, if_ff, bz_n1, bz_n0, nm1, nm2, wI_p, wI_inj, wI_n, nI_w, wI_ltI, wI_leI, nI_ltw, nI_lew, reduceIte, h1, if_true]
    rfl
theorem diffC_eq (T : ShR k R σ) (G : Good R) {h : Nat} (hh : h < R 1) : f_X8_differentTurns k (nI h) σ = some (nI (cnt (fun t => !ex (alk R h t) t) 4)) := by
  unfold f_X8_differentTurns f_X8_differentTurns_0
  have := lp_cnt (f := f_X8_differentTurns_l4 k (nI h) σ) (fun t => !ex (alk R h t) t) 4 (by omega) (fun i a hi ha => by
    unfold f_X8_differentTurns_l4 f_X8_differentTurns_j21
    dsimp only
    simp (disch := omega) only [bind_s, sum_l, sum_r, chkin, lit, nI_add, pk_mul, nI_clamp, nI_leI, nI_ltI, nI_eqI, nI_or, and1, shl1, shrx, nI_subx, pk_divx, pk_remx, nmod, nzx, if_tt, if_ff, bz_n1, bz_n0, nm1, nm2, wI_p, wI_inj, wI_n, nI_w, wI_ltI, wI_leI, nI_ltw, nI_lew, reduceIte, likeC_eq T G hh, bN_e0]
    cases ex (alk R h i) i <;> simp) (fun a ha => by
    unfold f_X8_differentTurns_l4
    dsimp only
    simp (disch := omega) only [bind_s, sum_l, sum_r, chkin, lit, nI_add, pk_mul, nI_clamp, nI_leI, nI_ltI, nI_eqI, nI_or, and1, shl1, shrx, nI_subx, pk_divx, pk_remx, nmod, nzx, if_tt, if_ff, bz_n1, bz_n0, nm1, nm2, wI_p, wI_inj, wI_n, nI_w, wI_ltI, wI_leI, nI_ltw, nI_lew, reduceIte])
  simp (disch := omega) only [bind_s, sum_l, sum_r, chkin, lit, nI_add, pk_mul, nI_clamp, nI_leI, nI_ltI, nI_eqI, nI_or, and1, shl1, shrx, nI_subx, pk_divx, pk_remx, nmod, nzx, if_tt, if_ff, bz_n1, bz_n0, nm1, nm2, wI_p, wI_inj, wI_n, nI_w, wI_ltI, wI_leI, nI_ltw, nI_lew, reduceIte, this]
theorem alikeR_eq (hR : σ 102 = rwN R) (G : Good R) {h t e : Nat} (hh : h < R 1) (ht : t < 4) (he : e < 4) : f_X11_areAlike (nI h) (nI e) (nI t) σ = some (nI (bN (alk R h t e))) := by
  obtain ⟨h8, hH, _⟩ := GH G hh
  unfold f_X11_areAlike f_X11_areAlike_0
  have a1 := SM_t hH e
  have a2 := SM_t hH t
  have a3 := tm_16 hH e
  have a4 := tm_16 hH t
  simp (disch := omega) only [bind_s, sum_l, sum_r, chkin, lit, nI_add, pk_mul, nI_clamp, nI_leI, nI_ltI, nI_eqI, nI_or, and1, shl1, shrx, nI_subx, pk_divx, pk_remx, nmod, nzx, if_tt, if_ff, bz_n1, bz_n0, nm1, nm2, wI_p, wI_inj, wI_n, nI_w, wI_ltI, wI_leI, nI_ltw, nI_lew, reduceIte, tcR_eq hR, trR_eq hR, tmR_eq hR h8 hH]
  by_cases e1 : tc R h e = tc R h t
  · have e3 := alk_r e1
    by_cases e2 : tm R h e = tm R h t
    · simp [e1, e2, e3, alk]; rfl
    · simp [e1, e2, e3, alk]; rfl
  · simp [e1, alk]; rfl
theorem diffR_eq (hR : σ 102 = rwN R) (G : Good R) {h : Nat} (hh : h < R 1) : f_X11_differentTurns (nI h) σ = some (nI (cnt (fun t => !ex (alk R h t) t) 4)) := by
  unfold f_X11_differentTurns f_X11_differentTurns_0
  have := lp_cnt (f := f_X11_differentTurns_l4 (nI h) σ) (fun t => !ex (alk R h t) t) 4 (by omega) (fun i a hi ha => by
    unfold f_X11_differentTurns_l4 f_X11_differentTurns_j61
    dsimp only
    have h2 := lp_ex (f := f_X11_differentTurns_l15 (nI h) (nI a) (nI i) σ) (fun e => (nI (bN (!ex (alk R h i) e)), nI e)) (nI (bN (!ex (alk R h i) i))) i (by omega) (fun e he => by
      unfold f_X11_differentTurns_l15 f_X11_differentTurns_j41 f_X11_differentTurns_j42
      dsimp only
      simp (disch := omega) only [bind_s, sum_l, sum_r, chkin, lit, nI_add, pk_mul, nI_clamp, nI_leI, nI_ltI, nI_eqI, nI_or, and1, shl1, shrx, nI_subx, pk_divx, pk_remx, nmod, nzx, if_tt, if_ff, bz_n1, bz_n0, nm1, nm2, wI_p, wI_inj, wI_n, nI_w, wI_ltI, wI_leI, nI_ltw, nI_lew, reduceIte, bN_e0, alikeR_eq hR G hh]
      have hx : ex (alk R h i) (e + 1) = (ex (alk R h i) e || alk R h i e) := rfl
      rw [hx]
      cases ex (alk R h i) e <;> cases alk R h i e <;> simp [bN]) (by
      unfold f_X11_differentTurns_l15
      dsimp only
      simp (disch := omega) only [bind_s, sum_l, sum_r, chkin, lit, nI_add, pk_mul, nI_clamp, nI_leI, nI_ltI, nI_eqI, nI_or, and1, shl1, shrx, nI_subx, pk_divx, pk_remx, nmod, nzx, if_tt, if_ff, bz_n1, bz_n0, nm1, nm2, wI_p, wI_inj, wI_n, nI_w, wI_ltI, wI_leI, nI_ltw, nI_lew, reduceIte])
    have e0 : (nI (bN (!ex (alk R h i) 0)), nI 0) = (nI 1, nI 0) := rfl
    rw [e0] at h2
    simp (disch := omega) only [bind_s, sum_l, sum_r, chkin, lit, nI_add, pk_mul, nI_clamp, nI_leI, nI_ltI, nI_eqI, nI_or, and1, shl1, shrx, nI_subx, pk_divx, pk_remx, nmod, nzx, if_tt, if_ff, bz_n1, bz_n0, nm1, nm2, wI_p, wI_inj, wI_n, nI_w, wI_ltI, wI_leI, nI_ltw, nI_lew, reduceIte, h2, bN_e0]
    cases ex (alk R h i) i <;> simp) (fun a ha => by
    unfold f_X11_differentTurns_l4
    dsimp only
    simp (disch := omega) only [bind_s, sum_l, sum_r, chkin, lit, nI_add, pk_mul, nI_clamp, nI_leI, nI_ltI, nI_eqI, nI_or, and1, shl1, shrx, nI_subx, pk_divx, pk_remx, nmod, nzx, if_tt, if_ff, bz_n1, bz_n0, nm1, nm2, wI_p, wI_inj, wI_n, nI_w, wI_ltI, wI_leI, nI_ltw, nI_lew, reduceIte])
  simp (disch := omega) only [bind_s, sum_l, sum_r, chkin, lit, nI_add, pk_mul, nI_clamp, nI_leI, nI_ltI, nI_eqI, nI_or, and1, shl1, shrx, nI_subx, pk_divx, pk_remx, nmod, nzx, if_tt, if_ff, bz_n1, bz_n0, nm1, nm2, wI_p, wI_inj, wI_n, nI_w, wI_ltI, wI_leI, nI_ltw, nI_lew, reduceIte, this]
