/-! PURE FACTS, 62: shares, both sides -/
variable {k : Nat} {R : Nat → Nat} {σ τ : St}
theorem pcn_tm {h : Nat} (S : SM R h) (t : Nat) : pcn (tm R h t) = pcn (R (637 + h)) := by
  induction t with
  | zero => rfl
  | succ t ih =>
    have e : tm R h (t + 1) = qt (tc R h t) (tr R h t) (tm R h t) := rfl
    have b := SM_t S t
    rw [e, pcn_qt ⟨b.1, b.2.1⟩ ⟨b.2.2.1, b.2.2.2⟩ (tm_lt S t), ih]
def nS (R : Nat → Nat) (s : Nat) : Nat := sc R s * sr R s
theorem nS_le (G : Good R) {s : Nat} (hs : s < R 0) : nS R s ≤ 100 := (GS G hs).2.2.2.2.2.2.1
def cvS (R : Nat → Nat) (s : Nat) : Nat := cnt (fun c => decide (2 ≤ on R s c)) (nS R s)
def tlS (R : Nat → Nat) (s : Nat) : Nat := cnt (fun c => decide (us R s c = 1)) (nS R s)
theorem part_cells (G : Good R) {p : Nat} (hp : p < R 2) : su (fun s => su (fun c => bN (hit R p s c)) (nS R s)) (R 0) = pcn (R (637 + R (661 + p))) := by
  have P := GP G hp
  have hsh := (G.2.2.2.2.2.1 p hp).2.1
  have hh := (G.2.2.2.2.2.1 p hp).1
  have SMp := (GH G hh).2.1
  have hn := nS_le G hsh
  rw [su_1 hsh (fun s _ hne => su_0 (fun c _ => by
    have : hit R p s c = false := Bool.eq_false_iff.mpr (fun h => hne (hit_i.mp h).1.symm)
    rw [this]; rfl)), ← cnt_su, ← pcn_tm SMp (R (741 + p)), pcn_cnt]
  refine img (π := cl R p) (fun i _ h => (cl_xy G hp (of_decide_eq_true h)).2.2.2.2.1) (fun i j _ _ h1 h2 e => ?_) (fun c hc => ?_)
  · obtain ⟨a1, a2, a3, a4, _⟩ := cl_xy G hp (of_decide_eq_true h1)
    obtain ⟨b1, b2, b3, b4, _⟩ := cl_xy G hp (of_decide_eq_true h2)
    unfold cl at e
    have e1 := congrArg (· % sc R (R (681 + p))) e
    have e2 := congrArg (· / sc R (R (681 + p))) e
    rw [lin_mod a3, lin_mod b3] at e1
    rw [lin_div a3, lin_div b3] at e2
    rw [← Nat.div_add_mod i (pcw R p), ← Nat.div_add_mod j (pcw R p), Nat.add_left_cancel e1, Nat.add_left_cancel e2]
  · rw [hit_i]
    constructor
    · rintro ⟨_, i, h1, h2, h3⟩
      exact ⟨i, h1, decide_eq_true h2, h3⟩
    · rintro ⟨i, h1, h2, h3⟩
      exact ⟨rfl, i, h1, of_decide_eq_true h2, h3⟩
theorem on_hit (G : Good R) {s c : Nat} (hs : s < R 0) (hc : c < nS R s) : bN (decide (2 ≤ on R s c)) = su (fun p => bN (hit R p s c)) (R 2) := by
  rw [su_ex (fun p q hp hq a b => G.2.2.2.2.2.2.1 p q s c hp hq a b)]
  congr 1
  have h1 := on_cases G hs hc
  have h2 := ck_ge R s c
  by_cases q : ex (fun p => hit R p s c) (R 2) = true
  · rw [q]
    refine decide_eq_true ?_
    obtain ⟨p, p1, p2⟩ := ex_i.mp q
    have h3 : ck R s c ≠ 1 := fun h => by
      have := (ck_1 G).mp h p p1
      rw [this] at p2
      cases p2
    omega
  · rw [Bool.eq_false_iff.mpr q]
    refine decide_eq_false (fun h => ?_)
    have h3 : ck R s c = 1 := (ck_1 G).mpr (fun p hp => Bool.eq_false_iff.mpr (fun h => q (ex_i.mpr ⟨p, hp, h⟩)))
    omega
/-- the covered cells, by sheets and by parts -/
theorem cov_sum (G : Good R) : su (cvS R) (R 0) = su (fun p => pcn (R (637 + R (661 + p)))) (R 2) := by
  rw [su_e (g := cvS R) (h := fun s => su (fun p => su (fun c => bN (hit R p s c)) (nS R s)) (R 2)) (fun s hs => by
    unfold cvS
    rw [cnt_su, su_e (fun c hc => on_hit G hs hc), su_w]), su_w]
  exact su_e (fun p hp => part_cells G hp)
theorem tl_eq (G : Good R) {s : Nat} (hs : s < R 0) : nS R s = cnt (fun c => decide (on R s c = 0)) (nS R s) + tlS R s := by
  have hn := nS_le G hs
  have := cnt_p (P := fun _ => true) (Q := fun c => decide (on R s c = 0)) (T := fun c => decide (us R s c = 1)) (n := nS R s) (fun c hc => by
    have h1 := on_cases G hs hc
    have h2 := (GS G hs).2.2.2.2.2.2.2 c (by omega)
    by_cases e : on R s c = 0
    · have e2 : ¬ us R s c = 1 := by omega
      rw [decide_eq_true e, decide_eq_false e2]; rfl
    · have e2 : us R s c = 1 := by
        rcases h1 with h | h | h
        · omega
        · exact h.2.1
        · have h4 : ¬ ck R s c = 1 := by omega
          have h5 : ¬ ∀ p, p < R 2 → hit R p s c = false := fun q => h4 ((ck_1 G).mpr q)
          rcases Classical.em (us R s c = 1) with q | q
          · exact q
          · exact absurd (fun p hp => Bool.eq_false_iff.mpr (fun hh => q (hit_cell G hp hh).2.1)) h5
      rw [decide_eq_false e, decide_eq_true e2]; rfl)
  rw [cnt_t (fun _ _ => rfl)] at this
  exact this
theorem shareC_eq (T : ShR 1 R σ) (G : Good R) : lp (f_X10_usedShare_l6 σ) FU (nI 0, nI 0, nI 0) = some (nI (su (cvS R) (R 0)), nI (su (tlS R) (R 0))) := by
  have g0 := G.1
  obtain ⟨v, q1, q2⟩ := lp_fu (f := f_X10_usedShare_l6 σ) (fun s z => z = (nI (su (cvS R) s), nI (su (tlS R) s), nI s)) (fun v => v = (nI (su (cvS R) (R 0)), nI (su (tlS R) (R 0)))) (R 0) (by omega) (nI 0, nI 0, nI 0) rfl (by
    rintro s z hs rfl
    left
    have hS := GS G hs
    have e := tl_eq G hs
    have h1 : f_X8_coveredCells 1 (nI s) σ = some (nI (cvS R s)) := covered_eq T G hs
    have h2 : f_X8_cellsOf 1 (nI s) σ = some (nI (nS R s)) := cellsOf_eq T G hs
    have h3 : f_X8_cellsWith 1 (nI s) (-2) σ = some (nI (cnt (fun c => decide (on R s c = 0)) (nS R s))) := cellsWith_eq (d := 0) T G hs (by decide)
    have hsz : f_X9_size 2 σ = some (nI (R 0)) := by rw [size_eq]; exact congrArg some T.2.1.2.1
    refine ⟨_, ?_, rfl⟩
    unfold f_X10_usedShare_l6
    dsimp only
    rw [hsz, bind_s, if_neg (nI_ge hs (by omega)), h1, bind_s, h2, bind_s, h3, bind_s, nI_subx (by omega), show nS R s - cnt (fun c => decide (on R s c = 0)) (nS R s) = tlS R s by omega, nI_add, nI_add, nI_1]
    rfl) (by
    rintro z rfl
    refine ⟨_, ?_, rfl⟩
    have hsz : f_X9_size 2 σ = some (nI (R 0)) := by rw [size_eq]; exact congrArg some T.2.1.2.1
    unfold f_X10_usedShare_l6
    dsimp only
    rw [hsz, bind_s, if_pos (by exact Int32.le_refl _)])
  rw [q1, q2]
theorem shareR1 (hR : σ 102 = rwN R) (G : Good R) : lp (f_X11_usedShare_l6 (nI 0) σ) FU (nI 0, nI 0) = some (nI (su (tlS R) (R 0))) := by
  have g0 := G.1
  obtain ⟨v, q1, q2⟩ := lp_fu (f := f_X11_usedShare_l6 (nI 0) σ) (fun s z => z = (nI (su (tlS R) s), nI s)) (fun v => v = nI (su (tlS R) (R 0))) (R 0) (by omega) (nI 0, nI 0) rfl (by
    rintro s z hs rfl
    left
    have hS := GS G hs
    have hn := nS_le G hs
    have hb : su (tlS R) s ≤ s * 100 := su_le (fun i hi => Nat.le_trans (cnt_le _ _) (nS_le G (by omega)))
    obtain ⟨v, p1, p2⟩ := lp_fu (f := f_X11_usedShare_l19 (nI 0) (nI s) σ) (fun c z => z = (nI (su (tlS R) s + cnt (fun c => decide (us R s c = 1)) c), nI c)) (fun v => v = nI (su (tlS R) s + tlS R s)) (nS R s) (by omega) (nI (su (tlS R) s), nI 0) rfl (by
      rintro c z hc rfl
      left
      refine ⟨_, ?_, rfl⟩
      unfold f_X11_usedShare_l19 f_X11_usedShare_j45
      dsimp only
      rw [cellsR_eq hR hS.1, bind_s, if_neg (show ¬ nI (sc R s * sr R s) ≤ nI c from nI_ge hc (by omega)), usable_eq hR G hs (by omega), bind_s, cnt_s]
      by_cases e : us R s c = 1
      · rw [decide_eq_true e, if_neg (by decide), if_pos rfl, show (1 : Int32) = nI 1 from rfl, nI_add, nI_add]; rfl
      · rw [decide_eq_false e, if_pos (by rfl), if_neg (by decide), show (0 : Int32) = nI 0 from rfl, show (1 : Int32) = nI 1 from rfl, nI_add, nI_add]; rfl) (by
      rintro z rfl
      refine ⟨_, ?_, rfl⟩
      unfold f_X11_usedShare_l19
      dsimp only
      rw [cellsR_eq hR hS.1, bind_s, if_pos (by exact Int32.le_refl _)]
      rfl)
    refine ⟨(nI (su (tlS R) (s + 1)), nI (s + 1)), ?_, rfl⟩
    unfold f_X11_usedShare_l6
    dsimp only
    rw [p2] at p1
    simp (disch := omega) only [bind_s, sum_l, sum_r, chkin, lit, nI_add, pk_mul, nI_clamp, nI_leI, nI_ltI, nI_eqI, nI_or, and1, shl1, shrx, nI_subx, pk_divx, pk_remx, nmod, nzx, if_tt, if_ff, bz_n1, bz_n0, nm1, nm2, wI_p, wI_inj, wI_n, nI_w, wI_ltI, wI_leI, nI_ltw, nI_lew, reduceIte, hR, rwN_a, p1, su_s]) (by
    rintro z rfl
    refine ⟨_, ?_, rfl⟩
    unfold f_X11_usedShare_l6
    dsimp only
    simp (disch := omega) only [bind_s, sum_l, sum_r, chkin, lit, nI_add, pk_mul, nI_clamp, nI_leI, nI_ltI, nI_eqI, nI_or, and1, shl1, shrx, nI_subx, pk_divx, pk_remx, nmod, nzx, if_tt, if_ff, bz_n1, bz_n0, nm1, nm2, wI_p, wI_inj, wI_n, nI_w, wI_ltI, wI_leI, nI_ltw, nI_lew, reduceIte, hR, rwN_a])
  rw [q1, q2]
theorem shareR2 (hR : σ 102 = rwN R) (G : Good R) (x : Int32) : lp (f_X11_usedShare_l61 x σ) FU (nI 0, nI 0) = some (nI (su (fun p => pcn (R (637 + R (661 + p)))) (R 2))) := by
  have g2 := G.2.2.1
  obtain ⟨v, q1, q2⟩ := lp_fu (f := f_X11_usedShare_l61 x σ) (fun p z => z = (nI (su (fun p => pcn (R (637 + R (661 + p)))) p), nI p)) (fun v => v = nI (su (fun p => pcn (R (637 + R (661 + p)))) (R 2))) (R 2) (by omega) (nI 0, nI 0) rfl (by
    rintro p z hp rfl
    left
    have P := GP G hp
    have hb := bits_eq (GH G (G.2.2.2.2.2.1 p hp).1).2.2.1
    refine ⟨(nI (su (fun p => pcn (R (637 + R (661 + p)))) (p + 1)), nI (p + 1)), ?_, rfl⟩
    unfold f_X11_usedShare_l61
    dsimp only
    simp (disch := omega) only [bind_s, sum_l, sum_r, chkin, lit, nI_add, pk_mul, nI_clamp, nI_leI, nI_ltI, nI_eqI, nI_or, and1, shl1, shrx, nI_subx, pk_divx, pk_remx, nmod, nzx, if_tt, if_ff, bz_n1, bz_n0, nm1, nm2, wI_p, wI_inj, wI_n, nI_w, wI_ltI, wI_leI, nI_ltw, nI_lew, reduceIte, hR, rwN_a, hb, su_s]) (by
    rintro z rfl
    refine ⟨_, ?_, rfl⟩
    unfold f_X11_usedShare_l61
    dsimp only
    simp (disch := omega) only [bind_s, sum_l, sum_r, chkin, lit, nI_add, pk_mul, nI_clamp, nI_leI, nI_ltI, nI_eqI, nI_or, and1, shl1, shrx, nI_subx, pk_divx, pk_remx, nmod, nzx, if_tt, if_ff, bz_n1, bz_n0, nm1, nm2, wI_p, wI_inj, wI_n, nI_w, wI_ltI, wI_leI, nI_ltw, nI_lew, reduceIte, hR, rwN_a])
  rw [q1, q2]
