/-! PURE FACTS, 22: the class makes a shape and a part, and takes a part -/
variable {k : Nat} {R : Nat → Nat} {σ : St}
theorem createShape_eq (T : ShR k R σ) (G : Good R) (h1 : R 1 < 8) {c r m u st : Nat} (hc : 1 ≤ c ∧ c ≤ 4) (hr : 1 ≤ r ∧ r ≤ 4) (hm : m < 2 ^ (c * r)) : ∃ τ, f_X8_createShape k (nI c) (nI r) (nI m) (nI u) (nI st) σ = some (nI (R 1), τ) ∧ ShR k (rShape R c r m u st) τ ∧ ∀ a, a ≠ k + 3 → a ≠ k + 3 + 1 → τ a = σ a := by
  obtain ⟨L, W, S, H, P⟩ := T
  obtain ⟨w1, w2, w3, w4, w5, w6⟩ := W
  obtain ⟨n1, n2, n3, n4, n5, n6, n7, n8, n9⟩ := rShape_n (R := R) (c := c) (r := r) (m := m) (u := u) (st := st) h1
  have a1 := append_eq (lim := 8) w3 w4 L.2.1 (by decide) h1 (by decide)
  generalize hσ1 : up σ (k + 3) 2 (nI (R 1 + 1)) = σ1 at a1
  have b1 : σ1 (k + 3) 0 = nI 9 := by rw [← hσ1, up_j _ _ _ (by decide), w3]
  have b2 : σ1 (k + 3 + 1) = σ (k + 3 + 1) := by rw [← hσ1, up_k _ _ _ (by omega)]
  have c1 : ∀ f, (upA σ1 (k + 3 + 1) f) (k + 3) 0 = nI 9 := fun f => by rw [upA_ne _ _ (by omega), b1]
  have hSM : SM (rShape R c r m u st) (R 1) := by
    unfold SM
    rw [n2, n3, n4]
    exact ⟨hc.1, hc.2, hr.1, hr.2, hm⟩
  generalize hg : upd (upd (upd (upd (upd (σ (k + 3 + 1)) (R 1 * 9 + 0) (nI c)) (R 1 * 9 + 1) (nI r)) (R 1 * 9 + 2) (nI m)) (R 1 * 9 + 3) (nI u)) (R 1 * 9 + 4) (nI st) = gg
  have h2 := lp_ex (f := f_X8_createShape_l72 k (nI c) (nI r) (nI (R 1))) (fun t => (nI (tm (rShape R c r m u st) (R 1) t), nI t, upA σ1 (k + 3 + 1) (blk (R 1 * 9 + 5) t (fun t => nI (tm (rShape R c r m u st) (R 1) t)) gg))) (upA σ1 (k + 3 + 1) (blk (R 1 * 9 + 5) 4 (fun t => nI (tm (rShape R c r m u st) (R 1) t)) gg)) 4 (by decide) (fun t ht => by
    have hT := SM_t hSM t
    have h16 := tm_16 hSM t
    have es : upd (blk (R 1 * 9 + 5) t (fun t => nI (tm (rShape R c r m u st) (R 1) t)) gg) (R 1 * 9 + 5 + t) (nI (tm (rShape R c r m u st) (R 1) t)) = blk (R 1 * 9 + 5) (t + 1) (fun t => nI (tm (rShape R c r m u st) (R 1) t)) gg := blk_s (R 1 * 9 + 5) t (fun t => nI (tm (rShape R c r m u st) (R 1) t)) gg
    rw [Nat.add_assoc] at es
    have et : tm (rShape R c r m u st) (R 1) (t + 1) = qt (tc (rShape R c r m u st) (R 1) t) (tr (rShape R c r m u st) (R 1) t) (tm (rShape R c r m u st) (R 1) t) := rfl
    unfold f_X8_createShape_l72 f_X8_createShape_j105 f_X8_createShape_j117 f_X8_createShape_j127
    dsimp only
    rw [et]
    unfold tc tr at *
    rw [n2, n3] at *
    simp (disch := omega) only [bind_s, sum_l, sum_r, chkin, lit, nI_add, pk_mul, nI_clamp, nI_leI, nI_ltI, nI_eqI, nI_or, and1, shl1, shrx, nI_subx, pk_divx, pk_remx, nmod, nzx, if_tt, if_ff, bz_n1, bz_n0, nm1, nm2, wI_p, wI_inj, wI_n, nI_w, wI_ltI, wI_leI, nI_ltw, nI_lew, reduceIte, hset_eq L (c1 _), upA_w, es]
    by_cases e : t % 2 = 0
    · simp only [e, if_true]
      simp (disch := omega) only [bind_s, sum_l, sum_r, chkin, lit, nI_add, pk_mul, nI_clamp, nI_leI, nI_ltI, nI_eqI, nI_or, and1, shl1, shrx, nI_subx, pk_divx, pk_remx, nmod, nzx, if_tt, if_ff, bz_n1, bz_n0, nm1, nm2, wI_p, wI_inj, wI_n, nI_w, wI_ltI, wI_leI, nI_ltw, nI_lew, reduceIte, qC_eq]
    · simp only [e, if_false]
      simp (disch := omega) only [bind_s, sum_l, sum_r, chkin, lit, nI_add, pk_mul, nI_clamp, nI_leI, nI_ltI, nI_eqI, nI_or, and1, shl1, shrx, nI_subx, pk_divx, pk_remx, nmod, nzx, if_tt, if_ff, bz_n1, bz_n0, nm1, nm2, wI_p, wI_inj, wI_n, nI_w, wI_ltI, wI_leI, nI_ltw, nI_lew, reduceIte, qC_eq]) (by
    unfold f_X8_createShape_l72
    dsimp only
    simp (disch := omega) only [bind_s, sum_l, sum_r, chkin, lit, nI_add, pk_mul, nI_clamp, nI_leI, nI_ltI, nI_eqI, nI_or, and1, shl1, shrx, nI_subx, pk_divx, pk_remx, nmod, nzx, if_tt, if_ff, bz_n1, bz_n0, nm1, nm2, wI_p, wI_inj, wI_n, nI_w, wI_ltI, wI_leI, nI_ltw, nI_lew, reduceIte])
  rw [blk_0] at h2
  have e0 : tm (rShape R c r m u st) (R 1) 0 = m := n4
  rw [e0] at h2
  generalize hf : blk (R 1 * 9 + 5) 4 (fun t => nI (tm (rShape R c r m u st) (R 1) t)) gg = f at h2
  have O := rShape_on (c := c) (r := r) (m := m) (u := u) (st := st) G h1
  have g0 := G.1
  have m0 := n7 0 (by omega) (by omega)
  have m2 := n7 2 (by omega) (by omega)
  refine ⟨upA σ1 (k + 3 + 1) f, ?_, ⟨L, ⟨?_, ?_, ?_, ?_, ?_, ?_⟩, fun s hs => ?_, fun h hh => ?_, fun p hp => ?_⟩, fun a h1 h3 => ?_⟩
  · unfold f_X8_createShape f_X8_createShape_0
    simp (disch := omega) only [bind_s, sum_l, sum_r, chkin, lit, nI_add, pk_mul, nI_clamp, nI_leI, nI_ltI, nI_eqI, nI_or, and1, shl1, shrx, nI_subx, pk_divx, pk_remx, nmod, nzx, if_tt, if_ff, bz_n1, bz_n0, nm1, nm2, wI_p, wI_inj, wI_n, nI_w, wI_ltI, wI_leI, nI_ltw, nI_lew, reduceIte, a1, hset_eq L b1, hset_eq L (c1 _), up_as σ1, upA_w, b2, hg, h2]
  · rw [upA_ne _ _ (by omega), ← hσ1, up_k _ _ _ (by omega), w1]
  · rw [upA_ne _ _ (by omega), ← hσ1, up_k _ _ _ (by omega), w2, m0]
  · exact c1 f
  · rw [upA_ne _ _ (by omega), ← hσ1, up_s, n1]
  · rw [upA_ne _ _ (by omega), ← hσ1, up_k _ _ _ (by omega), w5]
  · rw [upA_ne _ _ (by omega), ← hσ1, up_k _ _ _ (by omega), w6, m2]
  · have hs' : s < R 0 := by omega
    have hS := GS G hs'
    have := S s hs'
    have e1 : sc (rShape R c r m u st) s = sc R s := n7 _ (by omega) (by omega)
    have e2 : sr (rShape R c r m u st) s = sr R s := n7 _ (by omega) (by omega)
    unfold ShS at *
    rw [upA_ne _ _ (by omega), ← hσ1, up_k _ _ _ (by omega), e1, e2, n7 _ (by omega) (by omega)]
    exact ⟨this.1, this.2.1, this.2.2.1, fun j hj => by rw [O.2 s j hs' (by omega)]; exact this.2.2.2 j hj⟩
  · unfold ShH
    rw [upA_same, ← hf, ← hg]
    simp only [blk, upd]
    by_cases e : h = R 1
    · subst e
      rw [n2, n3, n4, n5, n6]
      refine ⟨?_, ?_, ?_, ?_, ?_, fun t ht => ?_⟩
      · rw [if_neg (by omega), if_neg (by omega), if_neg (by omega), if_neg (by omega), if_neg (by omega), if_pos rfl]
      · rw [if_neg (by omega), if_neg (by omega), if_neg (by omega), if_neg (by omega), if_pos rfl]
      · rw [if_neg (by omega), if_neg (by omega), if_neg (by omega), if_pos rfl]
      · rw [if_neg (by omega), if_neg (by omega), if_pos rfl]
      · rw [if_neg (by omega), if_pos rfl]
      · rw [if_pos (by omega), show R 1 * 9 + (5 + t) - (R 1 * 9 + 5) = t by omega]
    · have hh' : h < R 1 := by omega
      obtain ⟨q1, q2, q3, q4, q5⟩ := n9 h hh'
      have := H h hh'
      unfold ShH at this
      rw [q1, q2, q3, q4, q5]
      refine ⟨?_, ?_, ?_, ?_, ?_, fun t ht => ?_⟩
      · rw [if_neg (by omega), if_neg (by omega), if_neg (by omega), if_neg (by omega), if_neg (by omega), if_neg (by omega)]; exact this.1
      · rw [if_neg (by omega), if_neg (by omega), if_neg (by omega), if_neg (by omega), if_neg (by omega), if_neg (by omega)]; exact this.2.1
      · rw [if_neg (by omega), if_neg (by omega), if_neg (by omega), if_neg (by omega), if_neg (by omega), if_neg (by omega)]; exact this.2.2.1
      · rw [if_neg (by omega), if_neg (by omega), if_neg (by omega), if_neg (by omega), if_neg (by omega), if_neg (by omega)]; exact this.2.2.2.1
      · rw [if_neg (by omega), if_neg (by omega), if_neg (by omega), if_neg (by omega), if_neg (by omega), if_neg (by omega)]; exact this.2.2.2.2.1
      · rw [if_neg (by omega), if_neg (by omega), if_neg (by omega), if_neg (by omega), if_neg (by omega), if_neg (by omega), (tm_c (R := R) q1 q2 q3 t).2.2]; exact this.2.2.2.2.2 t ht
  · have := P p (by omega)
    unfold ShP at *
    rw [upA_ne _ _ (by omega), ← hσ1, up_k _ _ _ (by omega), n8 _ (by omega), n8 _ (by omega), n8 _ (by omega), n8 _ (by omega), n8 _ (by omega)]
    exact this
  · rw [upA_ne _ _ h3, ← hσ1, up_k _ _ _ h1]
