/-! PURE FACTS, 24: the class takes a part -/
variable {k : Nat} {R : Nat → Nat} {σ : St}
theorem at_h {t j : Nat} {τ : St} (h : j < ln t) (hl : ln t < 2 ^ 20) : f_X10_at t (nI j) τ = some (τ t j) := by
  unfold f_X10_at f_X10_at_0
  rw [if_neg (nI_nlt0 (by omega)), if_neg (by show ¬ nI (ln t) ≤ _; exact nI_ge h (by omega)), chk_t (inb_nI h (by omega)), nI_clamp (by omega)]
theorem put_h {t j : Nat} {τ : St} {v : Int32} (h : j < ln t) (hl : ln t < 2 ^ 20) : f_X10_put t (nI j) v τ = some (up τ t j v) := by
  unfold f_X10_put f_X10_put_0
  rw [if_neg (nI_nlt0 (by omega)), if_neg (by show ¬ nI (ln t) ≤ _; exact nI_ge h (by omega)), chk_t (inb_nI h (by omega)), nI_clamp (by omega)]
theorem remove_eq {τ : St} {p n : Nat} (L : SL k) (hw : τ (k + 5) 0 = nI 5) (hs : τ (k + 5) 2 = nI n) (hn : n ≤ 20) (hp : p < n) : f_X9_remove (k + 5) (nI p) τ = some (up (upA τ (k + 5 + 1) (blk (p * 5) ((n - 1 - p) * 5) (fun j => τ (k + 5 + 1) (p * 5 + j + 5)) (τ (k + 5 + 1)))) (k + 5) 2 (nI (n - 1))) := by
  unfold f_X9_remove f_X9_remove_0
  rw [has_in hs (by omega) hp, bind_s, if_neg (by decide), hw]
  have h := lp_ex (f := f_X9_remove_l16 (k + 5)) (fun i => (nI (p * 5 + i), upA τ (k + 5 + 1) (blk (p * 5) i (fun j => τ (k + 5 + 1) (p * 5 + j + 5)) (τ (k + 5 + 1))))) (upA τ (k + 5 + 1) (blk (p * 5) ((n - 1 - p) * 5) (fun j => τ (k + 5 + 1) (p * 5 + j + 5)) (τ (k + 5 + 1)))) ((n - 1 - p) * 5) (by omega) (fun i hi => by
    have e1 : ∀ f, (upA τ (k + 5 + 1) f) (k + 5) = τ (k + 5) := fun f => upA_ne _ _ (by omega)
    have e2 := at_h (t := k + 5 + 1) (j := p * 5 + i + 5) (τ := upA τ (k + 5 + 1) (blk (p * 5) i (fun j => τ (k + 5 + 1) (p * 5 + j + 5)) (τ (k + 5 + 1)))) (by rw [L.2.2]; omega) (by rw [L.2.2]; decide)
    rw [upA_same, blk_out (by omega)] at e2
    have e3 : ∀ v, f_X10_put (k + 5 + 1) (nI (p * 5 + i)) v (upA τ (k + 5 + 1) (blk (p * 5) i (fun j => τ (k + 5 + 1) (p * 5 + j + 5)) (τ (k + 5 + 1)))) = _ := fun v => put_h (by rw [L.2.2]; omega) (by rw [L.2.2]; decide)
    have e4 : upd (blk (p * 5) i (fun j => τ (k + 5 + 1) (p * 5 + j + 5)) (τ (k + 5 + 1))) (p * 5 + i) (τ (k + 5 + 1) (p * 5 + i + 5)) = blk (p * 5) (i + 1) (fun j => τ (k + 5 + 1) (p * 5 + j + 5)) (τ (k + 5 + 1)) := blk_s (p * 5) i (fun j => τ (k + 5 + 1) (p * 5 + j + 5)) (τ (k + 5 + 1))
    unfold f_X9_remove_l16
    dsimp only
    simp (disch := omega) only [bind_s, sum_l, sum_r, chkin, lit, nI_add, pk_mul, nI_clamp, nI_leI, nI_ltI, nI_eqI, nI_or, and1, shl1, shrx, nI_subx, pk_divx, pk_remx, nmod, nzx, if_tt, if_ff, bz_n1, bz_n0, nm1, nm2, wI_p, wI_inj, wI_n, nI_w, wI_ltI, wI_leI, nI_ltw, nI_lew, reduceIte, e1, hw, hs, e2, e3, upA_w, e4]
    rfl) (by
    have e1 : ∀ f, (upA τ (k + 5 + 1) f) (k + 5) = τ (k + 5) := fun f => upA_ne _ _ (by omega)
    unfold f_X9_remove_l16
    dsimp only
    simp (disch := omega) only [bind_s, sum_l, sum_r, chkin, lit, nI_add, pk_mul, nI_clamp, nI_leI, nI_ltI, nI_eqI, nI_or, and1, shl1, shrx, nI_subx, pk_divx, pk_remx, nmod, nzx, if_tt, if_ff, bz_n1, bz_n0, nm1, nm2, wI_p, wI_inj, wI_n, nI_w, wI_ltI, wI_leI, nI_ltw, nI_lew, reduceIte, e1, hw, hs])
  simp only [Nat.add_zero, blk_0, upA_id] at h
  simp (disch := omega) only [bind_s, sum_l, sum_r, chkin, lit, nI_add, pk_mul, nI_clamp, nI_leI, nI_ltI, nI_eqI, nI_or, and1, shl1, shrx, nI_subx, pk_divx, pk_remx, nmod, nzx, if_tt, if_ff, bz_n1, bz_n0, nm1, nm2, wI_p, wI_inj, wI_n, nI_w, wI_ltI, wI_leI, nI_ltw, nI_lew, reduceIte, h]
  rw [upA_ne _ _ (by omega), hs, nI_subx (by omega)]
set_option maxHeartbeats 4000000 in
theorem removePart_eq (T : ShR k R σ) (G : Good R) {p : Nat} (hp : p < R 2) : ∃ τ, f_X8_removePart k (nI p) σ = some τ ∧ ShR k (rTake R p) τ ∧ ∀ a, a < k + 1 ∨ k + 6 < a → τ a = σ a := by
  have hP := GP G hp
  have hh := (G.2.2.2.2.2.1 p hp).1
  have hH := GH G hh
  have g0 := G.1
  have g1 := G.2.1
  have g2 := G.2.2.1
  have T' := T
  obtain ⟨L, W, S, H, P⟩ := T
  obtain ⟨w1, w2, w3, w4, w5, w6⟩ := W
  generalize hst : min 99 (R (653 + R (661 + p)) + 1) = st
  have hst99 : st ≤ 99 := by omega
  generalize hσ1 : up σ (k + 3 + 1) (R (661 + p) * 9 + 4) (nI st) = σ1
  have rm := remove_eq (τ := σ1) L (by rw [← hσ1, up_k _ _ _ (by omega)]; exact w5) (by rw [← hσ1, up_k _ _ _ (by omega)]; exact w6) g2 hp
  have e51 : σ1 (k + 5 + 1) = σ (k + 5 + 1) := by rw [← hσ1, up_k _ _ _ (by omega)]
  rw [e51] at rm
  generalize hpa : blk (p * 5) ((R 2 - 1 - p) * 5) (fun j => σ (k + 5 + 1) (p * 5 + j + 5)) (σ (k + 5 + 1)) = pa at rm
  generalize hσ2 : up (upA σ1 (k + 5 + 1) pa) (k + 5) 2 (nI (R 2 - 1)) = σ2 at rm
  have d : ∀ a, a ≠ k + 3 + 1 → a ≠ k + 5 → a ≠ k + 5 + 1 → σ2 a = σ a := fun a q1 q2 q3 => by rw [← hσ2, up_k _ _ _ q2, upA_ne _ _ q3, ← hσ1, up_k _ _ _ q1]
  obtain ⟨n1, n2, n3, n4, n5⟩ := rTake_n G hp
  have hsz : ∀ f, (upA σ2 (k + 1 + 1) f) (k + 1) = σ (k + 1) := fun f => by rw [upA_ne _ _ (by omega), d _ (by omega) (by omega) (by omega)]
  have loop := lp_fu (f := f_X8_removePart_l45 k (nI p)) (fun i z => ∃ f, z = (nI i, upA σ2 (k + 1 + 1) f) ∧ (∀ s, s < R 0 → f (s * 103 + 0) = σ (k + 1 + 1) (s * 103 + 0) ∧ f (s * 103 + 1) = σ (k + 1 + 1) (s * 103 + 1) ∧ f (s * 103 + 2) = σ (k + 1 + 1) (s * 103 + 2) ∧ ∀ c, c < sc R s * sr R s → f (s * 103 + (3 + c)) = wI (if s < i then on (rTake R p) s c else on R s c))) (fun τ => ∃ f, τ = upA σ2 (k + 1 + 1) f ∧ (∀ s, s < R 0 → f (s * 103 + 0) = σ (k + 1 + 1) (s * 103 + 0) ∧ f (s * 103 + 1) = σ (k + 1 + 1) (s * 103 + 1) ∧ f (s * 103 + 2) = σ (k + 1 + 1) (s * 103 + 2) ∧ ∀ c, c < sc R s * sr R s → f (s * 103 + (3 + c)) = wI (on (rTake R p) s c))) (R 0) (by omega) (nI 0, σ2) ⟨σ (k + 1 + 1), by rw [← d _ (by omega) (by omega) (by omega), upA_id], fun s hs => ⟨rfl, rfl, rfl, fun c hc => (S s hs).2.2.2 c hc⟩⟩ (by
    rintro i z hi ⟨f, rfl, hf⟩
    left
    have hS := GS G hi
    have inner := lp_fu (f := f_X8_removePart_l59 k (nI p) (nI i)) (fun j z => ∃ f, z = (nI j, upA σ2 (k + 1 + 1) f) ∧ (∀ s, s < R 0 → f (s * 103 + 0) = σ (k + 1 + 1) (s * 103 + 0) ∧ f (s * 103 + 1) = σ (k + 1 + 1) (s * 103 + 1) ∧ f (s * 103 + 2) = σ (k + 1 + 1) (s * 103 + 2) ∧ ∀ c, c < sc R s * sr R s → f (s * 103 + (3 + c)) = wI (if s < i ∨ (s = i ∧ c < j) then on (rTake R p) s c else on R s c))) (fun τ => ∃ f, τ = upA σ2 (k + 1 + 1) f ∧ (∀ s, s < R 0 → f (s * 103 + 0) = σ (k + 1 + 1) (s * 103 + 0) ∧ f (s * 103 + 1) = σ (k + 1 + 1) (s * 103 + 1) ∧ f (s * 103 + 2) = σ (k + 1 + 1) (s * 103 + 2) ∧ ∀ c, c < sc R s * sr R s → f (s * 103 + (3 + c)) = wI (if s < i + 1 then on (rTake R p) s c else on R s c))) (sc R i * sr R i) (by omega) (nI 0, upA σ2 (k + 1 + 1) f) ⟨f, rfl, fun s hs => ⟨(hf s hs).1, (hf s hs).2.1, (hf s hs).2.2.1, fun c hc => by
        rw [(hf s hs).2.2.2 c hc]
        congr 1
        by_cases e : s < i
        · rw [if_pos e, if_pos (Or.inl e)]
        · rw [if_neg e, if_neg (by omega)]⟩⟩ (by
      rintro j z hj ⟨f, rfl, hf⟩
      left
      obtain ⟨f0, f1, f2, f3⟩ := hf i hi
      have v := f3 j hj
      rw [if_neg (by omega)] at v
      have hon := on_lt G hi hj
      have ht := rTake_on G hp hi hj
      have c1 := cells_h (τ := upA σ2 (k + 1 + 1) f) (s := i) L (by rw [hsz, w1]) (by omega) (by rw [upA_same, f0]; exact (S i hi).1) (by rw [upA_same, f1]; exact (S i hi).2.1)
      have c2 : f_X8_onCell k (nI i) (nI j) (upA σ2 (k + 1 + 1) f) = some (wI (on R i j)) := onCell_h (τ := upA σ2 (k + 1 + 1) f) (s := i) (c := j) L (by rw [hsz, w1]) (by omega) (by rw [upA_same]; exact v)
      have c3 : ∀ v, f_X8_setCell k (nI i) (nI j) v (upA σ2 (k + 1 + 1) f) = _ := fun v => setCell_h L (by rw [hsz, w1]) (by omega)
      have key : ∀ f', (∀ q, q ≠ i * 103 + (3 + j) → f' q = f q) → f' (i * 103 + (3 + j)) = wI (on (rTake R p) i j) → ∃ f, (nI (j + 1), upA σ2 (k + 1 + 1) f') = (nI (j + 1), upA σ2 (k + 1 + 1) f) ∧ (∀ s, s < R 0 → f (s * 103 + 0) = σ (k + 1 + 1) (s * 103 + 0) ∧ f (s * 103 + 1) = σ (k + 1 + 1) (s * 103 + 1) ∧ f (s * 103 + 2) = σ (k + 1 + 1) (s * 103 + 2) ∧ ∀ c, c < sc R s * sr R s → f (s * 103 + (3 + c)) = wI (if s < i ∨ (s = i ∧ c < j + 1) then on (rTake R p) s c else on R s c)) := by
        intro f' q1 q2
        refine ⟨f', rfl, fun s hs => ?_⟩
        obtain ⟨y0, y1, y2, y3⟩ := hf s hs
        have hS' := GS G hs
        rw [q1 _ (by omega), q1 _ (by omega), q1 _ (by omega)]
        refine ⟨y0, y1, y2, fun c hc => ?_⟩
        by_cases e : s = i ∧ c = j
        · obtain ⟨e1, e2⟩ := e
          subst e1 e2
          rw [q2, if_pos (by omega)]
        · rw [q1 _ (by omega), y3 c hc]
          congr 1
          by_cases e3 : s < i ∨ (s = i ∧ c < j)
          · rw [if_pos e3, if_pos (by omega)]
          · rw [if_neg e3, if_neg (by omega)]
      unfold f_X8_removePart_l59 f_X8_removePart_j112
      dsimp only
      by_cases e : on R i j = p + 2
      · refine ⟨(nI (j + 1), upA σ2 (k + 1 + 1) (upd f (i * 103 + (3 + j)) (wI 1))), ?_, key _ (fun q hq => pk_un hq) ?_⟩
        · simp (disch := omega) only [bind_s, sum_l, sum_r, chkin, lit, nI_add, pk_mul, nI_clamp, nI_leI, nI_ltI, nI_eqI, nI_or, and1, shl1, shrx, nI_subx, pk_divx, pk_remx, nmod, nzx, if_tt, if_ff, bz_n1, bz_n0, nm1, nm2, wI_p, wI_inj, wI_n, nI_w, wI_ltI, wI_leI, nI_ltw, nI_lew, reduceIte, c1, c2, c3, e, upA_w]
        · rw [pk_us, ht, if_pos e]
      · by_cases e2 : on R i j > p + 2
        · refine ⟨(nI (j + 1), upA σ2 (k + 1 + 1) (upd f (i * 103 + (3 + j)) (wI (on R i j - 1)))), ?_, key _ (fun q hq => pk_un hq) ?_⟩
          · have e4 : wI (on R i j) - nI 1 = wI (on R i j - 1) := by
              obtain ⟨v, hv⟩ : ∃ v, on R i j = v + 3 := ⟨on R i j - 3, by omega⟩
              rw [hv, show v + 3 - 1 = v + 2 by omega, show v + 3 = (v + 1) + 2 by omega, wI_p, wI_p]
              exact nI_pred v
            simp (disch := omega) only [bind_s, sum_l, sum_r, chkin, lit, nI_add, pk_mul, nI_clamp, nI_leI, nI_ltI, nI_eqI, nI_or, and1, shl1, shrx, nI_subx, pk_divx, pk_remx, nmod, nzx, if_tt, if_ff, bz_n1, bz_n0, nm1, nm2, wI_p, wI_inj, wI_n, nI_w, wI_ltI, wI_leI, nI_ltw, nI_lew, reduceIte, c1, c2, c3, e4, upA_w]
          · rw [pk_us, ht, if_neg e, if_pos e2]
        · refine ⟨(nI (j + 1), upA σ2 (k + 1 + 1) f), ?_, key _ (fun q hq => rfl) ?_⟩
          · simp (disch := omega) only [bind_s, sum_l, sum_r, chkin, lit, nI_add, pk_mul, nI_clamp, nI_leI, nI_ltI, nI_eqI, nI_or, and1, shl1, shrx, nI_subx, pk_divx, pk_remx, nmod, nzx, if_tt, if_ff, bz_n1, bz_n0, nm1, nm2, wI_p, wI_inj, wI_n, nI_w, wI_ltI, wI_leI, nI_ltw, nI_lew, reduceIte, c1, c2]
          · rw [v, ht, if_neg e, if_neg e2]) (by
      rintro z ⟨f, rfl, hf⟩
      obtain ⟨f0, f1, f2, f3⟩ := hf i hi
      have c1 := cells_h (τ := upA σ2 (k + 1 + 1) f) (s := i) L (by rw [hsz, w1]) (by omega) (by rw [upA_same, f0]; exact (S i hi).1) (by rw [upA_same, f1]; exact (S i hi).2.1)
      refine ⟨_, ?_, f, rfl, fun s hs => ⟨(hf s hs).1, (hf s hs).2.1, (hf s hs).2.2.1, fun c hc => ?_⟩⟩
      · unfold f_X8_removePart_l59
        dsimp only
        simp (disch := omega) only [bind_s, sum_l, sum_r, chkin, lit, nI_add, pk_mul, nI_clamp, nI_leI, nI_ltI, nI_eqI, nI_or, and1, shl1, shrx, nI_subx, pk_divx, pk_remx, nmod, nzx, if_tt, if_ff, bz_n1, bz_n0, nm1, nm2, wI_p, wI_inj, wI_n, nI_w, wI_ltI, wI_leI, nI_ltw, nI_lew, reduceIte, c1]
      · rw [(hf s hs).2.2.2 c hc]
        congr 1
        by_cases e : s < i
        · rw [if_pos (Or.inl e), if_pos (by omega)]
        · by_cases e2 : s = i
          · subst e2
            rw [if_pos (by omega), if_pos (by omega)]
          · rw [if_neg (by omega), if_neg (by omega)])
    obtain ⟨r, q1, f', rfl, q2⟩ := inner
    refine ⟨(nI (i + 1), upA σ2 (k + 1 + 1) f'), ?_, f', rfl, q2⟩
    unfold f_X8_removePart_l45
    dsimp only
    rw [size_eq, hsz, w2]
    simp (disch := omega) only [bind_s, sum_l, sum_r, chkin, lit, nI_add, pk_mul, nI_clamp, nI_leI, nI_ltI, nI_eqI, nI_or, and1, shl1, shrx, nI_subx, pk_divx, pk_remx, nmod, nzx, if_tt, if_ff, bz_n1, bz_n0, nm1, nm2, wI_p, wI_inj, wI_n, nI_w, wI_ltI, wI_leI, nI_ltw, nI_lew, reduceIte, q1]) (by
    rintro z ⟨f, rfl, hf⟩
    refine ⟨_, ?_, f, rfl, fun s hs => ⟨(hf s hs).1, (hf s hs).2.1, (hf s hs).2.2.1, fun c hc => ?_⟩⟩
    · unfold f_X8_removePart_l45
      dsimp only
      rw [size_eq, hsz, w2]
      simp (disch := omega) only [bind_s, sum_l, sum_r, chkin, lit, nI_add, pk_mul, nI_clamp, nI_leI, nI_ltI, nI_eqI, nI_or, and1, shl1, shrx, nI_subx, pk_divx, pk_remx, nmod, nzx, if_tt, if_ff, bz_n1, bz_n0, nm1, nm2, wI_p, wI_inj, wI_n, nI_w, wI_ltI, wI_leI, nI_ltw, nI_lew, reduceIte]
    · rw [(hf s hs).2.2.2 c hc, if_pos hs])
  obtain ⟨τ, q1, f, rfl, q2⟩ := loop
  refine ⟨upA σ2 (k + 1 + 1) f, ?_, ?_, fun a ha => ?_⟩
  · have s1 : (if nI (R (653 + R (661 + p)) + 1) < nI 99 then nI (R (653 + R (661 + p)) + 1) else nI 99) = nI st := by
      by_cases e : R (653 + R (661 + p)) + 1 < 99
      · rw [if_pos (nI_lt e (by omega)), ← hst, show min 99 (R (653 + R (661 + p)) + 1) = R (653 + R (661 + p)) + 1 by omega]
      · rw [if_neg (nI_nlt (by omega) (by omega)), ← hst, show min 99 (R (653 + R (661 + p)) + 1) = 99 by omega]
    have p1 := pg_eq T' (s := p) (f := 0) (by omega)
    rw [(P p hp).1] at p1
    have p2 := hg_eq T' (s := R (661 + p)) (f := 4) (by omega)
    rw [(H _ hh).2.2.2.2.1] at p2
    have p3 : ∀ v, f_X9_set (k + 3) (nI (R (661 + p))) (nI 4) v σ = _ := fun v => hset_eq L w3 (by omega)
    have p4 : nI (R (653 + R (661 + p))) + nI 1 = nI (R (653 + R (661 + p)) + 1) := nI_1 _
    unfold f_X8_removePart f_X8_removePart_0
    simp only [lit, p1, bind_s, p2, p4, s1, p3, hσ1, rm]
    simp only [q1, bind_s]
  · have base : ShR k (rTake R p) (upA σ2 (k + 1 + 1) f) := by
      have k3 : σ2 (k + 3 + 1) = upd (σ (k + 3 + 1)) (R (661 + p) * 9 + 4) (nI st) := by rw [← hσ2, up_k _ _ _ (by omega), upA_ne _ _ (by omega), ← hσ1]; exact upA_same ..
      have k5 : σ2 (k + 5) = upd (σ (k + 5)) 2 (nI (R 2 - 1)) := by
        rw [← hσ2]
        unfold up
        rw [upA_same, upA_ne _ _ (by omega), ← hσ1, up_k _ _ _ (by omega)]
      have k51 : σ2 (k + 5 + 1) = pa := by rw [← hσ2, up_k _ _ _ (by omega), upA_same]
      refine ⟨L, ⟨?_, ?_, ?_, ?_, ?_, ?_⟩, fun s hs => ?_, fun h hh1 => ?_, fun q hq => ?_⟩
      · rw [hsz, w1]
      · rw [hsz, w2, n3 0 (by omega) (by omega) (by omega)]
      · rw [upA_ne _ _ (by omega), d _ (by omega) (by omega) (by omega), w3]
      · rw [upA_ne _ _ (by omega), d _ (by omega) (by omega) (by omega), w4, n3 1 (by omega) (by omega) (by omega)]
      · rw [upA_ne _ _ (by omega), k5, pk_un (by decide), w5]
      · rw [upA_ne _ _ (by omega), k5, pk_us, n1]
      · have hs0 : s < R 0 := by
          have := n3 0 (by omega) (by omega) (by omega)
          omega
        obtain ⟨f0, f1, f2, f3⟩ := q2 s hs0
        have Ss := S s hs0
        have e1 : sc (rTake R p) s = sc R s := n3 _ (by omega) (by omega) (by omega)
        have e2 : sr (rTake R p) s = sr R s := n3 _ (by omega) (by omega) (by omega)
        unfold ShS at *
        rw [upA_same, e1, e2, n3 _ (by omega) (by omega) (by omega), f0, f1, f2]
        exact ⟨Ss.1, Ss.2.1, Ss.2.2.1, f3⟩
      · have hh0 : h < R 1 := by
          have := n3 1 (by omega) (by omega) (by omega)
          omega
        have Hh := H h hh0
        unfold ShH at *
        rw [upA_ne _ _ (by omega), k3]
        rw [pk_un (by omega), pk_un (by omega), pk_un (by omega), pk_un (by omega), n3 _ (by omega) (by omega) (by omega), n3 _ (by omega) (by omega) (by omega), n3 _ (by omega) (by omega) (by omega), n3 _ (by omega) (by omega) (by omega)]
        refine ⟨Hh.1, Hh.2.1, Hh.2.2.1, Hh.2.2.2.1, ?_, fun t' ht' => ?_⟩
        · by_cases e : h = R (661 + p)
          · subst e
            rw [pk_us, n2, hst]
          · rw [pk_un (by omega), n3 _ (by omega) (by omega) (by omega)]
            exact Hh.2.2.2.2.1
        · rw [pk_un (by omega), (tm_c (R := R) (n3 _ (by omega) (by omega) (by omega)) (n3 _ (by omega) (by omega) (by omega)) (n3 _ (by omega) (by omega) (by omega)) t').2.2]
          exact Hh.2.2.2.2.2 t' ht'
      · have hq' : q < R 2 - 1 := by omega
        obtain ⟨m1, m2, m3, m4, m5⟩ := n5 q hq'
        have hQ := tq_lt (p := p) hq'
        obtain ⟨x1, x2, x3, x4, x5⟩ := P _ hQ.1
        unfold ShP
        rw [upA_ne _ _ (by omega), k51, m1, m2, m3, m4, m5, ← hpa, ← x1, ← x2, ← x3, ← x4, ← x5]
        have key : ∀ b, b < 5 → blk (p * 5) ((R 2 - 1 - p) * 5) (fun j => σ (k + 5 + 1) (p * 5 + j + 5)) (σ (k + 5 + 1)) (q * 5 + b) = σ (k + 5 + 1) (tq p q * 5 + b) := fun b hb => by
          unfold tq
          by_cases e : q < p
          · rw [blk_out (by omega), if_pos e]
          · rw [blk_in (by omega) (by omega), if_neg e]
            congr 1
            omega
        exact ⟨key 0 (by omega), key 1 (by omega), key 2 (by omega), key 3 (by omega), key 4 (by omega)⟩
    exact base
  · rw [upA_ne _ _ (by omega), d _ (by omega) (by omega) (by omega)]
