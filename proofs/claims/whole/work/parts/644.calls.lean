/-! PURE FACTS, 51: the call part -/
variable {k n len nr nf : Nat} {R V tx : Nat → Nat} {H : Nat → Nat → Nat} {hv : Bool} {rk rp fk fp : Nat → Int32} {σ τ : St}
def szp (R : Nat → Nat) (p : Nat) : Nat := pcn (R (637 + R (661 + p)))
theorem szp_eq (T : ShR 1 R σ) (G : Good R) {p : Nat} (hp : p < R 2) : f_X8_sizeOfPart 1 (nI p) σ = some (nI (szp R p)) := by
  have hP := GP G hp
  have h1 := (G.2.2.2.2.2.1 p hp).1
  unfold f_X8_sizeOfPart f_X8_sizeOfPart_0
  simp (disch := omega) only [bind_s, sum_l, sum_r, chkin, lit, nI_add, pk_mul, nI_clamp, nI_leI, nI_ltI, nI_eqI, nI_or, and1, shl1, shrx, nI_subx, pk_divx, pk_remx, nmod, nzx, if_tt, if_ff, bz_n1, bz_n0, nm1, nm2, wI_p, wI_inj, wI_n, nI_w, wI_ltI, wI_leI, nI_ltw, nI_lew, reduceIte, pg_eq T, (T.2.2.2.2 p hp).1, sizeOf_eq T G h1]
  rfl
def SmS (R : Nat → Nat) (p l : Nat) : Nat → Nat → Prop
  | 0, b => b = 1
  | o + 1, b => ∃ b', SmS R p l o b' ∧ (((Wi R p o l ∧ (b' = 1 ∨ szp R o < szp R (b' - 2))) ∧ b = o + 2) ∨ (¬ (Wi R p o l ∧ (b' = 1 ∨ szp R o < szp R (b' - 2))) ∧ b = b'))
theorem SmS_u {p l i a b : Nat} (A : SmS R p l i a) (B : SmS R p l i b) : a = b := by
  induction i generalizing a b with
  | zero => exact (show a = 1 from A).trans (show b = 1 from B).symm
  | succ i ih =>
    obtain ⟨a', a1, a2⟩ := A
    obtain ⟨b', b1, b2⟩ := B
    have e := ih a1 b1
    subst e
    rcases a2 with ⟨x1, x2⟩ | ⟨x1, x2⟩ <;> rcases b2 with ⟨y1, y2⟩ | ⟨y1, y2⟩
    · rw [x2, y2]
    · exact absurd x1 y1
    · exact absurd y1 x1
    · rw [x2, y2]
theorem SmS_b {p l i a : Nat} (A : SmS R p l i a) : 1 ≤ a ∧ a < i + 2 := by
  induction i generalizing a with
  | zero => have : a = 1 := A; omega
  | succ i ih =>
    obtain ⟨a', a1, a2⟩ := A
    have := ih a1
    rcases a2 with ⟨x1, x2⟩ | ⟨x1, x2⟩ <;> omega
theorem inHole_eq {w h l : Nat} {f : Nat → Nat} (G : Rg w h f τ) (hn : w * h ≤ 100) (hl : l < w * h) (hf : f l < 1000) : f_X4_isInHole (nI l) τ = some (nI (bN (decide (f l = 1)))) := by
  unfold f_X4_isInHole f_X4_isInHole_0
  simp (disch := omega) only [bind_s, sum_l, sum_r, chkin, lit, nI_add, pk_mul, nI_clamp, nI_leI, nI_ltI, nI_eqI, nI_or, and1, shl1, shrx, nI_subx, pk_divx, pk_remx, nmod, nzx, if_tt, if_ff, bz_n1, bz_n0, nm1, nm2, wI_p, wI_inj, wI_n, nI_w, wI_ltI, wI_leI, nI_ltw, nI_lew, reduceIte, label_in G hn hl, bN_if, bz_N]
theorem Wi_hole (G : Good R) {p o l : Nat} (hp : p < R 2) (hl : IsLow R p l) (hsh : R (681 + o) = R (681 + p)) : (hf0 R (R (681 + p)) (o + 2) l = 1 ∧ ¬ Out (sc R (R (681 + p))) (sc R (R (681 + p)) * sr R (R (681 + p))) (hf0 R (R (681 + p)) (o + 2)) l) ↔ Wi R p o l := by
  have hc := hit_cell G hp ((ck_i G).mp hl.1).2
  have hon : on R (R (681 + p)) l = p + 2 := by
    have h1 := on_cases G hc.2.2 hc.1
    have h2 := hl.1
    omega
  unfold Wi
  constructor
  · rintro ⟨h1, h2⟩
    refine ⟨fun e => ?_, hsh, h2⟩
    subst e
    unfold hf0 at h1
    rw [if_pos hon] at h1
    cases h1
  · rintro ⟨h1, _, h3⟩
    refine ⟨?_, h3⟩
    unfold hf0
    rw [if_neg (by rw [hon]; omega)]
theorem aroundC_eq (T : ShR 1 R σ) (G : Good R) {p l : Nat} (hp : p < R 2) (hl : IsLow R p l) : ∃ b τ, f_X4_smallestAround 1 (nI p) σ = some (wI b, τ) ∧ SmS R p l (R 2) b ∧ Fq σ τ := by
  have hP := GP G hp
  have g2 := G.2.2.1
  have hs := (G.2.2.2.2.2.1 p hp).2.1
  have hS := GS G hs
  have hll := (hit_cell G hp ((ck_i G).mp hl.1).2).1
  have hT : ∀ τ, Fq σ τ → ShR 1 R τ := fun τ F => ShR_c (fun a _ _ => F a (by omega) (by omega) (by omega)) T
  obtain ⟨r, q1, b, τ, rfl, q2, q3⟩ := lp_fu (f := f_X4_smallestAround_l23 1 (nI (R (681 + p))) (nI l)) (fun o z => ∃ b τ, z = (wI b, nI o, τ) ∧ SmS R p l o b ∧ Fq σ τ) (fun r => ∃ b τ, r = (wI b, τ) ∧ SmS R p l (R 2) b ∧ Fq σ τ) (R 2) (by omega) (wI 1, nI 0, σ) ⟨1, σ, rfl, rfl, Fq_r σ⟩ (by
    rintro o z ho ⟨b, τ, rfl, S, F⟩
    left
    have T1 := hT τ F
    have hO := GP G ho
    have hb := SmS_b S
    have hsz : f_X9_size (1 + 5) τ = some (nI (R 2)) := by rw [size_eq]; exact congrArg some T1.2.1.2.2.2.2.2
    by_cases esh : R (681 + o) = R (681 + p)
    · obtain ⟨f, τ2, h1, h2, h3, h4, h5⟩ := holesC_eq T1 G hs (p := o) (by omega)
      have T2 := hT τ2 (Fq_t F h3)
      have hin := inHole_eq h2 hS.2.2.2.2.2.2.1 hll (h4 l hll)
      have hw := (h5 l hll).trans (Wi_hole G hp hl esh)
      by_cases e1 : f l = 1
      · have w1 := hw.mp e1
        by_cases e2 : b = 1
        · refine ⟨(wI (o + 2), nI (o + 1), τ2), ?_, o + 2, τ2, rfl, ⟨b, S, Or.inl ⟨⟨w1, Or.inl e2⟩, rfl⟩⟩, Fq_t F h3⟩
          unfold f_X4_smallestAround_l23 f_X4_smallestAround_j86 f_X4_smallestAround_j90
          dsimp only
          simp (disch := omega) only [bind_s, sum_l, sum_r, chkin, lit, nI_add, pk_mul, nI_clamp, nI_leI, nI_ltI, nI_eqI, nI_or, and1, shl1, shrx, nI_subx, pk_divx, pk_remx, nmod, nzx, if_tt, if_ff, bz_n1, bz_n0, nm1, nm2, wI_p, wI_inj, wI_n, nI_w, wI_ltI, wI_leI, nI_ltw, nI_lew, reduceIte, hsz, pg_eq T1, (T1.2.2.2.2 o ho).2.1, esh, h1, hin, e1, decide_true, bN_e0, reduceCtorEq, e2]
        · obtain ⟨v, hv⟩ : ∃ v, b = v + 2 := ⟨b - 2, by omega⟩
          subst hv
          have z1 := szp_eq T2 G ho
          have z2 := szp_eq T2 G (show v < R 2 by omega)
          have p1 := pcn_16 (R (637 + R (661 + o)))
          have p2 := pcn_16 (R (637 + R (661 + v)))
          change szp R o ≤ 16 at p1
          change szp R v ≤ 16 at p2
          by_cases e3 : szp R o < szp R v
          · refine ⟨(wI (o + 2), nI (o + 1), τ2), ?_, o + 2, τ2, rfl, ⟨v + 2, S, Or.inl ⟨⟨w1, Or.inr (by rw [Nat.add_sub_cancel]; exact e3)⟩, rfl⟩⟩, Fq_t F h3⟩
            unfold f_X4_smallestAround_l23 f_X4_smallestAround_j86 f_X4_smallestAround_j90
            dsimp only
            simp (disch := omega) only [bind_s, sum_l, sum_r, chkin, lit, nI_add, pk_mul, nI_clamp, nI_leI, nI_ltI, nI_eqI, nI_or, and1, shl1, shrx, nI_subx, pk_divx, pk_remx, nmod, nzx, if_tt, if_ff, bz_n1, bz_n0, nm1, nm2, wI_p, wI_inj, wI_n, nI_w, wI_ltI, wI_leI, nI_ltw, nI_lew, reduceIte, hsz, pg_eq T1, (T1.2.2.2.2 o ho).2.1, esh, h1, hin, e1, decide_true, bN_e0, reduceCtorEq, Nat.not_lt_zero, z1, z2]
          · refine ⟨(wI (v + 2), nI (o + 1), τ2), ?_, v + 2, τ2, rfl, ⟨v + 2, S, Or.inr ⟨fun h => ?_, rfl⟩⟩, Fq_t F h3⟩
            · unfold f_X4_smallestAround_l23 f_X4_smallestAround_j90
              dsimp only
              simp (disch := omega) only [bind_s, sum_l, sum_r, chkin, lit, nI_add, pk_mul, nI_clamp, nI_leI, nI_ltI, nI_eqI, nI_or, and1, shl1, shrx, nI_subx, pk_divx, pk_remx, nmod, nzx, if_tt, if_ff, bz_n1, bz_n0, nm1, nm2, wI_p, wI_inj, wI_n, nI_w, wI_ltI, wI_leI, nI_ltw, nI_lew, reduceIte, hsz, pg_eq T1, (T1.2.2.2.2 o ho).2.1, esh, h1, hin, e1, decide_true, bN_e0, reduceCtorEq, Nat.not_lt_zero, z1, z2]
            · rcases h.2 with h | h
              · omega
              · rw [Nat.add_sub_cancel] at h; exact e3 h
      · refine ⟨(wI b, nI (o + 1), τ2), ?_, b, τ2, rfl, ⟨b, S, Or.inr ⟨fun h => e1 (hw.mpr h.1), rfl⟩⟩, Fq_t F h3⟩
        unfold f_X4_smallestAround_l23 f_X4_smallestAround_j90
        dsimp only
        simp (disch := omega) only [bind_s, sum_l, sum_r, chkin, lit, nI_add, pk_mul, nI_clamp, nI_leI, nI_ltI, nI_eqI, nI_or, and1, shl1, shrx, nI_subx, pk_divx, pk_remx, nmod, nzx, if_tt, if_ff, bz_n1, bz_n0, nm1, nm2, wI_p, wI_inj, wI_n, nI_w, wI_ltI, wI_leI, nI_ltw, nI_lew, reduceIte, hsz, pg_eq T1, (T1.2.2.2.2 o ho).2.1, esh, h1, hin, e1, decide_false, bN_e0]
    · refine ⟨(wI b, nI (o + 1), τ), ?_, b, τ, rfl, ⟨b, S, Or.inr ⟨fun h => esh h.1.2.1, rfl⟩⟩, F⟩
      unfold f_X4_smallestAround_l23 f_X4_smallestAround_j90
      dsimp only
      simp (disch := omega) only [bind_s, sum_l, sum_r, chkin, lit, nI_add, pk_mul, nI_clamp, nI_leI, nI_ltI, nI_eqI, nI_or, and1, shl1, shrx, nI_subx, pk_divx, pk_remx, nmod, nzx, if_tt, if_ff, bz_n1, bz_n0, nm1, nm2, wI_p, wI_inj, wI_n, nI_w, wI_ltI, wI_leI, nI_ltw, nI_lew, reduceIte, hsz, pg_eq T1, (T1.2.2.2.2 o ho).2.1, esh, if_false]) (by
    rintro z ⟨b, τ, rfl, S, F⟩
    have T1 := hT τ F
    have hsz : f_X9_size (1 + 5) τ = some (nI (R 2)) := by rw [size_eq]; exact congrArg some T1.2.1.2.2.2.2.2
    refine ⟨_, ?_, b, τ, rfl, S, F⟩
    unfold f_X4_smallestAround_l23
    dsimp only
    simp (disch := omega) only [bind_s, sum_l, sum_r, chkin, lit, nI_add, pk_mul, nI_clamp, nI_leI, nI_ltI, nI_eqI, nI_or, and1, shl1, shrx, nI_subx, pk_divx, pk_remx, nmod, nzx, if_tt, if_ff, bz_n1, bz_n0, nm1, nm2, wI_p, wI_inj, wI_n, nI_w, wI_ltI, wI_leI, nI_ltw, nI_lew, reduceIte, hsz])
  refine ⟨b, τ, ?_, q2, q3⟩
  unfold f_X4_smallestAround f_X4_smallestAround_0
  simp (disch := omega) only [bind_s, sum_l, sum_r, chkin, lit, nI_add, pk_mul, nI_clamp, nI_leI, nI_ltI, nI_eqI, nI_or, and1, shl1, shrx, nI_subx, pk_divx, pk_remx, nmod, nzx, if_tt, if_ff, bz_n1, bz_n0, nm1, nm2, wI_p, wI_inj, wI_n, nI_w, wI_ltI, wI_leI, nI_ltw, nI_lew, reduceIte, pg_eq T, (T.2.2.2.2 p hp).2.1, lowC_eq T G hp hl, q1]
theorem aroundR_eq (hR : σ 102 = rwN R) (G : Good R) {p l : Nat} (hp : p < R 2) (hl : IsLow R p l) : ∃ b τ, f_X11_around (nI p) σ = some (wI b, τ) ∧ SmS R p l (R 2) b ∧ ∀ a, a ≠ 111 → a ≠ 115 → τ a = σ a := by
  have hP := GP G hp
  have g2 := G.2.2.1
  have hs := (G.2.2.2.2.2.1 p hp).2.1
  obtain ⟨row, l1, l2⟩ := looks_eq hR G (R (681 + p)) (by omega)
  have c0 : Cov R (R (681 + p)) ((upA σ 111 row) 111) := by rw [upA_same]; exact l2
  have d0 : ∀ a, a ≠ 111 → (upA σ 111 row) a = σ a := fun a ha => upA_ne _ _ ha
  generalize upA σ 111 row = σ1 at *
  obtain ⟨r, q1, b, τ, rfl, q2, q3⟩ := lp_fu (f := f_X11_around_l18 (nI p)) (fun o z => ∃ b τ, z = (wI b, nI o, τ) ∧ SmS R p l o b ∧ ∀ a, a ≠ 115 → τ a = σ1 a) (fun r => ∃ b τ, r = (wI b, τ) ∧ SmS R p l (R 2) b ∧ ∀ a, a ≠ 115 → τ a = σ1 a) (R 2) (by omega) (wI 1, nI 0, σ1) ⟨1, σ1, rfl, rfl, fun _ _ => rfl⟩ (by
    rintro o z ho ⟨b, τ, rfl, S, F⟩
    left
    have hO := GP G ho
    have hb := SmS_b S
    have hR1 : τ 102 = rwN R := by rw [F 102 (by decide), d0 102 (by decide), hR]
    have hbits : ∀ o, o < R 2 → f_X11_bits (nI (R (637 + R (661 + o)))) = some (nI (szp R o)) := fun o ho => bits_eq (GH G (G.2.2.2.2.2.1 o ho).1).2.2.1
    obtain ⟨w, τ2, w1, w2, w3⟩ := withinR_eq hR1 G hp ho (by rw [F 111 (by decide)]; exact c0) hl
    have hR2 : τ2 102 = rwN R := by rw [w3 102 (by decide), hR1]
    have F2 : ∀ a, a ≠ 115 → τ2 a = σ1 a := fun a ha => by rw [w3 a ha, F a ha]
    cases w with
    | false =>
      refine ⟨(wI b, nI (o + 1), τ2), ?_, b, τ2, rfl, ⟨b, S, Or.inr ⟨fun h => (by have := w2.mpr h.1; cases this), rfl⟩⟩, F2⟩
      unfold f_X11_around_l18 f_X11_around_j95
      dsimp only
      simp (disch := omega) only [bind_s, sum_l, sum_r, chkin, lit, nI_add, pk_mul, nI_clamp, nI_leI, nI_ltI, nI_eqI, nI_or, and1, shl1, shrx, nI_subx, pk_divx, pk_remx, nmod, nzx, if_tt, if_ff, bz_n1, bz_n0, nm1, nm2, wI_p, wI_inj, wI_n, nI_w, wI_ltI, wI_leI, nI_ltw, nI_lew, reduceIte, hR1, rwN_a, hbits o ho, w1, bN_e0]
    | true =>
      have ww := w2.mp rfl
      by_cases e2 : b = 1
      · refine ⟨(wI (o + 2), nI (o + 1), τ2), ?_, o + 2, τ2, rfl, ⟨b, S, Or.inl ⟨⟨ww, Or.inl e2⟩, rfl⟩⟩, F2⟩
        unfold f_X11_around_l18 f_X11_around_j93 f_X11_around_j95
        dsimp only
        simp (disch := omega) only [bind_s, sum_l, sum_r, chkin, lit, nI_add, pk_mul, nI_clamp, nI_leI, nI_ltI, nI_eqI, nI_or, and1, shl1, shrx, nI_subx, pk_divx, pk_remx, nmod, nzx, if_tt, if_ff, bz_n1, bz_n0, nm1, nm2, wI_p, wI_inj, wI_n, nI_w, wI_ltI, wI_leI, nI_ltw, nI_lew, reduceIte, hR1, rwN_a, hbits o ho, w1, bN_e0, reduceCtorEq, e2]
      · obtain ⟨v, hv⟩ : ∃ v, b = v + 2 := ⟨b - 2, by omega⟩
        subst hv
        have hV := GP G (show v < R 2 by omega)
        have p1 := pcn_16 (R (637 + R (661 + o)))
        have p2 := pcn_16 (R (637 + R (661 + v)))
        change szp R o ≤ 16 at p1
        change szp R v ≤ 16 at p2
        have hm1 : ¬ (v + 2 = 1) := by omega
        by_cases e3 : szp R o < szp R v
        · refine ⟨(wI (o + 2), nI (o + 1), τ2), ?_, o + 2, τ2, rfl, ⟨v + 2, S, Or.inl ⟨⟨ww, Or.inr (by rw [Nat.add_sub_cancel]; exact e3)⟩, rfl⟩⟩, F2⟩
          unfold f_X11_around_l18 f_X11_around_j93 f_X11_around_j95
          dsimp only
          simp (disch := omega) only [bind_s, sum_l, sum_r, chkin, lit, nI_add, pk_mul, nI_clamp, nI_leI, nI_ltI, nI_eqI, nI_or, and1, shl1, shrx, nI_subx, pk_divx, pk_remx, nmod, nzx, if_tt, if_ff, bz_n1, bz_n0, nm1, nm2, wI_p, wI_inj, wI_n, nI_w, wI_ltI, wI_leI, nI_ltw, nI_lew, reduceIte, hR1, hR2, rwN_a, hbits o ho, hbits v (by omega), w1, bN_e0, reduceCtorEq, hm1]
        · refine ⟨(wI (v + 2), nI (o + 1), τ2), ?_, v + 2, τ2, rfl, ⟨v + 2, S, Or.inr ⟨fun h => ?_, rfl⟩⟩, F2⟩
          · unfold f_X11_around_l18 f_X11_around_j93 f_X11_around_j95
            dsimp only
            simp (disch := omega) only [bind_s, sum_l, sum_r, chkin, lit, nI_add, pk_mul, nI_clamp, nI_leI, nI_ltI, nI_eqI, nI_or, and1, shl1, shrx, nI_subx, pk_divx, pk_remx, nmod, nzx, if_tt, if_ff, bz_n1, bz_n0, nm1, nm2, wI_p, wI_inj, wI_n, nI_w, wI_ltI, wI_leI, nI_ltw, nI_lew, reduceIte, hR1, hR2, rwN_a, hbits o ho, hbits v (by omega), w1, bN_e0, reduceCtorEq, hm1]
          · rcases h.2 with h | h
            · omega
            · rw [Nat.add_sub_cancel] at h; exact e3 h) (by
    rintro z ⟨b, τ, rfl, S, F⟩
    have hR1 : τ 102 = rwN R := by rw [F 102 (by decide), d0 102 (by decide), hR]
    refine ⟨_, ?_, b, τ, rfl, S, F⟩
    unfold f_X11_around_l18
    dsimp only
    simp (disch := omega) only [bind_s, sum_l, sum_r, chkin, lit, nI_add, pk_mul, nI_clamp, nI_leI, nI_ltI, nI_eqI, nI_or, and1, shl1, shrx, nI_subx, pk_divx, pk_remx, nmod, nzx, if_tt, if_ff, bz_n1, bz_n0, nm1, nm2, wI_p, wI_inj, wI_n, nI_w, wI_ltI, wI_leI, nI_ltw, nI_lew, reduceIte, hR1, rwN_a])
  refine ⟨b, τ, ?_, q2, fun a h1 h2 => by rw [q3 a h2, d0 a h1]⟩
  unfold f_X11_around f_X11_around_0
  simp (disch := omega) only [bind_s, sum_l, sum_r, chkin, lit, nI_add, pk_mul, nI_clamp, nI_leI, nI_ltI, nI_eqI, nI_or, and1, shl1, shrx, nI_subx, pk_divx, pk_remx, nmod, nzx, if_tt, if_ff, bz_n1, bz_n0, nm1, nm2, wI_p, wI_inj, wI_n, nI_w, wI_ltI, wI_leI, nI_ltw, nI_lew, reduceIte, hR, rwN_a, l1, q1]
theorem call_part (I : Inv σ) (x1 x2 : Int32) : Step (f_L_part x1 x2) (f_X11_part x1 x2) σ := by
  have I0 := I
  obtain ⟨R, n, H, hv, V, len, tx, nr, rk, rp, nf, fk, fp, G, S, c, cx, r, rx⟩ := I
  have hR := r.1
  have g2 := G.2.2.1
  rcases int_n x1 (n := R 2) (by omega) with ⟨p, hp, rfl⟩ | hx
  · have hP := GP G hp
    have hs := (G.2.2.2.2.2.1 p hp).2.1
    obtain ⟨y0, y1, y2, y3, y4⟩ := c.1.2.2.2.2 p hp
    obtain ⟨kl, _, _, _, hl⟩ := low_ex G hp
    generalize cl R p kl = l at hl
    rcases what_n x2 (N := 8) (by decide) with ⟨w, hw, rfl⟩ | hw
    · have ok : ∀ v, f_X10_part (nI p) (nI w) σ = some (.inr (v, σ)) → (∀ υ, υ 102 = rwN R → f_X11_part (nI p) (nI w) υ = some (v, up υ 101 0 (nI 0))) → Step (f_L_part (nI p) (nI w)) (f_X11_part (nI p) (nI w)) σ := fun v h1 h2 =>
        step_ok I0 (L_part_0 h1) (Fc_r σ) (fun υ hυ => ⟨up υ 101 0 (nI 0), h2 υ (by rw [hυ 102 (by omega) (by omega), hR]), u0F _ _, up_s ..⟩)
      have hg : ∀ f, p * 5 + f < 100 → f_X9_get 6 (nI p) (nI f) σ = some (σ 7 (p * 5 + f)) := fun f hf => pg_eq c.1 hf
      have hpa : ∀ υ, υ 102 = rwN R → f_X11_isPart (nI p) (up υ 101 0 (nI 0)) = some (nI 1) := fun υ h => isPart_in (u0R h _) G hp
      have k0 : w = 0 ∨ w = 1 ∨ w = 2 ∨ w = 3 ∨ w = 4 ∨ w = 5 ∨ w = 6 ∨ w = 7 := by omega
      rcases k0 with e | e | e | e | e | e | e | e <;> subst e
      · refine ok (nI (R (661 + p))) ?_ (fun υ hυ => ?_)
        · unfold f_X10_part f_X10_part_0 f_X10_part_j52
          simp (disch := omega) only [bind_s, sum_l, sum_r, chkin, lit, nI_add, pk_mul, nI_clamp, nI_leI, nI_ltI, nI_eqI, nI_or, and1, shl1, shrx, nI_subx, pk_divx, pk_remx, nmod, nzx, if_tt, if_ff, bz_n1, bz_n0, nm1, nm2, wI_p, wI_inj, wI_n, nI_w, wI_ltI, wI_leI, nI_ltw, nI_lew, reduceIte, ckP_in c.1 G hp, hg]
          exact congrArg (fun q => some (Sum.inr (q, σ))) y0
        · unfold f_X11_part f_X11_part_0
          simp (disch := omega) only [bind_s, sum_l, sum_r, chkin, lit, nI_add, pk_mul, nI_clamp, nI_leI, nI_ltI, nI_eqI, nI_or, and1, shl1, shrx, nI_subx, pk_divx, pk_remx, nmod, nzx, if_tt, if_ff, bz_n1, bz_n0, nm1, nm2, wI_p, wI_inj, wI_n, nI_w, wI_ltI, wI_leI, nI_ltw, nI_lew, reduceIte, hpa υ hυ, u0R hυ, rwN_a]
      · refine ok (nI (R (681 + p))) ?_ (fun υ hυ => ?_)
        · unfold f_X10_part f_X10_part_0 f_X10_part_j52
          simp (disch := omega) only [bind_s, sum_l, sum_r, chkin, lit, nI_add, pk_mul, nI_clamp, nI_leI, nI_ltI, nI_eqI, nI_or, and1, shl1, shrx, nI_subx, pk_divx, pk_remx, nmod, nzx, if_tt, if_ff, bz_n1, bz_n0, nm1, nm2, wI_p, wI_inj, wI_n, nI_w, wI_ltI, wI_leI, nI_ltw, nI_lew, reduceIte, ckP_in c.1 G hp, hg]
          exact congrArg (fun q => some (Sum.inr (q, σ))) y1
        · unfold f_X11_part f_X11_part_0
          simp (disch := omega) only [bind_s, sum_l, sum_r, chkin, lit, nI_add, pk_mul, nI_clamp, nI_leI, nI_ltI, nI_eqI, nI_or, and1, shl1, shrx, nI_subx, pk_divx, pk_remx, nmod, nzx, if_tt, if_ff, bz_n1, bz_n0, nm1, nm2, wI_p, wI_inj, wI_n, nI_w, wI_ltI, wI_leI, nI_ltw, nI_lew, reduceIte, hpa υ hυ, u0R hυ, rwN_a]
      · refine ok (nI (R (701 + p))) ?_ (fun υ hυ => ?_)
        · unfold f_X10_part f_X10_part_0 f_X10_part_j52
          simp (disch := omega) only [bind_s, sum_l, sum_r, chkin, lit, nI_add, pk_mul, nI_clamp, nI_leI, nI_ltI, nI_eqI, nI_or, and1, shl1, shrx, nI_subx, pk_divx, pk_remx, nmod, nzx, if_tt, if_ff, bz_n1, bz_n0, nm1, nm2, wI_p, wI_inj, wI_n, nI_w, wI_ltI, wI_leI, nI_ltw, nI_lew, reduceIte, ckP_in c.1 G hp, hg]
          exact congrArg (fun q => some (Sum.inr (q, σ))) y2
        · unfold f_X11_part f_X11_part_0
          simp (disch := omega) only [bind_s, sum_l, sum_r, chkin, lit, nI_add, pk_mul, nI_clamp, nI_leI, nI_ltI, nI_eqI, nI_or, and1, shl1, shrx, nI_subx, pk_divx, pk_remx, nmod, nzx, if_tt, if_ff, bz_n1, bz_n0, nm1, nm2, wI_p, wI_inj, wI_n, nI_w, wI_ltI, wI_leI, nI_ltw, nI_lew, reduceIte, hpa υ hυ, u0R hυ, rwN_a]
      · refine ok (nI (R (721 + p))) ?_ (fun υ hυ => ?_)
        · unfold f_X10_part f_X10_part_0 f_X10_part_j52
          simp (disch := omega) only [bind_s, sum_l, sum_r, chkin, lit, nI_add, pk_mul, nI_clamp, nI_leI, nI_ltI, nI_eqI, nI_or, and1, shl1, shrx, nI_subx, pk_divx, pk_remx, nmod, nzx, if_tt, if_ff, bz_n1, bz_n0, nm1, nm2, wI_p, wI_inj, wI_n, nI_w, wI_ltI, wI_leI, nI_ltw, nI_lew, reduceIte, ckP_in c.1 G hp, hg]
          exact congrArg (fun q => some (Sum.inr (q, σ))) y3
        · unfold f_X11_part f_X11_part_0
          simp (disch := omega) only [bind_s, sum_l, sum_r, chkin, lit, nI_add, pk_mul, nI_clamp, nI_leI, nI_ltI, nI_eqI, nI_or, and1, shl1, shrx, nI_subx, pk_divx, pk_remx, nmod, nzx, if_tt, if_ff, bz_n1, bz_n0, nm1, nm2, wI_p, wI_inj, wI_n, nI_w, wI_ltI, wI_leI, nI_ltw, nI_lew, reduceIte, hpa υ hυ, u0R hυ, rwN_a]
      · refine ok (nI (R (741 + p))) ?_ (fun υ hυ => ?_)
        · unfold f_X10_part f_X10_part_0 f_X10_part_j52
          simp (disch := omega) only [bind_s, sum_l, sum_r, chkin, lit, nI_add, pk_mul, nI_clamp, nI_leI, nI_ltI, nI_eqI, nI_or, and1, shl1, shrx, nI_subx, pk_divx, pk_remx, nmod, nzx, if_tt, if_ff, bz_n1, bz_n0, nm1, nm2, wI_p, wI_inj, wI_n, nI_w, wI_ltI, wI_leI, nI_ltw, nI_lew, reduceIte, ckP_in c.1 G hp, hg]
          exact congrArg (fun q => some (Sum.inr (q, σ))) y4
        · unfold f_X11_part f_X11_part_0
          simp (disch := omega) only [bind_s, sum_l, sum_r, chkin, lit, nI_add, pk_mul, nI_clamp, nI_leI, nI_ltI, nI_eqI, nI_or, and1, shl1, shrx, nI_subx, pk_divx, pk_remx, nmod, nzx, if_tt, if_ff, bz_n1, bz_n0, nm1, nm2, wI_p, wI_inj, wI_n, nI_w, wI_ltI, wI_leI, nI_ltw, nI_lew, reduceIte, hpa υ hυ, u0R hυ, rwN_a]
      · refine ok (nI l) ?_ (fun υ hυ => ?_)
        · unfold f_X10_part f_X10_part_0
          simp (disch := omega) only [bind_s, sum_l, sum_r, chkin, lit, nI_add, pk_mul, nI_clamp, nI_leI, nI_ltI, nI_eqI, nI_or, and1, shl1, shrx, nI_subx, pk_divx, pk_remx, nmod, nzx, if_tt, if_ff, bz_n1, bz_n0, nm1, nm2, wI_p, wI_inj, wI_n, nI_w, wI_ltI, wI_leI, nI_ltw, nI_lew, reduceIte, ckP_in c.1 G hp, lowC_eq c.1 G hp hl]
        · unfold f_X11_part f_X11_part_0
          simp (disch := omega) only [bind_s, sum_l, sum_r, chkin, lit, nI_add, pk_mul, nI_clamp, nI_leI, nI_ltI, nI_eqI, nI_or, and1, shl1, shrx, nI_subx, pk_divx, pk_remx, nmod, nzx, if_tt, if_ff, bz_n1, bz_n0, nm1, nm2, wI_p, wI_inj, wI_n, nI_w, wI_ltI, wI_leI, nI_ltw, nI_lew, reduceIte, hpa υ hυ, lowR_eq (u0R hυ (nI 0)) G hp hl]
      · obtain ⟨b, τ, a1, a2, a3⟩ := aroundC_eq c.1 G hp hl
        have hFq : Fc σ τ := fun a h1 h2 => a3 a (by omega) (by omega) (by omega)
        refine step_ok I0 (L_part_0 (v := wI b) (τ := τ) ?_) hFq (fun υ hυ => ?_)
        · unfold f_X10_part f_X10_part_0
          simp (disch := omega) only [bind_s, sum_l, sum_r, chkin, lit, nI_add, pk_mul, nI_clamp, nI_leI, nI_ltI, nI_eqI, nI_or, and1, shl1, shrx, nI_subx, pk_divx, pk_remx, nmod, nzx, if_tt, if_ff, bz_n1, bz_n0, nm1, nm2, wI_p, wI_inj, wI_n, nI_w, wI_ltI, wI_leI, nI_ltw, nI_lew, reduceIte, ckP_in c.1 G hp, a1]
        · have hR0 : υ 102 = rwN R := by rw [hυ 102 (by omega) (by omega), hR]
          obtain ⟨b', τ', b1, b2, b3⟩ := aroundR_eq (u0R hR0 (nI 0)) G hp hl
          have eb := SmS_u a2 b2
          subst eb
          refine ⟨τ', ?_, Fr_t (u0F υ (nI 0)) ⟨fun a h1 h2 h3 => b3 a (by omega) (by omega), fun j _ => by rw [b3 101 (by decide) (by decide)]⟩, by rw [b3 101 (by decide) (by decide), up_s]⟩
          unfold f_X11_part f_X11_part_0
          simp (disch := omega) only [bind_s, sum_l, sum_r, chkin, lit, nI_add, pk_mul, nI_clamp, nI_leI, nI_ltI, nI_eqI, nI_or, and1, shl1, shrx, nI_subx, pk_divx, pk_remx, nmod, nzx, if_tt, if_ff, bz_n1, bz_n0, nm1, nm2, wI_p, wI_inj, wI_n, nI_w, wI_ltI, wI_leI, nI_ltw, nI_lew, reduceIte, hpa υ hR0, b1]
      · have e7 := comC_eq c.1 G hp
        rw [com_same G hs (q := p + 2) (by omega)] at e7
        refine step_ok I0 (L_part_0 (v := nI (sm (cutr R (R (681 + p)) true (p + 2)) (sc R (R (681 + p)) * sr R (R (681 + p))))) (τ := σ) ?_) (Fc_r σ) (fun υ hυ => ?_)
        · unfold f_X10_part f_X10_part_0
          simp (disch := omega) only [bind_s, sum_l, sum_r, chkin, lit, nI_add, pk_mul, nI_clamp, nI_leI, nI_ltI, nI_eqI, nI_or, and1, shl1, shrx, nI_subx, pk_divx, pk_remx, nmod, nzx, if_tt, if_ff, bz_n1, bz_n0, nm1, nm2, wI_p, wI_inj, wI_n, nI_w, wI_ltI, wI_leI, nI_ltw, nI_lew, reduceIte, ckP_in c.1 G hp, e7]
        · have hR0 : υ 102 = rwN R := by rw [hυ 102 (by omega) (by omega), hR]
          obtain ⟨row, b1, _⟩ := cutsR_eq (u0R hR0 (nI 0)) G hs true (q := p + 2) (by omega)
          rw [wI_p] at b1
          change f_X11_cutsOf (nI (R (681 + p))) (nI 1) (nI p) (up υ 101 0 (nI 0)) = _ at b1
          refine ⟨upA (up υ 101 0 (nI 0)) 111 row, ?_, Fr_t (u0F υ (nI 0)) (Fr_upA _ _ (by omega)), by rw [upA_ne _ _ (by decide), up_s]⟩
          unfold f_X11_part f_X11_part_0
          simp (disch := omega) only [bind_s, sum_l, sum_r, chkin, lit, nI_add, pk_mul, nI_clamp, nI_leI, nI_ltI, nI_eqI, nI_or, and1, shl1, shrx, nI_subx, pk_divx, pk_remx, nmod, nzx, if_tt, if_ff, bz_n1, bz_n0, nm1, nm2, wI_p, wI_inj, wI_n, nI_w, wI_ltI, wI_leI, nI_ltw, nI_lew, reduceIte, hpa υ hR0, u0R hR0, rwN_a, b1]
    · refine step_no I0 (L_part_2 ?_) (by decide) ?_
      · unfold f_X10_part f_X10_part_0
        simp only [lit, ckP_in c.1 G hp, bind_s, sum_r, hw 0 (by decide), hw 1 (by decide), hw 2 (by decide), hw 3 (by decide), hw 4 (by decide), hw 5 (by decide), hw 6 (by decide), hw 7 (by decide), if_false]
      · unfold f_X11_part f_X11_part_0
        simp only [lit, isPart_in (u0R hR _) G hp, bind_s, n10', hw 0 (by decide), hw 1 (by decide), hw 2 (by decide), hw 3 (by decide), hw 4 (by decide), hw 5 (by decide), hw 6 (by decide), hw 7 (by decide), if_false, fails_eq]
  · refine step_no I0 (L_part_1 ?_) (by decide) ?_
    · unfold f_X10_part f_X10_part_0
      simp (disch := omega) only [bind_s, sum_l, sum_r, chkin, lit, nI_add, pk_mul, nI_clamp, nI_leI, nI_ltI, nI_eqI, nI_or, and1, shl1, shrx, nI_subx, pk_divx, pk_remx, nmod, nzx, if_tt, if_ff, bz_n1, bz_n0, nm1, nm2, wI_p, wI_inj, wI_n, nI_w, wI_ltI, wI_leI, nI_ltw, nI_lew, reduceIte, ckP_out c.1 hx]
    · unfold f_X11_part f_X11_part_0
      rw [show (0 : Int32) = nI 0 from rfl, isPart_out (u0R hR _) G hx, bind_s, if_pos rfl]
      rfl
