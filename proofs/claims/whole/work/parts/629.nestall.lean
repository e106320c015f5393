/-! PURE FACTS, 41: nesting all, 2: both sides make the one chain -/
variable {k n len nr nf : Nat} {R V tx : Nat → Nat} {H : Nat → Nat → Nat} {hv : Bool} {rk rp fk fp : Nat → Int32} {σ τ : St}
def FA (σ τ : St) : Prop := ∀ a, ¬ (2 ≤ a ∧ a ≤ 7) → a ≠ 87 → a ≠ 88 → τ a = σ a
theorem szh_c {A : Nat → Nat} (G : Good R) {m : Nat} (c : Ch R m A) {h : Nat} (hh : h < R 1) : szh A h = szh R h := by
  unfold szh
  rw [(Ch_k G c).2.2.2.2 h hh]
theorem next_of {A : Nat → Nat} (G : Good R) {m h s : Nat} (c : Ch R m A) (hh : h < R 1) (F : Found A h s) (hb : ∀ g, g < R 1 → Bef R g h → NoneF A g) : NextIs A h s := by
  have e := (Ch_k G c).2.2.1
  refine ⟨by omega, F, fun g hg hB => hb g (by omega) ?_⟩
  unfold Bef at *
  rw [szh_c G c hh, szh_c G c (show g < R 1 by omega)] at hB
  exact hB
theorem shape_no {h x2 m0 : Nat} : lp (f_X10_nestAll_l58 (nI x2) (nI h) (nI 0)) FU (nI m0, nI 0, τ) = some (nI m0, τ) :=
  lp_ex (f := f_X10_nestAll_l58 (nI x2) (nI h) (nI 0)) (fun _ => (nI m0, nI 0, τ)) (nI m0, τ) 0 (by decide) (fun i hi => absurd hi (Nat.not_lt_zero _)) (by
    unfold f_X10_nestAll_l58
    dsimp only
    rw [if_neg (by decide), if_pos (by decide)])
/-- the class: one shape, as often as can be -/
theorem shape_C (G : Good R) {h x2 : Nat} (hh : h < R 1) {A0 : Nat → Nat} {m0 : Nat} (c0 : Ch R m0 A0) (T0 : ShR 1 A0 τ) (F0 : FA σ τ) (hb0 : ∀ g, g < R 1 → Bef R g h → NoneF A0 g) : ∃ A m τ', lp (f_X10_nestAll_l58 (nI x2) (nI h) (nI 1)) FU (nI m0, nI 0, τ) = some (nI m, τ') ∧ Ch R m A ∧ ShR 1 A τ' ∧ FA σ τ' ∧ (∀ g, g < R 1 → NoneF A0 g → NoneF A g) ∧ NoneF A h := by
    obtain ⟨r, q1, A, m, τ', rfl, q2, q3, q4, q5, q6, q7⟩ := lp_fu (f := f_X10_nestAll_l58 (nI x2) (nI h) (nI 1)) (fun i z => ∃ A m τ', z = (nI m, nI i, τ') ∧ Ch R m A ∧ ShR 1 A τ' ∧ FA σ τ' ∧ i ≤ A 2 ∧ (∀ g, g < R 1 → Bef R g h → NoneF A g) ∧ ∀ g, g < R 1 → NoneF A0 g → NoneF A g) (fun r => ∃ A m τ', r = (nI m, τ') ∧ Ch R m A ∧ ShR 1 A τ' ∧ FA σ τ' ∧ (∀ g, g < R 1 → Bef R g h → NoneF A g) ∧ (∀ g, g < R 1 → NoneF A0 g → NoneF A g) ∧ NoneF A h) 20 (by decide) (nI m0, nI 0, τ) ⟨A0, m0, τ, rfl, c0, T0, F0, Nat.zero_le _, hb0, fun g _ h => h⟩ (by
      rintro i z hi ⟨A, m, τ1, rfl, c1, T1, F1, hi2, hb1, hk1⟩
      obtain ⟨GA, k0, k1, k2, k3⟩ := Ch_k G c1
      obtain ⟨τ2, F2, hτ⟩ := find_C T1 GA (h := h) (by omega)
      have FA2 : FA σ τ2 := fun a h1 h2 h3 => by rw [F2 a h2 h3, F1 a h1 h2 h3]
      have T2 : ShR 1 A τ2 := ShR_c (fun a h1 h2 => F2 a (by omega) (by omega)) T1
      rcases hτ with ⟨f1, f2⟩ | ⟨f1, s, f2, f3⟩
      · right
        refine ⟨(nI m, τ2), ?_, A, m, τ2, rfl, c1, T2, FA2, hb1, hk1, f2⟩
        unfold f_X10_nestAll_l58
        dsimp only
        rw [if_neg (show ¬ (20 : Int32) ≤ nI i from nI_ge (b := 20) hi (by decide)), if_neg (by decide), f1, bind_s, if_pos (show (nI 0, τ2).1 = (0 : Int32) from rfl)]
      · left
        have hN := next_of G c1 hh f2 hb1
        obtain ⟨τ3, m1, m2, m3⟩ := nest_C T2 GA hN.1 f2 f3
        obtain ⟨o1, o2, o3, o4⟩ := Found_ok GA hN.1 f2
        have c2 : Ch R (m + 1) (rNest A h s) := ⟨A, h, s, c1, hN, rfl⟩
        have k4 := (Ch_k G c2).2.2.2.1
        refine ⟨(nI (m + 1), nI (i + 1), τ3), ?_, rNest A h s, m + 1, τ3, rfl, c2, m2, fun a h1 h2 h3 => by rw [m3 a (by omega), FA2 a h1 h2 h3], by omega, fun g hg hB => NoneF_next GA hN (by omega) (hb1 g hg hB), fun g hg h0 => NoneF_next GA hN (by omega) (hk1 g hg h0)⟩
        unfold f_X10_nestAll_l58
        dsimp only
        rw [if_neg (show ¬ (20 : Int32) ≤ nI i from nI_ge (b := 20) hi (by decide)), if_neg (by decide), f1, bind_s, if_neg (show ¬ (nI 1, τ2).1 = (0 : Int32) from (by decide : ¬ nI 1 = (0 : Int32))), m1, bind_s, nI_1, nI_1]) (by
      rintro z ⟨A, m, τ1, rfl, c1, T1, F1, hi2, hb1, hk1⟩
      have GA := (Ch_k G c1).1
      have := GA.2.2.1
      refine ⟨(nI m, τ1), ?_, A, m, τ1, rfl, c1, T1, F1, hb1, hk1, NoneF_20 (by omega)⟩
      unfold f_X10_nestAll_l58
      dsimp only
      rw [if_pos (show (20 : Int32) ≤ nI 20 from nI_le (a := 20) (Nat.le_refl _) (by decide))])
    exact ⟨A, m, τ', q1, q2, q3, q4, q6, q7⟩
theorem size_C (G : Good R) {x2 : Nat} (hx : x2 ≤ 16) {A0 : Nat → Nat} {m0 : Nat} (c0 : Ch R m0 A0) (T0 : ShR 1 A0 τ) (F0 : FA σ τ) (hb0 : ∀ g, g < R 1 → x2 < szh R g → NoneF A0 g) : ∃ A m τ', lp (f_X10_nestAll_l22 (nI x2)) FU (nI m0, nI 0, τ) = some (nI m, τ') ∧ Ch R m A ∧ ShR 1 A τ' ∧ FA σ τ' ∧ ∀ g, g < R 1 → x2 ≤ szh R g → NoneF A g := by
  have g1 := G.2.1
  obtain ⟨r, q1, A, m, τ', rfl, q2, q3, q4, q5⟩ := lp_fu (f := f_X10_nestAll_l22 (nI x2)) (fun j z => ∃ A m τ', z = (nI m, nI j, τ') ∧ Ch R m A ∧ ShR 1 A τ' ∧ FA σ τ' ∧ ∀ g, g < R 1 → (x2 < szh R g ∨ (szh R g = x2 ∧ g < j)) → NoneF A g) (fun r => ∃ A m τ', r = (nI m, τ') ∧ Ch R m A ∧ ShR 1 A τ' ∧ FA σ τ' ∧ ∀ g, g < R 1 → x2 ≤ szh R g → NoneF A g) (R 1) (by omega) (nI m0, nI 0, τ) ⟨A0, m0, τ, rfl, c0, T0, F0, fun g hg h => hb0 g hg (by rcases h with h | h; exact h; exact absurd h.2 (Nat.not_lt_zero _))⟩ (by
    rintro j z hj ⟨A, m, τ1, rfl, c1, T1, F1, hb1⟩
    left
    obtain ⟨GA, k0, k1, k2, k3⟩ := Ch_k G c1
    have hsz : f_X9_size 4 τ1 = some (nI (R 1)) := by
      rw [size_eq, ← k1]
      exact congrArg some T1.2.1.2.2.2.1
    have hso := sizeOf_eq T1 GA (h := j) (by omega)
    have hp := szh_in G hj
    have he : pcn (A (637 + j)) = szh R j := by rw [k3 j hj]; rfl
    rw [he] at hso
    by_cases e : szh R j = x2
    · obtain ⟨A', m', τ', p1, p2, p3, p4, p6, p7⟩ := shape_C (x2 := x2) G hj c1 T1 F1 (fun g hg hB => hb1 g hg (by
        unfold Bef at hB
        rw [e] at hB
        exact hB))
      refine ⟨(nI m', nI (j + 1), τ'), ?_, A', m', τ', rfl, p2, p3, p4, fun g hg hB => ?_⟩
      · unfold f_X10_nestAll_l22 f_X10_nestAll_j53 f_X10_nestAll_j107
        dsimp only
        simp (disch := omega) only [bind_s, sum_l, sum_r, chkin, lit, nI_add, pk_mul, nI_clamp, nI_leI, nI_ltI, nI_eqI, nI_or, and1, shl1, shrx, nI_subx, pk_divx, pk_remx, nmod, nzx, if_tt, if_ff, bz_n1, bz_n0, nm1, nm2, wI_p, wI_inj, wI_n, nI_w, wI_ltI, wI_leI, nI_ltw, nI_lew, reduceIte, hsz, hso, e, p1]
      · by_cases e2 : g = j
        · subst e2; exact p7
        · exact p6 g hg (hb1 g hg (by omega))
    · refine ⟨(nI m, nI (j + 1), τ1), ?_, A, m, τ1, rfl, c1, T1, F1, fun g hg hB => hb1 g hg ?_⟩
      · unfold f_X10_nestAll_l22 f_X10_nestAll_j53 f_X10_nestAll_j107
        dsimp only
        simp (disch := omega) only [bind_s, sum_l, sum_r, chkin, lit, nI_add, pk_mul, nI_clamp, nI_leI, nI_ltI, nI_eqI, nI_or, and1, shl1, shrx, nI_subx, pk_divx, pk_remx, nmod, nzx, if_tt, if_ff, bz_n1, bz_n0, nm1, nm2, wI_p, wI_inj, wI_n, nI_w, wI_ltI, wI_leI, nI_ltw, nI_lew, reduceIte, hsz, hso, e, shape_no]
      · rcases hB with hB | ⟨hB, hB2⟩
        · exact Or.inl hB
        · refine Or.inr ⟨hB, ?_⟩
          by_cases e2 : g = j
          · subst e2; exact absurd hB e
          · omega) (by
    rintro z ⟨A, m, τ1, rfl, c1, T1, F1, hb1⟩
    obtain ⟨GA, k0, k1, k2, k3⟩ := Ch_k G c1
    have hsz : f_X9_size 4 τ1 = some (nI (R 1)) := by
      rw [size_eq, ← k1]
      exact congrArg some T1.2.1.2.2.2.1
    refine ⟨(nI m, τ1), ?_, A, m, τ1, rfl, c1, T1, F1, fun g hg h => hb1 g hg (by omega)⟩
    unfold f_X10_nestAll_l22
    dsimp only
    simp (disch := omega) only [bind_s, sum_l, sum_r, chkin, lit, nI_add, pk_mul, nI_clamp, nI_leI, nI_ltI, nI_eqI, nI_or, and1, shl1, shrx, nI_subx, pk_divx, pk_remx, nmod, nzx, if_tt, if_ff, bz_n1, bz_n0, nm1, nm2, wI_p, wI_inj, wI_n, nI_w, wI_ltI, wI_leI, nI_ltw, nI_lew, reduceIte, hsz])
  exact ⟨A, m, τ', q1, q2, q3, q4, q5⟩
theorem all_C (G : Good R) (T0 : ShR 1 R σ) : ∃ A m τ, lp f_X10_nestAll_l16 FU (nI 0, nI 16, σ) = some (nI m, τ) ∧ Ch R m A ∧ Done A ∧ ShR 1 A τ ∧ FA σ τ := by
  obtain ⟨r, q1, A, m, τ', rfl, q2, q3, q4, q5⟩ := lp_fu (f := f_X10_nestAll_l16) (fun i z => ∃ A m τ', z = (nI m, nI (16 - i), τ') ∧ Ch R m A ∧ ShR 1 A τ' ∧ FA σ τ' ∧ ∀ g, g < R 1 → 16 - i < szh R g → NoneF A g) (fun r => ∃ A m τ', r = (nI m, τ') ∧ Ch R m A ∧ ShR 1 A τ' ∧ FA σ τ' ∧ ∀ g, g < R 1 → 0 < szh R g → NoneF A g) 16 (by decide) (nI 0, nI 16, σ) ⟨R, 0, σ, rfl, rfl, T0, fun _ _ _ _ => rfl, fun g hg h => by have := (szh_in G hg).2; omega⟩ (by
    rintro i z hi ⟨A, m, τ1, rfl, c1, T1, F1, hb1⟩
    left
    obtain ⟨A', m', τ', p1, p2, p3, p4, p5⟩ := size_C (x2 := 16 - i) G (by omega) c1 T1 F1 hb1
    refine ⟨(nI m', nI (16 - (i + 1)), τ'), ?_, A', m', τ', rfl, p2, p3, p4, fun g hg h => p5 g hg (by omega)⟩
    have e : nI (16 - i) + wI 1 = nI (16 - (i + 1)) := by
      obtain ⟨q, hq⟩ : ∃ q, 16 - i = q + 1 := ⟨15 - i, by omega⟩
      rw [hq, show 16 - (i + 1) = q by omega]
      exact pk_m1 q
    unfold f_X10_nestAll_l16
    dsimp only
    simp (disch := omega) only [bind_s, sum_l, sum_r, chkin, lit, nI_add, pk_mul, nI_clamp, nI_leI, nI_ltI, nI_eqI, nI_or, and1, shl1, shrx, nI_subx, pk_divx, pk_remx, nmod, nzx, if_tt, if_ff, bz_n1, bz_n0, nm1, nm2, wI_p, wI_inj, wI_n, nI_w, wI_ltI, wI_leI, nI_ltw, nI_lew, reduceIte, p1, e]) (by
    rintro z ⟨A, m, τ1, rfl, c1, T1, F1, hb1⟩
    refine ⟨(nI m, τ1), ?_, A, m, τ1, rfl, c1, T1, F1, fun g hg h => hb1 g hg (by omega)⟩
    unfold f_X10_nestAll_l16
    dsimp only
    rw [if_pos (by decide)])
  have e1 := (Ch_k G q2).2.2.1
  exact ⟨A, m, τ', q1, q2, fun g hg => q5 g (by omega) (szh_in G (by omega)).1, q3, q4⟩
/-- the reference: the next one, or none -/
theorem next_R (hR : σ 102 = rwN R) (G : Good R) : ∃ τ, Fz σ τ ∧ ((f_X11_nestsNext σ = some (nI 0, τ) ∧ Done R) ∨ (∃ h s, NextIs R h s ∧ f_X11_nestsNext σ = some (nI 1, upA τ 102 (rwN (rNest R h s))))) := by
  have g1 := G.2.1
  have hRt : ∀ τ, Fz σ τ → τ 102 = rwN R := fun τ F => by rw [F.1 102 (by decide) (by decide) (by decide) (by decide), hR]
  obtain ⟨r, q1, q2⟩ := lp_fu (f := f_X11_nestsNext_l3) (fun i z => ∃ τ, z = (nI (16 - i), τ) ∧ Fz σ τ ∧ ∀ g, g < R 1 → 16 - i < szh R g → NoneF R g) (fun v => (∃ τ, v = .inl τ ∧ Fz σ τ ∧ Done R) ∨ (∃ h s τ, v = .inr (nI h, τ) ∧ Fz σ τ ∧ NextIs R h s ∧ EncR s (sB R h s) τ)) 16 (by decide) (nI 16, σ) ⟨σ, rfl, Fz_r σ, fun g hg h => by have := (szh_in G hg).2; omega⟩ (by
    rintro i z hi ⟨τ, rfl, F, hb⟩
    obtain ⟨r, p1, p2⟩ := lp_fu (f := f_X11_nestsNext_l9 (nI (16 - i))) (fun j z => ∃ τ, z = (nI j, τ) ∧ Fz σ τ ∧ ∀ g, g < R 1 → (16 - i < szh R g ∨ (szh R g = 16 - i ∧ g < j)) → NoneF R g) (fun v => (∃ τ, v = .inl τ ∧ Fz σ τ ∧ ∀ g, g < R 1 → 16 - (i + 1) < szh R g → NoneF R g) ∨ (∃ h s τ, v = .inr (nI h, τ) ∧ Fz σ τ ∧ NextIs R h s ∧ EncR s (sB R h s) τ)) (R 1) (by omega) (nI 0, τ) ⟨τ, rfl, F, fun g hg h => hb g hg (by rcases h with h | h; exact h; exact absurd h.2 (Nat.not_lt_zero _))⟩ (by
      rintro j z hj ⟨τ, rfl, F, hb⟩
      have hH := GH G hj
      have hp := szh_in G hj
      have hbits := bits_eq hH.2.2.1
      have he : pcn (R (637 + j)) = szh R j := rfl
      rw [he] at hbits
      have go : NoneF R j ∨ szh R j ≠ 16 - i → ∀ g, g < R 1 → (16 - i < szh R g ∨ (szh R g = 16 - i ∧ g < j + 1)) → NoneF R g := fun h g hg hB => by
        by_cases e2 : g = j
        · subst e2
          rcases h with h | h
          · exact h
          · exact hb g hg (by omega)
        · exact hb g hg (by omega)
      by_cases e : szh R j = 16 - i
      · by_cases e2 : R (653 + j) = 0
        · left
          refine ⟨(nI (j + 1), τ), ?_, τ, rfl, F, go (Or.inl (NoneF_st e2))⟩
          unfold f_X11_nestsNext_l9 f_X11_nestsNext_j81
          dsimp only
          simp (disch := omega) only [bind_s, sum_l, sum_r, chkin, lit, nI_add, pk_mul, nI_clamp, nI_leI, nI_ltI, nI_eqI, nI_or, and1, shl1, shrx, nI_subx, pk_divx, pk_remx, nmod, nzx, if_tt, if_ff, bz_n1, bz_n0, nm1, nm2, wI_p, wI_inj, wI_n, nI_w, wI_ltI, wI_leI, nI_ltw, nI_lew, reduceIte, hRt τ F, rwN_a, hbits, e, e2]
        · obtain ⟨τ2, F2, hτ⟩ := find_R (hRt τ F) G hj
          rcases hτ with ⟨f1, f2⟩ | ⟨f1, s, f2, f3⟩
          · left
            refine ⟨(nI (j + 1), τ2), ?_, τ2, rfl, Fz_t F F2, go (Or.inl f2)⟩
            unfold f_X11_nestsNext_l9 f_X11_nestsNext_j81
            dsimp only
            simp (disch := omega) only [bind_s, sum_l, sum_r, chkin, lit, nI_add, pk_mul, nI_clamp, nI_leI, nI_ltI, nI_eqI, nI_or, and1, shl1, shrx, nI_subx, pk_divx, pk_remx, nmod, nzx, if_tt, if_ff, bz_n1, bz_n0, nm1, nm2, wI_p, wI_inj, wI_n, nI_w, wI_ltI, wI_leI, nI_ltw, nI_lew, reduceIte, hRt τ F, rwN_a, hbits, e, f1]
          · right
            refine ⟨.inr (nI j, τ2), ?_, Or.inr ⟨j, s, τ2, rfl, Fz_t F F2, ⟨hj, f2, fun g hg hB => hb g hg (by unfold Bef at hB; rw [e] at hB; exact hB)⟩, f3⟩⟩
            unfold f_X11_nestsNext_l9
            dsimp only
            simp (disch := omega) only [bind_s, sum_l, sum_r, chkin, lit, nI_add, pk_mul, nI_clamp, nI_leI, nI_ltI, nI_eqI, nI_or, and1, shl1, shrx, nI_subx, pk_divx, pk_remx, nmod, nzx, if_tt, if_ff, bz_n1, bz_n0, nm1, nm2, wI_p, wI_inj, wI_n, nI_w, wI_ltI, wI_leI, nI_ltw, nI_lew, reduceIte, hRt τ F, rwN_a, hbits, e, f1]
      · left
        refine ⟨(nI (j + 1), τ), ?_, τ, rfl, F, go (Or.inr e)⟩
        unfold f_X11_nestsNext_l9 f_X11_nestsNext_j81
        dsimp only
        simp (disch := omega) only [bind_s, sum_l, sum_r, chkin, lit, nI_add, pk_mul, nI_clamp, nI_leI, nI_ltI, nI_eqI, nI_or, and1, shl1, shrx, nI_subx, pk_divx, pk_remx, nmod, nzx, if_tt, if_ff, bz_n1, bz_n0, nm1, nm2, wI_p, wI_inj, wI_n, nI_w, wI_ltI, wI_leI, nI_ltw, nI_lew, reduceIte, hRt τ F, rwN_a, hbits, e]) (by
      rintro z ⟨τ, rfl, F, hb⟩
      refine ⟨.inl τ, ?_, Or.inl ⟨τ, rfl, F, fun g hg h => hb g hg (by omega)⟩⟩
      unfold f_X11_nestsNext_l9
      dsimp only
      simp (disch := omega) only [bind_s, sum_l, sum_r, chkin, lit, nI_add, pk_mul, nI_clamp, nI_leI, nI_ltI, nI_eqI, nI_or, and1, shl1, shrx, nI_subx, pk_divx, pk_remx, nmod, nzx, if_tt, if_ff, bz_n1, bz_n0, nm1, nm2, wI_p, wI_inj, wI_n, nI_w, wI_ltI, wI_leI, nI_ltw, nI_lew, reduceIte, hRt τ F, rwN_a])
    have e : nI (16 - i) + wI 1 = nI (16 - (i + 1)) := by
      obtain ⟨q, hq⟩ : ∃ q, 16 - i = q + 1 := ⟨15 - i, by omega⟩
      rw [hq, show 16 - (i + 1) = q by omega]
      exact pk_m1 q
    rcases p2 with ⟨τ', rfl, p3, p4⟩ | ⟨h, s, τ', rfl, p3, p4, p5⟩
    · left
      refine ⟨(nI (16 - (i + 1)), τ'), ?_, τ', rfl, p3, p4⟩
      unfold f_X11_nestsNext_l3
      dsimp only
      simp (disch := omega) only [bind_s, sum_l, sum_r, chkin, lit, nI_add, pk_mul, nI_clamp, nI_leI, nI_ltI, nI_eqI, nI_or, and1, shl1, shrx, nI_subx, pk_divx, pk_remx, nmod, nzx, if_tt, if_ff, bz_n1, bz_n0, nm1, nm2, wI_p, wI_inj, wI_n, nI_w, wI_ltI, wI_leI, nI_ltw, nI_lew, reduceIte, p1, e]
    · right
      refine ⟨.inr (nI h, τ'), ?_, Or.inr ⟨h, s, τ', rfl, p3, p4, p5⟩⟩
      unfold f_X11_nestsNext_l3
      dsimp only
      simp (disch := omega) only [bind_s, sum_l, sum_r, chkin, lit, nI_add, pk_mul, nI_clamp, nI_leI, nI_ltI, nI_eqI, nI_or, and1, shl1, shrx, nI_subx, pk_divx, pk_remx, nmod, nzx, if_tt, if_ff, bz_n1, bz_n0, nm1, nm2, wI_p, wI_inj, wI_n, nI_w, wI_ltI, wI_leI, nI_ltw, nI_lew, reduceIte, p1]) (by
    rintro z ⟨τ, rfl, F, hb⟩
    refine ⟨.inl τ, ?_, Or.inl ⟨τ, rfl, F, fun g hg => hb g hg (by have := (szh_in G hg).1; omega)⟩⟩
    unfold f_X11_nestsNext_l3
    dsimp only
    rw [if_pos (by decide)])
  rcases q2 with ⟨τ, rfl, F, hz⟩ | ⟨h, s, τ, rfl, F, hz, hE⟩
  · refine ⟨τ, F, Or.inl ⟨?_, hz⟩⟩
    unfold f_X11_nestsNext f_X11_nestsNext_0
    rw [show (16 : Int32) = nI 16 from rfl, q1]
    rfl
  · refine ⟨τ, F, Or.inr ⟨h, s, hz, ?_⟩⟩
    unfold f_X11_nestsNext f_X11_nestsNext_0
    rw [show (16 : Int32) = nI 16 from rfl, q1, bind_s, sum_r]
    dsimp only
    rw [nest_R (hRt τ F) G hz.1 hz.2.1 hE]
    rfl
def Fy (σ τ : St) : Prop := (∀ a, a ≠ 101 → a ≠ 102 → a ≠ 111 → a ≠ 113 → a ≠ 114 → τ a = σ a) ∧ ∀ j, j < 20 ∨ j = 21 ∨ 25 < j → τ 101 j = σ 101 j
theorem all_R (hR : σ 102 = rwN R) (G : Good R) : ∃ A m τ, lp f_X11_nestAll_l11 FU (nI 0, σ) = some (nI m, τ) ∧ Ch R m A ∧ Done A ∧ τ 102 = rwN A ∧ Fy σ τ := by
  obtain ⟨r, q1, A, m, τ, rfl, q2, q3, q4, q5⟩ := lp_fu (f := f_X11_nestAll_l11) (fun i z => ∃ A τ, z = (nI i, τ) ∧ Ch R i A ∧ τ 102 = rwN A ∧ Fy σ τ) (fun r => ∃ A m τ, r = (nI m, τ) ∧ Ch R m A ∧ Done A ∧ τ 102 = rwN A ∧ Fy σ τ) 21 (by decide) (nI 0, σ) ⟨R, σ, rfl, rfl, hR, fun _ _ _ _ _ _ => rfl, fun _ _ => rfl⟩ (by
    rintro i z hi ⟨A, τ, rfl, c1, hA, F⟩
    obtain ⟨GA, k0, k1, k2, k3⟩ := Ch_k G c1
    obtain ⟨τ2, F2, hτ⟩ := next_R hA GA
    have F3 : Fy σ τ2 := ⟨fun a h1 h2 h3 h4 h5 => by rw [F2.1 a h1 h3 h4 h5, F.1 a h1 h2 h3 h4 h5], fun j hj => by rw [F2.2 j hj, F.2 j hj]⟩
    rcases hτ with ⟨f1, f2⟩ | ⟨h, s, f2, f1⟩
    · right
      refine ⟨(nI i, τ2), ?_, A, i, τ2, rfl, c1, f2, by rw [F2.1 102 (by decide) (by decide) (by decide) (by decide), hA], F3⟩
      unfold f_X11_nestAll_l11
      dsimp only
      simp (disch := omega) only [bind_s, sum_l, sum_r, chkin, lit, nI_add, pk_mul, nI_clamp, nI_leI, nI_ltI, nI_eqI, nI_or, and1, shl1, shrx, nI_subx, pk_divx, pk_remx, nmod, nzx, if_tt, if_ff, bz_n1, bz_n0, nm1, nm2, wI_p, wI_inj, wI_n, nI_w, wI_ltI, wI_leI, nI_ltw, nI_lew, reduceIte, f1]
    · left
      refine ⟨(nI (i + 1), upA τ2 102 (rwN (rNest A h s))), ?_, rNest A h s, _, rfl, ⟨A, h, s, c1, f2, rfl⟩, upA_same .., fun a h1 h2 h3 h4 h5 => by rw [upA_ne _ _ h2, F3.1 a h1 h2 h3 h4 h5], fun j hj => by rw [upA_ne _ _ (by decide), F3.2 j hj]⟩
      unfold f_X11_nestAll_l11
      dsimp only
      simp (disch := omega) only [bind_s, sum_l, sum_r, chkin, lit, nI_add, pk_mul, nI_clamp, nI_leI, nI_ltI, nI_eqI, nI_or, and1, shl1, shrx, nI_subx, pk_divx, pk_remx, nmod, nzx, if_tt, if_ff, bz_n1, bz_n0, nm1, nm2, wI_p, wI_inj, wI_n, nI_w, wI_ltI, wI_leI, nI_ltw, nI_lew, reduceIte, f1]) (by
    rintro z ⟨A, τ, rfl, c1, hA, F⟩
    obtain ⟨GA, k0, k1, k2, k3⟩ := Ch_k G c1
    have := GA.2.2.1
    omega)
  exact ⟨A, m, τ, q1, q2, q3, q4, q5⟩
theorem call_nestAll (I : Inv σ) : Step0 f_X10_nestAll f_X11_nestAll σ := by
  obtain ⟨R, n, H, hv, V, len, tx, nr, rk, rp, nf, fk, fp, G, S, c, cx, r, rx⟩ := I
  obtain ⟨τ1, a1, a2, a3⟩ := CI_push c G
  obtain ⟨A, m, τ2, b1, b2, b3, b4, b5⟩ := all_C G a2.1
  have hf : f_X10_nestAll σ = some (nI m, τ2) := by
    unfold f_X10_nestAll f_X10_nestAll_0
    rw [a1, bind_s, show (0 : Int32) = nI 0 from rfl, show (16 : Int32) = nI 16 from rfl, b1]
    rfl
  have hc : ∀ a, 79 ≤ a → a ≠ 87 → a ≠ 88 → τ2 a = σ a := fun a h1 h2 h3 => by rw [b5 a (by omega) h2 h3, a3 a (by omega)]
  have r1 : RI R n H hv V (up τ2 101 0 (nI 0)) := RI_c (fun a h => by rw [up_k _ _ _ (by omega), hc a (by omega) (by omega) (by omega)]) (fun j h => by rw [up_j _ _ _ (by omega), hc 101 (by omega) (by omega) (by omega)]) r
  obtain ⟨τ3, d1, d2, d3, d4⟩ := RI_push r1 S.1
  obtain ⟨A', m', τ4, e1, e2, e3, e4, e5⟩ := all_R d2.1 G
  obtain ⟨em, eA⟩ := Ch_end b2 b3 e2 e3
  subst em eA
  have GA := (Ch_k G b2).1
  have hg : f_X11_nestAll τ2 = some (nI m, τ4) := by
    unfold f_X11_nestAll f_X11_nestAll_0
    rw [show (0 : Int32) = nI 0 from rfl, d1, bind_s, e1]
    rfl
  have key : ∀ a, a ≠ 101 → a ≠ 102 → a ≠ 104 → a ≠ 105 → a ≠ 111 → a ≠ 113 → a ≠ 114 → τ4 a = τ2 a := fun a h1 h2 h3 h4 h5 h6 h7 => by rw [e5.1 a h1 h2 h5 h6 h7, d3 a h1 h3 h4, up_k _ _ _ h1]
  refine ⟨τ2, nI m, τ4, hf, hg, A, min (n + 1) 8, pushH R H, hv, V, len, tx, nr, rk, rp, nf, fk, fp, GA, ⟨by omega, S.2⟩, ?_, ?_, ⟨e4, ?_, ?_, ?_, ?_⟩, ?_⟩
  · exact CI_c (σ := τ2) (fun a h => key a (by omega) (by omega) (by omega) (by omega) (by omega) (by omega) (by omega)) (CI_now a2 b4 (fun a h => b5 a (by omega) (by omega) (by omega)))
  · exact CX_c (fun a h => by rw [key a (by omega) (by omega) (by omega) (by omega) (by omega) (by omega) (by omega), hc a (by omega) (by omega) (by omega)]) cx
  · rw [e5.2 5 (by omega)]; exact d2.2.1
  · rw [e5.1 105 (by decide) (by decide) (by decide) (by decide) (by decide)]; exact d2.2.2.1
  · rw [e5.2 6 (by omega)]; exact d2.2.2.2.1
  · rw [e5.1 103 (by decide) (by decide) (by decide) (by decide) (by decide)]; exact d2.2.2.2.2
  · refine RX_c (fun a h => ?_) (fun j h => ?_) rx
    · rw [key a (by omega) (by omega) (by omega) (by omega) (by omega) (by omega) (by omega), hc a (by omega) (by omega) (by omega)]
    · rw [e5.2 j (by omega), d4 j (by omega), up_j _ _ _ (by omega), hc 101 (by omega) (by omega) (by omega)]
