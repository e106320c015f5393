/-! PURE FACTS, 36: the call that places -/
variable {k n len nr nf : Nat} {R V tx : Nat → Nat} {H : Nat → Nat → Nat} {hv : Bool} {rk rp fk fp : Nat → Int32} {σ τ : St}
theorem jn_3 (R : Nat → Nat) (h s t : Nat) (X Y : Int64) : jn R h s t X Y ≤ 3 := by
  unfold jn
  (repeat' split) <;> omega
theorem jn_0 {h s t : Nat} {X Y : Int64} (h0 : jn R h s t X Y = 0) : gr R h s t = true ∧ R (653 + h) ≠ 0 ∧ R 2 ≠ 20 ∧ fb R h s t X Y = 16 := by
  unfold jn at h0
  by_cases c1 : gr R h s t = false
  · rw [if_pos c1] at h0; omega
  rw [if_neg c1] at h0
  by_cases c2 : R (653 + h) = 0
  · rw [if_pos c2] at h0; omega
  rw [if_neg c2] at h0
  by_cases c3 : R 2 = 20
  · rw [if_pos c3] at h0; omega
  rw [if_neg c3] at h0
  by_cases c4 : fb R h s t X Y = 16
  · exact ⟨by cases e : gr R h s t <;> simp_all, c2, c3, c4⟩
  · rw [if_neg c4] at h0; omega
theorem jn_fits (G : Good R) {h s t : Nat} (hh : h < R 1) (hs : s < R 0) {X Y : Int64} (h0 : jn R h s t X Y = 0) : ∃ x y, x < 10 ∧ y < 10 ∧ X = lN x ∧ Y = lN y ∧ Fits R h s x y t := by
  obtain ⟨_, _, _, h4⟩ := jn_0 h0
  rcases fb_c R h s t X Y with h1 | h1
  · exact fits_of G hh hs h1.2
  · have := h1.1; omega
theorem keepw_eq {m : Nat} (hm : m ≤ 3) (hw : σ 101 20 = nI m) : ∃ τ, lp f_X11_place_l77 FU (nI 0, σ) = some τ ∧ (∀ a, a ≠ 107 → a ≠ 108 → τ a = σ a) ∧ ∀ i, i < m → τ 107 i = σ 113 i ∧ τ 108 i = σ 114 i := by
  obtain ⟨r, h1, h2⟩ := lp_fu (f := f_X11_place_l77) (fun i z => ∃ τ, z = (nI i, τ) ∧ (∀ a, a ≠ 107 → a ≠ 108 → τ a = σ a) ∧ ∀ j, j < i → τ 107 j = σ 113 j ∧ τ 108 j = σ 114 j) (fun τ => (∀ a, a ≠ 107 → a ≠ 108 → τ a = σ a) ∧ ∀ j, j < m → τ 107 j = σ 113 j ∧ τ 108 j = σ 114 j) m (by omega) (nI 0, σ) ⟨σ, rfl, fun _ _ _ => rfl, fun j hj => absurd hj (Nat.not_lt_zero _)⟩ (by
    rintro i z hi ⟨τ, rfl, q1, q2⟩
    left
    refine ⟨(nI (i + 1), up (up τ 107 i (σ 113 i)) 108 i (σ 114 i)), ?_, _, rfl, fun a h1 h2 => by rw [up_k _ _ _ h2, up_k _ _ _ h1, q1 a h1 h2], fun j hj => ?_⟩
    · have e1 : τ 101 20 = nI m := by rw [q1 101 (by decide) (by decide), hw]
      have e2 : τ 113 = σ 113 := q1 113 (by decide) (by decide)
      have e3 : (up τ 107 i (σ 113 i)) 114 = σ 114 := by rw [up_k _ _ _ (by decide), q1 114 (by decide) (by decide)]
      unfold f_X11_place_l77
      dsimp only
      simp (disch := omega) only [bind_s, sum_l, sum_r, chkin, lit, nI_add, pk_mul, nI_clamp, nI_leI, nI_ltI, nI_eqI, nI_or, and1, shl1, shrx, nI_subx, pk_divx, pk_remx, nmod, nzx, if_tt, if_ff, bz_n1, bz_n0, nm1, nm2, wI_p, wI_inj, wI_n, nI_w, wI_ltI, wI_leI, nI_ltw, nI_lew, reduceIte, e1, e2, e3]
    · by_cases e : j = i
      · subst e
        exact ⟨by rw [up_k _ _ _ (by decide), up_s], by rw [up_s]⟩
      · have := q2 j (by omega)
        exact ⟨by rw [up_k _ _ _ (by decide), up_j _ _ _ e]; exact this.1, by rw [up_j _ _ _ e, up_k _ _ _ (by decide)]; exact this.2⟩) (by
    rintro z ⟨τ, rfl, q1, q2⟩
    refine ⟨τ, ?_, q1, q2⟩
    have e1 : τ 101 20 = nI m := by rw [q1 101 (by decide) (by decide), hw]
    unfold f_X11_place_l77
    dsimp only
    simp (disch := omega) only [bind_s, sum_l, sum_r, chkin, lit, nI_add, pk_mul, nI_clamp, nI_leI, nI_ltI, nI_eqI, nI_or, and1, shl1, shrx, nI_subx, pk_divx, pk_remx, nmod, nzx, if_tt, if_ff, bz_n1, bz_n0, nm1, nm2, wI_p, wI_inj, wI_n, nI_w, wI_ltI, wI_leI, nI_ltw, nI_lew, reduceIte, e1])
  exact ⟨r, h1, h2⟩
set_option maxHeartbeats 4000000 in
theorem call_place (I : Inv σ) (x1 x2 x3 x4 x5 : Int32) : Step (f_L_place x1 x2 x3 x4 x5) (f_X11_place x1 x2 x3 x4 x5) σ := by
  have I0 := I
  obtain ⟨R, n, H, hv, V, len, tx, nr, rk, rp, nf, fk, fp, G, S, c, cx, r, rx⟩ := I
  have hR := r.1
  have g0 := G.1
  have g1 := G.2.1
  have g2 := G.2.2.1
  rcases int_n x1 (n := R 1) (by omega) with ⟨h, hh, rfl⟩ | hx
  · have hH := GH G hh
    rcases int_n x2 (n := R 0) (by omega) with ⟨s, hs, rfl⟩ | hx
    · rcases rng x5 (a := 0) (b := 3) (by decide) (by decide) with ⟨t, t1, t2, rfl⟩ | ht
      · obtain ⟨τ, a1, a2, a3, a4⟩ := adm_eq c.1 G hh hs (show t < 4 by omega) x3 x4
        have hct : f_X10_checkTurn (nI t) σ = some (.inr σ) := by
          unfold f_X10_checkTurn f_X10_checkTurn_0
          simp (disch := omega) only [bind_s, sum_l, sum_r, chkin, lit, nI_add, pk_mul, nI_clamp, nI_leI, nI_ltI, nI_eqI, nI_or, and1, shl1, shrx, nI_subx, pk_divx, pk_remx, nmod, nzx, if_tt, if_ff, bz_n1, bz_n0, nm1, nm2, wI_p, wI_inj, wI_n, nI_w, wI_ltI, wI_leI, nI_ltw, nI_lew, reduceIte, wi_in t1 t2]
        by_cases e : jn R h s t x3.toInt64 x4.toInt64 = 0
        · obtain ⟨j1, j2, j3, j4⟩ := jn_0 e
          obtain ⟨x, y, hx, hy, ex, ey, F⟩ := jn_fits G hh hs e
          have ex := i64_n (by omega) ex
          have ey := i64_n (by omega) ey
          subst ex ey
          have h2 : R 2 < 20 := by omega
          have hFc : Fc σ τ := fun a h1 h2 => a3 e a (by omega)
          have G' := rPart_G G h2 hh hs (show t < 4 by omega) F
          refine step_change (R' := rPart R h s x y t) (v := nI (R 2)) (υ := τ) G G' S c cx r rx hFc (fun τ' cτ hp => ?_) (fun τ' rτ => ?_)
          · obtain ⟨τ2, m1, m2, m3⟩ := createPart_eq cτ.1 G h2 hh hs (show t < 4 by omega) F (by omega)
            refine ⟨τ2, L_place_0 ?_, m2, fun a h1 _ => m3 a (by omega)⟩
            unfold f_X10_place f_X10_place_0
            simp (disch := omega) only [bind_s, sum_l, sum_r, chkin, lit, nI_add, pk_mul, nI_clamp, nI_leI, nI_ltI, nI_eqI, nI_or, and1, shl1, shrx, nI_subx, pk_divx, pk_remx, nmod, nzx, if_tt, if_ff, bz_n1, bz_n0, nm1, nm2, wI_p, wI_inj, wI_n, nI_w, wI_ltI, wI_leI, nI_ltw, nI_lew, reduceIte, ckH_in c.1 G hh, ckS_in c.1 G hs, hct, a1, bN_e0, e, decide_true, reduceCtorEq, hp, m1]
          · have hR1 : (up τ' 101 0 (nI 0)) 102 = rwN R := u0R rτ.1 (nI 0)
            obtain ⟨row, l1, l2⟩ := looks_eq hR1 G s (by omega)
            have hR2 : (upA (up τ' 101 0 (nI 0)) 111 row) 102 = rwN R := by rw [upA_ne _ _ (by decide), hR1]
            have hC : Cov R s ((upA (up τ' 101 0 (nI 0)) 111 row) 111) := by rw [upA_same]; exact l2
            obtain ⟨υ, b1, b2, b3, b4⟩ := judges_eq hR2 G hh hs (show t < 4 by omega) hC (nI x) (nI y)
            rw [e] at b3
            refine ⟨υ, Fr_t (Fr_t (u0F _ _) (Fr_upA _ _ (by omega))) (Fw_Fr b2), by rw [b2.2 0 (by decide), upA_ne _ _ (by decide), up_s]; rfl, fun τ2 ch hR3 _ _ => ⟨τ2, upA τ2 102 (rwN (rPart R h s x y t)), Fr_r _, rfl, ?_, upA_same .., fun a ha => upA_ne _ _ ha⟩⟩
            unfold f_X11_place f_X11_place_0
            simp (disch := omega) only [bind_s, sum_l, sum_r, chkin, lit, nI_add, pk_mul, nI_clamp, nI_leI, nI_ltI, nI_eqI, nI_or, and1, shl1, shrx, nI_subx, pk_divx, pk_remx, nmod, nzx, if_tt, if_ff, bz_n1, bz_n0, nm1, nm2, wI_p, wI_inj, wI_n, nI_w, wI_ltI, wI_leI, nI_ltw, nI_lew, reduceIte, isShape_in (u0R rτ.1 _) G hh, isSheet_in (u0R rτ.1 _) G hs, ri_in, l1, b1, b3, ch, places_eq hR3 h2 (show h < 8 by omega) (show 1 ≤ R (653 + h) by omega)]
        · have h3 := jn_3 R h s t x3.toInt64 x4.toInt64
          have hf : f_L_place (nI h) (nI s) x3 x4 (nI t) σ = some (nI 3, τ) := by
            refine L_place_3 ?_
            unfold f_X10_place f_X10_place_0
            simp (disch := omega) only [bind_s, sum_l, sum_r, chkin, lit, nI_add, pk_mul, nI_clamp, nI_leI, nI_ltI, nI_eqI, nI_or, and1, shl1, shrx, nI_subx, pk_divx, pk_remx, nmod, nzx, if_tt, if_ff, bz_n1, bz_n0, nm1, nm2, wI_p, wI_inj, wI_n, nI_w, wI_ltI, wI_leI, nI_ltw, nI_lew, reduceIte, ckH_in c.1 G hh, ckS_in c.1 G hs, hct, a1, bN_e0, e, decide_false]
          obtain ⟨a5, a6⟩ := a4 e
          have hτ : ∀ a, 87 ≤ a → τ a = σ a := fun a ha => a2 a (by omega) (by omega) (by omega) (by omega)
          have hR0 : τ 102 = rwN R := by rw [hτ 102 (by omega), hR]
          have hR1 : (up τ 101 0 (nI 0)) 102 = rwN R := u0R hR0 (nI 0)
          obtain ⟨row, l1, l2⟩ := looks_eq hR1 G s (by omega)
          have hR2 : (upA (up τ 101 0 (nI 0)) 111 row) 102 = rwN R := by rw [upA_ne _ _ (by decide), hR1]
          have hC : Cov R s ((upA (up τ 101 0 (nI 0)) 111 row) 111) := by rw [upA_same]; exact l2
          obtain ⟨υ, b1, b2, b3, b4⟩ := judges_eq hR2 G hh hs (show t < 4 by omega) hC x3 x4
          generalize hjn : jn R h s t x3.toInt64 x4.toInt64 = m at *
          obtain ⟨ω, w1, w2, w3⟩ := keepw_eq (σ := up υ 101 13 (nI m)) (m := m) h3 (by rw [up_j _ _ _ (by decide), b3])
          have hυ : ∀ a, a ≠ 101 → a ≠ 111 → a ≠ 113 → a ≠ 114 → υ a = τ a := fun a q1 q2 q3 q4 => by rw [b2.1 a q1 q3 q4, upA_ne _ _ q2, up_k _ _ _ q1]
          have hυ1 : ∀ j, j ≠ 20 → j ≠ 0 → υ 101 j = τ 101 j := fun j q1 q2 => by rw [b2.2 j q1, upA_ne _ _ (by decide), up_j _ _ _ q2]
          have hg : f_X11_place (nI h) (nI s) x3 x4 (nI t) τ = some (0, up ω 101 0 (nI 3)) := by
            unfold f_X11_place f_X11_place_0
            simp (disch := omega) only [bind_s, sum_l, sum_r, chkin, lit, nI_add, pk_mul, nI_clamp, nI_leI, nI_ltI, nI_eqI, nI_or, and1, shl1, shrx, nI_subx, pk_divx, pk_remx, nmod, nzx, if_tt, if_ff, bz_n1, bz_n0, nm1, nm2, wI_p, wI_inj, wI_n, nI_w, wI_ltI, wI_leI, nI_ltw, nI_lew, reduceIte, isShape_in (u0R hR0 _) G hh, isSheet_in (u0R hR0 _) G hs, ri_in, l1, b1, b3]
            rw [w1]
            rfl
          have hω : ∀ a, a ≠ 101 → a ≠ 107 → a ≠ 108 → a ≠ 111 → a ≠ 113 → a ≠ 114 → (up ω 101 0 (nI 3)) a = τ a := fun a q1 q2 q3 q4 q5 q6 => by rw [up_k _ _ _ q1, w2 a q2 q3, up_k _ _ _ q1, hυ a q1 q4 q5 q6]
          have hω1 : ∀ j, j ≠ 0 → j ≠ 13 → j ≠ 20 → (up ω 101 0 (nI 3)) 101 j = τ 101 j := fun j q1 q2 q3 => by rw [up_j _ _ _ q1, w2 101 (by decide) (by decide), up_j _ _ _ q2, hυ1 j q3 q1]
          obtain ⟨x1, x2, x3', x4', x5', x6'⟩ := cx
          obtain ⟨y1, y2, y3, y4, y5, y6⟩ := rx
          refine ⟨nI 3, τ, 0, up ω 101 0 (nI 3), hf, hg, up_s .., fun e => absurd e (by decide), R, n, H, hv, V, len, tx, m, jk R h s t x3.toInt64 x4.toInt64, jp R h s t x3.toInt64 x4.toInt64, nf, fk, fp, G, ⟨S.1, S.2.1, S.2.2.1, h3, S.2.2.2.2⟩, ?_, ⟨?_, ?_, ?_, ?_, ?_, ?_⟩, ?_, ⟨?_, ?_, ?_, ?_, ?_, ?_⟩⟩
          · exact CI_c (fun a ha => by rw [hω a (by omega) (by omega) (by omega) (by omega) (by omega) (by omega), a2 a (by omega) (by omega) (by omega) (by omega)]) c
          · rw [hω 99 (by decide) (by decide) (by decide) (by decide) (by decide) (by decide), hτ 99 (by decide), x1]
          · rw [hω 100 (by decide) (by decide) (by decide) (by decide) (by decide) (by decide), hτ 100 (by decide)]; exact x2
          · rw [hω 80 (by decide) (by decide) (by decide) (by decide) (by decide) (by decide), a5]
          · rw [hω 81 (by decide) (by decide) (by decide) (by decide) (by decide) (by decide), hω 82 (by decide) (by decide) (by decide) (by decide) (by decide) (by decide)]; exact a6
          · rw [hω 83 (by decide) (by decide) (by decide) (by decide) (by decide) (by decide), a2 83 (by decide) (by decide) (by decide) (by decide), x5']
          · rw [hω 84 (by decide) (by decide) (by decide) (by decide) (by decide) (by decide), hω 85 (by decide) (by decide) (by decide) (by decide) (by decide) (by decide), a2 84 (by decide) (by decide) (by decide) (by decide), a2 85 (by decide) (by decide) (by decide) (by decide)]; exact x6'
          · exact RI_c (fun a ha => by rw [hω a (by omega) (by omega) (by omega) (by omega) (by omega) (by omega), hτ a (by omega)]) (fun j hj => by rw [hω1 j (by omega) (by omega) (by omega), hτ 101 (by decide)]) r
          · rw [hω1 8 (by decide) (by decide) (by decide), hτ 101 (by decide), y1]
          · rw [hω 106 (by decide) (by decide) (by decide) (by decide) (by decide) (by decide), hτ 106 (by decide)]; exact y2
          · rw [up_j _ _ _ (by decide), w2 101 (by decide) (by decide), up_s]
          · intro i hi
            have w4 := w3 i hi
            have b5 := b4 i hi
            rw [up_k _ _ _ (by decide), up_k _ _ _ (by decide)] at w4
            rw [up_k _ _ _ (by decide), up_k _ _ _ (by decide), w4.1, w4.2]
            exact b5
          · rw [hω1 14 (by decide) (by decide) (by decide), hτ 101 (by decide), y5]
          · rw [hω 109 (by decide) (by decide) (by decide) (by decide) (by decide) (by decide), hω 110 (by decide) (by decide) (by decide) (by decide) (by decide) (by decide), hτ 109 (by decide), hτ 110 (by decide)]; exact y6
      · refine step_no I0 (L_place_2 ?_) (by decide) ?_
        · unfold f_X10_place f_X10_place_0 f_X10_checkTurn f_X10_checkTurn_0
          simp (disch := omega) only [bind_s, sum_l, sum_r, chkin, lit, nI_add, pk_mul, nI_clamp, nI_leI, nI_ltI, nI_eqI, nI_or, and1, shl1, shrx, nI_subx, pk_divx, pk_remx, nmod, nzx, if_tt, if_ff, bz_n1, bz_n0, nm1, nm2, wI_p, wI_inj, wI_n, nI_w, wI_ltI, wI_leI, nI_ltw, nI_lew, reduceIte, ckH_in c.1 G hh, ckS_in c.1 G hs, wi_out ht]
        · unfold f_X11_place f_X11_place_0
          simp (disch := omega) only [bind_s, sum_l, sum_r, chkin, lit, nI_add, pk_mul, nI_clamp, nI_leI, nI_ltI, nI_eqI, nI_or, and1, shl1, shrx, nI_subx, pk_divx, pk_remx, nmod, nzx, if_tt, if_ff, bz_n1, bz_n0, nm1, nm2, wI_p, wI_inj, wI_n, nI_w, wI_ltI, wI_leI, nI_ltw, nI_lew, reduceIte, isShape_in (u0R hR _) G hh, isSheet_in (u0R hR _) G hs, ri_out ht, fails_eq]
    · refine step_no I0 (L_place_1 ?_) (by decide) ?_
      · unfold f_X10_place f_X10_place_0
        simp (disch := omega) only [bind_s, sum_l, sum_r, chkin, lit, nI_add, pk_mul, nI_clamp, nI_leI, nI_ltI, nI_eqI, nI_or, and1, shl1, shrx, nI_subx, pk_divx, pk_remx, nmod, nzx, if_tt, if_ff, bz_n1, bz_n0, nm1, nm2, wI_p, wI_inj, wI_n, nI_w, wI_ltI, wI_leI, nI_ltw, nI_lew, reduceIte, ckH_in c.1 G hh, ckS_out c.1 hx]
      · unfold f_X11_place f_X11_place_0 f_X11_place_j21
        simp (disch := omega) only [bind_s, sum_l, sum_r, chkin, lit, nI_add, pk_mul, nI_clamp, nI_leI, nI_ltI, nI_eqI, nI_or, and1, shl1, shrx, nI_subx, pk_divx, pk_remx, nmod, nzx, if_tt, if_ff, bz_n1, bz_n0, nm1, nm2, wI_p, wI_inj, wI_n, nI_w, wI_ltI, wI_leI, nI_ltw, nI_lew, reduceIte, isShape_in (u0R hR _) G hh, isSheet_out (u0R hR _) G hx, fails_eq]
  · refine step_no I0 (L_place_1 ?_) (by decide) ?_
    · unfold f_X10_place f_X10_place_0
      simp (disch := omega) only [bind_s, sum_l, sum_r, chkin, lit, nI_add, pk_mul, nI_clamp, nI_leI, nI_ltI, nI_eqI, nI_or, and1, shl1, shrx, nI_subx, pk_divx, pk_remx, nmod, nzx, if_tt, if_ff, bz_n1, bz_n0, nm1, nm2, wI_p, wI_inj, wI_n, nI_w, wI_ltI, wI_leI, nI_ltw, nI_lew, reduceIte, ckH_out c.1 hx]
    · unfold f_X11_place f_X11_place_0 f_X11_place_j21
      simp (disch := omega) only [bind_s, sum_l, sum_r, chkin, lit, nI_add, pk_mul, nI_clamp, nI_leI, nI_ltI, nI_eqI, nI_or, and1, shl1, shrx, nI_subx, pk_divx, pk_remx, nmod, nzx, if_tt, if_ff, bz_n1, bz_n0, nm1, nm2, wI_p, wI_inj, wI_n, nI_w, wI_ltI, wI_leI, nI_ltw, nI_lew, reduceIte, isShape_out (u0R hR _) G hx, fails_eq]
