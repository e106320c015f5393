/-! PURE FACTS, 28: more simple calls -/
variable {k n len nr nf : Nat} {R V tx : Nat → Nat} {H : Nat → Nat → Nat} {hv : Bool} {rk rp fk fp : Nat → Int32} {σ τ : St}
theorem ckS_in (T : ShR 1 R σ) (G : Good R) {s : Nat} (hs : s < R 0) : f_X10_checkSheet (nI s) σ = some (.inr σ) := by
  unfold f_X10_checkSheet f_X10_checkSheet_0
  rw [has_in (t := 2) (show σ 2 2 = nI (R 0) from T.2.1.2.1) (by have := G.1; omega) hs]
  rfl
theorem ckS_out (T : ShR 1 R σ) {x : Int32} (h : x < 0 ∨ (¬ x < 0 ∧ nI (R 0) ≤ x)) : f_X10_checkSheet x σ = some (.inl ("java/lang/IndexOutOfBoundsException", σ)) := by
  unfold f_X10_checkSheet f_X10_checkSheet_0
  rw [has_out (t := 2) (show σ 2 2 = nI (R 0) from T.2.1.2.1) h]
  rfl
theorem ckH_in (T : ShR 1 R σ) (G : Good R) {s : Nat} (hs : s < R 1) : f_X10_checkShape (nI s) σ = some (.inr σ) := by
  unfold f_X10_checkShape f_X10_checkShape_0
  rw [has_in (t := 4) (show σ 4 2 = nI (R 1) from T.2.1.2.2.2.1) (by have := G.2.1; omega) hs]
  rfl
theorem ckH_out (T : ShR 1 R σ) {x : Int32} (h : x < 0 ∨ (¬ x < 0 ∧ nI (R 1) ≤ x)) : f_X10_checkShape x σ = some (.inl ("java/lang/IndexOutOfBoundsException", σ)) := by
  unfold f_X10_checkShape f_X10_checkShape_0
  rw [has_out (t := 4) (show σ 4 2 = nI (R 1) from T.2.1.2.2.2.1) h]
  rfl
theorem ckP_in (T : ShR 1 R σ) (G : Good R) {s : Nat} (hs : s < R 2) : f_X10_checkPart (nI s) σ = some (.inr σ) := by
  unfold f_X10_checkPart f_X10_checkPart_0
  rw [has_in (t := 6) (show σ 6 2 = nI (R 2) from T.2.1.2.2.2.2.2) (by have := G.2.2.1; omega) hs]
  rfl
theorem ckP_out (T : ShR 1 R σ) {x : Int32} (h : x < 0 ∨ (¬ x < 0 ∧ nI (R 2) ≤ x)) : f_X10_checkPart x σ = some (.inl ("java/lang/IndexOutOfBoundsException", σ)) := by
  unfold f_X10_checkPart f_X10_checkPart_0
  rw [has_out (t := 6) (show σ 6 2 = nI (R 2) from T.2.1.2.2.2.2.2) h]
  rfl
theorem pred_in {j n : Nat} (hj : j < n) (hn : n < 2 ^ 20) : f_X10_isWithin (nI j) (nI 0) (nI n - nI 1) = some (nI 1) := by
  have h := in_in hj hn
  rw [in_eq] at h
  rw [within_eq]
  exact h
theorem pred_out {n : Nat} {x : Int32} (hn : n < 2 ^ 20) (h : x < 0 ∨ (¬ x < 0 ∧ nI n ≤ x)) : f_X10_isWithin x (nI 0) (nI n - nI 1) = some (nI 0) := by
  have h := in_out hn h
  rw [in_eq] at h
  rw [within_eq]
  exact h
theorem ckC_in (T : ShR 1 R σ) (G : Good R) {s c : Nat} (hs : s < R 0) (hc : c < sc R s * sr R s) : f_X10_checkCell (nI s) (nI c) σ = some (.inr σ) := by
  have hS := GS G hs
  unfold f_X10_checkCell f_X10_checkCell_0
  rw [ckS_in T G hs, bind_s, sum_r, cellsOf_eq T G hs, bind_s]
  show (f_X10_isWithin (nI c) (nI 0) (nI (sc R s * sr R s) - nI 1)).bind _ = _
  rw [pred_in hc (by omega)]
  rfl
theorem ckC_out (T : ShR 1 R σ) (G : Good R) {s : Nat} {x : Int32} (hs : s < R 0) (h : x < 0 ∨ (¬ x < 0 ∧ nI (sc R s * sr R s) ≤ x)) : f_X10_checkCell (nI s) x σ = some (.inl ("java/lang/IndexOutOfBoundsException", σ)) := by
  have hS := GS G hs
  unfold f_X10_checkCell f_X10_checkCell_0
  rw [ckS_in T G hs, bind_s, sum_r, cellsOf_eq T G hs, bind_s]
  show (f_X10_isWithin x (nI 0) (nI (sc R s * sr R s) - nI 1)).bind _ = _
  rw [pred_out (by omega) h]
  rfl
theorem ckC_no (T : ShR 1 R σ) {x y : Int32} (h : x < 0 ∨ (¬ x < 0 ∧ nI (R 0) ≤ x)) : f_X10_checkCell x y σ = some (.inl ("java/lang/IndexOutOfBoundsException", σ)) := by
  unfold f_X10_checkCell f_X10_checkCell_0
  rw [ckS_out T h]
  rfl
/-- a call that only asks, and is answered -/
theorem step_ok {f g : St → Option (Int32 × St)} {v : Int32} (I : Inv σ) (hf : f σ = some (nI 0, up τ 122 0 v)) (F : Fc σ τ) (hg : ∀ υ, (∀ a, 101 ≤ a → a ≠ 122 → υ a = σ a) → ∃ τ', g υ = some (v, τ') ∧ Fr υ τ' ∧ τ' 101 0 = nI 0) : Step f g σ :=
  step_ask I hf (Fc_t F (Fc_up _ _ _ (Or.inr rfl))) (hg _ (fun a h1 h2 => by rw [up_k _ _ _ h2]; exact F a (by omega) h2)) (fun _ => up_s ..)
/-- a call that only asks, and is refused -/
theorem step_bad {f g : St → Option (Int32 × St)} {c : Int32} (I : Inv σ) (hc : c ≠ 0) (hf : f σ = some (c, τ)) (F : Fc σ τ) (hg : ∀ υ, (∀ a, 101 ≤ a → a ≠ 122 → υ a = σ a) → ∃ w τ', g υ = some (w, τ') ∧ Fr υ τ' ∧ τ' 101 0 = c) : Step f g σ := by
  obtain ⟨w, τ', h1, h2, h3⟩ := hg τ (fun a h1 h2 => F a (by omega) h2)
  exact step_ask I hf F ⟨τ', h1, h2, h3⟩ (fun e => absurd e hc)
theorem call_cell (I : Inv σ) (x1 x2 : Int32) : Step (f_L_cell x1 x2) (f_X11_cell x1 x2) σ := by
  have I0 := I
  obtain ⟨R, n, H, hv, V, len, tx, nr, rk, rp, nf, fk, fp, G, S, c, cx, r, rx⟩ := I
  have hR := r.1
  have g0 := G.1
  rcases int_n x1 (n := R 0) (by omega) with ⟨s, hs, rfl⟩ | h
  · have hS := GS G hs
    rcases int_n x2 (n := sc R s * sr R s) (by omega) with ⟨d, hd, rfl⟩ | h
    · refine step_ok I0 (L_cell_0 (v := wI (on R s d)) (τ := σ) ?_) (Fc_r σ) (fun υ hυ => ?_)
      · unfold f_X10_cell f_X10_cell_0
        simp (disch := omega) only [bind_s, sum_l, sum_r, chkin, lit, nI_add, pk_mul, nI_clamp, nI_leI, nI_ltI, nI_eqI, nI_or, and1, shl1, shrx, nI_subx, pk_divx, pk_remx, nmod, nzx, if_tt, if_ff, bz_n1, bz_n0, nm1, nm2, wI_p, wI_inj, wI_n, nI_w, wI_ltI, wI_leI, nI_ltw, nI_lew, reduceIte, ckC_in c.1 G hs hd, onCell_eq c.1 G hs hd]
      · have hR1 : υ 102 = rwN R := by rw [hυ 102 (by omega) (by omega), hR]
        have hcl := ck_lt R s d
        have hg2 := G.2.2.1
        obtain ⟨row, l1, l2⟩ := looks_eq (u0R hR1 (nI 0)) G s (by omega)
        have hR2 : (upA (up υ 101 0 (nI 0)) 111 row) 102 = rwN R := by rw [upA_ne _ _ (by decide), u0R hR1]
        refine ⟨upA (up υ 101 0 (nI 0)) 111 row, ?_, Fr_t (u0F _ _) (Fr_upA _ _ (by omega)), by rw [upA_ne _ _ (by decide), up_s]⟩
        have l1' : f_X11_looks (nI s) (up υ 101 0 (nI 0)) = some (upA (up υ 101 0 (nI 0)) 111 row) := l1
        have l3 := l2 d (by omega)
        unfold f_X11_cell f_X11_cell_0
        simp (disch := omega) only [bind_s, sum_l, sum_r, chkin, lit, nI_add, pk_mul, nI_clamp, nI_leI, nI_ltI, nI_eqI, nI_or, and1, shl1, shrx, nI_subx, pk_divx, pk_remx, nmod, nzx, if_tt, if_ff, bz_n1, bz_n0, nm1, nm2, wI_p, wI_inj, wI_n, nI_w, wI_ltI, wI_leI, nI_ltw, nI_lew, reduceIte, isSheet_in (u0R hR1 _) G hs, cellsR_eq (u0R hR1 _) hS.1, ri_in, l1', upA_same, l3, usable_eq hR2 G hs, bN_e0]
        have hu := on_cases G hs hd
        unfold on at *
        by_cases e : ck R s d = 1
        · rw [if_pos e]
          rw [if_pos e] at hu
          rw [if_pos e]
          rcases hu with e2 | e2 | e2
          · simp [e2.2.1]
          · simp [e2.2.1]
          · omega
        · rw [if_neg e, if_neg e]
    · refine step_no I0 (L_cell_1 ?_) (by decide) ?_
      · unfold f_X10_cell f_X10_cell_0
        simp (disch := omega) only [bind_s, sum_l, sum_r, chkin, lit, nI_add, pk_mul, nI_clamp, nI_leI, nI_ltI, nI_eqI, nI_or, and1, shl1, shrx, nI_subx, pk_divx, pk_remx, nmod, nzx, if_tt, if_ff, bz_n1, bz_n0, nm1, nm2, wI_p, wI_inj, wI_n, nI_w, wI_ltI, wI_leI, nI_ltw, nI_lew, reduceIte, ckC_out c.1 G hs h]
      · unfold f_X11_cell f_X11_cell_0 f_X11_cell_j28
        have := in_out (n := sc R s * sr R s) (by omega) h
        simp only [lit, isSheet_in (u0R hR _) G hs, cellsR_eq (u0R hR _) hS.1, this, bind_s, n10', if_false, nn0, if_true, fails_eq]
  · refine step_no I0 (L_cell_1 ?_) (by decide) ?_
    · unfold f_X10_cell f_X10_cell_0
      simp (disch := omega) only [bind_s, sum_l, sum_r, chkin, lit, nI_add, pk_mul, nI_clamp, nI_leI, nI_ltI, nI_eqI, nI_or, and1, shl1, shrx, nI_subx, pk_divx, pk_remx, nmod, nzx, if_tt, if_ff, bz_n1, bz_n0, nm1, nm2, wI_p, wI_inj, wI_n, nI_w, wI_ltI, wI_leI, nI_ltw, nI_lew, reduceIte, ckC_no c.1 h]
    · unfold f_X11_cell f_X11_cell_0 f_X11_cell_j28
      simp (disch := omega) only [bind_s, sum_l, sum_r, chkin, lit, nI_add, pk_mul, nI_clamp, nI_leI, nI_ltI, nI_eqI, nI_or, and1, shl1, shrx, nI_subx, pk_divx, pk_remx, nmod, nzx, if_tt, if_ff, bz_n1, bz_n0, nm1, nm2, wI_p, wI_inj, wI_n, nI_w, wI_ltI, wI_leI, nI_ltw, nI_lew, reduceIte, isSheet_out (u0R hR _) G h, fails_eq]
theorem call_spoil (I : Inv σ) (x1 x2 : Int32) : Step (f_L_spoil x1 x2) (f_X11_spoil x1 x2) σ := by
  have I0 := I
  obtain ⟨R, n, H, hv, V, len, tx, nr, rk, rp, nf, fk, fp, G, S, c, cx, r, rx⟩ := I
  have hR := r.1
  have g0 := G.1
  rcases int_n x1 (n := R 0) (by omega) with ⟨s, hs, rfl⟩ | h
  · have hS := GS G hs
    rcases int_n x2 (n := sc R s * sr R s) (by omega) with ⟨d, hd, rfl⟩ | h
    · have hon := on_lt G hs hd
      have hfr := on_fr G hs hd
      by_cases e : on R s d = 1
      · have G' := spo_G G hs hd e
        have hs' : s < (spo R s d) 0 := by
          have : (spo R s d) 0 = R 0 := (rUse_n (by omega)).1 0 (by omega)
          omega
        refine step_change (R' := spo R s d) (v := nI (cnt (fun j => decide (on (spo R s d) s j = 1)) (sc (spo R s d) s * sr (spo R s d) s))) (υ := σ) G G' S c cx r rx (Fc_r σ) (fun τ cτ hp => ?_) (fun τ rτ => ?_)
        · obtain ⟨m1, m2⟩ := spoC_eq cτ.1 G hs hd e
          refine ⟨_, L_spoil_0 ?_, m2, fun a h1 _ => up_k _ _ _ (by omega)⟩
          unfold f_X10_spoil f_X10_spoil_0
          simp (disch := omega) only [bind_s, sum_l, sum_r, chkin, lit, nI_add, pk_mul, nI_clamp, nI_leI, nI_ltI, nI_eqI, nI_or, and1, shl1, shrx, nI_subx, pk_divx, pk_remx, nmod, nzx, if_tt, if_ff, bz_n1, bz_n0, nm1, nm2, wI_p, wI_inj, wI_n, nI_w, wI_ltI, wI_leI, nI_ltw, nI_lew, reduceIte, ckC_in c.1 G hs hd, onCell_eq c.1 G hs hd, e, hp, m1, cellsWith_eq m2 G' hs']
        · have hR1 : (up τ 101 0 (nI 0)) 102 = rwN R := u0R rτ.1 (nI 0)
          obtain ⟨row, l1, l2⟩ := looks_eq hR1 G s (by omega)
          have hR2 : (upA (up τ 101 0 (nI 0)) 111 row) 102 = rwN R := by rw [upA_ne _ _ (by decide), hR1]
          have hC : Cov R s ((upA (up τ 101 0 (nI 0)) 111 row) 111) := by rw [upA_same]; exact l2
          have l1' : f_X11_looks (nI s) (up τ 101 0 (nI 0)) = some (upA (up τ 101 0 (nI 0)) 111 row) := l1
          refine ⟨upA (up τ 101 0 (nI 0)) 111 row, Fr_t (u0F _ _) (Fr_upA _ _ (by omega)), by rw [upA_ne _ _ (by decide), up_s]; rfl, fun τ2 ch hR3 _ _ => ?_⟩
          have w0 : up τ2 102 (21 + 100 * s + d) (nI 0) = upA τ2 102 (rwN (spo R s d)) := by
            rw [upR hR3]
            refine congrArg (fun q => upA τ2 102 (rwN q)) ?_
            funext i
            unfold updN spo rUse us
            by_cases q1 : i = 21 + 100 * s + d
            · rw [if_pos q1, if_pos (by omega)]
              show _ = if i - (21 + 100 * s) = d then 0 else R (21 + 100 * s + (i - (21 + 100 * s)))
              rw [if_pos (by omega)]
            · rw [if_neg q1]
              by_cases q2 : 21 + 100 * s ≤ i ∧ i < 121 + 100 * s
              · rw [if_pos q2]
                show _ = if i - (21 + 100 * s) = d then 0 else R (21 + 100 * s + (i - (21 + 100 * s)))
                rw [if_neg (by omega), show 21 + 100 * s + (i - (21 + 100 * s)) = i by omega]
              · rw [if_neg q2]
          obtain ⟨row2, l3⟩ := freeN_eq (σ := upA τ2 102 (rwN (spo R s d))) (upA_same ..) G' hs'
          refine ⟨upA τ2 111 row2, upA (upA τ2 102 (rwN (spo R s d))) 111 row2, Fr_upA _ _ (by omega), by rw [upA_ne _ _ (by decide)], ?_, by rw [upA_ne _ _ (by decide), upA_same], fun a ha => ?_⟩
          · unfold f_X11_spoil f_X11_spoil_0
            simp (disch := omega) only [bind_s, sum_l, sum_r, chkin, lit, nI_add, pk_mul, nI_clamp, nI_leI, nI_ltI, nI_eqI, nI_or, and1, shl1, shrx, nI_subx, pk_divx, pk_remx, nmod, nzx, if_tt, if_ff, bz_n1, bz_n0, nm1, nm2, wI_p, wI_inj, wI_n, nI_w, wI_ltI, wI_leI, nI_ltw, nI_lew, reduceIte, isSheet_in (u0R rτ.1 _) G hs, cellsR_eq (u0R rτ.1 _) hS.1, ri_in, l1', freeR_eq hR2 G hs (show d < 100 by omega) hC, bN_e0, hfr, e, decide_true, ch, w0, l3, reduceCtorEq]
          · by_cases e1 : a = 111
            · subst e1; rw [upA_same, upA_same]
            · rw [upA_ne _ _ e1, upA_ne _ _ e1, upA_ne _ _ ha]
      · refine step_bad (c := nI 2) I0 (by decide) (L_spoil_2 (τ := σ) ?_) (Fc_r σ) (fun υ hυ => ?_)
        · unfold f_X10_spoil f_X10_spoil_0
          simp (disch := omega) only [bind_s, sum_l, sum_r, chkin, lit, nI_add, pk_mul, nI_clamp, nI_leI, nI_ltI, nI_eqI, nI_or, and1, shl1, shrx, nI_subx, pk_divx, pk_remx, nmod, nzx, if_tt, if_ff, bz_n1, bz_n0, nm1, nm2, wI_p, wI_inj, wI_n, nI_w, wI_ltI, wI_leI, nI_ltw, nI_lew, reduceIte, ckC_in c.1 G hs hd, onCell_eq c.1 G hs hd, e]
        · have hR0 : υ 102 = rwN R := by rw [hυ 102 (by omega) (by omega), hR]
          have hR1 : (up υ 101 0 (nI 0)) 102 = rwN R := u0R hR0 (nI 0)
          obtain ⟨row, l1, l2⟩ := looks_eq hR1 G s (by omega)
          have hR2 : (upA (up υ 101 0 (nI 0)) 111 row) 102 = rwN R := by rw [upA_ne _ _ (by decide), hR1]
          have hC : Cov R s ((upA (up υ 101 0 (nI 0)) 111 row) 111) := by rw [upA_same]; exact l2
          have l1' : f_X11_looks (nI s) (up υ 101 0 (nI 0)) = some (upA (up υ 101 0 (nI 0)) 111 row) := l1
          refine ⟨0, up (upA (up υ 101 0 (nI 0)) 111 row) 101 0 (nI 2), ?_, Fr_t (Fr_t (u0F _ _) (Fr_upA _ _ (by omega))) (u0F _ _), up_s ..⟩
          unfold f_X11_spoil f_X11_spoil_0
          simp (disch := omega) only [bind_s, sum_l, sum_r, chkin, lit, nI_add, pk_mul, nI_clamp, nI_leI, nI_ltI, nI_eqI, nI_or, and1, shl1, shrx, nI_subx, pk_divx, pk_remx, nmod, nzx, if_tt, if_ff, bz_n1, bz_n0, nm1, nm2, wI_p, wI_inj, wI_n, nI_w, wI_ltI, wI_leI, nI_ltw, nI_lew, reduceIte, isSheet_in (u0R hR0 _) G hs, cellsR_eq (u0R hR0 _) hS.1, ri_in, l1', freeR_eq hR2 G hs (show d < 100 by omega) hC, bN_e0, hfr, e, decide_false, fails_eq]
    · refine step_no I0 (L_spoil_1 ?_) (by decide) ?_
      · unfold f_X10_spoil f_X10_spoil_0
        simp (disch := omega) only [bind_s, sum_l, sum_r, chkin, lit, nI_add, pk_mul, nI_clamp, nI_leI, nI_ltI, nI_eqI, nI_or, and1, shl1, shrx, nI_subx, pk_divx, pk_remx, nmod, nzx, if_tt, if_ff, bz_n1, bz_n0, nm1, nm2, wI_p, wI_inj, wI_n, nI_w, wI_ltI, wI_leI, nI_ltw, nI_lew, reduceIte, ckC_out c.1 G hs h]
      · unfold f_X11_spoil f_X11_spoil_0 f_X11_spoil_j28
        have := in_out (n := sc R s * sr R s) (by omega) h
        simp only [lit, isSheet_in (u0R hR _) G hs, cellsR_eq (u0R hR _) hS.1, this, bind_s, n10', if_false, nn0, if_true, fails_eq]
  · refine step_no I0 (L_spoil_1 ?_) (by decide) ?_
    · unfold f_X10_spoil f_X10_spoil_0
      simp (disch := omega) only [bind_s, sum_l, sum_r, chkin, lit, nI_add, pk_mul, nI_clamp, nI_leI, nI_ltI, nI_eqI, nI_or, and1, shl1, shrx, nI_subx, pk_divx, pk_remx, nmod, nzx, if_tt, if_ff, bz_n1, bz_n0, nm1, nm2, wI_p, wI_inj, wI_n, nI_w, wI_ltI, wI_leI, nI_ltw, nI_lew, reduceIte, ckC_no c.1 h]
    · unfold f_X11_spoil f_X11_spoil_0 f_X11_spoil_j28
      simp (disch := omega) only [bind_s, sum_l, sum_r, chkin, lit, nI_add, pk_mul, nI_clamp, nI_leI, nI_ltI, nI_eqI, nI_or, and1, shl1, shrx, nI_subx, pk_divx, pk_remx, nmod, nzx, if_tt, if_ff, bz_n1, bz_n0, nm1, nm2, wI_p, wI_inj, wI_n, nI_w, wI_ltI, wI_leI, nI_ltw, nI_lew, reduceIte, isSheet_out (u0R hR _) G h, fails_eq]
