/-! PURE FACTS, 47: the call sheet -/
variable {k n len nr nf : Nat} {R V tx : Nat → Nat} {H : Nat → Nat → Nat} {hv : Bool} {rk rp fk fp : Nat → Int32} {σ τ : St}
theorem cov_us (G : Good R) {s c : Nat} (h : ck R s c ≠ 1) : us R s c = 1 := by
  have h1 := ck_ge R s c
  have e7 := (ck_i (R := R) (s := s) (c := c) (p := ck R s c - 2) G).mp (by omega)
  exact (hit_cell G e7.1 e7.2).2.1
theorem counts_eq (G : Good R) {s : Nat} (hs : s < R 0) : cnt (fun c => decide (us R s c = 1)) (sc R s * sr R s) = cnt (fun c => decide (on R s c = 1)) (sc R s * sr R s) + cnt (fun c => decide (ck R s c ≠ 1)) (sc R s * sr R s) ∧ sc R s * sr R s = cnt (fun c => decide (us R s c = 1)) (sc R s * sr R s) + cnt (fun c => decide (on R s c = 0)) (sc R s * sr R s) ∧ cnt (fun c => decide (ck R s c ≠ 1)) (sc R s * sr R s) = cnt (fun c => decide (2 ≤ on R s c)) (sc R s * sr R s) := by
  refine ⟨cnt_p (fun c hc => ?_), ?_, cnt_e (fun c hc => ?_)⟩
  · rcases on_cases G hs hc with h | h | h
    · simp [h.1, h.2.1, h.2.2, bN]
    · simp [h.1, h.2.1, h.2.2, bN]
    · have h2 : ck R s c ≠ 1 := by omega
      have h3 : on R s c ≠ 1 := by omega
      simp [cov_us G h2, h2, h3, bN]
  · have := cnt_p (P := fun _ => true) (Q := fun c => decide (us R s c = 1)) (T := fun c => decide (on R s c = 0)) (n := sc R s * sr R s) (fun c hc => by
      rcases on_cases G hs hc with h | h | h
      · simp [h.1, h.2.1, bN]
      · simp [h.1, h.2.1, bN]
      · have h2 : ck R s c ≠ 1 := by omega
        have h3 : on R s c ≠ 0 := by omega
        simp [cov_us G h2, h3, bN])
    rw [cnt_t (fun i _ => rfl)] at this
    exact this
  · rcases on_cases G hs hc with h | h | h
    · rw [h.1, h.2.2]; rfl
    · rw [h.1, h.2.2]; rfl
    · rw [decide_eq_true (show ck R s c ≠ 1 by omega), decide_eq_true h.1]
theorem tally_eq (hR : σ 102 = rwN R) (G : Good R) {s : Nat} {x2 : Int32} (hs : s < R 0) (hC : Cov R s (σ 111)) : lp (f_X11_sheet_l48 (nI s) x2 σ) FU (nI 0, nI 0, nI 0) = some (nI (cnt (fun c => decide (us R s c = 1)) (sc R s * sr R s)), nI (cnt (fun c => decide (ck R s c ≠ 1)) (sc R s * sr R s))) := by
  have hS := GS G hs
  have hn := hS.2.2.2.2.2.2.1
  have g2 := G.2.2.1
  refine lp_ex (f := f_X11_sheet_l48 (nI s) x2 σ) (fun i => (nI (cnt (fun c => decide (us R s c = 1)) i), nI (cnt (fun c => decide (ck R s c ≠ 1)) i), nI i)) _ (sc R s * sr R s) (by omega) (fun i hi => ?_) ?_
  · have h1 := cnt_le (fun c => decide (us R s c = 1)) i
    have h2 := cnt_le (fun c => decide (ck R s c ≠ 1)) i
    have h3 := ck_lt R s i
    have hci := hC i (by omega)
    have s1 : cnt (fun c => decide (us R s c = 1)) (i + 1) = cnt (fun c => decide (us R s c = 1)) i + bN (decide (us R s i = 1)) := by
      rw [cnt_s]; cases decide (us R s i = 1) <;> rfl
    have s2 : cnt (fun c => decide (ck R s c ≠ 1)) (i + 1) = cnt (fun c => decide (ck R s c ≠ 1)) i + bN (decide (ck R s i ≠ 1)) := by
      rw [cnt_s]; cases decide (ck R s i ≠ 1) <;> rfl
    rw [s1, s2]
    unfold f_X11_sheet_l48 f_X11_sheet_j74 f_X11_sheet_j94
    dsimp only
    simp (disch := omega) only [bind_s, sum_l, sum_r, chkin, lit, nI_add, pk_mul, nI_clamp, nI_leI, nI_ltI, nI_eqI, nI_or, and1, shl1, shrx, nI_subx, pk_divx, pk_remx, nmod, nzx, if_tt, if_ff, bz_n1, bz_n0, nm1, nm2, wI_p, wI_inj, wI_n, nI_w, wI_ltI, wI_leI, nI_ltw, nI_lew, reduceIte, cellsR_eq hR hS.1, usable_eq hR G hs (show i < 100 by omega), bN_e0, hci]
    by_cases e1 : us R s i = 1 <;> by_cases e2 : ck R s i = 1 <;> simp [e1, e2, bN]
  · unfold f_X11_sheet_l48
    dsimp only
    simp (disch := omega) only [bind_s, sum_l, sum_r, chkin, lit, nI_add, pk_mul, nI_clamp, nI_leI, nI_ltI, nI_eqI, nI_or, and1, shl1, shrx, nI_subx, pk_divx, pk_remx, nmod, nzx, if_tt, if_ff, bz_n1, bz_n0, nm1, nm2, wI_p, wI_inj, wI_n, nI_w, wI_ltI, wI_leI, nI_ltw, nI_lew, reduceIte, cellsR_eq hR hS.1]
set_option maxHeartbeats 4000000 in
theorem call_sheet (I : Inv σ) (x1 x2 : Int32) : Step (f_L_sheet x1 x2) (f_X11_sheet x1 x2) σ := by
  have I0 := I
  obtain ⟨R, n, H, hv, V, len, tx, nr, rk, rp, nf, fk, fp, G, S, c, cx, r, rx⟩ := I
  have hR := r.1
  have g0 := G.1
  rcases int_n x1 (n := R 0) (by omega) with ⟨s, hs, rfl⟩ | h
  · have hS := GS G hs
    have hn := hS.2.2.2.2.2.2.1
    rcases what_n x2 (N := 10) (by decide) with ⟨w, hw, rfl⟩ | hw
    · obtain ⟨y0, y1, y2, _⟩ := c.1.2.2.1 s hs
      obtain ⟨k1, k2, k3⟩ := counts_eq G hs
      have hcl := cnt_le (fun c => decide (us R s c = 1)) (sc R s * sr R s)
      obtain ⟨fC, mC, τC, r1, r2, r3, r4⟩ := remC_eq c.1 G hs
      have ref : ∀ υ, υ 102 = rwN R → ∃ τ', Fr υ τ' ∧ τ' 101 0 = nI 0 ∧ f_X11_sheet (nI s) (nI w) υ = some (nI (if w = 0 then sc R s else if w = 1 then sr R s else if w = 2 then R (15 + s) else if w = 3 then cnt (fun c => decide (on R s c = 1)) (sc R s * sr R s) else if w = 4 then cnt (fun c => decide (on R s c = 0)) (sc R s * sr R s) else if w = 5 then cnt (fun c => decide (2 ≤ on R s c)) (sc R s * sr R s) else if w = 6 then cnt (fun p => decide (R (681 + p) = s)) (R 2) else if w = 7 then sm (cutf R s false) (sc R s * sr R s) else if w = 8 then sm (cutf R s true) (sc R s * sr R s) else mC), τ') := fun υ hυ => by
        obtain ⟨fR, mR, τ1, q1, q2, q3, q4, q5, q6, q7⟩ := remR_eq (u0R hυ (nI 0)) G hs
        obtain ⟨em, _⟩ := RemS_u (Nat.le_refl _) r2 q2
        subst em
        have hR1 : τ1 102 = rwN R := by rw [q3 102 (by decide) (by decide) (by decide), u0R hυ]
        have F1 : Fr υ τ1 := Fr_t (u0F _ _) ⟨fun a h1 h2 h3 => q3 a h1 (by omega) (by omega), fun j hj => q4 j (by omega)⟩
        have z1 : τ1 101 0 = nI 0 := by rw [q4 0 (by decide), up_s]
        have ht := tally_eq (x2 := nI w) hR1 G hs q6
        have hin : f_X11_in (nI w) (nI 0) (nI 9) = some (nI 1) := ri_in (by omega) (by omega) (by decide)
        have d3 : R (3 + s) = sc R s := rfl
        have d9 : R (9 + s) = sr R s := rfl
        have k0 : w = 0 ∨ w = 1 ∨ w = 2 ∨ w = 3 ∨ w = 4 ∨ w = 5 ∨ w = 6 ∨ w = 7 ∨ w = 8 ∨ w = 9 := by omega
        have cF : ∀ b : Bool, ∃ row, f_X11_cutsOf (nI s) (nI (bN b)) (wI 1) τ1 = some (nI (sm (cutf R s b) (sc R s * sr R s)), upA τ1 111 row) := fun b => by
          obtain ⟨row, e1, _⟩ := cutsR_eq hR1 G hs b (q := 1) (by decide)
          exact ⟨row, by rw [e1, cut_same G hs b]⟩
        obtain ⟨row7, e7⟩ := cF false
        obtain ⟨row8, e8⟩ := cF true
        change f_X11_cutsOf (nI s) (nI 0) (wI 1) τ1 = _ at e7
        change f_X11_cutsOf (nI s) (nI 1) (wI 1) τ1 = _ at e8
        have F7 : ∀ row, Fr υ (upA τ1 111 row) ∧ (upA τ1 111 row) 101 0 = nI 0 := fun row => ⟨Fr_t F1 (Fr_upA _ _ (by omega)), by rw [upA_ne _ _ (by decide), z1]⟩
        rcases k0 with e | e | e | e | e | e | e | e | e | e <;> subst e
        · refine ⟨τ1, F1, z1, ?_⟩
          unfold f_X11_sheet f_X11_sheet_0
          simp (disch := omega) only [bind_s, sum_l, sum_r, chkin, lit, nI_add, pk_mul, nI_clamp, nI_leI, nI_ltI, nI_eqI, nI_or, and1, shl1, shrx, nI_subx, pk_divx, pk_remx, nmod, nzx, if_tt, if_ff, bz_n1, bz_n0, nm1, nm2, wI_p, wI_inj, wI_n, nI_w, wI_ltI, wI_leI, nI_ltw, nI_lew, reduceIte, isSheet_in (u0R hυ _) G hs, hin, q1, ht, hR1, rwN_a, d3]
        · refine ⟨τ1, F1, z1, ?_⟩
          unfold f_X11_sheet f_X11_sheet_0
          simp (disch := omega) only [bind_s, sum_l, sum_r, chkin, lit, nI_add, pk_mul, nI_clamp, nI_leI, nI_ltI, nI_eqI, nI_or, and1, shl1, shrx, nI_subx, pk_divx, pk_remx, nmod, nzx, if_tt, if_ff, bz_n1, bz_n0, nm1, nm2, wI_p, wI_inj, wI_n, nI_w, wI_ltI, wI_leI, nI_ltw, nI_lew, reduceIte, isSheet_in (u0R hυ _) G hs, hin, q1, ht, hR1, rwN_a, d9]
        · refine ⟨τ1, F1, z1, ?_⟩
          unfold f_X11_sheet f_X11_sheet_0
          simp (disch := omega) only [bind_s, sum_l, sum_r, chkin, lit, nI_add, pk_mul, nI_clamp, nI_leI, nI_ltI, nI_eqI, nI_or, and1, shl1, shrx, nI_subx, pk_divx, pk_remx, nmod, nzx, if_tt, if_ff, bz_n1, bz_n0, nm1, nm2, wI_p, wI_inj, wI_n, nI_w, wI_ltI, wI_leI, nI_ltw, nI_lew, reduceIte, isSheet_in (u0R hυ _) G hs, hin, q1, ht, hR1, rwN_a]
        · refine ⟨τ1, F1, z1, ?_⟩
          unfold f_X11_sheet f_X11_sheet_0
          simp (disch := omega) only [bind_s, sum_l, sum_r, chkin, lit, nI_add, pk_mul, nI_clamp, nI_leI, nI_ltI, nI_eqI, nI_or, and1, shl1, shrx, nI_subx, pk_divx, pk_remx, nmod, nzx, if_tt, if_ff, bz_n1, bz_n0, nm1, nm2, wI_p, wI_inj, wI_n, nI_w, wI_ltI, wI_leI, nI_ltw, nI_lew, reduceIte, isSheet_in (u0R hυ _) G hs, hin, q1, ht]
          rw [k1, Nat.add_sub_cancel]
        · refine ⟨τ1, F1, z1, ?_⟩
          unfold f_X11_sheet f_X11_sheet_0
          simp (disch := omega) only [bind_s, sum_l, sum_r, chkin, lit, nI_add, pk_mul, nI_clamp, nI_leI, nI_ltI, nI_eqI, nI_or, and1, shl1, shrx, nI_subx, pk_divx, pk_remx, nmod, nzx, if_tt, if_ff, bz_n1, bz_n0, nm1, nm2, wI_p, wI_inj, wI_n, nI_w, wI_ltI, wI_leI, nI_ltw, nI_lew, reduceIte, isSheet_in (u0R hυ _) G hs, hin, q1, ht, cellsR_eq hR1 hS.1]
          refine congrArg (fun q => some (nI q, τ1)) ?_
          omega
        · refine ⟨τ1, F1, z1, ?_⟩
          unfold f_X11_sheet f_X11_sheet_0
          simp (disch := omega) only [bind_s, sum_l, sum_r, chkin, lit, nI_add, pk_mul, nI_clamp, nI_leI, nI_ltI, nI_eqI, nI_or, and1, shl1, shrx, nI_subx, pk_divx, pk_remx, nmod, nzx, if_tt, if_ff, bz_n1, bz_n0, nm1, nm2, wI_p, wI_inj, wI_n, nI_w, wI_ltI, wI_leI, nI_ltw, nI_lew, reduceIte, isSheet_in (u0R hυ _) G hs, hin, q1, ht]
          rw [k3]
        · refine ⟨τ1, F1, z1, ?_⟩
          unfold f_X11_sheet f_X11_sheet_0
          simp (disch := omega) only [bind_s, sum_l, sum_r, chkin, lit, nI_add, pk_mul, nI_clamp, nI_leI, nI_ltI, nI_eqI, nI_or, and1, shl1, shrx, nI_subx, pk_divx, pk_remx, nmod, nzx, if_tt, if_ff, bz_n1, bz_n0, nm1, nm2, wI_p, wI_inj, wI_n, nI_w, wI_ltI, wI_leI, nI_ltw, nI_lew, reduceIte, isSheet_in (u0R hυ _) G hs, hin, q1, ht, (partsOn_eq hR1 G (v := s) (by omega)).1]
        · refine ⟨_, (F7 row7).1, (F7 row7).2, ?_⟩
          unfold f_X11_sheet f_X11_sheet_0
          simp (disch := omega) only [bind_s, sum_l, sum_r, chkin, lit, nI_add, pk_mul, nI_clamp, nI_leI, nI_ltI, nI_eqI, nI_or, and1, shl1, shrx, nI_subx, pk_divx, pk_remx, nmod, nzx, if_tt, if_ff, bz_n1, bz_n0, nm1, nm2, wI_p, wI_inj, wI_n, nI_w, wI_ltI, wI_leI, nI_ltw, nI_lew, reduceIte, isSheet_in (u0R hυ _) G hs, hin, q1, ht, e7]
        · refine ⟨_, (F7 row8).1, (F7 row8).2, ?_⟩
          unfold f_X11_sheet f_X11_sheet_0
          simp (disch := omega) only [bind_s, sum_l, sum_r, chkin, lit, nI_add, pk_mul, nI_clamp, nI_leI, nI_ltI, nI_eqI, nI_or, and1, shl1, shrx, nI_subx, pk_divx, pk_remx, nmod, nzx, if_tt, if_ff, bz_n1, bz_n0, nm1, nm2, wI_p, wI_inj, wI_n, nI_w, wI_ltI, wI_leI, nI_ltw, nI_lew, reduceIte, isSheet_in (u0R hυ _) G hs, hin, q1, ht, e8]
        · refine ⟨τ1, F1, z1, ?_⟩
          unfold f_X11_sheet f_X11_sheet_0
          simp (disch := omega) only [bind_s, sum_l, sum_r, chkin, lit, nI_add, pk_mul, nI_clamp, nI_leI, nI_ltI, nI_eqI, nI_or, and1, shl1, shrx, nI_subx, pk_divx, pk_remx, nmod, nzx, if_tt, if_ff, bz_n1, bz_n0, nm1, nm2, wI_p, wI_inj, wI_n, nI_w, wI_ltI, wI_leI, nI_ltw, nI_lew, reduceIte, isSheet_in (u0R hυ _) G hs, hin, q1, ht, q5]
      have ok : ∀ v τ0, Fc σ τ0 → f_X10_sheet (nI s) (nI w) σ = some (.inr (v, τ0)) → (∀ υ τ', f_X11_sheet (nI s) (nI w) υ = some (nI (if w = 0 then sc R s else if w = 1 then sr R s else if w = 2 then R (15 + s) else if w = 3 then cnt (fun c => decide (on R s c = 1)) (sc R s * sr R s) else if w = 4 then cnt (fun c => decide (on R s c = 0)) (sc R s * sr R s) else if w = 5 then cnt (fun c => decide (2 ≤ on R s c)) (sc R s * sr R s) else if w = 6 then cnt (fun p => decide (R (681 + p) = s)) (R 2) else if w = 7 then sm (cutf R s false) (sc R s * sr R s) else if w = 8 then sm (cutf R s true) (sc R s * sr R s) else mC), τ') → f_X11_sheet (nI s) (nI w) υ = some (v, τ')) → Step (f_L_sheet (nI s) (nI w)) (f_X11_sheet (nI s) (nI w)) σ := fun v τ0 F0 h1 h2 =>
        step_ok I0 (L_sheet_0 h1) F0 (fun υ hυ => by
          obtain ⟨τ', a1, a2, a3⟩ := ref υ (by rw [hυ 102 (by omega) (by omega), hR])
          exact ⟨τ', h2 υ τ' a3, a1, a2⟩)
      have hg : ∀ f, s * 103 + f < 618 → f_X9_get 2 (nI s) (nI f) σ = some (σ 3 (s * 103 + f)) := fun f hf => sg_eq c.1 hf
      have hrw' : f_X9_rowsWith 6 (nI 1) (nI s) σ = some (nI (cnt (fun p => decide (R (681 + p) = s)) (R 2))) := (rowsWith_eq c.1 G (v := s) (by omega)).1
      have hFq : Fc σ τC := fun a h1 h2 => r4 a (by omega) (by omega) (by omega)
      have cc := fun b : Bool => cutsOn_eq c.1 G hs b
      have cc0 : f_X8_cutsOn 1 (nI s) (nI 0) σ = some (nI (sm (cutf R s false) (sc R s * sr R s))) := cc false
      have cc1 : f_X8_cutsOn 1 (nI s) (nI 1) σ = some (nI (sm (cutf R s true) (sc R s * sr R s))) := cc true
      have k0 : w = 0 ∨ w = 1 ∨ w = 2 ∨ w = 3 ∨ w = 4 ∨ w = 5 ∨ w = 6 ∨ w = 7 ∨ w = 8 ∨ w = 9 := by omega
      rcases k0 with e | e | e | e | e | e | e | e | e | e <;> subst e
      · refine ok (nI (sc R s)) σ (Fc_r σ) ?_ (fun υ τ' h => h)
        unfold f_X10_sheet f_X10_sheet_0 f_X10_sheet_j60
        simp (disch := omega) only [bind_s, sum_l, sum_r, chkin, lit, nI_add, pk_mul, nI_clamp, nI_leI, nI_ltI, nI_eqI, nI_or, and1, shl1, shrx, nI_subx, pk_divx, pk_remx, nmod, nzx, if_tt, if_ff, bz_n1, bz_n0, nm1, nm2, wI_p, wI_inj, wI_n, nI_w, wI_ltI, wI_leI, nI_ltw, nI_lew, reduceIte, ckS_in c.1 G hs, hg]
        exact congrArg (fun q => some (Sum.inr (q, σ))) y0
      · refine ok (nI (sr R s)) σ (Fc_r σ) ?_ (fun υ τ' h => h)
        unfold f_X10_sheet f_X10_sheet_0 f_X10_sheet_j60
        simp (disch := omega) only [bind_s, sum_l, sum_r, chkin, lit, nI_add, pk_mul, nI_clamp, nI_leI, nI_ltI, nI_eqI, nI_or, and1, shl1, shrx, nI_subx, pk_divx, pk_remx, nmod, nzx, if_tt, if_ff, bz_n1, bz_n0, nm1, nm2, wI_p, wI_inj, wI_n, nI_w, wI_ltI, wI_leI, nI_ltw, nI_lew, reduceIte, ckS_in c.1 G hs, hg]
        exact congrArg (fun q => some (Sum.inr (q, σ))) y1
      · refine ok (nI (R (15 + s))) σ (Fc_r σ) ?_ (fun υ τ' h => h)
        unfold f_X10_sheet f_X10_sheet_0 f_X10_sheet_j60
        simp (disch := omega) only [bind_s, sum_l, sum_r, chkin, lit, nI_add, pk_mul, nI_clamp, nI_leI, nI_ltI, nI_eqI, nI_or, and1, shl1, shrx, nI_subx, pk_divx, pk_remx, nmod, nzx, if_tt, if_ff, bz_n1, bz_n0, nm1, nm2, wI_p, wI_inj, wI_n, nI_w, wI_ltI, wI_leI, nI_ltw, nI_lew, reduceIte, ckS_in c.1 G hs, hg]
        exact congrArg (fun q => some (Sum.inr (q, σ))) y2
      · refine ok _ σ (Fc_r σ) ?_ (fun υ τ' h => h)
        unfold f_X10_sheet f_X10_sheet_0
        simp (disch := omega) only [bind_s, sum_l, sum_r, chkin, lit, nI_add, pk_mul, nI_clamp, nI_leI, nI_ltI, nI_eqI, nI_or, and1, shl1, shrx, nI_subx, pk_divx, pk_remx, nmod, nzx, if_tt, if_ff, bz_n1, bz_n0, nm1, nm2, wI_p, wI_inj, wI_n, nI_w, wI_ltI, wI_leI, nI_ltw, nI_lew, reduceIte, ckS_in c.1 G hs, cellsWith_eq c.1 G hs]
      · refine ok _ σ (Fc_r σ) ?_ (fun υ τ' h => h)
        unfold f_X10_sheet f_X10_sheet_0
        simp (disch := omega) only [bind_s, sum_l, sum_r, chkin, lit, nI_add, pk_mul, nI_clamp, nI_leI, nI_ltI, nI_eqI, nI_or, and1, shl1, shrx, nI_subx, pk_divx, pk_remx, nmod, nzx, if_tt, if_ff, bz_n1, bz_n0, nm1, nm2, wI_p, wI_inj, wI_n, nI_w, wI_ltI, wI_leI, nI_ltw, nI_lew, reduceIte, ckS_in c.1 G hs, cellsWith_eq c.1 G hs]
      · refine ok _ σ (Fc_r σ) ?_ (fun υ τ' h => h)
        unfold f_X10_sheet f_X10_sheet_0
        simp (disch := omega) only [bind_s, sum_l, sum_r, chkin, lit, nI_add, pk_mul, nI_clamp, nI_leI, nI_ltI, nI_eqI, nI_or, and1, shl1, shrx, nI_subx, pk_divx, pk_remx, nmod, nzx, if_tt, if_ff, bz_n1, bz_n0, nm1, nm2, wI_p, wI_inj, wI_n, nI_w, wI_ltI, wI_leI, nI_ltw, nI_lew, reduceIte, ckS_in c.1 G hs, covered_eq c.1 G hs]
      · refine ok _ σ (Fc_r σ) ?_ (fun υ τ' h => h)
        unfold f_X10_sheet f_X10_sheet_0
        simp (disch := omega) only [bind_s, sum_l, sum_r, chkin, lit, nI_add, pk_mul, nI_clamp, nI_leI, nI_ltI, nI_eqI, nI_or, and1, shl1, shrx, nI_subx, pk_divx, pk_remx, nmod, nzx, if_tt, if_ff, bz_n1, bz_n0, nm1, nm2, wI_p, wI_inj, wI_n, nI_w, wI_ltI, wI_leI, nI_ltw, nI_lew, reduceIte, ckS_in c.1 G hs, hrw']
      · refine ok _ σ (Fc_r σ) ?_ (fun υ τ' h => h)
        unfold f_X10_sheet f_X10_sheet_0
        simp (disch := omega) only [bind_s, sum_l, sum_r, chkin, lit, nI_add, pk_mul, nI_clamp, nI_leI, nI_ltI, nI_eqI, nI_or, and1, shl1, shrx, nI_subx, pk_divx, pk_remx, nmod, nzx, if_tt, if_ff, bz_n1, bz_n0, nm1, nm2, wI_p, wI_inj, wI_n, nI_w, wI_ltI, wI_leI, nI_ltw, nI_lew, reduceIte, ckS_in c.1 G hs, cc0]
      · refine ok _ σ (Fc_r σ) ?_ (fun υ τ' h => h)
        unfold f_X10_sheet f_X10_sheet_0
        simp (disch := omega) only [bind_s, sum_l, sum_r, chkin, lit, nI_add, pk_mul, nI_clamp, nI_leI, nI_ltI, nI_eqI, nI_or, and1, shl1, shrx, nI_subx, pk_divx, pk_remx, nmod, nzx, if_tt, if_ff, bz_n1, bz_n0, nm1, nm2, wI_p, wI_inj, wI_n, nI_w, wI_ltI, wI_leI, nI_ltw, nI_lew, reduceIte, ckS_in c.1 G hs, cc1]
      · refine ok _ τC hFq ?_ (fun υ τ' h => h)
        unfold f_X10_sheet f_X10_sheet_0
        simp (disch := omega) only [bind_s, sum_l, sum_r, chkin, lit, nI_add, pk_mul, nI_clamp, nI_leI, nI_ltI, nI_eqI, nI_or, and1, shl1, shrx, nI_subx, pk_divx, pk_remx, nmod, nzx, if_tt, if_ff, bz_n1, bz_n0, nm1, nm2, wI_p, wI_inj, wI_n, nI_w, wI_ltI, wI_leI, nI_ltw, nI_lew, reduceIte, ckS_in c.1 G hs, r1]
    · have hno : f_X11_in x2 (nI 0) (nI 9) = some (nI 0) := by
        rcases rng x2 (a := 0) (b := 9) (by decide) (by decide) with ⟨j, j1, j2, rfl⟩ | h
        · exact (Eq.mp (hw j (by omega)) rfl).elim
        · exact ri_out h
      refine step_no I0 (L_sheet_2 ?_) (by decide) ?_
      · unfold f_X10_sheet f_X10_sheet_0
        simp only [lit, ckS_in c.1 G hs, bind_s, sum_r, hw 0 (by decide), hw 1 (by decide), hw 2 (by decide), hw 3 (by decide), hw 4 (by decide), hw 5 (by decide), hw 6 (by decide), hw 7 (by decide), hw 8 (by decide), hw 9 (by decide), if_false]
      · unfold f_X11_sheet f_X11_sheet_0
        simp only [lit, isSheet_in (u0R hR _) G hs, bind_s, n10', if_false, hno, nn0, if_true, fails_eq]
  · refine step_no I0 (L_sheet_1 ?_) (by decide) ?_
    · unfold f_X10_sheet f_X10_sheet_0
      simp (disch := omega) only [bind_s, sum_l, sum_r, chkin, lit, nI_add, pk_mul, nI_clamp, nI_leI, nI_ltI, nI_eqI, nI_or, and1, shl1, shrx, nI_subx, pk_divx, pk_remx, nmod, nzx, if_tt, if_ff, bz_n1, bz_n0, nm1, nm2, wI_p, wI_inj, wI_n, nI_w, wI_ltI, wI_leI, nI_ltw, nI_lew, reduceIte, ckS_out c.1 h]
    · unfold f_X11_sheet f_X11_sheet_0
      rw [show (0 : Int32) = nI 0 from rfl, isSheet_out (u0R hR _) G h, bind_s, if_pos rfl]
      rfl
