/-! PURE FACTS, 39: the reference finds; the call that nests -/
variable {k n len nr nf : Nat} {R V tx : Nat → Nat} {H : Nat → Nat → Nat} {hv : Bool} {rk rp fk fp : Nat → Int32} {σ τ : St}
def Fz (σ τ : St) : Prop := (∀ a, a ≠ 101 → a ≠ 111 → a ≠ 113 → a ≠ 114 → τ a = σ a) ∧ ∀ j, j < 20 ∨ j = 21 ∨ 25 < j → τ 101 j = σ 101 j
theorem Fz_r (σ : St) : Fz σ σ := ⟨fun _ _ _ _ _ => rfl, fun _ _ => rfl⟩
theorem Fz_t {υ : St} (h : Fz σ τ) (h2 : Fz τ υ) : Fz σ υ := ⟨fun a h3 h4 h5 h6 => (h2.1 a h3 h4 h5 h6).trans (h.1 a h3 h4 h5 h6), fun j hj => (h2.2 j hj).trans (h.2 j hj)⟩
theorem Fz_w (h : Fw σ τ) : Fz σ τ := ⟨fun a h1 _ h3 h4 => h.1 a h1 h3 h4, fun j hj => h.2 j (by omega)⟩
theorem Fz_up (σ : St) {j : Nat} (v : Int32) (h : 22 ≤ j ∧ j ≤ 25) : Fz σ (up σ 101 j v) := ⟨fun a h1 _ _ _ => up_k _ _ _ h1, fun i hi => up_j _ _ _ (by omega)⟩
theorem Fz_111 (σ : St) (f : Nat → Int32) : Fz σ (upA σ 111 f) := ⟨fun a _ h2 _ _ => upA_ne _ _ h2, fun i _ => by rw [upA_ne _ _ (by decide)]⟩
theorem Fz_Fr (h : Fz σ τ) : Fr σ τ := ⟨fun a h1 h2 h3 => h.1 a h1 (by omega) (by omega) (by omega), fun j hj => h.2 j (by omega)⟩
def EncR (s : Nat) (b : B4) (τ : St) : Prop := 0 < b.1 → τ 101 25 = nI s ∧ τ 101 22 = nI b.2.1 ∧ τ 101 23 = nI b.2.2.1 ∧ τ 101 24 = nI b.2.2.2
theorem turn_R (hR : σ 102 = rwN R) (G : Good R) {h s x y t : Nat} {b : B4} (hh : h < R 1) (hs : s < R 0) (hx : x < sc R s) (hy : y < sr R s) (ht : t < 4) (F : Fz σ τ) (hC : Cov R s (τ 111)) (E : EncR s b τ) (hb : VB R h s b) : ∃ τ', f_X11_finds_l55 (nI h) (nI s) (nI y) (nI x) (wI (b.1 + 1), nI t, τ) = some (.inl (wI ((nst R h s x y t b).1 + 1), nI (t + 1), τ')) ∧ Fz σ τ' ∧ Cov R s (τ' 111) ∧ EncR s (nst R h s x y t b) τ' := by
  have hS := GS G hs
  have hb1 := hb.1
  have hcm := comN_le (R := R) h s x y t
  have hR1 : τ 102 = rwN R := by rw [F.1 102 (by decide) (by decide) (by decide) (by decide), hR]
  obtain ⟨υ, a1, a2, a3, a4⟩ := judges_eq hR1 G hh hs ht hC (nI x) (nI y)
  rw [nI64 (by omega), nI64 (by omega)] at a3 a4
  have hR2 : υ 102 = rwN R := by rw [a2.1 102 (by decide) (by decide) (by decide), hR1]
  have hC2 : Cov R s (υ 111) := by rw [a2.1 111 (by decide) (by decide) (by decide)]; exact hC
  have F2 : Fz σ υ := Fz_t F (Fz_w a2)
  have E2 : EncR s b υ := fun h => by rw [a2.2 25 (by decide), a2.2 22 (by decide), a2.2 23 (by decide), a2.2 24 (by decide)]; exact E h
  have hj3 := jn_3 R h s t (lN x) (lN y)
  unfold f_X11_finds_l55 f_X11_finds_j96 f_X11_finds_j130
  dsimp only
  rw [if_neg (show ¬ (4 : Int32) ≤ nI t from nI_ge (b := 4) ht (by decide)), a1, bind_s, nI_1]
  have h0 : (υ 101 20 = 0) = (jn R h s t (lN x) (lN y) = 0) := by rw [a3]; exact nI_eqI (b := 0) (by omega) (by decide)
  by_cases e : jn R h s t (lN x) (lN y) = 0
  · have hF := jn_fit G hh hs (by omega) (by omega) e
    rw [if_pos (h0.mpr e), comN_R hR2 G hh hs ht hF hC2, bind_s]
    have hle : (nI (comN R h s x y t) ≤ wI (b.1 + 1)) = (comN R h s x y t + 2 ≤ b.1 + 1) := nI_lew (by omega) (by omega)
    by_cases e2 : comN R h s x y t + 2 ≤ b.1 + 1
    · have hn : nst R h s x y t b = b := by unfold nst; rw [if_neg (by omega)]
      rw [if_pos (hle.mpr e2), hn]
      exact ⟨υ, rfl, F2, hC2, E2⟩
    · have hn : nst R h s x y t b = (comN R h s x y t + 1, x, y, t) := by unfold nst; rw [if_pos ⟨e, by omega⟩]
      rw [if_neg (fun q => e2 (hle.mp q)), hn]
      refine ⟨up (up (up (up υ 101 25 (nI s)) 101 22 (nI x)) 101 23 (nI y)) 101 24 (nI t), ?_, Fz_t F2 (Fz_t (Fz_t (Fz_t (Fz_up _ _ (by omega)) (Fz_up _ _ (by omega))) (Fz_up _ _ (by omega))) (Fz_up _ _ (by omega))), ?_, fun _ => ⟨?_, ?_, ?_, ?_⟩⟩
      · rw [wI_p]
      · rw [up_k _ _ _ (by decide), up_k _ _ _ (by decide), up_k _ _ _ (by decide), up_k _ _ _ (by decide)]; exact hC2
      · rw [up_j _ _ _ (by decide), up_j _ _ _ (by decide), up_j _ _ _ (by decide), up_s]
      · rw [up_j _ _ _ (by decide), up_j _ _ _ (by decide), up_s]
      · rw [up_j _ _ _ (by decide), up_s]
      · rw [up_s]
  · have hn : nst R h s x y t b = b := by unfold nst; rw [if_neg (fun h => e h.1)]
    have hle : (wI 1 ≤ wI (b.1 + 1)) = (1 ≤ b.1 + 1) := wI_wle (by omega) (by omega)
    rw [if_neg (fun q => e (h0.mp q)), show (-1 : Int32) = wI 1 from rfl, if_pos (hle.mpr (by omega)), hn]
    exact ⟨υ, rfl, F2, hC2, E2⟩
theorem look_R (hR : σ 102 = rwN R) (G : Good R) {h s : Nat} (hh : h < R 1) (hs : s < R 0) (F : Fz σ τ) (hC : Cov R s (τ 111)) : ∃ τ', lp (f_X11_finds_l22 (nI h) (nI s)) FU (wI 1, nI 0, τ) = some (wI ((sB R h s).1 + 1), τ') ∧ Fz σ τ' ∧ EncR s (sB R h s) τ' := by
  have hS := GS G hs
  have r3 : R (3 + s) = sc R s := rfl
  have r9 : R (9 + s) = sr R s := rfl
  have hRt : ∀ τ, Fz σ τ → τ 102 = rwN R := fun τ F => by rw [F.1 102 (by decide) (by decide) (by decide) (by decide), hR]
  obtain ⟨r, q1, τ', q2, q3, q4⟩ := lp_fu (f := f_X11_finds_l22 (nI h) (nI s)) (fun y z => ∃ τ', z = (wI ((bY R h s y).1 + 1), nI y, τ') ∧ Fz σ τ' ∧ Cov R s (τ' 111) ∧ EncR s (bY R h s y) τ') (fun r => ∃ τ', r = (wI ((sB R h s).1 + 1), τ') ∧ Fz σ τ' ∧ EncR s (sB R h s) τ') (sr R s) (by omega) (wI 1, nI 0, τ) ⟨τ, rfl, F, hC, fun h => absurd h (Nat.lt_irrefl _)⟩ (by
    rintro y z hy ⟨τ1, rfl, F1, C1, E1⟩
    left
    obtain ⟨r, p1, τ1', p2, p3, p4, p5⟩ := lp_fu (f := f_X11_finds_l39 (nI h) (nI s) (nI y)) (fun x z => ∃ τ', z = (wI ((bX R h s y (bY R h s y) x).1 + 1), nI x, τ') ∧ Fz σ τ' ∧ Cov R s (τ' 111) ∧ EncR s (bX R h s y (bY R h s y) x) τ') (fun r => ∃ τ', r = (wI ((bX R h s y (bY R h s y) (sc R s)).1 + 1), τ') ∧ Fz σ τ' ∧ Cov R s (τ' 111) ∧ EncR s (bX R h s y (bY R h s y) (sc R s)) τ') (sc R s) (by omega) (wI ((bY R h s y).1 + 1), nI 0, τ1) ⟨τ1, rfl, F1, C1, E1⟩ (by
      rintro x z hx ⟨τ2, rfl, F2, C2, E2⟩
      left
      obtain ⟨r, o1, τ2', o2, o3, o4, o5⟩ := lp_fu (f := f_X11_finds_l55 (nI h) (nI s) (nI y) (nI x)) (fun t z => ∃ τ', z = (wI ((bT R h s x y (bX R h s y (bY R h s y) x) t).1 + 1), nI t, τ') ∧ Fz σ τ' ∧ Cov R s (τ' 111) ∧ EncR s (bT R h s x y (bX R h s y (bY R h s y) x) t) τ') (fun r => ∃ τ', r = (wI ((bT R h s x y (bX R h s y (bY R h s y) x) 4).1 + 1), τ') ∧ Fz σ τ' ∧ Cov R s (τ' 111) ∧ EncR s (bT R h s x y (bX R h s y (bY R h s y) x) 4) τ') 4 (by decide) (wI ((bX R h s y (bY R h s y) x).1 + 1), nI 0, τ2) ⟨τ2, rfl, F2, C2, E2⟩ (by
        rintro t z ht ⟨τ3, rfl, F3, C3, E3⟩
        left
        obtain ⟨τ4, m1, m2, m3, m4⟩ := turn_R hR G hh hs hx hy ht F3 C3 E3 (VB_T hx hy (VB_X hy (VB_Y (by omega)) (by omega)) (by omega))
        exact ⟨_, m1, τ4, rfl, m2, m3, m4⟩) (by
        rintro z ⟨τ3, rfl, F3, C3, E3⟩
        refine ⟨_, ?_, τ3, rfl, F3, C3, E3⟩
        unfold f_X11_finds_l55
        dsimp only
        rw [if_pos (show (4 : Int32) ≤ nI 4 from nI_le (a := 4) (Nat.le_refl _) (by decide))])
      subst o2
      refine ⟨_, ?_, τ2', rfl, o3, o4, o5⟩
      unfold f_X11_finds_l39
      dsimp only
      have o1' : lp (f_X11_finds_l55 (nI h) (nI s) (nI y) (nI x)) FU (wI ((bX R h s y (bY R h s y) x).1 + 1), nI 0, τ2) = some (wI ((bX R h s y (bY R h s y) (x + 1)).1 + 1), τ2') := o1
      simp (disch := omega) only [bind_s, sum_l, sum_r, chkin, lit, nI_add, pk_mul, nI_clamp, nI_leI, nI_ltI, nI_eqI, nI_or, and1, shl1, shrx, nI_subx, pk_divx, pk_remx, nmod, nzx, if_tt, if_ff, bz_n1, bz_n0, nm1, nm2, wI_p, wI_inj, wI_n, nI_w, wI_ltI, wI_leI, nI_ltw, nI_lew, reduceIte, hRt τ2 F2, rwN_a, r3, o1']) (by
      rintro z ⟨τ2, rfl, F2, C2, E2⟩
      refine ⟨_, ?_, τ2, rfl, F2, C2, E2⟩
      unfold f_X11_finds_l39
      dsimp only
      simp (disch := omega) only [bind_s, sum_l, sum_r, chkin, lit, nI_add, pk_mul, nI_clamp, nI_leI, nI_ltI, nI_eqI, nI_or, and1, shl1, shrx, nI_subx, pk_divx, pk_remx, nmod, nzx, if_tt, if_ff, bz_n1, bz_n0, nm1, nm2, wI_p, wI_inj, wI_n, nI_w, wI_ltI, wI_leI, nI_ltw, nI_lew, reduceIte, hRt τ2 F2, rwN_a, r3])
    subst p2
    refine ⟨_, ?_, τ1', rfl, p3, p4, p5⟩
    unfold f_X11_finds_l22
    dsimp only
    have p1' : lp (f_X11_finds_l39 (nI h) (nI s) (nI y)) FU (wI ((bY R h s y).1 + 1), nI 0, τ1) = some (wI ((bY R h s (y + 1)).1 + 1), τ1') := p1
    simp (disch := omega) only [bind_s, sum_l, sum_r, chkin, lit, nI_add, pk_mul, nI_clamp, nI_leI, nI_ltI, nI_eqI, nI_or, and1, shl1, shrx, nI_subx, pk_divx, pk_remx, nmod, nzx, if_tt, if_ff, bz_n1, bz_n0, nm1, nm2, wI_p, wI_inj, wI_n, nI_w, wI_ltI, wI_leI, nI_ltw, nI_lew, reduceIte, hRt τ1 F1, rwN_a, r9, p1']) (by
    rintro z ⟨τ1, rfl, F1, C1, E1⟩
    refine ⟨_, ?_, τ1, rfl, F1, E1⟩
    unfold f_X11_finds_l22
    dsimp only
    simp (disch := omega) only [bind_s, sum_l, sum_r, chkin, lit, nI_add, pk_mul, nI_clamp, nI_leI, nI_ltI, nI_eqI, nI_or, and1, shl1, shrx, nI_subx, pk_divx, pk_remx, nmod, nzx, if_tt, if_ff, bz_n1, bz_n0, nm1, nm2, wI_p, wI_inj, wI_n, nI_w, wI_ltI, wI_leI, nI_ltw, nI_lew, reduceIte, hRt τ1 F1, rwN_a, r9]
    rfl)
  exact ⟨τ', by rw [q1, q2], q3, q4⟩
theorem find_R (hR : σ 102 = rwN R) (G : Good R) {h : Nat} (hh : h < R 1) : ∃ τ, Fz σ τ ∧ ((f_X11_finds (nI h) σ = some (nI 0, τ) ∧ NoneF R h) ∨ (f_X11_finds (nI h) σ = some (nI 1, τ) ∧ ∃ s, Found R h s ∧ EncR s (sB R h s) τ)) := by
  have g0 := G.1
  have hRt : ∀ τ, Fz σ τ → τ 102 = rwN R := fun τ F => by rw [F.1 102 (by decide) (by decide) (by decide) (by decide), hR]
  obtain ⟨r, q1, q2⟩ := lp_fu (f := f_X11_finds_l2 (nI h)) (fun i z => ∃ τ, z = (nI i, τ) ∧ Fz σ τ ∧ ∀ s', s' < i → (sB R h s').1 = 0) (fun v => (∃ τ, v = .inl τ ∧ Fz σ τ ∧ NoneF R h) ∨ (∃ τ, v = .inr τ ∧ Fz σ τ ∧ ∃ s, Found R h s ∧ EncR s (sB R h s) τ)) (R 0) (by omega) (nI 0, σ) ⟨σ, rfl, Fz_r σ, fun s' hs' => absurd hs' (Nat.not_lt_zero _)⟩ (by
    rintro i z hi ⟨τ, rfl, F, hz⟩
    obtain ⟨row, l1, l2⟩ := looks_eq (hRt τ F) G i (by omega)
    have F2 : Fz σ (upA τ 111 row) := Fz_t F (Fz_111 τ row)
    obtain ⟨τ', m1, m2, m3⟩ := look_R hR G hh hi F2 (by rw [upA_same]; exact l2)
    have hVB := (VB_Y (R := R) (h := h) (s := i) (n := sr R i) (Nat.le_refl _)).1
    change (sB R h i).1 ≤ 65 at hVB
    by_cases e : (sB R h i).1 = 0
    · left
      refine ⟨(nI (i + 1), τ'), ?_, τ', rfl, m2, fun s' hs' => ?_⟩
      · unfold f_X11_finds_l2
        dsimp only
        rw [e] at m1
        simp (disch := omega) only [bind_s, sum_l, sum_r, chkin, lit, nI_add, pk_mul, nI_clamp, nI_leI, nI_ltI, nI_eqI, nI_or, and1, shl1, shrx, nI_subx, pk_divx, pk_remx, nmod, nzx, if_tt, if_ff, bz_n1, bz_n0, nm1, nm2, wI_p, wI_inj, wI_n, nI_w, wI_ltI, wI_leI, nI_ltw, nI_lew, reduceIte, hRt τ F, rwN_a, l1, m1]
      · by_cases e2 : s' = i
        · subst e2; exact e
        · exact hz s' (by omega)
    · right
      refine ⟨.inr τ', ?_, Or.inr ⟨τ', rfl, m2, i, ⟨hi, by omega, hz⟩, m3⟩⟩
      unfold f_X11_finds_l2
      dsimp only
      simp (disch := omega) only [bind_s, sum_l, sum_r, chkin, lit, nI_add, pk_mul, nI_clamp, nI_leI, nI_ltI, nI_eqI, nI_or, and1, shl1, shrx, nI_subx, pk_divx, pk_remx, nmod, nzx, if_tt, if_ff, bz_n1, bz_n0, nm1, nm2, wI_p, wI_inj, wI_n, nI_w, wI_ltI, wI_leI, nI_ltw, nI_lew, reduceIte, hRt τ F, rwN_a, l1, m1]) (by
    rintro z ⟨τ, rfl, F, hz⟩
    refine ⟨.inl τ, ?_, Or.inl ⟨τ, rfl, F, hz⟩⟩
    unfold f_X11_finds_l2
    dsimp only
    simp (disch := omega) only [bind_s, sum_l, sum_r, chkin, lit, nI_add, pk_mul, nI_clamp, nI_leI, nI_ltI, nI_eqI, nI_or, and1, shl1, shrx, nI_subx, pk_divx, pk_remx, nmod, nzx, if_tt, if_ff, bz_n1, bz_n0, nm1, nm2, wI_p, wI_inj, wI_n, nI_w, wI_ltI, wI_leI, nI_ltw, nI_lew, reduceIte, hRt τ F, rwN_a])
  have hhead : f_X11_finds (nI h) σ = bzW (Sum.elim (fun v18 => some (nI 0, v18)) (fun v19 => some (nI 1, v19)) r) := by
    unfold f_X11_finds f_X11_finds_0
    rw [show (0 : Int32) = nI 0 from rfl, q1, bind_s]
    rfl
  rcases q2 with ⟨τ, rfl, F, hz⟩ | ⟨τ, rfl, F, hz⟩
  · exact ⟨τ, F, Or.inl ⟨hhead, hz⟩⟩
  · exact ⟨τ, F, Or.inr ⟨hhead, hz⟩⟩
/-- the row behind nesting shape h on sheet s in the best way -/
def rNest (R : Nat → Nat) (h s : Nat) : Nat → Nat := rPart R h s (sB R h s).2.1 (sB R h s).2.2.1 (sB R h s).2.2.2
theorem Found_ok (G : Good R) {h s : Nat} (hh : h < R 1) (F : Found R h s) : R 2 < 20 ∧ 1 ≤ R (653 + h) ∧ (sB R h s).2.2.2 < 4 ∧ Fits R h s (sB R h s).2.1 (sB R h s).2.2.1 (sB R h s).2.2.2 := by
  have hS := GS G F.1
  obtain ⟨v1, v2, v3, v4⟩ := (VB_Y (R := R) (h := h) (s := s) (n := sr R s) (Nat.le_refl _)).2 F.2.1
  have j := jn_0 v4
  have g2 := G.2.2.1
  refine ⟨by have := j.2.2.1; omega, by have := j.2.1; omega, v3, ?_⟩
  exact jn_fit G hh F.1 (Nat.lt_of_lt_of_le v1 (by omega)) (Nat.lt_of_lt_of_le v2 (by omega)) v4
theorem nest_C (T : ShR 1 R τ) (G : Good R) {h s : Nat} (hh : h < R 1) (Fd : Found R h s) (E : EncC s (sB R h s) τ) : ∃ τ2, f_X7_carryOut 1 (nI h) τ = some (nI (R 2), τ2) ∧ ShR 1 (rNest R h s) τ2 ∧ ∀ a, a < 2 ∨ 7 < a → τ2 a = τ a := by
  obtain ⟨o1, o2, o3, o4⟩ := Found_ok G hh Fd
  obtain ⟨e1, e2, e3, e4⟩ := E.2 Fd.2.1
  obtain ⟨τ2, m1, m2, m3⟩ := createPart_eq T G o1 hh Fd.1 o3 o4 o2
  refine ⟨τ2, ?_, m2, fun a ha => m3 a (by omega)⟩
  unfold f_X7_carryOut f_X7_carryOut_0
  rw [e1, e2, e3, e4, m1]
  rfl
theorem nest_R (hR : τ 102 = rwN R) (G : Good R) {h s : Nat} (hh : h < R 1) (Fd : Found R h s) (E : EncR s (sB R h s) τ) : f_X11_places (nI h) (τ 101 25) (τ 101 22) (τ 101 23) (τ 101 24) τ = some (nI (R 2), upA τ 102 (rwN (rNest R h s))) := by
  have g1 := G.2.1
  obtain ⟨o1, o2, o3, o4⟩ := Found_ok G hh Fd
  obtain ⟨e1, e2, e3, e4⟩ := E Fd.2.1
  rw [e1, e2, e3, e4]
  exact places_eq hR o1 (by omega) o2
theorem call_nest (I : Inv σ) (x1 : Int32) : Step (f_L_nest x1) (f_X11_nest x1) σ := by
  have I0 := I
  obtain ⟨R, n, H, hv, V, len, tx, nr, rk, rp, nf, fk, fp, G, S, c, cx, r, rx⟩ := I
  have hR := r.1
  have g1 := G.2.1
  rcases int_n x1 (n := R 1) (by omega) with ⟨h, hh, rfl⟩ | hx
  · obtain ⟨τ, F, hτ⟩ := find_C c.1 G hh
    have hFc : Fc σ τ := fun a h1 h2 => F a (by omega) (by omega)
    rcases hτ with ⟨f1, f2⟩ | ⟨f1, s, f2, f3⟩
    · refine step_bad (c := nI 2) I0 (by decide) (L_nest_2 (τ := τ) ?_) hFc (fun υ hυ => ?_)
      · unfold f_X10_nest f_X10_nest_0
        simp (disch := omega) only [bind_s, sum_l, sum_r, chkin, lit, nI_add, pk_mul, nI_clamp, nI_leI, nI_ltI, nI_eqI, nI_or, and1, shl1, shrx, nI_subx, pk_divx, pk_remx, nmod, nzx, if_tt, if_ff, bz_n1, bz_n0, nm1, nm2, wI_p, wI_inj, wI_n, nI_w, wI_ltI, wI_leI, nI_ltw, nI_lew, reduceIte, ckH_in c.1 G hh, f1]
      · have hR0 : υ 102 = rwN R := by rw [hυ 102 (by omega) (by omega), hR]
        obtain ⟨τ', F', hτ'⟩ := find_R (u0R hR0 (nI 0)) G hh
        rcases hτ' with ⟨q1, q2⟩ | ⟨q1, s, q2, q3⟩
        · refine ⟨0, up τ' 101 0 (nI 2), ?_, Fr_t (u0F _ _) (Fr_t (Fz_Fr F') (u0F _ _)), up_s ..⟩
          unfold f_X11_nest f_X11_nest_0
          simp (disch := omega) only [bind_s, sum_l, sum_r, chkin, lit, nI_add, pk_mul, nI_clamp, nI_leI, nI_ltI, nI_eqI, nI_or, and1, shl1, shrx, nI_subx, pk_divx, pk_remx, nmod, nzx, if_tt, if_ff, bz_n1, bz_n0, nm1, nm2, wI_p, wI_inj, wI_n, nI_w, wI_ltI, wI_leI, nI_ltw, nI_lew, reduceIte, isShape_in (u0R hR0 _) G hh, q1, fails_eq]
        · have := f2 s q2.1
          have := q2.2.1
          omega
    · obtain ⟨o1, o2, o3, o4⟩ := Found_ok G hh f2
      have G' : Good (rNest R h s) := rPart_G G o1 hh f2.1 o3 o4
      refine step_change (R' := rNest R h s) (v := nI (R 2)) (υ := τ) G G' S c cx r rx hFc (fun τ' cτ hp => ?_) (fun τ' rτ => ?_)
      · have E' : EncC s (sB R h s) τ' := by
          obtain ⟨τ'', b1, b2, b3⟩ := CI_push (CI_c (τ := τ) (fun a h => hFc a (by omega) (by omega)) c) G
          rw [hp] at b1
          cases b1
          unfold EncC at *
          rw [b3 87 (by omega)]
          exact f3
        obtain ⟨τ2, m1, m2, m3⟩ := nest_C cτ.1 G hh f2 E'
        refine ⟨τ2, L_nest_0 ?_, m2, fun a h1 _ => m3 a (by omega)⟩
        unfold f_X10_nest f_X10_nest_0
        simp (disch := omega) only [bind_s, sum_l, sum_r, chkin, lit, nI_add, pk_mul, nI_clamp, nI_leI, nI_ltI, nI_eqI, nI_or, and1, shl1, shrx, nI_subx, pk_divx, pk_remx, nmod, nzx, if_tt, if_ff, bz_n1, bz_n0, nm1, nm2, wI_p, wI_inj, wI_n, nI_w, wI_ltI, wI_leI, nI_ltw, nI_lew, reduceIte, ckH_in c.1 G hh, f1, hp, m1]
      · obtain ⟨τ2, F', hτ'⟩ := find_R (u0R rτ.1 (nI 0)) G hh
        rcases hτ' with ⟨q1, q2⟩ | ⟨q1, s', q2, q3⟩
        · have := q2 s f2.1
          have := f2.2.1
          omega
        · have es := Found_u q2 f2
          subst es
          refine ⟨τ2, Fr_t (u0F _ _) (Fz_Fr F'), by rw [F'.2 0 (by omega), up_s]; rfl, fun τ3 ch hR3 hf3 hj3 => ⟨τ3, upA τ3 102 (rwN (rNest R h s')), Fr_r _, rfl, ?_, upA_same .., fun a ha => upA_ne _ _ ha⟩⟩
          have E3 : EncR s' (sB R h s') τ3 := fun h => by rw [hj3 25 (by decide), hj3 22 (by decide), hj3 23 (by decide), hj3 24 (by decide)]; exact q3 h
          unfold f_X11_nest f_X11_nest_0
          simp (disch := omega) only [bind_s, sum_l, sum_r, chkin, lit, nI_add, pk_mul, nI_clamp, nI_leI, nI_ltI, nI_eqI, nI_or, and1, shl1, shrx, nI_subx, pk_divx, pk_remx, nmod, nzx, if_tt, if_ff, bz_n1, bz_n0, nm1, nm2, wI_p, wI_inj, wI_n, nI_w, wI_ltI, wI_leI, nI_ltw, nI_lew, reduceIte, isShape_in (u0R rτ.1 _) G hh, q1, ch, nest_R hR3 G hh q2 E3]
  · refine step_no I0 (L_nest_1 ?_) (by decide) ?_
    · unfold f_X10_nest f_X10_nest_0
      simp (disch := omega) only [bind_s, sum_l, sum_r, chkin, lit, nI_add, pk_mul, nI_clamp, nI_leI, nI_ltI, nI_eqI, nI_or, and1, shl1, shrx, nI_subx, pk_divx, pk_remx, nmod, nzx, if_tt, if_ff, bz_n1, bz_n0, nm1, nm2, wI_p, wI_inj, wI_n, nI_w, wI_ltI, wI_leI, nI_ltw, nI_lew, reduceIte, ckH_out c.1 hx]
    · unfold f_X11_nest f_X11_nest_0
      simp (disch := omega) only [bind_s, sum_l, sum_r, chkin, lit, nI_add, pk_mul, nI_clamp, nI_leI, nI_ltI, nI_eqI, nI_or, and1, shl1, shrx, nI_subx, pk_divx, pk_remx, nmod, nzx, if_tt, if_ff, bz_n1, bz_n0, nm1, nm2, wI_p, wI_inj, wI_n, nI_w, wI_ltI, wI_leI, nI_ltw, nI_lew, reduceIte, isShape_out (u0R hR _) G hx, fails_eq]
