/-! PURE FACTS, 46: the reference's remnants -/
variable {k : Nat} {R : Nat → Nat} {σ τ : St}
/-- a label as the reference keeps it: a cell that isn't free is in no group -/
def gc (v : Nat) : Nat := if v = 0 then 1 else v
theorem gc_n {v g : Nat} : gc v = g + 2 ↔ v = g + 2 := by
  unfold gc
  split <;> omega
theorem gc_1 {v : Nat} : gc v = 1 ↔ v = 0 ∨ v = 1 := by
  unfold gc
  split <;> omega
theorem gc_lt {v n : Nat} (h : v < n) (hn : 1 < n) : gc v < n := by
  unfold gc
  split <;> omega
/-- only the groups differ -/
def Fg (σ τ : St) : Prop := (∀ a, a ≠ 112 → τ a = σ a)
/-- the group row under way -/
def GRel (n : Nat) (f : Nat → Nat) (g : Nat) (σ : St) (T : Nat → Bool) (τ : St) : Prop := Fg σ τ ∧ ∀ c, c < n → τ 112 c = wI (if T c = true then g + 2 else gc (f c))
theorem grows_eq (hR : σ 102 = rwN R) (G : Good R) {s g c0 : Nat} {f : Nat → Nat} (hs : s < R 0) (hC : Cov R s (σ 111)) (hg : g < 900) (hc0 : c0 < sc R s * sr R s) (hf : ∀ c, c < sc R s * sr R s → f c < g + 2) (hfr : ∀ c, c < sc R s * sr R s → (f c = 0 ↔ fr R s c = false)) (h0 : f c0 = 1) (hρ : ∀ c, c < sc R s * sr R s → σ 112 c = wI (gc (if c = c0 then g + 2 else f c))) : ∃ f' τ, f_X11_grows (nI s) (nI g) σ = some τ ∧ Fg σ τ ∧ (∀ c, c < sc R s * sr R s → τ 112 c = wI (gc (f' c))) ∧ Fl (sc R s) (sc R s * sr R s) f g c0 f' := by
  have hS := GS G hs
  have hn := hS.2.2.2.2.2.2.1
  have hRt : ∀ τ, Fg σ τ → τ 102 = rwN R ∧ τ 111 = σ 111 := fun τ F => ⟨by rw [F 102 (by decide), hR], F 111 (by decide)⟩
  have main := close_eq (fi := f_X11_grows_l11 (nI s) (nI g)) (fo' := f_X11_grows_l2 (nI s) (nI g)) (τ := σ) (n := sc R s * sr R s) hn (fun T c => !T c && (decide (f c = 1) && bsd (sc R s) (sc R s * sr R s) T c)) (fun T τ => GRel (sc R s * sr R s) f g σ T τ) (fun T => ∀ c, c < sc R s * sr R s → T c = true → Rch (sc R s) (sc R s * sr R s) (fun c => f c = 1) (fun c => c = c0 ∧ f c = 1) c) (T := fun c => decide (c = c0)) (fun T τ c m hc _ hr => by
      obtain ⟨F, hτ⟩ := hr
      obtain ⟨hR1, h111⟩ := hRt τ F
      have hC1 : Cov R s (τ 111) := by rw [h111]; exact hC
      have hfc := hf c hc
      have hrow := hτ c hc
      have hb := besG_eq (g := g) (ρ := fun d => if T d = true then g + 2 else gc (f d)) hR1 G hs hc (by omega) (fun d hd => ⟨hτ d hd, by
        have := hf d hd
        split
        · omega
        · exact Nat.lt_of_lt_of_le (gc_lt this (by omega)) (by omega)⟩)
      have hbe : bsd (sc R s) (sc R s * sr R s) (fun d => decide ((if T d = true then g + 2 else gc (f d)) = g + 2)) c = bsd (sc R s) (sc R s * sr R s) T c := by
        have hT : ∀ d, d < sc R s * sr R s → decide ((if T d = true then g + 2 else gc (f d)) = g + 2) = T d := fun d hd => by
          have := hf d hd
          cases T d
          · rw [if_neg Bool.false_ne_true, decide_eq_false]
            rw [gc_n]
            omega
          · rw [if_pos rfl, decide_eq_true rfl]
        apply Bool.eq_iff_iff.mpr
        rw [bsd_i (by omega) hc, bsd_i (by omega) hc]
        constructor
        · rintro ⟨d, h1, h2, h3⟩
          exact ⟨d, h1, h2, by rw [← hT d h1]; exact h3⟩
        · rintro ⟨d, h1, h2, h3⟩
          exact ⟨d, h1, h2, by rw [hT d h1]; exact h3⟩
      rw [hbe] at hb
      have hgl : (if T c = true then g + 2 else gc (f c)) < 2000 := by
        split
        · omega
        · exact Nat.lt_of_lt_of_le (gc_lt hfc (by omega)) (by omega)
      constructor
      · intro hcond
        rw [Bool.and_eq_true, Bool.and_eq_true, decide_eq_true_eq] at hcond
        obtain ⟨q1, q2, q3⟩ := hcond
        have q1 : T c = false := by cases e : T c <;> simp_all
        have hfr1 : fr R s c = true := by
          cases e : fr R s c with
          | true => rfl
          | false => have := (hfr c hc).mpr e; omega
        rw [q1, if_neg Bool.false_ne_true, q2] at hrow
        have hrow1 : τ 112 c = wI 1 := hrow
        refine ⟨up τ 112 c (nI g), ?_, fun a ha => by rw [up_k _ _ _ ha, F a ha], fun d hd => ?_⟩
        · unfold f_X11_grows_l11 f_X11_grows_j63
          dsimp only
          simp (disch := omega) only [bind_s, sum_l, sum_r, chkin, lit, nI_add, pk_mul, nI_clamp, nI_leI, nI_ltI, nI_eqI, nI_or, and1, shl1, shrx, nI_subx, pk_divx, pk_remx, nmod, nzx, if_tt, if_ff, bz_n1, bz_n0, nm1, nm2, wI_p, wI_inj, wI_n, nI_w, wI_ltI, wI_leI, nI_ltw, nI_lew, reduceIte, cellsR_eq hR1 hS.1, freeR_eq hR1 G hs (show c < 100 by omega) hC1, hfr1, bN_e0, hrow1, hb, q3, reduceCtorEq]
        · unfold ins
          by_cases e : d = c
          · subst e; rw [up_s, if_pos rfl, if_pos rfl, wI_p]
          · rw [up_j _ _ _ e, if_neg e]; exact hτ d hd
      · intro hcond
        unfold f_X11_grows_l11 f_X11_grows_j63
        dsimp only
        cases e1 : fr R s c with
        | false =>
          simp (disch := omega) only [bind_s, sum_l, sum_r, chkin, lit, nI_add, pk_mul, nI_clamp, nI_leI, nI_ltI, nI_eqI, nI_or, and1, shl1, shrx, nI_subx, pk_divx, pk_remx, nmod, nzx, if_tt, if_ff, bz_n1, bz_n0, nm1, nm2, wI_p, wI_inj, wI_n, nI_w, wI_ltI, wI_leI, nI_ltw, nI_lew, reduceIte, cellsR_eq hR1 hS.1, freeR_eq hR1 G hs (show c < 100 by omega) hC1, e1, bN_e0]
        | true =>
          have hf0 : f c ≠ 0 := fun e => by rw [(hfr c hc).mp e] at e1; cases e1
          simp (disch := omega) only [bind_s, sum_l, sum_r, chkin, lit, nI_add, pk_mul, nI_clamp, nI_leI, nI_ltI, nI_eqI, nI_or, and1, shl1, shrx, nI_subx, pk_divx, pk_remx, nmod, nzx, if_tt, if_ff, bz_n1, bz_n0, nm1, nm2, wI_p, wI_inj, wI_n, nI_w, wI_ltI, wI_leI, nI_ltw, nI_lew, reduceIte, cellsR_eq hR1 hS.1, freeR_eq hR1 G hs (show c < 100 by omega) hC1, e1, bN_e0, reduceCtorEq, hrow]
          by_cases e2 : (if T c = true then g + 2 else gc (f c)) = 1
          · have e3 : T c = false := by
              cases e : T c with
              | false => rfl
              | true => rw [e, if_pos rfl] at e2; omega
            have e4 : f c = 1 := by
              rw [e3, if_neg Bool.false_ne_true, gc_1] at e2
              omega
            have e5 : bsd (sc R s) (sc R s * sr R s) T c = false := by
              rw [e3, e4] at hcond
              simpa using hcond
            rw [if_pos e2, hb, e5]
            rfl
          · rw [if_neg e2]) (fun T τ m hr => by
      obtain ⟨F, hτ⟩ := hr
      obtain ⟨hR1, h111⟩ := hRt τ F
      unfold f_X11_grows_l11
      dsimp only
      simp (disch := omega) only [bind_s, sum_l, sum_r, chkin, lit, nI_add, pk_mul, nI_clamp, nI_leI, nI_ltI, nI_eqI, nI_or, and1, shl1, shrx, nI_subx, pk_divx, pk_remx, nmod, nzx, if_tt, if_ff, bz_n1, bz_n0, nm1, nm2, wI_p, wI_inj, wI_n, nI_w, wI_ltI, wI_leI, nI_ltw, nI_lew, reduceIte, cellsR_eq hR1 hS.1]) (fun τ => ⟨rfl, rfl⟩) (fun T c h => by
      rw [Bool.and_eq_true] at h
      cases e : T c with
      | false => rfl
      | true => rw [e] at h; cases h.1) (fun T c hc hJ hcond d hd ht => by
      rw [Bool.and_eq_true, Bool.and_eq_true, decide_eq_true_eq, bsd_i (by omega) hc] at hcond
      obtain ⟨q1, q2, e, he, hne, hte⟩ := hcond
      unfold ins at ht
      by_cases e2 : d = c
      · subst e2
        exact Rch_n (hJ e he hte) hne q2
      · rw [if_neg e2] at ht
        exact hJ d hd ht) ⟨fun _ _ => rfl, fun c hc => by
      rw [hρ c hc]
      show _ = wI (if decide (c = c0) = true then g + 2 else gc (f c))
      by_cases e : c = c0
      · rw [if_pos e, decide_eq_true e, if_pos rfl]; rfl
      · rw [if_neg e, decide_eq_false e, if_neg Bool.false_ne_true]⟩ (fun c hc ht => by
      rw [decide_eq_true_eq] at ht
      exact Rch_s ⟨ht, by rw [ht]; exact h0⟩)
  obtain ⟨T', τ', m1, ⟨m2, m3⟩, m4, m5, m6⟩ := main
  refine ⟨fun c => if T' c = true then g + 2 else f c, τ', ?_, m2, fun c hc => ?_, fun c hc => ⟨fun hr => ?_, fun hno => ?_⟩⟩
  · unfold f_X11_grows f_X11_grows_0
    rw [show (1 : Int32) = nI 1 from rfl, m1]
    rfl
  · rw [m3 c hc]
    dsimp only
    cases T' c
    · rw [if_neg Bool.false_ne_true, if_neg Bool.false_ne_true]
    · rw [if_pos rfl, if_pos rfl]; rfl
  · have := hr (fun c => c < sc R s * sr R s ∧ T' c = true) (fun a ha => by
      obtain ⟨rfl, ha2⟩ := ha
      exact ⟨hc0, m5 _ (decide_eq_true rfl)⟩) (fun a b ha hn2 ho => by
      have hb := Nb_lt ha.1 hn2
      refine ⟨hb, ?_⟩
      have q := m6 b hb
      have q2 : bsd (sc R s) (sc R s * sr R s) T' b = true := (bsd_i (by omega) hb).mpr ⟨a, ha.1, hn2, ha.2⟩
      rw [q2, decide_eq_true ho] at q
      cases e : T' b with
      | true => rfl
      | false => rw [e] at q; cases q)
    exact if_pos this.2
  · refine if_neg (fun ht => hno (m4 c hc ht))
theorem remR_eq (hR : σ 102 = rwN R) (G : Good R) {s : Nat} (hs : s < R 0) : ∃ f m τ, f_X11_remnants (nI s) σ = some τ ∧ RemS (sc R s) (sc R s * sr R s) (rf0 R s) (sc R s * sr R s) f m ∧ (∀ a, a ≠ 101 → a ≠ 111 → a ≠ 112 → τ a = σ a) ∧ (∀ j, j ≠ 17 → τ 101 j = σ 101 j) ∧ τ 101 17 = nI m ∧ Cov R s (τ 111) ∧ ∀ c, c < sc R s * sr R s → τ 112 c = wI (gc (f c)) := by
  have hS := GS G hs
  have hn := hS.2.2.2.2.2.2.1
  obtain ⟨row, l1, l2⟩ := looks_eq hR G s (by omega)
  generalize hσ1 : up (upA σ 111 row) 101 17 (nI 0) = σ1
  have d1 : ∀ a, a ≠ 101 → a ≠ 111 → σ1 a = σ a := fun a h1 h2 => by rw [← hσ1, up_k _ _ _ h1, upA_ne _ _ h2]
  have dj : ∀ j, j ≠ 17 → σ1 101 j = σ 101 j := fun j h => by rw [← hσ1, up_j _ _ _ h, upA_ne _ _ (by decide)]
  have d17 : σ1 101 17 = nI 0 := by rw [← hσ1, up_s]
  have hC1 : Cov R s (σ1 111) := by rw [← hσ1, up_k _ _ _ (by decide), upA_same]; exact l2
  obtain ⟨row2, c1, c2⟩ := clear_eq (f := f_X11_remnants_l12 (nI s)) 112 (wI 1) σ1 (fun i τ hi => by
    unfold f_X11_remnants_l12
    dsimp only
    simp (disch := omega) only [bind_s, sum_l, sum_r, chkin, lit, nI_add, pk_mul, nI_clamp, nI_leI, nI_ltI, nI_eqI, nI_or, and1, shl1, shrx, nI_subx, pk_divx, pk_remx, nmod, nzx, if_tt, if_ff, bz_n1, bz_n0, nm1, nm2, wI_p, wI_inj, wI_n, nI_w, wI_ltI, wI_leI, nI_ltw, nI_lew, reduceIte]) (fun τ => by
    unfold f_X11_remnants_l12
    dsimp only
    simp (disch := omega) only [bind_s, sum_l, sum_r, chkin, lit, nI_add, pk_mul, nI_clamp, nI_leI, nI_ltI, nI_eqI, nI_or, and1, shl1, shrx, nI_subx, pk_divx, pk_remx, nmod, nzx, if_tt, if_ff, bz_n1, bz_n0, nm1, nm2, wI_p, wI_inj, wI_n, nI_w, wI_ltI, wI_leI, nI_ltw, nI_lew, reduceIte])
  generalize hσ2 : upA σ1 112 row2 = σ2 at c1
  have e2 : ∀ a, a ≠ 112 → σ2 a = σ1 a := fun a h => by rw [← hσ2, upA_ne _ _ h]
  have e112 : ∀ c, c < 100 → σ2 112 c = wI 1 := fun c hc => by rw [← hσ2, upA_same, c2 c hc]
  obtain ⟨τ', q1, f, m, q2, q3, q4, q5, q6⟩ := lp_fu (f := f_X11_remnants_l33 (nI s)) (fun i z => ∃ f m τ', z = (nI i, τ') ∧ RemS (sc R s) (sc R s * sr R s) (rf0 R s) i f m ∧ (∀ a, a ≠ 101 → a ≠ 112 → τ' a = σ2 a) ∧ (∀ j, j ≠ 17 → τ' 101 j = σ2 101 j) ∧ τ' 101 17 = nI m ∧ (∀ c, c < sc R s * sr R s → τ' 112 c = wI (gc (f c))) ∧ ∀ c, c < sc R s * sr R s → (f c = 0 ↔ fr R s c = false)) (fun τ' => ∃ f m, RemS (sc R s) (sc R s * sr R s) (rf0 R s) (sc R s * sr R s) f m ∧ (∀ a, a ≠ 101 → a ≠ 112 → τ' a = σ2 a) ∧ (∀ j, j ≠ 17 → τ' 101 j = σ2 101 j) ∧ τ' 101 17 = nI m ∧ ∀ c, c < sc R s * sr R s → τ' 112 c = wI (gc (f c))) (sc R s * sr R s) (by omega) (nI 0, σ2) ⟨rf0 R s, 0, σ2, rfl, ⟨fun _ _ => rfl, rfl⟩, fun _ _ _ => rfl, fun _ _ => rfl, by rw [e2 101 (by decide), d17], fun c hc => by
    rw [e112 c (by omega)]
    exact congrArg wI (gc_1.mpr (by have := rf0_le (R := R) s c; omega)).symm, fun c hc => by
    rw [on_fr G hs hc]
    unfold rf0
    by_cases e : on R s c = 1
    · rw [if_pos e, decide_eq_true e]; simp
    · rw [if_neg e, decide_eq_false e]; simp⟩ (by
    rintro i z hi ⟨f, m, τ', rfl, S, F, Fj, h17, h112, hfr⟩
    left
    obtain ⟨b1, b2⟩ := RemS_b (fun c _ => rf0_le s c) S
    have hR1 : τ' 102 = rwN R := by rw [F 102 (by decide) (by decide), e2 102 (by decide), d1 102 (by decide) (by decide), hR]
    have hC' : Cov R s (τ' 111) := by rw [F 111 (by decide) (by decide), e2 111 (by decide)]; exact hC1
    have hfi := b2 i hi
    have hrow := h112 i hi
    have hgl : gc (f i) < 2000 := Nat.lt_of_lt_of_le (gc_lt hfi (by omega)) (by omega)
    cases e1 : fr R s i with
    | false =>
      have hf0 := (hfr i hi).mpr e1
      refine ⟨(nI (i + 1), τ'), ?_, f, m, τ', rfl, ⟨f, m, S, Or.inr ⟨by omega, rfl, fun _ _ => rfl⟩⟩, F, Fj, h17, h112, hfr⟩
      unfold f_X11_remnants_l33 f_X11_remnants_j90
      dsimp only
      simp (disch := omega) only [bind_s, sum_l, sum_r, chkin, lit, nI_add, pk_mul, nI_clamp, nI_leI, nI_ltI, nI_eqI, nI_or, and1, shl1, shrx, nI_subx, pk_divx, pk_remx, nmod, nzx, if_tt, if_ff, bz_n1, bz_n0, nm1, nm2, wI_p, wI_inj, wI_n, nI_w, wI_ltI, wI_leI, nI_ltw, nI_lew, reduceIte, cellsR_eq hR1 hS.1, freeR_eq hR1 G hs (show i < 100 by omega) hC', e1, bN_e0]
    | true =>
      have hf0 : f i ≠ 0 := fun e => by rw [(hfr i hi).mp e] at e1; cases e1
      by_cases e3 : f i = 1
      · rw [e3] at hrow
        have hrow1 : τ' 112 i = wI 1 := hrow
        have u17 : (up τ' 112 i (nI m)) 101 17 = nI m := by rw [up_k _ _ _ (by decide), h17]
        obtain ⟨f', τ2, g1, g2, g3, g4⟩ := grows_eq (σ := up τ' 112 i (nI m)) (g := m) (c0 := i) (f := f) (by rw [up_k _ _ _ (by decide), hR1]) G hs (by rw [up_k _ _ _ (by decide)]; exact hC') (by omega) hi b2 hfr e3 (fun c hc => by
          by_cases e : c = i
          · subst e; rw [up_s, if_pos rfl, gc_n.mpr rfl, wI_p]
          · rw [up_j _ _ _ e, if_neg e]; exact h112 c hc)
        have t17 : τ2 101 17 = nI m := by rw [g2 101 (by decide), u17]
        refine ⟨(nI (i + 1), up τ2 101 17 (nI (m + 1))), ?_, f', m + 1, _, rfl, ⟨f, m, S, Or.inl ⟨e3, rfl, g4⟩⟩, fun a h1 h2 => by rw [up_k _ _ _ h1, g2 a h2, up_k _ _ _ h2, F a h1 h2], fun j hj => by rw [up_j _ _ _ hj, g2 101 (by decide), up_k _ _ _ (by decide), Fj j hj], up_s .., fun c hc => by rw [up_k _ _ _ (by decide)]; exact g3 c hc, fun c hc => ?_⟩
        · unfold f_X11_remnants_l33 f_X11_remnants_j90
          dsimp only
          simp (disch := omega) only [bind_s, sum_l, sum_r, chkin, lit, nI_add, pk_mul, nI_clamp, nI_leI, nI_ltI, nI_eqI, nI_or, and1, shl1, shrx, nI_subx, pk_divx, pk_remx, nmod, nzx, if_tt, if_ff, bz_n1, bz_n0, nm1, nm2, wI_p, wI_inj, wI_n, nI_w, wI_ltI, wI_leI, nI_ltw, nI_lew, reduceIte, cellsR_eq hR1 hS.1, freeR_eq hR1 G hs (show i < 100 by omega) hC', e1, bN_e0, reduceCtorEq, hrow1, h17, u17, g1, t17]
        · rw [← hfr c hc]
          by_cases q : Rch (sc R s) (sc R s * sr R s) (fun c => f c = 1) (fun c => c = i ∧ f c = 1) c
          · rw [(g4 c hc).1 q]
            have : f c = 1 := by
              have := q (fun c => f c = 1) (fun a ha => ha.2) (fun a b _ _ ho => ho)
              exact this
            omega
          · rw [(g4 c hc).2 q]
      · refine ⟨(nI (i + 1), τ'), ?_, f, m, τ', rfl, ⟨f, m, S, Or.inr ⟨e3, rfl, fun _ _ => rfl⟩⟩, F, Fj, h17, h112, hfr⟩
        have e4 : ¬ gc (f i) = 1 := fun h => by rcases gc_1.mp h with h | h <;> omega
        unfold f_X11_remnants_l33 f_X11_remnants_j90
        dsimp only
        simp (disch := omega) only [bind_s, sum_l, sum_r, chkin, lit, nI_add, pk_mul, nI_clamp, nI_leI, nI_ltI, nI_eqI, nI_or, and1, shl1, shrx, nI_subx, pk_divx, pk_remx, nmod, nzx, if_tt, if_ff, bz_n1, bz_n0, nm1, nm2, wI_p, wI_inj, wI_n, nI_w, wI_ltI, wI_leI, nI_ltw, nI_lew, reduceIte, cellsR_eq hR1 hS.1, freeR_eq hR1 G hs (show i < 100 by omega) hC', e1, bN_e0, reduceCtorEq, hrow, e4]) (by
    rintro z ⟨f, m, τ', rfl, S, F, Fj, h17, h112, hfr⟩
    have hR1 : τ' 102 = rwN R := by rw [F 102 (by decide) (by decide), e2 102 (by decide), d1 102 (by decide) (by decide), hR]
    refine ⟨τ', ?_, f, m, S, F, Fj, h17, h112⟩
    unfold f_X11_remnants_l33
    dsimp only
    simp (disch := omega) only [bind_s, sum_l, sum_r, chkin, lit, nI_add, pk_mul, nI_clamp, nI_leI, nI_ltI, nI_eqI, nI_or, and1, shl1, shrx, nI_subx, pk_divx, pk_remx, nmod, nzx, if_tt, if_ff, bz_n1, bz_n0, nm1, nm2, wI_p, wI_inj, wI_n, nI_w, wI_ltI, wI_leI, nI_ltw, nI_lew, reduceIte, cellsR_eq hR1 hS.1])
  refine ⟨f, m, τ', ?_, q2, fun a h1 h2 h3 => by rw [q3 a h1 h3, e2 a h3, d1 a h1 h2], fun j hj => by rw [q4 j hj, e2 101 (by decide), dj j hj], q5, ?_, q6⟩
  · unfold f_X11_remnants f_X11_remnants_0
    rw [l1, bind_s, show (0 : Int32) = nI 0 from rfl, hσ1, c1, bind_s, q1]
    rfl
  · rw [q3 111 (by decide) (by decide), e2 111 (by decide)]; exact hC1
