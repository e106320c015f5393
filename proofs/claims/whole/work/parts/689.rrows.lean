/-! PURE FACTS, 96: texts, a shape's rows, the reference's -/
variable {len p c k m prev : Nat} {f : Nat → Nat} {b e o : Bool} {σ τ υ : St}
def PR (σ τ : St) : Prop := (∀ a, a ≠ 101 → τ a = σ a) ∧ ∀ j, j ≠ 38 → j ≠ 39 → ¬ (43 ≤ j ∧ j ≤ 46) → τ 101 j = σ 101 j
theorem PR_r (σ : St) : PR σ σ := ⟨fun _ _ => rfl, fun _ _ _ _ => rfl⟩
theorem PR_t (h : PR σ τ) (h2 : PR τ υ) : PR σ υ := ⟨fun a ha => (h2.1 a ha).trans (h.1 a ha), fun j h3 h4 h5 => (h2.2 j h3 h4 h5).trans (h.2 j h3 h4 h5)⟩
theorem PR_2 (h : P2 σ τ) : PR σ τ := ⟨h.1, fun j h1 h2 _ => h.2 j h1 h2⟩
theorem PR_up (σ : St) {j : Nat} (v : Int32) (h : j = 38 ∨ j = 39 ∨ (43 ≤ j ∧ j ≤ 46)) : PR σ (up σ 101 j v) := ⟨fun a ha => up_k _ _ _ ha, fun i h1 h2 h3 => up_j _ _ _ (by omega)⟩
/-- what makes rows odd -/
def oddR (o : Bool) (k w prev : Nat) : Bool := o || (decide (0 < k) && decide (w ≠ prev)) || decide (4 < w) || decide (3 < k)
theorem rowlpR_eq (X : TX f len) (P : PS f len (decide (0 < wd f p)) p σ) (h43 : σ 101 43 = nI k) (h45 : σ 101 45 = nI m) (hk : k < 100) : ∃ τ, lp f_X11_row_l36 FU (nI 0, σ) = some (nI (wd f p), τ) ∧ PS f len (decide (0 < wd f p)) (p + wd f p) τ ∧ τ 101 45 = nI (rowN f 4 k p m (wd f p)) ∧ (∀ a, a ≠ 101 → τ a = σ a) ∧ ∀ j, j ≠ 38 → j ≠ 45 → τ 101 j = σ 101 j := by
  have hl := X.1
  have hw := wd_le X P.2.2.2.1
  obtain ⟨w1, w2⟩ := wd_ok X p
  obtain ⟨v, q1, τ, rfl, q2⟩ := lp_fu (f := f_X11_row_l36) (fun i z => ∃ τ, z = (nI i, τ) ∧ PS f len (decide (0 < wd f p)) (p + i) τ ∧ τ 101 45 = nI (rowN f 4 k p m i) ∧ (∀ a, a ≠ 101 → τ a = σ a) ∧ ∀ j, j ≠ 38 → j ≠ 45 → τ 101 j = σ 101 j) (fun v => ∃ τ, v = (nI (wd f p), τ) ∧ PS f len (decide (0 < wd f p)) (p + wd f p) τ ∧ τ 101 45 = nI (rowN f 4 k p m (wd f p)) ∧ (∀ a, a ≠ 101 → τ a = σ a) ∧ ∀ j, j ≠ 38 → j ≠ 45 → τ 101 j = σ 101 j) (wd f p) (by omega) (nI 0, σ) ⟨σ, rfl, P, h45, fun _ _ => rfl, fun _ _ _ => rfl⟩ (by
    rintro i z hi ⟨τ, rfl, P1, e45, F1, F2⟩
    left
    have hro := ro_i.mp (w1 i hi)
    have hin := ro_in X (w1 i hi)
    have n39 : ¬ τ 101 39 = 0 := by rw [P1.2.2.2.2, decide_eq_true (show 0 < wd f p by omega)]; exact t0
    obtain ⟨h, a1, a2, a3⟩ := hereR_eq X P1
    have e43 : τ 101 43 = nI k := by rw [F2 43 (by decide) (by decide), h43]
    have rs : rowN f 4 k p m (i + 1) = if hs f k p i = true then rowN f 4 k p m i ||| 2 ^ (4 * k + i) else rowN f 4 k p m i := rfl
    -- what the figure leaves
    have fig : ∃ τ2, f_X11_row_j61 (nI i) τ = some (.inl (nI (i + 1), up τ2 101 38 (nI (p + i + 1)))) ∧ PS f len (decide (0 < wd f p)) (p + i) τ2 ∧ τ2 101 45 = nI (rowN f 4 k p m (i + 1)) ∧ (∀ a, a ≠ 101 → τ2 a = τ a) ∧ ∀ j, j ≠ 45 → τ2 101 j = τ 101 j := by
      have j102 : ∀ τ2, PS f len (decide (0 < wd f p)) (p + i) τ2 → f_X11_row_j102 (nI i) τ2 = some (.inl (nI (i + 1), up τ2 101 38 (nI (p + i + 1)))) := fun τ2 P2 => by
        unfold f_X11_row_j102
        rw [P2.2.2.1, nI_1, nI_1]
      have same : ¬ hs f k p i = true → f_X11_row_j61 (nI i) τ = f_X11_row_j102 (nI i) τ → ∃ τ2, f_X11_row_j61 (nI i) τ = some (.inl (nI (i + 1), up τ2 101 38 (nI (p + i + 1)))) ∧ PS f len (decide (0 < wd f p)) (p + i) τ2 ∧ τ2 101 45 = nI (rowN f 4 k p m (i + 1)) ∧ (∀ a, a ≠ 101 → τ2 a = τ a) ∧ ∀ j, j ≠ 45 → τ2 101 j = τ 101 j := fun hn hj => by
        refine ⟨τ, by rw [hj, j102 τ P1], P1, by rw [e45, rs, if_neg hn], fun _ _ => rfl, fun _ _ => rfl⟩
      by_cases c1 : i < 4
      · by_cases c2 : k < 4
        · by_cases c3 : f (p + i) = 35
          · have ht : hs f k p i = true := by unfold hs; rw [decide_eq_true c1, decide_eq_true c2, decide_eq_true c3]; rfl
            have P2 : PS f len (decide (0 < wd f p)) (p + i) (up τ 101 45 (nI (rowN f 4 k p m (i + 1)))) := PS_up P1 (by decide) (by decide) (by decide)
            refine ⟨up τ 101 45 (nI (rowN f 4 k p m (i + 1))), ?_, P2, up_s .., fun a ha => up_k _ _ _ ha, fun j hj => up_j _ _ _ hj⟩
            rw [← j102 _ P2]
            unfold f_X11_row_j61
            rw [if_neg (show ¬ (4 : Int32) ≤ nI i from nI_ge (a := i) (b := 4) c1 (by decide)), if_neg (show ¬ (4 : Int32) ≤ τ 101 43 by rw [e43]; exact nI_ge (a := k) (b := 4) c2 (by decide)), a1, bind_s, if_pos (show h = 35 from (a2 35 (by decide) (by decide)).mpr c3), e43, e45, show (31 : Int32) = nI 31 from rfl, show (4 : Int32) = nI 4 from rfl, show (1 : Int32) = nI 1 from rfl, pk_mul, nI_add, shl1 (by omega), nI_or, rs, if_pos ht]
          · refine same (fun h => c3 ?_) ?_
            · unfold hs at h
              rw [Bool.and_eq_true, decide_eq_true_iff] at h
              exact h.2
            · unfold f_X11_row_j61
              rw [if_neg (show ¬ (4 : Int32) ≤ nI i from nI_ge (a := i) (b := 4) c1 (by decide)), if_neg (show ¬ (4 : Int32) ≤ τ 101 43 by rw [e43]; exact nI_ge (a := k) (b := 4) c2 (by decide)), a1, bind_s, if_neg (show ¬ h = 35 from fun g => c3 ((a2 35 (by decide) (by decide)).mp g))]
        · refine same (fun h => c2 ?_) ?_
          · unfold hs at h
            rw [Bool.and_eq_true, Bool.and_eq_true, decide_eq_true_iff, decide_eq_true_iff] at h
            exact h.1.2
          · unfold f_X11_row_j61
            rw [if_neg (show ¬ (4 : Int32) ≤ nI i from nI_ge (a := i) (b := 4) c1 (by decide)), if_pos (show (4 : Int32) ≤ τ 101 43 by rw [e43]; exact nI_le (a := 4) (b := k) (by omega) (by omega))]
      · refine same (fun h => c1 ?_) ?_
        · unfold hs at h
          rw [Bool.and_eq_true, Bool.and_eq_true, decide_eq_true_iff, decide_eq_true_iff] at h
          exact h.1.1
        · unfold f_X11_row_j61
          rw [if_pos (show (4 : Int32) ≤ nI i from nI_le (a := 4) (b := i) (by omega) (by omega))]
    obtain ⟨τ2, g1, g2, g3, g4, g5⟩ := fig
    refine ⟨_, ?_, up τ2 101 38 (nI (p + i + 1)), rfl, PS_38 g2 (by omega), ?_, fun a ha => by rw [up_k _ _ _ ha, g4 a ha, F1 a ha], fun j h1 h2 => by rw [up_j _ _ _ h1, g5 j h2, F2 j h1 h2]⟩
    · unfold f_X11_row_l36
      dsimp only
      rw [if_neg n39, a1, bind_s]
      rcases hro with q | q
      · rw [if_pos (show h = 35 from (a2 35 (by decide) (by decide)).mpr q), g1]
      · rw [if_neg (show ¬ h = 35 from fun g => by have := (a2 35 (by decide) (by decide)).mp g; omega), bind_s, if_pos (show h = 46 from (a2 46 (by decide) (by decide)).mpr q), g1]
    · rw [up_j _ _ _ (by decide), g3]) (by
    rintro z ⟨τ, rfl, P1, e45, F1, F2⟩
    refine ⟨_, ?_, τ, rfl, P1, e45, F1, F2⟩
    unfold f_X11_row_l36
    dsimp only
    by_cases q : 0 < wd f p
    · obtain ⟨h, a1, a2, a3⟩ := hereR_eq X P1
      rw [if_neg (show ¬ τ 101 39 = 0 by rw [P1.2.2.2.2, decide_eq_true q]; exact t0), a1, bind_s, if_neg (show ¬ h = 35 from fun g => w2 (ro_i.mpr (Or.inl ((a2 35 (by decide) (by decide)).mp g)))), bind_s, if_neg (show ¬ h = 46 from fun g => w2 (ro_i.mpr (Or.inr ((a2 46 (by decide) (by decide)).mp g))))]
    · rw [if_pos (show τ 101 39 = 0 by rw [P1.2.2.2.2, decide_eq_false q]; rfl)])
  exact ⟨τ, q1, q2⟩
theorem wd_0 (X : TX f len) : 0 < wd f p ↔ ro f p = true := by
  obtain ⟨w1, w2⟩ := wd_ok X p
  constructor
  · intro h; exact w1 0 h
  · intro h
    rcases Nat.eq_zero_or_pos (wd f p) with g | g
    · rw [g] at w2; exact absurd h w2
    · exact g
theorem rowRR_eq (X : TX f len) (P : PS f len true p σ) (h43 : σ 101 43 = nI k) (h44 : σ 101 44 = nI prev) (h45 : σ 101 45 = nI m) (h46 : σ 101 46 = nI (bN o)) (hk : k < 100) (hpv : prev < 1000) : ∃ τ, f_X11_row σ = some τ ∧ PS f len (decide (0 < wd f p)) (p + wd f p) τ ∧ PR σ τ ∧ τ 101 43 = nI (k + 1) ∧ τ 101 44 = nI (wd f p) ∧ τ 101 45 = nI (rowN f 4 k p m (wd f p)) ∧ τ 101 46 = nI (bN (oddR o k (wd f p) prev)) := by
  have hl := X.1
  have hw := wd_le X P.2.2.2.1
  obtain ⟨h, a1, a2, a3⟩ := hereR_eq X P
  have P1 := PS_39 P (decide (0 < wd f p))
  obtain ⟨τ, b1, b2, b3, b4, b5⟩ := rowlpR_eq (σ := up σ 101 39 (nI (bN (decide (0 < wd f p))))) (k := k) (m := m) X P1 (by rw [up_j _ _ _ (by decide), h43]) (by rw [up_j _ _ _ (by decide), h45]) hk
  have c43 : τ 101 43 = nI k := by rw [b5 43 (by decide) (by decide), up_j _ _ _ (by decide), h43]
  have c44 : τ 101 44 = nI prev := by rw [b5 44 (by decide) (by decide), up_j _ _ _ (by decide), h44]
  have c46 : τ 101 46 = nI (bN o) := by rw [b5 46 (by decide) (by decide), up_j _ _ _ (by decide), h46]
  have hj : f_X11_row σ = (f_X11_row_j118 (nI (wd f p)) τ) := by
    have go : ∀ w : Bool, w = decide (0 < wd f p) → f_X11_row_j33 0 (nI (bN w)) σ = f_X11_row_j118 (nI (wd f p)) τ := fun w hw => by
      subst hw
      unfold f_X11_row_j33
      have b1' : lp f_X11_row_l36 FU (0, up σ 101 39 (nI (bN (decide (0 < wd f p))))) = some (nI (wd f p), τ) := b1
      rw [chk_t (okzb _), b1', bind_s]
    unfold f_X11_row f_X11_row_0 f_X11_row_j28 f_X11_row_j32
    rw [if_neg (show ¬ σ 101 39 = 0 by rw [P.2.2.2.2]; exact t0), a1, bind_s]
    by_cases q1 : f p = 35
    · rw [if_pos (show h = 35 from (a2 35 (by decide) (by decide)).mpr q1)]
      exact go true (decide_eq_true ((wd_0 X).mpr (ro_i.mpr (Or.inl q1)))).symm
    · rw [if_neg (show ¬ h = 35 from fun g => q1 ((a2 35 (by decide) (by decide)).mp g)), bind_s]
      by_cases q2 : f p = 46
      · rw [if_pos (show h = 46 from (a2 46 (by decide) (by decide)).mpr q2)]
        exact go true (decide_eq_true ((wd_0 X).mpr (ro_i.mpr (Or.inr q2)))).symm
      · rw [if_neg (show ¬ h = 46 from fun g => q2 ((a2 46 (by decide) (by decide)).mp g))]
        exact go false (decide_eq_false (fun g => by rcases ro_i.mp ((wd_0 X).mp g) with r | r <;> omega)).symm
  have fin : ∀ w : Bool, f_X11_row_j159 (nI (wd f p)) (nI (bN w)) τ = some (up (up (up τ 101 46 (nI (bN w))) 101 44 (nI (wd f p))) 101 43 (nI (k + 1))) := fun w => by
    unfold f_X11_row_j159
    rw [chk_t (okzb w), up_j _ _ _ (show (43 : Nat) ≠ 44 by decide), up_j _ _ _ (show (43 : Nat) ≠ 46 by decide), c43, nI_1]
  have d141 : f_X11_row_j141 (nI (wd f p)) τ = f_X11_row_j159 (nI (wd f p)) (nI (bN (decide (4 < wd f p) || decide (3 < k)))) τ := by
    unfold f_X11_row_j141 f_X11_row_j154
    by_cases q1 : 4 < wd f p
    · rw [if_pos (show (4 : Int32) < nI (wd f p) from nI_lt (a := 4) q1 (by omega)), decide_eq_true q1]; rfl
    · rw [if_neg (show ¬ (4 : Int32) < nI (wd f p) from fun g => q1 ((nI_ltI (a := 4) (by decide) (by omega)).mp g)), decide_eq_false q1, Bool.false_or]
      by_cases q2 : 3 < k
      · rw [if_neg (show ¬ τ 101 43 ≤ 3 by rw [c43]; exact nI_ge (a := 3) q2 (by omega)), decide_eq_true q2]; rfl
      · rw [if_pos (show τ 101 43 ≤ 3 by rw [c43]; exact nI_le (b := 3) (by omega) (by decide)), decide_eq_false q2]; rfl
  have d118 : f_X11_row_j118 (nI (wd f p)) τ = f_X11_row_j159 (nI (wd f p)) (nI (bN (oddR o k (wd f p) prev))) τ := by
    unfold f_X11_row_j118 f_X11_row_j154 oddR
    cases o
    · rw [if_pos (show τ 101 46 = 0 by rw [c46]; rfl), d141, Bool.false_or]
      by_cases q1 : 0 < k
      · rw [if_neg (show ¬ τ 101 43 ≤ 0 by rw [c43]; exact nI_ge (a := 0) q1 (by omega)), decide_eq_true q1, Bool.true_and]
        by_cases q2 : wd f p = prev
        · rw [if_pos (show nI (wd f p) = τ 101 44 by rw [c44, q2]), decide_eq_false (show ¬ wd f p ≠ prev from fun g => g q2), Bool.false_or]
        · rw [if_neg (show ¬ nI (wd f p) = τ 101 44 by rw [c44, nI_eqI (by omega) (by omega)]; exact q2), decide_eq_true q2, Bool.true_or, Bool.true_or]; rfl
      · rw [if_pos (show τ 101 43 ≤ 0 by rw [c43]; exact nI_le (b := 0) (by omega) (by decide)), decide_eq_false q1, Bool.false_and, Bool.false_or]
    · rw [if_neg (show ¬ τ 101 46 = 0 by rw [c46]; exact t0), Bool.true_or, Bool.true_or, Bool.true_or]; rfl
  refine ⟨_, by rw [hj, d118, fin], PS_up (PS_up (PS_up b2 (by decide) (by decide) (by decide)) (by decide) (by decide) (by decide)) (by decide) (by decide) (by decide), PR_t (PR_up _ _ (by omega)) (PR_t ⟨b4, fun j h1 h2 h3 => b5 j h1 (by omega)⟩ (PR_t (PR_up _ _ (by omega)) (PR_t (PR_up _ _ (by omega)) (PR_up _ _ (by omega))))), up_s .., ?_, ?_, ?_⟩
  · rw [up_j _ _ _ (by decide), up_s]
  · rw [up_j _ _ _ (by decide), up_j _ _ _ (by decide), up_j _ _ _ (by decide), b3]
  · rw [up_j _ _ _ (by decide), up_j _ _ _ (by decide), up_s]
def rfm (f : Nat → Nat) (p n : Nat) : Nat := fo (fun k m => rowN f 4 k (pS f p k) m (wd f (pS f p k))) n 0
def odn (f : Nat → Nat) (p n : Nat) : Bool := fo (fun k o => oddR o k (wd f (pS f p k)) (wd f (pS f p (k - 1)))) n false
theorem rowsR_eq (X : TX f len) (P : PS f len true p σ) (h43 : σ 101 43 = nI 0) (h44 : σ 101 44 = nI 0) (h45 : σ 101 45 = nI 0) (h46 : σ 101 46 = nI 0) : ∃ τ, (f_X11_row σ).bind (fun q10 => lp f_X11_readsItem_l159 FU q10) = some τ ∧ PS f len (xR f p).1 (xR f p).2 τ ∧ PR σ τ ∧ τ 101 43 = nI (lr f p + 1) ∧ τ 101 44 = nI (wd f (pS f p (lr f p))) ∧ τ 101 45 = nI (rfm f p (lr f p + 1)) ∧ τ 101 46 = nI (bN (odn f p (lr f p + 1))) := by
  have hl := X.1
  have hp := P.2.2.2.1
  obtain ⟨r1, r2⟩ := lr_ok X hp
  have hb := fun k (hk : k ≤ lr f p) => pS_b X hp k (fun j hj => r1 j (by omega))
  have hbl := hb (lr f p) (Nat.le_refl _)
  obtain ⟨τ0, a1, a2, a3, a4, a5, a6, a7⟩ := rowRR_eq (k := 0) (prev := 0) (m := 0) (o := false) X P h43 h44 h45 h46 (by decide) (by decide)
  have a7 : τ0 101 46 = nI (bN (odn f p 1)) := a7
  obtain ⟨v, q1, q2⟩ := lp_fu (f := f_X11_readsItem_l159) (fun k z => PS f len (decide (0 < wd f (pS f p k))) (pS f p k + wd f (pS f p k)) z ∧ PR σ z ∧ z 101 43 = nI (k + 1) ∧ z 101 44 = nI (wd f (pS f p k)) ∧ z 101 45 = nI (rfm f p (k + 1)) ∧ z 101 46 = nI (bN (odn f p (k + 1)))) (fun τ => PS f len (xR f p).1 (xR f p).2 τ ∧ PR σ τ ∧ τ 101 43 = nI (lr f p + 1) ∧ τ 101 44 = nI (wd f (pS f p (lr f p))) ∧ τ 101 45 = nI (rfm f p (lr f p + 1)) ∧ τ 101 46 = nI (bN (odn f p (lr f p + 1)))) (lr f p) (by omega) τ0 ⟨a2, a3, a4, a5, a6, a7⟩ (by
    rintro k τ hk ⟨P1, F1, g43, g44, g45, g46⟩
    left
    obtain ⟨g1, g2⟩ := cnR_i.mp (r1 k hk)
    rw [decide_eq_true g1] at P1
    have hbk := hb (k + 1) (by omega)
    have hbw := wd_le X (hb k (by omega)).2
    obtain ⟨h, c1, c2, c3⟩ := hereR_eq X P1
    have P2 : PS f len true (pS f p (k + 1)) (up τ 101 38 (nI (pS f p (k + 1)))) := PS_38 P1 hbk.2
    obtain ⟨τ2, d1, d2, d3, d4, d5, d6, d7⟩ := rowRR_eq (k := k + 1) (prev := wd f (pS f p k)) (m := rfm f p (k + 1)) (o := odn f p (k + 1)) X P2 (by rw [up_j _ _ _ (by decide), g43]) (by rw [up_j _ _ _ (by decide), g44]) (by rw [up_j _ _ _ (by decide), g45]) (by rw [up_j _ _ _ (by decide), g46]) (by omega) (by omega)
    refine ⟨τ2, ?_, d2, PR_t F1 (PR_t (PR_up _ _ (by omega)) d3), d4, d5, d6, d7⟩
    unfold f_X11_readsItem_l159
    rw [if_neg (show ¬ τ 101 39 = 0 by rw [P1.2.2.2.2]; exact t0), c1, bind_s, if_pos (show h = 47 from (c2 47 (by decide) (by decide)).mpr g2), P1.2.2.1, nI_1]
    show ((f_X11_row (up τ 101 38 (nI (pS f p (k + 1))))).bind _) = _
    rw [d1, bind_s]) (by
    rintro τ ⟨P1, F1, g43, g44, g45, g46⟩
    refine ⟨τ, ?_, P1, F1, g43, g44, g45, g46⟩
    unfold f_X11_readsItem_l159
    by_cases g1 : 0 < wd f (pS f p (lr f p))
    · rw [decide_eq_true g1] at P1
      have g2 : ¬ f (pS f p (lr f p) + wd f (pS f p (lr f p))) = 47 := fun h => r2 (cnR_i.mpr ⟨g1, h⟩)
      obtain ⟨h, c1, c2, c3⟩ := hereR_eq X P1
      rw [if_neg (show ¬ τ 101 39 = 0 by rw [P1.2.2.2.2]; exact t0), c1, bind_s, if_neg (show ¬ h = 47 from fun g => g2 ((c2 47 (by decide) (by decide)).mp g))]
    · rw [if_pos (show τ 101 39 = 0 by rw [P1.2.2.2.2, decide_eq_false g1]; rfl)])
  exact ⟨v, by rw [a1, bind_s, q1], q2⟩
