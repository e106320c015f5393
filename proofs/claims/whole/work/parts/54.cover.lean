/-! PURE FACTS, 5: what lies on the cells -/
def ex (P : Nat → Bool) (n : Nat) : Bool := fo (fun k b => b || P k) n false
theorem ex_i {P : Nat → Bool} {n : Nat} : ex P n = true ↔ ∃ k, k < n ∧ P k = true := by
  induction n with
  | zero => simp [ex, fo]
  | succ n ih =>
    have e : ex P (n + 1) = (ex P n || P n) := rfl
    rw [e, Bool.or_eq_true, ih]
    constructor
    · rintro (⟨k, h1, h2⟩ | h)
      · exact ⟨k, by omega, h2⟩
      · exact ⟨n, by omega, h⟩
    · rintro ⟨k, h1, h2⟩
      by_cases e : k = n
      · subst e; exact Or.inr h2
      · exact Or.inl ⟨k, by omega, h2⟩
theorem ex_f {P : Nat → Bool} {n : Nat} (h : P n = false) : ex P (n + 1) = ex P n := by
  show (ex P n || P n) = _
  rw [h, Bool.or_false]
def pcw (R : Nat → Nat) (p : Nat) : Nat := tc R (R (661 + p)) (R (741 + p))
def prh (R : Nat → Nat) (p : Nat) : Nat := tr R (R (661 + p)) (R (741 + p))
def pm (R : Nat → Nat) (p : Nat) : Nat := tm R (R (661 + p)) (R (741 + p))
def cl (R : Nat → Nat) (p k : Nat) : Nat := sc R (R (681 + p)) * (R (721 + p) + k / pcw R p) + (R (701 + p) + k % pcw R p)
def hit (R : Nat → Nat) (p s c : Nat) : Bool := decide (R (681 + p) = s) && ex (fun k => decide (bit (pm R p) k = 1) && decide (cl R p k = c)) 16
theorem hit_i {R : Nat → Nat} {p s c : Nat} : hit R p s c = true ↔ R (681 + p) = s ∧ ∃ k, k < 16 ∧ bit (pm R p) k = 1 ∧ cl R p k = c := by
  unfold hit
  rw [Bool.and_eq_true, ex_i]
  simp
def ck (R : Nat → Nat) (s c : Nat) : Nat := fo (fun p v => if hit R p s c = true then p + 2 else v) (R 2) 1
def GSh (R : Nat → Nat) (s : Nat) : Prop := 2 ≤ sc R s ∧ sc R s ≤ 10 ∧ 2 ≤ sr R s ∧ sr R s ≤ 10 ∧ R (15 + s) ≤ 2 ∧ ∀ c, c < 100 → us R s c ≤ 1
def Ful (c r m : Nat) : Prop := (∀ j, j < r → ∃ i, i < c ∧ bit m (c * j + i) = 1) ∧ (∀ i, i < c → ∃ j, j < r ∧ bit m (c * j + i) = 1)
def GHp (R : Nat → Nat) (h : Nat) : Prop := SM R h ∧ Ful (R (621 + h)) (R (629 + h)) (R (637 + h)) ∧ R (645 + h) ≤ 2 ∧ R (653 + h) ≤ 99
def GPt (R : Nat → Nat) (p : Nat) : Prop := R (661 + p) < R 1 ∧ R (681 + p) < R 0 ∧ R (741 + p) < 4 ∧ R (701 + p) + pcw R p ≤ sc R (R (681 + p)) ∧ R (721 + p) + prh R p ≤ sr R (R (681 + p)) ∧ (∀ k, k < 16 → bit (pm R p) k = 1 → us R (R (681 + p)) (cl R p k) = 1)
def Good (R : Nat → Nat) : Prop := R 0 ≤ 6 ∧ R 1 ≤ 8 ∧ R 2 ≤ 20 ∧ (∀ s, s < R 0 → GSh R s) ∧ (∀ h, h < R 1 → GHp R h) ∧ (∀ p, p < R 2 → GPt R p) ∧ (∀ p q s c, p < R 2 → q < R 2 → hit R p s c = true → hit R q s c = true → p = q) ∧ (∀ i, 761 ≤ i → R i = 0)
theorem bit_hi {m k n : Nat} (hm : m < 2 ^ n) (hk : bit m k = 1) : k < n := by
  rcases Nat.lt_or_ge k n with h | h
  · exact h
  · exfalso
    have h2 : m < 2 ^ k := Nat.lt_of_lt_of_le hm (Nat.pow_le_pow_right (by decide) h)
    unfold bit at hk
    rw [Nat.div_eq_of_lt h2] at hk
    simp at hk
/-- a part of a good row: its numbers -/
theorem GP {R : Nat → Nat} (G : Good R) {p : Nat} (hp : p < R 2) : p < 20 ∧ R (661 + p) < 8 ∧ R (681 + p) < 6 ∧ R (741 + p) < 4 ∧ SM R (R (661 + p)) ∧ GSh R (R (681 + p)) ∧ 1 ≤ pcw R p ∧ pcw R p ≤ 4 ∧ 1 ≤ prh R p ∧ prh R p ≤ 4 ∧ pm R p < 2 ^ (pcw R p * prh R p) ∧ pm R p < 65536 ∧ R (701 + p) + pcw R p ≤ sc R (R (681 + p)) ∧ R (721 + p) + prh R p ≤ sr R (R (681 + p)) := by
  obtain ⟨g0, g1, g2, gs, gh, gp, _, _⟩ := G
  obtain ⟨a1, a2, a3, a4, a5, _⟩ := gp p hp
  have hS := gs _ a2
  have hH := (gh _ a1).1
  have hT := SM_t hH (R (741 + p))
  exact ⟨by omega, by omega, by omega, a3, hH, hS, hT.1, hT.2.1, hT.2.2.1, hT.2.2.2, tm_lt hH _, tm_16 hH _, a4, a5⟩
theorem xy_lt {w h x y : Nat} (hx : x < w) (hy : y < h) : w * y + x < w * h := at_lt hx hy (Nat.le_refl _)
theorem cell_100 {R : Nat → Nat} {s : Nat} (h : GSh R s) : sc R s * sr R s ≤ 100 := Nat.mul_le_mul h.2.1 h.2.2.2.1
theorem cl_xy {R : Nat → Nat} (G : Good R) {p k : Nat} (hp : p < R 2) (hk : bit (pm R p) k = 1) : k / pcw R p < prh R p ∧ k % pcw R p < pcw R p ∧ R (701 + p) + k % pcw R p < sc R (R (681 + p)) ∧ R (721 + p) + k / pcw R p < sr R (R (681 + p)) ∧ cl R p k < sc R (R (681 + p)) * sr R (R (681 + p)) ∧ cl R p k < 100 ∧ k < 16 := by
  obtain ⟨b1, b2, b3, b4, b5, b6, b7, b8, b9, b10, b11, b12, b13, b14⟩ := GP G hp
  have h1 := bit_hi b11 hk
  have h2 : k / pcw R p < prh R p := Nat.div_lt_of_lt_mul h1
  have h3 : k % pcw R p < pcw R p := Nat.mod_lt _ b7
  have h4 : cl R p k < sc R (R (681 + p)) * sr R (R (681 + p)) := xy_lt (by omega) (by omega)
  have h5 := cell_100 b6
  have h6 : pcw R p * prh R p ≤ 4 * 4 := Nat.mul_le_mul b8 b10
  exact ⟨h2, h3, by omega, by omega, h4, by omega, by omega⟩
theorem clR_eq {σ : St} {R : Nat → Nat} (hR : σ 102 = rwN R) (G : Good R) {p k : Nat} (hp : p < R 2) (hk : k < 16) : f_X11_cellOf (nI p) (nI k) σ = some (nI (cl R p k)) := by
  obtain ⟨b1, b2, b3, b4, b5, b6, b7, b8, b9, b10, b11, b12, b13, b14⟩ := GP G hp
  unfold f_X11_cellOf f_X11_cellOf_0
  have e := tcR_eq (t := R (741 + p)) hR b2 (by omega)
  change _ = some (nI (pcw R p)) at e
  simp (disch := omega) only [bind_s, sum_l, sum_r, chkin, lit, nI_add, pk_mul, nI_clamp, nI_leI, nI_ltI, nI_eqI, nI_or, and1, shl1, shrx, nI_subx, pk_divx, pk_remx, nmod, nzx, if_tt, if_ff, bz_n1, bz_n0, nm1, nm2, wI_p, wI_inj, wI_n, nI_w, wI_ltI, wI_leI, nI_ltw, nI_lew, reduceIte, hR, rwN_a, e, at_eq]
  rfl
theorem clear_eq {f : Int32 × St → Option ((Int32 × St) ⊕ St)} (d : Nat) (v : Int32) (σ : St) (hs : ∀ i τ, i < 100 → f (nI i, τ) = some (.inl (nI (i + 1), up τ d i v))) (hx : ∀ τ, f (nI 100, τ) = some (.inr τ)) : ∃ row, lp f FU (nI 0, σ) = some (upA σ d row) ∧ ∀ c, c < 100 → row c = v := by
  have h := copy_eq (f := f) σ d 0 100 (fun _ => v) (by decide) (fun i hi τ _ => by rw [Nat.zero_add]; exact hs i τ hi) hx
  exact ⟨_, h, fun c hc => blk_in (Nat.zero_le _) (by omega)⟩
theorem upA_up (σ : St) (k j : Nat) (f : Nat → Int32) (v : Int32) : up (upA σ k f) k j v = upA σ k (upd f j v) := up_upA σ k j f v
set_option maxHeartbeats 2000000 in
theorem looks_eq {σ : St} {R : Nat → Nat} (hR : σ 102 = rwN R) (G : Good R) (s : Nat) (hs : s < 2 ^ 20) : ∃ row, f_X11_looks (nI s) σ = some (upA σ 111 row) ∧ ∀ c, c < 100 → row c = wI (ck R s c) := by
  unfold f_X11_looks f_X11_looks_0
  obtain ⟨r0, h1, h2⟩ := clear_eq (f := f_X11_looks_l2 (nI s)) 111 (-1) σ (fun i τ hi => by
    unfold f_X11_looks_l2
    dsimp only
    simp (disch := omega) only [bind_s, sum_l, sum_r, chkin, lit, nI_add, pk_mul, nI_clamp, nI_leI, nI_ltI, nI_eqI, nI_or, and1, shl1, shrx, nI_subx, pk_divx, pk_remx, nmod, nzx, if_tt, if_ff, bz_n1, bz_n0, nm1, nm2, wI_p, wI_inj, wI_n, nI_w, wI_ltI, wI_leI, nI_ltw, nI_lew, reduceIte]) (fun τ => by
    unfold f_X11_looks_l2
    dsimp only
    simp (disch := omega) only [bind_s, sum_l, sum_r, chkin, lit, nI_add, pk_mul, nI_clamp, nI_leI, nI_ltI, nI_eqI, nI_or, and1, shl1, shrx, nI_subx, pk_divx, pk_remx, nmod, nzx, if_tt, if_ff, bz_n1, bz_n0, nm1, nm2, wI_p, wI_inj, wI_n, nI_w, wI_ltI, wI_leI, nI_ltw, nI_lew, reduceIte])
  have hR2 : ∀ row, (upA σ 111 row) 102 = rwN R := fun row => by rw [upA_ne _ _ (by decide), hR]
  obtain ⟨r, h3, row, rfl, h4⟩ := lp_fu (f := f_X11_looks_l23 (nI s)) (fun i z => ∃ row, z = (nI i, upA σ 111 row) ∧ ∀ c, c < 100 → row c = wI (fo (fun p v => if hit R p s c = true then p + 2 else v) i 1)) (fun z => ∃ row, z = upA σ 111 row ∧ ∀ c, c < 100 → row c = wI (ck R s c)) (R 2) (by have := G.2.2.1; omega) (nI 0, upA σ 111 r0) ⟨r0, rfl, fun c hc => by rw [h2 c hc]; exact wI_1.symm⟩ (by
    rintro p z hp ⟨row, rfl, hrow⟩
    left
    have g2 := G.2.2.1
    obtain ⟨b1, b2, b3, b4, b5, b6, b7, b8, b9, b10, b11, b12, b13, b14⟩ := GP G hp
    have hj : ∀ m, m < 65536 → (∀ k, bit m k = 1 → cl R p k < 100) → ∃ row', f_X11_looks_j75 (nI s) (nI p) (nI m) (upA σ 111 row) = some (.inl (nI (p + 1), upA σ 111 row')) ∧ ∀ c, c < 100 → row' c = if ex (fun k => decide (bit m k = 1) && decide (cl R p k = c)) 16 = true then nI p else row c := by
      intro m hm hc
      unfold f_X11_looks_j75
      obtain ⟨r, q1, row', rfl, q2⟩ := lp_fu (f := f_X11_looks_l79 (nI s) (nI p) (nI m)) (fun i z => ∃ row', z = (nI i, upA σ 111 row') ∧ ∀ c, c < 100 → row' c = if ex (fun k => decide (bit m k = 1) && decide (cl R p k = c)) i = true then nI p else row c) (fun z => ∃ row', z = upA σ 111 row' ∧ ∀ c, c < 100 → row' c = if ex (fun k => decide (bit m k = 1) && decide (cl R p k = c)) 16 = true then nI p else row c) 16 (by decide) (nI 0, upA σ 111 row) ⟨row, rfl, fun c hc => rfl⟩ (by
        rintro k z hk ⟨row', rfl, hrow'⟩
        left
        unfold f_X11_looks_l79 f_X11_looks_j108
        dsimp only
        by_cases e : bit m k = 0
        · refine ⟨(nI (k + 1), upA σ 111 row'), ?_, row', rfl, fun c hc => ?_⟩
          · simp (disch := omega) only [bind_s, sum_l, sum_r, chkin, lit, nI_add, pk_mul, nI_clamp, nI_leI, nI_ltI, nI_eqI, nI_or, and1, shl1, shrx, nI_subx, pk_divx, pk_remx, nmod, nzx, if_tt, if_ff, bz_n1, bz_n0, nm1, nm2, wI_p, wI_inj, wI_n, nI_w, wI_ltI, wI_leI, nI_ltw, nI_lew, reduceIte, has_eq, bit_e0, e]
          · rw [hrow' c hc]
            have : ex (fun k => decide (bit m k = 1) && decide (cl R p k = c)) (k + 1) = ex (fun k => decide (bit m k = 1) && decide (cl R p k = c)) k := ex_f (by simp [e])
            rw [this]
        · have e1 : bit m k = 1 := by have := bit_lt m k; omega
          have hcl := hc k e1
          refine ⟨(nI (k + 1), upA σ 111 (upd row' (cl R p k) (nI p))), ?_, _, rfl, fun c hc => ?_⟩
          · simp (disch := omega) only [bind_s, sum_l, sum_r, chkin, lit, nI_add, pk_mul, nI_clamp, nI_leI, nI_ltI, nI_eqI, nI_or, and1, shl1, shrx, nI_subx, pk_divx, pk_remx, nmod, nzx, if_tt, if_ff, bz_n1, bz_n0, nm1, nm2, wI_p, wI_inj, wI_n, nI_w, wI_ltI, wI_leI, nI_ltw, nI_lew, reduceIte, has_eq, bit_e0, e1, clR_eq (hR2 row') G hp hk, upA_up]
          · by_cases e2 : c = cl R p k
            · subst e2
              rw [pk_us, if_pos]
              exact ex_i.mpr ⟨k, by omega, by simp [e1]⟩
            · rw [pk_un e2, hrow' c hc]
              have : ex (fun k => decide (bit m k = 1) && decide (cl R p k = c)) (k + 1) = ex (fun k => decide (bit m k = 1) && decide (cl R p k = c)) k := ex_f (by have : ¬ cl R p k = c := fun h => e2 h.symm; simp [this])
              rw [this]) (by
        rintro z ⟨row', rfl, hrow'⟩
        refine ⟨_, ?_, row', rfl, hrow'⟩
        unfold f_X11_looks_l79
        dsimp only
        simp (disch := omega) only [bind_s, sum_l, sum_r, chkin, lit, nI_add, pk_mul, nI_clamp, nI_leI, nI_ltI, nI_eqI, nI_or, and1, shl1, shrx, nI_subx, pk_divx, pk_remx, nmod, nzx, if_tt, if_ff, bz_n1, bz_n0, nm1, nm2, wI_p, wI_inj, wI_n, nI_w, wI_ltI, wI_leI, nI_ltw, nI_lew, reduceIte])
      refine ⟨row', ?_, q2⟩
      simp (disch := omega) only [bind_s, sum_l, sum_r, chkin, lit, nI_add, pk_mul, nI_clamp, nI_leI, nI_ltI, nI_eqI, nI_or, and1, shl1, shrx, nI_subx, pk_divx, pk_remx, nmod, nzx, if_tt, if_ff, bz_n1, bz_n0, nm1, nm2, wI_p, wI_inj, wI_n, nI_w, wI_ltI, wI_leI, nI_ltw, nI_lew, reduceIte, q1]
    unfold f_X11_looks_l23
    dsimp only
    by_cases e : R (681 + p) = s
    · obtain ⟨row', q1, q2⟩ := hj (pm R p) b12 (fun k hk => (cl_xy G hp hk).2.2.2.2.2.1)
      refine ⟨_, ?_, row', rfl, fun c hc => ?_⟩
      · have e3 := tmR_eq (hR2 row) b2 b5 (show R (741 + p) < 100 by omega)
        change _ = some (nI (pm R p)) at e3
        simp (disch := omega) only [bind_s, sum_l, sum_r, chkin, lit, nI_add, pk_mul, nI_clamp, nI_leI, nI_ltI, nI_eqI, nI_or, and1, shl1, shrx, nI_subx, pk_divx, pk_remx, nmod, nzx, if_tt, if_ff, bz_n1, bz_n0, nm1, nm2, wI_p, wI_inj, wI_n, nI_w, wI_ltI, wI_leI, nI_ltw, nI_lew, reduceIte, hR2, rwN_a, e, e3, q1]
      · rw [q2 c hc]
        show _ = wI (if hit R p s c = true then p + 2 else _)
        unfold hit
        rw [decide_eq_true e, Bool.true_and]
        split
        · rw [wI_p]
        · exact hrow c hc
    · obtain ⟨row', q1, q2⟩ := hj 0 (by decide) (fun k hk => by simp [bit] at hk)
      refine ⟨_, ?_, row', rfl, fun c hc => ?_⟩
      · simp (disch := omega) only [bind_s, sum_l, sum_r, chkin, lit, nI_add, pk_mul, nI_clamp, nI_leI, nI_ltI, nI_eqI, nI_or, and1, shl1, shrx, nI_subx, pk_divx, pk_remx, nmod, nzx, if_tt, if_ff, bz_n1, bz_n0, nm1, nm2, wI_p, wI_inj, wI_n, nI_w, wI_ltI, wI_leI, nI_ltw, nI_lew, reduceIte, hR2, rwN_a, e, q1]
      · rw [q2 c hc, if_neg, hrow c hc]
        · show _ = wI (if hit R p s c = true then p + 2 else _)
          rw [if_neg]
          intro h
          exact e (hit_i.mp h).1
        · rw [ex_i]
          rintro ⟨k, _, h⟩
          simp [bit] at h) (by
    rintro z ⟨row, rfl, hrow⟩
    refine ⟨_, ?_, row, rfl, hrow⟩
    unfold f_X11_looks_l23
    dsimp only
    have := G.2.2.1
    simp (disch := omega) only [bind_s, sum_l, sum_r, chkin, lit, nI_add, pk_mul, nI_clamp, nI_leI, nI_ltI, nI_eqI, nI_or, and1, shl1, shrx, nI_subx, pk_divx, pk_remx, nmod, nzx, if_tt, if_ff, bz_n1, bz_n0, nm1, nm2, wI_p, wI_inj, wI_n, nI_w, wI_ltI, wI_leI, nI_ltw, nI_lew, reduceIte, hR2, rwN_a])
  refine ⟨row, ?_, h4⟩
  simp (disch := omega) only [bind_s, sum_l, sum_r, chkin, lit, nI_add, pk_mul, nI_clamp, nI_leI, nI_ltI, nI_eqI, nI_or, and1, shl1, shrx, nI_subx, pk_divx, pk_remx, nmod, nzx, if_tt, if_ff, bz_n1, bz_n0, nm1, nm2, wI_p, wI_inj, wI_n, nI_w, wI_ltI, wI_leI, nI_ltw, nI_lew, reduceIte, h1, h3]
