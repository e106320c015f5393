/-! PURE FACTS, 42: floods, the class's -/
variable {k : Nat} {R : Nat → Nat} {σ τ : St}
/-- beside each other, on a field of n places, w in a row -/
def Nb (w n a b : Nat) : Prop := (b = a + 1 ∧ (a + 1) % w ≠ 0) ∨ (a = b + 1 ∧ a % w ≠ 0) ∨ a = b + w ∨ (b = a + w ∧ b < n)
/-- what can be reached from S through O -/
def Rch (w n : Nat) (O S : Nat → Prop) (c : Nat) : Prop := ∀ P : Nat → Prop, (∀ a, S a → P a) → (∀ a b, P a → Nb w n a b → O b → P b) → P c
theorem Rch_s {w n : Nat} {O S : Nat → Prop} {c : Nat} (h : S c) : Rch w n O S c := fun P h1 _ => h1 c h
theorem Rch_n {w n : Nat} {O S : Nat → Prop} {a b : Nat} (h : Rch w n O S a) (hn : Nb w n a b) (ho : O b) : Rch w n O S b := fun P h1 h2 => h2 a b (h P h1 h2) hn ho
def Rg (w h : Nat) (f : Nat → Nat) (τ : St) : Prop := τ 89 2 = nI w ∧ τ 89 3 = nI h ∧ ∀ c, c < w * h → τ 90 c = wI (f c)
def Fq (σ τ : St) : Prop := ∀ a, a ≠ 89 → a ≠ 90 → a ≠ 91 → τ a = σ a
theorem Fq_r (σ : St) : Fq σ σ := fun _ _ _ _ => rfl
theorem Fq_t {υ : St} (h : Fq σ τ) (h2 : Fq τ υ) : Fq σ υ := fun a h3 h4 h5 => (h2 a h3 h4 h5).trans (h a h3 h4 h5)
theorem label_in {w h c : Nat} {f : Nat → Nat} (G : Rg w h f τ) (hn : w * h ≤ 100) (hc : c < w * h) : f_X4_labelAt (nI c) τ = some (wI (f c)) := by
  unfold f_X4_labelAt f_X4_labelAt_0
  rw [G.1, G.2.1]
  simp (disch := omega) only [bind_s, sum_l, sum_r, chkin, lit, nI_add, pk_mul, nI_clamp, nI_leI, nI_ltI, nI_eqI, nI_or, and1, shl1, shrx, nI_subx, pk_divx, pk_remx, nmod, nzx, if_tt, if_ff, bz_n1, bz_n0, nm1, nm2, wI_p, wI_inj, wI_n, nI_w, wI_ltI, wI_leI, nI_ltw, nI_lew, reduceIte, Nat.not_lt_zero, G.2.2 c hc]
theorem label_big {w h c : Nat} {f : Nat → Nat} (G : Rg w h f τ) (hn : w * h ≤ 100) (hc : w * h ≤ c) (h2 : c < 2 ^ 20) : f_X4_labelAt (nI c) τ = some (wI 0) := by
  unfold f_X4_labelAt f_X4_labelAt_0 f_X4_labelAt_j35
  rw [G.1, G.2.1]
  simp (disch := omega) only [bind_s, sum_l, sum_r, chkin, lit, nI_add, pk_mul, nI_clamp, nI_leI, nI_ltI, nI_eqI, nI_or, and1, shl1, shrx, nI_subx, pk_divx, pk_remx, nmod, nzx, if_tt, if_ff, bz_n1, bz_n0, nm1, nm2, wI_p, wI_inj, wI_n, nI_w, wI_ltI, wI_leI, nI_ltw, nI_lew, reduceIte, Nat.not_lt_zero]
theorem label_neg {x : Int32} (hx : x < 0) : f_X4_labelAt x τ = some (wI 0) := by
  unfold f_X4_labelAt f_X4_labelAt_0 f_X4_labelAt_j35
  rw [if_pos hx]
  rfl
theorem cnt_1 {P Q : Nat → Bool} {n c : Nat} (hc : c < n) (h1 : P c = false) (h2 : Q c = true) (h : ∀ i, i < n → i ≠ c → Q i = P i) : cnt Q n = cnt P n + 1 := by
  induction n with
  | zero => exact absurd hc (Nat.not_lt_zero _)
  | succ n ih =>
    rw [cnt_s, cnt_s]
    by_cases e : c = n
    · subst e
      rw [h1, h2, if_pos rfl, if_neg Bool.false_ne_true, cnt_e (fun i hi => h i (by omega) (by omega))]
    · rw [ih (by omega) (fun i hi => h i (by omega)), h n (Nat.lt_succ_self n) (fun q => e q.symm)]
      split <;> omega
theorem cnt_z {P : Nat → Bool} {n : Nat} (h : ∀ i, i < n → P i = false) : cnt P n = 0 := by
  induction n with
  | zero => rfl
  | succ n ih => rw [cnt_s, h n (Nat.lt_succ_self n), if_neg Bool.false_ne_true, ih (fun i hi => h i (Nat.lt_succ_of_lt hi))]
/-- a flood under way: f0 the labels at its start, g the label it gives, f the labels now, q and Q the queue -/
def Sp (w n : Nat) (f0 : Nat → Nat) (g s0 : Nat) (f : Nat → Nat) (q : Nat) (Q : Nat → Nat) : Prop :=
  (∀ c, c < n → f c = f0 c ∨ (f0 c = 1 ∧ f c = g + 2)) ∧ (∀ i, i < q → Q i < n ∧ f0 (Q i) = 1 ∧ f (Q i) = g + 2) ∧ (∀ c, c < n → f0 c = 1 → f c = g + 2 → ∃ i, i < q ∧ Q i = c) ∧ q = cnt (fun c => decide (f0 c = 1) && decide (f c = g + 2)) n ∧ (∀ c, c < n → f0 c = 1 → f c = g + 2 → Rch w n (fun c => f0 c = 1) (fun c => c = s0 ∧ f0 c = 1) c)
def QS (w h : Nat) (f : Nat → Nat) (q : Nat) (Q : Nat → Nat) (τ : St) : Prop := Rg w h f τ ∧ τ 89 4 = nI q ∧ ∀ i, i < q → τ 91 i = nI (Q i)
theorem ln90 : ln 90 = 100 ∧ ln 91 = 100 := by decide +kernel
theorem enter_no {x : Int32} {v : Nat} (hl : f_X4_labelAt x τ = some (wI v)) (hv : v ≠ 1) (hv2 : v < 2 ^ 20) (g : Int32) : f_X4_enter x g τ = some τ := by
  unfold f_X4_enter f_X4_enter_0
  rw [hl, bind_s, show (-1 : Int32) = wI 1 from rfl, if_neg]
  rw [wI_inj (by omega) (by decide)]
  exact hv
theorem enter_in {w h g s0 q d : Nat} {f0 f Q : Nat → Nat} (hn : w * h ≤ 100) (hg : g < 1000) (hf0 : ∀ c, c < w * h → f0 c < 1000) (S : Sp w (w * h) f0 g s0 f q Q) (T : QS w h f q Q τ) (F : Fq σ τ) (hd : d < w * h) (hr : f0 d = 1 → Rch w (w * h) (fun c => f0 c = 1) (fun c => c = s0 ∧ f0 c = 1) d) : ∃ f' q' Q' τ', f_X4_enter (nI d) (nI g) τ = some τ' ∧ Sp w (w * h) f0 g s0 f' q' Q' ∧ QS w h f' q' Q' τ' ∧ Fq σ τ' ∧ q ≤ q' ∧ (∀ i, i < q → Q' i = Q i) ∧ (f0 d = 1 → f' d = g + 2) ∧ ∀ c, c < w * h → f0 c = 1 → f c = g + 2 → f' c = g + 2 := by
  obtain ⟨s1, s2, s3, s4, s5⟩ := S
  obtain ⟨t1, t2, t3⟩ := T
  have hl := label_in t1 hn hd
  have hfd : f d < 2000 := by
    have := hf0 d hd
    rcases s1 d hd with h | h <;> omega
  by_cases e : f d = 1
  · have hfd0 : f0 d = 1 := by rcases s1 d hd with h | h <;> omega
    have hq : q < 100 := by
      have h1 : cnt (fun c => decide (f0 c = 1) && decide (updN f d (g + 2) c = g + 2)) (w * h) = cnt (fun c => decide (f0 c = 1) && decide (f c = g + 2)) (w * h) + 1 := cnt_1 hd (by
        rw [e, decide_eq_false (show ¬ 1 = g + 2 by omega), Bool.and_false]) (by
        rw [updN_s, hfd0]
        simp) (fun i hi hi2 => by
        rw [updN_n _ _ hi2])
      have h2 := cnt_le (fun c => decide (f0 c = 1) && decide (updN f d (g + 2) c = g + 2)) (w * h)
      omega
    refine ⟨updN f d (g + 2), q + 1, updN Q q d, up (up (up τ 90 d (nI g)) 91 q (nI d)) 89 4 (nI (q + 1)), ?_, ⟨fun c hc => ?_, fun i hi => ?_, fun c hc h0 h1 => ?_, ?_, fun c hc h0 h1 => ?_⟩, ⟨⟨?_, ?_, fun c hc => ?_⟩, up_s .., fun i hi => ?_⟩, fun a h1 h2 h3 => ?_, by omega, fun i hi => updN_n _ _ (by omega), fun _ => updN_s .., fun c hc h0 h1 => ?_⟩
    · unfold f_X4_enter f_X4_enter_0
      have e1 : (up τ 90 d (nI g)) 89 4 = nI q := by rw [up_k _ _ _ (by decide), t2]
      have e2 : (up (up τ 90 d (nI g)) 91 q (nI d)) 89 4 = nI q := by rw [up_k _ _ _ (by decide), e1]
      have p1 := put_h (t := 90) (j := d) (τ := τ) (v := nI g) (by rw [ln90.1]; omega) (by rw [ln90.1]; decide)
      have p2 := put_h (t := 91) (j := q) (τ := up τ 90 d (nI g)) (v := nI d) (by rw [ln90.2]; omega) (by rw [ln90.2]; decide)
      rw [hl, bind_s, e, if_pos (show wI 1 = (-1 : Int32) from rfl), p1, bind_s, e1, p2, bind_s, e2, nI_1]
    · by_cases q2 : c = d
      · subst q2; exact Or.inr ⟨hfd0, updN_s ..⟩
      · rw [updN_n _ _ q2]; exact s1 c hc
    · by_cases q2 : i = q
      · subst q2; rw [updN_s, updN_s]; exact ⟨hd, hfd0, rfl⟩
      · rw [updN_n _ _ q2]
        have := s2 i (by omega)
        refine ⟨this.1, this.2.1, ?_⟩
        by_cases q3 : Q i = d
        · rw [q3, updN_s]
        · rw [updN_n _ _ q3]; exact this.2.2
    · by_cases q2 : c = d
      · subst q2; exact ⟨q, by omega, updN_s ..⟩
      · rw [updN_n _ _ q2] at h1
        obtain ⟨i, hi, hi2⟩ := s3 c hc h0 h1
        exact ⟨i, by omega, by rw [updN_n _ _ (by omega), hi2]⟩
    · rw [s4]
      refine (cnt_1 hd ?_ ?_ (fun i hi hi2 => ?_)).symm
      · rw [e, decide_eq_false (show ¬ 1 = g + 2 by omega), Bool.and_false]
      · rw [updN_s, hfd0]
        simp
      · rw [updN_n _ _ hi2]
    · by_cases q2 : c = d
      · subst q2; exact hr hfd0
      · rw [updN_n _ _ q2] at h1
        exact s5 c hc h0 h1
    · rw [up_j _ _ _ (by decide), up_k _ _ _ (by decide), up_k _ _ _ (by decide), t1.1]
    · rw [up_j _ _ _ (by decide), up_k _ _ _ (by decide), up_k _ _ _ (by decide), t1.2.1]
    · rw [up_k _ _ _ (by decide), up_k _ _ _ (by decide)]
      by_cases q2 : c = d
      · subst q2; rw [up_s, updN_s, wI_p]
      · rw [up_j _ _ _ q2, updN_n _ _ q2]; exact t1.2.2 c hc
    · rw [up_k _ _ _ (by decide)]
      by_cases q2 : i = q
      · subst q2; rw [up_s, updN_s]
      · rw [up_j _ _ _ q2, updN_n _ _ q2, up_k _ _ _ (by decide)]; exact t3 i (by omega)
    · rw [up_k _ _ _ h1, up_k _ _ _ h3, up_k _ _ _ h2]; exact F a h1 h2 h3
    · by_cases q2 : c = d
      · subst q2; exact updN_s ..
      · rw [updN_n _ _ q2]; exact h1
  · refine ⟨f, q, Q, τ, enter_no hl e (by omega) _, ⟨s1, s2, s3, s4, s5⟩, ⟨t1, t2, t3⟩, F, Nat.le_refl _, fun _ _ => rfl, fun h => ?_, fun c _ _ h => h⟩
    rcases s1 d hd with h2 | h2
    · rw [h] at h2; exact absurd h2 e
    · exact h2.2
