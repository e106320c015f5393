/-! PURE FACTS, 33: why a shape cannot be placed -/
variable {k : Nat} {R : Nat → Nat} {σ τ : St}
def fb (R : Nat → Nat) (h s t : Nat) (X Y : Int64) : Nat := fo (fun k a => if a = 16 then (if bkd R h s t X Y k = true then k else 16) else a) 16 16
theorem fb_inv (R : Nat → Nat) (h s t : Nat) (X Y : Int64) : ∀ n, n ≤ 16 → (fo (fun k a => if a = 16 then (if bkd R h s t X Y k = true then k else 16) else a) n 16 = 16 ∧ ∀ k, k < n → bkd R h s t X Y k = false) ∨ fstB R h s t X Y n (fo (fun k a => if a = 16 then (if bkd R h s t X Y k = true then k else 16) else a) n 16) := by
  intro n
  induction n with
  | zero => intro _; exact Or.inl ⟨rfl, fun k hk => absurd hk (Nat.not_lt_zero _)⟩
  | succ n ih =>
    intro hn
    have e : fo (fun k a => if a = 16 then (if bkd R h s t X Y k = true then k else 16) else a) (n + 1) 16 = (if fo (fun k a => if a = 16 then (if bkd R h s t X Y k = true then k else 16) else a) n 16 = 16 then (if bkd R h s t X Y n = true then n else 16) else fo (fun k a => if a = 16 then (if bkd R h s t X Y k = true then k else 16) else a) n 16) := rfl
    rw [e]
    rcases ih (by omega) with ⟨h1, h2⟩ | h1
    · rw [if_pos h1]
      by_cases e2 : bkd R h s t X Y n = true
      · rw [if_pos e2]
        exact Or.inr ⟨by omega, e2, h2⟩
      · rw [if_neg e2]
        refine Or.inl ⟨rfl, fun k hk => ?_⟩
        by_cases e3 : k = n
        · subst e3; exact Bool.eq_false_iff.mpr e2
        · exact h2 k (by omega)
    · have : fo (fun k a => if a = 16 then (if bkd R h s t X Y k = true then k else 16) else a) n 16 ≠ 16 := by have := h1.1; omega
      rw [if_neg this]
      exact Or.inr ⟨by have := h1.1; omega, h1.2⟩
theorem fb_c (R : Nat → Nat) (h s t : Nat) (X Y : Int64) : (fb R h s t X Y = 16 ∧ ∀ k, k < 16 → bkd R h s t X Y k = false) ∨ fstB R h s t X Y 16 (fb R h s t X Y) := fb_inv R h s t X Y 16 (Nat.le_refl _)
theorem fb_16 {h s t : Nat} {X Y : Int64} (H : ∀ k, k < 16 → bkd R h s t X Y k = false) : fb R h s t X Y = 16 := by
  rcases fb_c R h s t X Y with h1 | h1
  · exact h1.1
  · have := H _ h1.1
    rw [h1.2.1] at this
    cases this
theorem fb_k {h s t : Nat} {X Y : Int64} (H : fstB R h s t X Y 16 k) : fb R h s t X Y = k := by
  rcases fb_c R h s t X Y with h1 | h1
  · have := h1.2 k H.1
    rw [H.2.1] at this
    cases this
  · rcases Nat.lt_trichotomy (fb R h s t X Y) k with e | e | e
    · have := H.2.2 _ e
      rw [h1.2.1] at this
      cases this
    · exact e
    · have := h1.2.2 _ e
      rw [H.2.1] at this
      cases this
def jn (R : Nat → Nat) (h s t : Nat) (X Y : Int64) : Nat := if gr R h s t = false then 2 else if R (653 + h) = 0 then 2 else if R 2 = 20 then 2 else if fb R h s t X Y = 16 then 0 else 3
def jk (R : Nat → Nat) (h s t : Nat) (X Y : Int64) : Nat → Int32 := fun i => if i = 0 then nI 1 else if i = 1 then (if gr R h s t = false then nI 2 else if R (653 + h) = 0 then nI 3 else if R 2 = 20 then nI 4 else nI 5) else bkK R s (X + lN (fb R h s t X Y % tc R h t)) (Y + lN (fb R h s t X Y / tc R h t))
def jp (R : Nat → Nat) (h s t : Nat) (X Y : Int64) : Nat → Int32 := fun i => if i = 0 then nI h else if i = 1 then (if gr R h s t = false then nI t else if R (653 + h) = 0 then nI (cnt (fun p => decide (R (661 + p) = h)) (R 2)) else if R 2 = 20 then nI 20 else nI (bc' R h t (fb R h s t X Y))) else bkP R s (X + lN (fb R h s t X Y % tc R h t)) (Y + lN (fb R h s t X Y / tc R h t))
theorem why_eq {l : Nat} (hl : l < 3) (a b : Int32) : f_X11_why (nI l) a b σ = some (up (up (up σ 113 l a) 114 l b) 101 20 (nI (l + 1))) := by
  unfold f_X11_why f_X11_why_0
  simp (disch := omega) only [bind_s, sum_l, sum_r, chkin, lit, nI_add, pk_mul, nI_clamp, nI_leI, nI_ltI, nI_eqI, nI_or, and1, shl1, shrx, nI_subx, pk_divx, pk_remx, nmod, nzx, if_tt, if_ff, bz_n1, bz_n0, nm1, nm2, wI_p, wI_inj, wI_n, nI_w, wI_ltI, wI_leI, nI_ltw, nI_lew, reduceIte]
/-- only the whys differ -/
def Fw (σ τ : St) : Prop := (∀ a, a ≠ 101 → a ≠ 113 → a ≠ 114 → τ a = σ a) ∧ ∀ j, j ≠ 20 → τ 101 j = σ 101 j
theorem Fw_r (σ : St) : Fw σ σ := ⟨fun _ _ _ _ => rfl, fun _ _ => rfl⟩
theorem Fw_t {υ : St} (h : Fw σ τ) (h2 : Fw τ υ) : Fw σ υ := ⟨fun a h3 h4 h5 => (h2.1 a h3 h4 h5).trans (h.1 a h3 h4 h5), fun j hj => (h2.2 j hj).trans (h.2 j hj)⟩
theorem Fw_w (σ : St) (l : Nat) (a b c : Int32) : Fw σ (up (up (up σ 113 l a) 114 l b) 101 20 c) := ⟨fun q h1 h2 h3 => by rw [up_k _ _ _ h1, up_k _ _ _ h3, up_k _ _ _ h2], fun j hj => by rw [up_j _ _ _ hj, up_k _ _ _ (by decide), up_k _ _ _ (by decide)]⟩
theorem Fw_0 (σ : St) (c : Int32) : Fw σ (up σ 101 20 c) := ⟨fun q h1 h2 h3 => up_k _ _ _ h1, fun j hj => up_j _ _ _ hj⟩
theorem Fw_Fr (h : Fw σ τ) : Fr σ τ := ⟨fun a h1 h2 h3 => h.1 a h1 (by omega) (by omega), fun j hj => h.2 j (by omega)⟩
theorem judgeP_eq (hR : σ 102 = rwN R) (G : Good R) {h s n : Nat} (hs : s < R 0) (hC : Cov R s (σ 111)) (X Y : Int64) : f_X11_judgesPlace (nI h) (nI s) X Y (nI n) σ = if frI R s X Y = true then some σ else some (up (up (up (up (up (up (up (up (up σ 113 0 (nI 1)) 114 0 (nI h)) 101 20 (nI 1)) 113 1 (nI 5)) 114 1 (nI n)) 101 20 (nI 2)) 113 2 (bkK R s X Y)) 114 2 (bkP R s X Y)) 101 20 (nI 3)) := by
  have hS := GS G hs
  have he := egI_lt (sc R s) (sr R s) X Y
  have hj109 : ∀ e c, e < 5 → (e = 4 → c < 100) → (e = 4 → c < sc R s * sr R s) → f_X11_judgesPlace_j109 (nI h) (nI s) (nI n) (if e = 4 then wI 1 else nI e) (nI c) σ = some (up (up (up (up (up (up (up (up (up σ 113 0 (nI 1)) 114 0 (nI h)) 101 20 (nI 1)) 113 1 (nI 5)) 114 1 (nI n)) 101 20 (nI 2)) 113 2 (if e ≠ 4 then nI 6 else if us R s c = 1 then nI 8 else nI 7)) 114 2 (if e ≠ 4 then nI e else if us R s c = 1 then wI (ck R s c) else nI c)) 101 20 (nI 3)) := by
    intro e c he hc hc2
    unfold f_X11_judgesPlace_j109
    have w0 := why_eq (σ := σ) (l := 0) (by decide) (nI 1) (nI h)
    have w1 := why_eq (σ := up (up (up σ 113 0 (nI 1)) 114 0 (nI h)) 101 20 (nI (0 + 1))) (l := 1) (by decide) (nI 5) (nI n)
    rw [show (0 : Int32) = nI 0 from rfl, show (1 : Int32) = nI 1 from rfl, show (5 : Int32) = nI 5 from rfl, w0, bind_s, w1, bind_s]
    have hR2 : (up (up (up (up (up (up σ 113 0 (nI 1)) 114 0 (nI h)) 101 20 (nI (0 + 1))) 113 1 (nI 5)) 114 1 (nI n)) 101 20 (nI (1 + 1))) 102 = rwN R := by rw [up_k _ _ _ (by decide), up_k _ _ _ (by decide), up_k _ _ _ (by decide), up_k _ _ _ (by decide), up_k _ _ _ (by decide), up_k _ _ _ (by decide), hR]
    have hC2 : (up (up (up (up (up (up σ 113 0 (nI 1)) 114 0 (nI h)) 101 20 (nI (0 + 1))) 113 1 (nI 5)) 114 1 (nI n)) 101 20 (nI (1 + 1))) 111 = σ 111 := by rw [up_k _ _ _ (by decide), up_k _ _ _ (by decide), up_k _ _ _ (by decide), up_k _ _ _ (by decide), up_k _ _ _ (by decide), up_k _ _ _ (by decide)]
    by_cases e4 : e = 4
    · subst e4
      have hc' := hc rfl
      rw [if_pos rfl, if_pos (show wI 1 = -nI 1 from rfl), usable_eq hR2 G hs hc', bind_s]
      simp only [ne_eq, not_true_eq_false, if_false, bN_e0]
      by_cases u : us R s c = 1
      · have q : decide (us R s c = 1) = true := decide_eq_true u
        simp only [q, Bool.true_eq_false, if_false]
        rw [if_pos u, if_pos u, chkin hc' (by decide), hC2, nI_clamp (by omega), hC c hc', show (2 : Int32) = nI 2 from rfl, show (8 : Int32) = nI 8 from rfl, why_eq (by decide)]
        rfl
      · have q : decide (us R s c = 1) = false := decide_eq_false u
        simp only [q, if_true]
        rw [if_neg u, if_neg u, show (2 : Int32) = nI 2 from rfl, show (7 : Int32) = nI 7 from rfl, why_eq (by decide)]
        rfl
    · rw [if_neg e4, if_neg (show ¬ nI e = -nI 1 from fun h => by have := (nI_mne (a := e) (by omega)).mp h; exact this), if_pos e4, if_pos e4, show (2 : Int32) = nI 2 from rfl, show (6 : Int32) = nI 6 from rfl, why_eq (by decide)]
      rfl
  have hfr0 : ∀ x y, x < sc R s → y < sr R s → f_X11_isFree (nI s) (nI (sc R s * y + x)) σ = some (nI (bN (fr R s (sc R s * y + x)))) := fun x y hx hy => freeR_eq hR G hs (by have := xy_lt hx hy; omega) hC
  have hj68 : f_X11_judgesPlace_j68 (nI h) (nI s) X Y (nI n) (nI (sc R s)) (if egI (sc R s) (sr R s) X Y = 4 then wI 1 else nI (egI (sc R s) (sr R s) X Y)) σ = if frI R s X Y = true then some σ else some (up (up (up (up (up (up (up (up (up σ 113 0 (nI 1)) 114 0 (nI h)) 101 20 (nI 1)) 113 1 (nI 5)) 114 1 (nI n)) 101 20 (nI 2)) 113 2 (bkK R s X Y)) 114 2 (bkP R s X Y)) 101 20 (nI 3)) := by
    unfold f_X11_judgesPlace_j68 f_X11_judgesPlace_j90 frI bkK bkP
    by_cases e : egI (sc R s) (sr R s) X Y = 4
    · obtain ⟨x, y, hx, hy, rfl, rfl⟩ := egI_4 (by omega) (by omega) e
      have hc := xy_lt hx hy
      have j1 := hj109 4 (sc R s * y + x) (by decide) (fun _ => by omega) (fun _ => hc)
      rw [e, if_pos rfl] at *
      rw [if_pos (show wI 1 = (-1 : Int32) from rfl), lN_i, lN_i, at_eq, bind_s, if_pos (show wI 1 = (-1 : Int32) from rfl), hfr0 x y hx hy, bind_s, cel_n (by omega) (by omega), on_fr G hs hc, show (0 : Int32) = nI 0 from rfl]
      simp only [bN_e0]
      have ho := on_cases G hs hc
      by_cases e2 : on R s (sc R s * y + x) = 1
      · simp only [e2, decide_true, Bool.true_and, if_true, Bool.true_eq_false, if_false]
      · have q : decide (on R s (sc R s * y + x) = 1) = false := decide_eq_false e2
        simp only [q, Bool.and_false, if_true, Bool.false_eq_true, if_false]
        rw [j1]
        simp only [ne_eq, not_true_eq_false, if_false]
        by_cases e3 : on R s (sc R s * y + x) = 0
        · have e5 : ¬ us R s (sc R s * y + x) = 1 := by omega
          simp only [if_pos e3, if_neg e5]
        · have e4 : 2 ≤ on R s (sc R s * y + x) := by omega
          have e6 : ck R s (sc R s * y + x) = on R s (sc R s * y + x) := by omega
          have e5 : us R s (sc R s * y + x) = 1 := by
            have e7 := (ck_i (R := R) (s := s) (c := sc R s * y + x) (p := on R s (sc R s * y + x) - 2) G).mp (by omega)
            exact (hit_cell G e7.1 e7.2).2.1
          simp only [if_neg e3, if_pos e5, e6]
    · have e1 : ¬ nI (egI (sc R s) (sr R s) X Y) = (-1 : Int32) := fun h => by have := (nI_mne (a := egI (sc R s) (sr R s) X Y) (by omega)).mp h; exact this
      have j1 := hj109 (egI (sc R s) (sr R s) X Y) 0 he (fun h => absurd h e) (fun h => absurd h e)
      rw [if_neg e] at *
      rw [if_neg e1, if_neg e1, decide_eq_false e, Bool.false_and, if_neg Bool.false_ne_true, show (0 : Int32) = nI 0 from rfl, j1]
      simp only [if_pos e, ne_eq, e, not_false_eq_true, if_true]
  have r3 : R (3 + s) = sc R s := rfl
  have r9 : R (9 + s) = sr R s := rfl
  unfold f_X11_judgesPlace f_X11_judgesPlace_0
  rw [show (3 : Int32) = nI 3 from rfl, show (9 : Int32) = nI 9 from rfl, nI_add, nI_add, chkin (by omega) (by omega), chkin (by omega) (by omega), nI_clamp (by omega), nI_clamp (by omega), hR, rwN_a, rwN_a, r3, r9, nI_l (by omega), nI_l (by omega), ← hj68]
  unfold egI
  by_cases a : Y < 0
  · rw [if_neg (by rw [lg_cmp_ge]; exact Int64.not_le.mpr a), if_pos a]; rfl
  · rw [if_pos ((lg_cmp_ge _ _).mpr (Int64.not_lt.mp a)), if_neg a]
    by_cases b : lN (sc R s) ≤ X
    · rw [if_neg (by rw [lg_cmp_lt]; exact Int64.not_lt.mpr b), if_pos b]; rfl
    · rw [if_pos ((lg_cmp_lt _ _).mpr (Int64.not_le.mp b)), if_neg b]
      by_cases c : lN (sr R s) ≤ Y
      · rw [if_neg (by rw [lg_cmp_lt]; exact Int64.not_lt.mpr c), if_pos c]; rfl
      · rw [if_pos ((lg_cmp_lt _ _).mpr (Int64.not_le.mp c)), if_neg c]
        by_cases d : X < 0
        · rw [if_neg (by rw [lg_cmp_ge]; exact Int64.not_le.mpr d), if_pos d]; rfl
        · rw [if_pos ((lg_cmp_ge _ _).mpr (Int64.not_lt.mp d)), if_neg d]; rfl
