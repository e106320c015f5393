/-! PURE FACTS, 45: floods, the reference's -/
variable {k : Nat} {R : Nat → Nat} {σ τ : St}
def ins (T : Nat → Bool) (c : Nat) : Nat → Bool := fun j => if j = c then true else T j
theorem close_eq {fi : Int32 × Int32 × St → Option ((Int32 × Int32 × St) ⊕ (Int32 × St))} {fo' : Int32 × St → Option ((Int32 × St) ⊕ St)} {n : Nat} (hn : n ≤ 100) (cond : (Nat → Bool) → Nat → Bool) (Rel : (Nat → Bool) → St → Prop) (J : (Nat → Bool) → Prop)
    (hin : ∀ T τ c m, c < n → m ≤ 1 → Rel T τ → (cond T c = true → ∃ τ', fi (nI m, nI c, τ) = some (.inl (nI 1, nI (c + 1), τ')) ∧ Rel (ins T c) τ') ∧ (cond T c = false → fi (nI m, nI c, τ) = some (.inl (nI m, nI (c + 1), τ))))
    (hix : ∀ T τ m, Rel T τ → fi (nI m, nI n, τ) = some (.inr (nI m, τ)))
    (ho : ∀ τ, fo' (nI 0, τ) = some (.inr τ) ∧ fo' (nI 1, τ) = (lp fi FU (nI 0, nI 0, τ)).bind fun q => some (.inl (q.1, q.2)))
    (hc : ∀ T c, cond T c = true → T c = false) (hJ : ∀ T c, c < n → J T → cond T c = true → J (ins T c)) {T : Nat → Bool} (hR : Rel T τ) (j : J T) :
    ∃ T' τ', lp fo' FU (nI 1, τ) = some τ' ∧ Rel T' τ' ∧ J T' ∧ (∀ c, T c = true → T' c = true) ∧ ∀ c, c < n → cond T' c = false := by
  have pass : ∀ T τ, Rel T τ → J T → ∃ T1 τ1 m, lp fi FU (nI 0, nI 0, τ) = some (nI m, τ1) ∧ Rel T1 τ1 ∧ J T1 ∧ (∀ c, T c = true → T1 c = true) ∧ m ≤ 1 ∧ (m = 0 → ∀ c, c < n → cond T1 c = false) ∧ (m = 1 → cnt T n + 1 ≤ cnt T1 n) := by
    intro T τ hR j
    obtain ⟨r, q1, T1, τ1, m, rfl, q2⟩ := lp_fu (f := fi) (fun c z => ∃ T1 τ1 m, z = (nI m, nI c, τ1) ∧ Rel T1 τ1 ∧ J T1 ∧ (∀ c, T c = true → T1 c = true) ∧ m ≤ 1 ∧ (m = 0 → T1 = T ∧ ∀ c', c' < c → cond T c' = false) ∧ (m = 1 → cnt T n + 1 ≤ cnt T1 n)) (fun r => ∃ T1 τ1 m, r = (nI m, τ1) ∧ Rel T1 τ1 ∧ J T1 ∧ (∀ c, T c = true → T1 c = true) ∧ m ≤ 1 ∧ (m = 0 → ∀ c, c < n → cond T1 c = false) ∧ (m = 1 → cnt T n + 1 ≤ cnt T1 n)) n (by omega) (nI 0, nI 0, τ) ⟨T, τ, 0, rfl, hR, j, fun _ h => h, by omega, fun _ => ⟨rfl, fun c' hc' => absurd hc' (Nat.not_lt_zero _)⟩, fun h => by omega⟩ (by
      rintro c z hcn ⟨T1, τ1, m, rfl, a1, a2, a3, a4, a5, a6⟩
      left
      cases e : cond T1 c with
      | true =>
        obtain ⟨τ', b1, b2⟩ := (hin T1 τ1 c m hcn a4 a1).1 e
        have h0 := hc T1 c e
        have h1 : cnt (ins T1 c) n = cnt T1 n + 1 := cnt_1 hcn h0 (if_pos rfl) (fun i hi hi2 => if_neg hi2)
        refine ⟨_, b1, ins T1 c, τ', 1, rfl, b2, hJ T1 c hcn a2 e, fun d hd => ?_, by omega, fun h => by omega, fun _ => ?_⟩
        · unfold ins
          split
          · rfl
          · exact a3 d hd
        · rcases Nat.lt_succ_iff_lt_or_eq.mp (Nat.lt_succ_of_le a4) with h | h
          · have := (a5 (by omega)).1
            rw [this] at h1
            rw [this]
            omega
          · have := a6 h
            omega
      | false =>
        refine ⟨_, (hin T1 τ1 c m hcn a4 a1).2 e, T1, τ1, m, rfl, a1, a2, a3, a4, fun hm => ⟨(a5 hm).1, fun c' hc' => ?_⟩, a6⟩
        by_cases e2 : c' = c
        · subst e2; rw [← (a5 hm).1]; exact e
        · exact (a5 hm).2 c' (by omega)) (by
      rintro z ⟨T1, τ1, m, rfl, a1, a2, a3, a4, a5, a6⟩
      exact ⟨_, hix T1 τ1 m a1, T1, τ1, m, rfl, a1, a2, a3, a4, fun hm => by rw [(a5 hm).1]; exact (a5 hm).2, a6⟩)
    exact ⟨T1, τ1, m, q1, q2⟩
  obtain ⟨r, q1, T', q2, q3, q4, q5⟩ := lp_fu (f := fo') (fun i z => ∃ T1 τ1 m, z = (nI m, τ1) ∧ Rel T1 τ1 ∧ J T1 ∧ (∀ c, T c = true → T1 c = true) ∧ m ≤ 1 ∧ (m = 0 → ∀ c, c < n → cond T1 c = false) ∧ (m = 1 → i ≤ cnt T1 n)) (fun τ' => ∃ T', Rel T' τ' ∧ J T' ∧ (∀ c, T c = true → T' c = true) ∧ ∀ c, c < n → cond T' c = false) (n + 2) (by omega) (nI 1, τ) ⟨T, τ, 1, rfl, hR, j, fun _ h => h, by omega, fun h => by omega, fun _ => Nat.zero_le _⟩ (by
    rintro i z hi ⟨T1, τ1, m, rfl, a1, a2, a3, a4, a5, a6⟩
    rcases Nat.lt_succ_iff_lt_or_eq.mp (Nat.lt_succ_of_le a4) with h | h
    · have : m = 0 := by omega
      subst this
      exact Or.inr ⟨τ1, (ho τ1).1, T1, a1, a2, a3, a5 rfl⟩
    · subst h
      left
      obtain ⟨T2, τ2, m2, b1, b2, b3, b4, b5, b6, b7⟩ := pass T1 τ1 a1 a2
      refine ⟨(nI m2, τ2), by rw [(ho τ1).2, b1]; rfl, T2, τ2, m2, rfl, b2, b3, fun c hc => b4 c (a3 c hc), b5, b6, fun h => ?_⟩
      have := b7 h
      have := a6 rfl
      omega) (by
    rintro z ⟨T1, τ1, m, rfl, a1, a2, a3, a4, a5, a6⟩
    rcases Nat.lt_succ_iff_lt_or_eq.mp (Nat.lt_succ_of_le a4) with h | h
    · have : m = 0 := by omega
      subst this
      exact ⟨τ1, (ho τ1).1, T1, a1, a2, a3, a5 rfl⟩
    · have := a6 h
      have := cnt_le T1 n
      omega)
  exact ⟨T', r, q1, q2, q3, q4, q5⟩
def bsd (w n : Nat) (T : Nat → Bool) (c : Nat) : Bool := (decide (c % w ≠ 0) && T (c - 1)) || ((decide ((c + 1) % w ≠ 0) && T (c + 1)) || ((decide (w ≤ c) && T (c - w)) || (decide (c + w < n) && T (c + w))))
theorem bsd_i {w h c : Nat} {T : Nat → Bool} (hw : 0 < w) (hc : c < w * h) : bsd w (w * h) T c = true ↔ ∃ d, d < w * h ∧ Nb w (w * h) d c ∧ T d = true := by
  unfold bsd
  simp only [Bool.or_eq_true, Bool.and_eq_true, decide_eq_true_eq]
  constructor
  · rintro (⟨h1, h2⟩ | ⟨h1, h2⟩ | ⟨h1, h2⟩ | ⟨h1, h2⟩)
    · have c1 : 1 ≤ c := by
        rcases Nat.eq_zero_or_pos c with z | z
        · rw [z, Nat.zero_mod] at h1; exact absurd rfl h1
        · exact z
      exact ⟨c - 1, by omega, Or.inl ⟨by omega, by rw [Nat.sub_add_cancel c1]; exact h1⟩, h2⟩
    · exact ⟨c + 1, nx_lt hc h1, Or.inr (Or.inl ⟨rfl, h1⟩), h2⟩
    · exact ⟨c - w, by omega, Or.inr (Or.inr (Or.inr ⟨by omega, hc⟩)), h2⟩
    · exact ⟨c + w, h1, Or.inr (Or.inr (Or.inl rfl)), h2⟩
  · rintro ⟨d, hd, hn, ht⟩
    rcases hn with ⟨h1, h2⟩ | ⟨h1, h2⟩ | h1 | ⟨h1, h2⟩
    · left
      subst h1
      exact ⟨h2, by rw [Nat.add_sub_cancel]; exact ht⟩
    · right; left
      subst h1
      exact ⟨h2, ht⟩
    · right; right; right
      subst h1
      exact ⟨hd, ht⟩
    · right; right; left
      subst h1
      exact ⟨by omega, by rw [Nat.add_sub_cancel]; exact ht⟩
theorem besG_eq {s g c : Nat} {ρ : Nat → Nat} (hR : τ 102 = rwN R) (G : Good R) (hs : s < R 0) (hc : c < sc R s * sr R s) (hg : g < 1000) (hρ : ∀ d, d < sc R s * sr R s → τ 112 d = wI (ρ d) ∧ ρ d < 2000) : f_X11_isBesideGroup (nI s) (nI c) (nI g) τ = some (nI (bN (bsd (sc R s) (sc R s * sr R s) (fun d => decide (ρ d = g + 2)) c))) := by
  have hS := GS G hs
  have r3 : R (3 + s) = sc R s := rfl
  have hm1 := Nat.mod_lt c (show sc R s > 0 by omega)
  have hm2 := Nat.mod_lt (c + 1) (show sc R s > 0 by omega)
  have j81 : f_X11_isBesideGroup_j81 (nI s) (nI c) (nI g) (nI (sc R s)) τ = some (nI (bN (decide (c + sc R s < sc R s * sr R s) && decide (ρ (c + sc R s) = g + 2)))) := by
    unfold f_X11_isBesideGroup_j81 f_X11_isBesideGroup_j106
    by_cases e : c + sc R s < sc R s * sr R s
    · obtain ⟨q1, q2⟩ := hρ _ e
      simp (disch := omega) only [bind_s, sum_l, sum_r, chkin, lit, nI_add, pk_mul, nI_clamp, nI_leI, nI_ltI, nI_eqI, nI_or, and1, shl1, shrx, nI_subx, pk_divx, pk_remx, nmod, nzx, if_tt, if_ff, bz_n1, bz_n0, nm1, nm2, wI_p, wI_inj, wI_n, nI_w, wI_ltI, wI_leI, nI_ltw, nI_lew, reduceIte, cellsR_eq hR hS.1, q1]
      by_cases e2 : ρ (c + sc R s) = g + 2
      · simp [e, e2, bN]
      · simp [e, e2, bN]
    · simp (disch := omega) only [bind_s, sum_l, sum_r, chkin, lit, nI_add, pk_mul, nI_clamp, nI_leI, nI_ltI, nI_eqI, nI_or, and1, shl1, shrx, nI_subx, pk_divx, pk_remx, nmod, nzx, if_tt, if_ff, bz_n1, bz_n0, nm1, nm2, wI_p, wI_inj, wI_n, nI_w, wI_ltI, wI_leI, nI_ltw, nI_lew, reduceIte, cellsR_eq hR hS.1]
      simp [e, bN]
  have j55 : ∀ b : Bool, f_X11_isBesideGroup_j55 (nI s) (nI c) (nI g) (nI (sc R s)) (nI (bN b)) τ = some (nI (bN (b || ((decide (sc R s ≤ c) && decide (ρ (c - sc R s) = g + 2)) || (decide (c + sc R s < sc R s * sr R s) && decide (ρ (c + sc R s) = g + 2)))))) := fun b => by
    unfold f_X11_isBesideGroup_j55 f_X11_isBesideGroup_j106
    cases b with
    | true => rfl
    | false =>
      rw [if_pos (show nI (bN false) = (0 : Int32) from rfl), Bool.false_or]
      by_cases e : sc R s ≤ c
      · obtain ⟨q1, q2⟩ := hρ (c - sc R s) (by omega)
        simp (disch := omega) only [bind_s, sum_l, sum_r, chkin, lit, nI_add, pk_mul, nI_clamp, nI_leI, nI_ltI, nI_eqI, nI_or, and1, shl1, shrx, nI_subx, pk_divx, pk_remx, nmod, nzx, if_tt, if_ff, bz_n1, bz_n0, nm1, nm2, wI_p, wI_inj, wI_n, nI_w, wI_ltI, wI_leI, nI_ltw, nI_lew, reduceIte, q1, j81]
        by_cases e2 : ρ (c - sc R s) = g + 2
        · simp [e, e2, bN]
        · simp [e, e2]
      · simp (disch := omega) only [bind_s, sum_l, sum_r, chkin, lit, nI_add, pk_mul, nI_clamp, nI_leI, nI_ltI, nI_eqI, nI_or, and1, shl1, shrx, nI_subx, pk_divx, pk_remx, nmod, nzx, if_tt, if_ff, bz_n1, bz_n0, nm1, nm2, wI_p, wI_inj, wI_n, nI_w, wI_ltI, wI_leI, nI_ltw, nI_lew, reduceIte, j81]
        simp [e]
  have j29 : f_X11_isBesideGroup_j29 (nI s) (nI c) (nI g) (nI (sc R s)) τ = some (nI (bN ((decide ((c + 1) % sc R s ≠ 0) && decide (ρ (c + 1) = g + 2)) || ((decide (sc R s ≤ c) && decide (ρ (c - sc R s) = g + 2)) || (decide (c + sc R s < sc R s * sr R s) && decide (ρ (c + sc R s) = g + 2)))))) := by
    have jt := j55 true
    have jf := j55 false
    change f_X11_isBesideGroup_j55 (nI s) (nI c) (nI g) (nI (sc R s)) (nI 1) τ = _ at jt
    change f_X11_isBesideGroup_j55 (nI s) (nI c) (nI g) (nI (sc R s)) (nI 0) τ = _ at jf
    unfold f_X11_isBesideGroup_j29 f_X11_isBesideGroup_j54 f_X11_isBesideGroup_j50
    by_cases e : (c + 1) % sc R s = 0
    · simp (disch := omega) only [bind_s, sum_l, sum_r, chkin, lit, nI_add, pk_mul, nI_clamp, nI_leI, nI_ltI, nI_eqI, nI_or, and1, shl1, shrx, nI_subx, pk_divx, pk_remx, nmod, nzx, if_tt, if_ff, bz_n1, bz_n0, nm1, nm2, wI_p, wI_inj, wI_n, nI_w, wI_ltI, wI_leI, nI_ltw, nI_lew, reduceIte, e, if_true, jf]
      simp
    · obtain ⟨q1, q2⟩ := hρ (c + 1) (nx_lt hc e)
      have e1 : ¬ (c + 1) % sc R s ≤ 0 := by omega
      have hlt := nx_lt hc e
      simp (disch := omega) only [bind_s, sum_l, sum_r, chkin, lit, nI_add, pk_mul, nI_clamp, nI_leI, nI_ltI, nI_eqI, nI_or, and1, shl1, shrx, nI_subx, pk_divx, pk_remx, nmod, nzx, if_tt, if_ff, bz_n1, bz_n0, nm1, nm2, wI_p, wI_inj, wI_n, nI_w, wI_ltI, wI_leI, nI_ltw, nI_lew, reduceIte, e1, if_false, q1, jf, jt]
      by_cases e2 : ρ (c + 1) = g + 2
      · simp [e, e2]
      · simp [e2]
  have jt := j55 true
  change f_X11_isBesideGroup_j55 (nI s) (nI c) (nI g) (nI (sc R s)) (nI 1) τ = _ at jt
  unfold f_X11_isBesideGroup f_X11_isBesideGroup_0 f_X11_isBesideGroup_j50 bsd
  by_cases e : c % sc R s = 0
  · simp (disch := omega) only [bind_s, sum_l, sum_r, chkin, lit, nI_add, pk_mul, nI_clamp, nI_leI, nI_ltI, nI_eqI, nI_or, and1, shl1, shrx, nI_subx, pk_divx, pk_remx, nmod, nzx, if_tt, if_ff, bz_n1, bz_n0, nm1, nm2, wI_p, wI_inj, wI_n, nI_w, wI_ltI, wI_leI, nI_ltw, nI_lew, reduceIte, hR, rwN_a, r3, e, if_true, j29, bz_N]
    simp
  · have c1 : 1 ≤ c := by
      rcases Nat.eq_zero_or_pos c with z | z
      · rw [z, Nat.zero_mod] at e; exact absurd rfl e
      · exact z
    obtain ⟨q1, q2⟩ := hρ (c - 1) (by omega)
    have e1 : ¬ c % sc R s ≤ 0 := by omega
    simp (disch := omega) only [bind_s, sum_l, sum_r, chkin, lit, nI_add, pk_mul, nI_clamp, nI_leI, nI_ltI, nI_eqI, nI_or, and1, shl1, shrx, nI_subx, pk_divx, pk_remx, nmod, nzx, if_tt, if_ff, bz_n1, bz_n0, nm1, nm2, wI_p, wI_inj, wI_n, nI_w, wI_ltI, wI_leI, nI_ltw, nI_lew, reduceIte, hR, rwN_a, r3, e1, if_false, q1, j29, jt]
    by_cases e2 : ρ (c - 1) = g + 2
    · simp [e, e2, bN, bz_n1]
    · simp [e2, bz_N]
