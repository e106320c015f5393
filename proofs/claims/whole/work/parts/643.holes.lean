/-! PURE FACTS, 50: holes, the reference's -/
variable {k : Nat} {R : Nat → Nat} {σ τ : St}
theorem up_id (σ : St) (k j : Nat) (v : Int32) (h : σ k j = v) : up σ k j v = σ := by
  funext a b
  by_cases e : a = k ∧ b = j
  · obtain ⟨rfl, rfl⟩ := e
    rw [up_s, h]
  · rw [up_kj σ v (by
      by_cases e2 : a = k
      · exact Or.inr (fun e3 => e ⟨e2, e3⟩)
      · exact Or.inl e2)]
theorem bN_0 {b : Bool} : nI (bN b) = 0 ↔ b = false := by cases b <;> simp [bN] <;> decide
theorem besO_eq {s c : Nat} {T : Nat → Bool} (hR : τ 102 = rwN R) (G : Good R) (hs : s < R 0) (hc : c < sc R s * sr R s) (hρ : ∀ d, d < sc R s * sr R s → τ 115 d = nI (bN (T d))) : f_X11_isBesideOutside (nI s) (nI c) τ = some (nI (bN (bsd (sc R s) (sc R s * sr R s) T c))) := by
  have hS := GS G hs
  have r3 : R (3 + s) = sc R s := rfl
  have hm1 := Nat.mod_lt c (show sc R s > 0 by omega)
  have hm2 := Nat.mod_lt (c + 1) (show sc R s > 0 by omega)
  have j73 : f_X11_isBesideOutside_j73 (nI s) (nI c) (nI (sc R s)) τ = some (nI (bN (decide (c + sc R s < sc R s * sr R s) && T (c + sc R s)))) := by
    unfold f_X11_isBesideOutside_j73 f_X11_isBesideOutside_j95
    by_cases e : c + sc R s < sc R s * sr R s
    · simp (disch := omega) only [bind_s, sum_l, sum_r, chkin, lit, nI_add, pk_mul, nI_clamp, nI_leI, nI_ltI, nI_eqI, nI_or, and1, shl1, shrx, nI_subx, pk_divx, pk_remx, nmod, nzx, if_tt, if_ff, bz_n1, bz_n0, nm1, nm2, wI_p, wI_inj, wI_n, nI_w, wI_ltI, wI_leI, nI_ltw, nI_lew, reduceIte, cellsR_eq hR hS.1, hρ _ e, bN_e0]
      cases T (c + sc R s) <;> simp [e, bN]
    · simp (disch := omega) only [bind_s, sum_l, sum_r, chkin, lit, nI_add, pk_mul, nI_clamp, nI_leI, nI_ltI, nI_eqI, nI_or, and1, shl1, shrx, nI_subx, pk_divx, pk_remx, nmod, nzx, if_tt, if_ff, bz_n1, bz_n0, nm1, nm2, wI_p, wI_inj, wI_n, nI_w, wI_ltI, wI_leI, nI_ltw, nI_lew, reduceIte, cellsR_eq hR hS.1]
      simp [e, bN]
  have j50 : ∀ b : Bool, f_X11_isBesideOutside_j50 (nI s) (nI c) (nI (sc R s)) (nI (bN b)) τ = some (nI (bN (b || ((decide (sc R s ≤ c) && T (c - sc R s)) || (decide (c + sc R s < sc R s * sr R s) && T (c + sc R s)))))) := fun b => by
    unfold f_X11_isBesideOutside_j50 f_X11_isBesideOutside_j95
    cases b with
    | true => rfl
    | false =>
      rw [if_pos (show nI (bN false) = (0 : Int32) from rfl), Bool.false_or]
      by_cases e : sc R s ≤ c
      · simp (disch := omega) only [bind_s, sum_l, sum_r, chkin, lit, nI_add, pk_mul, nI_clamp, nI_leI, nI_ltI, nI_eqI, nI_or, and1, shl1, shrx, nI_subx, pk_divx, pk_remx, nmod, nzx, if_tt, if_ff, bz_n1, bz_n0, nm1, nm2, wI_p, wI_inj, wI_n, nI_w, wI_ltI, wI_leI, nI_ltw, nI_lew, reduceIte, hρ (c - sc R s) (by omega), bN_e0, j73]
        cases T (c - sc R s) <;> simp [e, bN]
      · simp (disch := omega) only [bind_s, sum_l, sum_r, chkin, lit, nI_add, pk_mul, nI_clamp, nI_leI, nI_ltI, nI_eqI, nI_or, and1, shl1, shrx, nI_subx, pk_divx, pk_remx, nmod, nzx, if_tt, if_ff, bz_n1, bz_n0, nm1, nm2, wI_p, wI_inj, wI_n, nI_w, wI_ltI, wI_leI, nI_ltw, nI_lew, reduceIte, j73]
        simp [e]
  have jt := j50 true
  have jf := j50 false
  change f_X11_isBesideOutside_j50 (nI s) (nI c) (nI (sc R s)) (nI 1) τ = _ at jt
  change f_X11_isBesideOutside_j50 (nI s) (nI c) (nI (sc R s)) (nI 0) τ = _ at jf
  have j26 : f_X11_isBesideOutside_j26 (nI s) (nI c) (nI (sc R s)) τ = some (nI (bN ((decide ((c + 1) % sc R s ≠ 0) && T (c + 1)) || ((decide (sc R s ≤ c) && T (c - sc R s)) || (decide (c + sc R s < sc R s * sr R s) && T (c + sc R s)))))) := by
    unfold f_X11_isBesideOutside_j26 f_X11_isBesideOutside_j49 f_X11_isBesideOutside_j45
    by_cases e : (c + 1) % sc R s = 0
    · simp (disch := omega) only [bind_s, sum_l, sum_r, chkin, lit, nI_add, pk_mul, nI_clamp, nI_leI, nI_ltI, nI_eqI, nI_or, and1, shl1, shrx, nI_subx, pk_divx, pk_remx, nmod, nzx, if_tt, if_ff, bz_n1, bz_n0, nm1, nm2, wI_p, wI_inj, wI_n, nI_w, wI_ltI, wI_leI, nI_ltw, nI_lew, reduceIte, e, if_true, jf]
      simp
    · have e1 : ¬ (c + 1) % sc R s ≤ 0 := by omega
      have hlt := nx_lt hc e
      simp (disch := omega) only [bind_s, sum_l, sum_r, chkin, lit, nI_add, pk_mul, nI_clamp, nI_leI, nI_ltI, nI_eqI, nI_or, and1, shl1, shrx, nI_subx, pk_divx, pk_remx, nmod, nzx, if_tt, if_ff, bz_n1, bz_n0, nm1, nm2, wI_p, wI_inj, wI_n, nI_w, wI_ltI, wI_leI, nI_ltw, nI_lew, reduceIte, e1, if_false, hρ (c + 1) hlt, bN_e0, jf, jt]
      cases T (c + 1) <;> simp [e]
  unfold f_X11_isBesideOutside f_X11_isBesideOutside_0 f_X11_isBesideOutside_j45 bsd
  by_cases e : c % sc R s = 0
  · simp (disch := omega) only [bind_s, sum_l, sum_r, chkin, lit, nI_add, pk_mul, nI_clamp, nI_leI, nI_ltI, nI_eqI, nI_or, and1, shl1, shrx, nI_subx, pk_divx, pk_remx, nmod, nzx, if_tt, if_ff, bz_n1, bz_n0, nm1, nm2, wI_p, wI_inj, wI_n, nI_w, wI_ltI, wI_leI, nI_ltw, nI_lew, reduceIte, hR, rwN_a, r3, e, if_true, j26, bz_N]
    simp
  · have c1 : 1 ≤ c := by
      rcases Nat.eq_zero_or_pos c with z | z
      · rw [z, Nat.zero_mod] at e; exact absurd rfl e
      · exact z
    have e1 : ¬ c % sc R s ≤ 0 := by omega
    simp (disch := omega) only [bind_s, sum_l, sum_r, chkin, lit, nI_add, pk_mul, nI_clamp, nI_leI, nI_ltI, nI_eqI, nI_or, and1, shl1, shrx, nI_subx, pk_divx, pk_remx, nmod, nzx, if_tt, if_ff, bz_n1, bz_n0, nm1, nm2, wI_p, wI_inj, wI_n, nI_w, wI_ltI, wI_leI, nI_ltw, nI_lew, reduceIte, hR, rwN_a, r3, e1, if_false, hρ (c - 1) (by omega), bN_e0, j26, jt]
    cases T (c - 1) with
    | true => simp [e, bN, bz_n1]
    | false => simp [bz_N]
def edB (w n c : Nat) : Bool := decide (c < w) || (decide (n ≤ c + w) || (decide (c % w = 0) || decide ((c + 1) % w = 0)))
theorem edB_i {w n c : Nat} : edB w n c = true ↔ edge w n c := by
  unfold edB edge
  simp only [Bool.or_eq_true, decide_eq_true_eq]
  constructor
  · rintro (h | h | h | h)
    · exact Or.inr (Or.inr (Or.inl h))
    · exact Or.inr (Or.inr (Or.inr h))
    · exact Or.inl h
    · exact Or.inr (Or.inl h)
  · rintro (h | h | h | h)
    · exact Or.inr (Or.inr (Or.inl h))
    · exact Or.inr (Or.inr (Or.inr h))
    · exact Or.inl h
    · exact Or.inr (Or.inl h)
theorem edgeR_eq {s c : Nat} (hR : τ 102 = rwN R) (G : Good R) (hs : s < R 0) (hc : c < sc R s * sr R s) : f_X11_isEdge (nI s) (nI c) τ = some (nI (bN (edB (sc R s) (sc R s * sr R s) c))) := by
  have hS := GS G hs
  have r3 : R (3 + s) = sc R s := rfl
  have hm1 := Nat.mod_lt c (show sc R s > 0 by omega)
  have hm2 := Nat.mod_lt (c + 1) (show sc R s > 0 by omega)
  unfold f_X11_isEdge f_X11_isEdge_0 f_X11_isEdge_j39 edB
  simp (disch := omega) only [bind_s, sum_l, sum_r, chkin, lit, nI_add, pk_mul, nI_clamp, nI_leI, nI_ltI, nI_eqI, nI_or, and1, shl1, shrx, nI_subx, pk_divx, pk_remx, nmod, nzx, if_tt, if_ff, bz_n1, bz_n0, nm1, nm2, wI_p, wI_inj, wI_n, nI_w, wI_ltI, wI_leI, nI_ltw, nI_lew, reduceIte, hR, rwN_a, r3, cellsR_eq hR hS.1]
  by_cases e1 : c < sc R s
  · simp [e1, bN, bz_n1]
  · by_cases e2 : sc R s * sr R s ≤ c + sc R s
    · simp [e1, e2, bN, bz_n1]
    · by_cases e3 : c % sc R s = 0
      · simp [e1, e2, e3, bN, bz_n1]
      · by_cases e4 : (c + 1) % sc R s = 0
        · simp [e1, e2, e3, e4, bN, bz_n1]
        · simp [e1, e2, e3, e4, bN, bz_n0]
theorem nar0 : vp_nar .boolean (nI 0) = nI 0 ∧ vp_nar .boolean (nI 1) = nI 1 := by decide
/-- part p lies within part q of its sheet -/
def Wi (R : Nat → Nat) (p q l : Nat) : Prop := p ≠ q ∧ R (681 + q) = R (681 + p) ∧ ¬ Out (sc R (R (681 + p))) (sc R (R (681 + p)) * sr R (R (681 + p))) (hf0 R (R (681 + p)) (q + 2)) l
theorem ck_on {s c q : Nat} (G : Good R) (hs : s < R 0) (hc : c < sc R s * sr R s) (hq : 2 ≤ q) : (ck R s c = q) = (on R s c = q) := by
  have := on_cases G hs hc
  apply propext
  omega
set_option maxHeartbeats 2000000 in
theorem withinR_eq (hR : σ 102 = rwN R) (G : Good R) {p q l : Nat} (hp : p < R 2) (hq : q < R 2) (hC : Cov R (R (681 + p)) (σ 111)) (hl : IsLow R p l) : ∃ b τ, f_X11_isWithin (nI p) (nI q) σ = some (nI (bN b), τ) ∧ (b = true ↔ Wi R p q l) ∧ ∀ a, a ≠ 115 → τ a = σ a := by
  have hP := GP G hp
  have hQ := GP G hq
  have hs := (G.2.2.2.2.2.1 p hp).2.1
  have hS := GS G hs
  have hn := hS.2.2.2.2.2.2.1
  have hll := (hit_cell G hp ((ck_i G).mp hl.1).2).1
  have g2 := G.2.2.1
  by_cases epq : p = q
  · refine ⟨false, σ, ?_, ⟨fun h => (by cases h), fun h => absurd epq h.1⟩, fun _ _ => rfl⟩
    unfold f_X11_isWithin f_X11_isWithin_0
    simp (disch := omega) only [bind_s, sum_l, sum_r, chkin, lit, nI_add, pk_mul, nI_clamp, nI_leI, nI_ltI, nI_eqI, nI_or, and1, shl1, shrx, nI_subx, pk_divx, pk_remx, nmod, nzx, if_tt, if_ff, bz_n1, bz_n0, nm1, nm2, wI_p, wI_inj, wI_n, nI_w, wI_ltI, wI_leI, nI_ltw, nI_lew, reduceIte, epq, if_true]
    rfl
  by_cases esh : R (681 + q) = R (681 + p)
  · have hR0 : ∀ τ : St, (∀ a, a ≠ 115 → τ a = σ a) → τ 102 = rwN R ∧ τ 111 = σ 111 := fun τ F => ⟨by rw [F 102 (by decide), hR], F 111 (by decide)⟩
    obtain ⟨row, c1, c2⟩ := clear_eq (f := f_X11_isWithin_l35 (nI p) (nI q) (nI (R (681 + p)))) 115 (nI 0) σ (fun i τ hi => by
      unfold f_X11_isWithin_l35
      dsimp only
      simp (disch := omega) only [bind_s, sum_l, sum_r, chkin, lit, nI_add, pk_mul, nI_clamp, nI_leI, nI_ltI, nI_eqI, nI_or, and1, shl1, shrx, nI_subx, pk_divx, pk_remx, nmod, nzx, if_tt, if_ff, bz_n1, bz_n0, nm1, nm2, wI_p, wI_inj, wI_n, nI_w, wI_ltI, wI_leI, nI_ltw, nI_lew, reduceIte, nar0.1]) (fun τ => by
      unfold f_X11_isWithin_l35
      dsimp only
      simp (disch := omega) only [bind_s, sum_l, sum_r, chkin, lit, nI_add, pk_mul, nI_clamp, nI_leI, nI_ltI, nI_eqI, nI_or, and1, shl1, shrx, nI_subx, pk_divx, pk_remx, nmod, nzx, if_tt, if_ff, bz_n1, bz_n0, nm1, nm2, wI_p, wI_inj, wI_n, nI_w, wI_ltI, wI_leI, nI_ltw, nI_lew, reduceIte])
    generalize hs' : R (681 + p) = s at *
    have main := close_eq (fi := f_X11_isWithin_l70 (nI p) (nI q) (nI s)) (fo' := f_X11_isWithin_l59 (nI p) (nI q) (nI s)) (τ := upA σ 115 row) (n := sc R s * sr R s) hn (fun T c => !T c && (decide (hf0 R s (q + 2) c = 1) && (edB (sc R s) (sc R s * sr R s) c || bsd (sc R s) (sc R s * sr R s) T c))) (fun T τ => (∀ a, a ≠ 115 → τ a = σ a) ∧ ∀ d, d < sc R s * sr R s → τ 115 d = nI (bN (T d))) (fun T => ∀ c, c < sc R s * sr R s → T c = true → Out (sc R s) (sc R s * sr R s) (hf0 R s (q + 2)) c) (T := fun _ => false) (fun T τ c m hc hm hr => by
        obtain ⟨F, hτ⟩ := hr
        obtain ⟨hR1, h111⟩ := hR0 τ F
        have hcv : τ 111 c = wI (ck R s c) := by rw [h111]; exact hC c (by omega)
        have hck := ck_lt R s c
        have hkon := ck_on (q := q + 2) G hs hc (by omega)
        have hb := besO_eq (T := T) hR1 G hs hc hτ
        have hed := edgeR_eq hR1 G hs hc
        have hrow := hτ c hc
        have hm2 : m = 0 ∨ m = 1 := by omega
        constructor
        · intro hcond
          rw [Bool.and_eq_true, Bool.and_eq_true, decide_eq_true_eq, Bool.or_eq_true] at hcond
          obtain ⟨q1, q2, q3⟩ := hcond
          have q1 : T c = false := by cases e : T c <;> simp_all
          rw [q1] at hrow
          have hrow1 : τ 115 c = nI 0 := hrow
          have hon : ¬ ck R s c = q + 2 := fun h => by
            rw [hkon] at h
            unfold hf0 at q2
            rw [if_pos h] at q2
            cases q2
          refine ⟨up τ 115 c (nI 1), ?_, fun a ha => by rw [up_k _ _ _ ha, F a ha], fun d hd => ?_⟩
          · unfold f_X11_isWithin_l70 f_X11_isWithin_j121 f_X11_isWithin_j125 f_X11_isWithin_j126 f_X11_isWithin_j149 f_X11_isWithin_j154 f_X11_isWithin_j165 f_X11_isWithin_j170
            dsimp only
            simp (disch := omega) only [bind_s, sum_l, sum_r, chkin, lit, nI_add, pk_mul, nI_clamp, nI_leI, nI_ltI, nI_eqI, nI_or, and1, shl1, shrx, nI_subx, pk_divx, pk_remx, nmod, nzx, if_tt, if_ff, bz_n1, bz_n0, nm1, nm2, wI_p, wI_inj, wI_n, nI_w, wI_ltI, wI_leI, nI_ltw, nI_lew, reduceIte, cellsR_eq hR1 hS.1, hrow1, hcv, hon, if_false, hed, hb, bN_e0, nar0.2]
            cases e : edB (sc R s) (sc R s * sr R s) c with
            | true => rcases hm2 with rfl | rfl <;> simp [n10']
            | false =>
              have q4 : bsd (sc R s) (sc R s * sr R s) T c = true := by
                rcases q3 with h | h
                · rw [e] at h; cases h
                · exact h
              rw [q4]
              rcases hm2 with rfl | rfl <;> simp [n10']
          · unfold ins
            by_cases e : d = c
            · subst e; rw [up_s, if_pos rfl]; rfl
            · rw [up_j _ _ _ e, if_neg e]; exact hτ d hd
        · intro hcond
          have hup : ∀ v, τ 115 c = v → up τ 115 c v = τ := fun v h => up_id τ 115 c v h
          unfold f_X11_isWithin_l70 f_X11_isWithin_j121 f_X11_isWithin_j125 f_X11_isWithin_j126 f_X11_isWithin_j149 f_X11_isWithin_j154 f_X11_isWithin_j165 f_X11_isWithin_j170
          dsimp only
          cases e1 : T c with
          | true =>
            rw [e1] at hrow
            have hrow1 : τ 115 c = nI 1 := hrow
            simp (disch := omega) only [bind_s, sum_l, sum_r, chkin, lit, nI_add, pk_mul, nI_clamp, nI_leI, nI_ltI, nI_eqI, nI_or, and1, shl1, shrx, nI_subx, pk_divx, pk_remx, nmod, nzx, if_tt, if_ff, bz_n1, bz_n0, nm1, nm2, wI_p, wI_inj, wI_n, nI_w, wI_ltI, wI_leI, nI_ltw, nI_lew, reduceIte, cellsR_eq hR1 hS.1, hrow1, nar0.2, hup (nI 1) hrow1, hcv]
            rcases hm2 with rfl | rfl <;> simp [n10']
          | false =>
            rw [e1] at hrow
            have hrow1 : τ 115 c = nI 0 := hrow
            by_cases e2 : ck R s c = q + 2
            · simp (disch := omega) only [bind_s, sum_l, sum_r, chkin, lit, nI_add, pk_mul, nI_clamp, nI_leI, nI_ltI, nI_eqI, nI_or, and1, shl1, shrx, nI_subx, pk_divx, pk_remx, nmod, nzx, if_tt, if_ff, bz_n1, bz_n0, nm1, nm2, wI_p, wI_inj, wI_n, nI_w, wI_ltI, wI_leI, nI_ltw, nI_lew, reduceIte, cellsR_eq hR1 hS.1, hrow1, nar0.1, hup (nI 0) hrow1, hcv, e2, if_true]
              rcases hm2 with rfl | rfl <;> simp [n10']
            · have e3 : hf0 R s (q + 2) c = 1 := by
                unfold hf0
                rw [if_neg (fun h => e2 (by rw [hkon]; exact h))]
              rw [e1, e3] at hcond
              have e4 : edB (sc R s) (sc R s * sr R s) c = false ∧ bsd (sc R s) (sc R s * sr R s) T c = false := by simpa using hcond
              simp (disch := omega) only [bind_s, sum_l, sum_r, chkin, lit, nI_add, pk_mul, nI_clamp, nI_leI, nI_ltI, nI_eqI, nI_or, and1, shl1, shrx, nI_subx, pk_divx, pk_remx, nmod, nzx, if_tt, if_ff, bz_n1, bz_n0, nm1, nm2, wI_p, wI_inj, wI_n, nI_w, wI_ltI, wI_leI, nI_ltw, nI_lew, reduceIte, cellsR_eq hR1 hS.1, hrow1, nar0.1, hup (nI 0) hrow1, hcv, e2, if_false, hed, hb, bN_e0, e4.1, e4.2, if_true]
              rcases hm2 with rfl | rfl <;> simp [n10']) (fun T τ m hr => by
        obtain ⟨F, hτ⟩ := hr
        obtain ⟨hR1, h111⟩ := hR0 τ F
        unfold f_X11_isWithin_l70
        dsimp only
        simp (disch := omega) only [bind_s, sum_l, sum_r, chkin, lit, nI_add, pk_mul, nI_clamp, nI_leI, nI_ltI, nI_eqI, nI_or, and1, shl1, shrx, nI_subx, pk_divx, pk_remx, nmod, nzx, if_tt, if_ff, bz_n1, bz_n0, nm1, nm2, wI_p, wI_inj, wI_n, nI_w, wI_ltI, wI_leI, nI_ltw, nI_lew, reduceIte, cellsR_eq hR1 hS.1]) (fun τ => ⟨rfl, rfl⟩) (fun T c h => by
        rw [Bool.and_eq_true] at h
        cases e : T c with
        | false => rfl
        | true => rw [e] at h; cases h.1) (fun T c hc hJ hcond d hd ht => by
        rw [Bool.and_eq_true, Bool.and_eq_true, decide_eq_true_eq, Bool.or_eq_true] at hcond
        obtain ⟨q1, q2, q3⟩ := hcond
        unfold ins at ht
        by_cases e2 : d = c
        · subst e2
          rcases q3 with q3 | q3
          · exact Rch_s ⟨hd, edB_i.mp q3, q2⟩
          · obtain ⟨e, he, hne, hte⟩ := (bsd_i (by omega) hc).mp q3
            exact Rch_n (hJ e he hte) hne q2
        · rw [if_neg e2] at ht
          exact hJ d hd ht) ⟨fun a ha => upA_ne _ _ ha, fun d hd => by rw [upA_same, c2 d (by omega)]; rfl⟩ (fun c hc ht => by cases ht)
    obtain ⟨T', τ', m1, ⟨m2, m3⟩, m4, m5, m6⟩ := main
    obtain ⟨hR1, h111⟩ := hR0 τ' m2
    have hlow := lowR_eq hR1 G hp hl
    have hTl : T' l = true ↔ Out (sc R s) (sc R s * sr R s) (hf0 R s (q + 2)) l := by
      constructor
      · exact m4 l hll
      · intro ho
        exact (ho (fun c => c < sc R s * sr R s ∧ T' c = true) (fun a ha => by
          refine ⟨ha.1, ?_⟩
          have q := m6 a ha.1
          rw [decide_eq_true ha.2.2, edB_i.mpr ha.2.1] at q
          cases e : T' a with
          | true => rfl
          | false => rw [e] at q; cases q) (fun a b ha hn2 ho => by
          have hb := Nb_lt ha.1 hn2
          refine ⟨hb, ?_⟩
          have q := m6 b hb
          have q2 : bsd (sc R s) (sc R s * sr R s) T' b = true := (bsd_i (by omega) hb).mpr ⟨a, ha.1, hn2, ha.2⟩
          rw [q2, decide_eq_true ho, Bool.or_true] at q
          cases e : T' b with
          | true => rfl
          | false => rw [e] at q; cases q)).2
    refine ⟨!T' l, τ', ?_, ?_, m2⟩
    · have hrl := m3 l hll
      unfold f_X11_isWithin f_X11_isWithin_0
      simp (disch := omega) only [bind_s, sum_l, sum_r, chkin, lit, nI_add, pk_mul, nI_clamp, nI_leI, nI_ltI, nI_eqI, nI_or, and1, shl1, shrx, nI_subx, pk_divx, pk_remx, nmod, nzx, if_tt, if_ff, bz_n1, bz_n0, nm1, nm2, wI_p, wI_inj, wI_n, nI_w, wI_ltI, wI_leI, nI_ltw, nI_lew, reduceIte, epq, if_false, hR, rwN_a, hs', esh, c1, m1, hlow, hrl, bN_e0]
      cases T' l <;> rfl
    · unfold Wi
      rw [hs', ← hTl]
      cases T' l with
      | true => simp
      | false => simp [epq, esh]
  · refine ⟨false, σ, ?_, ⟨fun h => (by cases h), fun h => absurd h.2.1 esh⟩, fun _ _ => rfl⟩
    unfold f_X11_isWithin f_X11_isWithin_0
    simp (disch := omega) only [bind_s, sum_l, sum_r, chkin, lit, nI_add, pk_mul, nI_clamp, nI_leI, nI_ltI, nI_eqI, nI_or, and1, shl1, shrx, nI_subx, pk_divx, pk_remx, nmod, nzx, if_tt, if_ff, bz_n1, bz_n0, nm1, nm2, wI_p, wI_inj, wI_n, nI_w, wI_ltI, wI_leI, nI_ltw, nI_lew, reduceIte, epq, if_false, hR, rwN_a, esh]
    rfl
