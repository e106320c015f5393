/-! PURE FACTS, 37: the common cuts that a shape would make -/
variable {k : Nat} {R : Nat → Nat} {σ τ : St}
theorem sm_tail {g : Nat → Nat} {m n : Nat} (h : ∀ k, m ≤ k → g k = 0) (hmn : m ≤ n) : sm g n = sm g m := by
  induction n with
  | zero => rw [show m = 0 by omega]
  | succ n ih =>
    by_cases e : m = n + 1
    · rw [e]
    · rw [sm_s, h n (by omega), ih (by omega)]
      rfl
def cterm (R : Nat → Nat) (h s x y t k : Nat) : Nat := if bit (tm R h t) k = 1 then bes R s 1 (ncl R s x y (tc R h t) k) else 0
def comN (R : Nat → Nat) (h s x y t : Nat) : Nat := sm (cterm R h s x y t) 16
theorem cterm_le (h s x y t k : Nat) : cterm R h s x y t k ≤ 4 := by
  unfold cterm
  split
  · exact bes_le _ _ _
  · omega
theorem comN_le (h s x y t : Nat) : comN R h s x y t ≤ 64 := by
  have := sm_le (g := cterm R h s x y t) (n := 16) (B := 4) (fun i _ => cterm_le h s x y t i)
  unfold comN
  omega
theorem comN_C (T : ShR 1 R σ) (G : Good R) {h s x y t : Nat} (hh : h < R 1) (hs : s < R 0) (ht : t < 4) (F : Fits R h s x y t) : f_X7_newCommonCuts 1 (nI h) (nI s) (nI x) (nI y) (nI t) σ = some (nI (comN R h s x y t)) := by
  have hH := GH G hh
  have hS := GS G hs
  have hT := SM_t hH.2.1 t
  have h16 := tm_16 hH.2.1 t
  have hm := tm_lt hH.2.1 t
  have hwh : tc R h t * tr R h t ≤ 16 := Nat.mul_le_mul hT.2.1 hT.2.2.2
  obtain ⟨f1, f2, f3⟩ := F
  have hsm : ∀ m, m ≤ 16 → sm (cterm R h s x y t) m ≤ 64 := fun m hm => by
    have := sm_le (g := cterm R h s x y t) (n := m) (B := 4) (fun i _ => cterm_le h s x y t i)
    omega
  unfold f_X7_newCommonCuts f_X7_newCommonCuts_0
  have main := lp_ex (f := f_X7_newCommonCuts_l24 1 (nI h) (nI s) (nI x) (nI y) (nI t) (nI (tc R h t)) (nI (tm R h t)) σ) (fun r => (nI (sm (cterm R h s x y t) (tc R h t * r)), nI r)) (nI (comN R h s x y t)) (tr R h t) (by omega) (fun r hr => by
    have inner := lp_ex (f := f_X7_newCommonCuts_l39 1 (nI h) (nI s) (nI x) (nI y) (nI t) (nI (tc R h t)) (nI (tm R h t)) (nI r) σ) (fun c => (nI (sm (cterm R h s x y t) (tc R h t * r + c)), nI c)) (nI (sm (cterm R h s x y t) (tc R h t * (r + 1)))) (tc R h t) (by omega) (fun c hc => by
      have hlt : tc R h t * r + c < 16 := at_lt hc hr hwh
      have e9 : sm (cterm R h s x y t) (tc R h t * r + (c + 1)) = sm (cterm R h s x y t) (tc R h t * r + c) + cterm R h s x y t (tc R h t * r + c) := rfl
      have hb := bes_eq T G (x := x + c) (y := y + r) (q := 1) hs (by omega) (by omega) (by decide)
      have hn : sc R s * (y + r) + (x + c) = ncl R s x y (tc R h t) (tc R h t * r + c) := by
        unfold ncl
        rw [lin_mod hc, lin_div hc]
      rw [hn] at hb
      unfold f_X7_newCommonCuts_l39 f_X7_newCommonCuts_j80
      dsimp only
      rw [e9]
      by_cases e : bit (tm R h t) (tc R h t * r + c) = 0
      · have e2 : cterm R h s x y t (tc R h t * r + c) = 0 := by unfold cterm; rw [if_neg (by omega)]
        simp (disch := omega) only [bind_s, sum_l, sum_r, chkin, lit, nI_add, pk_mul, nI_clamp, nI_leI, nI_ltI, nI_eqI, nI_or, and1, shl1, shrx, nI_subx, pk_divx, pk_remx, nmod, nzx, if_tt, if_ff, bz_n1, bz_n0, nm1, nm2, wI_p, wI_inj, wI_n, nI_w, wI_ltI, wI_leI, nI_ltw, nI_lew, reduceIte, covers_eq, bit_e0, e, e2, Nat.add_zero]
      · have e1 : bit (tm R h t) (tc R h t * r + c) = 1 := by have := bit_lt (tm R h t) (tc R h t * r + c); omega
        have e2 : cterm R h s x y t (tc R h t * r + c) = bes R s 1 (ncl R s x y (tc R h t) (tc R h t * r + c)) := by unfold cterm; rw [if_pos e1]
        simp (disch := omega) only [bind_s, sum_l, sum_r, chkin, lit, nI_add, pk_mul, nI_clamp, nI_leI, nI_ltI, nI_eqI, nI_or, and1, shl1, shrx, nI_subx, pk_divx, pk_remx, nmod, nzx, if_tt, if_ff, bz_n1, bz_n0, nm1, nm2, wI_p, wI_inj, wI_n, nI_w, wI_ltI, wI_leI, nI_ltw, nI_lew, reduceIte, covers_eq, bit_e0, e1, e2, hb]) (by
      unfold f_X7_newCommonCuts_l39
      dsimp only
      simp (disch := omega) only [bind_s, sum_l, sum_r, chkin, lit, nI_add, pk_mul, nI_clamp, nI_leI, nI_ltI, nI_eqI, nI_or, and1, shl1, shrx, nI_subx, pk_divx, pk_remx, nmod, nzx, if_tt, if_ff, bz_n1, bz_n0, nm1, nm2, wI_p, wI_inj, wI_n, nI_w, wI_ltI, wI_leI, nI_ltw, nI_lew, reduceIte]
      rw [Nat.mul_succ])
    simp only [Nat.add_zero] at inner
    unfold f_X7_newCommonCuts_l24
    dsimp only
    simp (disch := omega) only [bind_s, sum_l, sum_r, chkin, lit, nI_add, pk_mul, nI_clamp, nI_leI, nI_ltI, nI_eqI, nI_or, and1, shl1, shrx, nI_subx, pk_divx, pk_remx, nmod, nzx, if_tt, if_ff, bz_n1, bz_n0, nm1, nm2, wI_p, wI_inj, wI_n, nI_w, wI_ltI, wI_leI, nI_ltw, nI_lew, reduceIte, rowsAfter_eq T G hh ht, inner]) (by
    have e : sm (cterm R h s x y t) (tc R h t * tr R h t) = comN R h s x y t := (sm_tail (fun k hk => by
      unfold cterm
      rw [if_neg]
      intro hb
      have := bit_hi hm hb
      omega) hwh).symm
    unfold f_X7_newCommonCuts_l24
    dsimp only
    simp (disch := omega) only [bind_s, sum_l, sum_r, chkin, lit, nI_add, pk_mul, nI_clamp, nI_leI, nI_ltI, nI_eqI, nI_or, and1, shl1, shrx, nI_subx, pk_divx, pk_remx, nmod, nzx, if_tt, if_ff, bz_n1, bz_n0, nm1, nm2, wI_p, wI_inj, wI_n, nI_w, wI_ltI, wI_leI, nI_ltw, nI_lew, reduceIte, rowsAfter_eq T G hh ht, e])
  rw [Nat.mul_zero] at main
  have e0 : (nI (sm (cterm R h s x y t) 0), nI 0) = (nI 0, nI 0) := rfl
  rw [e0] at main
  simp (disch := omega) only [bind_s, sum_l, sum_r, chkin, lit, nI_add, pk_mul, nI_clamp, nI_leI, nI_ltI, nI_eqI, nI_or, and1, shl1, shrx, nI_subx, pk_divx, pk_remx, nmod, nzx, if_tt, if_ff, bz_n1, bz_n0, nm1, nm2, wI_p, wI_inj, wI_n, nI_w, wI_ltI, wI_leI, nI_ltw, nI_lew, reduceIte, columnsAfter_eq T G hh ht, coveredAfter_eq T G hh ht, main]
theorem oth_ck (G : Good R) {s d : Nat} (hs : s < R 0) (hd : d < sc R s * sr R s) : oth (on R s d) 1 = if ck R s d = 1 then 0 else 1 := by
  have h := on_cases G hs hd
  unfold oth
  by_cases e : ck R s d = 1
  · rw [if_pos e, decide_eq_false (show ¬ 2 ≤ on R s d by omega)]
    rfl
  · rw [if_neg e, decide_eq_true (show 2 ≤ on R s d by omega), decide_eq_true (show on R s d ≠ 1 by omega)]
    rfl
theorem com165 (hR : σ 102 = rwN R) (G : Good R) {s c kk n a : Nat} {x3 x4 x6 x7 : Int32} (hs : s < R 0) (hC : Cov R s (σ 111)) (hc : c < sc R s * sr R s) : f_X11_commonOf_j165 (nI s) x3 x4 x6 x7 (nI (sc R s)) (nI kk) (nI c) (nI a) (nI n) σ = some (.inl (nI (n + a + oth (nd R s c) 1), nI (kk + 1))) := by
  have hS := GS G hs
  have h1 := ck_lt R s (c + sc R s)
  have g2 := G.2.2.1
  have hq : c + sc R s < 100 → (upA σ 111 (σ 111)) 111 (c + sc R s) = wI (ck R s (c + sc R s)) := fun h => by rw [upA_same]; exact hC _ h
  unfold f_X11_commonOf_j165 f_X11_commonOf_j201 f_X11_commonOf_j202 f_X11_commonOf_j205 nd
  by_cases e : c + sc R s < sc R s * sr R s
  · have hk := hC (c + sc R s) (by omega)
    simp (disch := omega) only [bind_s, sum_l, sum_r, chkin, lit, nI_add, pk_mul, nI_clamp, nI_leI, nI_ltI, nI_eqI, nI_or, and1, shl1, shrx, nI_subx, pk_divx, pk_remx, nmod, nzx, if_tt, if_ff, bz_n1, bz_n0, nm1, nm2, wI_p, wI_inj, wI_n, nI_w, wI_ltI, wI_leI, nI_ltw, nI_lew, reduceIte, cellsR_eq hR hS.1, hk]
    rw [oth_ck G hs e]
    by_cases e2 : ck R s (c + sc R s) = 1
    · rw [if_pos e2, if_pos e2]
    · rw [if_neg e2, if_neg e2]
  · simp (disch := omega) only [bind_s, sum_l, sum_r, chkin, lit, nI_add, pk_mul, nI_clamp, nI_leI, nI_ltI, nI_eqI, nI_or, and1, shl1, shrx, nI_subx, pk_divx, pk_remx, nmod, nzx, if_tt, if_ff, bz_n1, bz_n0, nm1, nm2, wI_p, wI_inj, wI_n, nI_w, wI_ltI, wI_leI, nI_ltw, nI_lew, reduceIte, cellsR_eq hR hS.1]
    rfl
theorem com134 (hR : σ 102 = rwN R) (G : Good R) {s c kk n a : Nat} {x3 x4 x6 x7 : Int32} (hs : s < R 0) (hC : Cov R s (σ 111)) (hc : c < sc R s * sr R s) : f_X11_commonOf_j134 (nI s) x3 x4 x6 x7 (nI (sc R s)) (nI kk) (nI c) (nI a) (nI n) σ = some (.inl (nI (n + a + oth (nu R s c) 1 + oth (nd R s c) 1), nI (kk + 1))) := by
  have hS := GS G hs
  have h1 := ck_lt R s (c - sc R s)
  have g2 := G.2.2.1
  unfold f_X11_commonOf_j134 f_X11_commonOf_j164 nu
  by_cases e : c < sc R s
  · simp (disch := omega) only [bind_s, sum_l, sum_r, chkin, lit, nI_add, pk_mul, nI_clamp, nI_leI, nI_ltI, nI_eqI, nI_or, and1, shl1, shrx, nI_subx, pk_divx, pk_remx, nmod, nzx, if_tt, if_ff, bz_n1, bz_n0, nm1, nm2, wI_p, wI_inj, wI_n, nI_w, wI_ltI, wI_leI, nI_ltw, nI_lew, reduceIte, com165 hR G hs hC hc]
    rfl
  · have hk := hC (c - sc R s) (by omega)
    simp (disch := omega) only [bind_s, sum_l, sum_r, chkin, lit, nI_add, pk_mul, nI_clamp, nI_leI, nI_ltI, nI_eqI, nI_or, and1, shl1, shrx, nI_subx, pk_divx, pk_remx, nmod, nzx, if_tt, if_ff, bz_n1, bz_n0, nm1, nm2, wI_p, wI_inj, wI_n, nI_w, wI_ltI, wI_leI, nI_ltw, nI_lew, reduceIte, com165 hR G hs hC hc, hk]
    rw [oth_ck G hs (by omega)]
    by_cases e2 : ck R s (c - sc R s) = 1
    · rw [if_pos e2, if_pos e2]
    · rw [if_neg e2, if_neg e2]
theorem com101 (hR : σ 102 = rwN R) (G : Good R) {s c kk n a : Nat} {x3 x4 x6 x7 : Int32} (hs : s < R 0) (hC : Cov R s (σ 111)) (hc : c < sc R s * sr R s) : f_X11_commonOf_j101 (nI s) x3 x4 x6 x7 (nI (sc R s)) (nI kk) (nI c) (nI a) (nI n) σ = some (.inl (nI (n + a + oth (nr R s c) 1 + oth (nu R s c) 1 + oth (nd R s c) 1), nI (kk + 1))) := by
  have hS := GS G hs
  have h1 := ck_lt R s (c + 1)
  have g2 := G.2.2.1
  have hmm := Nat.mod_lt (c + 1) (show sc R s > 0 by omega)
  unfold f_X11_commonOf_j101 f_X11_commonOf_j133 nr
  by_cases e : (c + 1) % sc R s = 0
  · simp (disch := omega) only [bind_s, sum_l, sum_r, chkin, lit, nI_add, pk_mul, nI_clamp, nI_leI, nI_ltI, nI_eqI, nI_or, and1, shl1, shrx, nI_subx, pk_divx, pk_remx, nmod, nzx, if_tt, if_ff, bz_n1, bz_n0, nm1, nm2, wI_p, wI_inj, wI_n, nI_w, wI_ltI, wI_leI, nI_ltw, nI_lew, reduceIte, com134 hR G hs hC hc, e, if_true]
    rfl
  · have hx := nx_lt hc e
    have hk := hC (c + 1) (by omega)
    have e1 : ¬ (c + 1) % sc R s ≤ 0 := by omega
    simp (disch := omega) only [bind_s, sum_l, sum_r, chkin, lit, nI_add, pk_mul, nI_clamp, nI_leI, nI_ltI, nI_eqI, nI_or, and1, shl1, shrx, nI_subx, pk_divx, pk_remx, nmod, nzx, if_tt, if_ff, bz_n1, bz_n0, nm1, nm2, wI_p, wI_inj, wI_n, nI_w, wI_ltI, wI_leI, nI_ltw, nI_lew, reduceIte, com134 hR G hs hC hc, hk, e1, e, if_false]
    rw [oth_ck G hs hx]
    by_cases e2 : ck R s (c + 1) = 1
    · rw [if_pos e2, if_pos e2]
    · rw [if_neg e2, if_neg e2]
theorem comN_R (hR : σ 102 = rwN R) (G : Good R) {h s x y t : Nat} (hh : h < R 1) (hs : s < R 0) (ht : t < 4) (F : Fits R h s x y t) (hC : Cov R s (σ 111)) : f_X11_commonOf (nI h) (nI s) (nI x) (nI y) (nI t) σ = some (nI (comN R h s x y t)) := by
  have hH := GH G hh
  have hS := GS G hs
  have hT := SM_t hH.2.1 t
  have h16 := tm_16 hH.2.1 t
  obtain ⟨f1, f2, f3⟩ := F
  have hsm : ∀ m, m ≤ 16 → sm (cterm R h s x y t) m ≤ 64 := fun m hm => by
    have := sm_le (g := cterm R h s x y t) (n := m) (B := 4) (fun i _ => cterm_le h s x y t i)
    omega
  unfold f_X11_commonOf f_X11_commonOf_0
  have main := lp_ex (f := f_X11_commonOf_l34 (nI s) (nI x) (nI y) (nI (tm R h t)) (nI (tc R h t)) (nI (sc R s)) σ) (fun kk => (nI (sm (cterm R h s x y t) kk), nI kk)) (nI (comN R h s x y t)) 16 (by decide) (fun kk hk => by
    have e9 : sm (cterm R h s x y t) (kk + 1) = sm (cterm R h s x y t) kk + cterm R h s x y t kk := rfl
    unfold f_X11_commonOf_l34 f_X11_commonOf_j205 f_X11_commonOf_j100
    dsimp only
    rw [e9]
    by_cases e : bit (tm R h t) kk = 0
    · have e2 : cterm R h s x y t kk = 0 := by unfold cterm; rw [if_neg (by omega)]
      simp (disch := omega) only [bind_s, sum_l, sum_r, chkin, lit, nI_add, pk_mul, nI_clamp, nI_leI, nI_ltI, nI_eqI, nI_or, and1, shl1, shrx, nI_subx, pk_divx, pk_remx, nmod, nzx, if_tt, if_ff, bz_n1, bz_n0, nm1, nm2, wI_p, wI_inj, wI_n, nI_w, wI_ltI, wI_leI, nI_ltw, nI_lew, reduceIte, has_eq, bit_e0, e, e2, Nat.add_zero]
    · have e1 : bit (tm R h t) kk = 1 := by have := bit_lt (tm R h t) kk; omega
      have hb := ncl_lt G hh hs f1 f2 e1
      have e2 : cterm R h s x y t kk = bes R s 1 (ncl R s x y (tc R h t) kk) := by unfold cterm; rw [if_pos e1]
      have hn : sc R s * (y + kk / tc R h t) + (x + kk % tc R h t) = ncl R s x y (tc R h t) kk := rfl
      have hc := hb.1
      generalize ncl R s x y (tc R h t) kk = c at *
      have hmm := Nat.mod_lt c (show sc R s > 0 by omega)
      have h1 := ck_lt R s (c - 1)
      have g2 := G.2.2.1
      rw [e2]
      unfold bes
      have el : nl R s c = if c % sc R s = 0 then 0 else on R s (c - 1) := rfl
      have hass : ∀ a b d f n : Nat, n + (a + b + d + f) = n + a + b + d + f := fun a b d f n => by omega
      rw [hass]
      by_cases e3 : c % sc R s = 0
      · rw [el, if_pos e3]
        simp (disch := omega) only [bind_s, sum_l, sum_r, chkin, lit, nI_add, pk_mul, nI_clamp, nI_leI, nI_ltI, nI_eqI, nI_or, and1, shl1, shrx, nI_subx, pk_divx, pk_remx, nmod, nzx, if_tt, if_ff, bz_n1, bz_n0, nm1, nm2, wI_p, wI_inj, wI_n, nI_w, wI_ltI, wI_leI, nI_ltw, nI_lew, reduceIte, has_eq, bit_e0, e1, at_eq, hn, e3, com101 hR G hs hC hc]
        rfl
      · have hc1 : 1 ≤ c := by
          rcases Nat.eq_zero_or_pos c with q | q
          · rw [q, Nat.zero_mod] at e3; exact absurd rfl e3
          · exact q
        have hk := hC (c - 1) (by omega)
        have e4 : ¬ c % sc R s ≤ 0 := by omega
        rw [el, if_neg e3, oth_ck G hs (by omega)]
        simp (disch := omega) only [bind_s, sum_l, sum_r, chkin, lit, nI_add, pk_mul, nI_clamp, nI_leI, nI_ltI, nI_eqI, nI_or, and1, shl1, shrx, nI_subx, pk_divx, pk_remx, nmod, nzx, if_tt, if_ff, bz_n1, bz_n0, nm1, nm2, wI_p, wI_inj, wI_n, nI_w, wI_ltI, wI_leI, nI_ltw, nI_lew, reduceIte, has_eq, bit_e0, e1, at_eq, hn, e4, com101 hR G hs hC hc, hk]
        by_cases e5 : ck R s (c - 1) = 1
        · rw [if_pos e5, if_pos e5]
        · rw [if_neg e5, if_neg e5]) (by
    have e : sm (cterm R h s x y t) 16 = comN R h s x y t := rfl
    unfold f_X11_commonOf_l34
    dsimp only
    simp (disch := omega) only [bind_s, sum_l, sum_r, chkin, lit, nI_add, pk_mul, nI_clamp, nI_leI, nI_ltI, nI_eqI, nI_or, and1, shl1, shrx, nI_subx, pk_divx, pk_remx, nmod, nzx, if_tt, if_ff, bz_n1, bz_n0, nm1, nm2, wI_p, wI_inj, wI_n, nI_w, wI_ltI, wI_leI, nI_ltw, nI_lew, reduceIte, e])
  have e0 : (nI (sm (cterm R h s x y t) 0), nI 0) = (nI 0, nI 0) := rfl
  rw [e0] at main
  have e9 : R (3 + s) = sc R s := rfl
  simp (disch := omega) only [bind_s, sum_l, sum_r, chkin, lit, nI_add, pk_mul, nI_clamp, nI_leI, nI_ltI, nI_eqI, nI_or, and1, shl1, shrx, nI_subx, pk_divx, pk_remx, nmod, nzx, if_tt, if_ff, bz_n1, bz_n0, nm1, nm2, wI_p, wI_inj, wI_n, nI_w, wI_ltI, wI_leI, nI_ltw, nI_lew, reduceIte, tmR_eq hR hH.1 hH.2.1, tcR_eq hR hH.1, hR, rwN_a, e9, main]
