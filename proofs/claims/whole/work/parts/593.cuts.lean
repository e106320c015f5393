/-! PURE FACTS, 13: cuts, as the reference counts them; common cuts -/
variable {k : Nat} {R : Nat → Nat} {σ : St}
def prc (a b : Nat) (m : Bool) (q : Nat) : Bool := decide (a ≠ b) && ((!m || (decide (a ≠ 1) && decide (b ≠ 1))) && (decide (q = 1) || (decide (a = q) || decide (b = q))))
def cutr (R : Nat → Nat) (s : Nat) (m : Bool) (q c : Nat) : Nat := (if (c + 1) % sc R s = 0 then 0 else bN (prc (ck R s c) (ck R s (c + 1)) m q)) + (if c + sc R s < sc R s * sr R s then bN (prc (ck R s c) (ck R s (c + sc R s)) m q) else 0)
theorem cutr_le (s : Nat) (m : Bool) (q c : Nat) : cutr R s m q c ≤ 2 := by
  unfold cutr
  have h1 := bN_lt (prc (ck R s c) (ck R s (c + 1)) m q)
  have h2 := bN_lt (prc (ck R s c) (ck R s (c + sc R s)) m q)
  split <;> split <;> omega
theorem nx_lt {w h c : Nat} (hc : c < w * h) (e : ¬ (c + 1) % w = 0) : c + 1 < w * h := by
  rcases Nat.lt_or_ge (c + 1) (w * h) with h1 | h1
  · exact h1
  · exfalso
    apply e
    rw [show c + 1 = w * h by omega, Nat.mul_mod_right]
theorem n10 : (nI 1 = nI 0) = False := eq_false (by decide)
theorem j125_eq {s : Nat} {m : Bool} {q a b n kk c w : Nat} (is : Bool) (ha : a < 100) (hb : b < 100) (hq : q < 100) (hba : is = false → a = b) : f_X11_cutsOf_j125 (nI s) (nI (bN m)) (wI q) (nI w) (nI n) (nI c) (nI kk) (nI (bN is)) (wI a) (wI b) σ = some (.inl (nI (n + if is = true then bN (prc a b m q) else 0), nI (kk + 1))) := by
  unfold f_X11_cutsOf_j125 f_X11_cutsOf_j147 f_X11_cutsOf_j152 f_X11_cutsOf_j193 f_X11_cutsOf_j197 f_X11_cutsOf_j198 f_X11_isBorder f_X11_isBorder_0 prc
  simp (disch := omega) only [bind_s, sum_l, sum_r, chkin, lit, nI_add, pk_mul, nI_clamp, nI_leI, nI_ltI, nI_eqI, nI_or, and1, shl1, shrx, nI_subx, pk_divx, pk_remx, nmod, nzx, if_tt, if_ff, bz_n1, bz_n0, nm1, nm2, wI_p, wI_inj, wI_n, nI_w, wI_ltI, wI_leI, nI_ltw, nI_lew, reduceIte, bN_e0]
  cases is
  · have := hba rfl
    subst this
    simp [bN]
  · clear hba
    have pc := fun (P : Prop) => Classical.propComplete P
    rcases pc (a = b) with e3 | e3
    · simp [e3, bN, bz_n0]
    · rcases pc (q = 1) with e4 | e4 <;> rcases pc (a = q) with e5 | e5 <;> rcases pc (b = q) with e6 | e6 <;> rcases pc (a = 1) with e1 | e1 <;> rcases pc (b = 1) with e2 | e2 <;> cases m <;> simp [e1, e2, e3, e4, e5, e6, bN, bz_n0, bz_n1, n10]
theorem j97_eq {s : Nat} (m : Bool) {q n kk c w o : Nat} (is : Bool) (hC : Cov R s (σ 111)) (hR2 : R 2 ≤ 20) (hq : q < 100) (hc : c < 100) (ho : is = true → o < 100) : f_X11_cutsOf_j97 (nI s) (nI (bN m)) (wI q) (nI w) (nI n) (nI c) (nI kk) (nI o) (nI (bN is)) σ = some (.inl (nI (n + if is = true then bN (prc (ck R s c) (ck R s o) m q) else 0), nI (kk + 1))) := by
  have h1 := ck_lt R s c
  have h2 := ck_lt R s o
  unfold f_X11_cutsOf_j97
  simp (disch := omega) only [bind_s, sum_l, sum_r, chkin, lit, nI_add, pk_mul, nI_clamp, nI_leI, nI_ltI, nI_eqI, nI_or, and1, shl1, shrx, nI_subx, pk_divx, pk_remx, nmod, nzx, if_tt, if_ff, bz_n1, bz_n0, nm1, nm2, wI_p, wI_inj, wI_n, nI_w, wI_ltI, wI_leI, nI_ltw, nI_lew, reduceIte, hC c hc, bN_e0]
  cases is with
  | false =>
    rw [if_pos rfl, j125_eq false (by omega) (by omega) hq (fun _ => rfl)]
    rfl
  | true =>
    have := ho rfl
    rw [if_neg (by decide)]
    simp (disch := omega) only [bind_s, sum_l, sum_r, chkin, lit, nI_add, pk_mul, nI_clamp, nI_leI, nI_ltI, nI_eqI, nI_or, and1, shl1, shrx, nI_subx, pk_divx, pk_remx, nmod, nzx, if_tt, if_ff, bz_n1, bz_n0, nm1, nm2, wI_p, wI_inj, wI_n, nI_w, wI_ltI, wI_leI, nI_ltw, nI_lew, reduceIte, hC o this]
    rw [j125_eq true (by omega) (by omega) hq (fun e => by cases e)]
    rfl
theorem cutsR_eq (hR : σ 102 = rwN R) (G : Good R) {s : Nat} (hs : s < R 0) (m : Bool) {q : Nat} (hq : q < 100) : ∃ row, f_X11_cutsOf (nI s) (nI (bN m)) (wI q) σ = some (nI (sm (cutr R s m q) (sc R s * sr R s)), upA σ 111 row) ∧ Cov R s row := by
  obtain ⟨h0, h1, h2, h3, h4, h5, h6, h7⟩ := GS G hs
  obtain ⟨row, g1, g2⟩ := looks_eq hR G s (by omega)
  have hR2 : (upA σ 111 row) 102 = rwN R := by rw [upA_ne _ _ (by decide), hR]
  have hC : Cov R s ((upA σ 111 row) 111) := by rw [upA_same]; exact g2
  refine ⟨row, ?_, g2⟩
  unfold f_X11_cutsOf f_X11_cutsOf_0
  have := lp_ex (f := f_X11_cutsOf_l21 (nI s) (nI (bN m)) (wI q) (nI (sc R s)) (upA σ 111 row)) (fun c => (nI (sm (cutr R s m q) c), nI c)) (nI (sm (cutr R s m q) (sc R s * sr R s))) (sc R s * sr R s) (by omega) (fun c hc => by
    have w := lp_ex (f := f_X11_cutsOf_l34 (nI s) (nI (bN m)) (wI q) (nI (sc R s)) (nI c) (upA σ 111 row)) (fun kk => (nI (sm (cutr R s m q) c + (if kk = 0 then 0 else (if (c + 1) % sc R s = 0 then 0 else bN (prc (ck R s c) (ck R s (c + 1)) m q)) + (if kk = 1 then 0 else if c + sc R s < sc R s * sr R s then bN (prc (ck R s c) (ck R s (c + sc R s)) m q) else 0))), nI kk)) (nI (sm (cutr R s m q) (c + 1))) 2 (by decide) (fun kk hk => by
      unfold f_X11_cutsOf_l34 f_X11_cutsOf_j57
      dsimp only
      have hmm := Nat.mod_lt (c + 1) (show sc R s > 0 by omega)
      by_cases e : kk = 0
      · subst e
        have hj0 := j97_eq (kk := 0) (n := sm (cutr R s m q) c) (w := sc R s) (c := c) (o := c + 1) m false hC G.2.2.1 hq (by omega) (fun e => by cases e)
        simp (disch := omega) only [bind_s, sum_l, sum_r, chkin, lit, nI_add, pk_mul, nI_clamp, nI_leI, nI_ltI, nI_eqI, nI_or, and1, shl1, shrx, nI_subx, pk_divx, pk_remx, nmod, nzx, if_tt, if_ff, bz_n1, bz_n0, nm1, nm2, wI_p, wI_inj, wI_n, nI_w, wI_ltI, wI_leI, nI_ltw, nI_lew, reduceIte]
        by_cases e2 : (c + 1) % sc R s = 0
        · simp (disch := omega) only [bind_s, sum_l, sum_r, chkin, lit, nI_add, pk_mul, nI_clamp, nI_leI, nI_ltI, nI_eqI, nI_or, and1, shl1, shrx, nI_subx, pk_divx, pk_remx, nmod, nzx, if_tt, if_ff, bz_n1, bz_n0, nm1, nm2, wI_p, wI_inj, wI_n, nI_w, wI_ltI, wI_leI, nI_ltw, nI_lew, reduceIte, e2, if_true]
          exact hj0
        · have hj1 := j97_eq (kk := 0) (n := sm (cutr R s m q) c) (w := sc R s) (c := c) (o := c + 1) m true hC G.2.2.1 hq (by omega) (fun _ => by have := nx_lt hc e2; omega)
          simp (disch := omega) only [bind_s, sum_l, sum_r, chkin, lit, nI_add, pk_mul, nI_clamp, nI_leI, nI_ltI, nI_eqI, nI_or, and1, shl1, shrx, nI_subx, pk_divx, pk_remx, nmod, nzx, if_tt, if_ff, bz_n1, bz_n0, nm1, nm2, wI_p, wI_inj, wI_n, nI_w, wI_ltI, wI_leI, nI_ltw, nI_lew, reduceIte, e2, if_false]
          exact hj1
      · have e1 : kk = 1 := by omega
        subst e1
        simp (disch := omega) only [bind_s, sum_l, sum_r, chkin, lit, nI_add, pk_mul, nI_clamp, nI_leI, nI_ltI, nI_eqI, nI_or, and1, shl1, shrx, nI_subx, pk_divx, pk_remx, nmod, nzx, if_tt, if_ff, bz_n1, bz_n0, nm1, nm2, wI_p, wI_inj, wI_n, nI_w, wI_ltI, wI_leI, nI_ltw, nI_lew, reduceIte, cellsR_eq hR2 h0]
        by_cases e2 : c + sc R s < sc R s * sr R s
        · have hj1 := j97_eq (kk := 1) (n := sm (cutr R s m q) c + (if (c + 1) % sc R s = 0 then 0 else bN (prc (ck R s c) (ck R s (c + 1)) m q))) (w := sc R s) (c := c) (o := c + sc R s) m true hC G.2.2.1 hq (by omega) (fun _ => by omega)
          rw [if_neg (by omega)]
          simp only [e2, if_true, Nat.reduceAdd, Nat.reduceEqDiff, if_false, Nat.add_zero, Nat.add_assoc] at hj1 ⊢
          exact hj1
        · have hj0 := j97_eq (kk := 1) (n := sm (cutr R s m q) c + (if (c + 1) % sc R s = 0 then 0 else bN (prc (ck R s c) (ck R s (c + 1)) m q))) (w := sc R s) (c := c) (o := c + sc R s) m false hC G.2.2.1 hq (by omega) (fun e => by cases e)
          rw [if_pos (by omega)]
          simp only [e2, if_true, Nat.reduceAdd, Nat.reduceEqDiff, if_false, Nat.add_zero, Nat.add_assoc] at hj0 ⊢
          exact hj0) (by
      unfold f_X11_cutsOf_l34
      dsimp only
      simp (disch := omega) only [bind_s, sum_l, sum_r, chkin, lit, nI_add, pk_mul, nI_clamp, nI_leI, nI_ltI, nI_eqI, nI_or, and1, shl1, shrx, nI_subx, pk_divx, pk_remx, nmod, nzx, if_tt, if_ff, bz_n1, bz_n0, nm1, nm2, wI_p, wI_inj, wI_n, nI_w, wI_ltI, wI_leI, nI_ltw, nI_lew, reduceIte]
      rfl)
    simp only [if_true, Nat.add_zero] at w
    unfold f_X11_cutsOf_l21
    dsimp only
    simp (disch := omega) only [bind_s, sum_l, sum_r, chkin, lit, nI_add, pk_mul, nI_clamp, nI_leI, nI_ltI, nI_eqI, nI_or, and1, shl1, shrx, nI_subx, pk_divx, pk_remx, nmod, nzx, if_tt, if_ff, bz_n1, bz_n0, nm1, nm2, wI_p, wI_inj, wI_n, nI_w, wI_ltI, wI_leI, nI_ltw, nI_lew, reduceIte, cellsR_eq hR2 h0, w]) (by
    unfold f_X11_cutsOf_l21
    dsimp only
    simp (disch := omega) only [bind_s, sum_l, sum_r, chkin, lit, nI_add, pk_mul, nI_clamp, nI_leI, nI_ltI, nI_eqI, nI_or, and1, shl1, shrx, nI_subx, pk_divx, pk_remx, nmod, nzx, if_tt, if_ff, bz_n1, bz_n0, nm1, nm2, wI_p, wI_inj, wI_n, nI_w, wI_ltI, wI_leI, nI_ltw, nI_lew, reduceIte, cellsR_eq hR2 h0])
  have e0 : (nI (sm (cutr R s m q) 0), nI 0) = (nI 0, nI 0) := rfl
  rw [e0] at this
  have e9 : R (3 + s) = sc R s := rfl
  simp (disch := omega) only [bind_s, sum_l, sum_r, chkin, lit, nI_add, pk_mul, nI_clamp, nI_leI, nI_ltI, nI_eqI, nI_or, and1, shl1, shrx, nI_subx, pk_divx, pk_remx, nmod, nzx, if_tt, if_ff, bz_n1, bz_n0, nm1, nm2, wI_p, wI_inj, wI_n, nI_w, wI_ltI, wI_leI, nI_ltw, nI_lew, reduceIte, g1, hR2, rwN_a, e9, this]
