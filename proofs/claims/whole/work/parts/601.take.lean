/-! PURE FACTS, 20: the reference takes a part -/
variable {k : Nat} {R : Nat → Nat} {σ : St}
def tkN (R : Nat → Nat) (p m : Nat) : Nat → Nat := fun i => if i = 2 then R 2 - 1 else if i = 653 + R (661 + p) then min 99 (R (653 + R (661 + p)) + 1) else if 661 + p ≤ i ∧ i < 661 + m then R (i + 1) else if 681 + p ≤ i ∧ i < 681 + m then R (i + 1) else if 701 + p ≤ i ∧ i < 701 + m then R (i + 1) else if 721 + p ≤ i ∧ i < 721 + m then R (i + 1) else if 741 + p ≤ i ∧ i < 741 + m then R (i + 1) else R i
theorem tkN_r (R : Nat → Nat) (p : Nat) : tkN R p (R 2 - 1) = rTake R p := by
  funext i
  unfold tkN rTake shf
  by_cases e2 : i = 2
  · rw [if_pos e2, if_pos e2]
  rw [if_neg e2, if_neg e2]
  by_cases e3 : i = 653 + R (661 + p)
  · rw [if_pos e3, if_pos e3]
  rw [if_neg e3, if_neg e3]
  simp only [Bool.or_eq_true, Bool.and_eq_true, decide_eq_true_eq]
  repeat' split
  all_goals first | rfl | omega
theorem tkN_v (G : Good R) {p m b : Nat} (hp : p < R 2) (hm : m < R 2 - 1) (hb : b = 661 ∨ b = 681 ∨ b = 701 ∨ b = 721 ∨ b = 741) : tkN R p m (b + m + 1) = R (b + m + 1) := by
  have g2 := G.2.2.1
  have hP := GP G hp
  unfold tkN
  rw [if_neg (by omega), if_neg (by omega), if_neg (by omega), if_neg (by omega), if_neg (by omega), if_neg (by omega), if_neg (by omega)]
theorem tkN_s (G : Good R) {p m : Nat} (hp : p < R 2) (hpm : p ≤ m) (hm : m < R 2 - 1) : updN (updN (updN (updN (updN (tkN R p m) (661 + m) (R (661 + m + 1))) (681 + m) (R (681 + m + 1))) (701 + m) (R (701 + m + 1))) (721 + m) (R (721 + m + 1))) (741 + m) (R (741 + m + 1)) = tkN R p (m + 1) := by
  have g2 := G.2.2.1
  have hP := GP G hp
  funext i
  simp only [updN]
  by_cases e1 : i = 741 + m
  · subst e1; unfold tkN; rw [if_pos rfl, if_neg (by omega), if_neg (by omega), if_neg (by omega), if_neg (by omega), if_neg (by omega), if_neg (by omega), if_pos (by omega)]
  rw [if_neg e1]
  by_cases e2 : i = 721 + m
  · subst e2; unfold tkN; rw [if_pos rfl, if_neg (by omega), if_neg (by omega), if_neg (by omega), if_neg (by omega), if_neg (by omega), if_pos (by omega)]
  rw [if_neg e2]
  by_cases e3 : i = 701 + m
  · subst e3; unfold tkN; rw [if_pos rfl, if_neg (by omega), if_neg (by omega), if_neg (by omega), if_neg (by omega), if_pos (by omega)]
  rw [if_neg e3]
  by_cases e4 : i = 681 + m
  · subst e4; unfold tkN; rw [if_pos rfl, if_neg (by omega), if_neg (by omega), if_neg (by omega), if_pos (by omega)]
  rw [if_neg e4]
  by_cases e5 : i = 661 + m
  · subst e5; unfold tkN; rw [if_pos rfl, if_neg (by omega), if_neg (by omega), if_pos (by omega)]
  rw [if_neg e5]
  unfold tkN
  have q : ∀ b, i ≠ b + m → (b + p ≤ i ∧ i < b + m) = (b + p ≤ i ∧ i < b + (m + 1)) := fun b hb => by
    apply propext
    omega
  simp only [q 661 e5, q 681 e4, q 701 e3, q 721 e2, q 741 e1]
theorem takeR_eq (hR : σ 102 = rwN R) (G : Good R) {p s0 : Nat} (hp : p < R 2) (hs0 : R (653 + R (661 + p)) + s0 = min 99 (R (653 + R (661 + p)) + 1)) : f_X11_take_j65 (nI p) (nI s0) (nI (R (653 + R (661 + p)))) (nI (653 + R (661 + p))) σ = some (nI (R 2 - 1), upA σ 102 (rwN (rTake R p))) := by
  have g2 := G.2.2.1
  have hP := GP G hp
  unfold f_X11_take_j65
  have e1 : updN R (653 + R (661 + p)) (min 99 (R (653 + R (661 + p)) + 1)) 2 = R 2 := updN_n _ _ (by omega)
  have e2 : updN (updN R (653 + R (661 + p)) (min 99 (R (653 + R (661 + p)) + 1))) 2 (R 2 - 1) = tkN R p p := by
    funext i
    unfold updN tkN
    ((repeat' split) <;> first | rfl | omega | (congr 1; omega))
  have h := lp_ex (f := f_X11_take_l79) (fun i => (nI (p + i), upA σ 102 (rwN (tkN R p (p + i))))) (upA σ 102 (rwN (rTake R p))) (R 2 - 1 - p) (by omega) (fun i hi => by
    have hm : p + i < R 2 - 1 := by omega
    have v2 : tkN R p (p + i) 2 = R 2 - 1 := rfl
    have v661 := tkN_v (b := 661) G hp hm (by omega)
    have v681 := tkN_v (b := 681) G hp hm (by omega)
    have v701 := tkN_v (b := 701) G hp hm (by omega)
    have v721 := tkN_v (b := 721) G hp hm (by omega)
    have v741 := tkN_v (b := 741) G hp hm (by omega)
    have w := tkN_s G hp (show p ≤ p + i by omega) hm
    unfold f_X11_take_l79
    dsimp only
    simp (disch := omega) only [bind_s, sum_l, sum_r, chkin, lit, nI_add, pk_mul, nI_clamp, nI_leI, nI_ltI, nI_eqI, nI_or, and1, shl1, shrx, nI_subx, pk_divx, pk_remx, nmod, nzx, if_tt, if_ff, bz_n1, bz_n0, nm1, nm2, wI_p, wI_inj, wI_n, nI_w, wI_ltI, wI_leI, nI_ltw, nI_lew, reduceIte, upA_R, rwN_a, up_upR, updN_n, v2, v661, v681, v701, v721, v741, w]
    rfl) (by
    have v2 : tkN R p (p + (R 2 - 1 - p)) 2 = R 2 - 1 := rfl
    unfold f_X11_take_l79
    dsimp only
    simp (disch := omega) only [bind_s, sum_l, sum_r, chkin, lit, nI_add, pk_mul, nI_clamp, nI_leI, nI_ltI, nI_eqI, nI_or, and1, shl1, shrx, nI_subx, pk_divx, pk_remx, nmod, nzx, if_tt, if_ff, bz_n1, bz_n0, nm1, nm2, wI_p, wI_inj, wI_n, nI_w, wI_ltI, wI_leI, nI_ltw, nI_lew, reduceIte, upA_R, rwN_a, v2]
    rw [show p + (R 2 - 1 - p) = R 2 - 1 by omega, tkN_r])
  rw [Nat.add_zero] at h
  have v3 : rTake R p 2 = R 2 - 1 := (rTake_n G hp).1
  rw [← hs0] at e1 e2
  simp (disch := omega) only [bind_s, sum_l, sum_r, chkin, lit, nI_add, pk_mul, nI_clamp, nI_leI, nI_ltI, nI_eqI, nI_or, and1, shl1, shrx, nI_subx, pk_divx, pk_remx, nmod, nzx, if_tt, if_ff, bz_n1, bz_n0, nm1, nm2, wI_p, wI_inj, wI_n, nI_w, wI_ltI, wI_leI, nI_ltw, nI_lew, reduceIte, upR hR, up_upR, upA_R, rwN_a, e1, e2, h, v3]
