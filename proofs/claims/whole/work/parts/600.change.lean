/-! PURE FACTS, 19: the reference changes its row -/
variable {k : Nat} {R : Nat → Nat} {σ : St}
theorem upR (hR : σ 102 = rwN R) (i v : Nat) : up σ 102 i (nI v) = upA σ 102 (rwN (updN R i v)) := by
  unfold up
  rw [hR, upd_rw]
theorem up_upR (R : Nat → Nat) (σ : St) (i v : Nat) : up (upA σ 102 (rwN R)) 102 i (nI v) = upA σ 102 (rwN (updN R i v)) := by
  rw [up_upA, upd_rw]
theorem upA_R (R : Nat → Nat) (σ : St) : (upA σ 102 (rwN R)) 102 = rwN R := upA_same ..
theorem makesShape_eq (hR : σ 102 = rwN R) (h1 : R 1 < 8) (c r m u st : Nat) : f_X11_makesShape (nI c) (nI r) (nI m) (nI u) (nI st) σ = some (nI (R 1), upA σ 102 (rwN (rShape R c r m u st))) := by
  unfold f_X11_makesShape f_X11_makesShape_0
  simp (disch := omega) only [bind_s, sum_l, sum_r, chkin, lit, nI_add, pk_mul, nI_clamp, nI_leI, nI_ltI, nI_eqI, nI_or, and1, shl1, shrx, nI_subx, pk_divx, pk_remx, nmod, nzx, if_tt, if_ff, bz_n1, bz_n0, nm1, nm2, wI_p, wI_inj, wI_n, nI_w, wI_ltI, wI_leI, nI_ltw, nI_lew, reduceIte, hR, rwN_a, upR hR, up_upR]
  congr 4
  funext i
  unfold updN rShape
  ((repeat' split) <;> first | rfl | omega | (congr 1; omega))
theorem makesSheet_eq (hR : σ 102 = rwN R) (h1 : R 0 < 6) (c r g : Nat) : f_X11_makesSheet (nI c) (nI r) (nI g) σ = some (nI (R 0), upA σ 102 (rwN (rSheet R c r g (fun _ => 1)))) := by
  unfold f_X11_makesSheet f_X11_makesSheet_0
  have e : up (up (up (up σ 102 0 (nI (R 0 + 1))) 102 (3 + R 0) (nI c)) 102 (9 + R 0) (nI r)) 102 (15 + R 0) (nI g) = upA σ 102 (rwN (updN (updN (updN (updN R 0 (R 0 + 1)) (3 + R 0) c) (9 + R 0) r) (15 + R 0) g)) := by
    rw [upR hR, up_upR, up_upR, up_upR]
  have h2 := copy_eq (f := f_X11_makesSheet_l53 (nI (R 0))) (up (up (up (up σ 102 0 (nI (R 0 + 1))) 102 (3 + R 0) (nI c)) 102 (9 + R 0) (nI r)) 102 (15 + R 0) (nI g)) 102 (21 + 100 * R 0) 100 (fun _ => nI 1) (by decide) (fun i hi τ _ => by
    unfold f_X11_makesSheet_l53
    dsimp only
    simp (disch := omega) only [bind_s, sum_l, sum_r, chkin, lit, nI_add, pk_mul, nI_clamp, nI_leI, nI_ltI, nI_eqI, nI_or, and1, shl1, shrx, nI_subx, pk_divx, pk_remx, nmod, nzx, if_tt, if_ff, bz_n1, bz_n0, nm1, nm2, wI_p, wI_inj, wI_n, nI_w, wI_ltI, wI_leI, nI_ltw, nI_lew, reduceIte]) (fun τ => by
    unfold f_X11_makesSheet_l53
    dsimp only
    simp (disch := omega) only [bind_s, sum_l, sum_r, chkin, lit, nI_add, pk_mul, nI_clamp, nI_leI, nI_ltI, nI_eqI, nI_or, and1, shl1, shrx, nI_subx, pk_divx, pk_remx, nmod, nzx, if_tt, if_ff, bz_n1, bz_n0, nm1, nm2, wI_p, wI_inj, wI_n, nI_w, wI_ltI, wI_leI, nI_ltw, nI_lew, reduceIte])
  rw [e, upA_upA, upA_R] at h2
  rw [show (0 : Int32) = nI 0 from rfl] at h2
  simp (disch := omega) only [bind_s, sum_l, sum_r, chkin, lit, nI_add, pk_mul, nI_clamp, nI_leI, nI_ltI, nI_eqI, nI_or, and1, shl1, shrx, nI_subx, pk_divx, pk_remx, nmod, nzx, if_tt, if_ff, bz_n1, bz_n0, nm1, nm2, wI_p, wI_inj, wI_n, nI_w, wI_ltI, wI_leI, nI_ltw, nI_lew, reduceIte, hR, rwN_a, upR hR, up_upR, h2]
  congr 3
  funext i
  simp only [blk, rwN, updN, rSheet]
  by_cases e1 : 21 + 100 * R 0 ≤ i ∧ i < 21 + 100 * R 0 + 100
  · rw [if_pos e1, if_neg (by omega), if_neg (by omega), if_neg (by omega), if_neg (by omega), if_pos (by omega)]
  · rw [if_neg e1]
    congr 1
    ((repeat' split) <;> first | rfl | omega | (congr 1; omega))
theorem places_eq (hR : σ 102 = rwN R) {h s x y t : Nat} (h2 : R 2 < 20) (hh : h < 8) (hst : 1 ≤ R (653 + h)) : f_X11_places (nI h) (nI s) (nI x) (nI y) (nI t) σ = some (nI (R 2), upA σ 102 (rwN (rPart R h s x y t))) := by
  have e : up (up (up (up (up (up σ 102 2 (nI (R 2 + 1))) 102 (661 + R 2) (nI h)) 102 (681 + R 2) (nI s)) 102 (701 + R 2) (nI x)) 102 (721 + R 2) (nI y)) 102 (741 + R 2) (nI t) = upA σ 102 (rwN (updN (updN (updN (updN (updN (updN R 2 (R 2 + 1)) (661 + R 2) h) (681 + R 2) s) (701 + R 2) x) (721 + R 2) y) (741 + R 2) t)) := by
    rw [upR hR, up_upR, up_upR, up_upR, up_upR, up_upR]
  have e2 : updN (updN (updN (updN (updN (updN R 2 (R 2 + 1)) (661 + R 2) h) (681 + R 2) s) (701 + R 2) x) (721 + R 2) y) (741 + R 2) t (653 + h) = R (653 + h) := by
    unfold updN
    ((repeat' split) <;> first | rfl | omega | (congr 1; omega))
  have e3 : nI (R (653 + h)) - nI 1 = nI (R (653 + h) - 1) := nI_subx hst
  unfold f_X11_places f_X11_places_0
  simp (disch := omega) only [bind_s, sum_l, sum_r, chkin, lit, nI_add, pk_mul, nI_clamp, nI_leI, nI_ltI, nI_eqI, nI_or, and1, shl1, shrx, nI_subx, pk_divx, pk_remx, nmod, nzx, if_tt, if_ff, bz_n1, bz_n0, nm1, nm2, wI_p, wI_inj, wI_n, nI_w, wI_ltI, wI_leI, nI_ltw, nI_lew, reduceIte, hR, rwN_a, upR hR, up_upR, upA_R, e2]
  congr 4
  funext i
  unfold updN rPart
  ((repeat' split) <;> first | rfl | omega | (congr 1; omega))
