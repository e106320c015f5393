/-! PURE FACTS, 58: a remnant becomes a sheet, the reference's -/
variable {R : Nat → Nat} {σ τ : St} {s g L T cols rows : Nat} {f : Nat → Nat}
theorem keepR_eq (hR : σ 102 = rwN R) (G : Good R) (h0 : R 0 < 6) (hs : s < R 0) (hg : g < 500) (hf : ∀ c, c < sc R s * sr R s → f c < 1000) (h112 : ∀ c, c < sc R s * sr R s → σ 112 c = wI (gc (f c))) (v26 : σ 101 26 = nI L) (v28 : σ 101 28 = nI T) (hc2 : cols ≤ 10) (hbox : ∀ c, kP (sc R s * sr R s) g f c = true → L ≤ c % sc R s ∧ T ≤ c / sc R s) (hx : ∀ c, kP (sc R s * sr R s) g f c = true → kx (sc R s) L T cols c < 100) : f_X11_keep_j119 (nI s) (nI g) (nI rows) (nI cols) σ = some (nI (R 0), upA σ 102 (rwN (kp R cols rows (R (15 + s)) s (kP (sc R s * sr R s) g f) (kx (sc R s) L T cols) (sc R s * sr R s)))) := by
  obtain ⟨z0, z1, z2, z3, z4, z5, hn, _⟩ := GS G hs
  generalize hP : kP (sc R s * sr R s) g f = P at *
  have hPc : ∀ c, P c = true ↔ c < sc R s * sr R s ∧ f c = g + 2 := fun c => by rw [← hP]; exact decide_eq_true_iff
  have h2 := copy_eq (f := f_X11_keep_l136 (nI s) (nI g) (nI (R 0))) (upA σ 102 (rwN (rSheet R cols rows (R (15 + s)) (fun _ => 1)))) 102 (21 + 100 * R 0) 100 (fun _ => nI 0) (by decide) (fun i hi τ _ => by
    unfold f_X11_keep_l136
    dsimp only
    simp (disch := omega) only [bind_s, sum_l, sum_r, chkin, lit, nI_add, pk_mul, nI_clamp, nI_leI, nI_ltI, nI_eqI, nI_or, and1, shl1, shrx, nI_subx, pk_divx, pk_remx, nmod, nzx, if_tt, if_ff, bz_n1, bz_n0, nm1, nm2, wI_p, wI_inj, wI_n, nI_w, wI_ltI, wI_leI, nI_ltw, nI_lew, reduceIte]) (fun τ => by
    unfold f_X11_keep_l136
    dsimp only
    simp (disch := omega) only [bind_s, sum_l, sum_r, chkin, lit, nI_add, pk_mul, nI_clamp, nI_leI, nI_ltI, nI_eqI, nI_or, and1, shl1, shrx, nI_subx, pk_divx, pk_remx, nmod, nzx, if_tt, if_ff, bz_n1, bz_n0, nm1, nm2, wI_p, wI_inj, wI_n, nI_w, wI_ltI, wI_leI, nI_ltw, nI_lew, reduceIte])
  rw [upA_upA, upA_R] at h2
  rw [show blk (21 + 100 * R 0) 100 (fun _ => nI 0) (rwN (rSheet R cols rows (R (15 + s)) (fun _ => 1))) = rwN (kp R cols rows (R (15 + s)) s P (kx (sc R s) L T cols) 0) by
    rw [kp_0 h0 hs]
    funext i
    simp only [blk, rwN, rSheet]
    by_cases e1 : 21 + 100 * R 0 ≤ i ∧ i < 21 + 100 * R 0 + 100
    · rw [if_pos e1, if_neg (by omega), if_neg (by omega), if_neg (by omega), if_neg (by omega), if_pos (by omega)]
    · rw [if_neg e1]
      congr 1
      ((repeat' split) <;> first | rfl | omega | (congr 1; omega))] at h2
  have h3 := lp_ex (f := f_X11_keep_l169 (nI s) (nI g) (nI (R 0))) (fun i => (nI i, upA σ 102 (rwN (kp R cols rows (R (15 + s)) s P (kx (sc R s) L T cols) i)))) (upA σ 102 (rwN (kp R cols rows (R (15 + s)) s P (kx (sc R s) L T cols) (sc R s * sr R s)))) (sc R s * sr R s) (by omega) (fun i hi => by
    obtain ⟨k1, k2, k3, k4⟩ := kp_lo (c := cols) (r := rows) (g := R (15 + s)) (P := P) (x := kx (sc R s) L T cols) (i := i) h0 hs
    have hrow : (upA σ 102 (rwN (kp R cols rows (R (15 + s)) s P (kx (sc R s) L T cols) i))) 112 i = wI (gc (f i)) := by rw [upA_ne _ _ (by decide)]; exact h112 i hi
    have hcl := cellsR_eq (R := kp R cols rows (R (15 + s)) s P (kx (sc R s) L T cols) i) (σ := upA σ 102 (rwN (kp R cols rows (R (15 + s)) s P (kx (sc R s) L T cols) i))) (s := s) (upA_same ..) z0
    rw [show sc (kp R cols rows (R (15 + s)) s P (kx (sc R s) L T cols) i) s = sc R s from k2, show sr (kp R cols rows (R (15 + s)) s P (kx (sc R s) L T cols) i) s = sr R s from k3] at hcl
    have hgl : gc (f i) < 1000 := gc_lt (hf i hi) (by decide)
    have hgn := gc_n (v := f i) (g := g)
    have w3 : rwN (kp R cols rows (R (15 + s)) s P (kx (sc R s) L T cols) i) (3 + s) = nI (sc R s) := congrArg nI k2
    have w4 : rwN (kp R cols rows (R (15 + s)) s P (kx (sc R s) L T cols) i) (3 + R 0) = nI cols := congrArg nI k4
    have u26 : (upA σ 102 (rwN (kp R cols rows (R (15 + s)) s P (kx (sc R s) L T cols) i))) 101 26 = nI L := by rw [upA_ne _ _ (by decide), v26]
    have u28 : (upA σ 102 (rwN (kp R cols rows (R (15 + s)) s P (kx (sc R s) L T cols) i))) 101 28 = nI T := by rw [upA_ne _ _ (by decide), v28]
    by_cases e : f i = g + 2
    · have hp := (hPc i).mpr ⟨hi, e⟩
      have e3 := hgn.mpr e
      obtain ⟨b1, b2⟩ := hbox i hp
      have hk := hx i hp
      have hm := Nat.mod_lt i (show sc R s > 0 by omega)
      have hd := Nat.div_lt_of_lt_mul hi
      have st := kp_s (c := cols) (r := rows) (g := R (15 + s)) h0 hs hp hk (show i < 100 by omega)
      have hat : f_X11_at (nI cols) (nI (i % sc R s) - nI L) (nI (i / sc R s) - nI T) = some (nI (kx (sc R s) L T cols i)) := by
        rw [nI_subx b1, nI_subx b2, at_eq]
        unfold kx
        rw [Nat.add_comm]
      have erem : nI i - nI i / nI (sc R s) * nI (sc R s) = nI (i % sc R s) := pk_rem (by omega) (by omega) (by omega)
      have ediv : nI i / nI (sc R s) = nI (i / sc R s) := pk_div (by omega) (by omega) (by omega)
      rw [ediv, pk_mul] at erem
      unfold f_X11_keep_l169 f_X11_keep_j273
      dsimp only
      rw [hcl, bind_s, if_neg (nI_ge hi (by omega)), chkin (by omega) (by omega), nI_clamp (by omega), if_pos (show (upA σ 102 (rwN (kp R cols rows (R (15 + s)) s P (kx (sc R s) L T cols) i))) 112 i = nI g by rw [hrow, e3, wI_p])]
      simp (disch := omega) only [lit, nI_add, chkin, nI_clamp, upA_R, w3, w4, nzx, erem, ediv, u26, u28, hat, bind_s, pk_mul, up_upR, st]
    · have hp : ¬ P i = true := fun h => e ((hPc i).mp h).2
      have e3 : ¬ gc (f i) = g + 2 := fun h => e (hgn.mp h)
      rw [← kp_n hp]
      unfold f_X11_keep_l169 f_X11_keep_j273
      dsimp only
      simp (disch := omega) only [bind_s, sum_l, sum_r, chkin, lit, nI_add, pk_mul, nI_clamp, nI_leI, nI_ltI, nI_eqI, nI_or, and1, shl1, shrx, nI_subx, pk_divx, pk_remx, nmod, nzx, if_tt, if_ff, bz_n1, bz_n0, nm1, nm2, wI_p, wI_inj, wI_n, nI_w, wI_ltI, wI_leI, nI_ltw, nI_lew, reduceIte, hcl, hrow, e3, if_false]) (by
    obtain ⟨k1, k2, k3, k4⟩ := kp_lo (c := cols) (r := rows) (g := R (15 + s)) (P := P) (x := kx (sc R s) L T cols) (i := sc R s * sr R s) h0 hs
    have hcl := cellsR_eq (R := kp R cols rows (R (15 + s)) s P (kx (sc R s) L T cols) (sc R s * sr R s)) (σ := upA σ 102 (rwN (kp R cols rows (R (15 + s)) s P (kx (sc R s) L T cols) (sc R s * sr R s)))) (s := s) (upA_same ..) z0
    rw [show sc (kp R cols rows (R (15 + s)) s P (kx (sc R s) L T cols) (sc R s * sr R s)) s = sc R s from k2, show sr (kp R cols rows (R (15 + s)) s P (kx (sc R s) L T cols) (sc R s * sr R s)) s = sr R s from k3] at hcl
    unfold f_X11_keep_l169
    dsimp only
    simp (disch := omega) only [bind_s, sum_l, sum_r, chkin, lit, nI_add, pk_mul, nI_clamp, nI_leI, nI_ltI, nI_eqI, nI_or, and1, shl1, shrx, nI_subx, pk_divx, pk_remx, nmod, nzx, if_tt, if_ff, bz_n1, bz_n0, nm1, nm2, wI_p, wI_inj, wI_n, nI_w, wI_ltI, wI_leI, nI_ltw, nI_lew, reduceIte, hcl])
  rw [show (0 : Int32) = nI 0 from rfl] at h2
  unfold f_X11_keep_j119
  simp (disch := omega) only [bind_s, sum_l, sum_r, chkin, lit, nI_add, pk_mul, nI_clamp, nI_leI, nI_ltI, nI_eqI, nI_or, and1, shl1, shrx, nI_subx, pk_divx, pk_remx, nmod, nzx, if_tt, if_ff, bz_n1, bz_n0, nm1, nm2, wI_p, wI_inj, wI_n, nI_w, wI_ltI, wI_leI, nI_ltw, nI_lew, reduceIte, hR, rwN_a, makesSheet_eq hR h0, h2, h3]
