/-! PURE FACTS, 31: undo, snapshots, counts -/
variable {k n len nr nf : Nat} {R V tx : Nat → Nat} {H : Nat → Nat → Nat} {hv : Bool} {rk rp fk fp : Nat → Int32} {σ τ : St}
theorem row_eq {A : Nat → Nat} {f : Nat → Int32} (h : ∀ i, i < 761 → f i = nI (A i)) (hA : ∀ i, 761 ≤ i → A i = 0) (hB : ∀ i, 761 ≤ i → R i = 0) : blk 0 761 f (rwN R) = rwN A := by
  funext i
  by_cases e : i < 761
  · rw [blk_in (by omega) (by omega), Nat.sub_zero, h i e]; rfl
  · rw [blk_out (by omega), rwN_a, rwN_a, hB i (by omega), hA i (by omega)]
theorem call_undo (I : Inv σ) : Step f_L_undo f_X11_undo σ := by
  have I0 := I
  obtain ⟨R, n, H, hv, V, len, tx, nr, rk, rp, nf, fk, fp, G, S, c, cx, r, rx⟩ := I
  have C := c
  obtain ⟨c1, c2, c3, ⟨nx, c4⟩, c5, c6⟩ := c
  obtain ⟨r1, r2, r3, r4, r5⟩ := r
  have hn := S.1
  cases n with
  | zero =>
    refine step_no I0 (L_undo_1 ?_) (by decide) ?_
    · unfold f_X10_undo f_X10_undo_0 f_X2_size f_X2_size_0
      rw [c4.2.2.2.1]
      rfl
    · unfold f_X11_undo f_X11_undo_0
      rw [up_j _ _ _ (by decide), r2]
      simp (disch := omega) only [bind_s, sum_l, sum_r, chkin, lit, nI_add, pk_mul, nI_clamp, nI_leI, nI_ltI, nI_eqI, nI_or, and1, shl1, shrx, nI_subx, pk_divx, pk_remx, nmod, nzx, if_tt, if_ff, bz_n1, bz_n0, nm1, nm2, wI_p, wI_inj, wI_n, nI_w, wI_ltI, wI_leI, nI_ltw, nI_lew, reduceIte, fails_eq]
  | succ n =>
    obtain ⟨τ, p1, p2, p3, p4⟩ := pop_eq (ShK_of c1) c4
    have hf : f_L_undo σ = some (nI 0, up τ 122 0 (nI n)) := by
      refine L_undo_0 ?_
      unfold f_X10_undo f_X10_undo_0 f_X2_size f_X2_size_0
      rw [c4.2.2.2.1]
      have e : τ 78 2 = nI n := p3.2.2.2.1
      simp (disch := omega) only [bind_s, sum_l, sum_r, chkin, lit, nI_add, pk_mul, nI_clamp, nI_leI, nI_ltI, nI_eqI, nI_or, and1, shl1, shrx, nI_subx, pk_divx, pk_remx, nmod, nzx, if_tt, if_ff, bz_n1, bz_n0, nm1, nm2, wI_p, wI_inj, wI_n, nI_w, wI_ltI, wI_leI, nI_ltw, nI_lew, reduceIte, p1, e]
    have G' := (c4.2.2.2.2.2 0 (by omega)).2
    have d : ∀ a, a < 2 ∨ (7 < a ∧ a ≠ 78 ∧ a ≠ 122) → (up τ 122 0 (nI n)) a = σ a := fun a h => by rw [up_k _ _ _ (by omega), p4 a (by omega)]
    generalize hυ : up τ 122 0 (nI n) = υ at *
    generalize hυ2 : upA (up (up υ 101 0 (nI 0)) 101 5 (nI n)) 102 (rwN (H 0)) = υ2
    have hg : f_X11_undo υ = some (nI n, υ2) := by
      have e5 : υ 101 5 = nI (n + 1) := by rw [d 101 (by omega), r2]
      have hc := copy_eq (f := f_X11_undo_l30) (up (up υ 101 0 (nI 0)) 101 5 (nI n)) 102 0 761 (fun i => υ 105 (761 * n + i)) (by decide) (fun i hi τ' e => by
        have e1 : τ' 101 5 = nI n := by rw [e, upA_ne _ _ (by decide), up_s]
        have e2 : τ' 105 = υ 105 := by rw [e, upA_ne _ _ (by decide), up_k _ _ _ (by decide), up_k _ _ _ (by decide)]
        unfold f_X11_undo_l30
        dsimp only
        rw [e1, e2]
        simp (disch := omega) only [bind_s, sum_l, sum_r, chkin, lit, nI_add, pk_mul, nI_clamp, nI_leI, nI_ltI, nI_eqI, nI_or, and1, shl1, shrx, nI_subx, pk_divx, pk_remx, nmod, nzx, if_tt, if_ff, bz_n1, bz_n0, nm1, nm2, wI_p, wI_inj, wI_n, nI_w, wI_ltI, wI_leI, nI_ltw, nI_lew, reduceIte, Nat.zero_add]) (fun τ' => by
        unfold f_X11_undo_l30
        dsimp only
        simp (disch := omega) only [bind_s, sum_l, sum_r, chkin, lit, nI_add, pk_mul, nI_clamp, nI_leI, nI_ltI, nI_eqI, nI_or, and1, shl1, shrx, nI_subx, pk_divx, pk_remx, nmod, nzx, if_tt, if_ff, bz_n1, bz_n0, nm1, nm2, wI_p, wI_inj, wI_n, nI_w, wI_ltI, wI_leI, nI_ltw, nI_lew, reduceIte])
      have hb : blk 0 761 (fun i => υ 105 (761 * n + i)) ((up (up υ 101 0 (nI 0)) 101 5 (nI n)) 102) = rwN (H 0) := by
        rw [up_k _ _ _ (by decide), up_k _ _ _ (by decide), d 102 (by omega), r1]
        refine row_eq (fun i hi => ?_) G'.2.2.2.2.2.2.2 G.2.2.2.2.2.2.2
        rw [d 105 (by omega), ← r3 0 (by omega) i hi]
        congr 1
      rw [hb, hυ2] at hc
      have e9 : υ2 101 5 = nI n := by rw [← hυ2, upA_ne _ _ (by decide), up_s]
      unfold f_X11_undo f_X11_undo_0
      rw [up_j _ _ _ (by decide), e5]
      rw [show (0 : Int32) = nI 0 from rfl] at hc ⊢
      simp (disch := omega) only [bind_s, sum_l, sum_r, chkin, lit, nI_add, pk_mul, nI_clamp, nI_leI, nI_ltI, nI_eqI, nI_or, and1, shl1, shrx, nI_subx, pk_divx, pk_remx, nmod, nzx, if_tt, if_ff, bz_n1, bz_n0, nm1, nm2, wI_p, wI_inj, wI_n, nI_w, wI_ltI, wI_leI, nI_ltw, nI_lew, reduceIte, Nat.add_sub_cancel, hc, e9]
    have d2 : ∀ a, a ≠ 101 → a ≠ 102 → υ2 a = υ a := fun a h1 h2 => by rw [← hυ2, upA_ne _ _ h2, up_k _ _ _ h1, up_k _ _ _ h1]
    have d3 : ∀ j, j ≠ 0 → j ≠ 5 → υ2 101 j = υ 101 j := fun j h1 h2 => by rw [← hυ2, upA_ne _ _ (by decide), up_j _ _ _ h2, up_j _ _ _ h1]
    refine ⟨nI 0, υ, nI n, υ2, hf, hg, ?_, fun _ => ?_, H 0, n, fun i => H (i + 1), hv, V, len, tx, nr, rk, rp, nf, fk, fp, G', ⟨by omega, S.2⟩, ?_, ?_, ⟨?_, ?_, fun j hj i hi => ?_, ?_, fun q i hi => ?_⟩, ?_⟩
    · rw [← hυ2, upA_ne _ _ (by decide), up_j _ _ _ (by decide), up_s]
    · rw [d2 122 (by decide) (by decide), ← hυ, up_s]
    · have q : ∀ a, a ≤ 78 → υ2 a = τ a := fun a h => by rw [d2 a (by omega) (by omega), ← hυ, up_k _ _ _ (by omega)]
      exact ⟨ShR_c (fun a _ _ => q a (by omega)) p2, ShK_c (fun a _ _ => by rw [q a (by omega), p4 a (by omega)]) c2, ShK_c (fun a _ _ => by rw [q a (by omega), p4 a (by omega)]) c3, ⟨_, Ring_c (fun a _ _ => q a (by omega)) p3⟩, by rw [q 0 (by omega), p4 0 (by omega)]; exact c5, fun e => ⟨ShR_c (fun a _ _ => by rw [q a (by omega), p4 a (by omega)]) (c6 e).1, (c6 e).2⟩⟩
    · exact CX_c (fun a h => by rw [d2 a (by omega) (by omega), d a (by omega)]) cx
    · rw [← hυ2, upA_same]
    · rw [← hυ2, upA_ne _ _ (by decide), up_s]
    · rw [d2 105 (by decide) (by decide), d 105 (by omega), ← r3 (j + 1) (by omega) i hi]
      congr 1
      omega
    · rw [d3 6 (by decide) (by decide), d 101 (by omega), r4]
    · rw [d2 103 (by decide) (by decide), d 103 (by omega), r5 q i hi]
    · exact RX_c (fun a h => by rw [d2 a (by omega) (by omega), d a (by omega)]) (fun j h => by rw [d3 j (by omega) (by omega), d 101 (by omega)]) rx
theorem call_save (I : Inv σ) : Step0 f_X10_saveSnapshot f_X11_saveSnapshot σ := by
  obtain ⟨R, n, H, hv, V, len, tx, nr, rk, rp, nf, fk, fp, G, S, c, cx, r, rx⟩ := I
  obtain ⟨c1, c2, c3, ⟨nx, c4⟩, c5, c6⟩ := c
  obtain ⟨r1, r2, r3, r4, r5⟩ := r
  obtain ⟨τ, p1, p2, p3⟩ := shopcopy_eq (d := 15) c1 G c3 (by omega)
  have hf : f_X10_saveSnapshot σ = some (nI (R 2), up τ 0 11 1) := by
    unfold f_X10_saveSnapshot f_X10_saveSnapshot_0
    have e : f_X9_size 6 (up τ 0 11 1) = some (nI (R 2)) := by
      rw [size_eq, up_k _ _ _ (by decide), p3 6 (by omega)]
      exact congrArg some c1.2.1.2.2.2.2.2
    rw [p1, bind_s, e]
    rfl
  have d : ∀ a, a ≠ 0 → (a < 16 ∨ 21 < a) → (up τ 0 11 1) a = σ a := fun a h1 h2 => by rw [up_k _ _ _ h1, p3 a (by omega)]
  have hg := saveR_eq (up τ 0 11 1)
  rw [d 102 (by decide) (by decide), d 103 (by decide) (by decide), r1] at hg
  generalize hυ : up (upA (up (up τ 0 11 1) 101 0 0) 103 (blk 0 761 (rwN R) (σ 103))) 101 6 1 = υ at hg
  have d2 : ∀ a, a ≠ 101 → a ≠ 103 → υ a = (up τ 0 11 1) a := fun a h1 h2 => by rw [← hυ, up_k _ _ _ h1, upA_ne _ _ h2, up_k _ _ _ h1]
  have d3 : ∀ j, j ≠ 0 → j ≠ 6 → υ 101 j = σ 101 j := fun j h1 h2 => by rw [← hυ, up_j _ _ _ h2, upA_ne _ _ (by decide), up_j _ _ _ h1, d 101 (by decide) (by decide)]
  have d4 : ∀ a, a ≠ 101 → a ≠ 103 → a ≠ 0 → (a < 16 ∨ 21 < a) → υ a = σ a := fun a h1 h2 h3 h4 => by rw [d2 a h1 h2, d a h3 h4]
  refine ⟨_, _, _, hf, hg, R, n, H, true, R, len, tx, nr, rk, rp, nf, fk, fp, G, S, ⟨?_, ?_, ?_, ⟨nx, ?_⟩, ?_, fun _ => ⟨?_, G⟩⟩, ?_, ⟨?_, ?_, ?_, ?_, fun _ i hi => ?_⟩, ?_⟩
  · exact ShR_c (fun a _ _ => d4 a (by omega) (by omega) (by omega) (by omega)) c1
  · exact ShK_c (fun a _ _ => d4 a (by omega) (by omega) (by omega) (by omega)) c2
  · exact ShK_c (σ := τ) (fun a _ _ => by rw [d2 a (by omega) (by omega), up_k _ _ _ (by omega)]) (ShK_of p2)
  · exact Ring_c (fun a _ _ => d4 a (by omega) (by omega) (by omega) (by omega)) c4
  · rw [d2 0 (by decide) (by decide), up_s]; rfl
  · exact ShR_c (σ := τ) (fun a _ _ => by rw [d2 a (by omega) (by omega), up_k _ _ _ (by omega)]) p2
  · exact CX_c (fun a h => d4 a (by omega) (by omega) (by omega) (by omega)) cx
  · rw [d4 102 (by decide) (by decide) (by decide) (by decide), r1]
  · rw [d3 5 (by decide) (by decide), r2]
  · rw [d4 105 (by decide) (by decide) (by decide) (by decide)]; exact r3
  · rw [← hυ, up_s]; rfl
  · rw [← hυ, up_k _ _ _ (by decide), upA_same, blk_in (by omega) (by omega)]; rfl
  · exact RX_c (fun a h => d4 a (by omega) (by omega) (by omega) (by omega)) (fun j h => d3 j (by omega) (by omega)) rx
theorem call_restore (I : Inv σ) : Step f_L_restoreSnapshot f_X11_restoreSnapshot σ := by
  have I0 := I
  obtain ⟨R, n, H, hv, V, len, tx, nr, rk, rp, nf, fk, fp, G, S, c, cx, r, rx⟩ := I
  obtain ⟨c1, c2, c3, ⟨nx, c4⟩, c5, c6⟩ := c
  obtain ⟨r1, r2, r3, r4, r5⟩ := r
  cases hv with
  | false =>
    refine step_no I0 (L_restoreSnapshot_1 ?_) (by decide) ?_
    · unfold f_X10_restoreSnapshot f_X10_restoreSnapshot_0
      rw [c5]
      rfl
    · unfold f_X11_restoreSnapshot f_X11_restoreSnapshot_0
      rw [up_j _ _ _ (by decide), r4]
      rfl
  | true =>
    obtain ⟨TV, GV⟩ := c6 rfl
    obtain ⟨τ, p1, p2, p3⟩ := shopcopy_eq (d := 1) TV GV (ShK_of c1) (by omega)
    have hf : f_L_restoreSnapshot σ = some (nI 0, up (up τ 78 2 0) 122 0 (nI (V 2))) := by
      refine L_restoreSnapshot_0 ?_
      have e : f_X9_size 6 (up τ 78 2 0) = some (nI (V 2)) := by
        rw [size_eq, up_k _ _ _ (by decide)]
        exact congrArg some p2.2.1.2.2.2.2.2
      unfold f_X10_restoreSnapshot f_X10_restoreSnapshot_0 f_X2_clear f_X2_clear_0
      rw [c5, if_neg (by decide), p1, bind_s, bind_s, e]
      rfl
    have d : ∀ a, a < 2 ∨ (7 < a ∧ a ≠ 78 ∧ a ≠ 122) → (up (up τ 78 2 0) 122 0 (nI (V 2))) a = σ a := fun a h => by rw [up_k _ _ _ (by omega), up_k _ _ _ (by omega), p3 a (by omega)]
    have dq : ∀ a, a ≤ 77 → (up (up τ 78 2 0) 122 0 (nI (V 2))) a = τ a := fun a h => by rw [up_k _ _ _ (by omega), up_k _ _ _ (by omega)]
    have dn : (up (up τ 78 2 0) 122 0 (nI (V 2))) 78 1 = nI nx ∧ (up (up τ 78 2 0) 122 0 (nI (V 2))) 78 2 = nI 0 := ⟨by rw [up_k _ _ _ (by decide), up_j _ _ _ (by decide), p3 78 (by omega), c4.2.2.1], by rw [up_k _ _ _ (by decide), up_s]; rfl⟩
    have d122 : (up (up τ 78 2 0) 122 0 (nI (V 2))) 122 0 = nI (V 2) := up_s ..
    generalize hυ : up (up τ 78 2 0) 122 0 (nI (V 2)) = υ at *
    generalize hυ2 : up (upA (up υ 101 0 (nI 0)) 102 (rwN V)) 101 5 (nI 0) = υ2
    have hg : f_X11_restoreSnapshot υ = some (nI (V 2), υ2) := by
      have e6 : υ 101 6 = nI 1 := by rw [d 101 (by omega), r4]; rfl
      have hc := copy_eq (f := f_X11_restoreSnapshot_l20) (up υ 101 0 (nI 0)) 102 0 761 (υ 103) (by decide) (fun i hi τ' e => by
        have e2 : τ' 103 = υ 103 := by rw [e, upA_ne _ _ (by decide), up_k _ _ _ (by decide)]
        unfold f_X11_restoreSnapshot_l20
        dsimp only
        rw [e2]
        simp (disch := omega) only [bind_s, sum_l, sum_r, chkin, lit, nI_add, pk_mul, nI_clamp, nI_leI, nI_ltI, nI_eqI, nI_or, and1, shl1, shrx, nI_subx, pk_divx, pk_remx, nmod, nzx, if_tt, if_ff, bz_n1, bz_n0, nm1, nm2, wI_p, wI_inj, wI_n, nI_w, wI_ltI, wI_leI, nI_ltw, nI_lew, reduceIte, Nat.zero_add]) (fun τ' => by
        unfold f_X11_restoreSnapshot_l20
        dsimp only
        simp (disch := omega) only [bind_s, sum_l, sum_r, chkin, lit, nI_add, pk_mul, nI_clamp, nI_leI, nI_ltI, nI_eqI, nI_or, and1, shl1, shrx, nI_subx, pk_divx, pk_remx, nmod, nzx, if_tt, if_ff, bz_n1, bz_n0, nm1, nm2, wI_p, wI_inj, wI_n, nI_w, wI_ltI, wI_leI, nI_ltw, nI_lew, reduceIte])
      have hb : blk 0 761 (υ 103) ((up υ 101 0 (nI 0)) 102) = rwN V := by
        rw [up_k _ _ _ (by decide), d 102 (by omega), r1]
        refine row_eq (fun i hi => ?_) GV.2.2.2.2.2.2.2 G.2.2.2.2.2.2.2
        rw [d 103 (by omega), r5 rfl i hi]
      rw [hb] at hc
      have e9 : υ2 102 2 = nI (V 2) := by rw [← hυ2, up_k _ _ _ (by decide), upA_same]; rfl
      unfold f_X11_restoreSnapshot f_X11_restoreSnapshot_0
      rw [up_j _ _ _ (by decide), e6]
      rw [show (0 : Int32) = nI 0 from rfl] at hc ⊢
      simp (disch := omega) only [bind_s, sum_l, sum_r, chkin, lit, nI_add, pk_mul, nI_clamp, nI_leI, nI_ltI, nI_eqI, nI_or, and1, shl1, shrx, nI_subx, pk_divx, pk_remx, nmod, nzx, if_tt, if_ff, bz_n1, bz_n0, nm1, nm2, wI_p, wI_inj, wI_n, nI_w, wI_ltI, wI_leI, nI_ltw, nI_lew, reduceIte, hc, hυ2, e9]
    have d2 : ∀ a, a ≠ 101 → a ≠ 102 → υ2 a = υ a := fun a h1 h2 => by rw [← hυ2, up_k _ _ _ h1, upA_ne _ _ h2, up_k _ _ _ h1]
    have d3 : ∀ j, j ≠ 0 → j ≠ 5 → υ2 101 j = υ 101 j := fun j h1 h2 => by rw [← hυ2, up_j _ _ _ h2, upA_ne _ _ (by decide), up_j _ _ _ h1]
    have q : ∀ a, a ≤ 77 → υ2 a = τ a := fun a h => by rw [d2 a (by omega) (by omega), dq a h]
    have q2 : ∀ a, a < 2 ∨ (7 < a ∧ a ≤ 77) → υ2 a = σ a := fun a h => by rw [q a (by omega), p3 a (by omega)]
    refine ⟨nI 0, υ, nI (V 2), υ2, hf, hg, ?_, fun _ => ?_, V, 0, H, true, V, len, tx, nr, rk, rp, nf, fk, fp, GV, ⟨by omega, S.2⟩, ⟨?_, ?_, ?_, ⟨nx, c4.1, by omega, ?_, ?_, fun j hj => ?_, fun i hi => absurd hi (Nat.not_lt_zero _)⟩, ?_, fun _ => ⟨?_, GV⟩⟩, ?_, ⟨?_, ?_, fun j hj => absurd hj (Nat.not_lt_zero _), ?_, fun q i hi => ?_⟩, ?_⟩
    · rw [← hυ2, up_j _ _ _ (by decide), upA_ne _ _ (by decide), up_s]
    · rw [d2 122 (by decide) (by decide), d122]
    · exact ShR_c (fun a _ _ => q a (by omega)) p2
    · exact ShK_c (fun a _ _ => q2 a (by omega)) c2
    · exact ShK_c (fun a _ _ => q2 a (by omega)) c3
    · rw [d2 78 (by decide) (by decide), dn.1]
    · rw [d2 78 (by decide) (by decide), dn.2]
    · exact ShK_c (fun a _ _ => q2 a (by omega)) (c4.2.2.2.2.1 j hj)
    · rw [q2 0 (by omega)]; exact c5
    · exact ShR_c (fun a _ _ => q2 a (by omega)) TV
    · exact CX_c (fun a h => by rw [d2 a (by omega) (by omega), d a (by omega)]) cx
    · rw [← hυ2, up_k _ _ _ (by decide), upA_same]
    · rw [← hυ2, up_s]
    · rw [d3 6 (by decide) (by decide), d 101 (by omega), r4]
    · rw [d2 103 (by decide) (by decide), d 103 (by omega), r5 q i hi]
    · exact RX_c (fun a h => by rw [d2 a (by omega) (by omega), d a (by omega)]) (fun j h => by rw [d3 j (by omega) (by omega), d 101 (by omega)]) rx
