/-! PURE FACTS, 30: causes, the input, undo, snapshots -/
variable {k n len nr nf : Nat} {R V tx : Nat → Nat} {H : Nat → Nat → Nat} {hv : Bool} {rk rp fk fp : Nat → Int32} {σ τ : St}
/-- the class's causes at 80 or 83 -/
theorem cause_in {t m : Nat} {kk pp : Nat → Int32} (hl : ln (t + 1) = 3 ∧ ln (t + 2) = 3) (hm : m ≤ 3) (h2 : σ t 2 = nI m) (hk : ∀ i, i < m → σ (t + 1) i = kk i ∧ σ (t + 2) i = pp i) {i : Nat} (hi : i < m) (z : Int32) : f_X10_causeNumber t (nI i) z σ = some (.inr (if z = 0 then kk i else pp i, σ)) := by
  have hh : f_X0_has t (nI i) σ = some (nI 1) := by
    unfold f_X0_has f_X0_has_0
    rw [h2]
    simp (disch := omega) only [bind_s, sum_l, sum_r, chkin, lit, nI_add, pk_mul, nI_clamp, nI_leI, nI_ltI, nI_eqI, nI_or, and1, shl1, shrx, nI_subx, pk_divx, pk_remx, nmod, nzx, if_tt, if_ff, bz_n1, bz_n0, nm1, nm2, wI_p, wI_inj, wI_n, nI_w, wI_ltI, wI_leI, nI_ltw, nI_lew, reduceIte, Nat.not_lt_zero]
  have ha : ∀ q, ln q = 3 → f_X10_at q (nI i) σ = some (σ q i) := fun q hq => by
    unfold f_X10_at f_X10_at_0
    have e : Int32.ofNat (ln q) = nI 3 := by rw [hq]; rfl
    rw [e, hq]
    simp (disch := omega) only [bind_s, sum_l, sum_r, chkin, lit, nI_add, pk_mul, nI_clamp, nI_leI, nI_ltI, nI_eqI, nI_or, and1, shl1, shrx, nI_subx, pk_divx, pk_remx, nmod, nzx, if_tt, if_ff, bz_n1, bz_n0, nm1, nm2, wI_p, wI_inj, wI_n, nI_w, wI_ltI, wI_leI, nI_ltw, nI_lew, reduceIte, Nat.not_lt_zero]
  unfold f_X10_causeNumber f_X10_causeNumber_0 f_X0_kindAt f_X0_kindAt_0 f_X0_placeAt f_X0_placeAt_0
  rw [hh, bind_s, if_neg (by decide), ha _ hl.1, ha _ hl.2, (hk i hi).1, (hk i hi).2]
  by_cases e : z = 0
  · rw [if_pos e, if_pos e]; rfl
  · rw [if_neg e, if_neg e]; rfl
theorem cause_out {t m : Nat} (h2 : σ t 2 = nI m) {x : Int32} (h : x < 0 ∨ (¬ x < 0 ∧ nI m ≤ x)) (z : Int32) : f_X10_causeNumber t x z σ = some (.inl ("java/util/NoSuchElementException", σ)) := by
  have hh : f_X0_has t x σ = some (nI 0) := by
    unfold f_X0_has f_X0_has_0
    rw [h2]
    rcases h with h | ⟨h1, h2⟩
    · rw [if_pos h]; rfl
    · rw [if_neg h1, if_pos h2]; rfl
  unfold f_X10_causeNumber f_X10_causeNumber_0
  rw [hh]
  rfl
theorem ln80 : (ln 81 = 3 ∧ ln 82 = 3) ∧ (ln 84 = 3 ∧ ln 85 = 3) := by decide +kernel
theorem call_reason (I : Inv σ) (x1 z : Int32) : Step (f_L_reason x1 z) (f_X11_reason x1 z) σ := by
  have I0 := I
  obtain ⟨R, n, H, hv, V, len, tx, nr, rk, rp, nf, fk, fp, G, S, c, cx, r, rx⟩ := I
  obtain ⟨c1, c2, c3, c4, c5, c6⟩ := cx
  obtain ⟨r1, r2, r3, r4, r5, r6⟩ := rx
  have hnr := S.2.2.2.1
  rcases int_n x1 (n := nr) (by omega) with ⟨i, hi, rfl⟩ | hx
  · refine step_ok I0 (L_reason_0 (v := if z = 0 then rk i else rp i) (τ := σ) ?_) (Fc_r σ) (fun υ hυ => ?_)
    · unfold f_X10_reason f_X10_reason_0
      rw [cause_in (t := 80) ln80.1 hnr c3 c4 hi z]
      rfl
    · refine ⟨up υ 101 0 (nI 0), ?_, u0F _ _, up_s ..⟩
      have e1 : υ 101 13 = nI nr := by rw [hυ 101 (by omega) (by omega), r3]
      have e2 : (up υ 101 0 0) 107 i = rk i := by rw [up_k _ _ _ (by decide), hυ 107 (by omega) (by omega), (r4 i hi).1]
      have e3 : (up υ 101 0 0) 108 i = rp i := by rw [up_k _ _ _ (by decide), hυ 108 (by omega) (by omega), (r4 i hi).2]
      unfold f_X11_reason f_X11_reason_0 f_X11_reason_j20
      rw [e1, show (0 : Int32) = nI 0 from rfl, show (1 : Int32) = nI 1 from rfl, in_in hi (by omega), bind_s, if_neg (by decide)]
      rw [up_s, if_pos (by decide), chkin (by omega) (by omega), chkin (by omega) (by omega), nI_clamp (by omega)]
      by_cases e : z = nI 0
      · rw [if_pos e, if_pos e]; exact congrArg (fun q => some (q, _)) e2
      · rw [if_neg e, if_neg e]; exact congrArg (fun q => some (q, _)) e3
  · refine step_bad (c := nI 1) I0 (by decide) (L_reason_1 (τ := σ) ?_) (Fc_r σ) (fun υ hυ => ?_)
    · unfold f_X10_reason f_X10_reason_0
      rw [cause_out (t := 80) c3 hx z]
      rfl
    · have e1 : υ 101 13 = nI nr := by rw [hυ 101 (by omega) (by omega), r3]
      refine ⟨0, up υ 101 0 (nI 1), ?_, u0F _ _, up_s ..⟩
      unfold f_X11_reason f_X11_reason_0 f_X11_reason_j20
      rw [e1, show (0 : Int32) = nI 0 from rfl, show (1 : Int32) = nI 1 from rfl, in_out (by omega) hx, bind_s, if_pos rfl, up_s, if_neg (by decide)]
theorem call_fault (I : Inv σ) (x1 z : Int32) : Step (f_L_fault x1 z) (f_X11_fault x1 z) σ := by
  have I0 := I
  obtain ⟨R, n, H, hv, V, len, tx, nr, rk, rp, nf, fk, fp, G, S, c, cx, r, rx⟩ := I
  obtain ⟨c1, c2, c3, c4, c5, c6⟩ := cx
  obtain ⟨r1, r2, r3, r4, r5, r6⟩ := rx
  have hnf := S.2.2.2.2
  rcases int_n x1 (n := nf) (by omega) with ⟨i, hi, rfl⟩ | hx
  · refine step_ok I0 (L_fault_0 (v := if z = 0 then fk i else fp i) (τ := σ) ?_) (Fc_r σ) (fun υ hυ => ?_)
    · unfold f_X10_fault f_X10_fault_0
      rw [cause_in (t := 83) ln80.2 hnf c5 c6 hi z]
      rfl
    · refine ⟨up υ 101 0 (nI 0), ?_, u0F _ _, up_s ..⟩
      have e1 : υ 101 14 = nI nf := by rw [hυ 101 (by omega) (by omega), r5]
      have e2 : (up υ 101 0 0) 109 i = fk i := by rw [up_k _ _ _ (by decide), hυ 109 (by omega) (by omega), (r6 i hi).1]
      have e3 : (up υ 101 0 0) 110 i = fp i := by rw [up_k _ _ _ (by decide), hυ 110 (by omega) (by omega), (r6 i hi).2]
      unfold f_X11_fault f_X11_fault_0 f_X11_fault_j20
      rw [e1, show (0 : Int32) = nI 0 from rfl, show (1 : Int32) = nI 1 from rfl, in_in hi (by omega), bind_s, if_neg (by decide)]
      rw [up_s, if_pos (by decide), chkin (by omega) (by omega), chkin (by omega) (by omega), nI_clamp (by omega)]
      by_cases e : z = nI 0
      · rw [if_pos e, if_pos e]; exact congrArg (fun q => some (q, _)) e2
      · rw [if_neg e, if_neg e]; exact congrArg (fun q => some (q, _)) e3
  · refine step_bad (c := nI 1) I0 (by decide) (L_fault_1 (τ := σ) ?_) (Fc_r σ) (fun υ hυ => ?_)
    · unfold f_X10_fault f_X10_fault_0
      rw [cause_out (t := 83) c5 hx z]
      rfl
    · have e1 : υ 101 14 = nI nf := by rw [hυ 101 (by omega) (by omega), r5]
      refine ⟨0, up υ 101 0 (nI 1), ?_, u0F _ _, up_s ..⟩
      unfold f_X11_fault f_X11_fault_0 f_X11_fault_j20
      rw [e1, show (0 : Int32) = nI 0 from rfl, show (1 : Int32) = nI 1 from rfl, in_out (by omega) hx, bind_s, if_pos rfl, up_s, if_neg (by decide)]
theorem call_feed (I : Inv σ) {x : Nat} (hx : x < 65536) : Step (f_L_feed (nI x)) (f_X11_feed (nI x)) σ := by
  have I0 := I
  obtain ⟨R, n, H, hv, V, len, tx, nr, rk, rp, nf, fk, fp, G, S, c, cx, r, rx⟩ := I
  have C := cx
  have X := rx
  obtain ⟨c1, c2, c3, c4, c5, c6⟩ := cx
  obtain ⟨r1, r2, r3, r4, r5, r6⟩ := rx
  have hl := S.2.1
  by_cases e : len = 70
  · refine step_no I0 (L_feed_1 ?_) (by decide) ?_
    · unfold f_X10_feed f_X10_feed_0 f_X6_isFull f_X6_isFull_0
      rw [c1]
      simp (disch := omega) only [bind_s, sum_l, sum_r, chkin, lit, nI_add, pk_mul, nI_clamp, nI_leI, nI_ltI, nI_eqI, nI_or, and1, shl1, shrx, nI_subx, pk_divx, pk_remx, nmod, nzx, if_tt, if_ff, bz_n1, bz_n0, nm1, nm2, wI_p, wI_inj, wI_n, nI_w, wI_ltI, wI_leI, nI_ltw, nI_lew, reduceIte, e]
    · unfold f_X11_feed f_X11_feed_0
      rw [up_j _ _ _ (by decide), r1]
      simp (disch := omega) only [bind_s, sum_l, sum_r, chkin, lit, nI_add, pk_mul, nI_clamp, nI_leI, nI_ltI, nI_eqI, nI_or, and1, shl1, shrx, nI_subx, pk_divx, pk_remx, nmod, nzx, if_tt, if_ff, bz_n1, bz_n0, nm1, nm2, wI_p, wI_inj, wI_n, nI_w, wI_ltI, wI_leI, nI_ltw, nI_lew, reduceIte, e, fails_eq]
  · have hnar : vp_nar .char (nI x) = nI x := Value.int.inj (pk_charN hx).1
    have hf : f_L_feed (nI x) σ = some (nI 0, up (up (up σ 100 len (nI x)) 99 1 (nI (len + 1))) 122 0 (nI (len + 1))) := by
      refine L_feed_0 ?_
      unfold f_X10_feed f_X10_feed_0 f_X6_isFull f_X6_isFull_0 f_X6_append f_X6_append_0 f_X6_append_j39
      rw [c1]
      have e0 : (up σ 100 (nI len).toNatClampNeg (vp_nar .char (nI x))) 99 1 = nI len := by rw [up_k _ _ _ (by decide), c1]
      rw [e0, hnar]
      simp (disch := omega) only [bind_s, sum_l, sum_r, chkin, lit, nI_add, pk_mul, nI_clamp, nI_leI, nI_ltI, nI_eqI, nI_or, and1, shl1, shrx, nI_subx, pk_divx, pk_remx, nmod, nzx, if_tt, if_ff, bz_n1, bz_n0, nm1, nm2, wI_p, wI_inj, wI_n, nI_w, wI_ltI, wI_leI, nI_ltw, nI_lew, reduceIte, Nat.not_lt_zero, up_s]
    generalize hτ : up (up (up σ 100 len (nI x)) 99 1 (nI (len + 1))) 122 0 (nI (len + 1)) = τ at hf
    have d : ∀ a, a ≠ 100 → a ≠ 99 → a ≠ 122 → τ a = σ a := fun a h1 h2 h3 => by rw [← hτ, up_k _ _ _ h3, up_k _ _ _ h2, up_k _ _ _ h1]
    generalize hτ2 : up (up (up τ 101 0 (nI 0)) 106 len (nI x)) 101 8 (nI (len + 1)) = τ2
    have hg : f_X11_feed (nI x) τ = some (nI (len + 1), τ2) := by
      unfold f_X11_feed f_X11_feed_0
      have e1 : (up τ 101 0 0) 101 8 = nI len := by rw [up_j _ _ _ (by decide), d 101 (by decide) (by decide) (by decide), r1]
      have e2 : (up (up τ 101 0 0) 106 (nI len).toNatClampNeg (nI x)) 101 8 = nI len := by rw [up_k _ _ _ (by decide), e1]
      rw [e1, e2, up_s, nI_1, nI_clamp (by omega), if_neg (show ¬ nI len = (70 : Int32) from fun h => by have := (nI_eq (a := len) (b := 70) (by omega) (by omega)).mp h; omega), chkin (by omega) (by omega), ← hτ2]
      rfl
    have d2 : ∀ a, a ≠ 101 → a ≠ 106 → τ2 a = τ a := fun a h1 h2 => by rw [← hτ2, up_k _ _ _ h1, up_k _ _ _ h2, up_k _ _ _ h1]
    have d3 : ∀ j, j ≠ 0 → j ≠ 8 → τ2 101 j = τ 101 j := fun j h1 h2 => by rw [← hτ2, up_j _ _ _ h2, up_k _ _ _ (by decide), up_j _ _ _ h1]
    refine ⟨nI 0, τ, nI (len + 1), τ2, hf, hg, ?_, fun _ => ?_, R, n, H, hv, V, len + 1, updN tx len x, nr, rk, rp, nf, fk, fp, G, ⟨S.1, by omega, fun i hi => ?_, S.2.2.2⟩, ?_, ⟨?_, fun i hi => ?_, ?_, ?_, ?_, ?_⟩, ?_, ⟨?_, fun i hi => ?_, ?_, ?_, ?_, ?_⟩⟩
    · rw [← hτ2, up_j _ _ _ (by decide), up_k _ _ _ (by decide), up_s]
    · rw [d2 122 (by decide) (by decide), ← hτ, up_s]
    · unfold updN
      split
      · exact hx
      · exact S.2.2.1 i (by omega)
    · exact CI_c (fun a h => by rw [d2 a (by omega) (by omega), d a (by omega) (by omega) (by omega)]) c
    · rw [d2 99 (by decide) (by decide), ← hτ, up_k _ _ _ (by decide), up_s]
    · rw [d2 100 (by decide) (by decide), ← hτ, up_k _ _ _ (by decide), up_k _ _ _ (by decide)]
      by_cases e1 : i = len
      · subst e1; rw [up_s, updN_s]
      · rw [up_j _ _ _ e1, updN_n _ _ e1, c2 i (by omega)]
    · rw [d2 80 (by decide) (by decide), d 80 (by decide) (by decide) (by decide), c3]
    · rw [d2 81 (by decide) (by decide), d 81 (by decide) (by decide) (by decide), d2 82 (by decide) (by decide), d 82 (by decide) (by decide) (by decide)]; exact c4
    · rw [d2 83 (by decide) (by decide), d 83 (by decide) (by decide) (by decide), c5]
    · rw [d2 84 (by decide) (by decide), d 84 (by decide) (by decide) (by decide), d2 85 (by decide) (by decide), d 85 (by decide) (by decide) (by decide)]; exact c6
    · exact RI_c (fun a h => by rw [d2 a (by omega) (by omega), d a (by omega) (by omega) (by omega)]) (fun j h => by rw [d3 j (by omega) (by omega), d 101 (by decide) (by decide) (by decide)]) r
    · rw [← hτ2, up_s]
    · rw [← hτ2, up_k _ _ _ (by decide)]
      by_cases e1 : i = len
      · subst e1; rw [up_s, updN_s]
      · rw [up_j _ _ _ e1, updN_n _ _ e1, up_k _ _ _ (by decide), d 106 (by decide) (by decide) (by decide), r2 i (by omega)]
    · rw [d3 13 (by decide) (by decide), d 101 (by decide) (by decide) (by decide), r3]
    · rw [d2 107 (by decide) (by decide), d 107 (by decide) (by decide) (by decide), d2 108 (by decide) (by decide), d 108 (by decide) (by decide) (by decide)]; exact r4
    · rw [d3 14 (by decide) (by decide), d 101 (by decide) (by decide) (by decide), r5]
    · rw [d2 109 (by decide) (by decide), d 109 (by decide) (by decide) (by decide), d2 110 (by decide) (by decide), d 110 (by decide) (by decide) (by decide)]; exact r6
