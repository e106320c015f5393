/-! PURE FACTS, 68: the call addShape -/
variable {R : Nat → Nat} {σ τ : St}
theorem field_eq {c r m : Nat} (hc : 1 ≤ c ∧ c ≤ 4) (hr : 1 ≤ r ∧ r ≤ 4) (h0 : 0 < m) (hm : m < 2 ^ (c * r)) : ∃ b, f_X3_isShape (nI c) (nI r) (nI m) = some (nI (bN b)) ∧ f_X11_isField (nI c) (nI r) (nI m) = some (nI (bN b)) ∧ (b = true → Ful c r m) := by
  have h16 : c * r ≤ 4 * 4 := Nat.mul_le_mul hc.2 hr.2
  have hp : ∀ a, a < 2 ^ (c * r) → a < 65536 := fun a h => Nat.lt_of_lt_of_le h (Nat.pow_le_pow_right (n := 2) (by decide) (by omega : c * r ≤ 16))
  have hm2 := hp m hm
  have hpow : 2 ^ (c * r) ≤ 2 ^ 16 := Nat.pow_le_pow_right (by decide) (by omega)
  obtain ⟨s, s0, s1, s2, s3⟩ := lowest_eq h0 hm2
  obtain ⟨b1, l1, l2⟩ := linesC_eq hc hr hm2
  obtain ⟨b2, k1, k2⟩ := connC_eq hc hr hm s0 s2 s3 s1
  obtain ⟨b3, f1, f2⟩ := fullR_eq hc hr hm2
  obtain ⟨a, g1, g2⟩ := spreadF_eq hc hr hm s3 s1
  have e13 : b3 = b1 := by
    have : b3 = true ↔ b1 = true := by rw [l2, f2]
    cases b1 <;> cases b3 <;> simp_all
  subst e13
  have e2 : b2 = decide (a = m) := by
    have h := Big_e g2 s2 hm (by omega)
    have : b2 = true ↔ a = m := by rw [k2, h]
    by_cases e : a = m
    · rw [decide_eq_true e]; exact this.mpr e
    · rw [decide_eq_false e]; exact Bool.eq_false_iff.mpr (fun q => e (this.mp q))
  subst e2
  have ha := hp a g2.2.2.2
  have hs1 : f_X3_isShape_0 (nI c) (nI r) (nI m) = some (nI (bN (b3 && decide (a = m)))) := by
    unfold f_X3_isShape_0
    rw [show (4 : Int32) = nI 4 from rfl, show (31 : Int32) = nI 31 from rfl, show (1 : Int32) = nI 1 from rfl, wi_in hc.1 hc.2 (by decide), bind_s, if_neg (by decide), wi_in hr.1 hr.2 (by decide), bind_s, if_neg (by decide), if_neg (show ¬ nI m ≤ 0 from nI_ge (a := 0) h0 (by omega)), pk_mul, shl1 (by omega), if_pos (nI_lt hm (by omega)), l1, bind_s]
    cases b3
    · rw [if_neg (by decide)]; rfl
    · rw [if_pos (by decide), k1, bind_s]
      by_cases e : a = m
      · rw [decide_eq_true e, if_neg (by decide)]; rfl
      · rw [decide_eq_false e, if_pos (by decide)]; rfl
  have hs2 : f_X11_isField_0 (nI c) (nI r) (nI m) = some (nI (bN (b3 && decide (a = m)))) := by
    unfold f_X11_isField_0 f_X11_lowest f_X11_lowest_0
    rw [f1, bind_s]
    cases b3
    · rw [if_pos (by decide)]; rfl
    · rw [if_neg (by decide), bind_s, s0, g1, bind_s]
      by_cases e : a = m
      · rw [decide_eq_true e, if_pos (by rw [e])]; rfl
      · rw [decide_eq_false e, if_neg (by rw [nI_eqI (by omega) (by omega)]; exact e)]; rfl
  refine ⟨b3 && decide (a = m), ?_, ?_, fun h => ?_⟩
  · unfold f_X3_isShape
    rw [hs1, bz_N]
  · unfold f_X11_isField
    rw [hs2, bz_N]
  · rw [Bool.and_eq_true] at h
    exact f2.mp h.1
theorem wi_01 (x : Int32) {a b : Nat} (ha : a < 2 ^ 20) (hb : b < 2 ^ 20) : f_X10_isWithin x (nI a) (nI b) = some (nI 0) ∨ f_X10_isWithin x (nI a) (nI b) = some (nI 1) := by
  rcases rng x ha hb with ⟨j, h1, h2, rfl⟩ | h
  · exact Or.inr (wi_in h1 h2 hb)
  · exact Or.inl (wi_out h)
/-- the class refuses: no shape -/
theorem addS_bad {x1 x2 x3 x4 x5 : Int32} (h : f_X3_isShape x1 x2 x3 = some (nI 0)) : f_X10_addShape x1 x2 x3 x4 x5 σ = some (.inl ("java/lang/IllegalArgumentException", σ)) := by
  unfold f_X10_addShape f_X10_addShape_0 f_X10_addShape_j30
  rw [show (0 : Int32) = nI 0 from rfl, show (2 : Int32) = nI 2 from rfl, show (99 : Int32) = nI 99 from rfl]
  rcases wi_01 x4 (a := 0) (b := 2) (by decide) (by decide) with e | e <;> rw [e, bind_s]
  · rfl
  · rw [if_neg (by decide)]
    rcases wi_01 x5 (a := 0) (b := 99) (by decide) (by decide) with e | e <;> rw [e, bind_s]
    · rfl
    · rw [if_neg (by decide), h]; rfl
theorem j80_eq (τ : St) : f_X11_addShape_j80 τ = some (0, up τ 101 0 1) := by
  unfold f_X11_addShape_j80
  rw [fails_eq]
  rfl
theorem call_addShape (I : Inv σ) (x1 x2 x3 x4 x5 : Int32) : Step (f_L_addShape x1 x2 x3 x4 x5) (f_X11_addShape x1 x2 x3 x4 x5) σ := by
  have I0 := I
  obtain ⟨R, n, H, hv, V, len, tx, nr, rk, rp, nf, fk, fp, G, S, c, cx, r, rx⟩ := I
  have hR := r.1
  have bad : f_X10_addShape x1 x2 x3 x4 x5 σ = some (.inl ("java/lang/IllegalArgumentException", σ)) → f_X11_addShape x1 x2 x3 x4 x5 σ = f_X11_addShape_j80 (up σ 101 0 0) → Step (f_L_addShape x1 x2 x3 x4 x5) (f_X11_addShape x1 x2 x3 x4 x5) σ := fun h1 h2 => by
    refine step_no I0 (L_addShape_1 h1) (by decide) ?_
    rw [h2, j80_eq]
    rfl
  have t4 : (4 : Int32) = nI 4 := rfl
  have t1 : (1 : Int32) = nI 1 := rfl
  have t0 : (0 : Int32) = nI 0 := rfl
  have t2 : (2 : Int32) = nI 2 := rfl
  have t99 : (99 : Int32) = nI 99 := rfl
  have t31 : (31 : Int32) = nI 31 := rfl
  rcases rng x1 (a := 1) (b := 4) (by decide) (by decide) with ⟨cc, c1, c2, rfl⟩ | h
  · rcases rng x2 (a := 1) (b := 4) (by decide) (by decide) with ⟨rr, r1, r2, rfl⟩ | h
    · rcases rng x4 (a := 0) (b := 2) (by decide) (by decide) with ⟨u, u1, u2, rfl⟩ | h
      · rcases rng x5 (a := 0) (b := 99) (by decide) (by decide) with ⟨st, v1, v2, rfl⟩ | h
        · have h16 : cc * rr ≤ 4 * 4 := Nat.mul_le_mul c2 r2
          have hpow : 2 ^ (cc * rr) ≤ 2 ^ 16 := Nat.pow_le_pow_right (by decide) (by omega)
          have hpow1 : 1 ≤ 2 ^ (cc * rr) := Nat.one_le_two_pow
          -- the reference as far as the set
          have head : ∀ υ, f_X11_addShape (nI cc) (nI rr) x3 (nI u) (nI st) υ = (f_X11_in x3 (nI 1) (nI (2 ^ (cc * rr) - 1))).bind fun q5 => if q5 = 0 then f_X11_addShape_j80 (up υ 101 0 0) else (f_X11_isField (nI cc) (nI rr) x3).bind fun q7 => if q7 = 0 then f_X11_addShape_j80 (up υ 101 0 0) else chk (inb 1 761) (if ((up υ 101 0 0) 102 (1 : Int32).toNatClampNeg) = 8 then (f_X11_fails 2 (up υ 101 0 0)).bind fun q13 => some (q13.1, q13.2) else (f_X11_changes (up υ 101 0 0)).bind fun q11 => (f_X11_makesShape (nI cc) (nI rr) x3 (nI u) (nI st) q11).bind fun q12 => some (q12.1, q12.2)) := fun υ => by
            unfold f_X11_addShape f_X11_addShape_0
            have e1 : f_X11_in (nI cc) 1 4 = some (nI 1) := ri_in c1 c2 (by decide)
            have e2 : f_X11_in (nI rr) 1 4 = some (nI 1) := ri_in r1 r2 (by decide)
            have e3 : f_X11_in (nI u) 0 2 = some (nI 1) := ri_in u1 u2 (by decide)
            have e4 : f_X11_in (nI st) 0 99 = some (nI 1) := ri_in v1 v2 (by decide)
            rw [e1, bind_s, if_neg (by decide), e2, bind_s, if_neg (by decide), e3, bind_s, if_neg (by decide), e4, bind_s, if_neg (by decide)]
            unfold f_X11_addShape_j49
            have e5 : ((1 : Int32) <<< ((nI cc * nI rr) &&& 31)) - 1 = nI (2 ^ (cc * rr) - 1) := by rw [t31, t1, pk_mul, shl1 (by omega), nI_subx hpow1]
            rw [if_neg (by decide), e5, t1]
          have cls : f_X3_isShape (nI cc) (nI rr) x3 = some (nI 1) → ∀ υ, f_X10_addShape (nI cc) (nI rr) x3 (nI u) (nI st) υ = (f_X9_isFull 4 υ).bind fun q7 => if q7 = 0 then (f_X2_push 1 υ).bind fun q9 => (f_X8_createShape 1 (nI cc) (nI rr) x3 (nI u) (nI st) q9).bind fun q10 => some (.inr (q10.1, q10.2)) else some (.inl ("java/lang/IllegalStateException", υ)) := fun h υ => by
            unfold f_X10_addShape f_X10_addShape_0
            have e3 : f_X10_isWithin (nI u) 0 2 = some (nI 1) := wi_in u1 u2 (by decide)
            have e4 : f_X10_isWithin (nI st) 0 99 = some (nI 1) := wi_in v1 v2 (by decide)
            rw [e3, bind_s, if_neg (by decide), e4, bind_s, if_neg (by decide), h, bind_s, if_neg (by decide)]
          have low : ∀ {x3 : Int32}, (x3 ≤ 0 ∨ ¬ x3 < nI (2 ^ (cc * rr))) → f_X3_isShape (nI cc) (nI rr) x3 = some (nI 0) := fun {x3} h => by
            have e1 : f_X10_isWithin (nI cc) 1 4 = some (nI 1) := wi_in c1 c2 (by decide)
            have e2 : f_X10_isWithin (nI rr) 1 4 = some (nI 1) := wi_in r1 r2 (by decide)
            have e5 : ((1 : Int32) <<< ((nI cc * nI rr) &&& 31)) = nI (2 ^ (cc * rr)) := by rw [t31, t1, pk_mul, shl1 (by omega)]
            unfold f_X3_isShape f_X3_isShape_0
            rw [e1, bind_s, if_neg (by decide), e2, bind_s, if_neg (by decide), e5]
            by_cases q : x3 ≤ 0
            · rw [if_pos q]; rfl
            · rw [if_neg q, if_neg (h.resolve_left q)]; rfl
          have out : (x3 < nI 1 ∨ nI (2 ^ (cc * rr) - 1) < x3) → f_X11_addShape (nI cc) (nI rr) x3 (nI u) (nI st) σ = f_X11_addShape_j80 (up σ 101 0 0) := fun h => by
            rw [head, ri_out h, bind_s, if_pos (by decide)]
          rcases int_n x3 (n := 2 ^ (cc * rr)) (by omega) with ⟨m, hm, rfl⟩ | hx
          · by_cases m0 : m = 0
            · subst m0
              exact bad (addS_bad (low (Or.inl (by decide)))) (out (Or.inl (by decide)))
            · obtain ⟨b, f1, f2, f3⟩ := field_eq ⟨c1, c2⟩ ⟨r1, r2⟩ (by omega) hm
              have hin : f_X11_in (nI m) (nI 1) (nI (2 ^ (cc * rr) - 1)) = some (nI 1) := ri_in (by omega) (by omega) (by omega)
              cases b
              · refine bad (addS_bad f1) ?_
                rw [head, hin, bind_s, if_neg (by decide), f2, bind_s, if_pos (by decide)]
              · have F := f3 rfl
                have c4 := c.1.2.1
                by_cases e : R 1 = 8
                · have hful : f_X9_isFull 4 σ = some 1 := by
                    have := full_eq (t := 4) (lim := 8) c4.2.2.1 c4.2.2.2.1 c.1.1.2.1 (by decide) (by decide) G.2.1 (by decide)
                    rw [if_pos e] at this
                    exact this
                  refine step_no I0 (L_addShape_2 ?_) (by decide) ?_
                  · rw [cls f1, hful]; rfl
                  · rw [head, hin, bind_s, if_neg (by decide), f2, bind_s, if_neg (by decide)]
                    have e8 : (up σ 101 0 0) 102 (1 : Int32).toNatClampNeg = 8 := by
                      rw [up_k _ _ _ (by decide), hR]
                      show nI (R 1) = 8
                      rw [e]; rfl
                    rw [e8, fails_eq]
                    rfl
                · have h1 : R 1 < 8 := by have := G.2.1; omega
                  have hful : f_X9_isFull 4 σ = some 0 := by
                    have := full_eq (t := 4) (lim := 8) c4.2.2.1 c4.2.2.2.1 c.1.1.2.1 (by decide) (by decide) G.2.1 (by decide)
                    rw [if_neg e] at this
                    exact this
                  have G' := rShape_G (m := m) (u := u) (st := st) G h1 ⟨c1, c2, r1, r2, hm⟩ F u2 v2
                  refine step_change (R' := rShape R cc rr m u st) (v := nI (R 1)) (υ := σ) G G' S c cx r rx (Fc_r σ) (fun τ cτ hp => ?_) (fun τ rτ => ?_)
                  · obtain ⟨τ2, m1, m2, m3⟩ := createShape_eq (u := u) (st := st) cτ.1 G h1 ⟨c1, c2⟩ ⟨r1, r2⟩ hm
                    refine ⟨τ2, L_addShape_0 ?_, m2, fun a h1 _ => m3 a (by omega) (by omega)⟩
                    rw [cls f1, hful, bind_s, if_pos rfl, hp, bind_s, m1]
                    rfl
                  · refine ⟨up τ 101 0 0, u0F _ _, u0v _ _, fun τ2 ch hR2 _ _ => ⟨τ2, upA τ2 102 (rwN (rShape R cc rr m u st)), Fr_r _, rfl, ?_, upA_same .., fun a ha => upA_ne _ _ ha⟩⟩
                    rw [head, hin, bind_s, if_neg (by decide), f2, bind_s, if_neg (by decide)]
                    have e8 : ¬ (up τ 101 0 0) 102 (1 : Int32).toNatClampNeg = 8 := by
                      rw [up_k _ _ _ (by decide), rτ.1]
                      show ¬ nI (R 1) = nI 8
                      rw [nI_eqI (by omega) (by decide)]
                      exact e
                    rw [if_neg e8, ch, bind_s, makesShape_eq hR2 h1]
                    rfl
          · have q1 : 0 < 2 ^ (cc * rr) := by omega
            rcases hx with hx | ⟨hx, hx2⟩
            · exact bad (addS_bad (low (Or.inl (Int32.le_of_lt hx)))) (out (Or.inl (Int32.lt_trans hx (by decide))))
            · refine bad (addS_bad (low (Or.inr (Int32.not_lt.mpr hx2)))) (out (Or.inr (Int32.lt_of_lt_of_le (nI_lt (by omega) (by omega)) hx2)))
        · refine bad ?_ ?_
          · unfold f_X10_addShape f_X10_addShape_0
            have e3 : f_X10_isWithin (nI u) 0 2 = some (nI 1) := wi_in u1 u2 (by decide)
            have e4 : f_X10_isWithin x5 0 99 = some (nI 0) := wi_out h
            rw [e3, bind_s, if_neg (by decide), e4]
            rfl
          · unfold f_X11_addShape f_X11_addShape_0
            have e1 : f_X11_in (nI cc) 1 4 = some (nI 1) := ri_in c1 c2 (by decide)
            have e2 : f_X11_in (nI rr) 1 4 = some (nI 1) := ri_in r1 r2 (by decide)
            have e3 : f_X11_in (nI u) 0 2 = some (nI 1) := ri_in u1 u2 (by decide)
            have e4 : f_X11_in x5 0 99 = some (nI 0) := ri_out h
            rw [e1, bind_s, if_neg (by decide), e2, bind_s, if_neg (by decide), e3, bind_s, if_neg (by decide), e4]
            rfl
      · refine bad ?_ ?_
        · unfold f_X10_addShape f_X10_addShape_0
          have e3 : f_X10_isWithin x4 0 2 = some (nI 0) := wi_out h
          rw [e3]
          rfl
        · unfold f_X11_addShape f_X11_addShape_0
          have e1 : f_X11_in (nI cc) 1 4 = some (nI 1) := ri_in c1 c2 (by decide)
          have e2 : f_X11_in (nI rr) 1 4 = some (nI 1) := ri_in r1 r2 (by decide)
          have e3 : f_X11_in x4 0 2 = some (nI 0) := ri_out h
          rw [e1, bind_s, if_neg (by decide), e2, bind_s, if_neg (by decide), e3]
          rfl
    · refine bad (addS_bad ?_) ?_
      · unfold f_X3_isShape f_X3_isShape_0
        have e1 : f_X10_isWithin (nI cc) 1 4 = some (nI 1) := wi_in c1 c2 (by decide)
        have e2 : f_X10_isWithin x2 1 4 = some (nI 0) := wi_out h
        rw [e1, bind_s, if_neg (by decide), e2]
        rfl
      · unfold f_X11_addShape f_X11_addShape_0
        have e1 : f_X11_in (nI cc) 1 4 = some (nI 1) := ri_in c1 c2 (by decide)
        have e2 : f_X11_in x2 1 4 = some (nI 0) := ri_out h
        rw [e1, bind_s, if_neg (by decide), e2]
        rfl
  · refine bad (addS_bad ?_) ?_
    · unfold f_X3_isShape f_X3_isShape_0
      have e1 : f_X10_isWithin x1 1 4 = some (nI 0) := wi_out h
      rw [e1]
      rfl
    · unfold f_X11_addShape f_X11_addShape_0
      have e1 : f_X11_in x1 1 4 = some (nI 0) := ri_out h
      rw [e1]
      rfl
