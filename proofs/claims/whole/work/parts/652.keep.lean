/-! PURE FACTS, 59: the call keep -/
variable {k n len nr nf : Nat} {R V tx : Nat → Nat} {H : Nat → Nat → Nat} {hv : Bool} {rk rp fk fp : Nat → Int32} {σ τ : St}
theorem call_keep (I : Inv σ) (x1 x2 : Int32) : Step (f_L_keep x1 x2) (f_X11_keep x1 x2) σ := by
  have I0 := I
  obtain ⟨R, n, H, hv, V, len, tx, nr, rk, rp, nf, fk, fp, G, S, c, cx, r, rx⟩ := I
  have hR := r.1
  have g0 := G.1
  rcases int_n x1 (n := R 0) (by omega) with ⟨s, hs, rfl⟩ | hx
  · have hS := GS G hs
    obtain ⟨z0, z1, z2, z3, z4, z5, hn, _⟩ := hS
    obtain ⟨f, m, τ, r1, r2, r3, r4⟩ := remC_eq c.1 G hs
    obtain ⟨b1, b2⟩ := RemS_b (fun c _ => rf0_le s c) r2
    have hf : ∀ c, c < sc R s * sr R s → f c < 1000 := fun c hc => by have := b2 c hc; omega
    have hFc : Fc σ τ := fun a h1 h2 => r4 a (by omega) (by omega) (by omega)
    have cτ : CI R n H hv V τ := CI_c (fun a h => hFc a (by omega) (by omega)) c
    -- the reference's list of remnants
    have ref : ∀ υ, υ 102 = rwN R → ∃ τ', Fr υ τ' ∧ τ' 101 0 = nI 0 ∧ τ' 102 = rwN R ∧ f_X11_remnants (nI s) (up υ 101 0 (nI 0)) = some τ' ∧ τ' 101 17 = nI m ∧ ∀ c, c < sc R s * sr R s → τ' 112 c = wI (gc (f c)) := fun υ hυ => by
      obtain ⟨fR, mR, τ1, q1, q2, q3, q4, q5, q6, q7⟩ := remR_eq (u0R hυ (nI 0)) G hs
      obtain ⟨em, ef⟩ := RemS_u (Nat.le_refl _) r2 q2
      subst em
      have q8 : ∀ c, c < sc R s * sr R s → τ1 112 c = wI (gc (f c)) := fun c hc => by rw [q7 c hc, ef c hc]
      have hR1 : τ1 102 = rwN R := by rw [q3 102 (by decide) (by decide) (by decide), u0R hυ]
      have F1 : Fr υ τ1 := Fr_t (u0F _ _) ⟨fun a h1 h2 h3 => q3 a h1 (by omega) (by omega), fun j hj => q4 j (by omega)⟩
      exact ⟨τ1, F1, by rw [q4 0 (by decide), up_s], hR1, q1, q5, q8⟩
    rcases int_n x2 (n := m) (by omega) with ⟨g, hg, rfl⟩ | hx
    · have ckR : f_X10_checkRemnant (nI s) (nI g) σ = some (.inr τ) := by
        unfold f_X10_checkRemnant f_X10_checkRemnant_0
        rw [r1, bind_s]
        change (f_X10_isWithin (nI g) (nI 0) (nI m - nI 1)).bind _ = _
        rw [pred_in hg (by omega)]
        rfl
      by_cases e : R 0 = 6
      · have hful : f_X9_isFull 2 τ = some 1 := by
          have := full_eq (t := 2) (lim := 6) cτ.1.2.1.1 cτ.1.2.1.2.1 cτ.1.1.1 (by decide) (by decide) G.1 (by decide)
          rw [if_pos e] at this
          exact this
        refine step_bad (c := nI 2) I0 (by decide) (L_keep_2 (τ := τ) ?_) hFc (fun υ hυ => ?_)
        · unfold f_X10_keep f_X10_keep_0
          rw [ckS_in c.1 G hs, bind_s, sum_r, ckR, bind_s, sum_r, hful, bind_s, if_neg (by decide)]
        · have hR0 : υ 102 = rwN R := by rw [hυ 102 (by omega) (by omega), hR]
          obtain ⟨τ', a1, a2, a3, a4, a5, _⟩ := ref υ hR0
          refine ⟨0, up τ' 101 0 (nI 2), ?_, Fr_t a1 (u0F _ _), up_s ..⟩
          unfold f_X11_keep f_X11_keep_0
          rw [show (0 : Int32) = nI 0 from rfl, isSheet_in (u0R hR0 _) G hs, bind_s, if_neg (by decide), a4, bind_s, a5, show (1 : Int32) = nI 1 from rfl, in_in hg (by omega), bind_s, if_neg (by decide)]
          simp (disch := omega) only [bind_s, sum_l, sum_r, chkin, lit, nI_add, pk_mul, nI_clamp, nI_leI, nI_ltI, nI_eqI, nI_or, and1, shl1, shrx, nI_subx, pk_divx, pk_remx, nmod, nzx, if_tt, if_ff, bz_n1, bz_n0, nm1, nm2, wI_p, wI_inj, wI_n, nI_w, wI_ltI, wI_leI, nI_ltw, nI_lew, reduceIte, a3, rwN_a, e, fails_eq]
      · have h0 : R 0 < 6 := by omega
        have hful : f_X9_isFull 2 τ = some 0 := by
          have := full_eq (t := 2) (lim := 6) cτ.1.2.1.1 cτ.1.2.1.2.1 cτ.1.1.1 (by decide) (by decide) G.1 (by decide)
          rw [if_neg e] at this
          exact this
        obtain ⟨cc, hcc, hcc2⟩ := RemS_ne (fun c _ => rf0_le s c) (Nat.le_refl _) r2 hg
        have hpos : 0 < cnt (fun c => decide (f c = g + 2)) (sc R s * sr R s) := cnt_pos hcc (decide_eq_true hcc2)
        have hon : ∀ c, c < sc R s * sr R s → f c = g + 2 → on R s c = 1 := fun c hc h => by
          have := RemS_f (fun c _ => rf0_le s c) r2 c hc (by omega)
          unfold rf0 at this
          by_cases q : on R s c = 1
          · exact q
          · rw [if_neg q] at this; omega
        obtain ⟨τ0, m1, m2, m3, m4⟩ := measC_eq (r := g) ⟨z1, z2⟩ ⟨z3, z4⟩ r3 hf (by omega)
        obtain ⟨lo, L, Q, T, B, ib, _⟩ := m4.2.2 hpos
        have hLQ : L ≤ Q ∧ T ≤ B := by
          obtain ⟨c1, e1, e2, e3⟩ := ib.2.1
          have := ib.1 c1 e1 e2
          omega
        have hQw : Q < sc R s ∧ B < sr R s := by
          obtain ⟨c1, e1, e2, e3⟩ := ib.2.2.1
          obtain ⟨c2, i1, i2, i3⟩ := ib.2.2.2.2.1
          have := Nat.mod_lt c1 (show sc R s > 0 by omega)
          have := Nat.div_lt_of_lt_mul i1
          omega
        have ca := two_b (n := Q - L + 1) (by omega)
        have cb := two_b (n := B - T + 1) (by omega)
        have hP : ∀ j, kP (sc R s * sr R s) g f j = true → j < sc R s * sr R s ∧ f j = g + 2 := fun j h => of_decide_eq_true h
        have G' : Good (kp R (two (Q - L + 1)) (two (B - T + 1)) (R (15 + s)) s (kP (sc R s * sr R s) g f) (kx (sc R s) L T (two (Q - L + 1))) (sc R s * sr R s)) := kp_G G h0 hs ⟨ca.1, ca.2.1⟩ ⟨cb.1, cb.2.1⟩ z5 (fun j h => ⟨(hP j h).1, hon j (hP j h).1 (hP j h).2⟩)
        refine step_change (v := nI (R 0)) (υ := τ) G G' S c cx r rx hFc (fun τp cp hp => ?_) (fun υ rυ => ?_)
        · obtain ⟨τp', p1, p2, p3⟩ := CI_push cτ G
          rw [hp] at p1
          have p4 := Option.some.inj p1
          subst p4
          have G3 : Rg (sc R s) (sr R s) f τp := ⟨by rw [p3 89 (by omega)]; exact r3.1, by rw [p3 89 (by omega)]; exact r3.2.1, fun c hc => by rw [p3 90 (by omega)]; exact r3.2.2 c hc⟩
          obtain ⟨τ2, n1, n2, n3, n4⟩ := measC_eq (r := g) ⟨z1, z2⟩ ⟨z3, z4⟩ G3 hf (by omega)
          obtain ⟨lo', L', Q', T', B', ib', _, y7, y8, y9, y10⟩ := n4.2.2 hpos
          obtain ⟨w1, w2, w3, w4, w5⟩ := IsB_u ib ib'
          subst w1 w2 w3 w4 w5
          have G2 : Rg (sc R s) (sr R s) f τ2 := ⟨by rw [n3 2 (by omega), G3.1], by rw [n3 3 (by omega), G3.2.1], fun c hc => by rw [n2 90 (by decide)]; exact G3.2.2 c hc⟩
          obtain ⟨τ4, s1, s2, s3⟩ := split_eq cp.1 G h0 hs (by omega) n1 n2 G2 hf hon ib hLQ hQw y7 y8 y9 y10
          refine ⟨τ4, L_keep_0 ?_, s2, fun a h1 h2 => by rw [s3 a (by omega) (by omega), n2 a (by omega)]⟩
          unfold f_X10_keep f_X10_keep_0
          rw [ckS_in c.1 G hs, bind_s, sum_r, ckR, bind_s, sum_r, hful, bind_s, if_pos rfl, hp, bind_s, s1]
          rfl
        · obtain ⟨τ', a1, a2, a3, a4, a5, a6⟩ := ref υ rυ.1
          refine ⟨τ', a1, a2, fun τ2 ch hR2 d1 d2 => ?_⟩
          have q8 : ∀ c, c < sc R s * sr R s → τ2 112 c = wI (gc (f c)) := fun c hc => by rw [d1 112 (by decide) (by decide) (by decide)]; exact a6 c hc
          obtain ⟨τ3, t1, t2, t3, t4⟩ := boundsR_eq hR2 G hs (show g < 500 by omega) hf q8
          obtain ⟨fl, u1, u2, u3⟩ := t4
          obtain ⟨lo', L', Q', T', B', ib', _, v7, v8, v9, v10⟩ := u3 hpos
          obtain ⟨w1, w2, w3, w4, w5⟩ := IsB_u ib ib'
          subst w1 w2 w3 w4 w5
          have hR3 : τ3 102 = rwN R := by rw [t2 102 (by decide), hR2]
          have q9 : ∀ c, c < sc R s * sr R s → τ3 112 c = wI (gc (f c)) := fun c hc => by rw [t2 112 (by decide)]; exact q8 c hc
          have hbox : ∀ c, kP (sc R s * sr R s) g f c = true → L ≤ c % sc R s ∧ c % sc R s ≤ Q ∧ T ≤ c / sc R s ∧ c / sc R s ≤ B := fun c h => by
            have := ib.1 c (hP c h).1 (decide_eq_true (hP c h).2)
            exact ⟨this.1, this.2.1, this.2.2.1, this.2.2.2.1⟩
          have fin := keepR_eq (cols := two (Q - L + 1)) (rows := two (B - T + 1)) hR3 G h0 hs (by omega) hf q9 v7 v9 ca.2.1 (fun c h => ⟨(hbox c h).1, (hbox c h).2.2.1⟩) (fun c h => (kx_lt (show Q < 10 by omega) (show B < 10 by omega) (hbox c h).2.1 (hbox c h).2.2.2 (hbox c h).1 (hbox c h).2.2.1).2)
          refine ⟨τ3, _, ⟨fun a h1 h2 h3 => t2 a h1, fun j hj => t3 j (by omega)⟩, t3 0 (by omega), ?_, upA_same .., fun a ha => upA_ne _ _ ha⟩
          have v2 : ∀ n, n < 100 → (2 : Int32) ≤ nI n ∧ two n = n ∨ ¬ (2 : Int32) ≤ nI n ∧ two n = 2 := fun n hn => by
            unfold two
            by_cases q : 2 ≤ n
            · refine Or.inl ⟨show (2 : Int32) ≤ nI n from (show nI 2 ≤ nI n from by rw [nI_leI (by omega) (by omega)]; exact q), ?_⟩
              split <;> omega
            · refine Or.inr ⟨(show ¬ nI 2 ≤ nI n from nI_ge (by omega) (by omega)), ?_⟩
              split <;> omega
          have two2 : (2 : Int32) = nI 2 := rfl
          unfold f_X11_keep f_X11_keep_0
          rw [show (0 : Int32) = nI 0 from rfl, isSheet_in (u0R rυ.1 _) G hs, bind_s, if_neg (by decide), a4, bind_s, a5, show (1 : Int32) = nI 1 from rfl, in_in hg (by omega), bind_s, if_neg (by decide)]
          have row0 : τ' 102 (nI 0).toNatClampNeg = nI (R 0) := by rw [a3]; rfl
          rw [show inb (nI 0) 761 = true from by decide]
          show (if τ' 102 (nI 0).toNatClampNeg = 6 then _ else _) = _
          rw [if_neg (by rw [row0]; intro h; have h6 : nI (R 0) = nI 6 := h; rw [nI_eqI (by omega) (by omega)] at h6; exact e h6), ch, bind_s, t1, bind_s, v7, v8, v9, v10, nI_subx hLQ.1, nI_subx hLQ.2, nI_add, nI_add]
          rcases v2 (Q - L + 1) (by omega) with ⟨x1, x2⟩ | ⟨x1, x2⟩ <;> rcases v2 (B - T + 1) (by omega) with ⟨x3, x4⟩ | ⟨x3, x4⟩ <;> rw [x2, x4] at fin <;> rw [x2, x4]
          · rw [if_pos x1]; unfold f_X11_keep_j107; rw [if_pos x3]; exact fin
          · rw [if_pos x1]; unfold f_X11_keep_j107; rw [if_neg x3]; exact fin
          · rw [if_neg x1]; unfold f_X11_keep_j107; rw [if_pos x3]; exact fin
          · rw [if_neg x1]; unfold f_X11_keep_j107; rw [if_neg x3]; exact fin
    · refine step_bad (c := nI 1) I0 (by decide) (L_keep_1 (τ := τ) ?_) hFc (fun υ hυ => ?_)
      · unfold f_X10_keep f_X10_keep_0 f_X10_checkRemnant f_X10_checkRemnant_0
        rw [ckS_in c.1 G hs, bind_s, sum_r, r1, bind_s]
        change ((f_X10_isWithin x2 (nI 0) (nI m - nI 1)).bind _).bind _ = _
        rw [pred_out (by omega) hx]
        rfl
      · have hR0 : υ 102 = rwN R := by rw [hυ 102 (by omega) (by omega), hR]
        obtain ⟨τ', a1, a2, a3, a4, a5, _⟩ := ref υ hR0
        refine ⟨0, up τ' 101 0 (nI 1), ?_, Fr_t a1 (u0F _ _), up_s ..⟩
        unfold f_X11_keep f_X11_keep_0
        rw [show (0 : Int32) = nI 0 from rfl, isSheet_in (u0R hR0 _) G hs, bind_s, if_neg (by decide), a4, bind_s, a5, show (1 : Int32) = nI 1 from rfl, in_out (by omega) hx, bind_s, if_pos rfl]
        rfl
  · refine step_no I0 (L_keep_1 ?_) (by decide) ?_
    · unfold f_X10_keep f_X10_keep_0
      simp (disch := omega) only [bind_s, sum_l, sum_r, chkin, lit, nI_add, pk_mul, nI_clamp, nI_leI, nI_ltI, nI_eqI, nI_or, and1, shl1, shrx, nI_subx, pk_divx, pk_remx, nmod, nzx, if_tt, if_ff, bz_n1, bz_n0, nm1, nm2, wI_p, wI_inj, wI_n, nI_w, wI_ltI, wI_leI, nI_ltw, nI_lew, reduceIte, ckS_out c.1 hx]
    · unfold f_X11_keep f_X11_keep_0
      rw [show (0 : Int32) = nI 0 from rfl, isSheet_out (u0R hR _) G hx, bind_s, if_pos rfl]
      rfl
