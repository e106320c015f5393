/-! PURE FACTS, 34: the reference's judgement -/
variable {k : Nat} {R : Nat → Nat} {σ τ : St}
def Blk (R : Nat → Nat) (h s t : Nat) (X Y : Int64) (τ : St) (k : Nat) : Prop := fstB R h s t X Y 16 k ∧ τ 101 20 = nI 3 ∧ τ 113 0 = nI 1 ∧ τ 114 0 = nI h ∧ τ 113 1 = nI 5 ∧ τ 114 1 = nI (bc' R h t k) ∧ τ 113 2 = bkK R s (X + lN (k % tc R h t)) (Y + lN (k / tc R h t)) ∧ τ 114 2 = bkP R s (X + lN (k % tc R h t)) (Y + lN (k / tc R h t))
theorem rem_l {k w : Nat} (hk : k < 16) (hw : 1 ≤ w ∧ w ≤ 4) : (nI k - nI k / nI w * nI w).toInt64 = lN (k % w) ∧ (nI k / nI w).toInt64 = lN (k / w) := by
  have h1 := Nat.mod_lt k (show w > 0 by omega)
  have h2 := Nat.div_le_self k w
  constructor
  · rw [pk_rem (by omega) (by omega) (by omega), nI_l (by omega)]
  · rw [pk_div (by omega) (by omega) (by omega), nI_l (by omega)]
set_option maxHeartbeats 4000000 in
theorem judges_eq (hR : σ 102 = rwN R) (G : Good R) {h s t : Nat} (hh : h < R 1) (hs : s < R 0) (ht : t < 4) (hC : Cov R s (σ 111)) (x y : Int32) : ∃ τ, f_X11_judges (nI h) (nI s) x y (nI t) σ = some τ ∧ Fw σ τ ∧ τ 101 20 = nI (jn R h s t x.toInt64 y.toInt64) ∧ ∀ i, i < jn R h s t x.toInt64 y.toInt64 → τ 113 i = jk R h s t x.toInt64 y.toInt64 i ∧ τ 114 i = jp R h s t x.toInt64 y.toInt64 i := by
  have hH := GH G hh
  have hT := SM_t hH.2.1 t
  have h16 := tm_16 hH.2.1 t
  have hm := tm_lt hH.2.1 t
  have g2 := G.2.2.1
  generalize hX : x.toInt64 = X
  generalize hY : y.toInt64 = Y
  have hR1 : (up σ 101 20 (nI 0)) 102 = rwN R := by rw [up_k _ _ _ (by decide), hR]
  have hFR : ∀ τ, Fw (up σ 101 20 (nI 0)) τ → τ 102 = rwN R := fun τ F => by rw [F.1 102 (by decide) (by decide) (by decide), hR1]
  have hFC : ∀ τ, Fw (up σ 101 20 (nI 0)) τ → Cov R s (τ 111) := fun τ F => by rw [F.1 111 (by decide) (by decide) (by decide), up_k _ _ _ (by decide)]; exact hC
  have two : ∀ (c : Nat) (v : Int32), c < 100 → ∃ τ, (f_X11_why (nI 0) (nI 1) (nI h) (up σ 101 20 (nI 0))).bind (fun q => (f_X11_why (nI 1) (nI c) v q).bind fun q2 => some q2) = some τ ∧ Fw σ τ ∧ τ 101 20 = nI 2 ∧ ∀ i, i < 2 → τ 113 i = (if i = 0 then nI 1 else nI c) ∧ τ 114 i = (if i = 0 then nI h else v) := fun c v hc => by
    rw [why_eq (by decide), bind_s, why_eq (by decide), bind_s]
    refine ⟨_, rfl, Fw_t (Fw_0 σ (nI 0)) (Fw_t (Fw_w _ 0 (nI 1) (nI h) (nI (0 + 1))) (Fw_w _ 1 (nI c) v (nI (1 + 1)))), up_s .., fun i hi => ?_⟩
    have e : i = 0 ∨ i = 1 := by omega
    rcases e with rfl | rfl
    · constructor
      · rw [up_k _ _ _ (by decide), up_k _ _ _ (by decide), up_j _ _ _ (by decide), up_k _ _ _ (by decide), up_k _ _ _ (by decide), up_s, if_pos rfl]
      · rw [up_k _ _ _ (by decide), up_j _ _ _ (by decide), up_k _ _ _ (by decide), up_k _ _ _ (by decide), up_s, if_pos rfl]
    · constructor
      · rw [up_k _ _ _ (by decide), up_k _ _ _ (by decide), up_s, if_neg (by decide)]
      · rw [up_k _ _ _ (by decide), up_s, if_neg (by decide)]
  unfold f_X11_judges f_X11_judges_0
  simp only [lit]
  rw [grainR_eq hR1 G hh hs ht, bind_s]
  simp only [bN_e0]
  by_cases c1 : gr R h s t = false
  · obtain ⟨τ, a1, a2, a3, a4⟩ := two 2 (nI t) (by decide)
    have e : jn R h s t X Y = 2 := if_pos c1
    refine ⟨τ, ?_, a2, by rw [e]; exact a3, fun i hi => ?_⟩
    · rw [if_pos c1]
      exact a1
    · rw [e] at hi
      have := a4 i hi
      unfold jk jp
      have e : i = 0 ∨ i = 1 := by omega
      rcases e with rfl | rfl
      · exact this
      · simp only [c1, if_true] at *
        exact this
  · rw [if_neg c1]
    simp (disch := omega) only [nI_add, chkin, nI_clamp, hR1, rwN_a, nI_eqI]
    by_cases c2 : R (653 + h) = 0
    · rw [if_pos c2]
      have hp : ∀ v, (f_X11_why (nI 0) (nI 1) (nI h) (up σ 101 20 (nI 0))) = some v → f_X11_partsOf (nI h) v = some (nI (cnt (fun p => decide (R (661 + p) = h)) (R 2))) := fun v hv => by
        rw [why_eq (by decide)] at hv
        cases hv
        exact (partsOn_eq (by rw [up_k _ _ _ (by decide), up_k _ _ _ (by decide), up_k _ _ _ (by decide), hR1]) G (v := h) (by omega)).2
      obtain ⟨τ, a1, a2, a3, a4⟩ := two 3 (nI (cnt (fun p => decide (R (661 + p) = h)) (R 2))) (by decide)
      have e : jn R h s t X Y = 2 := by unfold jn; rw [if_neg c1, if_pos c2]
      refine ⟨τ, ?_, a2, by rw [e]; exact a3, fun i hi => ?_⟩
      · rw [← a1, why_eq (by decide), bind_s, bind_s, hp _ (why_eq (by decide) _ _), bind_s]
      · rw [e] at hi
        have := a4 i hi
        unfold jk jp
        have e : i = 0 ∨ i = 1 := by omega
        rcases e with rfl | rfl
        · exact this
        · simp only [c1, c2, if_true] at *
          exact this
    · rw [if_neg c2]
      by_cases c3 : R 2 = 20
      · rw [if_pos c3]
        obtain ⟨τ, a1, a2, a3, a4⟩ := two 4 (nI 20) (by decide)
        have e : jn R h s t X Y = 2 := by unfold jn; rw [if_neg c1, if_neg c2, if_pos c3]
        refine ⟨τ, a1, a2, by rw [e]; exact a3, fun i hi => ?_⟩
        rw [e] at hi
        have := a4 i hi
        unfold jk jp
        have e : i = 0 ∨ i = 1 := by omega
        rcases e with rfl | rfl
        · exact this
        · simp only [c1, c2, c3, if_true] at *
          exact this
      · rw [if_neg c3]
        have loop := lp_fu (f := f_X11_judges_l121 (nI h) (nI s) x y (nI (tm R h t)) (nI (tc R h t))) (fun k z => ∃ n τ, z = (nI n, nI k, τ) ∧ Fw (up σ 101 20 (nI 0)) τ ∧ n ≤ k ∧ ((τ 101 20 = nI 0 ∧ n = bc' R h t k ∧ ∀ j, j < k → bkd R h s t X Y j = false) ∨ ∃ k0, Blk R h s t X Y τ k0)) (fun τ => Fw (up σ 101 20 (nI 0)) τ ∧ ((τ 101 20 = nI 0 ∧ ∀ j, j < 16 → bkd R h s t X Y j = false) ∨ ∃ k0, Blk R h s t X Y τ k0)) 16 (by decide) (nI 0, nI 0, up σ 101 20 (nI 0)) ⟨0, _, rfl, Fw_r _, Nat.le_refl _, Or.inl ⟨up_s .., rfl, fun j hj => absurd hj (Nat.not_lt_zero _)⟩⟩ (by
          rintro k z hk ⟨n, τ, rfl, F, hn, hz⟩
          rcases hz with ⟨z1, z2, z3⟩ | ⟨k0, hb⟩
          · left
            have hs1 : bc' R h t (k + 1) = if decide (bit (tm R h t) k = 1) = true then bc' R h t k + 1 else bc' R h t k := rfl
            have hjp := judgeP_eq (hFR τ F) G (h := h) (n := n) hs (hFC τ F) (X + lN (k % tc R h t)) (Y + lN (k / tc R h t))
            obtain ⟨m1, m2⟩ := rem_l (k := k) (w := tc R h t) hk ⟨hT.1, hT.2.1⟩
            unfold f_X11_judges_l121 f_X11_judges_j175
            dsimp only
            rw [if_neg (show ¬ (16 : Int32) ≤ nI k from nI_ge (b := 16) hk (by decide)), if_pos (show τ 101 20 = (0 : Int32) from z1), has_eq (by omega) (by omega), bind_s, m1, m2, hX, hY, hjp, nzx (by omega) (by omega), nzx (by omega) (by omega), nI_1, nI_1, show (0 : Int32) = nI 0 from rfl]
            simp only [bit_e0]
            by_cases e : bit (tm R h t) k = 0
            · refine ⟨_, if_pos e, n, τ, rfl, F, by omega, Or.inl ⟨z1, ?_, fun j hj => ?_⟩⟩
              · rw [hs1, z2]
                simp [e]
              · by_cases e2 : j = k
                · subst e2; unfold bkd; simp [e]
                · exact z3 j (by omega)
            · have e1 : bit (tm R h t) k = 1 := by have := bit_lt (tm R h t) k; omega
              rw [if_neg e]
              by_cases e2 : frI R s (X + lN (k % tc R h t)) (Y + lN (k / tc R h t)) = true
              · rw [if_pos e2]
                refine ⟨_, rfl, n + 1, τ, rfl, F, by omega, Or.inl ⟨z1, ?_, fun j hj => ?_⟩⟩
                · rw [hs1, z2]
                  simp [e1]
                · by_cases e3 : j = k
                  · subst e3; unfold bkd; rw [e2, Bool.not_true, Bool.and_false]
                  · exact z3 j (by omega)
              · rw [if_neg e2]
                have e3 : bkd R h s t X Y k = true := by unfold bkd; rw [decide_eq_true e1, Bool.eq_false_iff.mpr e2]; rfl
                refine ⟨_, rfl, n + 1, _, rfl, Fw_t F (Fw_t (Fw_w _ 0 _ _ _) (Fw_t (Fw_w _ 1 _ _ _) (Fw_w _ 2 _ _ _))), by omega, Or.inr ⟨k, ⟨hk, e3, z3⟩, up_s .., ?_, ?_, ?_, ?_, ?_, ?_⟩⟩
                · rw [up_k _ _ _ (by decide), up_k _ _ _ (by decide), up_j _ _ _ (by decide), up_k _ _ _ (by decide), up_k _ _ _ (by decide), up_j _ _ _ (by decide), up_k _ _ _ (by decide), up_k _ _ _ (by decide), up_s]
                · rw [up_k _ _ _ (by decide), up_j _ _ _ (by decide), up_k _ _ _ (by decide), up_k _ _ _ (by decide), up_j _ _ _ (by decide), up_k _ _ _ (by decide), up_k _ _ _ (by decide), up_s]
                · rw [up_k _ _ _ (by decide), up_k _ _ _ (by decide), up_j _ _ _ (by decide), up_k _ _ _ (by decide), up_k _ _ _ (by decide), up_s]
                · rw [up_k _ _ _ (by decide), up_j _ _ _ (by decide), up_k _ _ _ (by decide), up_k _ _ _ (by decide), up_s, z2]
                · rw [up_k _ _ _ (by decide), up_k _ _ _ (by decide), up_s]
                · rw [up_k _ _ _ (by decide), up_s]
          · right
            refine ⟨τ, ?_, F, Or.inr ⟨k0, hb⟩⟩
            unfold f_X11_judges_l121
            dsimp only
            rw [if_neg (show ¬ (16 : Int32) ≤ nI k from nI_ge (b := 16) hk (by decide)), if_neg (show ¬ τ 101 20 = (0 : Int32) by rw [hb.2.1]; decide)]) (by
          rintro z ⟨n, τ, rfl, F, hn, hz⟩
          refine ⟨τ, ?_, F, ?_⟩
          · unfold f_X11_judges_l121
            dsimp only
            rw [if_pos (show (16 : Int32) ≤ nI 16 from nI_le (a := 16) (Nat.le_refl _) (by decide))]
          · rcases hz with ⟨z1, z2, z3⟩ | hb
            · exact Or.inl ⟨z1, z3⟩
            · exact Or.inr hb)
        obtain ⟨τ, q1, F, q2⟩ := loop
        rw [tmR_eq hR1 hH.1 hH.2.1 (by omega), bind_s, tcR_eq hR1 hH.1 (by omega), bind_s, q1, bind_s]
        refine ⟨τ, rfl, Fw_t (Fw_0 σ (nI 0)) F, ?_, ?_⟩
        · rcases q2 with ⟨z1, z2⟩ | ⟨k0, hb⟩
          · have e : jn R h s t X Y = 0 := by unfold jn; rw [if_neg c1, if_neg c2, if_neg c3, if_pos (fb_16 z2)]
            rw [e, z1]
          · have e : jn R h s t X Y = 3 := by unfold jn; rw [if_neg c1, if_neg c2, if_neg c3, fb_k hb.1, if_neg (by have := hb.1.1; omega)]
            rw [e, hb.2.1]
        · intro i hi
          rcases q2 with ⟨z1, z2⟩ | ⟨k0, hb⟩
          · have e : jn R h s t X Y = 0 := by unfold jn; rw [if_neg c1, if_neg c2, if_neg c3, if_pos (fb_16 z2)]
            omega
          · have e : jn R h s t X Y = 3 := by unfold jn; rw [if_neg c1, if_neg c2, if_neg c3, fb_k hb.1, if_neg (by have := hb.1.1; omega)]
            obtain ⟨b0, b1, b2, b3, b4, b5, b6, b7⟩ := hb
            unfold jk jp
            rw [fb_k b0]
            have ei : i = 0 ∨ i = 1 ∨ i = 2 := by omega
            rcases ei with rfl | rfl | rfl
            · exact ⟨b2, b3⟩
            · simp only [c1, c2, c3, if_false, if_true]
              exact ⟨b4, b5⟩
            · exact ⟨b6, b7⟩
