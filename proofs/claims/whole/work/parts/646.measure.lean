/-! PURE FACTS, 53: a group's bounds, as the reference finds them -/
variable {k : Nat} {R : Nat → Nat} {σ τ : St}
def MsR (P : Nat → Bool) (w i : Nat) (τ : St) : Prop := ∃ fl, Ms P w i (τ 101 30) fl (τ 101 26) (τ 101 27) (τ 101 28) (τ 101 29) 10 10
theorem bcell_eq {P : Nat → Bool} {s g c w h : Nat} (hw : 2 ≤ w ∧ w ≤ 10) (hh : h ≤ 10) (hc : c < w * h) (M : MsR P w c τ) (hp : P c = true) : ∃ τ', (if τ 101 26 ≤ nI c - nI c / nI w * nI w then f_X11_bounds_j83 (nI s) (nI g) (nI w) (nI c) (τ 101 26) τ else chk (nz (nI w)) (f_X11_bounds_j83 (nI s) (nI g) (nI w) (nI c) (nI c - nI c / nI w * nI w) τ)) = some (.inl (nI (c + 1), τ')) ∧ (∀ a, a ≠ 101 → τ' a = τ a) ∧ (∀ j, j < 26 ∨ 30 < j → τ' 101 j = τ 101 j) ∧ MsR P w (c + 1) τ' := by
  have hwh : w * h ≤ 10 * 10 := Nat.mul_le_mul hw.2 hh
  have hm := Nat.mod_lt c (show w > 0 by omega)
  have hd := Nat.div_lt_of_lt_mul hc
  obtain ⟨fl, m1, m2, m3⟩ := M
  have hcl := cnt_le P c
  have hcs : cnt P (c + 1) = cnt P c + 1 := by rw [cnt_s, hp, if_pos rfl]
  have erem : nI c - nI c / nI w * nI w = nI (c % w) := pk_rem (by omega) (by omega) (by omega)
  have ediv : nI c / nI w = nI (c / w) := pk_div (by omega) (by omega) (by omega)
  -- the four new numbers
  have step : ∃ L Q T B lo, IsB P w (c + 1) lo L Q T B ∧ (if τ 101 26 ≤ nI (c % w) then τ 101 26 else nI (c % w)) = nI L ∧ (if nI (c % w) ≤ τ 101 27 then τ 101 27 else nI (c % w)) = nI Q ∧ (if τ 101 28 ≤ nI (c / w) then τ 101 28 else nI (c / w)) = nI T ∧ (if nI (c / w) ≤ τ 101 29 then τ 101 29 else nI (c / w)) = nI B := by
    rcases Nat.eq_zero_or_pos (cnt P c) with e | e
    · obtain ⟨q1, q2, q3, q4⟩ := m2 e
      refine ⟨_, _, _, _, _, IsB_f (w := w) (cnt_0 e) hp, ?_, ?_, ?_, ?_⟩
      · rw [q1, if_neg (nI_ge (by omega) (by omega))]
      · rw [q2, if_neg]; rw [nI_lew (a := 1) (p := c % w) (by omega) (by omega)]; exact fun q => absurd (Nat.le_trans (Nat.le_add_left 2 _) q) (by decide)
      · rw [q3, if_neg (nI_ge (by omega) (by omega))]
      · rw [q4, if_neg]; rw [nI_lew (a := 1) (p := c / w) (by omega) (by omega)]; exact fun q => absurd (Nat.le_trans (Nat.le_add_left 2 _) q) (by decide)
    · obtain ⟨lo, L, Q, T, B, ib, q0, q1, q2, q3, q4⟩ := m3 e
      have hL : L < 10 := by obtain ⟨d, _, _, e2⟩ := ib.2.1; have := Nat.mod_lt d (show w > 0 by omega); omega
      have hQ : Q < 10 := by obtain ⟨d, _, _, e2⟩ := ib.2.2.1; have := Nat.mod_lt d (show w > 0 by omega); omega
      have hT : T < 10 := by obtain ⟨d, e1, _, e2⟩ := ib.2.2.2.1; have := Nat.div_lt_of_lt_mul (show d < w * h by omega); omega
      have hB : B < 10 := by obtain ⟨d, e1, _, e2⟩ := ib.2.2.2.2.1; have := Nat.div_lt_of_lt_mul (show d < w * h by omega); omega
      refine ⟨_, _, _, _, _, IsB_1 ib hp, ?_, ?_, ?_, ?_⟩
      · rw [q1]
        by_cases q : c % w < L
        · rw [if_neg (nI_ge q (by omega)), if_pos q]
        · rw [if_pos (nI_le (by omega) (by omega)), if_neg q]
      · rw [q2]
        by_cases q : Q < c % w
        · rw [if_neg (nI_ge q (by omega)), if_pos q]
        · rw [if_pos (nI_le (by omega) (by omega)), if_neg q]
      · rw [q3]
        by_cases q : c / w < T
        · rw [if_neg (nI_ge q (by omega)), if_pos q]
        · rw [if_pos (nI_le (by omega) (by omega)), if_neg q]
      · rw [q4]
        by_cases q : B < c / w
        · rw [if_neg (nI_ge q (by omega)), if_pos q]
        · rw [if_pos (nI_le (by omega) (by omega)), if_neg q]
  obtain ⟨L, Q, T, B, lo, ib, e1, e2, e3, e4⟩ := step
  have j161 : ∀ υ, υ 101 30 = τ 101 30 → f_X11_bounds_j161 (nI s) (nI g) (nI w) (nI c) (nI B) υ = some (.inl (nI (c + 1), up (up υ 101 29 (nI B)) 101 30 (nI (cnt P c + 1)))) := fun υ h => by
    unfold f_X11_bounds_j161 f_X11_bounds_j174
    rw [up_j _ _ _ (by decide), h, m1, nI_1, nI_1]
  have j135 : ∀ υ, υ 101 30 = τ 101 30 → υ 101 29 = τ 101 29 → f_X11_bounds_j135 (nI s) (nI g) (nI w) (nI c) (nI T) υ = some (.inl (nI (c + 1), up (up (up υ 101 28 (nI T)) 101 29 (nI B)) 101 30 (nI (cnt P c + 1)))) := fun υ h h2 => by
    unfold f_X11_bounds_j135
    rw [nzx (by omega) (by omega), nzx (by omega) (by omega), ediv, up_j _ _ _ (by decide), h2]
    rw [← j161 (up υ 101 28 (nI T)) (by rw [up_j _ _ _ (by decide), h]), ← e4]
    split <;> rfl
  have j109 : ∀ υ, υ 101 30 = τ 101 30 → υ 101 29 = τ 101 29 → υ 101 28 = τ 101 28 → f_X11_bounds_j109 (nI s) (nI g) (nI w) (nI c) (nI Q) υ = some (.inl (nI (c + 1), up (up (up (up υ 101 27 (nI Q)) 101 28 (nI T)) 101 29 (nI B)) 101 30 (nI (cnt P c + 1)))) := fun υ h h2 h3 => by
    unfold f_X11_bounds_j109
    rw [nzx (by omega) (by omega), nzx (by omega) (by omega), ediv, up_j _ _ _ (by decide), h3]
    rw [← j135 (up υ 101 27 (nI Q)) (by rw [up_j _ _ _ (by decide), h]) (by rw [up_j _ _ _ (by decide), h2]), ← e3]
    split <;> rfl
  have j83 : f_X11_bounds_j83 (nI s) (nI g) (nI w) (nI c) (nI L) τ = some (.inl (nI (c + 1), up (up (up (up (up τ 101 26 (nI L)) 101 27 (nI Q)) 101 28 (nI T)) 101 29 (nI B)) 101 30 (nI (cnt P c + 1)))) := by
    unfold f_X11_bounds_j83
    rw [nzx (by omega) (by omega), nzx (by omega) (by omega), erem, up_j _ _ _ (by decide)]
    rw [← j109 (up τ 101 26 (nI L)) (by rw [up_j _ _ _ (by decide)]) (by rw [up_j _ _ _ (by decide)]) (by rw [up_j _ _ _ (by decide)]), ← e2]
    split <;> rfl
  refine ⟨up (up (up (up (up τ 101 26 (nI L)) 101 27 (nI Q)) 101 28 (nI T)) 101 29 (nI B)) 101 30 (nI (cnt P c + 1)), ?_, fun a ha => ?_, fun j hj => ?_, nI lo, ?_, fun h0 => by omega, fun _ => ⟨lo, L, Q, T, B, ib, rfl, ?_, ?_, ?_, ?_⟩⟩
  · rw [nzx (by omega) (by omega), erem, ← j83, ← e1]
    split <;> rfl
  · rw [up_k _ _ _ ha, up_k _ _ _ ha, up_k _ _ _ ha, up_k _ _ _ ha, up_k _ _ _ ha]
  · rw [up_j _ _ _ (by omega), up_j _ _ _ (by omega), up_j _ _ _ (by omega), up_j _ _ _ (by omega), up_j _ _ _ (by omega)]
  · rw [up_s, hcs]
  · rw [up_j _ _ _ (by decide), up_j _ _ _ (by decide), up_j _ _ _ (by decide), up_j _ _ _ (by decide), up_s]
  · rw [up_j _ _ _ (by decide), up_j _ _ _ (by decide), up_j _ _ _ (by decide), up_s]
  · rw [up_j _ _ _ (by decide), up_j _ _ _ (by decide), up_s]
  · rw [up_j _ _ _ (by decide), up_s]
theorem boundsR_eq (hR : σ 102 = rwN R) (G : Good R) {s g : Nat} {f : Nat → Nat} (hs : s < R 0) (hg : g < 500) (hf : ∀ c, c < sc R s * sr R s → f c < 1000) (h112 : ∀ c, c < sc R s * sr R s → σ 112 c = wI (gc (f c))) : ∃ τ, f_X11_bounds (nI s) (nI g) σ = some τ ∧ (∀ a, a ≠ 101 → τ a = σ a) ∧ (∀ j, j < 26 ∨ 30 < j → τ 101 j = σ 101 j) ∧ MsR (fun c => decide (f c = g + 2)) (sc R s) (sc R s * sr R s) τ := by
  have hS := GS G hs
  obtain ⟨z0, z1, z2, z3, z4, z5, hn, _⟩ := hS
  have r3 : R (3 + s) = sc R s := rfl
  generalize hτ0 : up (up (up (up (up σ 101 26 (nI 10)) 101 27 (wI 1)) 101 28 (nI 10)) 101 29 (wI 1)) 101 30 (nI 0) = τ0
  have d0 : ∀ a, a ≠ 101 → τ0 a = σ a := fun a ha => by rw [← hτ0, up_k _ _ _ ha, up_k _ _ _ ha, up_k _ _ _ ha, up_k _ _ _ ha, up_k _ _ _ ha]
  have dj : ∀ j, j < 26 ∨ 30 < j → τ0 101 j = σ 101 j := fun j hj => by rw [← hτ0, up_j _ _ _ (by omega), up_j _ _ _ (by omega), up_j _ _ _ (by omega), up_j _ _ _ (by omega), up_j _ _ _ (by omega)]
  have M0 : MsR (fun c => decide (f c = g + 2)) (sc R s) 0 τ0 := by
    refine ⟨0, ?_, fun _ => ⟨?_, ?_, ?_, ?_⟩, fun q => absurd q (Nat.lt_irrefl _)⟩
    · rw [← hτ0, up_s]; rfl
    · rw [← hτ0, up_j _ _ _ (by decide), up_j _ _ _ (by decide), up_j _ _ _ (by decide), up_j _ _ _ (by decide), up_s]
    · rw [← hτ0, up_j _ _ _ (by decide), up_j _ _ _ (by decide), up_j _ _ _ (by decide), up_s]
    · rw [← hτ0, up_j _ _ _ (by decide), up_j _ _ _ (by decide), up_s]
    · rw [← hτ0, up_j _ _ _ (by decide), up_s]
  obtain ⟨r1, q1, q2, q3, q4⟩ := lp_fu (f := f_X11_bounds_l39 (nI s) (nI g) (nI (sc R s))) (fun c z => ∃ τ, z = (nI c, τ) ∧ (∀ a, a ≠ 101 → τ a = σ a) ∧ (∀ j, j < 26 ∨ 30 < j → τ 101 j = σ 101 j) ∧ MsR (fun c => decide (f c = g + 2)) (sc R s) c τ) (fun τ => (∀ a, a ≠ 101 → τ a = σ a) ∧ (∀ j, j < 26 ∨ 30 < j → τ 101 j = σ 101 j) ∧ MsR (fun c => decide (f c = g + 2)) (sc R s) (sc R s * sr R s) τ) (sc R s * sr R s) (by omega) (nI 0, τ0) ⟨τ0, rfl, d0, dj, M0⟩ (by
    rintro c z hc ⟨τ, rfl, e1, e2, M⟩
    left
    have hR1 : τ 102 = rwN R := by rw [e1 102 (by decide), hR]
    have hrow : τ 112 c = wI (gc (f c)) := by rw [e1 112 (by decide)]; exact h112 c hc
    have hgl : gc (f c) < 1000 := gc_lt (hf c hc) (by decide)
    have hgn := gc_n (v := f c) (g := g)
    by_cases e : f c = g + 2
    · obtain ⟨τ', a1, a2, a3, a4⟩ := bcell_eq (s := s) (g := g) ⟨z1, z2⟩ z4 hc M (decide_eq_true e)
      refine ⟨_, ?_, τ', rfl, fun a ha => by rw [a2 a ha, e1 a ha], fun j hj => by rw [a3 j hj, e2 j hj], a4⟩
      have e3 := hgn.mpr e
      unfold f_X11_bounds_l39
      dsimp only
      rw [cellsR_eq hR1 z0, bind_s, if_neg (nI_ge hc (by omega)), chkin (by omega) (by omega), nI_clamp (by omega), if_pos (show τ 112 c = nI g by rw [hrow, e3, wI_p]), nzx (by omega) (by omega)]
      exact a1
    · refine ⟨(nI (c + 1), τ), ?_, τ, rfl, e1, e2, ?_⟩
      · have e3 : ¬ gc (f c) = g + 2 := fun h => e (hgn.mp h)
        unfold f_X11_bounds_l39 f_X11_bounds_j174
        dsimp only
        simp (disch := omega) only [bind_s, sum_l, sum_r, chkin, lit, nI_add, pk_mul, nI_clamp, nI_leI, nI_ltI, nI_eqI, nI_or, and1, shl1, shrx, nI_subx, pk_divx, pk_remx, nmod, nzx, if_tt, if_ff, bz_n1, bz_n0, nm1, nm2, wI_p, wI_inj, wI_n, nI_w, wI_ltI, wI_leI, nI_ltw, nI_lew, reduceIte, cellsR_eq hR1 z0, hrow, e3, if_false]
      · obtain ⟨fl, M⟩ := M
        exact ⟨fl, Ms_0 M (decide_eq_false e)⟩) (by
    rintro z ⟨τ, rfl, e1, e2, M⟩
    have hR1 : τ 102 = rwN R := by rw [e1 102 (by decide), hR]
    refine ⟨τ, ?_, e1, e2, M⟩
    unfold f_X11_bounds_l39
    dsimp only
    simp (disch := omega) only [bind_s, sum_l, sum_r, chkin, lit, nI_add, pk_mul, nI_clamp, nI_leI, nI_ltI, nI_eqI, nI_or, and1, shl1, shrx, nI_subx, pk_divx, pk_remx, nmod, nzx, if_tt, if_ff, bz_n1, bz_n0, nm1, nm2, wI_p, wI_inj, wI_n, nI_w, wI_ltI, wI_leI, nI_ltw, nI_lew, reduceIte, cellsR_eq hR1 z0])
  refine ⟨r1, ?_, q2, q3, q4⟩
  unfold f_X11_bounds f_X11_bounds_0
  rw [show (-1 : Int32) = wI 1 from rfl, show (0 : Int32) = nI 0 from rfl, show (10 : Int32) = nI 10 from rfl, hτ0]
  simp (disch := omega) only [bind_s, sum_l, sum_r, chkin, lit, nI_add, pk_mul, nI_clamp, nI_leI, nI_ltI, nI_eqI, nI_or, and1, shl1, shrx, nI_subx, pk_divx, pk_remx, nmod, nzx, if_tt, if_ff, bz_n1, bz_n0, nm1, nm2, wI_p, wI_inj, wI_n, nI_w, wI_ltI, wI_leI, nI_ltw, nI_lew, reduceIte, hR, rwN_a, r3, q1]
theorem lowestOf_eq {n g lo : Nat} {f : Nat → Nat} (hn : n ≤ 100) (hg : g < 500) (hf : ∀ c, c < n → f c < 1000) (h112 : ∀ c, c < n → σ 112 c = wI (gc (f c))) (hl : lo < n) (h1 : f lo = g + 2) (h2 : ∀ c, c < n → f c = g + 2 → lo ≤ c) : f_X11_lowestOf (nI g) σ = some (nI lo) := by
  unfold f_X11_lowestOf f_X11_lowestOf_0
  have := lp_ex (f := f_X11_lowestOf_l2 (nI g) σ) (fun i => nI i) (nI lo) lo (by omega) (fun i hi => by
    have hrow := h112 i (by omega)
    have hgl : gc (f i) < 1000 := gc_lt (hf i (by omega)) (by decide)
    have e3 : ¬ gc (f i) = g + 2 := fun h => by have := h2 i (by omega) (gc_n.mp h); omega
    unfold f_X11_lowestOf_l2
    simp (disch := omega) only [bind_s, sum_l, sum_r, chkin, lit, nI_add, pk_mul, nI_clamp, nI_leI, nI_ltI, nI_eqI, nI_or, and1, shl1, shrx, nI_subx, pk_divx, pk_remx, nmod, nzx, if_tt, if_ff, bz_n1, bz_n0, nm1, nm2, wI_p, wI_inj, wI_n, nI_w, wI_ltI, wI_leI, nI_ltw, nI_lew, reduceIte, hrow, e3, if_false]) (by
    have hrow := h112 lo hl
    have e3 := gc_n.mpr h1
    rw [e3, wI_p] at hrow
    unfold f_X11_lowestOf_l2
    simp (disch := omega) only [bind_s, sum_l, sum_r, chkin, lit, nI_add, pk_mul, nI_clamp, nI_leI, nI_ltI, nI_eqI, nI_or, and1, shl1, shrx, nI_subx, pk_divx, pk_remx, nmod, nzx, if_tt, if_ff, bz_n1, bz_n0, nm1, nm2, wI_p, wI_inj, wI_n, nI_w, wI_ltI, wI_leI, nI_ltw, nI_lew, reduceIte, hrow])
  simp (disch := omega) only [bind_s, sum_l, sum_r, chkin, lit, nI_add, pk_mul, nI_clamp, nI_leI, nI_ltI, nI_eqI, nI_or, and1, shl1, shrx, nI_subx, pk_divx, pk_remx, nmod, nzx, if_tt, if_ff, bz_n1, bz_n0, nm1, nm2, wI_p, wI_inj, wI_n, nI_w, wI_ltI, wI_leI, nI_ltw, nI_lew, reduceIte, this]
