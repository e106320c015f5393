/-! PURE FACTS, 52: a remnant measured -/
variable {k : Nat} {R : Nat → Nat} {σ τ : St}
/-- the bounds of the cells below i that P holds of, and the lowest of them -/
def IsB (P : Nat → Bool) (w i lo L Q T B : Nat) : Prop := (∀ c, c < i → P c = true → L ≤ c % w ∧ c % w ≤ Q ∧ T ≤ c / w ∧ c / w ≤ B ∧ lo ≤ c) ∧ (∃ c, c < i ∧ P c = true ∧ c % w = L) ∧ (∃ c, c < i ∧ P c = true ∧ c % w = Q) ∧ (∃ c, c < i ∧ P c = true ∧ c / w = T) ∧ (∃ c, c < i ∧ P c = true ∧ c / w = B) ∧ lo < i ∧ P lo = true
theorem IsB_u {P : Nat → Bool} {w i lo L Q T B lo' L' Q' T' B' : Nat} (a : IsB P w i lo L Q T B) (b : IsB P w i lo' L' Q' T' B') : lo = lo' ∧ L = L' ∧ Q = Q' ∧ T = T' ∧ B = B' := by
  obtain ⟨a0, ⟨c1, c1a, c1b, c1c⟩, ⟨c2, c2a, c2b, c2c⟩, ⟨c3, c3a, c3b, c3c⟩, ⟨c4, c4a, c4b, c4c⟩, a5, a6⟩ := a
  obtain ⟨b0, ⟨d1, d1a, d1b, d1c⟩, ⟨d2, d2a, d2b, d2c⟩, ⟨d3, d3a, d3b, d3c⟩, ⟨d4, d4a, d4b, d4c⟩, b5, b6⟩ := b
  have x1 := b0 c1 c1a c1b
  have x2 := b0 c2 c2a c2b
  have x3 := b0 c3 c3a c3b
  have x4 := b0 c4 c4a c4b
  have x5 := b0 lo a5 a6
  have y1 := a0 d1 d1a d1b
  have y2 := a0 d2 d2a d2b
  have y3 := a0 d3 d3a d3b
  have y4 := a0 d4 d4a d4b
  have y5 := a0 lo' b5 b6
  exact ⟨by omega, by omega, by omega, by omega, by omega⟩
theorem IsB_0 {P : Nat → Bool} {w i lo L Q T B : Nat} (a : IsB P w i lo L Q T B) (h : P i = false) : IsB P w (i + 1) lo L Q T B := by
  obtain ⟨a0, ⟨c1, c1a, c1b⟩, ⟨c2, c2a, c2b⟩, ⟨c3, c3a, c3b⟩, ⟨c4, c4a, c4b⟩, a5, a6⟩ := a
  refine ⟨fun c hc hp => ?_, ⟨c1, by omega, c1b⟩, ⟨c2, by omega, c2b⟩, ⟨c3, by omega, c3b⟩, ⟨c4, by omega, c4b⟩, by omega, a6⟩
  by_cases e : c = i
  · subst e; rw [h] at hp; cases hp
  · exact a0 c (by omega) hp
theorem IsB_f {P : Nat → Bool} {w i : Nat} (h0 : ∀ c, c < i → P c = false) (h : P i = true) : IsB P w (i + 1) i (i % w) (i % w) (i / w) (i / w) := by
  refine ⟨fun c hc hp => ?_, ⟨i, by omega, h, rfl⟩, ⟨i, by omega, h, rfl⟩, ⟨i, by omega, h, rfl⟩, ⟨i, by omega, h, rfl⟩, by omega, h⟩
  by_cases e : c = i
  · subst e; exact ⟨Nat.le_refl _, Nat.le_refl _, Nat.le_refl _, Nat.le_refl _, Nat.le_refl _⟩
  · rw [h0 c (by omega)] at hp; cases hp
theorem IsB_1 {P : Nat → Bool} {w i lo L Q T B : Nat} (a : IsB P w i lo L Q T B) (h : P i = true) : IsB P w (i + 1) lo (if i % w < L then i % w else L) (if Q < i % w then i % w else Q) (if i / w < T then i / w else T) (if B < i / w then i / w else B) := by
  obtain ⟨a0, ⟨c1, c1a, c1b, c1c⟩, ⟨c2, c2a, c2b, c2c⟩, ⟨c3, c3a, c3b, c3c⟩, ⟨c4, c4a, c4b, c4c⟩, a5, a6⟩ := a
  refine ⟨fun c hc hp => ?_, ?_, ?_, ?_, ?_, by omega, a6⟩
  · by_cases e : c = i
    · subst e
      refine ⟨?_, ?_, ?_, ?_, by omega⟩ <;> (split <;> omega)
    · have := a0 c (by omega) hp
      refine ⟨?_, ?_, ?_, ?_, by omega⟩ <;> (split <;> omega)
  · split
    · exact ⟨i, by omega, h, rfl⟩
    · exact ⟨c1, by omega, c1b, c1c⟩
  · split
    · exact ⟨i, by omega, h, rfl⟩
    · exact ⟨c2, by omega, c2b, c2c⟩
  · split
    · exact ⟨i, by omega, h, rfl⟩
    · exact ⟨c3, by omega, c3b, c3c⟩
  · split
    · exact ⟨i, by omega, h, rfl⟩
    · exact ⟨c4, by omega, c4b, c4c⟩
theorem cnt_0 {P : Nat → Bool} {n : Nat} (h : cnt P n = 0) : ∀ c, c < n → P c = false := by
  induction n with
  | zero => intro c hc; exact absurd hc (Nat.not_lt_zero _)
  | succ n ih =>
    rw [cnt_s] at h
    intro c hc
    cases e : P n with
    | true => rw [e, if_pos rfl] at h; omega
    | false =>
      rw [e, if_neg Bool.false_ne_true] at h
      by_cases e2 : c = n
      · subst e2; exact e
      · exact ih h c (by omega)
/-- the measures kept in the fields from b on of cell k -/
def Ms (P : Nat → Bool) (w i : Nat) (fn fl fL fQ fT fB : Int32) (iw ih : Nat) : Prop := fn = nI (cnt P i) ∧ (cnt P i = 0 → fL = nI iw ∧ fQ = wI 1 ∧ fT = nI ih ∧ fB = wI 1) ∧ (0 < cnt P i → ∃ lo L Q T B, IsB P w i lo L Q T B ∧ fl = nI lo ∧ fL = nI L ∧ fQ = nI Q ∧ fT = nI T ∧ fB = nI B)
theorem RemS_ne {w h i m r : Nat} {f0 f : Nat → Nat} (h0 : ∀ c, c < w * h → f0 c ≤ 1) (hi : i ≤ w * h) (A : RemS w (w * h) f0 i f m) (hr : r < m) : ∃ c, c < w * h ∧ f c = r + 2 := by
  induction i generalizing f m with
  | zero => have := A.2; omega
  | succ i ih =>
    obtain ⟨f', m', a1, a2⟩ := A
    have hb := (RemS_b h0 a1).2
    rcases a2 with ⟨x1, x2, x3⟩ | ⟨x1, x2, x3⟩
    · by_cases e : r = m'
      · exact ⟨i, by omega, by rw [e]; exact (x3 i (by omega)).1 (Rch_s ⟨rfl, x1⟩)⟩
      · obtain ⟨c, hc, hc2⟩ := ih (by omega) a1 (by omega)
        refine ⟨c, hc, ?_⟩
        have : ¬ Rch w (w * h) (fun c => f' c = 1) (fun c => c = i ∧ f' c = 1) c := fun hr => by
          have := hr (fun c => f' c = 1) (fun a ha => ha.2) (fun a b _ _ ho => ho)
          have : f' c = 1 := this
          omega
        rw [(x3 c hc).2 this, hc2]
    · obtain ⟨c, hc, hc2⟩ := ih (by omega) a1 (by omega)
      exact ⟨c, hc, by rw [x3 c hc, hc2]⟩
theorem cnt_pos {P : Nat → Bool} {n c : Nat} (hc : c < n) (h : P c = true) : 0 < cnt P n := by
  rcases Nat.eq_zero_or_pos (cnt P n) with e | e
  · rw [cnt_0 e c hc] at h; cases h
  · exact e
/-- what the measuring of one more cell does to the class's fields -/
theorem mcell_eq {P : Nat → Bool} {w h x y : Nat} (hw : w ≤ 10) (hh : h ≤ 10) (hx : x < w) (hy : y < h) (h2 : τ 89 2 = nI w) (M : Ms P w (w * y + x) (τ 89 5) (τ 89 6) (τ 89 7) (τ 89 8) (τ 89 9) (τ 89 10) w h) (hp : P (w * y + x) = true) : ∃ τ', f_X4_measureCell (nI x) (nI y) τ = some τ' ∧ (∀ a, a ≠ 89 → τ' a = τ a) ∧ (∀ j, j < 5 ∨ 10 < j → τ' 89 j = τ 89 j) ∧ Ms P w (w * y + (x + 1)) (τ' 89 5) (τ' 89 6) (τ' 89 7) (τ' 89 8) (τ' 89 9) (τ' 89 10) w h := by
  have hwh : w * h ≤ 10 * 10 := Nat.mul_le_mul hw hh
  have hlt := xy_lt hx hy
  have hmod := lin_mod (w := w) (y := y) hx
  have hdiv := lin_div (w := w) (y := y) hx
  obtain ⟨m1, m2, m3⟩ := M
  have hcl := cnt_le P (w * y + x)
  have hcs : cnt P (w * y + (x + 1)) = cnt P (w * y + x) + 1 := by rw [← Nat.add_assoc, cnt_s, hp, if_pos rfl]
  rcases Nat.eq_zero_or_pos (cnt P (w * y + x)) with e | e
  · obtain ⟨q1, q2, q3, q4⟩ := m2 e
    rw [e] at m1
    refine ⟨up (up (up (up (up (up τ 89 6 (nI (x + w * y))) 89 5 (nI 1)) 89 7 (nI x)) 89 8 (nI x)) 89 9 (nI y)) 89 10 (nI y), ?_, fun a ha => by rw [up_k _ _ _ ha, up_k _ _ _ ha, up_k _ _ _ ha, up_k _ _ _ ha, up_k _ _ _ ha, up_k _ _ _ ha], fun j hj => by rw [up_j _ _ _ (by omega), up_j _ _ _ (by omega), up_j _ _ _ (by omega), up_j _ _ _ (by omega), up_j _ _ _ (by omega), up_j _ _ _ (by omega)], ?_, fun h0 => by omega, fun _ => ⟨w * y + x, x, x, y, y, ?_, ?_, ?_, ?_, ?_, ?_⟩⟩
    · unfold f_X4_measureCell f_X4_measureCell_0 f_X4_measureCell_j19
      have s5 : (up τ 89 6 (nI (x + w * y))) 89 5 = nI 0 := by rw [up_j _ _ _ (by decide), m1]
      have s7 : (up (up τ 89 6 (nI (x + w * y))) 89 5 (nI 1)) 89 7 = nI w := by rw [up_j _ _ _ (by decide), up_j _ _ _ (by decide), q1]
      have s8 : (up (up (up τ 89 6 (nI (x + w * y))) 89 5 (nI 1)) 89 7 (nI x)) 89 8 = wI 1 := by rw [up_j _ _ _ (by decide), up_j _ _ _ (by decide), up_j _ _ _ (by decide), q2]
      have s9 : (up (up (up (up τ 89 6 (nI (x + w * y))) 89 5 (nI 1)) 89 7 (nI x)) 89 8 (nI x)) 89 9 = nI h := by rw [up_j _ _ _ (by decide), up_j _ _ _ (by decide), up_j _ _ _ (by decide), up_j _ _ _ (by decide), q3]
      have s10 : (up (up (up (up (up τ 89 6 (nI (x + w * y))) 89 5 (nI 1)) 89 7 (nI x)) 89 8 (nI x)) 89 9 (nI y)) 89 10 = wI 1 := by rw [up_j _ _ _ (by decide), up_j _ _ _ (by decide), up_j _ _ _ (by decide), up_j _ _ _ (by decide), up_j _ _ _ (by decide), q4]
      simp (disch := omega) only [bind_s, sum_l, sum_r, chkin, lit, nI_add, pk_mul, nI_clamp, nI_leI, nI_ltI, nI_eqI, nI_or, and1, shl1, shrx, nI_subx, pk_divx, pk_remx, nmod, nzx, if_tt, if_ff, bz_n1, bz_n0, nm1, nm2, wI_p, wI_inj, wI_n, nI_w, wI_ltI, wI_leI, nI_ltw, nI_lew, reduceIte, m1, h2, s5, s7, s8, s9, s10]
    · rw [up_j _ _ _ (by decide), up_j _ _ _ (by decide), up_j _ _ _ (by decide), up_j _ _ _ (by decide), up_s, hcs, e]
    · have := IsB_f (w := w) (cnt_0 e) hp
      rw [hmod, hdiv] at this
      exact this
    · rw [up_j _ _ _ (by decide), up_j _ _ _ (by decide), up_j _ _ _ (by decide), up_j _ _ _ (by decide), up_j _ _ _ (by decide), up_s, Nat.add_comm]
    · rw [up_j _ _ _ (by decide), up_j _ _ _ (by decide), up_j _ _ _ (by decide), up_s]
    · rw [up_j _ _ _ (by decide), up_j _ _ _ (by decide), up_s]
    · rw [up_j _ _ _ (by decide), up_s]
    · rw [up_s]
  · obtain ⟨lo, L, Q, T, B, ib, q0, q1, q2, q3, q4⟩ := m3 e
    have ib2 := IsB_1 ib hp
    rw [hmod, hdiv] at ib2
    have hL : L < 10 := by obtain ⟨c, _, _, e2⟩ := ib.2.1; have := Nat.mod_lt c (show w > 0 by omega); omega
    have hQ : Q < 10 := by obtain ⟨c, _, _, e2⟩ := ib.2.2.1; have := Nat.mod_lt c (show w > 0 by omega); omega
    have hT : T < 10 := by obtain ⟨c, e1, _, e2⟩ := ib.2.2.2.1; have := Nat.div_lt_of_lt_mul (show c < w * h by omega); omega
    have hB : B < 10 := by obtain ⟨c, e1, _, e2⟩ := ib.2.2.2.2.1; have := Nat.div_lt_of_lt_mul (show c < w * h by omega); omega
    have hcn : cnt P (w * y + x) < 200 := by omega
    generalize hn : cnt P (w * y + x) = n at *
    have v7 : (if nI x < nI L then nI x else nI L) = nI (if x < L then x else L) := by
      by_cases q : x < L
      · rw [if_pos (nI_lt q (by omega)), if_pos q]
      · rw [if_neg (nI_nlt (by omega) (by omega)), if_neg q]
    have v8 : (if nI Q < nI x then nI x else nI Q) = nI (if Q < x then x else Q) := by
      by_cases q : Q < x
      · rw [if_pos (nI_lt q (by omega)), if_pos q]
      · rw [if_neg (nI_nlt (by omega) (by omega)), if_neg q]
    have v9 : (if nI y < nI T then nI y else nI T) = nI (if y < T then y else T) := by
      by_cases q : y < T
      · rw [if_pos (nI_lt q (by omega)), if_pos q]
      · rw [if_neg (nI_nlt (by omega) (by omega)), if_neg q]
    have v10 : (if nI B < nI y then nI y else nI B) = nI (if B < y then y else B) := by
      by_cases q : B < y
      · rw [if_pos (nI_lt q (by omega)), if_pos q]
      · rw [if_neg (nI_nlt (by omega) (by omega)), if_neg q]
    generalize (if x < L then x else L) = L' at *
    generalize (if Q < x then x else Q) = Q' at *
    generalize (if y < T then y else T) = T' at *
    generalize (if B < y then y else B) = B' at *
    refine ⟨up (up (up (up (up τ 89 5 (nI (n + 1))) 89 7 (nI L')) 89 8 (nI Q')) 89 9 (nI T')) 89 10 (nI B'), ?_, fun a ha => by rw [up_k _ _ _ ha, up_k _ _ _ ha, up_k _ _ _ ha, up_k _ _ _ ha, up_k _ _ _ ha], fun j hj => by rw [up_j _ _ _ (by omega), up_j _ _ _ (by omega), up_j _ _ _ (by omega), up_j _ _ _ (by omega), up_j _ _ _ (by omega)], ?_, fun h0 => by omega, fun _ => ⟨lo, L', Q', T', B', ib2, ?_, ?_, ?_, ?_, ?_⟩⟩
    · unfold f_X4_measureCell f_X4_measureCell_0 f_X4_measureCell_j19
      have s7 : (up τ 89 5 (nI (n + 1))) 89 7 = nI L := by rw [up_j _ _ _ (by decide), q1]
      have s8 : (up (up τ 89 5 (nI (n + 1))) 89 7 (nI L')) 89 8 = nI Q := by rw [up_j _ _ _ (by decide), up_j _ _ _ (by decide), q2]
      have s9 : (up (up (up τ 89 5 (nI (n + 1))) 89 7 (nI L')) 89 8 (nI Q')) 89 9 = nI T := by rw [up_j _ _ _ (by decide), up_j _ _ _ (by decide), up_j _ _ _ (by decide), q3]
      have s10 : (up (up (up (up τ 89 5 (nI (n + 1))) 89 7 (nI L')) 89 8 (nI Q')) 89 9 (nI T')) 89 10 = nI B := by rw [up_j _ _ _ (by decide), up_j _ _ _ (by decide), up_j _ _ _ (by decide), up_j _ _ _ (by decide), q4]
      have z0 : ¬ τ 89 5 = (0 : Int32) := by rw [m1]; exact nI_ne0 e (by omega)
      rw [if_neg z0, m1, nI_1, s7, v7, s8, v8, s9, v9, s10, v10]
    · rw [up_j _ _ _ (by decide), up_j _ _ _ (by decide), up_j _ _ _ (by decide), up_j _ _ _ (by decide), up_s, hcs]
    · rw [up_j _ _ _ (by decide), up_j _ _ _ (by decide), up_j _ _ _ (by decide), up_j _ _ _ (by decide), up_j _ _ _ (by decide), q0]
    · rw [up_j _ _ _ (by decide), up_j _ _ _ (by decide), up_j _ _ _ (by decide), up_s]
    · rw [up_j _ _ _ (by decide), up_j _ _ _ (by decide), up_s]
    · rw [up_j _ _ _ (by decide), up_s]
    · rw [up_s]
theorem Ms_0 {P : Nat → Bool} {w i iw ih : Nat} {a b c d e f : Int32} (M : Ms P w i a b c d e f iw ih) (h : P i = false) : Ms P w (i + 1) a b c d e f iw ih := by
  have hs : cnt P (i + 1) = cnt P i := by rw [cnt_s, h, if_neg Bool.false_ne_true]
  unfold Ms at *
  rw [hs]
  refine ⟨M.1, M.2.1, fun q => ?_⟩
  obtain ⟨lo, L, Q, T, B, ib, r⟩ := M.2.2 q
  exact ⟨lo, L, Q, T, B, IsB_0 ib h, r⟩
theorem measC_eq {w h r : Nat} {f : Nat → Nat} (hw : 2 ≤ w ∧ w ≤ 10) (hh : 2 ≤ h ∧ h ≤ 10) (G1 : Rg w h f τ) (hf : ∀ c, c < w * h → f c < 1000) (hr : r < 500) : ∃ τ', f_X4_measure (nI r) τ = some τ' ∧ (∀ a, a ≠ 89 → τ' a = τ a) ∧ (∀ j, j < 5 ∨ 10 < j → τ' 89 j = τ 89 j) ∧ Ms (fun c => decide (f c = r + 2)) w (w * h) (τ' 89 5) (τ' 89 6) (τ' 89 7) (τ' 89 8) (τ' 89 9) (τ' 89 10) w h := by
  have hwh : w * h ≤ 10 * 10 := Nat.mul_le_mul hw.2 hh.2
  obtain ⟨g1, g2, g3⟩ := G1
  have i5 : (up (up τ 89 5 (nI 0)) 89 6 (wI 1)) 89 2 = nI w := by rw [up_j _ _ _ (by decide), up_j _ _ _ (by decide), g1]
  have i9 : (up (up (up (up τ 89 5 (nI 0)) 89 6 (wI 1)) 89 7 (nI w)) 89 8 (wI 1)) 89 3 = nI h := by rw [up_j _ _ _ (by decide), up_j _ _ _ (by decide), up_j _ _ _ (by decide), up_j _ _ _ (by decide), g2]
  generalize hτ0 : up (up (up (up (up (up τ 89 5 (nI 0)) 89 6 (wI 1)) 89 7 (nI w)) 89 8 (wI 1)) 89 9 (nI h)) 89 10 (wI 1) = τ0
  have d0 : ∀ a, a ≠ 89 → τ0 a = τ a := fun a ha => by rw [← hτ0, up_k _ _ _ ha, up_k _ _ _ ha, up_k _ _ _ ha, up_k _ _ _ ha, up_k _ _ _ ha, up_k _ _ _ ha]
  have dj : ∀ j, j < 5 ∨ 10 < j → τ0 89 j = τ 89 j := fun j hj => by rw [← hτ0, up_j _ _ _ (by omega), up_j _ _ _ (by omega), up_j _ _ _ (by omega), up_j _ _ _ (by omega), up_j _ _ _ (by omega), up_j _ _ _ (by omega)]
  have M0 : Ms (fun c => decide (f c = r + 2)) w 0 (τ0 89 5) (τ0 89 6) (τ0 89 7) (τ0 89 8) (τ0 89 9) (τ0 89 10) w h := by
    refine ⟨?_, fun _ => ⟨?_, ?_, ?_, ?_⟩, fun q => absurd q (Nat.lt_irrefl _)⟩
    · rw [← hτ0, up_j _ _ _ (by decide), up_j _ _ _ (by decide), up_j _ _ _ (by decide), up_j _ _ _ (by decide), up_j _ _ _ (by decide), up_s]; rfl
    · rw [← hτ0, up_j _ _ _ (by decide), up_j _ _ _ (by decide), up_j _ _ _ (by decide), up_s]
    · rw [← hτ0, up_j _ _ _ (by decide), up_j _ _ _ (by decide), up_s]
    · rw [← hτ0, up_j _ _ _ (by decide), up_s]
    · rw [← hτ0, up_s]
  have hG : ∀ τ', (∀ a, a ≠ 89 → τ' a = τ a) → (∀ j, j < 5 ∨ 10 < j → τ' 89 j = τ 89 j) → Rg w h f τ' := fun τ' e1 e2 => ⟨by rw [e2 2 (by omega), g1], by rw [e2 3 (by omega), g2], fun c hc => by rw [e1 90 (by decide)]; exact g3 c hc⟩
  obtain ⟨r1, q1, q2, q3, q4⟩ := lp_fu (f := f_X4_measure_l38 (nI r)) (fun y z => ∃ τ', z = (nI y, τ') ∧ (∀ a, a ≠ 89 → τ' a = τ a) ∧ (∀ j, j < 5 ∨ 10 < j → τ' 89 j = τ 89 j) ∧ Ms (fun c => decide (f c = r + 2)) w (w * y) (τ' 89 5) (τ' 89 6) (τ' 89 7) (τ' 89 8) (τ' 89 9) (τ' 89 10) w h) (fun τ' => (∀ a, a ≠ 89 → τ' a = τ a) ∧ (∀ j, j < 5 ∨ 10 < j → τ' 89 j = τ 89 j) ∧ Ms (fun c => decide (f c = r + 2)) w (w * h) (τ' 89 5) (τ' 89 6) (τ' 89 7) (τ' 89 8) (τ' 89 9) (τ' 89 10) w h) h (by omega) (nI 0, τ0) ⟨τ0, rfl, d0, dj, by rw [Nat.mul_zero]; exact M0⟩ (by
    rintro y z hy ⟨τ1, rfl, e1, e2, M⟩
    left
    obtain ⟨r2, p1, p2, p3, p4⟩ := lp_fu (f := f_X4_measure_l48 (nI r) (nI y)) (fun x z => ∃ τ', z = (nI x, τ') ∧ (∀ a, a ≠ 89 → τ' a = τ a) ∧ (∀ j, j < 5 ∨ 10 < j → τ' 89 j = τ 89 j) ∧ Ms (fun c => decide (f c = r + 2)) w (w * y + x) (τ' 89 5) (τ' 89 6) (τ' 89 7) (τ' 89 8) (τ' 89 9) (τ' 89 10) w h) (fun τ' => (∀ a, a ≠ 89 → τ' a = τ a) ∧ (∀ j, j < 5 ∨ 10 < j → τ' 89 j = τ 89 j) ∧ Ms (fun c => decide (f c = r + 2)) w (w * (y + 1)) (τ' 89 5) (τ' 89 6) (τ' 89 7) (τ' 89 8) (τ' 89 9) (τ' 89 10) w h) w (by omega) (nI 0, τ1) ⟨τ1, rfl, e1, e2, M⟩ (by
      rintro x z hx ⟨τ2, rfl, e3, e4, M2⟩
      left
      have hlt := xy_lt hx hy
      have G2 := hG τ2 e3 e4
      have hl := label_in G2 (by omega) hlt
      rw [Nat.add_comm (w * y)] at hl
      have hfc := hf _ hlt
      by_cases e : f (w * y + x) = r + 2
      · obtain ⟨τ3, c1, c2, c3, c4⟩ := mcell_eq hw.2 hh.2 hx hy G2.1 M2 (decide_eq_true e)
        refine ⟨(nI (x + 1), τ3), ?_, τ3, rfl, fun a ha => by rw [c2 a ha, e3 a ha], fun j hj => by rw [c3 j hj, e4 j hj], c4⟩
        unfold f_X4_measure_l48 f_X4_measure_j78
        dsimp only
        rw [Nat.add_comm (w * y)] at e hfc
        simp (disch := omega) only [bind_s, sum_l, sum_r, chkin, lit, nI_add, pk_mul, nI_clamp, nI_leI, nI_ltI, nI_eqI, nI_or, and1, shl1, shrx, nI_subx, pk_divx, pk_remx, nmod, nzx, if_tt, if_ff, bz_n1, bz_n0, nm1, nm2, wI_p, wI_inj, wI_n, nI_w, wI_ltI, wI_leI, nI_ltw, nI_lew, reduceIte, G2.1, hl, e, c1]
      · refine ⟨(nI (x + 1), τ2), ?_, τ2, rfl, e3, e4, Ms_0 M2 (decide_eq_false e)⟩
        unfold f_X4_measure_l48 f_X4_measure_j78
        dsimp only
        rw [Nat.add_comm (w * y)] at e hfc
        simp (disch := omega) only [bind_s, sum_l, sum_r, chkin, lit, nI_add, pk_mul, nI_clamp, nI_leI, nI_ltI, nI_eqI, nI_or, and1, shl1, shrx, nI_subx, pk_divx, pk_remx, nmod, nzx, if_tt, if_ff, bz_n1, bz_n0, nm1, nm2, wI_p, wI_inj, wI_n, nI_w, wI_ltI, wI_leI, nI_ltw, nI_lew, reduceIte, G2.1, hl, e]) (by
      rintro z ⟨τ2, rfl, e3, e4, M2⟩
      refine ⟨τ2, ?_, e3, e4, by rw [Nat.mul_succ]; exact M2⟩
      have := (hG τ2 e3 e4).1
      unfold f_X4_measure_l48
      dsimp only
      simp (disch := omega) only [bind_s, sum_l, sum_r, chkin, lit, nI_add, pk_mul, nI_clamp, nI_leI, nI_ltI, nI_eqI, nI_or, and1, shl1, shrx, nI_subx, pk_divx, pk_remx, nmod, nzx, if_tt, if_ff, bz_n1, bz_n0, nm1, nm2, wI_p, wI_inj, wI_n, nI_w, wI_ltI, wI_leI, nI_ltw, nI_lew, reduceIte, this])
    refine ⟨(nI (y + 1), r2), ?_, r2, rfl, p2, p3, p4⟩
    have := (hG τ1 e1 e2).2.1
    unfold f_X4_measure_l38
    dsimp only
    simp (disch := omega) only [bind_s, sum_l, sum_r, chkin, lit, nI_add, pk_mul, nI_clamp, nI_leI, nI_ltI, nI_eqI, nI_or, and1, shl1, shrx, nI_subx, pk_divx, pk_remx, nmod, nzx, if_tt, if_ff, bz_n1, bz_n0, nm1, nm2, wI_p, wI_inj, wI_n, nI_w, wI_ltI, wI_leI, nI_ltw, nI_lew, reduceIte, this, p1]) (by
    rintro z ⟨τ1, rfl, e1, e2, M⟩
    refine ⟨τ1, ?_, e1, e2, M⟩
    have := (hG τ1 e1 e2).2.1
    unfold f_X4_measure_l38
    dsimp only
    simp (disch := omega) only [bind_s, sum_l, sum_r, chkin, lit, nI_add, pk_mul, nI_clamp, nI_leI, nI_ltI, nI_eqI, nI_or, and1, shl1, shrx, nI_subx, pk_divx, pk_remx, nmod, nzx, if_tt, if_ff, bz_n1, bz_n0, nm1, nm2, wI_p, wI_inj, wI_n, nI_w, wI_ltI, wI_leI, nI_ltw, nI_lew, reduceIte, this])
  refine ⟨r1, ?_, q2, q3, q4⟩
  unfold f_X4_measure f_X4_measure_0
  rw [show (-1 : Int32) = wI 1 from rfl, show (0 : Int32) = nI 0 from rfl, i5, i9, hτ0, q1]
  rfl
