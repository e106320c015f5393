/-! PURE FACTS, 87: the way, the reference's shortest -/
variable {R : Nat → Nat} {σ τ : St} {s : Nat}
theorem nI_pm (D : Nat) : nI D + (-1) = wI (D + 1) := by
  rcases Nat.eq_zero_or_pos D with h | h
  · subst h; decide
  · rw [nI_dec h, ← wI_p, show D - 1 + 2 = D + 1 by omega]
theorem restR_eq {M : Nat → Nat} (G : Good R) (hs : s < R 0) (hM : InnM R s M) (hk9 : sk R s ≤ 9) (L : LfR R s M σ) : ∃ τ, lp (f_X11_shortest_l11 (nI s) (nI (2 ^ sk R s - 1))) FU (nI (2 ^ sk R s - 1), σ) = some τ ∧ TabR R s M 0 (τ 120) ∧ ∀ a, a ≠ 120 → τ a = σ a := by
  have h9 : 2 ^ sk R s ≤ 2 ^ 9 := Nat.pow_le_pow_right (by decide) hk9
  have h1 : 1 ≤ 2 ^ sk R s := Nat.one_le_two_pow
  obtain ⟨v, q1, q2, q3⟩ := lp_fu (f := f_X11_shortest_l11 (nI s) (nI (2 ^ sk R s - 1))) (fun i z => ∃ τ, z = (wI (2 ^ sk R s + 1 - i), τ) ∧ TabR R s M (2 ^ sk R s - i) (τ 120) ∧ ∀ a, a ≠ 120 → τ a = σ a) (fun τ => TabR R s M 0 (τ 120) ∧ ∀ a, a ≠ 120 → τ a = σ a) (2 ^ sk R s) (by omega) (nI (2 ^ sk R s - 1), σ) ⟨σ, by rw [← wI_p, show 2 ^ sk R s - 1 + 2 = 2 ^ sk R s + 1 - 0 by omega], fun D g1 g2 => absurd g2 (by omega), fun _ _ => rfl⟩ (by
    rintro i z hi ⟨τ, rfl, e1, e2⟩
    left
    have Lτ : LfR R s M τ := LfR_c (fun a h => e2 a (by omega)) (by rw [e2 101 (by decide)]) L
    have eD : wI (2 ^ sk R s + 1 - i) = nI (2 ^ sk R s - 1 - i) := by rw [← wI_p, show 2 ^ sk R s - 1 - i + 2 = 2 ^ sk R s + 1 - i by omega]
    obtain ⟨τ1, c1, c2, c3⟩ := rowR_eq (D := 2 ^ sk R s - 1 - i) G hs hM hk9 Lτ (by omega) (by rw [show 2 ^ sk R s - 1 - i + 1 = 2 ^ sk R s - i by omega]; exact e1)
    refine ⟨(wI (2 ^ sk R s + 1 - (i + 1)), τ1), ?_, τ1, rfl, by rw [show 2 ^ sk R s - (i + 1) = 2 ^ sk R s - 1 - i by omega]; exact c2, fun a ha => by rw [c3 a ha, e2 a ha]⟩
    unfold f_X11_shortest_l11
    dsimp only
    rw [eD, if_neg (nI_nlt0 (by omega)), show (0 : Int32) = nI 0 from rfl, c1, bind_s, nI_pm, show 2 ^ sk R s - 1 - i + 1 = 2 ^ sk R s + 1 - (i + 1) by omega]) (by
    rintro z ⟨τ, rfl, e1, e2⟩
    refine ⟨τ, ?_, by rw [Nat.sub_self] at e1; exact e1, e2⟩
    unfold f_X11_shortest_l11
    dsimp only
    rw [show 2 ^ sk R s + 1 - 2 ^ sk R s = 1 by omega]
    rfl)
  exact ⟨v, q1, q2, q3⟩
/-- the first stop by which the way that is left is as short as it can be -/
theorem seekR_eq {M : Nat → Nat} {D l : Nat} {p : Int32} (G : Good R) (hs : s < R 0) (hM : InnM R s M) (hk9 : sk R s ≤ 9) (L : LfR R s M σ) (hD : D < 2 ^ sk R s) (hl : l = 9 ∨ l < sk R s) (hc : cn R s D < sk R s) (hT : TabR R s M 0 (σ 120)) : lp (f_X11_shortest_l98 (nI s) (nI D) (nI l) p σ) FU (nI 0) = some (nI (bsf (alw M D) (dS R s M D (xl l)) (sk R s) - 2)) := by
  have h9 : 2 ^ sk R s ≤ 2 ^ 9 := Nat.pow_le_pow_right (by decide) hk9
  have hx := xl_ok hk9 hl
  obtain ⟨b1, b2, b3⟩ := some_ex (M := M) G hM hc (dS R s M D (xl l))
  have bm := (bsf_min (A := alw M D) (d := dS R s M D (xl l)) (i := sk R s) (by omega)).2
  have rs := rst_s (x := xl l) G hM hc
  have hT1 : TabR R s M (D + 1) (σ 120) := fun D' g1 g2 l' g3 => hT D' (by omega) g2 l' g3
  have row := hT D (by omega) hD l hl
  generalize bsf (alw M D) (dS R s M D (xl l)) (sk R s) = b at *
  have hdb := dS_lt (D := D) G hs hM hx (show b - 2 < sk R s by omega) (alw_n b3)
  -- one look
  have look : ∀ j, j < sk R s → f_X11_shortest_l98 (nI s) (nI D) (nI l) p σ (nI j) = if alw M D j = true ∧ dS R s M D (xl l) j = rst R s M D (xl l) then some (.inr (nI j)) else some (.inl (nI (j + 1))) := fun j hj => by
    have hMj := L.2.2.2 j hj
    have hMl := (hM j hj).1
    have hnl := nand_lt (a := M j) (b := D) (by omega)
    unfold f_X11_shortest_l98 f_X11_shortest_j184
    rw [has_eq (by omega) (by omega), bind_s, show (0 : Int32) = nI 0 from rfl, bit_if]
    by_cases e : bit D j = 1
    · rw [if_pos e, nI_1, if_neg (fun h => alw_n h.1 e)]
    · rw [if_neg e, chkin (by omega) (by omega), nI_clamp (by omega), hMj, nI_nand]
      by_cases e2 : M j ^^^ (M j &&& D) = 0
      · have a : alw M D j = true := by unfold alw; rw [decide_eq_true e, decide_eq_true e2]; rfl
        have hd := dS_lt (D := D) G hs hM hx hj e
        have key : ∀ c, c = fc R s (xl l) → f_X11_shortest_j141 (nI s) (nI D) (nI l) p (nI j) (nI c) (nI s) σ = if alw M D j = true ∧ dS R s M D (xl l) j = rst R s M D (xl l) then some (.inr (nI j)) else some (.inl (nI (j + 1))) := fun c hc => by
          obtain ⟨g1, g2, g3, g4⟩ := goR_eq G hs hk9 L hD hl hj e hT1 hc
          have eix : (10 : Int32) * nI D + nI l = nI (10 * D + l) := by rw [show (10 : Int32) = nI 10 from rfl, pk_mul, nI_add]
          unfold f_X11_shortest_j141 f_X11_shortest_j184
          rw [chkin (by omega) (by omega), nI_clamp (by omega), g1, bind_s, g2, chkin g3 (by omega), eix, chkin (by omega) (by omega), nI_clamp (by omega), nI_clamp (by omega), g4, row, nI_add, nI_1]
          show (if nI (dS R s M D (xl l) j) = nI (rst R s M D (xl l)) then _ else _) = _
          by_cases q : dS R s M D (xl l) j = rst R s M D (xl l)
          · rw [if_pos (show nI (dS R s M D (xl l) j) = nI (rst R s M D (xl l)) by rw [q]), if_pos ⟨a, q⟩]
          · rw [if_neg (show ¬ nI (dS R s M D (xl l) j) = nI (rst R s M D (xl l)) by rw [nI_eqI (by omega) (by omega)]; exact q), if_neg (fun h => q h.2)]
        rw [if_pos (by rw [e2])]
        by_cases q9 : l = 9
        · subst q9
          rw [if_pos (show nI 9 = 9 from rfl)]
          exact key 0 rfl
        · rw [if_neg (show ¬ nI l = 9 from fun h => q9 ((nI_eq (a := l) (b := 9) (by omega) (by decide)).mp h)), chkin (by omega) (by omega), nI_clamp (by omega), L.2.2.1 l (by omega)]
          refine key _ ?_
          unfold fc xl
          rw [if_neg q9, if_neg (by omega), Nat.add_sub_cancel]
      · rw [if_neg (by rw [nI_eqI hnl (by decide)]; exact e2), nI_1, if_neg (fun h => (by have h := h.1; unfold alw at h; rw [decide_eq_false e2, Bool.and_false] at h; exact absurd h (by decide)))]
  obtain ⟨v, q1, q2⟩ := lp_fu (f := f_X11_shortest_l98 (nI s) (nI D) (nI l) p σ) (fun j z => z = nI j) (fun v => v = nI (b - 2)) (b - 2) (by omega) (nI 0) rfl (by
    rintro j z hj rfl
    left
    refine ⟨nI (j + 1), ?_, rfl⟩
    rw [look j (by omega), if_neg]
    rintro ⟨h1, h2⟩
    have := bm j hj h1
    omega) (by
    rintro z rfl
    refine ⟨_, ?_, rfl⟩
    rw [look _ (by omega), if_pos ⟨b3, rs.symm⟩])
  rw [q1, q2]
/-- the reference's name for where the walk stands -/
def lx (x : Nat) : Nat := if x = 1 then 9 else x - 2
theorem lx_ok {x : Nat} (hk9 : sk R s ≤ 9) (hx : x = 1 ∨ 2 ≤ x ∧ x < sk R s + 2) : (lx x = 9 ∨ lx x < sk R s) ∧ xl (lx x) = x := by
  unfold lx xl
  rcases hx with h | h
  · rw [if_pos h, if_pos rfl]; exact ⟨Or.inl rfl, h.symm⟩
  · rw [if_neg (by omega), if_neg (by omega)]; exact ⟨Or.inr (by omega), by omega⟩
theorem shortR_eq {M : Nat → Nat} (G : Good R) (hs : s < R 0) (hM : InnM R s M) (hk9 : sk R s ≤ 9) (L : LfR R s M σ) : ∃ τ, f_X11_shortest (nI s) σ = some τ ∧ τ 101 36 = nI (wk R s M (dS R s M) (sk R s)).2.2 ∧ (∀ i, i < sk R s → τ 119 i = nI (nxt R s M (dS R s M) i - 2)) ∧ (∀ j, j ≠ 36 → τ 101 j = σ 101 j) ∧ ∀ a, a ≠ 101 → a ≠ 119 → a ≠ 120 → τ a = σ a := by
  have h9 : 2 ^ sk R s ≤ 2 ^ 9 := Nat.pow_le_pow_right (by decide) hk9
  have h1 : 1 ≤ 2 ^ sk R s := Nat.one_le_two_pow
  obtain ⟨τ0, c1, c2, c3⟩ := restR_eq G hs hM hk9 L
  have row := c2 0 (Nat.le_refl _) (by omega) 9 (Or.inl rfl)
  have row9 : τ0 120 9 = nI (wk R s M (dS R s M) (sk R s)).2.2 := by
    rw [wk_whole G hs hM]
    exact row
  obtain ⟨v, q1, q2, q3, q4⟩ := lp_fu (f := f_X11_shortest_l86 (nI s)) (fun i z => ∃ τ, z = (nI (wk R s M (dS R s M) i).1, nI (lx (wk R s M (dS R s M) i).2.1), nI i, τ) ∧ (∀ j, j < i → τ 119 j = nI (nxt R s M (dS R s M) j - 2)) ∧ τ 101 = (up τ0 101 36 (τ0 120 9)) 101 ∧ ∀ a, a ≠ 101 → a ≠ 119 → τ a = τ0 a) (fun τ => (∀ i, i < sk R s → τ 119 i = nI (nxt R s M (dS R s M) i - 2)) ∧ τ 101 = (up τ0 101 36 (τ0 120 9)) 101 ∧ ∀ a, a ≠ 101 → a ≠ 119 → τ a = τ0 a) (sk R s) (by omega) (nI 0, nI 9, nI 0, up τ0 101 36 (τ0 120 9)) ⟨_, rfl, fun j h => absurd h (Nat.not_lt_zero _), rfl, fun a g1 g2 => up_k _ _ _ g1⟩ (by
    rintro i z hi ⟨τ, rfl, e1, e2, e3⟩
    left
    obtain ⟨a1, a2, a3, a4⟩ := wk_ok (d := dS R s M) G hs hM i (by omega)
    obtain ⟨b1, b2, b3⟩ := nxt_r (d := dS R s M) (i := i) G hM (by omega)
    obtain ⟨l1, l2⟩ := lx_ok hk9 a2
    have h35 : τ 101 35 = σ 101 35 := by rw [e2, up_j _ _ _ (by decide), c3 101 (by decide)]
    have Lτ : LfR R s M τ := LfR_c (fun a h => by rw [e3 a (by omega) (by omega), c3 a (by omega)]) h35 L
    have seek := seekR_eq (p := nI i) G hs hM hk9 Lτ a1 l1 (show cn R s (wk R s M (dS R s M) i).1 < sk R s by unfold cn; omega) (by rw [e3 120 (by decide) (by decide)]; exact c2)
    rw [l2] at seek
    have nn : ¬ τ 101 35 ≤ nI i := by rw [Lτ.2.1]; exact nI_ge hi (by omega)
    refine ⟨(nI (wk R s M (dS R s M) (i + 1)).1, nI (lx (wk R s M (dS R s M) (i + 1)).2.1), nI (i + 1), up τ 119 i (nI (nxt R s M (dS R s M) i - 2))), ?_, _, rfl, fun j hj => ?_, by rw [up_k _ _ _ (by decide), e2], fun a g1 g2 => by rw [up_k _ _ _ g2, e3 a g1 g2]⟩
    · have elx : lx (wk R s M (dS R s M) (i + 1)).2.1 = nxt R s M (dS R s M) i - 2 := by
        show lx (nxt R s M (dS R s M) i) = _
        unfold lx
        rw [if_neg (by omega)]
      rw [elx]
      unfold f_X11_shortest_l86
      dsimp only
      rw [if_neg nn, show (0 : Int32) = nI 0 from rfl, seek, bind_s, chkin (by omega) (by omega), nI_clamp (by omega), show (31 : Int32) = nI 31 from rfl, show (1 : Int32) = nI 1 from rfl]
      show some (Sum.inl (nI (wk R s M (dS R s M) i).1 ||| nI 1 <<< (nI (nxt R s M (dS R s M) i - 2) &&& nI 31), nI (nxt R s M (dS R s M) i - 2), nI i + nI 1, up τ 119 i (nI (nxt R s M (dS R s M) i - 2)))) = _
      rw [shl1 (by omega), nI_or, nI_add]
      rfl
    · by_cases e : j = i
      · subst e; exact up_s ..
      · rw [up_j _ _ _ e]; exact e1 j (by omega)) (by
    rintro z ⟨τ, rfl, e1, e2, e3⟩
    refine ⟨τ, ?_, e1, e2, e3⟩
    unfold f_X11_shortest_l86
    dsimp only
    exact if_pos (by rw [e2, up_j _ _ _ (by decide), c3 101 (by decide), L.2.1]; exact Int32.le_refl _))
  refine ⟨v, ?_, by rw [q3, up_s, row9], q2, fun j hj => by rw [q3, up_j _ _ _ hj, c3 101 (by decide)], fun a g1 g2 g3 => by rw [q4 a g1 g2, c3 a g3]⟩
  unfold f_X11_shortest f_X11_shortest_0
  rw [L.2.1, show (31 : Int32) = nI 31 from rfl, show (1 : Int32) = nI 1 from rfl, shl1 (by omega), nI_subx h1, c1, bind_s, show (9 : Int32) = nI 9 from rfl, chkin (by decide) (by decide), nI_clamp (by decide), show (0 : Int32) = nI 0 from rfl, q1]
  rfl
