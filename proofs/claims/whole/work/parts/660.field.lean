/-! PURE FACTS, 67: shapes, the reference's field -/
def PI (c n m s a0 i a : Nat) : Prop := a < 2 ^ n ∧ (∀ q, bit a0 q = 1 → bit a q = 1) ∧ ((∀ q, bit a0 q = 1 → Clo c n m s q) → ∀ q, bit a q = 1 → Clo c n m s q) ∧ ∀ j k, k < i → bit a0 j = 1 → Nb c n j k → bit m k = 1 → bit a k = 1
theorem pass_eq {c r m s a0 : Nat} {p : Int32} (hc : c ≤ 4) (hr : r ≤ 4) (hm : m < 2 ^ (c * r)) (ha : a0 < 2 ^ (c * r)) : ∃ a, lp (f_X11_spread_l16 (nI c) (nI r) (nI m) p) FU (nI a0, nI 0) = some (nI a) ∧ PI c (c * r) m s a0 (c * r) a := by
  obtain ⟨v, q1, a, rfl, q2⟩ := lp_fu (f := f_X11_spread_l16 (nI c) (nI r) (nI m) p) (fun y z => ∃ a, z = (nI a, nI y) ∧ PI c (c * r) m s a0 (c * y) a) (fun v => ∃ a, v = nI a ∧ PI c (c * r) m s a0 (c * r) a) r (by omega) (nI a0, nI 0) ⟨a0, rfl, ha, fun q h => h, fun h => h, fun j k hk => absurd hk (by rw [Nat.mul_zero]; exact Nat.not_lt_zero _)⟩ (by
    rintro y z hy ⟨a, rfl, B⟩
    left
    obtain ⟨v, p1, a2, rfl, p2⟩ := lp_fu (f := f_X11_spread_l25 (nI c) (nI r) (nI m) p (nI y)) (fun x z => ∃ a, z = (nI a, nI x) ∧ PI c (c * r) m s a0 (c * y + x) a) (fun v => ∃ a, v = nI a ∧ PI c (c * r) m s a0 (c * y + c) a) c (by omega) (nI a, nI 0) ⟨a, rfl, B⟩ (by
      rintro x z hx ⟨a, rfl, B⟩
      left
      obtain ⟨a', e1, e2, e3, e4, e5⟩ := spcell (p := p) hc hr hm B.1 hx hy
      refine ⟨_, e1, a', rfl, e2, fun q h => e3 q (B.2.1 q h), fun h q hq => ?_, fun j k hk h1 h2 h3 => ?_⟩
      · rcases e4 q hq with x | ⟨x, j, x2, x3⟩
        · exact B.2.2.1 h q x
        · exact Rch_n (B.2.2.1 h j x2) x3 x
      · by_cases e : k = c * y + x
        · subst e
          exact e5 j (B.2.1 j h1) h2 h3
        · exact e3 k (B.2.2.2 j k (by omega) h1 h2 h3)) (by
      rintro z ⟨a, rfl, B⟩
      refine ⟨nI a, ?_, a, rfl, B⟩
      unfold f_X11_spread_l25
      dsimp only
      rw [if_pos (by exact Int32.le_refl _)])
    refine ⟨(nI a2, nI (y + 1)), ?_, a2, rfl, by rw [Nat.mul_succ]; exact p2⟩
    unfold f_X11_spread_l16
    dsimp only
    rw [if_neg (nI_ge hy (by omega)), show (0 : Int32) = nI 0 from rfl, p1, bind_s, nI_1]) (by
    rintro z ⟨a, rfl, B⟩
    refine ⟨nI a, ?_, a, rfl, B⟩
    unfold f_X11_spread_l16
    dsimp only
    rw [if_pos (by exact Int32.le_refl _)])
  exact ⟨a, q1, q2⟩
theorem spreadF_eq {c r m s : Nat} (hc : 1 ≤ c ∧ c ≤ 4) (hr : 1 ≤ r ∧ r ≤ 4) (hm : m < 2 ^ (c * r)) (hne : ∃ k, bit s k = 1) (hsl : s ≤ m) : ∃ a, f_X11_spread (nI c) (nI r) (nI m) (nI s) = some (nI a) ∧ Big c (c * r) m s 16 a := by
  obtain ⟨v, q1, a, rfl, q2⟩ := lp_fu (f := f_X11_spread_l6 (nI c) (nI r) (nI m)) (fun i z => ∃ a, z = (nI a, nI i) ∧ Big c (c * r) m s i a) (fun v => ∃ a, v = nI a ∧ Big c (c * r) m s 16 a) 16 (by decide) (nI s, nI 0) ⟨s, rfl, Big_0 hne (by omega)⟩ (by
    rintro i z hi ⟨a, rfl, B⟩
    left
    obtain ⟨a', e1, e2, e3, e4, e5⟩ := pass_eq (s := s) (p := nI i) hc.2 hr.2 hm B.2.2.2
    refine ⟨(nI a', nI (i + 1)), ?_, a', rfl, Big_s B e2 e3 (e4 B.1) (fun j k h1 h2 h3 => e5 j k (bit_hi hm h3) h1 h2 h3)⟩
    unfold f_X11_spread_l6
    dsimp only
    rw [if_neg (show ¬ (16 : Int32) ≤ nI i from nI_ge (b := 16) hi (by decide)), show (0 : Int32) = nI 0 from rfl, e1, bind_s, nI_1]) (by
    rintro z ⟨a, rfl, B⟩
    refine ⟨nI a, ?_, a, rfl, B⟩
    unfold f_X11_spread_l6
    dsimp only
    rw [if_pos (by exact Int32.le_refl _)])
  refine ⟨a, ?_, q2⟩
  unfold f_X11_spread f_X11_spread_0
  rw [show (0 : Int32) = nI 0 from rfl, q1]
  rfl
theorem fullR_eq {c r m : Nat} (hc : 1 ≤ c ∧ c ≤ 4) (hr : 1 ≤ r ∧ r ≤ 4) (hm : m < 65536) : ∃ b, f_X11_isFull (nI c) (nI r) (nI m) = some (nI (bN b)) ∧ (b = true ↔ Ful c r m) := by
  obtain ⟨v, q1, b, rfl, q2⟩ := lp_fu (f := f_X11_isFull_l5 (nI c) (nI r) (nI m)) (fun y z => ∃ b, z = (nI (bN b), nI y) ∧ (b = true ↔ ∀ j, j < y → ∃ i, i < c ∧ bit m (c * j + i) = 1)) (fun v => ∃ b, v = nI (bN b) ∧ (b = true ↔ ∀ j, j < r → ∃ i, i < c ∧ bit m (c * j + i) = 1)) r (by omega) (nI (bN true), nI 0) ⟨true, rfl, fun _ j h => absurd h (Nat.not_lt_zero _), fun _ => rfl⟩ (by
    rintro y z hy ⟨b, rfl, B⟩
    left
    obtain ⟨v, p1, p2⟩ := lp_fu (f := f_X11_isFull_l17 (nI c) (nI r) (nI m) (nI (bN b)) (nI y)) (fun x z => z = (nI (bN (ex (fun i => decide (bit m (c * y + i) = 1)) x)), nI x)) (fun v => v = nI (bN (ex (fun i => decide (bit m (c * y + i) = 1)) c))) c (by omega) (nI (bN false), nI 0) rfl (by
      rintro x z hx rfl
      left
      refine ⟨_, ?_, rfl⟩
      unfold f_X11_isFull_l17 f_X11_isFull_j43 f_X11_isFull_j48
      dsimp only
      rw [if_neg (nI_ge hx (by omega)), sp_has hc.2 hr.2 hm hx hy, show (0 : Int32) = nI 0 from rfl, bit_if, ex_s, nI_1]
      cases ex (fun i => decide (bit m (c * y + i) = 1)) x
      · rw [if_pos (by decide)]
        by_cases e : bit m (c * y + x) = 1
        · rw [if_pos e, decide_eq_true e]; rfl
        · rw [if_neg e, decide_eq_false e]; rfl
      · rw [if_neg (by decide)]; rfl) (by
      rintro z rfl
      refine ⟨_, ?_, rfl⟩
      unfold f_X11_isFull_l17
      dsimp only
      rw [if_pos (by exact Int32.le_refl _)])
    refine ⟨(nI (bN (b && ex (fun i => decide (bit m (c * y + i) = 1)) c)), nI (y + 1)), ?_, _, rfl, ?_⟩
    · unfold f_X11_isFull_l5 f_X11_isFull_j69 f_X11_isFull_j70
      dsimp only
      rw [p2] at p1
      rw [if_neg (nI_ge hy (by omega)), show ((0 : Int32), (0 : Int32)) = (nI (bN false), nI 0) from rfl, p1, bind_s, nI_1]
      cases b
      · rw [if_pos (by decide)]; rfl
      · rw [if_neg (by decide)]
        cases ex (fun i => decide (bit m (c * y + i) = 1)) c
        · rw [if_pos (by decide)]; rfl
        · rw [if_neg (by decide)]; rfl
    · rw [Bool.and_eq_true, B, ex_i]
      constructor
      · rintro ⟨h1, i, h2, h3⟩ j hj
        by_cases e : j = y
        · subst e; exact ⟨i, h2, of_decide_eq_true h3⟩
        · exact h1 j (by omega)
      · intro h
        obtain ⟨i, h2, h3⟩ := h y (by omega)
        exact ⟨fun j hj => h j (by omega), i, h2, decide_eq_true h3⟩) (by
    rintro z ⟨b, rfl, B⟩
    refine ⟨_, ?_, b, rfl, B⟩
    unfold f_X11_isFull_l5
    dsimp only
    rw [if_pos (by exact Int32.le_refl _)])
  obtain ⟨w, u1, d, rfl, u2⟩ := lp_fu (f := f_X11_isFull_l80 (nI c) (nI r) (nI m)) (fun x z => ∃ d, z = (nI (bN d), nI x) ∧ (d = true ↔ b = true ∧ ∀ i, i < x → ∃ j, j < r ∧ bit m (c * j + i) = 1)) (fun v => ∃ d, v = nI (bN d) ∧ (d = true ↔ b = true ∧ ∀ i, i < c → ∃ j, j < r ∧ bit m (c * j + i) = 1)) c (by omega) (nI (bN b), nI 0) ⟨b, rfl, fun h => ⟨h, fun j h => absurd h (Nat.not_lt_zero _)⟩, fun h => h.1⟩ (by
    rintro x z hx ⟨d, rfl, B⟩
    left
    obtain ⟨v, p1, p2⟩ := lp_fu (f := f_X11_isFull_l92 (nI c) (nI r) (nI m) (nI (bN d)) (nI x)) (fun y z => z = (nI (bN (ex (fun j => decide (bit m (c * j + x) = 1)) y)), nI y)) (fun v => v = nI (bN (ex (fun j => decide (bit m (c * j + x) = 1)) r))) r (by omega) (nI (bN false), nI 0) rfl (by
      rintro y z hy rfl
      left
      refine ⟨_, ?_, rfl⟩
      unfold f_X11_isFull_l92 f_X11_isFull_j118 f_X11_isFull_j123
      dsimp only
      rw [if_neg (nI_ge hy (by omega)), sp_has hc.2 hr.2 hm hx hy, show (0 : Int32) = nI 0 from rfl, bit_if, ex_s, nI_1]
      cases ex (fun j => decide (bit m (c * j + x) = 1)) y
      · rw [if_pos (by decide)]
        by_cases e : bit m (c * y + x) = 1
        · rw [if_pos e, decide_eq_true e]; rfl
        · rw [if_neg e, decide_eq_false e]; rfl
      · rw [if_neg (by decide)]; rfl) (by
      rintro z rfl
      refine ⟨_, ?_, rfl⟩
      unfold f_X11_isFull_l92
      dsimp only
      rw [if_pos (by exact Int32.le_refl _)])
    refine ⟨(nI (bN (d && ex (fun j => decide (bit m (c * j + x) = 1)) r)), nI (x + 1)), ?_, _, rfl, ?_⟩
    · unfold f_X11_isFull_l80 f_X11_isFull_j144 f_X11_isFull_j145
      dsimp only
      rw [p2] at p1
      rw [if_neg (nI_ge hx (by omega)), show ((0 : Int32), (0 : Int32)) = (nI (bN false), nI 0) from rfl, p1, bind_s, nI_1]
      cases d
      · rw [if_pos (by decide)]; rfl
      · rw [if_neg (by decide)]
        cases ex (fun j => decide (bit m (c * j + x) = 1)) r
        · rw [if_pos (by decide)]; rfl
        · rw [if_neg (by decide)]; rfl
    · rw [Bool.and_eq_true, B, ex_i]
      constructor
      · rintro ⟨⟨h0, h1⟩, i, h2, h3⟩
        refine ⟨h0, fun j hj => ?_⟩
        by_cases e : j = x
        · subst e; exact ⟨i, h2, of_decide_eq_true h3⟩
        · exact h1 j (by omega)
      · rintro ⟨h0, h⟩
        obtain ⟨i, h2, h3⟩ := h x (by omega)
        exact ⟨⟨h0, fun j hj => h j (by omega)⟩, i, h2, decide_eq_true h3⟩) (by
    rintro z ⟨d, rfl, B⟩
    refine ⟨_, ?_, d, rfl, B⟩
    unfold f_X11_isFull_l80
    dsimp only
    rw [if_pos (by exact Int32.le_refl _)])
  refine ⟨d, ?_, ?_⟩
  · unfold f_X11_isFull f_X11_isFull_0
    rw [show ((1 : Int32), (0 : Int32)) = (nI (bN true), nI 0) from rfl, q1, bind_s, show (0 : Int32) = nI 0 from rfl, u1, bind_s, bz_N]
  · rw [u2, q2]
    rfl
