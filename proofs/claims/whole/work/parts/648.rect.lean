/-! PURE FACTS, 55: the class's greatest rectangle; the call remnant -/
variable {k n len nr nf : Nat} {R V tx : Nat → Nat} {H : Nat → Nat → Nat} {hv : Bool} {rk rp fk fp : Nat → Int32} {σ τ : St}
theorem run_eq {w h r x y : Nat} {f : Nat → Nat} (hw : 2 ≤ w ∧ w ≤ 10) (hh : h ≤ 10) (G1 : Rg w h f τ) (hf : ∀ c, c < w * h → f c < 1000) (hr : r < 500) (hx : x < w) (hy : y < h) : ∃ n, f_X4_cellsToTheRight (nI r) (nI x) (nI y) τ = some (nI n) ∧ x + n ≤ w ∧ (∀ a, x ≤ a → a < x + n → f (w * y + a) = r + 2) ∧ (x + n < w → f (w * y + (x + n)) ≠ r + 2) := by
  have hwh : w * h ≤ 10 * 10 := Nat.mul_le_mul hw.2 hh
  obtain ⟨v, q1, e, rfl, q2, q3, q4, q5⟩ := lp_from (f := f_X4_cellsToTheRight_l3 (nI r) (nI x) (nI y) τ) (fun e z => z = nI e ∧ ∀ a, x ≤ a → a < e → f (w * y + a) = r + 2) (fun v => ∃ e, v = nI e ∧ x ≤ e ∧ e ≤ w ∧ (∀ a, x ≤ a → a < e → f (w * y + a) = r + 2) ∧ (e < w → f (w * y + e) ≠ r + 2)) x w (by omega) (by omega) (nI x) ⟨rfl, fun a _ _ => by omega⟩ (by
    rintro e z j1 j2 ⟨rfl, hq⟩
    have hlt := xy_lt j2 hy
    have hl := label_in G1 (by omega) hlt
    have hfc := hf _ hlt
    rw [Nat.add_comm (w * y)] at hl
    unfold f_X4_cellsToTheRight_l3
    by_cases c : f (w * y + e) = r + 2
    · left
      refine ⟨nI (e + 1), ?_, rfl, fun a h1 h2 => ?_⟩
      · rw [Nat.add_comm (w * y)] at c hfc
        simp (disch := omega) only [bind_s, sum_l, sum_r, chkin, lit, nI_add, pk_mul, nI_clamp, nI_leI, nI_ltI, nI_eqI, nI_or, and1, shl1, shrx, nI_subx, pk_divx, pk_remx, nmod, nzx, if_tt, if_ff, bz_n1, bz_n0, nm1, nm2, wI_p, wI_inj, wI_n, nI_w, wI_ltI, wI_leI, nI_ltw, nI_lew, reduceIte, G1.1, hl, c]
      · by_cases q : a = e
        · rw [q]; exact c
        · exact hq a h1 (by omega)
    · right
      refine ⟨nI e, ?_, e, rfl, by omega, by omega, hq, fun _ => c⟩
      rw [Nat.add_comm (w * y)] at c hfc
      simp (disch := omega) only [bind_s, sum_l, sum_r, chkin, lit, nI_add, pk_mul, nI_clamp, nI_leI, nI_ltI, nI_eqI, nI_or, and1, shl1, shrx, nI_subx, pk_divx, pk_remx, nmod, nzx, if_tt, if_ff, bz_n1, bz_n0, nm1, nm2, wI_p, wI_inj, wI_n, nI_w, wI_ltI, wI_leI, nI_ltw, nI_lew, reduceIte, G1.1, hl, c]) (by
    rintro z ⟨rfl, hq⟩
    refine ⟨nI w, ?_, w, rfl, by omega, by omega, hq, fun q => by omega⟩
    unfold f_X4_cellsToTheRight_l3
    simp (disch := omega) only [bind_s, sum_l, sum_r, chkin, lit, nI_add, pk_mul, nI_clamp, nI_leI, nI_ltI, nI_eqI, nI_or, and1, shl1, shrx, nI_subx, pk_divx, pk_remx, nmod, nzx, if_tt, if_ff, bz_n1, bz_n0, nm1, nm2, wI_p, wI_inj, wI_n, nI_w, wI_ltI, wI_leI, nI_ltw, nI_lew, reduceIte, G1.1])
  refine ⟨e - x, ?_, by omega, fun a h1 h2 => q4 a h1 (by omega), fun q => ?_⟩
  · unfold f_X4_cellsToTheRight f_X4_cellsToTheRight_0 f_X4_cellsToTheRight_j35
    rw [q1, bind_s, nI_subx q2]
  · rw [show x + (e - x) = e by omega] at q ⊢
    exact q5 q
theorem corner_eq {w h r x y : Nat} {f : Nat → Nat} (hw : 2 ≤ w ∧ w ≤ 10) (hh : 2 ≤ h ∧ h ≤ 10) (G1 : Rg w h f τ) (hf : ∀ c, c < w * h → f c < 1000) (hr : r < 500) (hx : x < w) (hy : y < h) : ∃ g, f_X4_greatestFrom (nI r) (nI x) (nI y) τ = some (nI g) ∧ Pm (fun c => decide (f c = r + 2)) w h (fun a b _ _ => a = x ∧ b = y) g := by
  generalize hP : (fun c => decide (f c = r + 2)) = P
  have hPc : ∀ c, P c = true ↔ f c = r + 2 := fun c => by rw [← hP]; exact decide_eq_true_iff
  obtain ⟨v, q1, g, rfl, q2⟩ := lp_from (f := f_X4_greatestFrom_l12 (nI r) (nI x) (nI y) τ) (fun e z => ∃ g W, z = (nI g, nI W, nI e) ∧ W ≤ w ∧ Pm P w h (fun a b _ d => a = x ∧ b = y ∧ d < e) g ∧ (∀ x2, x ≤ x2 → x2 < w → (∀ a b, x ≤ a → a ≤ x2 → y ≤ b → b < e → f (w * b + a) = r + 2) → x2 - x + 1 ≤ W) ∧ (y < e → 0 < W → x + W ≤ w ∧ ∀ a b, x ≤ a → a < x + W → y ≤ b → b < e → f (w * b + a) = r + 2)) (fun v => ∃ g, v = nI g ∧ Pm P w h (fun a b _ _ => a = x ∧ b = y) g) y h (by omega) (by omega) (nI 0, nI w, nI y) ⟨0, w, rfl, Nat.le_refl _, ⟨fun a b c d e r => by have := r.2.2.1; omega, Or.inl rfl⟩, fun x2 h1 h2 _ => by omega, fun q => by omega⟩ (by
    rintro e z j1 j2 ⟨g, W, rfl, w1, M, w2, w3⟩
    have hg := Pm_le hw.2 hh.2 M
    by_cases c : W = 0
    · right
      refine ⟨nI g, ?_, g, rfl, Pm_e M (fun a b c' d q rr => ⟨q.1, q.2, ?_⟩)⟩
      · unfold f_X4_greatestFrom_l12
        dsimp only
        simp (disch := omega) only [bind_s, sum_l, sum_r, chkin, lit, nI_add, pk_mul, nI_clamp, nI_leI, nI_ltI, nI_eqI, nI_or, and1, shl1, shrx, nI_subx, pk_divx, pk_remx, nmod, nzx, if_tt, if_ff, bz_n1, bz_n0, nm1, nm2, wI_p, wI_inj, wI_n, nI_w, wI_ltI, wI_leI, nI_ltw, nI_lew, reduceIte, G1.2.1, c]
      · rcases Nat.lt_or_ge d e with h1 | h1
        · exact h1
        · exfalso
          obtain ⟨rfl, rfl⟩ := q
          have := w2 c' rr.1 rr.2.1 (fun a' b' h2 h3 h4 h5 => (hPc _).mp (rr.2.2.2.2 a' b' h2 h3 h4 (by omega)))
          omega
    · left
      obtain ⟨n, n1, n2, n3, n4⟩ := run_eq hw hh.2 G1 hf hr hx (show e < h by omega)
      generalize hW' : (if n < W then n else W) = W'
      have hW1 : W' ≤ n ∧ W' ≤ W := by rw [← hW']; split <;> omega
      have hW2 : W' = n ∨ W' = W := by rw [← hW']; split <;> omega
      have hmul : W' * (e - y + 1) ≤ 10 * 10 := Nat.mul_le_mul (by omega) (by omega)
      have v1 : (if nI n < nI W then nI n else nI W) = nI W' := by
        rw [← hW']
        by_cases q : n < W
        · rw [if_pos (nI_lt q (by omega)), if_pos q]
        · rw [if_neg (nI_nlt (by omega) (by omega)), if_neg q]
      have v2 : nI W' * (nI e - nI y + nI 1) = nI (W' * (e - y + 1)) := by rw [nI_subx (by omega), nI_add, pk_mul]
      have v3 : (if nI g < nI (W' * (e - y + 1)) then nI (W' * (e - y + 1)) else nI g) = nI (if g < W' * (e - y + 1) then W' * (e - y + 1) else g) := by
        by_cases q : g < W' * (e - y + 1)
        · rw [if_pos (nI_lt q (by omega)), if_pos q]
        · rw [if_neg (nI_nlt (by omega) (by omega)), if_neg q]
      have full : 0 < W' → x + W' ≤ w ∧ ∀ a b, x ≤ a → a < x + W' → y ≤ b → b < e + 1 → f (w * b + a) = r + 2 := fun hp => by
        refine ⟨by omega, fun a b h1 h2 h3 h4 => ?_⟩
        by_cases q : b = e
        · rw [q]; exact n3 a h1 (by omega)
        · exact (w3 (by omega) (by omega)).2 a b h1 (by omega) h3 (by omega)
      have wide : ∀ x2, x ≤ x2 → x2 < w → (∀ a b, x ≤ a → a ≤ x2 → y ≤ b → b < e + 1 → f (w * b + a) = r + 2) → x2 - x + 1 ≤ W' := fun x2 h1 h2 hq => by
        have a1 := w2 x2 h1 h2 (fun a b i1 i2 i3 i4 => hq a b i1 i2 i3 (by omega))
        have a2 : x2 - x + 1 ≤ n := by
          rcases Nat.lt_or_ge (x2 - x) n with q | q
          · omega
          · exact absurd (hq (x + n) e (by omega) (by omega) j1 (by omega)) (n4 (by omega))
        omega
      refine ⟨(nI (if g < W' * (e - y + 1) then W' * (e - y + 1) else g), nI W', nI (e + 1)), ?_, _, W', rfl, by omega, ⟨fun a b c' d q rr => ?_, ?_⟩, wide, fun _ hp => full hp⟩
      · unfold f_X4_greatestFrom_l12
        dsimp only
        rw [G1.2.1, if_neg (nI_ge j2 (by omega)), if_neg (show ¬ nI W ≤ (0 : Int32) from nI_ge (a := 0) (by omega) (by omega)), n1, bind_s, v1, show (1 : Int32) = nI 1 from rfl, v2, v3, nI_add]
      · obtain ⟨rfl, rfl, h3⟩ := q
        by_cases q2 : d < e
        · have := M.1 a b c' d ⟨rfl, rfl, q2⟩ rr
          split <;> omega
        · have q3 : d = e := by omega
          have a1 := wide c' rr.1 rr.2.1 (fun a' b' h2 h3 h4 h5 => (hPc _).mp (rr.2.2.2.2 a' b' h2 h3 h4 (by omega)))
          have a2 : area a b c' d ≤ W' * (e - b + 1) := by
            unfold area
            rw [q3]
            exact Nat.mul_le_mul_right _ a1
          split <;> omega
      · by_cases q2 : g < W' * (e - y + 1)
        · rw [if_pos q2]
          have hp : 0 < W' := by
            rcases Nat.eq_zero_or_pos W' with z | z
            · rw [z, Nat.zero_mul] at q2; omega
            · exact z
          obtain ⟨f1, f2⟩ := full hp
          refine Or.inr ⟨x, y, x + W' - 1, e, ⟨by omega, by omega, j1, j2, fun a b h1 h2 h3 h4 => (hPc _).mpr (f2 a b h1 (by omega) h3 (by omega))⟩, ?_⟩
          unfold area
          rw [show x + W' - 1 - x + 1 = W' by omega]
        · rw [if_neg q2]; exact M.2) (by
    rintro z ⟨g, W, rfl, w1, M, w2, w3⟩
    refine ⟨nI g, ?_, g, rfl, Pm_e M (fun a b c d q rr => ⟨q.1, q.2, rr.2.2.2.1⟩)⟩
    unfold f_X4_greatestFrom_l12
    dsimp only
    simp (disch := omega) only [bind_s, sum_l, sum_r, chkin, lit, nI_add, pk_mul, nI_clamp, nI_leI, nI_ltI, nI_eqI, nI_or, and1, shl1, shrx, nI_subx, pk_divx, pk_remx, nmod, nzx, if_tt, if_ff, bz_n1, bz_n0, nm1, nm2, wI_p, wI_inj, wI_n, nI_w, wI_ltI, wI_leI, nI_ltw, nI_lew, reduceIte, G1.2.1])
  refine ⟨g, ?_, q2⟩
  unfold f_X4_greatestFrom f_X4_greatestFrom_0
  rw [G1.1, show (0 : Int32) = nI 0 from rfl, q1]
  rfl
theorem rectC_eq {w h r : Nat} {f : Nat → Nat} (hw : 2 ≤ w ∧ w ≤ 10) (hh : 2 ≤ h ∧ h ≤ 10) (G1 : Rg w h f τ) (hf : ∀ c, c < w * h → f c < 1000) (hr : r < 500) : ∃ m, f_X4_greatestRectangle (nI r) τ = some (nI m) ∧ Pm (fun c => decide (f c = r + 2)) w h (fun _ _ _ _ => True) m := by
  generalize hP : (fun c => decide (f c = r + 2)) = P
  obtain ⟨v, q1, m, rfl, q2⟩ := lp_fu (f := f_X4_greatestRectangle_l4 (nI r) τ) (fun y z => ∃ m, z = (nI m, nI y) ∧ Pm P w h (fun _ b _ _ => b < y) m) (fun v => ∃ m, v = nI m ∧ Pm P w h (fun _ _ _ _ => True) m) h (by omega) (nI 0, nI 0) ⟨0, rfl, fun a b c d e _ => absurd e (Nat.not_lt_zero _), Or.inl rfl⟩ (by
    rintro y z hy ⟨m, rfl, M⟩
    left
    obtain ⟨v, p1, m', rfl, p2⟩ := lp_fu (f := f_X4_greatestRectangle_l15 (nI r) (nI y) τ) (fun x z => ∃ m, z = (nI m, nI x) ∧ Pm P w h (fun a b _ _ => b < y ∨ (b = y ∧ a < x)) m) (fun v => ∃ m, v = nI m ∧ Pm P w h (fun _ b _ _ => b < y + 1) m) w (by omega) (nI m, nI 0) ⟨m, rfl, Pm_e M (fun a b c d e _ => by omega)⟩ (by
      rintro x z hx ⟨m, rfl, M⟩
      left
      obtain ⟨g, e1, e2⟩ := corner_eq hw hh G1 hf hr hx hy
      rw [hP] at e2
      have hm := Pm_le hw.2 hh.2 M
      have hg := Pm_le hw.2 hh.2 e2
      have v3 : (if nI m < nI g then nI g else nI m) = nI (if m < g then g else m) := by
        by_cases q : m < g
        · rw [if_pos (nI_lt q (by omega)), if_pos q]
        · rw [if_neg (nI_nlt (by omega) (by omega)), if_neg q]
      refine ⟨(nI (if m < g then g else m), nI (x + 1)), ?_, _, rfl, fun a b c d e rr => ?_, ?_⟩
      · unfold f_X4_greatestRectangle_l15
        dsimp only
        rw [G1.1, if_neg (nI_ge hx (by omega)), e1, bind_s, v3, nI_1]
      · by_cases q : a = x ∧ b = y
        · have := e2.1 a b c d q rr
          split <;> omega
        · have := M.1 a b c d (by omega) rr
          split <;> omega
      · split
        · exact e2.2
        · exact M.2) (by
      rintro z ⟨m, rfl, M⟩
      refine ⟨nI m, ?_, m, rfl, Pm_e M (fun a b c d e rr => by have := rr.1; have := rr.2.1; omega)⟩
      unfold f_X4_greatestRectangle_l15
      dsimp only
      simp (disch := omega) only [bind_s, sum_l, sum_r, chkin, lit, nI_add, pk_mul, nI_clamp, nI_leI, nI_ltI, nI_eqI, nI_or, and1, shl1, shrx, nI_subx, pk_divx, pk_remx, nmod, nzx, if_tt, if_ff, bz_n1, bz_n0, nm1, nm2, wI_p, wI_inj, wI_n, nI_w, wI_ltI, wI_leI, nI_ltw, nI_lew, reduceIte, G1.1])
    refine ⟨(nI m', nI (y + 1)), ?_, m', rfl, p2⟩
    unfold f_X4_greatestRectangle_l4
    dsimp only
    simp (disch := omega) only [bind_s, sum_l, sum_r, chkin, lit, nI_add, pk_mul, nI_clamp, nI_leI, nI_ltI, nI_eqI, nI_or, and1, shl1, shrx, nI_subx, pk_divx, pk_remx, nmod, nzx, if_tt, if_ff, bz_n1, bz_n0, nm1, nm2, wI_p, wI_inj, wI_n, nI_w, wI_ltI, wI_leI, nI_ltw, nI_lew, reduceIte, G1.2.1, p1]) (by
    rintro z ⟨m, rfl, M⟩
    refine ⟨nI m, ?_, m, rfl, Pm_e M (fun a b c d e rr => by have := rr.2.2.1; have := rr.2.2.2.1; omega)⟩
    unfold f_X4_greatestRectangle_l4
    dsimp only
    simp (disch := omega) only [bind_s, sum_l, sum_r, chkin, lit, nI_add, pk_mul, nI_clamp, nI_leI, nI_ltI, nI_eqI, nI_or, and1, shl1, shrx, nI_subx, pk_divx, pk_remx, nmod, nzx, if_tt, if_ff, bz_n1, bz_n0, nm1, nm2, wI_p, wI_inj, wI_n, nI_w, wI_ltI, wI_leI, nI_ltw, nI_lew, reduceIte, G1.2.1])
  refine ⟨m, ?_, q2⟩
  unfold f_X4_greatestRectangle f_X4_greatestRectangle_0
  rw [show (0 : Int32) = nI 0 from rfl, q1]
  rfl
/-- both sides' remnants, and one of them measured on both -/
theorem call_remnant (I : Inv σ) (x1 x2 x3 : Int32) : Step (f_L_remnant x1 x2 x3) (f_X11_remnant x1 x2 x3) σ := by
  have I0 := I
  obtain ⟨R, n, H, hv, V, len, tx, nr, rk, rp, nf, fk, fp, G, S, c, cx, r, rx⟩ := I
  have hR := r.1
  have g0 := G.1
  rcases int_n x1 (n := R 0) (by omega) with ⟨s, hs, rfl⟩ | hx
  · have hS := GS G hs
    obtain ⟨z0, z1, z2, z3, z4, z5, hn, _⟩ := hS
    obtain ⟨f, m, τ, r1, r2, r3, r4⟩ := remC_eq c.1 G hs
    obtain ⟨b1, b2⟩ := RemS_b (fun c _ => rf0_le s c) r2
    have hf : ∀ c, c < sc R s * sr R s → f c < 1000 := fun c hc => by have := b2 c hc; omega
    have hFc : Fc σ τ := fun a h1 h2 => r4 a (by omega) (by omega) (by omega)
    rcases int_n x2 (n := m) (by omega) with ⟨g, hg, rfl⟩ | hx
    · obtain ⟨τ2, m1, m2, m3, m4⟩ := measC_eq (r := g) ⟨z1, z2⟩ ⟨z3, z4⟩ r3 hf (by omega)
      have F2 : Fc σ τ2 := fun a h1 h2 => by rw [m2 a (by omega), hFc a h1 h2]
      have G2 : Rg (sc R s) (sr R s) f τ2 := ⟨by rw [m3 2 (by omega), r3.1], by rw [m3 3 (by omega), r3.2.1], fun c hc => by rw [m2 90 (by decide)]; exact r3.2.2 c hc⟩
      obtain ⟨cc, hcc, hcc2⟩ := RemS_ne (fun c _ => rf0_le s c) (Nat.le_refl _) r2 hg
      have hpos : 0 < cnt (fun c => decide (f c = g + 2)) (sc R s * sr R s) := cnt_pos hcc (decide_eq_true hcc2)
      obtain ⟨lo, L, Q, T, B, ib, y6, y7, y8, y9, y10⟩ := m4.2.2 hpos
      have hLQ : L ≤ Q ∧ T ≤ B := by
        obtain ⟨c1, e1, e2, e3⟩ := ib.2.1
        have := ib.1 c1 e1 e2
        omega
      have hQw : Q < 100 ∧ B < 100 := by
        obtain ⟨c1, e1, e2, e3⟩ := ib.2.2.1
        obtain ⟨c2, i1, i2, i3⟩ := ib.2.2.2.2.1
        have := Nat.mod_lt c1 (show sc R s > 0 by omega)
        have := Nat.div_lt_of_lt_mul i1
        omega
      obtain ⟨ma, e4, p4⟩ := rectC_eq ⟨z1, z2⟩ ⟨z3, z4⟩ G2 hf (show g < 500 by omega)
      have ckR : f_X10_checkRemnant (nI s) (nI g) σ = some (.inr τ) := by
        unfold f_X10_checkRemnant f_X10_checkRemnant_0
        rw [r1, bind_s]
        change (f_X10_isWithin (nI g) (nI 0) (nI m - nI 1)).bind _ = _
        rw [pred_in hg (by omega)]
        rfl
      -- the reference, on any state with this row
      have ref : ∀ υ, υ 102 = rwN R → ∃ τ', Fr υ τ' ∧ τ' 101 0 = nI 0 ∧ τ' 102 = rwN R ∧ f_X11_remnants (nI s) (up υ 101 0 (nI 0)) = some τ' ∧ τ' 101 17 = nI m ∧ ∃ τ3, f_X11_bounds (nI s) (nI g) τ' = some τ3 ∧ Fr υ τ3 ∧ τ3 101 0 = nI 0 ∧ τ3 101 30 = nI (cnt (fun c => decide (f c = g + 2)) (sc R s * sr R s)) ∧ τ3 101 26 = nI L ∧ τ3 101 27 = nI Q ∧ τ3 101 28 = nI T ∧ τ3 101 29 = nI B ∧ f_X11_lowestOf (nI g) τ3 = some (nI lo) ∧ f_X11_greatestRectangle (nI s) (nI g) τ3 = some (nI ma) := fun υ hυ => by
        obtain ⟨fR, mR, τ1, q1, q2, q3, q4, q5, q6, q7⟩ := remR_eq (u0R hυ (nI 0)) G hs
        obtain ⟨em, ef⟩ := RemS_u (Nat.le_refl _) r2 q2
        subst em
        have q8 : ∀ c, c < sc R s * sr R s → τ1 112 c = wI (gc (f c)) := fun c hc => by rw [q7 c hc, ef c hc]
        have hR1 : τ1 102 = rwN R := by rw [q3 102 (by decide) (by decide) (by decide), u0R hυ]
        have F1 : Fr υ τ1 := Fr_t (u0F _ _) ⟨fun a h1 h2 h3 => q3 a h1 (by omega) (by omega), fun j hj => q4 j (by omega)⟩
        obtain ⟨τ3, t1, t2, t3, t4⟩ := boundsR_eq hR1 G hs (show g < 500 by omega) hf q8
        obtain ⟨fl, u1, u2, u3⟩ := t4
        obtain ⟨lo', L', Q', T', B', ib', _, v7, v8, v9, v10⟩ := u3 hpos
        obtain ⟨w1, w2, w3, w4, w5⟩ := IsB_u ib ib'
        subst w1 w2 w3 w4 w5
        have t112 : ∀ c, c < sc R s * sr R s → τ3 112 c = wI (gc (f c)) := fun c hc => by rw [t2 112 (by decide)]; exact q8 c hc
        have hR3 : τ3 102 = rwN R := by rw [t2 102 (by decide), hR1]
        obtain ⟨mb, e5, p5⟩ := rectR_eq (σ := τ3) hR3 z0 rfl ⟨z1, z2⟩ z4 (show g < 500 by omega) hf t112 ib v7 v8 v9 v10
        have := Pm_u p4 p5
        subst this
        refine ⟨τ1, F1, by rw [q4 0 (by decide), up_s], hR1, q1, q5, τ3, t1, Fr_t F1 ⟨fun a h1 h2 h3 => t2 a h1, fun j hj => t3 j (by omega)⟩, by rw [t3 0 (by omega), q4 0 (by decide), up_s], u1, v7, v8, v9, v10, ?_, e5⟩
        exact lowestOf_eq hn (by omega) hf t112 ib.2.2.2.2.2.1 (of_decide_eq_true ib.2.2.2.2.2.2) (fun c hc h => (ib.1 c hc (decide_eq_true h)).2.2.2.2)
      have head : ∀ υ τ', f_X11_remnants (nI s) (up υ 101 0 (nI 0)) = some τ' → υ 102 = rwN R → τ' 101 17 = nI m → f_X11_remnant (nI s) (nI g) x3 υ = (f_X11_bounds (nI s) (nI g) τ').bind fun q6 => if x3 = 0 then some (q6 101 30, q6) else if x3 = 1 then (f_X11_lowestOf (nI g) q6).bind fun q9 => some (q9, q6) else if x3 = 2 then some (((q6 101 27) - (q6 101 26)) + 1, q6) else if x3 = 3 then some (((q6 101 29) - (q6 101 28)) + 1, q6) else if x3 = 4 then (f_X11_greatestRectangle (nI s) (nI g) q6).bind fun q13 => some (q13, q6) else (f_X11_fails 2 q6).bind fun q14 => some (q14.1, q14.2) := fun υ τ' h1 h2 h3 => by
        unfold f_X11_remnant f_X11_remnant_0
        rw [show (0 : Int32) = nI 0 from rfl, isSheet_in (u0R h2 _) G hs, bind_s, if_neg (by decide), h1, bind_s, h3, show (1 : Int32) = nI 1 from rfl, in_in hg (by omega), bind_s, if_neg (by decide)]
      have ok : ∀ v, f_X10_remnant (nI s) (nI g) x3 σ = some (.inr (v, τ2)) → (∀ τ3, τ3 101 30 = nI (cnt (fun c => decide (f c = g + 2)) (sc R s * sr R s)) → τ3 101 26 = nI L → τ3 101 27 = nI Q → τ3 101 28 = nI T → τ3 101 29 = nI B → f_X11_lowestOf (nI g) τ3 = some (nI lo) → f_X11_greatestRectangle (nI s) (nI g) τ3 = some (nI ma) → (if x3 = 0 then some (τ3 101 30, τ3) else if x3 = 1 then (f_X11_lowestOf (nI g) τ3).bind fun q9 => some (q9, τ3) else if x3 = 2 then some (((τ3 101 27) - (τ3 101 26)) + 1, τ3) else if x3 = 3 then some (((τ3 101 29) - (τ3 101 28)) + 1, τ3) else if x3 = 4 then (f_X11_greatestRectangle (nI s) (nI g) τ3).bind fun q13 => some (q13, τ3) else (f_X11_fails 2 τ3).bind fun q14 => some (q14.1, q14.2)) = some (v, τ3)) → Step (f_L_remnant (nI s) (nI g) x3) (f_X11_remnant (nI s) (nI g) x3) σ := fun v h1 h2 =>
        step_ok I0 (L_remnant_0 h1) F2 (fun υ hυ => by
          have hR0 : υ 102 = rwN R := by rw [hυ 102 (by omega) (by omega), hR]
          obtain ⟨τ', a1, a2, a3, a4, a5, τ3, b1, b2, b3, b4, b5, b6, b7, b8, b9, b10⟩ := ref υ hR0
          refine ⟨τ3, ?_, b2, b3⟩
          rw [head υ τ' a4 hR0 a5, b1, bind_s]
          exact h2 τ3 b4 b5 b6 b7 b8 b9 b10)
      have hC0 : ∀ X, (X = if x3 = 0 then (f_X4_cellsMeasured τ2).bind fun q11 => some (.inr (q11, τ2)) else if x3 = 1 then (f_X4_lowestMeasured τ2).bind fun q13 => some (.inr (q13, τ2)) else if x3 = 2 then (f_X4_columnsMeasured τ2).bind fun q15 => some (.inr (q15, τ2)) else if x3 = 3 then (f_X4_rowsMeasured τ2).bind fun q17 => some (.inr (q17, τ2)) else if x3 = 4 then (f_X4_greatestRectangle (nI g) τ2).bind fun q19 => some (.inr (q19, τ2)) else some (.inl ("java/lang/IllegalArgumentException", τ2))) → f_X10_remnant (nI s) (nI g) x3 σ = X := fun X hX => by
        unfold f_X10_remnant f_X10_remnant_0
        rw [ckS_in c.1 G hs, bind_s, sum_r, ckR, bind_s, sum_r, m1, bind_s, hX]
      rcases what_n x3 (N := 5) (by decide) with ⟨w, hw, rfl⟩ | hw
      · have k0 : w = 0 ∨ w = 1 ∨ w = 2 ∨ w = 3 ∨ w = 4 := by omega
        rcases k0 with e | e | e | e | e <;> subst e
        · refine ok (nI (cnt (fun c => decide (f c = g + 2)) (sc R s * sr R s))) (hC0 _ ?_) (fun τ3 h30 _ _ _ _ _ _ => ?_)
          · rw [← m4.1]; rfl
          · rw [← h30]; rfl
        · refine ok (nI lo) (hC0 _ ?_) (fun τ3 _ _ _ _ _ hl _ => ?_)
          · rw [← y6]; rfl
          · rw [hl]; rfl
        · refine ok (nI Q - nI L + 1) (hC0 _ ?_) (fun τ3 _ h26 h27 _ _ _ _ => ?_)
          · rw [← y7, ← y8]; rfl
          · rw [← h26, ← h27]; rfl
        · refine ok (nI B - nI T + 1) (hC0 _ ?_) (fun τ3 _ _ _ h28 h29 _ _ => ?_)
          · rw [← y9, ← y10]; rfl
          · rw [← h28, ← h29]; rfl
        · refine ok (nI ma) (hC0 _ ?_) (fun τ3 _ _ _ _ _ _ hm => ?_)
          · rw [e4]; rfl
          · rw [hm]; rfl
      · refine step_bad (c := nI 2) I0 (by decide) (L_remnant_2 (τ := τ2) (hC0 _ ?_)) F2 (fun υ hυ => ?_)
        · simp only [lit, hw 0 (by decide), hw 1 (by decide), hw 2 (by decide), hw 3 (by decide), hw 4 (by decide), if_false]
        · have hR0 : υ 102 = rwN R := by rw [hυ 102 (by omega) (by omega), hR]
          obtain ⟨τ', a1, a2, a3, a4, a5, τ3, b1, b2, b3, _⟩ := ref υ hR0
          refine ⟨0, up τ3 101 0 (nI 2), ?_, Fr_t b2 (u0F _ _), up_s ..⟩
          rw [head υ τ' a4 hR0 a5, b1, bind_s]
          simp only [lit, hw 0 (by decide), hw 1 (by decide), hw 2 (by decide), hw 3 (by decide), hw 4 (by decide), if_false, fails_eq, bind_s]
    · refine step_bad (c := nI 1) I0 (by decide) (L_remnant_1 (τ := τ) ?_) hFc (fun υ hυ => ?_)
      · unfold f_X10_remnant f_X10_remnant_0 f_X10_checkRemnant f_X10_checkRemnant_0
        rw [ckS_in c.1 G hs, bind_s, sum_r, r1, bind_s]
        change ((f_X10_isWithin x2 (nI 0) (nI m - nI 1)).bind _).bind _ = _
        rw [pred_out (by omega) hx]
        rfl
      · have hR0 : υ 102 = rwN R := by rw [hυ 102 (by omega) (by omega), hR]
        obtain ⟨fR, mR, τ1, q1, q2, q3, q4, q5, q6, q7⟩ := remR_eq (u0R hR0 (nI 0)) G hs
        obtain ⟨em, ef⟩ := RemS_u (Nat.le_refl _) r2 q2
        subst em
        have F1 : Fr υ τ1 := Fr_t (u0F _ _) ⟨fun a h1 h2 h3 => q3 a h1 (by omega) (by omega), fun j hj => q4 j (by omega)⟩
        refine ⟨0, up τ1 101 0 (nI 1), ?_, Fr_t F1 (u0F _ _), up_s ..⟩
        unfold f_X11_remnant f_X11_remnant_0
        rw [show (0 : Int32) = nI 0 from rfl, isSheet_in (u0R hR0 _) G hs, bind_s, if_neg (by decide), q1, bind_s, q5, show (1 : Int32) = nI 1 from rfl, in_out (by omega) hx, bind_s, if_pos rfl]
        rfl
  · refine step_no I0 (L_remnant_1 ?_) (by decide) ?_
    · unfold f_X10_remnant f_X10_remnant_0
      simp (disch := omega) only [bind_s, sum_l, sum_r, chkin, lit, nI_add, pk_mul, nI_clamp, nI_leI, nI_ltI, nI_eqI, nI_or, and1, shl1, shrx, nI_subx, pk_divx, pk_remx, nmod, nzx, if_tt, if_ff, bz_n1, bz_n0, nm1, nm2, wI_p, wI_inj, wI_n, nI_w, wI_ltI, wI_leI, nI_ltw, nI_lew, reduceIte, ckS_out c.1 hx]
    · unfold f_X11_remnant f_X11_remnant_0
      rw [show (0 : Int32) = nI 0 from rfl, isSheet_out (u0R hR _) G hx, bind_s, if_pos rfl]
      rfl
