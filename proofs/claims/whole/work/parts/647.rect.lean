/-! PURE FACTS, 54: the greatest rectangle -/
variable {k : Nat} {R : Nat → Nat} {σ τ : St}
def Rect (P : Nat → Bool) (w h x1 y1 x2 y2 : Nat) : Prop := x1 ≤ x2 ∧ x2 < w ∧ y1 ≤ y2 ∧ y2 < h ∧ ∀ x y, x1 ≤ x → x ≤ x2 → y1 ≤ y → y ≤ y2 → P (w * y + x) = true
def area (x1 y1 x2 y2 : Nat) : Nat := (x2 - x1 + 1) * (y2 - y1 + 1)
/-- m is the greatest area of those of which E holds, or 0 -/
def Pm (P : Nat → Bool) (w h : Nat) (E : Nat → Nat → Nat → Nat → Prop) (m : Nat) : Prop := (∀ x1 y1 x2 y2, E x1 y1 x2 y2 → Rect P w h x1 y1 x2 y2 → area x1 y1 x2 y2 ≤ m) ∧ (m = 0 ∨ ∃ x1 y1 x2 y2, Rect P w h x1 y1 x2 y2 ∧ area x1 y1 x2 y2 = m)
theorem Pm_u {P : Nat → Bool} {w h a b : Nat} (A : Pm P w h (fun _ _ _ _ => True) a) (B : Pm P w h (fun _ _ _ _ => True) b) : a = b := by
  have h1 : a ≤ b := by
    rcases A.2 with e | ⟨x1, y1, x2, y2, r, e⟩
    · omega
    · rw [← e]; exact B.1 _ _ _ _ trivial r
  have h2 : b ≤ a := by
    rcases B.2 with e | ⟨x1, y1, x2, y2, r, e⟩
    · omega
    · rw [← e]; exact A.1 _ _ _ _ trivial r
  omega
theorem Pm_e {P : Nat → Bool} {w h m : Nat} {E F : Nat → Nat → Nat → Nat → Prop} (A : Pm P w h E m) (H : ∀ x1 y1 x2 y2, F x1 y1 x2 y2 → Rect P w h x1 y1 x2 y2 → E x1 y1 x2 y2) : Pm P w h F m := ⟨fun x1 y1 x2 y2 f r => A.1 x1 y1 x2 y2 (H _ _ _ _ f r) r, A.2⟩
theorem area_le {P : Nat → Bool} {w h x1 y1 x2 y2 : Nat} (hw : w ≤ 10) (hh : h ≤ 10) (r : Rect P w h x1 y1 x2 y2) : area x1 y1 x2 y2 ≤ 100 := by
  obtain ⟨a, b, c, d, _⟩ := r
  exact Nat.mul_le_mul (show x2 - x1 + 1 ≤ 10 by omega) (show y2 - y1 + 1 ≤ 10 by omega)
theorem Pm_le {P : Nat → Bool} {w h m : Nat} {E : Nat → Nat → Nat → Nat → Prop} (hw : w ≤ 10) (hh : h ≤ 10) (A : Pm P w h E m) : m ≤ 100 := by
  rcases A.2 with e | ⟨x1, y1, x2, y2, r, e⟩
  · omega
  · rw [← e]; exact area_le hw hh r
/-- the reference: is it a rectangle of the group -/
theorem isRect_eq {w h g x1 y1 x2 y2 : Nat} {f : Nat → Nat} (hw : 2 ≤ w ∧ w ≤ 10) (hh : h ≤ 10) (hg : g < 500) (hf : ∀ c, c < w * h → f c < 1000) (h112 : ∀ c, c < w * h → σ 112 c = wI (gc (f c))) (a : x1 ≤ x2) (b : x2 < w) (c : y1 ≤ y2) (d : y2 < h) : ∃ q : Bool, f_X11_isRectangle (nI w) (nI g) (nI x1) (nI y1) (nI x2) (nI y2) σ = some (nI (bN q)) ∧ (q = true ↔ Rect (fun c => decide (f c = g + 2)) w h x1 y1 x2 y2) := by
  have hwh : w * h ≤ 10 * 10 := Nat.mul_le_mul hw.2 hh
  obtain ⟨r, q1, q, rfl, q2⟩ := lp_fu (f := f_X11_isRectangle_l7 (nI w) (nI g) (nI x1) (nI x2) (nI y2) σ) (fun i z => ∃ q : Bool, z = (nI (bN q), nI (y1 + i)) ∧ (q = true ↔ ∀ x y, x1 ≤ x → x ≤ x2 → y1 ≤ y → y < y1 + i → f (w * y + x) = g + 2)) (fun r => ∃ q : Bool, r = nI (bN q) ∧ (q = true ↔ ∀ x y, x1 ≤ x → x ≤ x2 → y1 ≤ y → y ≤ y2 → f (w * y + x) = g + 2)) (y2 + 1 - y1) (by omega) (nI 1, nI y1) ⟨true, rfl, ⟨fun _ x y _ _ _ _ => by omega, fun _ => rfl⟩⟩ (by
    rintro i z hi ⟨q, rfl, hq⟩
    cases q with
    | false =>
      right
      refine ⟨nI 0, ?_, false, rfl, ⟨fun h => (by cases h), fun h => ?_⟩⟩
      · unfold f_X11_isRectangle_l7
        dsimp only
        rw [if_neg (nI_nlt (by omega) (by omega)), if_pos (show nI (bN false) = (0 : Int32) from rfl)]
        rfl
      · exact hq.mpr (fun x y h1 h2 h3 h4 => h x y h1 h2 h3 (by omega))
    | true =>
      left
      have hq0 := hq.mp rfl
      obtain ⟨r2, p1, q', rfl, p2⟩ := lp_fu (f := f_X11_isRectangle_l22 (nI w) (nI g) (nI x1) (nI x2) (nI y2) (nI (y1 + i)) σ) (fun j z => ∃ q : Bool, z = (nI (bN q), nI (x1 + j)) ∧ (q = true ↔ ∀ x, x1 ≤ x → x < x1 + j → f (w * (y1 + i) + x) = g + 2)) (fun r => ∃ q : Bool, r = nI (bN q) ∧ (q = true ↔ ∀ x, x1 ≤ x → x ≤ x2 → f (w * (y1 + i) + x) = g + 2)) (x2 + 1 - x1) (by omega) (nI 1, nI x1) ⟨true, rfl, ⟨fun _ x _ _ => by omega, fun _ => rfl⟩⟩ (by
        rintro j z hj ⟨q, rfl, hq⟩
        left
        have hlt : w * (y1 + i) + (x1 + j) < w * h := xy_lt (by omega) (by omega)
        have hrow := h112 _ hlt
        have hgl : gc (f (w * (y1 + i) + (x1 + j))) < 1000 := gc_lt (hf _ hlt) (by decide)
        have hgn := gc_n (v := f (w * (y1 + i) + (x1 + j))) (g := g)
        have go : ∀ q' : Bool, (q' = true ↔ q = true ∧ f (w * (y1 + i) + (x1 + j)) = g + 2) → (q' = true ↔ ∀ x, x1 ≤ x → x < x1 + (j + 1) → f (w * (y1 + i) + x) = g + 2) := fun q' h => by
          rw [h, hq]
          constructor
          · rintro ⟨h1, h2⟩ x hx1 hx2
            by_cases e : x = x1 + j
            · rw [e]; exact h2
            · exact h1 x hx1 (by omega)
          · intro h1
            exact ⟨fun x hx1 hx2 => h1 x hx1 (by omega), h1 (x1 + j) (by omega) (by omega)⟩
        unfold f_X11_isRectangle_l22 f_X11_isRectangle_j55 f_X11_isRectangle_j56
        dsimp only
        cases q with
        | false =>
          refine ⟨(nI 0, nI (x1 + (j + 1))), ?_, false, rfl, go false ⟨fun h => (by cases h), fun h => h.1⟩⟩
          rw [if_neg (nI_nlt (by omega) (by omega)), if_pos (show nI (bN false) = (0 : Int32) from rfl), nI_1]
          rfl
        | true =>
          have e0 : nI (bN true) = nI 1 := rfl
          by_cases e : f (w * (y1 + i) + (x1 + j)) = g + 2
          · have e3 := hgn.mpr e
            rw [e3, wI_p] at hrow
            refine ⟨(nI 1, nI (x1 + (j + 1))), ?_, true, rfl, go true ⟨fun _ => ⟨rfl, e⟩, fun _ => rfl⟩⟩
            simp (disch := omega) only [bind_s, sum_l, sum_r, chkin, lit, nI_add, pk_mul, nI_clamp, nI_leI, nI_ltI, nI_eqI, nI_or, and1, shl1, shrx, nI_subx, pk_divx, pk_remx, nmod, nzx, if_tt, if_ff, bz_n1, bz_n0, nm1, nm2, wI_p, wI_inj, wI_n, nI_w, wI_ltI, wI_leI, nI_ltw, nI_lew, reduceIte, e0, at_eq, hrow]
            rfl
          · have e3 : ¬ gc (f (w * (y1 + i) + (x1 + j))) = g + 2 := fun h => e (hgn.mp h)
            refine ⟨(nI 0, nI (x1 + (j + 1))), ?_, false, rfl, go false ⟨fun h => (by cases h), fun h => absurd h.2 e⟩⟩
            simp (disch := omega) only [bind_s, sum_l, sum_r, chkin, lit, nI_add, pk_mul, nI_clamp, nI_leI, nI_ltI, nI_eqI, nI_or, and1, shl1, shrx, nI_subx, pk_divx, pk_remx, nmod, nzx, if_tt, if_ff, bz_n1, bz_n0, nm1, nm2, wI_p, wI_inj, wI_n, nI_w, wI_ltI, wI_leI, nI_ltw, nI_lew, reduceIte, e0, at_eq, hrow, e3, if_false]
            rfl) (by
        rintro z ⟨q, rfl, hq⟩
        refine ⟨nI (bN q), ?_, q, rfl, hq.trans ⟨fun h x h1 h2 => h x h1 (by omega), fun h x h1 h2 => h x h1 (by omega)⟩⟩
        unfold f_X11_isRectangle_l22
        dsimp only
        rw [if_pos (nI_lt (by omega) (by omega))])
      refine ⟨(nI (bN q'), nI (y1 + (i + 1))), ?_, q', rfl, p2.trans ?_⟩
      · unfold f_X11_isRectangle_l7
        dsimp only
        rw [if_neg (nI_nlt (by omega) (by omega)), if_neg (show ¬ nI (bN true) = (0 : Int32) by decide)]
        change (lp _ FU (nI 1, nI x1)).bind _ = _
        rw [p1, bind_s, nI_1]
        rfl
      · constructor
        · intro h x y h1 h2 h3 h4
          by_cases e : y = y1 + i
          · rw [e]; exact h x h1 h2
          · exact hq0 x y h1 h2 h3 (by omega)
        · intro h x h1 h2
          exact h x (y1 + i) h1 h2 (by omega) (by omega)) (by
    rintro z ⟨q, rfl, hq⟩
    refine ⟨nI (bN q), ?_, q, rfl, hq.trans ⟨fun h x y h1 h2 h3 h4 => h x y h1 h2 h3 (by omega), fun h x y h1 h2 h3 h4 => h x y h1 h2 h3 (by omega)⟩⟩
    unfold f_X11_isRectangle_l7
    dsimp only
    rw [if_pos (nI_lt (by omega) (by omega))])
  refine ⟨q, ?_, q2.trans ?_⟩
  · unfold f_X11_isRectangle f_X11_isRectangle_0
    rw [show (1 : Int32) = nI 1 from rfl, q1]
    exact bz_N q
  · constructor
    · intro h
      exact ⟨a, b, c, d, fun x y h1 h2 h3 h4 => decide_eq_true (h x y h1 h2 h3 h4)⟩
    · intro h x y h1 h2 h3 h4
      exact of_decide_eq_true (h.2.2.2.2 x y h1 h2 h3 h4)
theorem lp_from {S Rr : Type} {f : S → Option (S ⊕ Rr)} (I : Nat → S → Prop) (Q : Rr → Prop) (a b : Nat) (hb : b - a < 1000000) (hab : a ≤ b) (s : S) (h0 : I a s) (hs : ∀ i s, a ≤ i → i < b → I i s → (∃ s', f s = some (.inl s') ∧ I (i + 1) s') ∨ ∃ r, f s = some (.inr r) ∧ Q r) (hx : ∀ s, I b s → ∃ r, f s = some (.inr r) ∧ Q r) : ∃ r, lp f FU s = some r ∧ Q r :=
  lp_fu (fun i s => I (a + i) s) Q (b - a) hb s h0 (fun i s hi hI => hs (a + i) s (by omega) (by omega) hI) (fun s hI => hx s (by rw [show a + (b - a) = b by omega] at hI; exact hI))
theorem rectR_eq {s g w h lo L Q T B : Nat} {f : Nat → Nat} (hR : σ 102 = rwN R) (hs : s < 6) (hwS : sc R s = w) (hw : 2 ≤ w ∧ w ≤ 10) (hh : h ≤ 10) (hg : g < 500) (hf : ∀ c, c < w * h → f c < 1000) (h112 : ∀ c, c < w * h → σ 112 c = wI (gc (f c))) (ib : IsB (fun c => decide (f c = g + 2)) w (w * h) lo L Q T B) (f26 : σ 101 26 = nI L) (f27 : σ 101 27 = nI Q) (f28 : σ 101 28 = nI T) (f29 : σ 101 29 = nI B) : ∃ m, f_X11_greatestRectangle (nI s) (nI g) σ = some (nI m) ∧ Pm (fun c => decide (f c = g + 2)) w h (fun _ _ _ _ => True) m := by
  have hwh : w * h ≤ 10 * 10 := Nat.mul_le_mul hw.2 hh
  have r3 : R (3 + s) = w := hwS
  obtain ⟨b0, ⟨cL, cL1, cL2, cL3⟩, ⟨cQ, cQ1, cQ2, cQ3⟩, ⟨cT, cT1, cT2, cT3⟩, ⟨cB, cB1, cB2, cB3⟩, _, _⟩ := ib
  have hQ : Q < w := by have := Nat.mod_lt cQ (show w > 0 by omega); omega
  have hB : B < h := by have := Nat.div_lt_of_lt_mul cB1; omega
  have hLQ : L ≤ Q := by have := b0 cL cL1 cL2; omega
  have hTB : T ≤ B := by have := b0 cT cT1 cT2; omega
  have inB : ∀ x1 y1 x2 y2, Rect (fun c => decide (f c = g + 2)) w h x1 y1 x2 y2 → L ≤ x1 ∧ x2 ≤ Q ∧ T ≤ y1 ∧ y2 ≤ B := fun x1 y1 x2 y2 r => by
    obtain ⟨r1, r2, r3, r4, r5⟩ := r
    have q1 := b0 _ (xy_lt (show x1 < w by omega) (show y1 < h by omega)) (r5 x1 y1 (by omega) (by omega) (by omega) (by omega))
    have q2 := b0 _ (xy_lt r2 r4) (r5 x2 y2 (by omega) (by omega) (by omega) (by omega))
    rw [lin_mod (by omega), lin_div (by omega)] at q1 q2
    omega
  generalize hP : (fun c => decide (f c = g + 2)) = P at *
  have l49 : ∀ y1 x1 y2 m0, T ≤ y1 → y1 ≤ B → L ≤ x1 → x1 ≤ Q → y1 ≤ y2 → y2 ≤ B → Pm P w h (fun a b c d => b < y1 ∨ (b = y1 ∧ (a < x1 ∨ (a = x1 ∧ d < y2)))) m0 → ∃ m, lp (f_X11_greatestRectangle_l49 (nI s) (nI g) (nI y1) (nI x1) (nI y2) σ) FU (nI m0, nI x1) = some (nI m) ∧ Pm P w h (fun a b c d => b < y1 ∨ (b = y1 ∧ (a < x1 ∨ (a = x1 ∧ d < y2 + 1)))) m := by
    intro y1 x1 y2 m0 i1 i2 i3 i4 i5 i6 M0
    obtain ⟨r, q1, m, rfl, q2⟩ := lp_from (f := f_X11_greatestRectangle_l49 (nI s) (nI g) (nI y1) (nI x1) (nI y2) σ) (fun x2 z => ∃ m, z = (nI m, nI x2) ∧ Pm P w h (fun a b c d => b < y1 ∨ (b = y1 ∧ (a < x1 ∨ (a = x1 ∧ (d < y2 ∨ (d = y2 ∧ c < x2)))))) m) (fun r => ∃ m, r = nI m ∧ Pm P w h (fun a b c d => b < y1 ∨ (b = y1 ∧ (a < x1 ∨ (a = x1 ∧ d < y2 + 1)))) m) x1 (Q + 1) (by omega) (by omega) (nI m0, nI x1) ⟨m0, rfl, Pm_e M0 (fun a b c d e r => by have := r.1; omega)⟩ (by
      rintro x2 z j1 j2 ⟨m, rfl, M⟩
      left
      have hm := Pm_le hw.2 hh M
      obtain ⟨q, e1, e2⟩ := isRect_eq (σ := σ) (x1 := x1) (y1 := y1) (x2 := x2) (y2 := y2) hw hh hg hf h112 (by omega) (by omega) (by omega) (by omega)
      rw [hP] at e2
      have ha : (y2 - y1 + 1) * (x2 - x1 + 1) ≤ 10 * 10 := Nat.mul_le_mul (by omega) (by omega)
      have hA : area x1 y1 x2 y2 = (y2 - y1 + 1) * (x2 - x1 + 1) := Nat.mul_comm _ _
      have stay : (Rect P w h x1 y1 x2 y2 → area x1 y1 x2 y2 ≤ m) → Pm P w h (fun a b c d => b < y1 ∨ (b = y1 ∧ (a < x1 ∨ (a = x1 ∧ (d < y2 ∨ (d = y2 ∧ c < x2 + 1)))))) m := fun hr => ⟨fun a b c d e r => by
        by_cases q : b = y1 ∧ a = x1 ∧ d = y2 ∧ c = x2
        · obtain ⟨rfl, rfl, rfl, rfl⟩ := q
          exact hr r
        · exact M.1 a b c d (by omega) r, M.2⟩
      by_cases c1 : (y2 - y1 + 1) * (x2 - x1 + 1) ≤ m
      · refine ⟨(nI m, nI (x2 + 1)), ?_, m, rfl, stay (fun _ => by rw [hA]; exact c1)⟩
        unfold f_X11_greatestRectangle_l49 f_X11_greatestRectangle_j110 f_X11_greatestRectangle_j111
        dsimp only
        simp (disch := omega) only [bind_s, sum_l, sum_r, chkin, lit, nI_add, pk_mul, nI_clamp, nI_leI, nI_ltI, nI_eqI, nI_or, and1, shl1, shrx, nI_subx, pk_divx, pk_remx, nmod, nzx, if_tt, if_ff, bz_n1, bz_n0, nm1, nm2, wI_p, wI_inj, wI_n, nI_w, wI_ltI, wI_leI, nI_ltw, nI_lew, reduceIte, f27]
      · cases q with
        | false =>
          refine ⟨(nI m, nI (x2 + 1)), ?_, m, rfl, stay (fun r => by have := e2.mpr r; cases this)⟩
          unfold f_X11_greatestRectangle_l49 f_X11_greatestRectangle_j110 f_X11_greatestRectangle_j111
          dsimp only
          simp (disch := omega) only [bind_s, sum_l, sum_r, chkin, lit, nI_add, pk_mul, nI_clamp, nI_leI, nI_ltI, nI_eqI, nI_or, and1, shl1, shrx, nI_subx, pk_divx, pk_remx, nmod, nzx, if_tt, if_ff, bz_n1, bz_n0, nm1, nm2, wI_p, wI_inj, wI_n, nI_w, wI_ltI, wI_leI, nI_ltw, nI_lew, reduceIte, f27, hR, rwN_a, r3, e1, bN_e0]
        | true =>
          refine ⟨(nI ((y2 - y1 + 1) * (x2 - x1 + 1)), nI (x2 + 1)), ?_, _, rfl, ⟨fun a b c d e r => ?_, Or.inr ⟨x1, y1, x2, y2, e2.mp rfl, hA⟩⟩⟩
          · unfold f_X11_greatestRectangle_l49 f_X11_greatestRectangle_j110 f_X11_greatestRectangle_j111
            dsimp only
            simp (disch := omega) only [bind_s, sum_l, sum_r, chkin, lit, nI_add, pk_mul, nI_clamp, nI_leI, nI_ltI, nI_eqI, nI_or, and1, shl1, shrx, nI_subx, pk_divx, pk_remx, nmod, nzx, if_tt, if_ff, bz_n1, bz_n0, nm1, nm2, wI_p, wI_inj, wI_n, nI_w, wI_ltI, wI_leI, nI_ltw, nI_lew, reduceIte, f27, hR, rwN_a, r3, e1, bN_e0, reduceCtorEq]
          · by_cases q : b = y1 ∧ a = x1 ∧ d = y2 ∧ c = x2
            · obtain ⟨rfl, rfl, rfl, rfl⟩ := q
              rw [hA]; exact Nat.le_refl _
            · have := M.1 a b c d (by omega) r
              omega) (by
      rintro z ⟨m, rfl, M⟩
      refine ⟨nI m, ?_, m, rfl, Pm_e M (fun a b c d e r => by have := inB _ _ _ _ r; omega)⟩
      unfold f_X11_greatestRectangle_l49
      dsimp only
      simp (disch := omega) only [bind_s, sum_l, sum_r, chkin, lit, nI_add, pk_mul, nI_clamp, nI_leI, nI_ltI, nI_eqI, nI_or, and1, shl1, shrx, nI_subx, pk_divx, pk_remx, nmod, nzx, if_tt, if_ff, bz_n1, bz_n0, nm1, nm2, wI_p, wI_inj, wI_n, nI_w, wI_ltI, wI_leI, nI_ltw, nI_lew, reduceIte, f27])
    exact ⟨m, q1, q2⟩
  have l36 : ∀ y1 x1 m0, T ≤ y1 → y1 ≤ B → L ≤ x1 → x1 ≤ Q → Pm P w h (fun a b c d => b < y1 ∨ (b = y1 ∧ a < x1)) m0 → ∃ m, lp (f_X11_greatestRectangle_l36 (nI s) (nI g) (nI y1) (nI x1) σ) FU (nI m0, nI y1) = some (nI m) ∧ Pm P w h (fun a b c d => b < y1 ∨ (b = y1 ∧ a < x1 + 1)) m := by
    intro y1 x1 m0 i1 i2 i3 i4 M0
    obtain ⟨r, q1, m, rfl, q2⟩ := lp_from (f := f_X11_greatestRectangle_l36 (nI s) (nI g) (nI y1) (nI x1) σ) (fun y2 z => ∃ m, z = (nI m, nI y2) ∧ Pm P w h (fun a b c d => b < y1 ∨ (b = y1 ∧ (a < x1 ∨ (a = x1 ∧ d < y2)))) m) (fun r => ∃ m, r = nI m ∧ Pm P w h (fun a b c d => b < y1 ∨ (b = y1 ∧ a < x1 + 1)) m) y1 (B + 1) (by omega) (by omega) (nI m0, nI y1) ⟨m0, rfl, Pm_e M0 (fun a b c d e r => by have := r.2.2.1; omega)⟩ (by
      rintro y2 z j1 j2 ⟨m, rfl, M⟩
      left
      obtain ⟨m', e1, e2⟩ := l49 y1 x1 y2 m i1 i2 i3 i4 (by omega) (by omega) M
      refine ⟨(nI m', nI (y2 + 1)), ?_, m', rfl, e2⟩
      unfold f_X11_greatestRectangle_l36
      dsimp only
      simp (disch := omega) only [bind_s, sum_l, sum_r, chkin, lit, nI_add, pk_mul, nI_clamp, nI_leI, nI_ltI, nI_eqI, nI_or, and1, shl1, shrx, nI_subx, pk_divx, pk_remx, nmod, nzx, if_tt, if_ff, bz_n1, bz_n0, nm1, nm2, wI_p, wI_inj, wI_n, nI_w, wI_ltI, wI_leI, nI_ltw, nI_lew, reduceIte, f29, e1]) (by
      rintro z ⟨m, rfl, M⟩
      refine ⟨nI m, ?_, m, rfl, Pm_e M (fun a b c d e r => by have := inB _ _ _ _ r; omega)⟩
      unfold f_X11_greatestRectangle_l36
      dsimp only
      simp (disch := omega) only [bind_s, sum_l, sum_r, chkin, lit, nI_add, pk_mul, nI_clamp, nI_leI, nI_ltI, nI_eqI, nI_or, and1, shl1, shrx, nI_subx, pk_divx, pk_remx, nmod, nzx, if_tt, if_ff, bz_n1, bz_n0, nm1, nm2, wI_p, wI_inj, wI_n, nI_w, wI_ltI, wI_leI, nI_ltw, nI_lew, reduceIte, f29])
    exact ⟨m, q1, q2⟩
  have l23 : ∀ y1 m0, T ≤ y1 → y1 ≤ B → Pm P w h (fun a b c d => b < y1) m0 → ∃ m, lp (f_X11_greatestRectangle_l23 (nI s) (nI g) (nI y1) σ) FU (nI m0, nI L) = some (nI m) ∧ Pm P w h (fun a b c d => b < y1 + 1) m := by
    intro y1 m0 i1 i2 M0
    obtain ⟨r, q1, m, rfl, q2⟩ := lp_from (f := f_X11_greatestRectangle_l23 (nI s) (nI g) (nI y1) σ) (fun x1 z => ∃ m, z = (nI m, nI x1) ∧ Pm P w h (fun a b c d => b < y1 ∨ (b = y1 ∧ a < x1)) m) (fun r => ∃ m, r = nI m ∧ Pm P w h (fun a b c d => b < y1 + 1) m) L (Q + 1) (by omega) (by omega) (nI m0, nI L) ⟨m0, rfl, Pm_e M0 (fun a b c d e r => by have := inB _ _ _ _ r; omega)⟩ (by
      rintro x1 z j1 j2 ⟨m, rfl, M⟩
      left
      obtain ⟨m', e1, e2⟩ := l36 y1 x1 m i1 i2 (by omega) (by omega) M
      refine ⟨(nI m', nI (x1 + 1)), ?_, m', rfl, e2⟩
      unfold f_X11_greatestRectangle_l23
      dsimp only
      simp (disch := omega) only [bind_s, sum_l, sum_r, chkin, lit, nI_add, pk_mul, nI_clamp, nI_leI, nI_ltI, nI_eqI, nI_or, and1, shl1, shrx, nI_subx, pk_divx, pk_remx, nmod, nzx, if_tt, if_ff, bz_n1, bz_n0, nm1, nm2, wI_p, wI_inj, wI_n, nI_w, wI_ltI, wI_leI, nI_ltw, nI_lew, reduceIte, f27, e1]) (by
      rintro z ⟨m, rfl, M⟩
      refine ⟨nI m, ?_, m, rfl, Pm_e M (fun a b c d e r => by have := inB _ _ _ _ r; have := r.1; omega)⟩
      unfold f_X11_greatestRectangle_l23
      dsimp only
      simp (disch := omega) only [bind_s, sum_l, sum_r, chkin, lit, nI_add, pk_mul, nI_clamp, nI_leI, nI_ltI, nI_eqI, nI_or, and1, shl1, shrx, nI_subx, pk_divx, pk_remx, nmod, nzx, if_tt, if_ff, bz_n1, bz_n0, nm1, nm2, wI_p, wI_inj, wI_n, nI_w, wI_ltI, wI_leI, nI_ltw, nI_lew, reduceIte, f27])
    exact ⟨m, q1, q2⟩
  obtain ⟨r, q1, m, rfl, q2⟩ := lp_from (f := f_X11_greatestRectangle_l8 (nI s) (nI g) σ) (fun y1 z => ∃ m, z = (nI m, nI y1) ∧ Pm P w h (fun a b c d => b < y1) m) (fun r => ∃ m, r = nI m ∧ Pm P w h (fun _ _ _ _ => True) m) T (B + 1) (by omega) (by omega) (nI 0, nI T) ⟨0, rfl, ⟨fun a b c d e r => by have := inB _ _ _ _ r; omega, Or.inl rfl⟩⟩ (by
    rintro y1 z j1 j2 ⟨m, rfl, M⟩
    left
    obtain ⟨m', e1, e2⟩ := l23 y1 m j1 (by omega) M
    refine ⟨(nI m', nI (y1 + 1)), ?_, m', rfl, e2⟩
    unfold f_X11_greatestRectangle_l8
    dsimp only
    simp (disch := omega) only [bind_s, sum_l, sum_r, chkin, lit, nI_add, pk_mul, nI_clamp, nI_leI, nI_ltI, nI_eqI, nI_or, and1, shl1, shrx, nI_subx, pk_divx, pk_remx, nmod, nzx, if_tt, if_ff, bz_n1, bz_n0, nm1, nm2, wI_p, wI_inj, wI_n, nI_w, wI_ltI, wI_leI, nI_ltw, nI_lew, reduceIte, f29, f26, e1]) (by
    rintro z ⟨m, rfl, M⟩
    refine ⟨nI m, ?_, m, rfl, Pm_e M (fun a b c d e r => by have := inB _ _ _ _ r; have := r.2.2.1; omega)⟩
    unfold f_X11_greatestRectangle_l8
    dsimp only
    simp (disch := omega) only [bind_s, sum_l, sum_r, chkin, lit, nI_add, pk_mul, nI_clamp, nI_leI, nI_ltI, nI_eqI, nI_or, and1, shl1, shrx, nI_subx, pk_divx, pk_remx, nmod, nzx, if_tt, if_ff, bz_n1, bz_n0, nm1, nm2, wI_p, wI_inj, wI_n, nI_w, wI_ltI, wI_leI, nI_ltw, nI_lew, reduceIte, f29])
  refine ⟨m, ?_, q2⟩
  unfold f_X11_greatestRectangle f_X11_greatestRectangle_0
  rw [f28, show (0 : Int32) = nI 0 from rfl, q1]
  rfl
