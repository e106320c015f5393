/-! PURE FACTS, 35: placing -/
variable {k n len nr nf : Nat} {R V tx : Nat → Nat} {H : Nat → Nat → Nat} {hv : Bool} {rk rp fk fp : Nat → Int32} {σ τ : St}
theorem bkd_f {h s t k : Nat} {X Y : Int64} (hb : bkd R h s t X Y k = false) (h1 : bit (tm R h t) k = 1) : frI R s (X + lN (k % tc R h t)) (Y + lN (k / tc R h t)) = true := by
  unfold bkd at hb
  rw [decide_eq_true h1, Bool.true_and] at hb
  cases e : frI R s (X + lN (k % tc R h t)) (Y + lN (k / tc R h t))
  · rw [e] at hb; cases hb
  · rfl
theorem frI_in (G : Good R) {s : Nat} (hs : s < R 0) {X Y : Int64} (h : frI R s X Y = true) : ∃ x y, x < sc R s ∧ y < sr R s ∧ X = lN x ∧ Y = lN y ∧ on R s (sc R s * y + x) = 1 := by
  have hS := GS G hs
  unfold frI at h
  rw [Bool.and_eq_true, decide_eq_true_eq, decide_eq_true_eq] at h
  obtain ⟨x, y, hx, hy, rfl, rfl⟩ := egI_4 (by omega) (by omega) h.1
  rw [cel_n (by omega) (by omega)] at h
  exact ⟨x, y, hx, hy, rfl, rfl, h.2⟩
theorem frI_of (G : Good R) {s x y : Nat} (hs : s < R 0) (hx : x < sc R s) (hy : y < sr R s) (h : on R s (sc R s * y + x) = 1) : frI R s (lN x) (lN y) = true := by
  have hS := GS G hs
  unfold frI
  rw [cel_n (by omega) (by omega), Bool.and_eq_true, decide_eq_true_eq, decide_eq_true_eq]
  refine ⟨?_, h⟩
  have n0 : ∀ q, q < 100 → ¬ lN q < 0 := fun q hq => by
    rw [show (0 : Int64) = lN 0 from rfl, pk_lLT (by omega) (by omega)]
    omega
  unfold egI
  rw [if_neg (n0 y (by omega)), if_neg (by rw [pk_lLE (by omega) (by omega)]; omega), if_neg (by rw [pk_lLE (by omega) (by omega)]; omega), if_neg (n0 x (by omega))]
theorem lN_inj {a b : Nat} (ha : a < 2 ^ 31) (hb : b < 2 ^ 31) (h : lN a = lN b) : a = b := (lN_eq ha hb).mp h
/-- nothing blocked: the shape fits, at a place of the sheet -/
theorem fits_of (G : Good R) {h s t : Nat} (hh : h < R 1) (hs : s < R 0) {X Y : Int64} (hb : ∀ k, k < 16 → bkd R h s t X Y k = false) : ∃ x y, x < 10 ∧ y < 10 ∧ X = lN x ∧ Y = lN y ∧ Fits R h s x y t := by
  have hS := GS G hs
  have hH := (G.2.2.2.2.1 h hh)
  have hF := Ful_t hH.2.1 t
  have hT := SM_t hH.1 t
  have hm := tm_lt hH.1 t
  have key : ∀ k, bit (tm R h t) k = 1 → ∃ x y, x < sc R s ∧ y < sr R s ∧ X + lN (k % tc R h t) = lN x ∧ Y + lN (k / tc R h t) = lN y ∧ on R s (sc R s * y + x) = 1 := fun k hk => by
    have h1 := bit_hi hm hk
    have h2 : tc R h t * tr R h t ≤ 4 * 4 := Nat.mul_le_mul hT.2.1 hT.2.2.2
    exact frI_in G hs (bkd_f (hb k (by omega)) hk)
  obtain ⟨j0, q1, q2⟩ := hF.2 0 (by omega)
  obtain ⟨x, y1, hx, _, ex, _, _⟩ := key _ q2
  rw [lin_mod (by omega), show lN 0 = 0 from rfl, Int64.add_zero] at ex
  obtain ⟨i0, p1, p2⟩ := hF.1 0 (by omega)
  obtain ⟨x1, y, _, hy, _, ey, _⟩ := key _ p2
  rw [lin_div p1, show lN 0 = 0 from rfl, Int64.add_zero] at ey
  subst ex ey
  obtain ⟨j1, r1, r2⟩ := hF.2 (tc R h t - 1) (by omega)
  obtain ⟨x2, y2, hx2, _, ex2, _, _⟩ := key _ r2
  rw [lin_mod (by omega), lN_add] at ex2
  have ex2 := lN_inj (by omega) (by omega) ex2
  obtain ⟨i1, s1, s2⟩ := hF.1 (tr R h t - 1) (by omega)
  obtain ⟨x3, y3, _, hy3, _, ey3, _⟩ := key _ s2
  rw [lin_div s1, lN_add] at ey3
  have ey3 := lN_inj (by omega) (by omega) ey3
  refine ⟨x, y, by omega, by omega, rfl, rfl, by omega, by omega, fun k hk hk1 => ?_⟩
  obtain ⟨a, b, ha, hb', ea, eb, hab⟩ := key k hk1
  have m1 := Nat.mod_lt k (show tc R h t > 0 by omega)
  have m2 := Nat.div_le_self k (tc R h t)
  rw [lN_add] at ea eb
  have ea := lN_inj (by omega) (by omega) ea
  have eb := lN_inj (by omega) (by omega) eb
  unfold ncl
  rw [ea, eb]
  exact hab
theorem fits_to (G : Good R) {h s t x y : Nat} (hh : h < R 1) (hs : s < R 0) (F : Fits R h s x y t) : ∀ k, k < 16 → bkd R h s t (lN x) (lN y) k = false := by
  intro k hk
  unfold bkd
  by_cases e : bit (tm R h t) k = 1
  · obtain ⟨f1, f2, f3⟩ := F
    have h1 := ncl_lt G hh hs f1 f2 e
    have h2 := f3 k hk e
    unfold ncl at h2
    rw [lN_add, lN_add, frI_of G hs (by omega) (by omega) h2, Bool.not_true, Bool.and_false]
  · rw [decide_eq_false e, Bool.false_and]
theorem i64_n {x : Int32} {a : Nat} (ha : a < 2 ^ 31) (h : x.toInt64 = lN a) : x = nI a := by
  apply Int32.toInt_inj.mp
  rw [nI_toInt ha, ← Int32.toInt_toInt64, h, lN_toInt ha]
theorem add_eq {l : Nat} (hl : l < 3) (h : σ 80 2 = nI l) (a b : Int32) : f_X0_add 80 a b σ = some (up (up (up σ 81 l a) 82 l b) 80 2 (nI (l + 1))) := by
  unfold f_X0_add f_X0_add_0
  have p1 := put_h (t := 81) (j := l) (τ := σ) (v := a) (by rw [ln80.1.1]; exact hl) (by rw [ln80.1.1]; decide)
  have p2 := put_h (t := 82) (j := l) (τ := up σ 81 l a) (v := b) (by rw [ln80.1.2]; exact hl) (by rw [ln80.1.2]; decide)
  have e1 : (up σ 81 l a) 80 2 = nI l := by rw [up_k _ _ _ (by decide), h]
  have e2 : (up (up σ 81 l a) 82 l b) 80 2 = nI l := by rw [up_k _ _ _ (by decide), e1]
  rw [h, if_neg (show ¬ (3 : Int32) ≤ nI l from nI_ge (b := 3) hl (by decide))]
  show (f_X10_put 81 (nI l) a σ).bind _ = _
  rw [p1, bind_s, e1]
  show (f_X10_put 82 (nI l) b (up σ 81 l a)).bind _ = _
  rw [p2, bind_s, e2, nI_1]
theorem refuse_eq (h : Nat) (c : Nat) (v : Int32) (σ : St) : ∃ τ, f_X10_refuse (nI h) (nI c) v σ = some (0, τ) ∧ (∀ a, a ≠ 80 → a ≠ 81 → a ≠ 82 → τ a = σ a) ∧ τ 80 2 = nI 2 ∧ ∀ i, i < 2 → τ 81 i = (if i = 0 then nI 1 else nI c) ∧ τ 82 i = (if i = 0 then nI h else v) := by
  have a1 := add_eq (σ := up σ 80 2 0) (l := 0) (by decide) (up_s ..) (nI 1) (nI h)
  have a2 := add_eq (σ := up (up (up (up σ 80 2 0) 81 0 (nI 1)) 82 0 (nI h)) 80 2 (nI (0 + 1))) (l := 1) (by decide) (up_s ..) (nI c) v
  have hq : f_X10_refuse (nI h) (nI c) v σ = some (0, up (up (up (up (up (up (up σ 80 2 0) 81 0 (nI 1)) 82 0 (nI h)) 80 2 (nI (0 + 1))) 81 1 (nI c)) 82 1 v) 80 2 (nI (1 + 1))) := by
    unfold f_X10_refuse f_X10_refuse_0 f_X0_clear f_X0_clear_0
    rw [bind_s, show (1 : Int32) = nI 1 from rfl, a1, bind_s, a2, bind_s]
    rfl
  refine ⟨_, hq, fun a h1 h2 h3 => ?_, up_s .., fun i hi => ?_⟩
  · rw [up_k _ _ _ h1, up_k _ _ _ h3, up_k _ _ _ h2, up_k _ _ _ h1, up_k _ _ _ h3, up_k _ _ _ h2, up_k _ _ _ h1]
  · have e : i = 0 ∨ i = 1 := by omega
    rcases e with rfl | rfl
    · constructor
      · rw [up_k _ _ _ (by decide), up_k _ _ _ (by decide), up_j _ _ _ (by decide), up_k _ _ _ (by decide), up_k _ _ _ (by decide), up_s, if_pos rfl]
      · rw [up_k _ _ _ (by decide), up_j _ _ _ (by decide), up_k _ _ _ (by decide), up_k _ _ _ (by decide), up_s, if_pos rfl]
    · constructor
      · rw [up_k _ _ _ (by decide), up_k _ _ _ (by decide), up_s, if_neg (by decide)]
      · rw [up_k _ _ _ (by decide), up_s, if_neg (by decide)]
theorem adm_eq (T : ShR 1 R σ) (G : Good R) {h s t : Nat} (hh : h < R 1) (hs : s < R 0) (ht : t < 4) (x y : Int32) : ∃ τ, f_X10_isAdmitted (nI h) (nI s) x y (nI t) σ = some (nI (bN (decide (jn R h s t x.toInt64 y.toInt64 = 0))), τ) ∧ (∀ a, a ≠ 80 → a ≠ 81 → a ≠ 82 → a ≠ 86 → τ a = σ a) ∧ (jn R h s t x.toInt64 y.toInt64 = 0 → ∀ a, a ≠ 86 → τ a = σ a) ∧ (jn R h s t x.toInt64 y.toInt64 ≠ 0 → τ 80 2 = nI (jn R h s t x.toInt64 y.toInt64) ∧ ∀ i, i < jn R h s t x.toInt64 y.toInt64 → τ 81 i = jk R h s t x.toInt64 y.toInt64 i ∧ τ 82 i = jp R h s t x.toInt64 y.toInt64 i) := by
  have hH := GH G hh
  have g2 := G.2.2.1
  unfold f_X10_isAdmitted f_X10_isAdmitted_0
  have hgr := grainC_eq T G hh hs ht
  have hst : f_X9_get 4 (nI h) (nI 4) σ = some (nI (R (653 + h))) := by
    have : f_X9_get (1 + 3) (nI h) (nI 4) σ = some (σ (1 + 3 + 1) (h * 9 + 4)) := hg_eq T (by omega)
    rw [(T.2.2.2.1 h hh).2.2.2.2.1] at this
    exact this
  have hful : f_X9_isFull 6 σ = some (if R 2 = 20 then 1 else 0) := full_eq (t := 6) (lim := 20) T.2.1.2.2.2.2.1 T.2.1.2.2.2.2.2 T.1.2.2 (by decide) (by decide) g2 (by decide)
  have two : ∀ c v, jn R h s t x.toInt64 y.toInt64 = 2 → (∀ i, i < 2 → jk R h s t x.toInt64 y.toInt64 i = (if i = 0 then nI 1 else nI c) ∧ jp R h s t x.toInt64 y.toInt64 i = if i = 0 then nI h else v) → ∃ τ, bzW ((f_X10_refuse (nI h) (nI c) v σ).bind fun q => some (q.1, q.2)) = some (nI (bN (decide (jn R h s t x.toInt64 y.toInt64 = 0))), τ) ∧ (∀ a, a ≠ 80 → a ≠ 81 → a ≠ 82 → a ≠ 86 → τ a = σ a) ∧ (jn R h s t x.toInt64 y.toInt64 = 0 → ∀ a, a ≠ 86 → τ a = σ a) ∧ (jn R h s t x.toInt64 y.toInt64 ≠ 0 → τ 80 2 = nI (jn R h s t x.toInt64 y.toInt64) ∧ ∀ i, i < jn R h s t x.toInt64 y.toInt64 → τ 81 i = jk R h s t x.toInt64 y.toInt64 i ∧ τ 82 i = jp R h s t x.toInt64 y.toInt64 i) := fun c v h2 hi => by
    obtain ⟨τ, a1, a2, a3, a4⟩ := refuse_eq h c v σ
    rw [h2]
    refine ⟨τ, by rw [a1]; rfl, fun a q1 q2 q3 _ => a2 a q1 q2 q3, fun e => absurd e (by decide), fun _ => ⟨a3, fun i q => ?_⟩⟩
    rw [(hi i q).1, (hi i q).2]
    exact a4 i q
  simp only [lit]
  rw [hgr, bind_s, hst, bind_s, hful, bind_s]
  have hst99 := hH.2.2.2.2
  simp (disch := omega) only [bN_e0, nI_leI]
  by_cases c1 : gr R h s t = false
  · rw [if_pos c1]
    refine two 2 (nI t) (if_pos c1) (fun i hi => ?_)
    have e : i = 0 ∨ i = 1 := by omega
    unfold jk jp
    rcases e with rfl | rfl
    · exact ⟨rfl, rfl⟩
    · refine ⟨?_, ?_⟩ <;> simp [c1]
  · rw [if_neg c1]
    by_cases c2 : R (653 + h) = 0
    · rw [if_neg (show ¬ 1 ≤ R (653 + h) by omega)]
      have hrw : f_X9_rowsWith 6 (nI 0) (nI h) σ = some (nI (cnt (fun p => decide (R (661 + p) = h)) (R 2))) := (rowsWith_eq T G (v := h) (by omega)).2
      rw [hrw, bind_s]
      refine two 3 _ (by unfold jn; rw [if_neg c1, if_pos c2]) (fun i hi => ?_)
      have e : i = 0 ∨ i = 1 := by omega
      unfold jk jp
      rcases e with rfl | rfl
      · exact ⟨rfl, rfl⟩
      · refine ⟨?_, ?_⟩ <;> simp [c1, c2]
    · rw [if_pos (show 1 ≤ R (653 + h) by omega)]
      by_cases c3 : R 2 = 20
      · rw [if_pos c3]
        simp only [show ((1 : Int32) = nI 0) = False from eq_false (by decide), if_false]
        refine two 4 (nI 20) (by unfold jn; rw [if_neg c1, if_neg c2, if_pos c3]) (fun i hi => ?_)
        have e : i = 0 ∨ i = 1 := by omega
        unfold jk jp
        rcases e with rfl | rfl
        · exact ⟨rfl, rfl⟩
        · refine ⟨?_, ?_⟩ <;> simp [c1, c2, c3]
      · rw [if_neg c3]
        simp only [show ((0 : Int32) = nI 0) = True from eq_true rfl, if_true]
        obtain ⟨τ, f1, f2⟩ := fitC_eq (f := 86) T G (by decide) hh hs ht x y
        rcases f2 with ⟨f2, f3⟩ | ⟨f2, k0, f3, f4, f5, f6⟩
        · have e : jn R h s t x.toInt64 y.toInt64 = 0 := by unfold jn; rw [if_neg c1, if_neg c2, if_neg c3, if_pos (fb_16 f3)]
          rw [e, f2]
          exact ⟨τ, rfl, fun a _ _ _ q => f1 a q, fun _ a q => f1 a q, fun e => absurd rfl e⟩
        · have e : jn R h s t x.toInt64 y.toInt64 = 3 := by unfold jn; rw [if_neg c1, if_neg c2, if_neg c3, fb_k f3, if_neg (by have := f3.1; omega)]
          rw [e, f2, bind_s]
          obtain ⟨τ2, a1, a2, a3, a4⟩ := refuse_eq h 5 (τ 86 0) τ
          have a5 := add_eq (l := 2) (by decide) a3 (τ2 86 1) (τ2 86 2)
          refine ⟨up (up (up τ2 81 2 (τ2 86 1)) 82 2 (τ2 86 2)) 80 2 (nI (2 + 1)), ?_, ?_, fun e => absurd e (by decide), fun _ => ⟨up_s .., fun i hi => ?_⟩⟩
          · unfold f_X1_blockedNumber f_X1_blockedNumber_0 f_X1_blockKind f_X1_blockKind_0 f_X1_blockPlace f_X1_blockPlace_0
            simp only [bind_s, nn0, if_true]
            rw [a1, bind_s, a5]
            rfl
          · intro a q1 q2 q3 q4
            rw [up_k _ _ _ q1, up_k _ _ _ q3, up_k _ _ _ q2, a2 a q1 q2 q3, f1 a q4]
          · have ei : i = 0 ∨ i = 1 ∨ i = 2 := by omega
            unfold jk jp
            rw [fb_k f3]
            rw [a2 86 (by decide) (by decide) (by decide), f5, f6]
            have b0 := a4 0 (by decide)
            have b1 := a4 1 (by decide)
            rcases ei with rfl | rfl | rfl
            · rw [up_k _ _ _ (by decide), up_k _ _ _ (by decide), up_j _ _ _ (by decide), up_k _ _ _ (by decide), up_j _ _ _ (by decide), up_k _ _ _ (by decide)]
              exact b0
            · rw [up_k _ _ _ (by decide), up_k _ _ _ (by decide), up_j _ _ _ (by decide), up_k _ _ _ (by decide), up_j _ _ _ (by decide), up_k _ _ _ (by decide)]
              simp only [c1, c2, c3, if_false, if_true]
              rw [← f4]
              exact b1
            · rw [up_k _ _ _ (by decide), up_k _ _ _ (by decide), up_s, up_k _ _ _ (by decide), up_s]
              exact ⟨rfl, rfl⟩
