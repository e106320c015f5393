/-! PURE FACTS, 88: the call way -/
variable {k n len nr nf : Nat} {R V tx : Nat → Nat} {H : Nat → Nat → Nat} {hv : Bool} {rk rp fk fp : Nat → Int32} {σ τ : St} {s : Nat}
/-- the sets of stops within the stops -/
noncomputable def mM (R : Nat → Nat) (s o : Nat) : Nat := mk2 (fun j => @decide (Wi R (sP R s j) (sP R s o) (lwf R (sP R s j))) (Classical.propDecidable _)) (sk R s)
theorem mM_bit {o j : Nat} : bit (mM R s o) j = 1 ↔ j < sk R s ∧ Wi R (sP R s j) (sP R s o) (lwf R (sP R s j)) := by
  unfold mM
  rw [mk2_bit]
  exact and_congr_right (fun _ => @decide_eq_true_iff _ (Classical.propDecidable _))
theorem mM_ok : InnM R s (mM R s) := fun o _ => ⟨mk2_lt _ _, fun _ => mM_bit⟩
theorem Inn_M {a : Nat → Int32} {i : Nat} (h : Inn R s a i) : ∀ o, o < i → a o = nI (mM R s o) := fun o ho => by
  obtain ⟨M, e1, e2, e3⟩ := h o ho
  rw [e1, show M = mM R s o from bit_eq (fun q => by rw [e3, mM_bit])]
/-- how the next stop is chosen -/
noncomputable def dW (R : Nat → Nat) (s w : Nat) : Nat → Nat → Nat → Nat := if w = 0 then dN R s else dS R s (mM R s)
theorem wayC {w : Nat} (T : ShR 1 R σ) (G : Good R) (hs : s < R 0) (hw : w < 2) (h9 : w = 1 → sk R s ≤ 9) : ∃ τ, f_X5_plan 1 (nI s) (nI w) σ = some τ ∧ τ 92 7 = nI (wk R s (mM R s) (dW R s w) (sk R s)).2.2 ∧ (∀ i, i < sk R s → τ 97 i = nI (nxt R s (mM R s) (dW R s w) i - 2)) ∧ (∀ i, i < sk R s → τ 93 i = nI (sP R s i)) ∧ ∀ a, a < 89 ∨ 98 < a → τ a = σ a := by
  obtain ⟨τ1, a1, a2, a3⟩ := stopsC_eq T G hs
  have T1 : ShR 1 R τ1 := ShR_c (fun a _ _ => a3 a (by omega)) T
  obtain ⟨τ2, b1, b2, b3⟩ := innC_eq T1 G hs a2
  have hM2 := Inn_M b2
  have A2 : Sps R s (R 2) (τ2 93) (τ2 94) (τ2 95) (τ2 92 6) (fun p => p) (fun p => lwf R p % sc R s) (fun p => lwf R p / sc R s) := by
    rw [b3 93 (by decide) (by decide) (by decide) (by decide), b3 94 (by decide) (by decide) (by decide) (by decide), b3 95 (by decide) (by decide) (by decide) (by decide), b3 92 (by decide) (by decide) (by decide) (by decide)]
    exact a2
  have hw2 : w = 0 ∨ w = 1 := by omega
  rcases hw2 with rfl | rfl
  · obtain ⟨τ3, c1, c2, c3, c4⟩ := planC_eq (x4 := nI 0) (d := dN R s) G hs mM_ok A2 (fun i hi τ h1 h2 => nearC_ch G hs mM_ok A2 hM2 i hi τ h1 h2)
    refine ⟨τ3, ?_, c2, c3, fun i hi => ?_, fun a ha => ?_⟩
    · unfold f_X5_plan f_X5_plan_0
      rw [a1, bind_s, b1, bind_s, if_pos (by rfl)]
      exact c1
    · rw [c4 93 (by decide) (by decide)]
      exact (A2.2 i hi).1
    · rw [c4 a (by omega) (by omega), b3 a (by omega) (by omega) (by omega) (by omega), a3 a (by omega)]
  · obtain ⟨τ4, d1, d2, d3, d4⟩ := restsC_eq G hs mM_ok (h9 rfl) A2 hM2
    have A4 : Sps R s (R 2) (τ4 93) (τ4 94) (τ4 95) (τ4 92 6) (fun p => p) (fun p => lwf R p % sc R s) (fun p => lwf R p / sc R s) := by
      rw [d4 93 (by decide) (by decide), d4 94 (by decide) (by decide), d4 95 (by decide) (by decide), d3 6 (by decide)]
      exact A2
    have hM4 : ∀ o, o < sk R s → τ4 96 o = nI (mM R s o) := fun o ho => by rw [d4 96 (by decide) (by decide)]; exact hM2 o ho
    obtain ⟨τ3, c1, c2, c3, c4⟩ := planC_eq (x4 := nI 1) (d := dS R s (mM R s)) G hs mM_ok A4 (fun i hi τ h1 h2 => shortC_wk G hs mM_ok (h9 rfl) A4 hM4 d2 i hi τ h1 h2)
    refine ⟨τ3, ?_, c2, c3, fun i hi => ?_, fun a ha => ?_⟩
    · unfold f_X5_plan f_X5_plan_0
      rw [a1, bind_s, b1, bind_s, if_neg (by decide), d1, bind_s]
      exact c1
    · rw [c4 93 (by decide) (by decide)]
      exact (A4.2 i hi).1
    · rw [c4 a (by omega) (by omega), d4 a (by omega) (by omega), b3 a (by omega) (by omega) (by omega) (by omega), a3 a (by omega)]
theorem wayR (hR : σ 102 = rwN R) (G : Good R) (hs : s < R 0) : ∃ τ1, f_X11_lists (nI s) σ = some τ1 ∧ Fr σ τ1 ∧ τ1 101 0 = σ 101 0 ∧ τ1 101 35 = nI (sk R s) ∧ ∀ w x3, w < 2 → (w = 1 → sk R s ≤ 9) → ∃ τ, (if nI w = 0 then (f_X11_nearest (nI s) τ1).bind fun q14 => f_X11_way_j97 x3 q14 else (f_X11_shortest (nI s) τ1).bind fun q10 => f_X11_way_j97 x3 q10) = f_X11_way_j97 x3 τ ∧ Fr σ τ ∧ τ 101 0 = σ 101 0 ∧ τ 101 36 = nI (wk R s (mM R s) (dW R s w) (sk R s)).2.2 ∧ (∀ i, i < sk R s → τ 119 i = nI (nxt R s (mM R s) (dW R s w) i - 2)) ∧ ∀ i, i < sk R s → τ 116 i = nI (sP R s i) := by
  obtain ⟨τ1, a1, a2, a3, a4, a5⟩ := lists_eq hR G hs
  have F1 : Fr σ τ1 := ⟨fun a h1 h2 h3 => a4 a h1 (by omega) (by omega) (by omega) (by omega) (by omega), fun j hj => a5 j (by omega)⟩
  have hR1 : τ1 102 = rwN R := by rw [a4 102 (by decide) (by decide) (by decide) (by decide) (by decide) (by decide), hR]
  have hM2 := Inn_M a3
  have h35 : τ1 101 35 = nI (sk R s) := a2.1
  have h117 : ∀ j, j < sk R s → τ1 117 j = nI (lwf R (sP R s j)) := fun j hj => (a2.2 j hj).2.1
  refine ⟨τ1, a1, F1, a5 0 (by decide), h35, fun w x3 hw h9 => ?_⟩
  have hw2 : w = 0 ∨ w = 1 := by omega
  rcases hw2 with rfl | rfl
  · obtain ⟨τ, b1, b2, b3, b4, b5⟩ := nearR_eq hR1 G hs mM_ok h35 h117 hM2
    refine ⟨τ, by rw [if_pos (by rfl), b1, bind_s], Fr_t F1 ⟨fun a h1 h2 h3 => b5 a h1 (by omega), fun j hj => b4 j (by omega)⟩, by rw [b4 0 (by decide), a5 0 (by decide)], b2, b3, fun i hi => ?_⟩
    rw [b5 116 (by decide) (by decide)]
    exact (a2.2 i hi).1
  · obtain ⟨τ, b1, b2, b3, b4, b5⟩ := shortR_eq (M := mM R s) G hs mM_ok (h9 rfl) ⟨hR1, h35, h117, hM2⟩
    refine ⟨τ, by rw [if_neg (by decide), b1, bind_s], Fr_t F1 ⟨fun a h1 h2 h3 => b5 a h1 (by omega) (by omega), fun j hj => b4 j (by omega)⟩, by rw [b4 0 (by decide), a5 0 (by decide)], b2, b3, fun i hi => ?_⟩
    rw [b5 116 (by decide) (by decide) (by decide)]
    exact (a2.2 i hi).1
theorem wayx (x : Int32) {k : Nat} (hk : k ≤ 20) (h1 : ¬ x < -1) (h2 : ¬ nI k - 1 < x) : x = -1 ∨ ∃ j, j < k ∧ x = nI j := by
  rcases int_n x (n := k) (by omega) with h | h
  · exact Or.inr h
  · left
    rw [Int32.lt_iff_toInt_lt] at h1 h2
    have e1 : (-1 : Int32).toInt = -1 := by decide
    have e2 : (nI k - 1).toInt = (k : Int) - 1 := pk_sub_toInt (b := 1) (by omega) (by decide)
    rw [e1] at h1
    rw [e2] at h2
    apply Int32.toInt_inj.mp
    rw [e1]
    rcases h with h | ⟨h, h3⟩
    · rw [Int32.lt_iff_toInt_lt] at h
      have e0 : (0 : Int32).toInt = 0 := by decide
      rw [e0] at h
      omega
    · rw [Int32.le_iff_toInt_le, nI_toInt (by omega)] at h3
      omega
theorem w01n {x : Int32} (h : x < 0 ∨ (¬ x < 0 ∧ nI 2 ≤ x)) : x < 0 ∨ 1 < x := by
  rcases h with h | ⟨h, h2⟩
  · exact Or.inl h
  · right
    rw [Int32.lt_iff_toInt_lt]
    rw [Int32.le_iff_toInt_le, nI_toInt (by decide)] at h2
    have e1 : (1 : Int32).toInt = 1 := by decide
    rw [e1]
    omega
theorem w01 {j : Nat} (hj : j < 2) : ¬ (nI j < 0 ∨ 1 < nI j) := by
  have : j = 0 ∨ j = 1 := by omega
  rcases this with rfl | rfl <;> decide
theorem call_way (I : Inv σ) (x1 x2 x3 : Int32) : Step (f_L_way x1 x2 x3) (f_X11_way x1 x2 x3) σ := by
  have I0 := I
  obtain ⟨R, n, H, hv, V, len, tx, nr, rk, rp, nf, fk, fp, G, S, c, cx, r, rx⟩ := I
  have hR := r.1
  have g0 := G.1
  rcases int_n x1 (n := R 0) (by omega) with ⟨s, hs, rfl⟩ | hx
  · have hk := sk_le (s := s) G
    obtain ⟨L1, L2, L3, L4, L5⟩ := ln9x
    rcases int_n x2 (n := 2) (by decide) with ⟨w, hw, rfl⟩ | hx
    · have hrw : f_X9_rowsWith 6 1 (nI s) σ = some (nI (sk R s)) := (rowsWith_eq c.1 G (v := s) (by omega)).1
      have hpo : ∀ υ, υ 102 = rwN R → f_X11_partsOn (nI s) υ = some (nI (sk R s)) := fun υ hυ => (partsOn_eq hυ G (v := s) (by omega)).1
      have hw2 : w = 0 ∨ w = 1 := by omega
      by_cases h9 : w = 1 ∧ 9 < sk R s
      · obtain ⟨rfl, h9⟩ := h9
        have n9 : ¬ nI (sk R s) ≤ 9 := nI_ge (a := 9) h9 (by omega)
        refine step_bad (c := nI 3) (τ := σ) I0 (by decide) (L_way_3 ?_) (Fc_r _) (fun υ hυ => ?_)
        · unfold f_X10_way f_X10_way_0
          rw [ckS_in c.1 G hs, bind_s, sum_r, within_eq, bind_s, if_neg (w01 hw), if_neg (by decide), hrw, bind_s, if_pos (by rfl), if_neg n9]
        · have hR0 : υ 102 = rwN R := by rw [hυ 102 (by omega) (by omega), hR]
          refine ⟨0, up (up υ 101 0 0) 101 0 (nI 3), ?_, Fr_t (u0F _ _) (u0F _ _), up_s ..⟩
          unfold f_X11_way f_X11_way_0
          rw [isSheet_in (u0R hR0 _) G hs, bind_s, if_neg (by decide), in_eq, bind_s, if_neg (w01 hw), if_neg (by decide), if_pos (by rfl), hpo _ (u0R hR0 _), bind_s, if_neg n9]
          rfl
      · have hw9 : w = 1 → sk R s ≤ 9 := fun e => by
          rcases Nat.lt_or_ge 9 (sk R s) with q | q
          · exact absurd ⟨e, q⟩ h9
          · exact q
        obtain ⟨τ, p1, p2, p3, p4, p5⟩ := wayC c.1 G hs hw hw9
        have hFc : Fc σ τ := fun a h1 h2 => p5 a (by omega)
        have headC : ∀ X, f_X10_way_j62 (nI s) (nI w) x3 (nI (sk R s)) σ = X → f_X10_way (nI s) (nI w) x3 σ = X := fun X hX => by
          unfold f_X10_way f_X10_way_0
          rw [ckS_in c.1 G hs, bind_s, sum_r, within_eq, bind_s, if_neg (w01 hw), if_neg (by decide), hrw, bind_s]
          rcases hw2 with rfl | rfl
          · rw [if_neg (by decide)]; exact hX
          · rw [if_pos (by rfl), if_pos (show nI (sk R s) ≤ 9 from nI_le (a := sk R s) (b := 9) (hw9 rfl) (by decide))]; exact hX
        have headR : ∀ υ, υ 102 = rwN R → f_X11_way (nI s) (nI w) x3 υ = f_X11_way_j55 (nI s) (nI w) x3 (up υ 101 0 0) := fun υ hυ => by
          unfold f_X11_way f_X11_way_0
          rw [isSheet_in (u0R hυ _) G hs, bind_s, if_neg (by decide), in_eq, bind_s, if_neg (w01 hw), if_neg (by decide)]
          rcases hw2 with rfl | rfl
          · rw [if_neg (by decide)]
          · rw [if_pos (by rfl), hpo _ (u0R hυ _), bind_s, if_pos (show nI (sk R s) ≤ 9 from nI_le (a := sk R s) (b := 9) (hw9 rfl) (by decide))]
        by_cases h3 : x3 < -1 ∨ nI (sk R s) - 1 < x3
        · refine step_bad (c := nI 4) (τ := σ) I0 (by decide) (L_way_4 (headC _ ?_)) (Fc_r _) (fun υ hυ => ?_)
          · unfold f_X10_way_j62
            rw [within_eq, bind_s, if_pos h3, if_pos (by rfl)]
          · have hR0 : υ 102 = rwN R := by rw [hυ 102 (by omega) (by omega), hR]
            obtain ⟨τ1, a1, a2, a3, a4, _⟩ := wayR (u0R hR0 0) G hs
            refine ⟨0, up τ1 101 0 (nI 4), ?_, Fr_t (Fr_t (u0F _ _) a2) (u0F _ _), up_s ..⟩
            rw [headR υ hR0]
            unfold f_X11_way_j55
            rw [a1, bind_s, a4, in_eq, bind_s, if_pos h3, if_pos (by rfl)]
            rfl
        · have h31 := fun h => h3 (Or.inl h)
          have h32 := fun h => h3 (Or.inr h)
          have onC : ∀ v, (if x3 = (-1) then (f_X5_length τ).bind fun q15 => some (Sum.inr (q15, τ)) else (f_X5_partAt x3 τ).bind fun q14 => some (Sum.inr (q14, τ))) = (some (Sum.inr (v, τ)) : Option ((String × St) ⊕ (Int32 × St))) → f_X10_way (nI s) (nI w) x3 σ = some (.inr (v, τ)) := fun v hv => headC _ (by
            unfold f_X10_way_j62 f_X10_way_j108
            rw [within_eq, bind_s, if_neg h3, if_neg (by decide)]
            rcases hw2 with rfl | rfl
            · rw [if_neg (by decide)]
              have p1' : f_X5_plan 1 (nI s) 0 σ = some τ := p1
              rw [p1', bind_s]
              exact hv
            · rw [if_pos (by rfl)]
              have p1' : f_X5_plan 1 (nI s) 1 σ = some τ := p1
              rw [p1', bind_s]
              exact hv)
          have onR : ∀ v, (∀ υ, υ 101 36 = nI (wk R s (mM R s) (dW R s w) (sk R s)).2.2 → (∀ i, i < sk R s → υ 119 i = nI (nxt R s (mM R s) (dW R s w) i - 2)) → (∀ i, i < sk R s → υ 116 i = nI (sP R s i)) → f_X11_way_j97 x3 υ = some (v, υ)) → ∀ υ, (∀ a, 101 ≤ a → a ≠ 122 → υ a = σ a) → ∃ τ', f_X11_way (nI s) (nI w) x3 υ = some (v, τ') ∧ Fr υ τ' ∧ τ' 101 0 = nI 0 := fun v hv υ hυ => by
            have hR0 : υ 102 = rwN R := by rw [hυ 102 (by omega) (by omega), hR]
            obtain ⟨τ1, a1, a2, a3, a4, a5⟩ := wayR (u0R hR0 0) G hs
            obtain ⟨τ2, b1, b2, b3, b4, b5, b6⟩ := a5 w x3 hw hw9
            refine ⟨τ2, ?_, Fr_t (u0F _ _) b2, by rw [b3, up_s]; rfl⟩
            rw [headR υ hR0]
            unfold f_X11_way_j55
            rw [a1, bind_s, a4, in_eq, bind_s, if_neg h3, if_neg (by decide), b1]
            exact hv τ2 b4 b5 b6
          rcases wayx x3 hk h31 h32 with rfl | ⟨j, hj, rfl⟩
          · refine step_ok I0 (L_way_0 (onC (nI (wk R s (mM R s) (dW R s w) (sk R s)).2.2) ?_)) hFc (onR _ (fun υ e1 _ _ => ?_))
            · rw [if_pos (by rfl), ← p2]
              rfl
            · unfold f_X11_way_j97
              rw [if_pos (by rfl), e1]
          · have hne : ¬ nI j = -1 := by rw [nI_mne (by omega)]; exact fun h => h
            obtain ⟨a1, a2, a3, a4⟩ := wk_ok (d := dW R s w) G hs mM_ok j (by omega)
            obtain ⟨b1, b2, b3⟩ := nxt_r (s := s) (M := mM R s) (d := dW R s w) (i := j) G mM_ok (by omega)
            refine step_ok I0 (L_way_0 (onC (nI (sP R s (nxt R s (mM R s) (dW R s w) j - 2))) ?_)) hFc (onR _ (fun υ e1 e2 e3 => ?_))
            · unfold f_X5_partAt f_X5_partAt_0
              rw [if_neg hne, at_h (by omega) (by omega), bind_s, p3 j hj, at_h (by omega) (by omega), bind_s, p4 _ (by omega)]
              rfl
            · unfold f_X11_way_j97
              rw [if_neg hne, chkin (by omega) (by omega), nI_clamp (by omega), e2 j hj, chkin (by omega) (by omega), nI_clamp (by omega), e3 _ (by omega)]
    · refine step_no I0 (L_way_2 ?_) (by decide) ?_
      · unfold f_X10_way f_X10_way_0
        rw [ckS_in c.1 G hs, bind_s, sum_r, within_eq, bind_s, if_pos (w01n hx), if_pos (by rfl)]
      · unfold f_X11_way f_X11_way_0
        rw [isSheet_in (u0R hR _) G hs, bind_s, if_neg (by decide), in_eq, bind_s, if_pos (w01n hx), if_pos (by rfl)]
        rfl
  · refine step_no I0 (L_way_1 ?_) (by decide) ?_
    · unfold f_X10_way f_X10_way_0
      rw [ckS_out c.1 hx]
      rfl
    · unfold f_X11_way f_X11_way_0
      rw [isSheet_out (u0R hR _) G hx, bind_s, if_pos (by rfl)]
      rfl
