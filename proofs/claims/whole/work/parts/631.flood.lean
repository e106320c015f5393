/-! PURE FACTS, 43: floods, the class's: one spreads to its end -/
variable {k : Nat} {R : Nat → Nat} {σ τ : St}
def WS (w h : Nat) (f0 : Nat → Nat) (g s0 : Nat) (σ : St) (f : Nat → Nat) (q : Nat) (Q : Nat → Nat) (τ : St) : Prop := Sp w (w * h) f0 g s0 f q Q ∧ QS w h f q Q τ ∧ Fq σ τ
def Ex (n : Nat) (f0 : Nat → Nat) (g : Nat) (f : Nat → Nat) (q : Nat) (Q : Nat → Nat) (f' : Nat → Nat) (q' : Nat) (Q' : Nat → Nat) : Prop := q ≤ q' ∧ (∀ i, i < q → Q' i = Q i) ∧ ∀ c, c < n → f0 c = 1 → f c = g + 2 → f' c = g + 2
theorem Ex_r {n g q : Nat} {f0 f Q : Nat → Nat} : Ex n f0 g f q Q f q Q := ⟨Nat.le_refl _, fun _ _ => rfl, fun _ _ _ h => h⟩
theorem Ex_t {n g q q1 q2 : Nat} {f0 f f1 f2 Q Q1 Q2 : Nat → Nat} (a : Ex n f0 g f q Q f1 q1 Q1) (b : Ex n f0 g f1 q1 Q1 f2 q2 Q2) : Ex n f0 g f q Q f2 q2 Q2 := ⟨Nat.le_trans a.1 b.1, fun i hi => (b.2.1 i (Nat.lt_of_lt_of_le hi a.1)).trans (a.2.1 i hi), fun c hc h0 h => b.2.2 c hc h0 (a.2.2 c hc h0 h)⟩
theorem ent_in {w h g s0 q d b : Nat} {f0 f Q : Nat → Nat} (hn : w * h ≤ 100) (hg : g < 1000) (hf0 : ∀ c, c < w * h → f0 c < 1000) (W : WS w h f0 g s0 σ f q Q τ) (hd : d < w * h) (hb : b < w * h) (hb0 : f0 b = 1) (hbg : f b = g + 2) (hnb : Nb w (w * h) b d) : ∃ f' q' Q' τ', f_X4_enter (nI d) (nI g) τ = some τ' ∧ WS w h f0 g s0 σ f' q' Q' τ' ∧ Ex (w * h) f0 g f q Q f' q' Q' ∧ (f0 d = 1 → f' d = g + 2) := by
  obtain ⟨S, T, F⟩ := W
  obtain ⟨f', q', Q', τ', a1, a2, a3, a4, a5, a6, a7, a8⟩ := enter_in hn hg hf0 S T F hd (fun h => Rch_n (S.2.2.2.2 b hb hb0 hbg) hnb h)
  exact ⟨f', q', Q', τ', a1, ⟨a2, a3, a4⟩, ⟨a5, a6, a8⟩, a7⟩
set_option maxHeartbeats 2000000 in
theorem head_eq {w h g s0 q i : Nat} {f0 f Q : Nat → Nat} (hw : 2 ≤ w ∧ w ≤ 10) (hn : w * h ≤ 100) (hg : g < 1000) (hf0 : ∀ c, c < w * h → f0 c < 1000) (W : WS w h f0 g s0 σ f q Q τ) (hi : i < q) (hi2 : i < 100) : ∃ f' q' Q' τ', f_X4_spread_l13 (nI g) (nI i, τ) = some (.inl (nI (i + 1), τ')) ∧ WS w h f0 g s0 σ f' q' Q' τ' ∧ Ex (w * h) f0 g f q Q f' q' Q' ∧ ∀ d, d < w * h → Nb w (w * h) (Q i) d → f0 d = 1 → f' d = g + 2 := by
  have W0 := W
  obtain ⟨S, T, F⟩ := W
  obtain ⟨hb, hb0, hbg⟩ := S.2.1 i hi
  have hq100 : q ≤ 100 := by rw [S.2.2.2.1]; exact Nat.le_trans (cnt_le _ _) hn
  generalize hbb : Q i = b at *
  have hat : f_X10_at 91 (nI i) τ = some (nI b) := by
    rw [at_h (t := 91) (j := i) (by rw [ln90.2]; omega) (by rw [ln90.2]; decide), T.2.2 i hi, hbb]
  have hm := Nat.mod_lt b (show w > 0 by omega)
  -- left
  have left : ∃ f1 q1 Q1 τ1, (if nI (b % w) ≤ nI 0 then some τ else f_X4_enter (nI b - nI 1) (nI g) τ) = some τ1 ∧ WS w h f0 g s0 σ f1 q1 Q1 τ1 ∧ Ex (w * h) f0 g f q Q f1 q1 Q1 ∧ ∀ d, d < w * h → b = d + 1 ∧ b % w ≠ 0 → f0 d = 1 → f1 d = g + 2 := by
    by_cases e : b % w = 0
    · exact ⟨f, q, Q, τ, by rw [e, if_pos (by decide)], W0, Ex_r, fun d _ h => absurd e h.2⟩
    · have b1 : 1 ≤ b := by
        rcases Nat.eq_zero_or_pos b with z | z
        · rw [z, Nat.zero_mod] at e; exact absurd rfl e
        · exact z
      obtain ⟨f', q', Q', τ', a1, a2, a3, a4⟩ := ent_in hn hg hf0 W0 (show b - 1 < w * h by omega) hb hb0 hbg (Or.inr (Or.inl ⟨by omega, e⟩))
      refine ⟨f', q', Q', τ', ?_, a2, a3, fun d hd h h0 => ?_⟩
      · rw [if_neg (show ¬ nI (b % w) ≤ nI 0 by rw [nI_leI (by omega) (by decide)]; omega), nI_subx b1, a1]
      · have : d = b - 1 := by omega
        subst this
        exact a4 h0
  obtain ⟨f1, q1, Q1, τ1, l1, l2, l3, l4⟩ := left
  have hbg1 : f1 b = g + 2 := l3.2.2 b hb hb0 hbg
  have right : ∃ f2 q2 Q2 τ2, (if nI w - nI 1 ≤ nI (b % w) then some τ1 else f_X4_enter (nI b + nI 1) (nI g) τ1) = some τ2 ∧ WS w h f0 g s0 σ f2 q2 Q2 τ2 ∧ Ex (w * h) f0 g f1 q1 Q1 f2 q2 Q2 ∧ ∀ d, d < w * h → d = b + 1 ∧ (b + 1) % w ≠ 0 → f0 d = 1 → f2 d = g + 2 := by
    have hdm := Nat.div_add_mod b w
    have hls := lin_s (w := w) (y := b / w) (x := b % w) hm
    rw [hdm] at hls
    rw [nI_subx (show 1 ≤ w by omega)]
    by_cases e : (b + 1) % w = 0
    · have e2 := hls.mp e
      exact ⟨f1, q1, Q1, τ1, by rw [if_pos (nI_le (by omega) (by omega))], l2, Ex_r, fun d _ h => absurd e h.2⟩
    · have e2 : b % w + 1 ≠ w := fun h => e (hls.mpr h)
      obtain ⟨f', q', Q', τ', a1, a2, a3, a4⟩ := ent_in hn hg hf0 l2 (nx_lt hb e) hb hb0 hbg1 (Or.inl ⟨rfl, e⟩)
      refine ⟨f', q', Q', τ', ?_, a2, a3, fun d hd h h0 => ?_⟩
      · rw [if_neg (nI_ge (by omega) (by omega)), nI_add, a1]
      · rw [h.1] at h0 ⊢
        exact a4 h0
  obtain ⟨f2, q2, Q2, τ2, r1, r2, r3, r4⟩ := right
  have hbg2 : f2 b = g + 2 := r3.2.2 b hb hb0 hbg1
  have up1 : ∃ f3 q3 Q3 τ3, f_X4_enter (nI b - nI w) (nI g) τ2 = some τ3 ∧ WS w h f0 g s0 σ f3 q3 Q3 τ3 ∧ Ex (w * h) f0 g f2 q2 Q2 f3 q3 Q3 ∧ ∀ d, d < w * h → b = d + w → f0 d = 1 → f3 d = g + 2 := by
    by_cases e : b < w
    · refine ⟨f2, q2, Q2, τ2, ?_, r2, Ex_r, fun d _ h => ?_⟩
      · exact enter_no (label_neg (pk_sneg (by omega) e)) (by decide) (by decide) _
      · omega
    · obtain ⟨f', q', Q', τ', a1, a2, a3, a4⟩ := ent_in hn hg hf0 r2 (show b - w < w * h by omega) hb hb0 hbg2 (Or.inr (Or.inr (Or.inl (by omega))))
      refine ⟨f', q', Q', τ', ?_, a2, a3, fun d hd h h0 => ?_⟩
      · rw [nI_subx (by omega), a1]
      · have : d = b - w := by omega
        subst this
        exact a4 h0
  obtain ⟨f3, q3, Q3, τ3, u1, u2, u3, u4⟩ := up1
  have hbg3 : f3 b = g + 2 := u3.2.2 b hb hb0 hbg2
  have down : ∃ f4 q4 Q4 τ4, f_X4_enter (nI b + nI w) (nI g) τ3 = some τ4 ∧ WS w h f0 g s0 σ f4 q4 Q4 τ4 ∧ Ex (w * h) f0 g f3 q3 Q3 f4 q4 Q4 ∧ ∀ d, d < w * h → d = b + w → f0 d = 1 → f4 d = g + 2 := by
    rw [nI_add]
    by_cases e : w * h ≤ b + w
    · refine ⟨f3, q3, Q3, τ3, ?_, u2, Ex_r, fun d hd h => ?_⟩
      · exact enter_no (label_big u2.2.1.1 hn e (by omega)) (by decide) (by decide) _
      · omega
    · obtain ⟨f', q', Q', τ', a1, a2, a3, a4⟩ := ent_in hn hg hf0 u2 (show b + w < w * h by omega) hb hb0 hbg3 (Or.inr (Or.inr (Or.inr ⟨rfl, by omega⟩)))
      refine ⟨f', q', Q', τ', a1, a2, a3, fun d hd h h0 => ?_⟩
      rw [h] at h0 ⊢
      exact a4 h0
  obtain ⟨f4, q4, Q4, τ4, d1, d2, d3, d4⟩ := down
  refine ⟨f4, q4, Q4, τ4, ?_, d2, Ex_t l3 (Ex_t r3 (Ex_t u3 d3)), fun d hd hnb h0 => ?_⟩
  · have j91 : ∀ τ', τ' = τ2 → f_X4_spread_j91 (nI g) (nI i) (nI b) τ' = some (.inl (nI (i + 1), τ4)) := fun τ' e => by
      subst e
      unfold f_X4_spread_j91
      rw [r2.2.1.1.1, u1, bind_s, u2.2.1.1.1, d1, bind_s, nI_1]
    have j71 : ∀ τ', τ' = τ1 → f_X4_spread_j71 (nI g) (nI i) (nI b) (nI (b % w)) τ' = some (.inl (nI (i + 1), τ4)) := fun τ' e => by
      subst e
      unfold f_X4_spread_j71
      rw [l2.2.1.1.1, show (1 : Int32) = nI 1 from rfl]
      by_cases e : nI w - nI 1 ≤ nI (b % w)
      · rw [if_pos e] at r1 ⊢
        cases r1
        exact j91 _ rfl
      · rw [if_neg e] at r1 ⊢
        rw [r1, bind_s]
        exact j91 _ rfl
    have j55 : f_X4_spread_j55 (nI g) (nI i) (nI b) (nI (b % w)) τ = some (.inl (nI (i + 1), τ4)) := by
      unfold f_X4_spread_j55
      rw [show (0 : Int32) = nI 0 from rfl, show (1 : Int32) = nI 1 from rfl]
      by_cases e : nI (b % w) ≤ nI 0
      · rw [if_pos e] at l1 ⊢
        cases l1
        exact j71 _ rfl
      · rw [if_neg e] at l1 ⊢
        rw [l1, bind_s]
        exact j71 _ rfl
    unfold f_X4_spread_l13
    dsimp only
    simp (disch := omega) only [bind_s, sum_l, sum_r, chkin, lit, nI_add, pk_mul, nI_clamp, nI_leI, nI_ltI, nI_eqI, nI_or, and1, shl1, shrx, nI_subx, pk_divx, pk_remx, nmod, nzx, if_tt, if_ff, bz_n1, bz_n0, nm1, nm2, wI_p, wI_inj, wI_n, nI_w, wI_ltI, wI_leI, nI_ltw, nI_lew, reduceIte, T.2.1, T.1.1, hat]
    exact j55
  · rcases hnb with h | h | h | h
    · exact d3.2.2 d hd h0 (u3.2.2 d hd h0 (r4 d hd h h0))
    · exact d3.2.2 d hd h0 (u3.2.2 d hd h0 (r3.2.2 d hd h0 (l4 d hd h h0)))
    · exact d3.2.2 d hd h0 (u4 d hd h h0)
    · exact d4 d hd h.1 h0
/-- what a flood from s0 with label g makes of the labels f0 -/
def Fl (w n : Nat) (f0 : Nat → Nat) (g s0 : Nat) (f : Nat → Nat) : Prop := ∀ c, c < n → (Rch w n (fun c => f0 c = 1) (fun c => c = s0 ∧ f0 c = 1) c → f c = g + 2) ∧ (¬ Rch w n (fun c => f0 c = 1) (fun c => c = s0 ∧ f0 c = 1) c → f c = f0 c)
theorem Nb_lt {w h a b : Nat} (ha : a < w * h) (hn : Nb w (w * h) a b) : b < w * h := by
  rcases hn with h | h | h | h
  · rw [h.1]; exact nx_lt ha h.2
  · omega
  · omega
  · exact h.2
theorem spread_eq {w h g s0 : Nat} {f0 : Nat → Nat} (hw : 2 ≤ w ∧ w ≤ 10) (hn : w * h ≤ 100) (hg : g < 1000) (hf0 : ∀ c, c < w * h → f0 c < 1000) (T : Rg w h f0 τ) (hs : s0 < w * h) : ∃ f τ', f_X4_spread (nI s0) (nI g) τ = some τ' ∧ Rg w h f τ' ∧ Fq τ τ' ∧ Fl w (w * h) f0 g s0 f := by
  have T0 : QS w h f0 0 (fun _ => 0) (up τ 89 4 (nI 0)) := ⟨⟨by rw [up_j _ _ _ (by decide), T.1], by rw [up_j _ _ _ (by decide), T.2.1], fun c hc => by rw [up_k _ _ _ (by decide)]; exact T.2.2 c hc⟩, up_s .., fun i hi => absurd hi (Nat.not_lt_zero _)⟩
  have no : ∀ c, f0 c = 1 → f0 c = g + 2 → False := fun c h1 h2 => by omega
  have S0 : Sp w (w * h) f0 g s0 f0 0 (fun _ => 0) := ⟨fun c _ => Or.inl rfl, fun i hi => absurd hi (Nat.not_lt_zero _), fun c hc h0 h => (no c h0 h).elim, (cnt_z (fun c hc => by
    by_cases e : f0 c = 1
    · rw [decide_eq_false (show ¬ f0 c = g + 2 from fun h => no c e h), Bool.and_false]
    · rw [decide_eq_false e, Bool.false_and])).symm, fun c hc h0 h => (no c h0 h).elim⟩
  obtain ⟨f1, q1, Q1, τ1, a1, a2, a3, a4, a5, a6, a7, a8⟩ := enter_in hn hg hf0 S0 T0 (σ := τ) (fun a h1 _ _ => up_k _ _ _ h1) hs (fun h => Rch_s ⟨rfl, h⟩)
  obtain ⟨r, p1, f', q', Q', p2, p3, p4⟩ := lp_fu (f := f_X4_spread_l13 (nI g)) (fun i z => ∃ f' q' Q' τ', z = (nI i, τ') ∧ WS w h f0 g s0 τ f' q' Q' τ' ∧ (f0 s0 = 1 → f' s0 = g + 2) ∧ i ≤ q' ∧ ∀ j, j < i → ∀ d, d < w * h → Nb w (w * h) (Q' j) d → f0 d = 1 → f' d = g + 2) (fun τ' => ∃ f' q' Q', WS w h f0 g s0 τ f' q' Q' τ' ∧ (f0 s0 = 1 → f' s0 = g + 2) ∧ ∀ j, j < q' → ∀ d, d < w * h → Nb w (w * h) (Q' j) d → f0 d = 1 → f' d = g + 2) 100 (by decide) (nI 0, τ1) ⟨f1, q1, Q1, τ1, rfl, ⟨a2, a3, a4⟩, a7, Nat.zero_le _, fun j hj => absurd hj (Nat.not_lt_zero _)⟩ (by
    rintro i z hi ⟨f', q', Q', τ', rfl, W, ws, wi, wc⟩
    by_cases e : i < q'
    · left
      obtain ⟨f2, q2, Q2, τ2, m1, m2, m3, m4⟩ := head_eq hw hn hg hf0 W e hi
      refine ⟨_, m1, f2, q2, Q2, τ2, rfl, m2, fun h => m3.2.2 s0 hs h (ws h), by have := m3.1; omega, fun j hj d hd hnb h0 => ?_⟩
      rw [m3.2.1 j (by omega)] at hnb
      by_cases e2 : j = i
      · subst e2; exact m4 d hd hnb h0
      · exact m3.2.2 d hd h0 (wc j (by omega) d hd hnb h0)
    · right
      refine ⟨τ', ?_, f', q', Q', W, ws, fun j hj => wc j (by omega)⟩
      have hq100 : q' ≤ 100 := by rw [W.1.2.2.2.1]; exact Nat.le_trans (cnt_le _ _) hn
      unfold f_X4_spread_l13
      dsimp only
      simp (disch := omega) only [bind_s, sum_l, sum_r, chkin, lit, nI_add, pk_mul, nI_clamp, nI_leI, nI_ltI, nI_eqI, nI_or, and1, shl1, shrx, nI_subx, pk_divx, pk_remx, nmod, nzx, if_tt, if_ff, bz_n1, bz_n0, nm1, nm2, wI_p, wI_inj, wI_n, nI_w, wI_ltI, wI_leI, nI_ltw, nI_lew, reduceIte, W.2.1.2.1]) (by
    rintro z ⟨f', q', Q', τ', rfl, W, ws, wi, wc⟩
    have hq100 : q' ≤ 100 := by rw [W.1.2.2.2.1]; exact Nat.le_trans (cnt_le _ _) hn
    refine ⟨τ', ?_, f', q', Q', W, ws, fun j hj => wc j (by omega)⟩
    unfold f_X4_spread_l13
    dsimp only
    simp (disch := omega) only [bind_s, sum_l, sum_r, chkin, lit, nI_add, pk_mul, nI_clamp, nI_leI, nI_ltI, nI_eqI, nI_or, and1, shl1, shrx, nI_subx, pk_divx, pk_remx, nmod, nzx, if_tt, if_ff, bz_n1, bz_n0, nm1, nm2, wI_p, wI_inj, wI_n, nI_w, wI_ltI, wI_leI, nI_ltw, nI_lew, reduceIte, W.2.1.2.1])
  obtain ⟨S, T', F⟩ := p2
  refine ⟨f', r, ?_, T'.1, F, fun c hc => ⟨fun hr => ?_, fun hno => ?_⟩⟩
  · unfold f_X4_spread f_X4_spread_0
    rw [show (0 : Int32) = nI 0 from rfl, a1, bind_s, p1]
    rfl
  · have := hr (fun c => c < w * h ∧ f0 c = 1 ∧ f' c = g + 2) (fun a ha => by
      obtain ⟨rfl, ha2⟩ := ha
      exact ⟨hs, ha2, p3 ha2⟩) (fun a b ha hnb ho => by
      have hb := Nb_lt ha.1 hnb
      obtain ⟨i, hi, hi2⟩ := S.2.2.1 a ha.1 ha.2.1 ha.2.2
      exact ⟨hb, ho, p4 i hi b hb (by rw [hi2]; exact hnb) ho⟩)
    exact this.2.2
  · rcases S.1 c hc with h | ⟨h0, h1⟩
    · exact h
    · exact absurd (S.2.2.2.2 c hc h0 h1) hno
