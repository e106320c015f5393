/-! PURE FACTS, 104: texts, what the call read needs -/
variable {len p k m n C q nr nf : Nat} {f tx : Nat → Nat} {b e o hv : Bool} {σ τ υ : St} {R V : Nat → Nat} {H : Nat → Nat → Nat} {rk rp fk fp : Nat → Int32}
theorem up_up (σ : St) (a j : Nat) (v w : Int32) : up (up σ a j v) a j w = up σ a j w := by
  funext c d
  by_cases h1 : c = a
  · by_cases h2 : d = j
    · rw [h1, h2, up_s, up_s]
    · rw [h1, up_j _ _ _ h2, up_j _ _ _ h2, up_j _ _ _ h2]
  · rw [up_k _ _ _ h1, up_k _ _ _ h1, up_k _ _ _ h1]
theorem ln83 : ln 84 = 3 ∧ ln 85 = 3 := by decide +kernel
theorem add83_eq {l : Nat} (hl : l < 3) (h : σ 83 2 = nI l) (a b : Int32) : f_X0_add 83 a b σ = some (up (up (up σ 84 l a) 85 l b) 83 2 (nI (l + 1))) := by
  unfold f_X0_add f_X0_add_0
  have p1 := put_h (t := 84) (j := l) (τ := σ) (v := a) (by rw [ln83.1]; exact hl) (by rw [ln83.1]; decide)
  have p2 := put_h (t := 85) (j := l) (τ := up σ 84 l a) (v := b) (by rw [ln83.2]; exact hl) (by rw [ln83.2]; decide)
  have e1 : (up σ 84 l a) 83 2 = nI l := by rw [up_k _ _ _ (by decide), h]
  have e2 : (up (up σ 84 l a) 85 l b) 83 2 = nI l := by rw [up_k _ _ _ (by decide), e1]
  rw [h, if_neg (show ¬ (3 : Int32) ≤ nI l from nI_ge (b := 3) hl (by decide))]
  show (f_X10_put 84 (nI l) a σ).bind _ = _
  rw [p1, bind_s, e1]
  show (f_X10_put 85 (nI l) b (up σ 84 l a)).bind _ = _
  rw [p2, bind_s, e2, nI_1]
theorem doI_G {R' : Nat → Nat} (X : TX f len) (hp : p < len) (G : Good R) (hok : (itm f p).1 = true) (h : doI f p R = .inr R') : Good R' := by
  have g0 := G.1
  have g1 := G.2.1
  unfold doI at h
  by_cases q1 : f p = 115
  · rw [if_pos q1] at h
    by_cases c1 : dA f p < 2 ∨ 10 < dA f p
    · rw [if_pos c1] at h; cases h
    · rw [if_neg c1] at h
      by_cases c2 : dB f p < 2 ∨ 10 < dB f p
      · rw [if_pos c2] at h; cases h
      · rw [if_neg c2] at h
        by_cases c3 : R 0 = 6
        · rw [if_pos c3] at h; cases h
        · rw [if_neg c3] at h
          cases h
          exact rSheet_G G (by omega) (by omega) (by omega) (grn_le _ _) (fun _ _ => Nat.le_refl _)
  · rw [if_neg q1] at h
    by_cases q2 : f p = 112
    · rw [if_pos q2] at h
      by_cases c1 : 2 < dA f p
      · rw [if_pos c1] at h; cases h
      · rw [if_neg c1] at h
        by_cases c2 : shv f p = true
        · rw [if_pos c2] at h
          by_cases c3 : R 1 = 8
          · rw [if_pos c3] at h; cases h
          · rw [if_neg c3] at h
            cases h
            have ho : odn f (p + 1) (sN f p) = false := by
              refine Bool.eq_false_iff.mpr (fun h => ?_)
              rw [shv_o h] at c2
              exact absurd c2 (by decide)
            obtain ⟨s1, s2, n1, n2, hk, hm⟩ := shp_even X hp q2 hok ho
            obtain ⟨b, f1, f2, f3⟩ := shp_eq ⟨s1, s2⟩ ⟨n1, n2⟩ hm
            have hb := shv_b ho f1
            rw [c2] at hb
            exact rShape_G G (by omega) ⟨s1, s2, n1, n2, hm⟩ (f3 hb.symm) (by omega) (shp_ok X hp q2 hok).1
        · rw [if_neg c2] at h; cases h
    · rw [if_neg q2] at h
      by_cases c1 : R 0 ≤ dA f p
      · rw [if_pos c1] at h; cases h
      · rw [if_neg c1] at h
        by_cases c2 : sc R (dA f p) * sr R (dA f p) ≤ dB f p
        · rw [if_pos c2] at h; cases h
        · rw [if_neg c2] at h
          by_cases c3 : on R (dA f p) (dB f p) = 1
          · rw [if_pos c3] at h
            cases h
            exact spo_G G (by omega) (by omega) c3
          · rw [if_neg c3] at h; cases h
theorem rsR_G (X : TX f len) (ht : tok f len = true) (G : Good R) : ∀ q, q ≤ lq f + 1 → Good (rsR f R q) := by
  intro q
  induction q with
  | zero => intro _; exact G
  | succ q ih =>
    intro hq
    have hG := ih (by omega)
    obtain ⟨i1, i2, _⟩ := items_ok X ht (show q ≤ lq f by omega)
    rw [rsR]
    cases h : doI f (qS f q) (rsR f R q) with
    | inl z => exact hG
    | inr R' => exact doI_G X i2 hG i1 h
/-- the reference keeps the row that it framed, once it has made another -/
theorem RI_keep {R' : Nat → Nat} (I : RI R' n H hv V σ) (h104 : ∀ i, i < 761 → σ 104 i = nI (R i)) (hn : n ≤ 8) : ∃ τ, f_X11_keeps σ = some τ ∧ RI R' (min (n + 1) 8) (pushH R H) hv V τ ∧ (∀ a, a ≠ 101 → a ≠ 105 → τ a = σ a) ∧ ∀ j, j ≠ 5 → τ 101 j = σ 101 j := by
  obtain ⟨h1, h2, h3, h4, h5⟩ := I
  by_cases e : n < 8
  · have h := keeps_lt σ (kp := n) h2 e
    refine ⟨_, h, ⟨?_, ?_, fun j hj i hi => ?_, ?_, fun q i hi => ?_⟩, fun a q1 q3 => ?_, fun j hj => ?_⟩
    · rw [upA_ne _ _ (by decide), up_k _ _ _ (by decide), h1]
    · rw [upA_ne _ _ (by decide), up_s, show min (n + 1) 8 = n + 1 by omega]
    · rw [upA_same, show min (n + 1) 8 = n + 1 by omega]
      unfold pushH
      by_cases ej : j = 0
      · subst ej
        rw [if_pos rfl, blk_in (by omega) (by omega), h104 _ (by omega)]
        exact congrArg (fun q => nI (R q)) (by omega)
      · rw [if_neg ej, blk_out (by omega), ← h3 (j - 1) (by omega) i hi]
        congr 1
        omega
    · rw [upA_ne _ _ (by decide), up_j _ _ _ (by decide), h4]
    · rw [upA_ne _ _ (by decide), up_k _ _ _ (by decide), h5 q i hi]
    · rw [upA_ne _ _ q3, up_k _ _ _ q1]
    · rw [upA_ne _ _ (by decide), up_j _ _ _ hj]
  · have en : n = 8 := by omega
    subst en
    have h := keeps_8 σ h2
    refine ⟨_, h, ⟨?_, ?_, fun j hj i hi => ?_, ?_, fun q i hi => ?_⟩, fun a q1 q3 => ?_, fun j hj => ?_⟩
    · rw [upA_ne _ _ (by decide), h1]
    · rw [upA_ne _ _ (by decide), h2]
      rfl
    · rw [upA_same, show min (8 + 1) 8 = 8 by omega] at *
      unfold pushH
      by_cases ej : j = 0
      · subst ej
        rw [if_pos rfl, blk_in (by omega) (by omega), h104 _ (by omega)]
        exact congrArg (fun q => nI (R q)) (by omega)
      · rw [if_neg ej, blk_out (by omega), blk_in (by omega) (by omega), ← h3 (j - 1) (by omega) i hi]
        congr 1
        omega
    · rw [upA_ne _ _ (by decide), h4]
    · rw [upA_ne _ _ (by decide), h5 q i hi]
    · rw [upA_ne _ _ q3]
    · rw [upA_ne _ _ (by decide)]
/-- the call, put together -/
theorem read_fin {n' nf' : Nat} {R' : Nat → Nat} {H' : Nat → Nat → Nat} {fk' fp' : Nat → Int32} {v : Int32} (hf : f_X10_read σ = some (v, τ)) (hg : f_X11_read τ = some (v, υ)) (hy : ∀ a, a < 101 → υ a = τ a) (G' : Good R') (S' : SmallI n' 0 tx nr nf') (c : CI R' n' H' hv V τ) (cx : CX 0 tx nr rk rp nf' fk' fp' τ) (r : RI R' n' H' hv V υ) (rx : RX 0 tx nr rk rp nf' fk' fp' υ) : Step0 f_X10_read f_X11_read σ :=
  ⟨τ, v, υ, hf, hg, R', n', H', hv, V, 0, tx, nr, rk, rp, nf', fk', fp', G', S', CI_c (fun a h => hy a (by omega)) c, CX_c (fun a h => hy a (by omega)) cx, r, rx⟩
