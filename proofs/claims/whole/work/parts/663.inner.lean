/-! PURE FACTS, 70: the way, what lies within what, the class's -/
variable {R : Nat → Nat} {σ τ : St} {s : Nat}
theorem bNi (b : Bool) {B : Type} {X Y : B} : (if nI (bN b) = 0 then X else Y) = if b = true then Y else X := by
  cases b
  · rw [if_pos (by decide), if_neg (by decide)]
  · rw [if_neg (by decide), if_pos rfl]
def mk2 (P : Nat → Bool) (n : Nat) : Nat := fo (fun j a => if P j = true then a ||| 2 ^ j else a) n 0
theorem mk2_bit {P : Nat → Bool} {n q : Nat} : bit (mk2 P n) q = 1 ↔ q < n ∧ P q = true := by
  unfold mk2
  refine fo_inv (fun n a => bit a q = 1 ↔ q < n ∧ P q = true) (fun j a => if P j = true then a ||| 2 ^ j else a) 0 ?_ n (fun i b _ h => ?_)
  · rw [bit_z]
    exact ⟨fun h => (by cases h), fun h => absurd h.1 (Nat.not_lt_zero _)⟩
  · by_cases e : P i = true
    · rw [if_pos e, bit_or, bit_pow, h]
      constructor
      · rintro (⟨h1, h2⟩ | rfl)
        · exact ⟨by omega, h2⟩
        · exact ⟨by omega, e⟩
      · rintro ⟨h1, h2⟩
        by_cases q2 : q = i
        · exact Or.inr q2.symm
        · exact Or.inl ⟨by omega, h2⟩
    · rw [if_neg e, h]
      constructor
      · rintro ⟨h1, h2⟩; exact ⟨by omega, h2⟩
      · rintro ⟨h1, h2⟩
        by_cases q2 : q = i
        · subst q2; exact absurd h2 e
        · exact ⟨by omega, h2⟩
theorem mk2_lt (P : Nat → Bool) (n : Nat) : mk2 P n < 2 ^ n := by
  unfold mk2
  refine fo_inv (fun i a => a < 2 ^ n) (fun j a => if P j = true then a ||| 2 ^ j else a) 0 (Nat.two_pow_pos _) n (fun i b hi h => ?_)
  split
  · exact Nat.or_lt_two_pow h (Nat.pow_lt_pow_right (by decide) hi)
  · exact h
/-- the stops on s: their number and their parts -/
def sk (R : Nat → Nat) (s : Nat) : Nat := kk R s (R 2)
def sP (R : Nat → Nat) (s j : Nat) : Nat := pl R s (R 2) j
/-- the sets of stops within the stops below i -/
def Inn (R : Nat → Nat) (s : Nat) (a : Nat → Int32) (i : Nat) : Prop := ∀ o, o < i → ∃ M, a o = nI M ∧ M < 2 ^ sk R s ∧ ∀ j, bit M j = 1 ↔ j < sk R s ∧ Wi R (sP R s j) (sP R s o) (lwf R (sP R s j))
theorem sk_le (G : Good R) : sk R s ≤ 20 := by
  have := kk_le R s (R 2)
  have := G.2.2.1
  unfold sk
  omega
theorem sP_on {j : Nat} (hj : j < sk R s) : sP R s j < R 2 ∧ R (681 + sP R s j) = s := pl_on R s (R 2) j hj
theorem innC_eq (T : ShR 1 R σ) (G : Good R) (hs : s < R 0) (A : Sps R s (R 2) (σ 93) (σ 94) (σ 95) (σ 92 6) (fun p => p) (fun p => lwf R p % sc R s) (fun p => lwf R p / sc R s)) : ∃ τ, f_X5_findInner 1 (nI s) σ = some τ ∧ Inn R s (τ 96) (sk R s) ∧ ∀ a, a ≠ 89 → a ≠ 90 → a ≠ 91 → a ≠ 96 → τ a = σ a := by
  have g2 := G.2.2.1
  have hS := GS G hs
  obtain ⟨z0, z1, z2, z3, z4, z5, hn, _⟩ := hS
  obtain ⟨L1, L2, L3, L4, L5⟩ := ln9x
  have hk := sk_le (s := s) G
  have A1 : σ 92 6 = nI (sk R s) := A.1
  obtain ⟨v, q1, q2, q3⟩ := lp_fu (f := f_X5_findInner_l10 1 (nI s) (nI (sc R s))) (fun o z => ∃ τ, z = (nI o, τ) ∧ Inn R s (τ 96) o ∧ ∀ a, a ≠ 89 → a ≠ 90 → a ≠ 91 → a ≠ 96 → τ a = σ a) (fun τ => Inn R s (τ 96) (sk R s) ∧ ∀ a, a ≠ 89 → a ≠ 90 → a ≠ 91 → a ≠ 96 → τ a = σ a) (sk R s) (by omega) (nI 0, σ) ⟨σ, rfl, fun o h => absurd h (Nat.not_lt_zero _), fun _ _ _ _ _ => rfl⟩ (by
    rintro o z ho ⟨τ, rfl, B, F⟩
    left
    have Tτ : ShR 1 R τ := ShR_c (fun a _ _ => F a (by omega) (by omega) (by omega) (by omega)) T
    obtain ⟨o1, o2⟩ := sP_on ho
    have e93 : f_X10_at 93 (nI o) τ = some (nI (sP R s o)) := by
      rw [at_h (by omega) (by omega), F 93 (by decide) (by decide) (by decide) (by decide)]
      exact congrArg some (A.2 o ho).1
    obtain ⟨f, τ1, h1, h2, h3, h4, h5⟩ := holesC_eq Tτ G hs (show sP R s o < 100 by omega)
    have d : ∀ a, 92 ≤ a → a ≠ 96 → τ1 a = σ a := fun a ha h => by rw [h3 a (by omega) (by omega) (by omega), F a (by omega) (by omega) (by omega) h]
    have inner := lp_f0 (f := f_X5_findInner_l40 1 (nI s) (nI (sc R s)) (nI o) τ1) (fun i n => (nI n, nI i)) (fun j a => if (fun j => decide (f (lwf R (sP R s j)) = 1)) j = true then a ||| 2 ^ j else a) (fun n => nI n) (sk R s) (by omega) 0 (fun j a hj => by
      obtain ⟨j1, j2⟩ := sP_on hj
      obtain ⟨w1, w2⟩ := lwf_low G j1
      rw [j2] at w2
      have e94 : f_X10_at 94 (nI j) τ1 = some (nI (lwf R (sP R s j) % sc R s)) := by
        rw [at_h (by omega) (by omega), d 94 (by decide) (by decide)]
        exact congrArg some (A.2 j hj).2.1
      have e95 : f_X10_at 95 (nI j) τ1 = some (nI (lwf R (sP R s j) / sc R s)) := by
        rw [at_h (by omega) (by omega), d 95 (by decide) (by decide)]
        exact congrArg some (A.2 j hj).2.2
      unfold f_X5_findInner_l40 f_X5_findInner_j87
      dsimp only
      have nn : ¬ τ1 92 6 ≤ nI j := by rw [d 92 (by decide) (by decide), A1]; exact nI_ge hj (by omega)
      rw [if_neg nn, e94, bind_s, e95, bind_s, pk_mul, nI_add, Nat.mod_add_div, inHole_eq h2 hn w2 (h4 _ w2), bind_s, nI_1, bNi]
      by_cases e : decide (f (lwf R (sP R s j)) = 1) = true
      · rw [if_pos e, if_pos e, show (31 : Int32) = nI 31 from rfl, show (1 : Int32) = nI 1 from rfl, shl1 (by omega), nI_or]
      · rw [if_neg e, if_neg e]) (fun b => by
      unfold f_X5_findInner_l40
      dsimp only
      exact if_pos (by rw [d 92 (by decide) (by decide), A1]; exact Int32.le_refl _))
    have b1 := put_h (t := 96) (j := o) (τ := τ1) (v := nI (mk2 (fun j => decide (f (lwf R (sP R s j)) = 1)) (sk R s))) (by omega) (by omega)
    refine ⟨(nI (o + 1), up τ1 96 o (nI (mk2 (fun j => decide (f (lwf R (sP R s j)) = 1)) (sk R s)))), ?_, _, rfl, fun o' ho' => ?_, fun a x1 x2 x3 x4 => ?_⟩
    · unfold f_X5_findInner_l10
      dsimp only
      have nn : ¬ τ 92 6 ≤ nI o := by rw [F 92 (by decide) (by decide) (by decide) (by decide), A1]; exact nI_ge ho (by omega)
      rw [if_neg nn, e93, bind_s, h1, bind_s, show ((0 : Int32), (0 : Int32)) = (nI 0, nI 0) from rfl, inner, bind_s]
      show ((f_X10_put 96 (nI o) (nI (mk2 (fun j => decide (f (lwf R (sP R s j)) = 1)) (sk R s))) τ1).bind _) = _
      rw [b1, bind_s, nI_1]
    · by_cases e : o' = o
      · subst e
        refine ⟨_, up_s .., mk2_lt _ _, fun j => ?_⟩
        rw [mk2_bit, decide_eq_true_iff]
        refine and_congr_right (fun hj => ?_)
        obtain ⟨j1, j2⟩ := sP_on hj
        obtain ⟨w1, w2⟩ := lwf_low G j1
        have := Wi_hole (o := sP R s o') G j1 w1 (by rw [o2, j2])
        rw [j2] at this w2
        rw [h5 _ w2, this]
      · rw [up_j _ _ _ e, h3 96 (by decide) (by decide) (by decide)]
        exact B o' (by omega)
    · rw [up_k _ _ _ x4, h3 a x1 x2 x3, F a x1 x2 x3 x4]) (by
    rintro z ⟨τ, rfl, B, F⟩
    refine ⟨τ, ?_, B, F⟩
    unfold f_X5_findInner_l10
    dsimp only
    exact if_pos (by rw [F 92 (by decide) (by decide) (by decide) (by decide), A1]; exact Int32.le_refl _))
  refine ⟨v, ?_, q2, q3⟩
  unfold f_X5_findInner f_X5_findInner_0
  rw [columnsOf_eq T G hs, bind_s, show (0 : Int32) = nI 0 from rfl, q1]
  rfl
