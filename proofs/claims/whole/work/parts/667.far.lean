/-! PURE FACTS, 74: the way, distances -/
variable {R : Nat → Nat} {σ τ : St} {s : Nat}
theorem nI_int {k : Nat} (h : k < 2 ^ 31) : (nI k).toInt = (k : Int) := by
  show (Int32.ofNat k).toInt = k
  exact Int32.toInt_ofNat_of_lt h
theorem negk {k : Nat} (h0 : 0 < k) (h : k < 2 ^ 31) : ¬ (0 : Int32) ≤ -(nI k) := by
  rw [Int32.le_iff_toInt_le, Int32.toInt_neg, nI_int h]
  show ¬ (0 : Int) ≤ (-(k : Int)).bmod (2 ^ 32)
  rw [Int.bmod_def]
  omega
def ad (a b : Nat) : Nat := (a - b) + (b - a)
theorem ad_s (a b : Nat) : ad a b = ad b a := by unfold ad; omega
theorem absC {a b : Nat} (ha : a < 2 ^ 20) (hb : b < 2 ^ 20) : (if 0 ≤ nI a - nI b then nI a - nI b else 0 - (nI a - nI b)) = nI (ad a b) ∧ (0 ≤ nI a - nI b ∧ nI a - nI b = nI (ad a b) ∨ ¬ 0 ≤ nI a - nI b ∧ -(nI a - nI b) = nI (ad a b)) := by
  by_cases h : b ≤ a
  · have e : nI a - nI b = nI (ad a b) := by
      rw [nI_subx h]
      unfold ad
      rw [show b - a = 0 by omega, Nat.add_zero]
    have p : (0 : Int32) ≤ nI a - nI b := by
      rw [e]
      exact (show nI 0 ≤ nI (ad a b) by rw [nI_leI (by decide) (by unfold ad; omega)]; exact Nat.zero_le _)
    exact ⟨by rw [if_pos p, e], Or.inl ⟨p, e⟩⟩
  · have e : nI a - nI b = -(nI (ad a b)) := by
      rw [← Int32.neg_sub, nI_subx (show a ≤ b by omega)]
      unfold ad
      rw [show a - b = 0 by omega, Nat.zero_add]
    have p : ¬ (0 : Int32) ≤ nI a - nI b := by
      rw [e]
      exact negk (by unfold ad; omega) (by unfold ad; omega)
    have e2 : -(nI a - nI b) = nI (ad a b) := by rw [e, Int32.neg_neg]
    exact ⟨by rw [if_neg p, ← e2, Int32.zero_sub], Or.inr ⟨p, e2⟩⟩
/-- the way between two cells of a field w wide -/
def dw (w a b : Nat) : Nat := ad (a % w) (b % w) + ad (a / w) (b / w)
theorem farR_eq (hR : σ 102 = rwN R) (G : Good R) (hs : s < R 0) {a b : Nat} (ha : a < 100) (hb : b < 100) : f_X11_far (nI s) (nI a) (nI b) σ = some (nI (dw (sc R s) a b)) := by
  obtain ⟨z0, z1, z2, z3, z4, z5, hn, _⟩ := GS G hs
  have m1 := Nat.mod_lt a (show sc R s > 0 by omega)
  have m2 := Nat.mod_lt b (show sc R s > 0 by omega)
  have d1 := Nat.div_le_self a (sc R s)
  have d2 := Nat.div_le_self b (sc R s)
  have ea : nI a - nI a / nI (sc R s) * nI (sc R s) = nI (a % sc R s) := pk_rem (by omega) (by omega) (by omega)
  have eb : nI b - nI b / nI (sc R s) * nI (sc R s) = nI (b % sc R s) := pk_rem (by omega) (by omega) (by omega)
  have fa : nI a / nI (sc R s) = nI (a / sc R s) := pk_div (by omega) (by omega) (by omega)
  have fb : nI b / nI (sc R s) = nI (b / sc R s) := pk_div (by omega) (by omega) (by omega)
  have row : σ 102 (3 + s) = nI (sc R s) := by rw [hR]; rfl
  unfold f_X11_far f_X11_far_0
  rw [show (3 : Int32) = nI 3 from rfl, nI_add, chkin (by omega) (by omega), nI_clamp (by omega), row, nzx (by omega) (by omega), nzx (by omega) (by omega), nzx (by omega) (by omega), nzx (by omega) (by omega), ea, eb, fa, fb]
  unfold f_X11_far_j45 f_X11_far_j58 dw
  obtain ⟨_, x⟩ := absC (a := a % sc R s) (b := b % sc R s) (by omega) (by omega)
  obtain ⟨_, y⟩ := absC (a := a / sc R s) (b := b / sc R s) (by omega) (by omega)
  rcases x with ⟨x1, x2⟩ | ⟨x1, x2⟩ <;> rcases y with ⟨y1, y2⟩ | ⟨y1, y2⟩
  · rw [if_pos x1, if_pos y1, x2, y2, nI_add]
  · rw [if_pos x1, if_neg y1, x2, y2, nI_add]
  · rw [if_neg x1, if_pos y1, x2, y2, nI_add]
  · rw [if_neg x1, if_neg y1, x2, y2, nI_add]
/-- the cell where the way stands: a stop's, or the start's -/
def fc (R : Nat → Nat) (s : Nat) (x : Nat) : Nat := if x = 1 then 0 else lwf R (sP R s (x - 2))
theorem distC_eq (A : Sps R s (R 2) (σ 93) (σ 94) (σ 95) (σ 92 6) (fun p => p) (fun p => lwf R p % sc R s) (fun p => lwf R p / sc R s)) (G : Good R) (hs : s < R 0) {x j : Nat} (hx : x = 1 ∨ 2 ≤ x ∧ x < sk R s + 2) (hj : j < sk R s) : f_X5_distance (wI x) (nI j) σ = some (nI (dw (sc R s) (fc R s x) (lwf R (sP R s j)))) := by
  have hk := sk_le (s := s) G
  obtain ⟨L1, L2, L3, L4, L5⟩ := ln9x
  obtain ⟨z0, z1, z2, z3, z4, z5, hn, _⟩ := GS G hs
  have at94 : ∀ i, i < sk R s → f_X10_at 94 (nI i) σ = some (nI (lwf R (sP R s i) % sc R s)) := fun i hi => by
    rw [at_h (by omega) (by omega)]
    exact congrArg some (A.2 i hi).2.1
  have at95 : ∀ i, i < sk R s → f_X10_at 95 (nI i) σ = some (nI (lwf R (sP R s i) / sc R s)) := fun i hi => by
    rw [at_h (by omega) (by omega)]
    exact congrArg some (A.2 i hi).2.2
  have low : ∀ i, i < sk R s → lwf R (sP R s i) < 100 := fun i hi => by
    obtain ⟨j1, j2⟩ := sP_on hi
    have := (lwf_low G j1).2
    rw [j2] at this
    omega
  have key : ∀ a, a < 100 → f_X5_distance_j35 (nI j) (nI (a % sc R s)) (nI (a / sc R s)) σ = some (nI (dw (sc R s) a (lwf R (sP R s j)))) := fun a ha => by
    have hl := low j hj
    have m1 := Nat.mod_lt a (show sc R s > 0 by omega)
    have m2 := Nat.mod_lt (lwf R (sP R s j)) (show sc R s > 0 by omega)
    have d1 := Nat.div_le_self a (sc R s)
    have d2 := Nat.div_le_self (lwf R (sP R s j)) (sc R s)
    unfold f_X5_distance_j35 dw
    rw [at94 j hj, bind_s, at95 j hj, bind_s, (absC (by omega) (by omega)).1, (absC (by omega) (by omega)).1, nI_add, ad_s (a % sc R s), ad_s (a / sc R s)]
  unfold f_X5_distance f_X5_distance_0 f_X5_distance_j17
  rcases hx with rfl | ⟨x1, x2⟩
  · have := key 0 (by decide)
    rw [Nat.zero_mod, Nat.zero_div] at this
    rw [if_pos (by rfl), if_pos (by rfl)]
    exact this
  · obtain ⟨i, rfl⟩ : ∃ i, x = i + 2 := ⟨x - 2, by omega⟩
    have hne : ¬ wI (i + 2) = -1 := by rw [wI_m1 (by omega)]; omega
    have e : fc R s (i + 2) = lwf R (sP R s i) := by
      unfold fc
      rw [if_neg (by omega), Nat.add_sub_cancel]
    rw [if_neg hne, wI_p, at94 i (by omega), bind_s, if_neg (show ¬ nI i = -1 by rw [← wI_p]; exact hne), at95 i (by omega), bind_s, e]
    exact key _ (low i (by omega))
