/-! PURE FACTS, 69: the way, the class's stops -/
variable {R : Nat → Nat} {σ τ : St} {s : Nat}
def lwf (R : Nat → Nat) (p : Nat) : Nat := fo (fun i a => if ck R (R (681 + p)) (99 - i) = p + 2 then 99 - i else a) 100 0
theorem lwf_eq {p l : Nat} (hl : IsLow R p l) (h : l < 100) : lwf R p = l := by
  have := fo_inv (fun i a => 100 ≤ i + l → a = l) (fun i a => if ck R (R (681 + p)) (99 - i) = p + 2 then 99 - i else a) 0 (fun h => by omega) 100 (fun i a hi ha hq => by
    by_cases e : 99 - i = l
    · rw [if_pos (by rw [e]; exact hl.1), e]
    · rw [if_neg (hl.2 (99 - i) (by omega))]
      exact ha (by omega))
  exact this (by omega)
theorem lwf_low (G : Good R) {p : Nat} (hp : p < R 2) : IsLow R p (lwf R p) ∧ lwf R p < sc R (R (681 + p)) * sr R (R (681 + p)) := by
  obtain ⟨k, _, hk, _, hl⟩ := low_ex G hp
  have h := cl_xy G hp hk
  rw [lwf_eq hl h.2.2.2.2.2.1]
  exact ⟨hl, h.2.2.2.2.1⟩
/-- how many of the parts below i lie on s, and which they are -/
def kk (R : Nat → Nat) (s i : Nat) : Nat := cnt (fun p => decide (R (681 + p) = s)) i
def pl (R : Nat → Nat) (s : Nat) : Nat → Nat → Nat
  | 0 => fun _ => 0
  | i + 1 => if R (681 + i) = s then updN (pl R s i) (kk R s i) i else pl R s i
theorem kk_s (R : Nat → Nat) (s i : Nat) : kk R s (i + 1) = if R (681 + i) = s then kk R s i + 1 else kk R s i := by
  unfold kk
  rw [cnt_s]
  by_cases e : R (681 + i) = s
  · rw [decide_eq_true e, if_pos rfl, if_pos e]
  · rw [decide_eq_false e, if_neg (by decide), if_neg e]
theorem kk_le (R : Nat → Nat) (s i : Nat) : kk R s i ≤ i := cnt_le _ _
theorem pl_on (R : Nat → Nat) (s i : Nat) : ∀ j, j < kk R s i → pl R s i j < i ∧ R (681 + pl R s i j) = s := by
  induction i with
  | zero => intro j hj; exact absurd hj (Nat.not_lt_zero _)
  | succ i ih =>
    intro j hj
    rw [kk_s] at hj
    unfold pl
    by_cases e : R (681 + i) = s
    · rw [if_pos e] at hj ⊢
      unfold updN
      by_cases q : j = kk R s i
      · rw [if_pos q]; exact ⟨by omega, e⟩
      · rw [if_neg q]
        have := ih j (by omega)
        exact ⟨by omega, this.2⟩
    · rw [if_neg e] at hj ⊢
      have := ih j hj
      exact ⟨by omega, this.2⟩
/-- one part more, in three rows of small numbers -/
def Sps (R : Nat → Nat) (s i : Nat) (a b c : Nat → Int32) (n : Int32) (x y z : Nat → Nat) : Prop := n = nI (kk R s i) ∧ ∀ j, j < kk R s i → a j = nI (x (pl R s i j)) ∧ b j = nI (y (pl R s i j)) ∧ c j = nI (z (pl R s i j))
theorem Sps_1 {i : Nat} {a b c : Nat → Int32} {n : Int32} {x y z : Nat → Nat} (A : Sps R s i a b c n x y z) (e : R (681 + i) = s) : Sps R s (i + 1) (upd a (kk R s i) (nI (x i))) (upd b (kk R s i) (nI (y i))) (upd c (kk R s i) (nI (z i))) (nI (kk R s i + 1)) x y z := by
  refine ⟨by rw [kk_s, if_pos e], fun j hj => ?_⟩
  rw [kk_s, if_pos e] at hj
  unfold pl upd
  rw [if_pos e]
  unfold updN
  by_cases q : j = kk R s i
  · simp only [if_pos q, and_self]
  · simp only [if_neg q]; exact A.2 j (by omega)
theorem Sps_0 {i : Nat} {a b c : Nat → Int32} {n : Int32} {x y z : Nat → Nat} (A : Sps R s i a b c n x y z) (e : ¬ R (681 + i) = s) : Sps R s (i + 1) a b c n x y z := by
  unfold Sps at *
  rw [kk_s, if_neg e]
  unfold pl
  rw [if_neg e]
  exact A
theorem ln9x : ln 93 = 20 ∧ ln 94 = 20 ∧ ln 95 = 20 ∧ ln 96 = 20 ∧ ln 97 = 20 := by decide +kernel
theorem stopsC_eq (T : ShR 1 R σ) (G : Good R) (hs : s < R 0) : ∃ τ, f_X5_findStops 1 (nI s) σ = some τ ∧ Sps R s (R 2) (τ 93) (τ 94) (τ 95) (τ 92 6) (fun p => p) (fun p => lwf R p % sc R s) (fun p => lwf R p / sc R s) ∧ ∀ a, a < 92 ∨ 95 < a → τ a = σ a := by
  have g2 := G.2.2.1
  have hS := GS G hs
  obtain ⟨L1, L2, L3, L4, L5⟩ := ln9x
  obtain ⟨v, q1, q2, q3⟩ := lp_fu (f := f_X5_findStops_l14 1 (nI s) (nI (sc R s))) (fun p z => ∃ τ, z = (nI p, τ) ∧ Sps R s p (τ 93) (τ 94) (τ 95) (τ 92 6) (fun p => p) (fun p => lwf R p % sc R s) (fun p => lwf R p / sc R s) ∧ ∀ a, a < 92 ∨ 95 < a → τ a = σ a) (fun τ => Sps R s (R 2) (τ 93) (τ 94) (τ 95) (τ 92 6) (fun p => p) (fun p => lwf R p % sc R s) (fun p => lwf R p / sc R s) ∧ ∀ a, a < 92 ∨ 95 < a → τ a = σ a) (R 2) (by omega) (nI 0, up σ 92 6 (nI 0)) ⟨_, rfl, ⟨up_s .., fun j hj => absurd hj (Nat.not_lt_zero _)⟩, fun a ha => up_k _ _ _ (by omega)⟩ (by
    rintro p z hp ⟨τ, rfl, A, F⟩
    left
    have Tτ : ShR 1 R τ := ShR_c (fun a _ _ => F a (by omega)) T
    have hsz : f_X9_size 6 τ = some (nI (R 2)) := by rw [size_eq]; exact congrArg some Tτ.2.1.2.2.2.2.2
    obtain ⟨_, p2, _⟩ := Tτ.2.2.2.2 p hp
    have hg : f_X9_get 6 (nI p) 1 τ = some (nI (R (681 + p))) := by
      have l7 : ln 7 = 100 := T.1.2.2
      have := get_eq (t := 6) (row := p) (fld := 1) Tτ.2.1.2.2.2.2.1 (by rw [l7]; omega) (by rw [l7]; decide)
      rw [show (1 : Int32) = nI 1 from rfl, this]
      exact congrArg some p2
    have hk := kk_le R s p
    have hps := (G.2.2.2.2.2.1 p hp).2.1
    have hpS := GS G hps
    by_cases e : R (681 + p) = s
    · obtain ⟨w1, w2⟩ := lwf_low G hp
      rw [e] at w2
      have hn := hS.2.2.2.2.2.2.1
      have b1 := put_h (t := 93) (j := kk R s p) (τ := τ) (v := nI p) (by omega) (by omega)
      have b2 := put_h (t := 94) (j := kk R s p) (τ := up τ 93 (kk R s p) (nI p)) (v := nI (lwf R p % sc R s)) (by omega) (by omega)
      have b3 := put_h (t := 95) (j := kk R s p) (τ := up (up τ 93 (kk R s p) (nI p)) 94 (kk R s p) (nI (lwf R p % sc R s))) (v := nI (lwf R p / sc R s)) (by omega) (by omega)
      have erem : nI (lwf R p) - nI (lwf R p) / nI (sc R s) * nI (sc R s) = nI (lwf R p % sc R s) := pk_rem (by omega) (by omega) (by omega)
      have ediv : nI (lwf R p) / nI (sc R s) = nI (lwf R p / sc R s) := pk_div (by omega) (by omega) (by omega)
      have wpos : ¬ nI (sc R s) ≤ 0 := nI_ge (a := 0) (by omega) (by omega)
      refine ⟨(nI (p + 1), up (up (up (up τ 93 (kk R s p) (nI p)) 94 (kk R s p) (nI (lwf R p % sc R s))) 95 (kk R s p) (nI (lwf R p / sc R s))) 92 6 (nI (kk R s p + 1))), ?_, _, rfl, ?_, ?_⟩
      · unfold f_X5_findStops_l14 f_X5_findStops_j81 f_X5_findStops_j104 f_X5_findStops_j117
        dsimp only
        rw [hsz, bind_s, if_neg (nI_ge hp (by omega)), hg, bind_s, e, if_pos rfl, lowC_eq Tτ G hp w1, bind_s, A.1, b1, bind_s, if_neg wpos, nzx (by omega) (by omega), erem, up_k _ _ _ (show (92 : Nat) ≠ 93 by decide), A.1, b2, bind_s, if_neg wpos, nzx (by omega) (by omega), ediv, up_k _ _ _ (show (92 : Nat) ≠ 94 by decide), up_k _ _ _ (show (92 : Nat) ≠ 93 by decide), A.1, b3, bind_s, up_k _ _ _ (show (92 : Nat) ≠ 95 by decide), up_k _ _ _ (show (92 : Nat) ≠ 94 by decide), up_k _ _ _ (show (92 : Nat) ≠ 93 by decide), A.1, nI_1, nI_1]
      · have := Sps_1 A e
        have x1 : ∀ σ' : St, ∀ v, (up σ' 95 (kk R s p) v) 95 = upd (σ' 95) (kk R s p) v := fun σ' v => upA_same ..
        have x2 : ∀ σ' : St, ∀ v, (up σ' 94 (kk R s p) v) 94 = upd (σ' 94) (kk R s p) v := fun σ' v => upA_same ..
        have x3 : ∀ σ' : St, ∀ v, (up σ' 93 (kk R s p) v) 93 = upd (σ' 93) (kk R s p) v := fun σ' v => upA_same ..
        rw [up_k _ _ _ (show (93 : Nat) ≠ 92 by decide), up_k _ _ _ (show (93 : Nat) ≠ 95 by decide), up_k _ _ _ (show (93 : Nat) ≠ 94 by decide), x3, up_k _ _ _ (show (94 : Nat) ≠ 92 by decide), up_k _ _ _ (show (94 : Nat) ≠ 95 by decide), x2, up_k _ _ _ (show (95 : Nat) ≠ 92 by decide), x1, up_k _ _ _ (show (94 : Nat) ≠ 93 by decide), up_k _ _ _ (show (95 : Nat) ≠ 94 by decide), up_k _ _ _ (show (95 : Nat) ≠ 93 by decide), up_s]
        exact this
      · intro a ha
        rw [up_k _ _ _ (by omega), up_k _ _ _ (by omega), up_k _ _ _ (by omega), up_k _ _ _ (by omega), F a ha]
    · refine ⟨(nI (p + 1), τ), ?_, τ, rfl, Sps_0 A e, F⟩
      unfold f_X5_findStops_l14 f_X5_findStops_j117
      dsimp only
      rw [hsz, bind_s, if_neg (nI_ge hp (by omega)), hg, bind_s, if_neg (by rw [nI_eqI (by omega) (by omega)]; exact e), nI_1]) (by
    rintro z ⟨τ, rfl, A, F⟩
    have Tτ : ShR 1 R τ := ShR_c (fun a _ _ => F a (by omega)) T
    have hsz : f_X9_size 6 τ = some (nI (R 2)) := by rw [size_eq]; exact congrArg some Tτ.2.1.2.2.2.2.2
    refine ⟨τ, ?_, A, F⟩
    unfold f_X5_findStops_l14
    dsimp only
    rw [hsz, bind_s, if_pos (by exact Int32.le_refl _)])
  refine ⟨v, ?_, q2, q3⟩
  unfold f_X5_findStops f_X5_findStops_0
  rw [columnsOf_eq T G hs, bind_s, show (0 : Int32) = nI 0 from rfl, q1]
  rfl
