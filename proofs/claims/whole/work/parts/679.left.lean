/-! PURE FACTS, 86: the way, the reference's table -/
variable {R : Nat → Nat} {σ τ : St} {s : Nat}
/-- a last stop, as the reference names it: 9 for the start -/
def xl (l : Nat) : Nat := if l = 9 then 1 else l + 2
theorem lst_lt {A : Nat → Bool} {d : Nat → Nat} {i : Nat} (h : ∀ j, j < i → A j = true → d j < 1000000) : lst A d i ≤ 1000000 := by
  unfold lst
  by_cases q : bsf A d i = 1
  · rw [if_pos q]; exact Nat.le_refl _
  · rw [if_neg q]
    rcases bsf_r A d i with h1 | ⟨h1, h2, h3⟩
    · exact absurd h1 q
    · have := h _ (show bsf A d i - 2 < i by omega) h3
      omega
theorem dS_lt {M : Nat → Nat} {D x j : Nat} (G : Good R) (hs : s < R 0) (hM : InnM R s M) (hx : x = 1 ∨ 2 ≤ x ∧ x < sk R s + 2) (hj : j < sk R s) (hb : ¬ bit D j = 1) : dS R s M D x j < 10000 := by
  have hk := sk_le (s := s) G
  have hlt := dw_lt (w := sc R s) (fc_100 G hs hx) (low_100 G hs hj)
  have hcn := cn_s hj hb
  have hcl : cn R s (D ||| 2 ^ j) ≤ sk R s := cnt_le _ _
  have hr := rst_le (M := M) G hs hM (sk R s - cn R s (D ||| 2 ^ j)) (D ||| 2 ^ j) (j + 2) (by omega) (Or.inr ⟨by omega, by omega⟩)
  show dw _ _ _ + _ < _
  omega
theorem xl_ok {l : Nat} (hk9 : sk R s ≤ 9) (hl : l = 9 ∨ l < sk R s) : xl l = 1 ∨ 2 ≤ xl l ∧ xl l < sk R s + 2 := by
  unfold xl
  by_cases e : l = 9
  · rw [if_pos e]; exact Or.inl rfl
  · rw [if_neg e]; exact Or.inr ⟨by omega, by omega⟩
theorem xl_s {j : Nat} (h : j < 9) : xl j = j + 2 := if_neg (by omega)
/-- what the reference's tables hold when it looks for the shortest -/
def LfR (R : Nat → Nat) (s : Nat) (M : Nat → Nat) (σ : St) : Prop := σ 102 = rwN R ∧ σ 101 35 = nI (sk R s) ∧ (∀ j, j < sk R s → σ 117 j = nI (lwf R (sP R s j))) ∧ ∀ o, o < sk R s → σ 118 o = nI (M o)
theorem LfR_c {M : Nat → Nat} (h : ∀ a, a = 102 ∨ a = 117 ∨ a = 118 → τ a = σ a) (h2 : τ 101 35 = σ 101 35) (L : LfR R s M σ) : LfR R s M τ := by
  unfold LfR at *
  rw [h 102 (by omega), h 117 (by omega), h 118 (by omega), h2]
  exact L
/-- the table from D0 on -/
def TabR (R : Nat → Nat) (s : Nat) (M : Nat → Nat) (D0 : Nat) (f : Nat → Int32) : Prop := ∀ D, D0 ≤ D → D < 2 ^ sk R s → ∀ l, (l = 9 ∨ l < sk R s) → f (10 * D + l) = nI (rst R s M D (xl l))
/-- how far it is to a stop, by the reference, and on from there -/
theorem goR_eq {M : Nat → Nat} {D l j : Nat} (G : Good R) (hs : s < R 0) (hk9 : sk R s ≤ 9) (L : LfR R s M σ) (hD : D < 2 ^ sk R s) (hl : l = 9 ∨ l < sk R s) (hj : j < sk R s) (hb : ¬ bit D j = 1) (hT : TabR R s M (D + 1) (σ 120)) {c : Nat} (hc : c = fc R s (xl l)) : f_X11_far (nI s) (nI c) (σ 117 j) σ = some (nI (dst R s (fc R s (xl l)) j)) ∧ (10 * (nI D ||| ((1 : Int32) <<< (nI j &&& 31)))) + nI j = nI (10 * (D ||| 2 ^ j) + j) ∧ 10 * (D ||| 2 ^ j) + j < 5120 ∧ σ 120 (10 * (D ||| 2 ^ j) + j) = nI (rst R s M (D ||| 2 ^ j) (j + 2)) := by
  have h9 : 2 ^ sk R s ≤ 2 ^ 9 := Nat.pow_le_pow_right (by decide) hk9
  have hor : D ||| 2 ^ j < 2 ^ sk R s := Nat.or_lt_two_pow hD (Nat.pow_lt_pow_right (by decide) hj)
  subst hc
  refine ⟨?_, ?_, by omega, ?_⟩
  · rw [L.2.2.1 j hj, farR_eq L.1 G hs (fc_100 G hs (xl_ok hk9 hl)) (low_100 G hs hj)]
    rfl
  · rw [show (31 : Int32) = nI 31 from rfl, show (10 : Int32) = nI 10 from rfl, show (1 : Int32) = nI 1 from rfl, shl1 (by omega), nI_or, pk_mul, nI_add]
  · rw [hT _ (or_gt hb) hor j (Or.inr hj), xl_s (by omega)]
theorem leftR_eq {M : Nat → Nat} {D l : Nat} (G : Good R) (hs : s < R 0) (hM : InnM R s M) (hk9 : sk R s ≤ 9) (L : LfR R s M σ) (hD : D < 2 ^ sk R s) (hl : l = 9 ∨ l < sk R s) (hT : TabR R s M (D + 1) (σ 120)) : f_X11_leftOf (nI s) (nI D) (nI l) σ = some (nI (lst (alw M D) (dS R s M D (xl l)) (sk R s))) := by
  have h9 : 2 ^ sk R s ≤ 2 ^ 9 := Nat.pow_le_pow_right (by decide) hk9
  have hx := xl_ok hk9 hl
  obtain ⟨v, q1, q2⟩ := lp_fu (f := f_X11_leftOf_l8 (nI s) (nI D) (nI l) σ) (fun j z => z = (nI (lst (alw M D) (dS R s M D (xl l)) j), nI j)) (fun v => v = nI (lst (alw M D) (dS R s M D (xl l)) (sk R s))) (sk R s) (by omega) (nI 1000000, nI 0) rfl (by
    rintro j z hj rfl
    left
    refine ⟨(nI (lst (alw M D) (dS R s M D (xl l)) (j + 1)), nI (j + 1)), ?_, rfl⟩
    have hMj := L.2.2.2 j hj
    have hMl := (hM j hj).1
    have hnl := nand_lt (a := M j) (b := D) (by omega)
    have nn : ¬ σ 101 35 ≤ nI j := by rw [L.2.1]; exact nI_ge hj (by omega)
    have hle : lst (alw M D) (dS R s M D (xl l)) j ≤ 1000000 := lst_lt (fun i hi ha => by
      have := dS_lt (D := D) G hs hM hx (show i < sk R s by omega) (alw_n ha)
      omega)
    unfold f_X11_leftOf_l8 f_X11_leftOf_j104
    dsimp only
    rw [if_neg nn, has_eq (by omega) (by omega), bind_s, show (0 : Int32) = nI 0 from rfl, bit_if]
    by_cases e : bit D j = 1
    · rw [if_pos e, nI_1, lst_n (fun h => alw_n h e)]
    · rw [if_neg e, chkin (by omega) (by omega), nI_clamp (by omega), hMj, nI_nand]
      by_cases e2 : M j ^^^ (M j &&& D) = 0
      · have a : alw M D j = true := by unfold alw; rw [decide_eq_true e, decide_eq_true e2]; rfl
        have hd := dS_lt (D := D) G hs hM hx hj e
        have key : ∀ c, c = fc R s (xl l) → f_X11_leftOf_j58 (nI s) (nI D) (nI l) (nI (lst (alw M D) (dS R s M D (xl l)) j)) (nI j) (nI c) (nI s) σ = some (.inl (nI (lst (alw M D) (dS R s M D (xl l)) (j + 1)), nI (j + 1))) := fun c hc => by
          obtain ⟨g1, g2, g3, g4⟩ := goR_eq G hs hk9 L hD hl hj e hT hc
          unfold f_X11_leftOf_j58 f_X11_leftOf_j102 f_X11_leftOf_j104
          rw [chkin (by omega) (by omega), nI_clamp (by omega), g1, bind_s, g2, chkin g3 (by omega), nI_clamp (by omega), g4, nI_add, nI_1, lst_s a (by omega)]
          show (if nI (lst (alw M D) (dS R s M D (xl l)) j) ≤ nI (dS R s M D (xl l) j) then _ else some (Sum.inl (nI (dS R s M D (xl l) j), _))) = _
          by_cases q : lst (alw M D) (dS R s M D (xl l)) j ≤ dS R s M D (xl l) j
          · rw [if_pos (nI_le q (by omega)), if_pos q]
          · rw [if_neg (nI_ge (by omega) (by omega)), if_neg q]
        rw [if_pos (by rw [e2])]
        by_cases q9 : l = 9
        · subst q9
          rw [if_pos (show nI 9 = 9 from rfl)]
          exact key 0 rfl
        · rw [if_neg (show ¬ nI l = 9 from fun h => q9 ((nI_eq (a := l) (b := 9) (by omega) (by decide)).mp h)), chkin (by omega) (by omega), nI_clamp (by omega), L.2.2.1 l (by omega)]
          refine key _ ?_
          unfold fc xl
          rw [if_neg q9, if_neg (by omega), Nat.add_sub_cancel]
      · rw [if_neg (by rw [nI_eqI hnl (by decide)]; exact e2), nI_1, lst_n (fun h => (by unfold alw at h; rw [decide_eq_false e2, Bool.and_false] at h; exact absurd h (by decide)))]) (by
    rintro z rfl
    refine ⟨_, ?_, rfl⟩
    unfold f_X11_leftOf_l8
    dsimp only
    exact if_pos (by rw [L.2.1]; exact Int32.le_refl _))
  unfold f_X11_leftOf f_X11_leftOf_0
  rw [show (0 : Int32) = nI 0 from rfl, show (1000000 : Int32) = nI 1000000 from rfl, q1, q2]
  rfl
theorem left_rst {M : Nat → Nat} {D x : Nat} (G : Good R) (hM : InnM R s M) (hl : cn R s D < sk R s) : lst (alw M D) (dS R s M D x) (sk R s) = rst R s M D x := by
  obtain ⟨b1, b2, b3⟩ := some_ex (M := M) G hM hl (dS R s M D x)
  rw [rst_s G hM hl]
  unfold lst
  rw [if_neg (by omega)]
/-- a row of the table -/
theorem rowR_eq {M : Nat → Nat} {D : Nat} (G : Good R) (hs : s < R 0) (hM : InnM R s M) (hk9 : sk R s ≤ 9) (L : LfR R s M σ) (hD : D < 2 ^ sk R s) (hT : TabR R s M (D + 1) (σ 120)) : ∃ τ, lp (f_X11_shortest_l18 (nI s) (nI (2 ^ sk R s - 1)) (nI D)) FU (nI 0, σ) = some τ ∧ TabR R s M D (τ 120) ∧ ∀ a, a ≠ 120 → τ a = σ a := by
  have h9 : 2 ^ sk R s ≤ 2 ^ 9 := Nat.pow_le_pow_right (by decide) hk9
  obtain ⟨v, q1, q2, q3, q4⟩ := lp_fu (f := f_X11_shortest_l18 (nI s) (nI (2 ^ sk R s - 1)) (nI D)) (fun i z => ∃ τ, z = (nI i, τ) ∧ TabR R s M (D + 1) (τ 120) ∧ (∀ l, l < i → (l = 9 ∨ l < sk R s) → τ 120 (10 * D + l) = nI (rst R s M D (xl l))) ∧ ∀ a, a ≠ 120 → τ a = σ a) (fun τ => TabR R s M (D + 1) (τ 120) ∧ (∀ l, l < 10 → (l = 9 ∨ l < sk R s) → τ 120 (10 * D + l) = nI (rst R s M D (xl l))) ∧ ∀ a, a ≠ 120 → τ a = σ a) 10 (by omega) (nI 0, σ) ⟨σ, rfl, hT, fun l h => absurd h (Nat.not_lt_zero _), fun _ _ => rfl⟩ (by
    rintro i z hi ⟨τ, rfl, e1, e2, e3⟩
    left
    have Lτ : LfR R s M τ := LfR_c (fun a h => e3 a (by omega)) (by rw [e3 101 (by decide)]) L
    have nn : ¬ (10 : Int32) ≤ nI i := nI_ge (a := i) (b := 10) hi (by decide)
    have eix : (10 : Int32) * nI D + nI i = nI (10 * D + i) := by rw [show (10 : Int32) = nI 10 from rfl, pk_mul, nI_add]
    have fin : ∀ v : Int32, f_X11_shortest_j53 (nI s) (nI (2 ^ sk R s - 1)) (nI D) (nI i) v (10 * nI D + nI i) τ = some (.inl (nI (i + 1), up τ 120 (10 * D + i) v)) := fun v => by
      unfold f_X11_shortest_j53
      rw [eix, chkin (by omega) (by omega), nI_clamp (by omega), nI_1]
    have step : ∃ v, f_X11_shortest_l18 (nI s) (nI (2 ^ sk R s - 1)) (nI D) (nI i, τ) = some (.inl (nI (i + 1), up τ 120 (10 * D + i) v)) ∧ ((i = 9 ∨ i < sk R s) → v = nI (rst R s M D (xl i))) := by
      unfold f_X11_shortest_l18
      dsimp only
      rw [if_neg nn]
      by_cases q : D = 2 ^ sk R s - 1
      · rw [if_pos (by rw [q])]
        refine ⟨0, fin 0, fun _ => ?_⟩
        rw [rst_all (by rw [q]; exact cn_all)]
        rfl
      · rw [if_neg (by rw [nI_eqI (by omega) (by omega)]; exact q)]
        by_cases w : i = 9 ∨ i < sk R s
        · rw [leftR_eq G hs hM hk9 Lτ hD w e1, bind_s]
          exact ⟨_, fin _, fun _ => by rw [left_rst G hM (cn_lt hD q)]⟩
        · obtain ⟨v, hv⟩ := leftOf_any Lτ.1 G hs hk9 Lτ.2.1 hD hi
          rw [hv, bind_s]
          exact ⟨v, fin v, fun h => absurd h w⟩
    obtain ⟨v, h1, h2⟩ := step
    refine ⟨_, h1, _, rfl, fun D' g1 g2 l g3 => ?_, fun l g1 g2 => ?_, fun a ha => by rw [up_k _ _ _ ha, e3 a ha]⟩
    · rw [up_j _ _ _ (by omega)]; exact e1 D' g1 g2 l g3
    · by_cases q : l = i
      · subst q; rw [up_s]; exact h2 g2
      · rw [up_j _ _ _ (by omega)]; exact e2 l (by omega) g2) (by
    rintro z ⟨τ, rfl, e1, e2, e3⟩
    refine ⟨τ, ?_, e1, e2, e3⟩
    unfold f_X11_shortest_l18
    dsimp only
    exact if_pos (Int32.le_refl _))
  refine ⟨v, q1, fun D' g1 g2 l g3 => ?_, q4⟩
  by_cases q : D' = D
  · subst q; exact q3 l (by omega) g3
  · exact q2 D' (by omega) g2 l g3
