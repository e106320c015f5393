/-! PURE FACTS, 84: the way, what is left of it from nowhere -/
variable {R : Nat → Nat} {σ τ : St} {s : Nat}
theorem far_any (hR : σ 102 = rwN R) (G : Good R) (hs : s < R 0) (a b : Int32) : ∃ v, f_X11_far (nI s) a b σ = some v := by
  obtain ⟨z0, z1, z2, z3, z4, z5, hn, _⟩ := GS G hs
  have row : σ 102 (3 + s) = nI (sc R s) := by rw [hR]; rfl
  unfold f_X11_far f_X11_far_0
  rw [show (3 : Int32) = nI 3 from rfl, nI_add, chkin (by omega) (by omega), nI_clamp (by omega), row, nzx (by omega) (by omega), nzx (by omega) (by omega), nzx (by omega) (by omega), nzx (by omega) (by omega)]
  unfold f_X11_far_j45 f_X11_far_j58
  split
  · split
    · exact ⟨_, rfl⟩
    · exact ⟨_, rfl⟩
  · split
    · exact ⟨_, rfl⟩
    · exact ⟨_, rfl⟩
/-- for any last stop, also one that is none, the reference has an answer -/
theorem leftOf_any {D l : Nat} (hR : σ 102 = rwN R) (G : Good R) (hs : s < R 0) (hk9 : sk R s ≤ 9) (h35 : σ 101 35 = nI (sk R s)) (hD : D < 2 ^ sk R s) (hl : l < 10) : ∃ v, f_X11_leftOf (nI s) (nI D) (nI l) σ = some v := by
  have h9 : 2 ^ sk R s ≤ 2 ^ 9 := Nat.pow_le_pow_right (by decide) hk9
  obtain ⟨v, q1, _⟩ := lp_fu (f := f_X11_leftOf_l8 (nI s) (nI D) (nI l) σ) (fun j z => z.2 = nI j) (fun _ => True) (sk R s) (by omega) (1000000, 0) rfl (by
    rintro j ⟨x, y⟩ hj e
    have e : y = nI j := e
    subst e
    left
    have hor : D ||| 2 ^ j < 2 ^ sk R s := Nat.or_lt_two_pow hD (Nat.pow_lt_pow_right (by decide) hj)
    have nn : ¬ σ 101 35 ≤ nI j := by rw [h35]; exact nI_ge hj (by omega)
    have j58 : ∀ c : Int32, ∃ s', f_X11_leftOf_j58 (nI s) (nI D) (nI l) x (nI j) c (nI s) σ = some (.inl s') ∧ s'.2 = nI (j + 1) := fun c => by
      obtain ⟨v, hv⟩ := far_any hR G hs c (σ 117 j)
      unfold f_X11_leftOf_j58 f_X11_leftOf_j102 f_X11_leftOf_j104
      rw [chkin (by omega) (by omega), nI_clamp (by omega), hv, bind_s, show (31 : Int32) = nI 31 from rfl, show (1 : Int32) = nI 1 from rfl, show (10 : Int32) = nI 10 from rfl, shl1 (by omega), nI_or, pk_mul, nI_add, chkin (by omega) (by omega), nI_add]
      split
      · exact ⟨_, rfl, rfl⟩
      · exact ⟨_, rfl, rfl⟩
    unfold f_X11_leftOf_l8 f_X11_leftOf_j104
    dsimp only
    rw [if_neg nn, has_eq (by omega) (by omega), bind_s, show (0 : Int32) = nI 0 from rfl, bit_if]
    split
    · exact ⟨_, rfl, by rw [nI_1]⟩
    · rw [chkin (by omega) (by omega)]
      split
      · split
        · exact j58 _
        · rw [chkin (by omega) (by omega)]
          exact j58 _
      · exact ⟨_, rfl, by rw [nI_1]⟩) (by
    rintro ⟨x, y⟩ e
    have e : y = nI (sk R s) := e
    subst e
    refine ⟨x, ?_, trivial⟩
    unfold f_X11_leftOf_l8
    dsimp only
    exact if_pos (by rw [h35]; exact Int32.le_refl _))
  refine ⟨v, ?_⟩
  unfold f_X11_leftOf f_X11_leftOf_0
  rw [q1]
  rfl
