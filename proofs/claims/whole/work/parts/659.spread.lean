/-! PURE FACTS, 66: shapes, the reference's spreading -/
theorem sp_has {c r a x y : Nat} (hc : c ≤ 4) (hr : r ≤ 4) (ha : a < 65536) (hx : x < c) (hy : y < r) {B : Type} {f : Int32 → Option B} : ((f_X11_at (nI c) (nI x) (nI y)).bind fun q => (f_X11_has (nI a) q).bind f) = f (nI (bit a (c * y + x))) := by
  have := at_lt (n := 16) hx hy (Nat.mul_le_mul hc hr)
  rw [at_eq, bind_s, has_eq (by omega) (by omega), bind_s]
theorem bit_if (a k : Nat) {B : Type} {X Y : B} : (if nI (bit a k) = nI 0 then X else Y) = if bit a k = 1 then Y else X := by
  have := bit_lt a k
  by_cases b : bit a k = 1
  · rw [if_pos b, if_neg (by rw [nI_eqI (by omega) (by decide)]; omega)]
  · rw [if_neg b, if_pos (by rw [show bit a k = 0 by omega])]
theorem spcell {c r m a x y : Nat} {p : Int32} (hc : c ≤ 4) (hr : r ≤ 4) (hm : m < 2 ^ (c * r)) (ha : a < 2 ^ (c * r)) (hx : x < c) (hy : y < r) : ∃ a', f_X11_spread_l25 (nI c) (nI r) (nI m) p (nI y) (nI a, nI x) = some (.inl (nI a', nI (x + 1))) ∧ a' < 2 ^ (c * r) ∧ (∀ q, bit a q = 1 → bit a' q = 1) ∧ (∀ q, bit a' q = 1 → bit a q = 1 ∨ (bit m q = 1 ∧ ∃ j, bit a j = 1 ∧ Nb c (c * r) j q)) ∧ (∀ j, bit a j = 1 → Nb c (c * r) j (c * y + x) → bit m (c * y + x) = 1 → bit a' (c * y + x) = 1) := by
  have h16 : c * r ≤ 4 * 4 := Nat.mul_le_mul hc hr
  have hp : ∀ a, a < 2 ^ (c * r) → a < 65536 := fun a h => Nat.lt_of_lt_of_le h (Nat.pow_le_pow_right (n := 2) (by decide) (by omega : c * r ≤ 16))
  have ha2 := hp a ha
  have hm2 := hp m hm
  have hk : c * y + x < c * r := xy_lt hx hy
  generalize hE1 : (some (.inl (nI (if bit m (c * y + x) = 1 then a ||| 2 ^ (c * y + x) else a), nI (x + 1))) : Option ((Int32 × Int32) ⊕ (Int32))) = E1
  generalize hE0 : (some (.inl (nI a, nI (x + 1))) : Option ((Int32 × Int32) ⊕ (Int32))) = E0
  have e1 : f_X11_spread_j129 (nI c) (nI r) (nI m) (nI a) p (nI y) (nI x) = E1 := by
    unfold f_X11_spread_j129 f_X11_spread_j134 f_X11_spread_j171 f_X11_spread_j172
    rw [if_neg (by decide), sp_has hc hr hm2 hx hy, at_eq, bind_s, ← hE1, show (0 : Int32) = nI 0 from rfl, bit_if]
    by_cases b : bit m (c * y + x) = 1
    · rw [if_pos b, if_pos b, show (31 : Int32) = nI 31 from rfl, show (1 : Int32) = nI 1 from rfl, shl1 (by omega), nI_or, nI_add]
    · rw [if_neg b, if_neg b, nI_or, Nat.or_zero, nI_1]
  have e0 : f_X11_spread_j133 (nI c) (nI r) (nI m) (nI a) p (nI y) (nI x) = E0 := by
    unfold f_X11_spread_j133 f_X11_spread_j134 f_X11_spread_j171 f_X11_spread_j172
    rw [if_pos rfl, ← hE0, show (0 : Int32) = nI 0 from rfl, nI_or, Nat.or_zero, nI_1]
  have e4 : f_X11_spread_j103 (nI c) (nI r) (nI m) (nI a) p (nI y) (nI x) = if y + 1 < r ∧ bit a (c * (y + 1) + x) = 1 then E1 else E0 := by
    unfold f_X11_spread_j103
    rw [nI_1]
    by_cases h : y + 1 < r
    · rw [if_neg (nI_ge h (by omega)), sp_has hc hr ha2 hx h, show (0 : Int32) = nI 0 from rfl, bit_if, e0, e1]
      by_cases b : bit a (c * (y + 1) + x) = 1
      · rw [if_pos b, if_pos ⟨h, b⟩]
      · rw [if_neg b, if_neg (fun q => b q.2)]
    · rw [if_pos (show nI r ≤ nI (y + 1) by rw [nI_leI (by omega) (by omega)]; omega), if_neg (fun q => h q.1), e0]
  have e3 : f_X11_spread_j80 (nI c) (nI r) (nI m) (nI a) p (nI y) (nI x) = if 0 < y ∧ bit a (c * (y - 1) + x) = 1 then E1 else if y + 1 < r ∧ bit a (c * (y + 1) + x) = 1 then E1 else E0 := by
    unfold f_X11_spread_j80
    by_cases h : 0 < y
    · rw [if_neg (show ¬ nI y ≤ 0 from nI_ge (a := 0) h (by omega)), show (1 : Int32) = nI 1 from rfl, nI_subx (b := 1) h, sp_has hc hr ha2 hx (by omega), show (0 : Int32) = nI 0 from rfl, bit_if, e4, e1]
      by_cases b : bit a (c * (y - 1) + x) = 1
      · rw [if_pos b, if_pos ⟨h, b⟩]
      · rw [if_neg b, if_neg (show ¬ (0 < y ∧ bit a (c * (y - 1) + x) = 1) from fun q => b q.2)]
    · rw [if_pos (show nI y ≤ 0 by rw [show y = 0 by omega]; exact Int32.le_refl _), if_neg (show ¬ (0 < y ∧ bit a (c * (y - 1) + x) = 1) from fun q => h q.1), e4]
  have e2 : f_X11_spread_j54 (nI c) (nI r) (nI m) (nI a) p (nI y) (nI x) = if x + 1 < c ∧ bit a (c * y + (x + 1)) = 1 then E1 else if 0 < y ∧ bit a (c * (y - 1) + x) = 1 then E1 else if y + 1 < r ∧ bit a (c * (y + 1) + x) = 1 then E1 else E0 := by
    unfold f_X11_spread_j54
    rw [nI_1]
    by_cases h : x + 1 < c
    · rw [if_neg (nI_ge h (by omega)), sp_has hc hr ha2 h hy, show (0 : Int32) = nI 0 from rfl, bit_if, e3, e1]
      by_cases b : bit a (c * y + (x + 1)) = 1
      · rw [if_pos b, if_pos ⟨h, b⟩]
      · rw [if_neg b, if_neg (show ¬ (x + 1 < c ∧ bit a (c * y + (x + 1)) = 1) from fun q => b q.2)]
    · rw [if_pos (show nI c ≤ nI (x + 1) by rw [nI_leI (by omega) (by omega)]; omega), if_neg (show ¬ (x + 1 < c ∧ bit a (c * y + (x + 1)) = 1) from fun q => h q.1), e3]
  have e5 : f_X11_spread_l25 (nI c) (nI r) (nI m) p (nI y) (nI a, nI x) = if 0 < x ∧ bit a (c * y + (x - 1)) = 1 then E1 else if x + 1 < c ∧ bit a (c * y + (x + 1)) = 1 then E1 else if 0 < y ∧ bit a (c * (y - 1) + x) = 1 then E1 else if y + 1 < r ∧ bit a (c * (y + 1) + x) = 1 then E1 else E0 := by
    unfold f_X11_spread_l25
    dsimp only
    rw [if_neg (nI_ge hx (by omega))]
    by_cases h : 0 < x
    · rw [if_neg (show ¬ nI x ≤ 0 from nI_ge (a := 0) h (by omega)), show (1 : Int32) = nI 1 from rfl, nI_subx (b := 1) h, sp_has hc hr ha2 (by omega) hy, show (0 : Int32) = nI 0 from rfl, bit_if, e2, e1]
      by_cases b : bit a (c * y + (x - 1)) = 1
      · rw [if_pos b, if_pos ⟨h, b⟩]
      · rw [if_neg b, if_neg (show ¬ (0 < x ∧ bit a (c * y + (x - 1)) = 1) from fun q => b q.2)]
    · rw [if_pos (show nI x ≤ 0 by rw [show x = 0 by omega]; exact Int32.le_refl _), if_neg (show ¬ (0 < x ∧ bit a (c * y + (x - 1)) = 1) from fun q => h q.1), e2]
  have yes : (∃ j, bit a j = 1 ∧ Nb c (c * r) j (c * y + x)) → ∃ a', E1 = some (.inl (nI a', nI (x + 1))) ∧ a' < 2 ^ (c * r) ∧ (∀ q, bit a q = 1 → bit a' q = 1) ∧ (∀ q, bit a' q = 1 → bit a q = 1 ∨ (bit m q = 1 ∧ ∃ j, bit a j = 1 ∧ Nb c (c * r) j q)) ∧ (∀ j, bit a j = 1 → Nb c (c * r) j (c * y + x) → bit m (c * y + x) = 1 → bit a' (c * y + x) = 1) := fun hj => by
    refine ⟨_, hE1.symm, ?_, fun q hq => ?_, fun q hq => ?_, fun j _ _ hb => ?_⟩
    · split
      · exact Nat.or_lt_two_pow ha (Nat.pow_lt_pow_right (by decide) hk)
      · exact ha
    · split
      · exact (bit_or _ _ _).mpr (Or.inl hq)
      · exact hq
    · split at hq
      · rename_i hb
        rcases (bit_or _ _ _).mp hq with h | h
        · exact Or.inl h
        · rw [bit_pow] at h
          subst h
          exact Or.inr ⟨hb, hj⟩
      · exact Or.inl hq
    · rw [if_pos hb, bit_or, bit_pow]
      exact Or.inr rfl
  rw [e5]
  by_cases n1 : 0 < x ∧ bit a (c * y + (x - 1)) = 1
  · rw [if_pos n1]
    exact yes ⟨_, n1.2, Or.inl ⟨by omega, by rw [show c * y + (x - 1) + 1 = c * y + x by omega, lin_mod hx]; omega⟩⟩
  · rw [if_neg n1]
    by_cases n2 : x + 1 < c ∧ bit a (c * y + (x + 1)) = 1
    · rw [if_pos n2]
      exact yes ⟨_, n2.2, Or.inr (Or.inl ⟨rfl, by rw [lin_mod n2.1]; omega⟩)⟩
    · rw [if_neg n2]
      by_cases n3 : 0 < y ∧ bit a (c * (y - 1) + x) = 1
      · rw [if_pos n3]
        refine yes ⟨_, n3.2, Or.inr (Or.inr (Or.inr ⟨?_, hk⟩))⟩
        obtain ⟨y', rfl⟩ : ∃ y', y = y' + 1 := ⟨y - 1, by omega⟩
        rw [Nat.add_sub_cancel, Nat.mul_succ]
        omega
      · rw [if_neg n3]
        by_cases n4 : y + 1 < r ∧ bit a (c * (y + 1) + x) = 1
        · rw [if_pos n4]
          refine yes ⟨_, n4.2, Or.inr (Or.inr (Or.inl ?_))⟩
          rw [Nat.mul_succ]
          omega
        · rw [if_neg n4]
          refine ⟨a, hE0.symm, ha, fun q h => h, fun q h => Or.inl h, fun j hj hn _ => ?_⟩
          exfalso
          rcases hn with ⟨a1, a2⟩ | ⟨a1, a2⟩ | a1 | ⟨a1, a2⟩
          · rw [← a1, lin_mod hx] at a2
            exact n1 ⟨by omega, by rw [show c * y + (x - 1) = j by omega]; exact hj⟩
          · refine n2 ⟨?_, by rw [show c * y + (x + 1) = j by omega]; exact hj⟩
            rcases Nat.lt_or_ge (x + 1) c with b | b
            · exact b
            · exfalso
              apply a2
              rw [a1, show c * y + x + 1 = c * (y + 1) by rw [Nat.mul_succ]; omega]
              exact Nat.mul_mod_right _ _
          · have hjn := bit_hi ha hj
            refine n4 ⟨?_, by rw [Nat.mul_succ, show c * y + c + x = j by omega]; exact hj⟩
            have h5 : c * (y + 1) < c * r := by rw [Nat.mul_succ]; omega
            exact Nat.lt_of_mul_lt_mul_left h5
          · have hy0 : 0 < y := by
              rcases Nat.eq_zero_or_pos y with z | z
              · rw [z, Nat.mul_zero] at a1; omega
              · exact z
            refine n3 ⟨hy0, ?_⟩
            obtain ⟨y', rfl⟩ : ∃ y', y = y' + 1 := ⟨y - 1, by omega⟩
            rw [Nat.mul_succ] at a1
            rw [Nat.add_sub_cancel, show c * y' + x = j by omega]
            exact hj
