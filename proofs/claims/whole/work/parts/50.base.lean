/-! PURE FACTS, 1: loops, small numbers, writes; tables -/
theorem lp_m {S R : Type} {f : S → Option (S ⊕ R)} (μ : S → Nat) (I : S → Prop) (Q : R → Prop) (h : ∀ s, I s → (∃ s', f s = some (.inl s') ∧ I s' ∧ μ s' < μ s) ∨ ∃ r, f s = some (.inr r) ∧ Q r) : ∀ (n : Nat) (s : S), I s → μ s < n → ∃ r, lp f n s = some r ∧ Q r := by
  intro n
  induction n with
  | zero => intro s _ h2; exact absurd h2 (Nat.not_lt_zero _)
  | succ n ih =>
    intro s hs hn
    rcases h s hs with ⟨s', e, hs', hm⟩ | ⟨r, e, hr⟩
    · obtain ⟨r, e2, hr⟩ := ih s' hs' (by omega)
      exact ⟨r, by unfold lp; rw [e]; exact e2, hr⟩
    · exact ⟨r, by unfold lp; rw [e], hr⟩
/-- a loop that counts from i to N: one step keeps I (or ends the loop early); at N it ends -/
theorem lp_c {S R : Type} {f : S → Option (S ⊕ R)} (I : Nat → S → Prop) (Q : R → Prop) (N : Nat) (hs : ∀ i s, i < N → I i s → (∃ s', f s = some (.inl s') ∧ I (i + 1) s') ∨ ∃ r, f s = some (.inr r) ∧ Q r) (hx : ∀ s, I N s → ∃ r, f s = some (.inr r) ∧ Q r) : ∀ (n i : Nat) (s : S), i ≤ N → I i s → N - i < n → ∃ r, lp f n s = some r ∧ Q r := by
  intro n
  induction n with
  | zero => intro i s _ _ h; exact absurd h (Nat.not_lt_zero _)
  | succ n ih =>
    intro i s hi hI hn
    by_cases e : i = N
    · subst e
      obtain ⟨r, h1, h2⟩ := hx s hI
      exact ⟨r, by unfold lp; rw [h1], h2⟩
    · rcases hs i s (by omega) hI with ⟨s', h1, h2⟩ | ⟨r, h1, h2⟩
      · obtain ⟨r, h3, h4⟩ := ih (i + 1) s' (by omega) h2 (by omega)
        exact ⟨r, by unfold lp; rw [h1]; exact h3, h4⟩
      · exact ⟨r, by unfold lp; rw [h1], h2⟩
/-- such a loop from 0, with its answer known: the state behind N steps -/
theorem lp_fu {S R : Type} {f : S → Option (S ⊕ R)} (I : Nat → S → Prop) (Q : R → Prop) (N : Nat) (hN : N < 1000000) (s : S) (h0 : I 0 s) (hs : ∀ i s, i < N → I i s → (∃ s', f s = some (.inl s') ∧ I (i + 1) s') ∨ ∃ r, f s = some (.inr r) ∧ Q r) (hx : ∀ s, I N s → ∃ r, f s = some (.inr r) ∧ Q r) : ∃ r, lp f FU s = some r ∧ Q r :=
  lp_c I Q N hs hx FU 0 s (Nat.zero_le _) h0 (by show N - 0 < 1000000; omega)
theorem up_s (σ : St) (k j : Nat) (v : Int32) : up σ k j v k j = v := by simp [up, upA, upd]
theorem up_k (σ : St) {k a : Nat} (j : Nat) (v : Int32) (h : a ≠ k) : up σ k j v a = σ a := by simp [up, upA, h]
theorem up_j (σ : St) (k : Nat) {j b : Nat} (v : Int32) (h : b ≠ j) : up σ k j v k b = σ k b := by simp [up, upA, upd, h]
theorem up_kj (σ : St) {k a j b : Nat} (v : Int32) (h : a ≠ k ∨ b ≠ j) : up σ k j v a b = σ a b := by
  by_cases e : a = k
  · subst e
    exact up_j σ a v (h.resolve_left (fun q => q rfl))
  · rw [up_k σ j v e]
theorem inb_nI {j n : Nat} (h : j < n) (hn : j < 2 ^ 31) : inb (nI j) n = true := decide_eq_true (by rw [nI_toInt hn]; omega)
theorem chk_t {α : Type} {b : Bool} {x : Option α} (h : b = true) : chk b x = x := by subst h; rfl
theorem nI_nlt0 {j : Nat} (h : j < 2 ^ 31) : ¬ nI j < 0 := nI_pos h
theorem bz_0 : bz (some 0) = some 0 := rfl
theorem bz_1 : bz (some 1) = some 1 := rfl
theorem bz_i {c : Prop} [Decidable c] : bz (if c then some 0 else some 1) = if c then some 0 else some 1 := by split <;> rfl
theorem bz_j {c : Prop} [Decidable c] : bz (if c then some 1 else some 0) = if c then some 1 else some 0 := by split <;> rfl
/-- Table.get in its row -/
theorem get_eq {t w row fld : Nat} {σ : St} (hw : σ t 0 = nI w) (h : row * w + fld < ln (t + 1)) (hl : ln (t + 1) < 2 ^ 20) : f_X9_get t (nI row) (nI fld) σ = some (σ (t + 1) (row * w + fld)) := by
  unfold f_X9_get f_X9_get_0
  rw [hw, pk_mul, nI_add, if_neg (nI_nlt0 (by omega)), if_neg (by show ¬ nI (ln (t + 1)) ≤ _; exact nI_ge h (by omega)), chk_t (inb_nI h (by omega)), nI_clamp (by omega)]
theorem set_eq {t w row fld : Nat} {σ : St} {v : Int32} (hw : σ t 0 = nI w) (h : row * w + fld < ln (t + 1)) (hl : ln (t + 1) < 2 ^ 20) : f_X9_set t (nI row) (nI fld) v σ = some (up σ (t + 1) (row * w + fld) v) := by
  unfold f_X9_set f_X9_set_0
  rw [hw, pk_mul, nI_add, if_neg (nI_nlt0 (by omega)), if_neg (by show ¬ nI (ln (t + 1)) ≤ _; exact nI_ge h (by omega)), chk_t (inb_nI h (by omega)), nI_clamp (by omega)]
/-- any int: is it one of n numbers -/
theorem int_n (x : Int32) {n : Nat} (hn : n < 2 ^ 31) : (∃ j, j < n ∧ x = nI j) ∨ (x < 0 ∨ (¬ x < 0 ∧ nI n ≤ x)) := by
  rcases pk_ix x hn with h | h | h
  · exact Or.inr (Or.inl h)
  · by_cases c : x < 0
    · exact Or.inr (Or.inl c)
    · exact Or.inr (Or.inr ⟨c, h⟩)
  · exact Or.inl h
theorem has_in {t n j : Nat} {σ : St} (hs : σ t 2 = nI n) (hn : n < 2 ^ 31) (hj : j < n) : f_X9_has t (nI j) σ = some 1 := by
  unfold f_X9_has f_X9_has_0
  rw [hs, if_neg (nI_nlt0 (by omega)), if_neg (nI_ge hj hn)]
  rfl
theorem has_out {t n : Nat} {x : Int32} {σ : St} (hs : σ t 2 = nI n) (h : x < 0 ∨ (¬ x < 0 ∧ nI n ≤ x)) : f_X9_has t x σ = some 0 := by
  unfold f_X9_has f_X9_has_0
  rw [hs]
  rcases h with h | ⟨h1, h2⟩
  · rw [if_pos h]; rfl
  · rw [if_neg h1, if_pos h2]; rfl
theorem size_eq {t : Nat} {σ : St} : f_X9_size t σ = some (σ t 2) := rfl
theorem full_eq {t w n lim : Nat} {σ : St} (hw : σ t 0 = nI w) (hs : σ t 2 = nI n) (hl : ln (t + 1) = lim * w) (hw0 : 0 < w) (hl0 : 0 < lim) (hn : n ≤ lim) (hb : lim * w < 2 ^ 20) : f_X9_isFull t σ = some (if n = lim then 1 else 0) := by
  unfold f_X9_isFull f_X9_isFull_0
  have h1 : (n + 1) * w < 2 ^ 31 := by
    have q1 : (n + 1) * w ≤ (lim + 1) * w := Nat.mul_le_mul_right w (by omega)
    have q2 : (lim + 1) * w = lim * w + w := Nat.succ_mul lim w
    have q3 : w ≤ lim * w := Nat.le_mul_of_pos_left w hl0
    omega
  rw [hw, hs, nI_1, pk_mul, hl]
  show bz (if nI ((n + 1) * w) ≤ nI (lim * w) then some 0 else some 1) = _
  by_cases e : n = lim
  · subst e
    rw [if_neg (nI_ge (by rw [Nat.succ_mul]; omega) (by omega)), if_pos rfl]
    rfl
  · have h2 : (n + 1) * w ≤ lim * w := Nat.mul_le_mul_right w (by omega)
    rw [if_pos (nI_le h2 (by omega)), if_neg e]
    rfl
theorem within_eq (x a b : Int32) : f_X10_isWithin x a b = some (if x < a ∨ b < x then 0 else 1) := by
  unfold f_X10_isWithin f_X10_isWithin_0
  by_cases h1 : x < a
  · rw [if_pos h1, if_pos (Or.inl h1)]; rfl
  · by_cases h2 : b < x
    · rw [if_neg h1, if_pos h2, if_pos (Or.inr h2)]; rfl
    · rw [if_neg h1, if_neg h2, if_neg (fun h => h.elim h1 h2)]; rfl
