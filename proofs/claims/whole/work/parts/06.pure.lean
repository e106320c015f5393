/-! PURE WORDS of the translated methods, and what the rows need of them -/
def lp {S R : Type} (f : S → Option (S ⊕ R)) : Nat → S → Option R
  | 0, _ => none
  | n + 1, z => match f z with
    | none => none
    | some (.inl z') => lp f n z'
    | some (.inr r) => some r
theorem lps {S R : Type} {f : S → Option (S ⊕ R)} {n : Nat} {z : S} {r : R} (h : lp f (n + 1) z = some r) : ∃ w, f z = some w ∧ ((∃ z', w = .inl z' ∧ lp f n z' = some r) ∨ w = .inr r) := by
  unfold lp at h
  split at h
  · cases h
  · rename_i z' e
    exact ⟨_, e, Or.inl ⟨z', rfl, h⟩⟩
  · rename_i r' e
    cases h
    exact ⟨_, e, Or.inr rfl⟩
theorem lpl {S R : Type} {f : S → Option (S ⊕ R)} {n : Nat} {r : R} {w : S ⊕ R} {v : S} (h : (∃ z', w = .inl z' ∧ lp f n z' = some r) ∨ w = .inr r) (e : w = .inl v) : lp f n v = some r := by
  subst e
  rcases h with ⟨z', e, h⟩ | h
  · cases e; exact h
  · cases h
theorem lpr {S R : Type} {f : S → Option (S ⊕ R)} {n : Nat} {r : R} {w : S ⊕ R} {v : R} (h : (∃ z', w = .inl z' ∧ lp f n z' = some r) ∨ w = .inr r) (e : w = .inr v) : r = v := by
  subst e
  rcases h with ⟨z', e, h⟩ | h
  · cases e
  · cases h; rfl
def FU : Nat := 1000000
def chk {α : Type} (b : Bool) (x : Option α) : Option α := if b then x else none
def inb (i : Int32) (n : Nat) : Bool := decide (0 ≤ i.toInt ∧ i.toInt < n)
def nz (i : Int32) : Bool := decide (¬ i = 0)
def okz (i : Int32) : Bool := decide (i = 0 ∨ i = 1)
def okc (i : Int32) : Bool := decide (0 ≤ i.toInt ∧ i.toInt < 65536)
theorem gd {α : Type} {b : Bool} {x : Option α} {w : α} (h : chk b x = some w) : b = true ∧ x = some w := by
  unfold chk at h
  split at h
  · exact ⟨by assumption, h⟩
  · cases h
theorem bs {α β : Type} {x : Option α} {f : α → Option β} {w : β} (h : x.bind f = some w) : ∃ q, x = some q ∧ f q = some w := Option.bind_eq_some_iff.mp h
theorem ipos {α : Type} {c : Prop} [Decidable c] {a b r : α} (hc : c) (h : (if c then a else b) = r) : a = r := by rw [if_pos hc] at h; exact h
theorem ineg {α : Type} {c : Prop} [Decidable c] {a b r : α} (hc : ¬ c) (h : (if c then a else b) = r) : b = r := by rw [if_neg hc] at h; exact h
theorem sel {A B C : Type} {f : A → C} {g : B → C} {v : A} {r : C} (h : Sum.elim f g (.inl v) = r) : f v = r := h
theorem ser {A B C : Type} {f : A → C} {g : B → C} {v : B} {r : C} (h : Sum.elim f g (.inr v) = r) : g v = r := h
theorem inp {i : Int32} {n : Nat} (h : inb i n = true) : vp_in i n := vp_in_iff.mpr (of_decide_eq_true h)
theorem nzp {i : Int32} (h : nz i = true) : ¬ i = 0 := of_decide_eq_true h
theorem icx {x v : Int32} {n : Int} (h : Int32.ofInt n = v) : x + Int32.ofInt n = x + v := h ▸ rfl
theorem dk {b : ByteArray} {I : List (Nat × Instr × Nat)} (T : ∀ q ∈ I, decode b q.1 = .ok (q.2.1, q.2.2)) (i : Nat) {pc n : Nat} {ins : Instr} (h : I[i]? = some (pc, ins, n)) : decode b pc = .ok (ins, n) := by
  have h1 := T (pc, ins, n) (List.mem_of_getElem? h)
  exact h1
def bz (o : Option Int32) : Option Int32 := o.bind fun w => if w = 0 ∨ w = 1 then some w else none
def bzW (o : Option (Int32 × St)) : Option (Int32 × St) := o.bind fun w => if w.1 = 0 ∨ w.1 = 1 then some w else none
def bc (o : Option Int32) : Option Int32 := o.bind fun w => if okc w = true then some w else none
def bcW (o : Option (Int32 × St)) : Option (Int32 × St) := o.bind fun w => if okc w.1 = true then some w else none
theorem bz_s {o : Option Int32} {w : Int32} (h : bz o = some w) : o = some w ∧ (w = 0 ∨ w = 1) := by
  obtain ⟨q, h1, h2⟩ := bs h
  by_cases c : q = 0 ∨ q = 1
  · rw [if_pos c] at h2; cases h2; exact ⟨h1, c⟩
  · rw [if_neg c] at h2; cases h2
theorem bzW_s {o : Option (Int32 × St)} {w : Int32 × St} (h : bzW o = some w) : o = some w ∧ (w.1 = 0 ∨ w.1 = 1) := by
  obtain ⟨q, h1, h2⟩ := bs h
  by_cases c : q.1 = 0 ∨ q.1 = 1
  · rw [if_pos c] at h2; cases h2; exact ⟨h1, c⟩
  · rw [if_neg c] at h2; cases h2
theorem bc_s {o : Option Int32} {w : Int32} (h : bc o = some w) : o = some w ∧ okc w = true := by
  obtain ⟨q, h1, h2⟩ := bs h
  by_cases c : okc q = true
  · rw [if_pos c] at h2; cases h2; exact ⟨h1, c⟩
  · rw [if_neg c] at h2; cases h2
theorem bcW_s {o : Option (Int32 × St)} {w : Int32 × St} (h : bcW o = some w) : o = some w ∧ okc w.1 = true := by
  obtain ⟨q, h1, h2⟩ := bs h
  by_cases c : okc q.1 = true
  · rw [if_pos c] at h2; cases h2; exact ⟨h1, c⟩
  · rw [if_neg c] at h2; cases h2
theorem bz_n {w : Int32} (h : w = 0 ∨ w = 1) : narrow .boolean (.int w) = .int w := by rcases h with rfl | rfl <;> rfl
theorem nar_b0 : nar .boolean 0 := ⟨rfl, rfl⟩
theorem nar_b1 : nar .boolean 1 := ⟨rfl, rfl⟩
theorem nar_z {w : Int32} (h : okz w = true) : nar .boolean w := by rcases of_decide_eq_true h with rfl | rfl <;> exact ⟨rfl, rfl⟩
theorem okc_nI {w : Int32} (h : okc w = true) : ∃ q : Nat, q < 65536 ∧ w = nI q := by
  have h := of_decide_eq_true h
  obtain ⟨j, hj, e⟩ := vp_in_of (vp_in_iff.mpr ⟨h.1, h.2⟩) (by decide : 65536 < 2 ^ 31)
  exact ⟨j, hj, e⟩
theorem nar_c {w : Int32} (h : okc w = true) : nar .char w := by
  obtain ⟨q, hq, rfl⟩ := okc_nI h
  exact ⟨(pk_charN hq).1, (pk_charN hq).2⟩
theorem bc_n {w : Int32} (h : okc w = true) : narrow .char (.int w) = .int w := (nar_c h).1
def kchk (k : Nat) : Bool := (!(kd k == 9) || (kd (k + 1) == 10 && kd (k + 2) == 20 && kd (k + 3) == 10 && kd (k + 4) == 20 && kd (k + 5) == 10 && kd (k + 6) == 20)) && (!(kd k == 10) || kd (k + 1) == 20) && (!(kd k == 2) || (kd (k + 1) == 20 && kd (k + 2) == 20))
theorem kall : (List.range 124).all kchk = true := by decide +kernel
theorem kall' {k c : Nat} (h : kd k = c) (hc : c < 99) : kchk k = true := List.all_eq_true.mp kall k (List.mem_range.mpr (kd_lt h hc))
theorem ks1 {k : Nat} (h : kd k = 9) : kd (k + 1) = 10 := by have := kall' h (by decide); simp [kchk, h] at this; exact this.1.1.1.1.1
theorem ks2 {k : Nat} (h : kd k = 9) : kd (k + 2) = 20 := by have := kall' h (by decide); simp [kchk, h] at this; exact this.1.1.1.1.2
theorem ks3 {k : Nat} (h : kd k = 9) : kd (k + 3) = 10 := by have := kall' h (by decide); simp [kchk, h] at this; exact this.1.1.1.2
theorem ks4 {k : Nat} (h : kd k = 9) : kd (k + 4) = 20 := by have := kall' h (by decide); simp [kchk, h] at this; exact this.1.1.2
theorem ks5 {k : Nat} (h : kd k = 9) : kd (k + 5) = 10 := by have := kall' h (by decide); simp [kchk, h] at this; exact this.1.2
theorem ks6 {k : Nat} (h : kd k = 9) : kd (k + 6) = 20 := by have := kall' h (by decide); simp [kchk, h] at this; exact this.2
theorem kt1 {k : Nat} (h : kd k = 10) : kd (k + 1) = 20 := by have := kall' h (by decide); simp [kchk, h] at this; exact this
theorem kc1 {k : Nat} (h : kd k = 2) : kd (k + 1) = 20 := by have := kall' h (by decide); simp [kchk, h] at this; exact this.1
theorem kc2 {k : Nat} (h : kd k = 2) : kd (k + 2) = 20 := by have := kall' h (by decide); simp [kchk, h] at this; exact this.2
