/-! PURE FACTS, 89: texts, the small pieces, the class's -/
variable {len p c : Nat} {f : Nat → Nat} {b : Bool} {σ τ υ : St}
/-- a text: its characters, and 0 beyond it -/
def TX (f : Nat → Nat) (len : Nat) : Prop := len ≤ 70 ∧ (∀ i, f i < 65536) ∧ ∀ i, len ≤ i → f i = 0
theorem TX_in (X : TX f len) (h : f p ≠ 0) : p < len := by
  rcases Nat.lt_or_ge p len with q | q
  · exact q
  · exact absurd (X.2.2 p q) h
def dg (f : Nat → Nat) (p : Nat) : Bool := decide (48 ≤ f p) && decide (f p ≤ 57)
theorem dg_i : dg f p = true ↔ 48 ≤ f p ∧ f p ≤ 57 := by
  unfold dg
  rw [Bool.and_eq_true, decide_eq_true_iff, decide_eq_true_iff]
/-- one character that must stand there -/
def xM (f : Nat → Nat) (c : Nat) (b : Bool) (p : Nat) : Bool × Nat := if b = true ∧ f p = c then (true, p + 1) else (false, p)
def xD (f : Nat → Nat) (b : Bool) (p : Nat) : Bool × Nat := if b = true ∧ dg f p = true then (true, p + 1) else (false, p)
/-- a number of one figure or two -/
def nm (f : Nat → Nat) (p : Nat) : Nat := if dg f (p + 1) = true then 2 else 1
def nv (f : Nat → Nat) (p : Nat) : Nat := if dg f (p + 1) = true then 10 * (f p - 48) + (f (p + 1) - 48) else f p - 48
def xN (f : Nat → Nat) (b : Bool) (p : Nat) : Bool × Nat := if b = true ∧ dg f p = true then (true, p + nm f p) else (false, p)
/-- the grain behind a sheet's item -/
def grn (f : Nat → Nat) (p : Nat) : Nat := if f p = 45 then 1 else if f p = 124 then 2 else 0
def xG (f : Nat → Nat) (b : Bool) (p : Nat) : Bool × Nat := if b = true ∧ 0 < grn f p then (true, p + 1) else (b, p)
theorem xM_f : xM f c false p = (false, p) := if_neg (fun h => absurd h.1 (by decide))
theorem xD_f : xD f false p = (false, p) := if_neg (fun h => absurd h.1 (by decide))
theorem xN_f : xN f false p = (false, p) := if_neg (fun h => absurd h.1 (by decide))
theorem xG_f : xG f false p = (false, p) := if_neg (fun h => absurd h.1 (by decide))
theorem bcN_eq {n : Nat} (h : n < 65536) : bc (some (nI n)) = some (nI n) := by
  have e : okc (nI n) = true := decide_eq_true (by rw [nI_toInt (by omega)]; omega)
  show (if okc (nI n) = true then some (nI n) else none) = _
  rw [if_pos e]
/-- the class's text, and where it reads -/
def CT (f : Nat → Nat) (len p : Nat) (σ : St) : Prop := σ 99 1 = nI len ∧ (∀ i, i < len → σ 100 i = nI (f i)) ∧ σ 99 2 = nI p ∧ p ≤ len
theorem CT_s (C : CT f len p σ) {q : Nat} (hq : q ≤ len) : CT f len q (up σ 99 2 (nI q)) := ⟨by rw [up_j _ _ _ (by decide)]; exact C.1, fun i hi => by rw [up_k _ _ _ (by decide)]; exact C.2.1 i hi, up_s .., hq⟩
theorem CT_c (h : τ 100 = σ 100) (h1 : τ 99 1 = σ 99 1) (h2 : τ 99 2 = σ 99 2) (C : CT f len p σ) : CT f len p τ := by
  unfold CT at *
  rw [h, h1, h2]
  exact C
theorem CT_up (C : CT f len p σ) {j : Nat} {v : Int32} (h1 : j ≠ 1) (h2 : j ≠ 2) : CT f len p (up σ 99 j v) := CT_c (up_k _ _ _ (by decide)) (up_j _ _ _ (fun e => h1 e.symm)) (up_j _ _ _ (fun e => h2 e.symm)) C
/-- only where it reads, and the number read last -/
def K5 (σ τ : St) : Prop := (∀ a, a ≠ 99 → τ a = σ a) ∧ ∀ j, j ≠ 2 → j ≠ 5 → τ 99 j = σ 99 j
theorem K5_r (σ : St) : K5 σ σ := ⟨fun _ _ => rfl, fun _ _ _ => rfl⟩
theorem K5_t (h : K5 σ τ) (h2 : K5 τ υ) : K5 σ υ := ⟨fun a ha => (h2.1 a ha).trans (h.1 a ha), fun j h3 h4 => (h2.2 j h3 h4).trans (h.2 j h3 h4)⟩
theorem K5_2 (σ : St) (v : Int32) : K5 σ (up σ 99 2 v) := ⟨fun a ha => up_k _ _ _ ha, fun j h _ => up_j _ _ _ h⟩
theorem K5_5 (σ : St) (v : Int32) : K5 σ (up σ 99 5 v) := ⟨fun a ha => up_k _ _ _ ha, fun j _ h => up_j _ _ _ h⟩
theorem nextC_eq (X : TX f len) (C : CT f len p σ) : f_X6_next σ = some (nI (f p)) := by
  obtain ⟨h1, h2, h3, h4⟩ := C
  have x0 := X.1
  unfold f_X6_next f_X6_next_0
  rw [h1, h3, if_neg (nI_nlt0 (by omega))]
  by_cases e : p < len
  · rw [if_neg (nI_ge e (by omega)), if_neg (show ¬ (70 : Int32) ≤ nI p from nI_ge (a := p) (b := 70) (by omega) (by decide)), chkin (by omega) (by omega), nI_clamp (by omega), h2 p e, bcN_eq (X.2.1 p)]
  · rw [if_pos (nI_le (by omega) (by omega)), X.2.2 p (by omega)]
    exact bcN_eq (n := 0) (by decide)
theorem accC_eq (X : TX f len) (C : CT f len p σ) (h0 : 0 < c) (hc : c < 65536) : ∃ τ, f_X6_accepts (nI c) σ = some (nI (bN (xM f c true p).1), τ) ∧ CT f len (xM f c true p).2 τ ∧ K5 σ τ := by
  have x1 := X.2.1 p
  unfold f_X6_accepts f_X6_accepts_0 xM
  rw [nextC_eq X C, bind_s]
  by_cases e : f p = c
  · have hp := TX_in X (p := p) (by omega)
    rw [if_pos (show nI (f p) = nI c by rw [e]), if_pos (show true = true ∧ f p = c from ⟨rfl, e⟩), C.2.2.1, nI_1]
    exact ⟨_, bzW_1 _, CT_s C (by omega), K5_2 _ _⟩
  · rw [if_neg (show ¬ nI (f p) = nI c by rw [nI_eqI (by omega) (by omega)]; exact e), if_neg (show ¬ (true = true ∧ f p = c) from fun h => e h.2)]
    exact ⟨_, bzW_0 _, C, K5_r _⟩
theorem digC_eq (X : TX f len) (C : CT f len p σ) : ∃ τ, f_X6_isDigit σ = some (nI (bN (xD f true p).1), τ) ∧ CT f len (xD f true p).2 τ ∧ K5 σ τ ∧ ((xD f true p).1 = true → τ 99 5 = nI (f p - 48)) ∧ ((xD f true p).1 = false → τ 99 5 = σ 99 5) := by
  have x1 := X.2.1 p
  unfold f_X6_isDigit f_X6_isDigit_0 xD
  rw [nextC_eq X C, bind_s]
  by_cases e : dg f p = true
  · have e2 := dg_i.mp e
    have hp := TX_in X (p := p) (by omega)
    rw [if_neg (show ¬ nI (f p) < 48 from fun h => by have := (nI_ltI (a := f p) (b := 48) (by omega) (by decide)).mp h; omega), bind_s, if_pos (show nI (f p) ≤ 57 from nI_le (a := f p) (b := 57) e2.2 (by decide)), bind_s, if_pos (show true = true ∧ dg f p = true from ⟨rfl, e⟩), show nI (f p) - 48 = nI (f p - 48) from nI_subx (b := 48) e2.1]
    refine ⟨_, bzW_1 _, ?_, K5_t (K5_5 _ _) (K5_2 _ _), fun _ => ?_, fun h => absurd (show true = false from h) (by decide)⟩
    · rw [up_j _ _ _ (show (2 : Nat) ≠ 5 by decide), C.2.2.1, nI_1]
      exact CT_s (CT_up C (by decide) (by decide)) (by omega)
    · rw [up_j _ _ _ (by decide), up_s]
  · rw [if_neg (show ¬ (true = true ∧ dg f p = true) from fun h => e h.2)]
    refine ⟨σ, ?_, C, K5_r _, fun h => absurd (show false = true from h) (by decide), fun _ => rfl⟩
    by_cases q : 48 ≤ f p
    · have q2 : 57 < f p := by
        rcases Nat.lt_or_ge 57 (f p) with h | h
        · exact h
        · exact absurd (dg_i.mpr ⟨q, h⟩) e
      rw [if_neg (show ¬ nI (f p) < 48 from fun h => by have := (nI_ltI (a := f p) (b := 48) (by omega) (by decide)).mp h; omega), bind_s, if_neg (show ¬ nI (f p) ≤ 57 from nI_ge (a := 57) (b := f p) q2 (by omega))]
      exact bzW_0 _
    · rw [if_pos (show nI (f p) < 48 from (nI_ltI (a := f p) (b := 48) (by omega) (by decide)).mpr (by omega))]
      exact bzW_0 _
theorem numC_eq (X : TX f len) (C : CT f len p σ) : ∃ τ, f_X6_isNumber σ = some (nI (bN (xN f true p).1), τ) ∧ CT f len (xN f true p).2 τ ∧ K5 σ τ ∧ ((xN f true p).1 = true → τ 99 5 = nI (nv f p)) := by
  have x1 := X.2.1 p
  obtain ⟨τ1, a1, a2, a3, a4, _⟩ := digC_eq X C
  unfold f_X6_isNumber f_X6_isNumber_0 f_X6_isNumber_j35 xN nm nv
  rw [a1, bind_s]
  unfold xD at a2 a4 ⊢
  by_cases e : dg f p = true
  · rw [if_pos (show true = true ∧ dg f p = true from ⟨rfl, e⟩)] at a2 a4 ⊢
    rw [if_pos (show true = true ∧ dg f p = true from ⟨rfl, e⟩)]
    have v1 := a4 rfl
    obtain ⟨τ2, b1, b2, b3, b4, b5⟩ := digC_eq X a2
    dsimp only at b1 b2 b4 b5 ⊢
    rw [if_neg (show ¬ nI (bN true) = 0 by decide), b1, bind_s]
    unfold xD at b2 b4 b5 ⊢
    by_cases e2 : dg f (p + 1) = true
    · rw [if_pos (show true = true ∧ dg f (p + 1) = true from ⟨rfl, e2⟩)] at b2 b4 b5 ⊢
      rw [if_pos e2, if_pos e2]
      dsimp only
      rw [if_neg (show ¬ nI (bN true) = 0 by decide), v1, b4 rfl, show (10 : Int32) = nI 10 from rfl, pk_mul, nI_add, Nat.mul_comm (f p - 48)]
      exact ⟨_, bzW_1 _, CT_up b2 (by decide) (by decide), K5_t a3 (K5_t b3 (K5_5 _ _)), fun _ => up_s ..⟩
    · rw [if_neg (show ¬ (true = true ∧ dg f (p + 1) = true) from fun h => e2 h.2)] at b2 b4 b5 ⊢
      rw [if_neg e2, if_neg e2]
      dsimp only
      rw [if_pos (show nI (bN false) = 0 by decide), v1]
      exact ⟨_, bzW_1 _, CT_up b2 (by decide) (by decide), K5_t a3 (K5_t b3 (K5_5 _ _)), fun _ => up_s ..⟩
  · rw [if_neg (show ¬ (true = true ∧ dg f p = true) from fun h => e h.2)] at a2 ⊢
    rw [if_neg (show ¬ (true = true ∧ dg f p = true) from fun h => e h.2)]
    dsimp only
    rw [if_pos (show nI (bN false) = 0 by decide)]
    exact ⟨_, bzW_0 _, a2, a3, fun h => absurd h (by decide)⟩
