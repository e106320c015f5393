/-! PURE FACTS, 93: texts, the items, the class's -/
variable {len p c k C Ck : Nat} {f : Nat → Nat} {b e : Bool} {σ τ υ : St}
/-- an item: whether it is one, and where it ends -/
def itm (f : Nat → Nat) (p : Nat) : Bool × Nat := if f p = 115 then iS4 f (p + 1) else if f p = 112 then iP4 f (p + 1) else if f p = 100 then iD3 f (p + 1) else (false, p)
/-- its numbers -/
def dA (f : Nat → Nat) (p : Nat) : Nat := if f p = 115 then nv f (p + 1) else if f p = 112 then f (iP1 f (p + 1)).2 - 48 else f (p + 1) - 48
def dB (f : Nat → Nat) (p : Nat) : Nat := if f p = 115 then nv f (iS2 f (p + 1)).2 else if f p = 112 then nv f (iP3 f (p + 1)).2 else nv f (iD2 f (p + 1)).2
def KJ (σ τ : St) : Prop := (∀ a, a ≠ 99 → τ a = σ a) ∧ ∀ j, j = 1 ∨ j = 3 ∨ j = 13 ∨ j = 14 → τ 99 j = σ 99 j
theorem KJ_t (h : KJ σ τ) (h2 : KJ τ υ) : KJ σ υ := ⟨fun a ha => (h2.1 a ha).trans (h.1 a ha), fun j hj => (h2.2 j hj).trans (h.2 j hj)⟩
theorem KJ_I (h : KI σ τ) : KJ σ τ := ⟨h.1, fun j hj => h.2 j (by omega)⟩
theorem KJ_5 (h : K5 σ τ) : KJ σ τ := KJ_I (KI_5 h)
theorem KJ_4 (σ : St) (v : Int32) : KJ σ (up σ 99 4 v) := ⟨fun a ha => up_k _ _ _ ha, fun j hj => up_j _ _ _ (by omega)⟩
/-- what an item that is one left in the class -/
def DC (f : Nat → Nat) (p : Nat) (τ : St) : Prop := τ 99 4 = nI (f p) ∧ τ 99 6 = nI (dA f p) ∧ τ 99 7 = nI (dB f p) ∧ (f p = 115 → τ 99 8 = nI (grn f (iS3 f (p + 1)).2)) ∧ (f p = 112 → τ 99 9 = nI (wd f (p + 1)) ∧ τ 99 10 = nI (lr f (p + 1) + 1) ∧ τ 99 12 = nI (bN (evn f (p + 1) (lr f (p + 1) + 1))) ∧ (wd f (p + 1) ≤ 4 → τ 99 11 = nI (clm f (p + 1) (lr f (p + 1) + 1))))
theorem okcN {n : Nat} (h : n < 65536) : okc (nI n) = true := decide_eq_true (by rw [nI_toInt (by omega)]; omega)
theorem itemC_eq (X : TX f len) (T : CT f len p σ) : ∃ τ, f_X6_isItem σ = some (nI (bN (itm f p).1), τ) ∧ CT f len (itm f p).2 τ ∧ KJ σ τ ∧ ((itm f p).1 = true → (f p = 115 ∨ f p = 112 ∨ f p = 100) ∧ DC f p τ) := by
  have x1 := X.2.1 p
  have T1 : CT f len p (up σ 99 4 (nI (f p))) := CT_up T (by decide) (by decide)
  have F1 : KJ σ (up σ 99 4 (nI (f p))) := KJ_4 _ _
  have e4 : (up σ 99 4 (nI (f p))) 99 4 = nI (f p) := up_s ..
  unfold f_X6_isItem f_X6_isItem_0
  rw [nextC_eq X T, bind_s, okcN x1]
  show ∃ τ, bzW ((f_X6_accepts 115 (up σ 99 4 (nI (f p)))).bind _) = _ ∧ _
  generalize up σ 99 4 (nI (f p)) = σ1 at *
  obtain ⟨τ1, a1, a2, a3⟩ := accC_eq (c := 115) X T1 (by decide) (by decide)
  have a1' : f_X6_accepts 115 σ1 = _ := a1
  rw [a1', bind_s]
  by_cases q1 : f p = 115
  · have g : xM f 115 true p = (true, p + 1) := if_pos ⟨rfl, q1⟩
    have ei : itm f p = iS4 f (p + 1) := if_pos q1
    rw [g] at a2 ⊢
    dsimp only at a2 ⊢
    rw [if_neg t0, ei]
    obtain ⟨τ2, b1, b2, b3, b4⟩ := sheetC_eq X a2
    rw [b1, bind_s]
    refine ⟨τ2, bzb _ _, b2, KJ_t F1 (KJ_t (KJ_5 a3) (KJ_I b3)), fun h => ⟨Or.inl q1, ?_, ?_, ?_, fun _ => (b4 h).2.2, fun h => by omega⟩⟩
    · rw [b3.2 4 (by decide), a3.2 4 (by decide) (by decide), e4]
    · rw [(b4 h).1]; unfold dA; rw [if_pos q1]
    · rw [(b4 h).2.1]; unfold dB; rw [if_pos q1]
  · have g : xM f 115 true p = (false, p) := if_neg (fun h => q1 h.2)
    rw [g] at a2 ⊢
    dsimp only at a2 ⊢
    rw [if_pos f0]
    obtain ⟨τ2, b1, b2, b3⟩ := accC_eq (c := 112) X a2 (by decide) (by decide)
    have b1' : f_X6_accepts 112 τ1 = _ := b1
    rw [b1', bind_s]
    by_cases q2 : f p = 112
    · have g : xM f 112 true p = (true, p + 1) := if_pos ⟨rfl, q2⟩
      have ei : itm f p = iP4 f (p + 1) := by unfold itm; rw [if_neg q1, if_pos q2]
      rw [g] at b2 ⊢
      dsimp only at b2 ⊢
      rw [if_neg t0, ei]
      obtain ⟨τ3, c1, c2, c3, c4⟩ := shapeC_eq X b2
      rw [c1, bind_s]
      refine ⟨τ3, bzb _ _, c2, KJ_t F1 (KJ_t (KJ_5 a3) (KJ_t (KJ_5 b3) (KJ_I c3))), fun h => ⟨Or.inr (Or.inl q2), ?_, ?_, ?_, fun h => by omega, fun _ => (c4 h).2.2⟩⟩
      · rw [c3.2 4 (by decide), b3.2 4 (by decide) (by decide), a3.2 4 (by decide) (by decide), e4]
      · rw [(c4 h).1]; unfold dA; rw [if_neg q1, if_pos q2]
      · rw [(c4 h).2.1]; unfold dB; rw [if_neg q1, if_pos q2]
    · have g : xM f 112 true p = (false, p) := if_neg (fun h => q2 h.2)
      rw [g] at b2 ⊢
      dsimp only at b2 ⊢
      rw [if_pos f0]
      obtain ⟨τ3, c1, c2, c3⟩ := accC_eq (c := 100) X b2 (by decide) (by decide)
      have c1' : f_X6_accepts 100 τ2 = _ := c1
      rw [c1', bind_s]
      by_cases q3 : f p = 100
      · have g : xM f 100 true p = (true, p + 1) := if_pos ⟨rfl, q3⟩
        have ei : itm f p = iD3 f (p + 1) := by unfold itm; rw [if_neg q1, if_neg q2, if_pos q3]
        rw [g] at c2 ⊢
        dsimp only at c2 ⊢
        rw [if_neg t0, ei]
        obtain ⟨τ4, d1, d2, d3, d4⟩ := spoilC_eq X c2
        rw [d1, bind_s]
        have F4 : KJ σ τ4 := KJ_t F1 (KJ_t (KJ_5 a3) (KJ_t (KJ_5 b3) (KJ_t (KJ_5 c3) (KJ_I d3))))
        have all : (iD3 f (p + 1)).1 = true → (f p = 115 ∨ f p = 112 ∨ f p = 100) ∧ DC f p τ4 := fun h => ⟨Or.inr (Or.inr q3), by rw [d3.2 4 (by decide), c3.2 4 (by decide) (by decide), b3.2 4 (by decide) (by decide), a3.2 4 (by decide) (by decide), e4], by rw [(d4 h).1]; unfold dA; rw [if_neg q1, if_neg q2], by rw [(d4 h).2]; unfold dB; rw [if_neg q1, if_neg q2], fun h => by omega, fun h => by omega⟩
        dsimp only
        cases hb : (iD3 f (p + 1)).1
        · rw [if_pos f0]
          exact ⟨τ4, bzW_0 _, d2, F4, fun h => absurd h (by decide)⟩
        · rw [if_neg t0]
          exact ⟨τ4, bzW_1 _, d2, F4, fun h => all hb⟩
      · have g : xM f 100 true p = (false, p) := if_neg (fun h => q3 h.2)
        have ei : itm f p = (false, p) := by unfold itm; rw [if_neg q1, if_neg q2, if_neg q3]
        rw [g] at c2 ⊢
        dsimp only at c2 ⊢
        rw [if_pos f0, ei]
        exact ⟨τ3, bzW_0 _, c2, KJ_t F1 (KJ_t (KJ_5 a3) (KJ_t (KJ_5 b3) (KJ_5 c3))), fun h => absurd (show false = true from h) (by decide)⟩
/-- no semicolon from p to q -/
def Nos (f : Nat → Nat) (p q : Nat) : Prop := p ≤ q ∧ ∀ i, p ≤ i → i < q → f i ≠ 59
theorem Nos_r (f : Nat → Nat) (p : Nat) : Nos f p p := ⟨Nat.le_refl _, fun i h1 h2 => by omega⟩
theorem Nos_t {q r : Nat} (h : Nos f p q) (h2 : Nos f q r) : Nos f p r := ⟨Nat.le_trans h.1 h2.1, fun i h3 h4 => by
  rcases Nat.lt_or_ge i q with g | g
  · exact h.2 i h3 g
  · exact h2.2 i g h4⟩
theorem Nos_1 (h : f p ≠ 59) : Nos f p (p + 1) := ⟨by omega, fun i h1 h2 => by rw [show i = p by omega]; exact h⟩
theorem Nos_M (hc : c ≠ 59) : Nos f p (xM f c b p).2 := by
  unfold xM
  by_cases h : b = true ∧ f p = c
  · rw [if_pos h]; exact Nos_1 (by rw [h.2]; exact hc)
  · rw [if_neg h]; exact Nos_r _ _
theorem Nos_dg (h : dg f p = true) : f p ≠ 59 := by have := dg_i.mp h; omega
theorem Nos_D : Nos f p (xD f b p).2 := by
  unfold xD
  by_cases h : b = true ∧ dg f p = true
  · rw [if_pos h]; exact Nos_1 (Nos_dg h.2)
  · rw [if_neg h]; exact Nos_r _ _
theorem Nos_N : Nos f p (xN f b p).2 := by
  unfold xN
  by_cases h : b = true ∧ dg f p = true
  · rw [if_pos h]
    unfold nm
    by_cases h2 : dg f (p + 1) = true
    · rw [if_pos h2]; exact Nos_t (Nos_1 (Nos_dg h.2)) (Nos_1 (Nos_dg h2))
    · rw [if_neg h2]; exact Nos_1 (Nos_dg h.2)
  · rw [if_neg h]; exact Nos_r _ _
theorem Nos_G : Nos f p (xG f b p).2 := by
  unfold xG
  by_cases h : b = true ∧ 0 < grn f p
  · rw [if_pos h]
    refine Nos_1 (fun e => ?_)
    have := h.2
    unfold grn at this
    rw [if_neg (by omega), if_neg (by omega)] at this
    omega
  · rw [if_neg h]; exact Nos_r _ _
theorem Nos_w (X : TX f len) : Nos f p (p + wd f p) := ⟨by omega, fun i h1 h2 => by
  have := (wd_ok X p).1 (i - p) (by omega)
  rw [show p + (i - p) = i by omega] at this
  rcases ro_i.mp this with q | q <;> omega⟩
theorem Nos_S (X : TX f len) : ∀ k, (∀ j, j < k → cnR f p j = true) → Nos f p (pS f p k) := by
  intro k
  induction k with
  | zero => intro _; exact Nos_r _ _
  | succ k ih =>
    intro h
    have g := (cnR_i.mp (h k (by omega))).2
    exact Nos_t (ih (fun j hj => h j (by omega))) (Nos_t (Nos_w X) (Nos_1 (by omega)))
theorem Nos_i (X : TX f len) (hp : p ≤ len) : Nos f p (itm f p).2 := by
  unfold itm
  by_cases q1 : f p = 115
  · rw [if_pos q1]
    exact Nos_t (Nos_1 (by omega)) (Nos_t Nos_N (Nos_t (Nos_M (by decide)) (Nos_t Nos_N Nos_G)))
  · rw [if_neg q1]
    by_cases q2 : f p = 112
    · rw [if_pos q2]
      have hp1 := TX_in X (p := p) (by omega)
      have hr : Nos f (p + 1) (xR f (p + 1)).2 := Nos_t (Nos_S X _ (lr_ok X hp1).1) (Nos_w X)
      exact Nos_t (Nos_1 (by omega)) (Nos_t hr (Nos_t (Nos_M (by decide)) (Nos_t Nos_D (Nos_t (Nos_M (by decide)) Nos_N))))
    · rw [if_neg q2]
      by_cases q3 : f p = 100
      · rw [if_pos q3]
        exact Nos_t (Nos_1 (by omega)) (Nos_t Nos_D (Nos_t (Nos_M (by decide)) Nos_N))
      · rw [if_neg q3]
        exact Nos_r _ _
