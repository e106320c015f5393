/-! PURE FACTS, 90: texts, a sheet's item and a spoilt cell's, the class's -/
variable {len p c : Nat} {f : Nat → Nat} {b : Bool} {σ τ υ : St}
/-- a sheet's item behind its letter -/
def iS1 (f : Nat → Nat) (p : Nat) : Bool × Nat := xN f true p
def iS2 (f : Nat → Nat) (p : Nat) : Bool × Nat := xM f 120 (iS1 f p).1 (iS1 f p).2
def iS3 (f : Nat → Nat) (p : Nat) : Bool × Nat := xN f (iS2 f p).1 (iS2 f p).2
def iS4 (f : Nat → Nat) (p : Nat) : Bool × Nat := xG f (iS3 f p).1 (iS3 f p).2
/-- a spoilt cell's item behind its letter -/
def iD1 (f : Nat → Nat) (p : Nat) : Bool × Nat := xD f true p
def iD2 (f : Nat → Nat) (p : Nat) : Bool × Nat := xM f 58 (iD1 f p).1 (iD1 f p).2
def iD3 (f : Nat → Nat) (p : Nat) : Bool × Nat := xN f (iD2 f p).1 (iD2 f p).2
/-- only what an item leaves -/
def KI (σ τ : St) : Prop := (∀ a, a ≠ 99 → τ a = σ a) ∧ ∀ j, j = 1 ∨ j = 3 ∨ j = 4 ∨ j = 13 ∨ j = 14 → τ 99 j = σ 99 j
theorem KI_5 (h : K5 σ τ) : KI σ τ := ⟨h.1, fun j hj => h.2 j (by omega) (by omega)⟩
theorem KI_r (σ : St) : KI σ σ := ⟨fun _ _ => rfl, fun _ _ => rfl⟩
theorem KI_t (h : KI σ τ) (h2 : KI τ υ) : KI σ υ := ⟨fun a ha => (h2.1 a ha).trans (h.1 a ha), fun j hj => (h2.2 j hj).trans (h.2 j hj)⟩
theorem KI_up (σ : St) {j : Nat} (v : Int32) (h : ¬ (j = 1 ∨ j = 3 ∨ j = 4 ∨ j = 13 ∨ j = 14)) : KI σ (up σ 99 j v) := ⟨fun a ha => up_k _ _ _ ha, fun i hi => up_j _ _ _ (fun e => h (e ▸ hi))⟩
theorem t0 : ¬ nI (bN true) = 0 := by decide
theorem f0 : nI (bN false) = 0 := by decide
theorem sheetC_eq (X : TX f len) (C : CT f len p σ) : ∃ τ, f_X6_isSheetItem σ = some (nI (bN (iS4 f p).1), τ) ∧ CT f len (iS4 f p).2 τ ∧ KI σ τ ∧ ((iS4 f p).1 = true → τ 99 6 = nI (nv f p) ∧ τ 99 7 = nI (nv f (iS2 f p).2) ∧ τ 99 8 = nI (grn f (iS3 f p).2)) := by
  obtain ⟨τ1, a1, a2, a3, a4⟩ := numC_eq X C
  unfold f_X6_isSheetItem f_X6_isSheetItem_0 f_X6_isSheetItem_j71
  rw [a1, bind_s]
  rcases h1 : iS1 f p with ⟨b1, p1⟩
  rw [show xN f true p = (b1, p1) from h1] at a2 a4 ⊢
  dsimp only at a2 a4 ⊢
  cases b1
  · have e : iS4 f p = (false, p1) := by simp only [iS4, iS3, iS2, h1, xM_f, xN_f, xG_f]
    rw [if_pos f0, e]
    exact ⟨_, bzW_0 _, a2, KI_5 a3, fun h => absurd (show false = true from h) (by decide)⟩
  · rw [if_neg t0, a4 rfl]
    have C1 : CT f len p1 (up τ1 99 6 (nI (nv f p))) := CT_up a2 (by decide) (by decide)
    have F1 : KI σ (up τ1 99 6 (nI (nv f p))) := KI_t (KI_5 a3) (KI_up _ _ (by decide))
    obtain ⟨τ2, b1, b2, b3⟩ := accC_eq (c := 120) X C1 (by decide) (by decide)
    have b1' : f_X6_accepts 120 (up τ1 99 6 (nI (nv f p))) = _ := b1
    rw [b1', bind_s]
    rcases h2 : iS2 f p with ⟨b2', p2⟩
    have g2 : xM f 120 true p1 = (b2', p2) := by rw [← h2]; unfold iS2; rw [h1]
    rw [g2] at b2 ⊢
    dsimp only at b2 ⊢
    have F2 := KI_t F1 (KI_5 b3)
    cases b2'
    · have e : iS4 f p = (false, p2) := by simp only [iS4, iS3, h2, xN_f, xG_f]
      rw [if_pos f0, e]
      exact ⟨_, bzW_0 _, b2, F2, fun h => absurd (show false = true from h) (by decide)⟩
    · rw [if_neg t0]
      obtain ⟨τ3, c1, c2, c3, c4⟩ := numC_eq X b2
      rw [c1, bind_s]
      rcases h3 : iS3 f p with ⟨b3', p3⟩
      have g3 : xN f true p2 = (b3', p3) := by rw [← h3]; unfold iS3; rw [h2]
      rw [g3] at c2 c4 ⊢
      dsimp only at c2 c4 ⊢
      have F3 := KI_t F2 (KI_5 c3)
      have w6 : τ3 99 6 = nI (nv f p) := by rw [c3.2 6 (by decide) (by decide), b3.2 6 (by decide) (by decide), up_s]
      cases b3'
      · have e : iS4 f p = (false, p3) := by simp only [iS4, h3, xG_f]
        rw [if_pos f0, e]
        exact ⟨_, bzW_0 _, c2, F3, fun h => absurd (show false = true from h) (by decide)⟩
      · rw [if_neg t0, c4 rfl]
        have C4 : CT f len p3 (up τ3 99 7 (nI (nv f p2))) := CT_up c2 (by decide) (by decide)
        have F4 : KI σ (up τ3 99 7 (nI (nv f p2))) := KI_t F3 (KI_up _ _ (by decide))
        have w6' : (up τ3 99 7 (nI (nv f p2))) 99 6 = nI (nv f p) := by rw [up_j _ _ _ (by decide), w6]
        have w7 : (up τ3 99 7 (nI (nv f p2))) 99 7 = nI (nv f p2) := up_s ..
        generalize up τ3 99 7 (nI (nv f p2)) = τ4 at *
        have e4 : iS4 f p = xG f true p3 := by unfold iS4; rw [h3]
        rw [e4]
        have x3 := X.2.1 p3
        obtain ⟨τ5, d1, d2, d3⟩ := accC_eq (c := 45) X C4 (by decide) (by decide)
        have d1' : f_X6_accepts 45 τ4 = _ := d1
        rw [d1', bind_s]
        have fin : ∀ τ9 g, g = grn f p3 → CT f len (xG f true p3).2 τ9 → K5 τ4 τ9 → ∃ τ, bzW (some (1, up τ9 99 8 (nI g))) = some (nI (bN (xG f true p3).1), τ) ∧ CT f len (xG f true p3).2 τ ∧ KI σ τ ∧ ((xG f true p3).1 = true → τ 99 6 = nI (nv f p) ∧ τ 99 7 = nI (nv f p2) ∧ τ 99 8 = nI (grn f p3)) := fun τ9 g hg C9 K9 => by
          subst hg
          have ok : (xG f true p3).1 = true := by unfold xG; split <;> rfl
          rw [ok]
          exact ⟨_, bzW_1 _, CT_up C9 (by decide) (by decide), KI_t F4 (KI_t (KI_5 K9) (KI_up _ _ (by decide))), fun _ => ⟨by rw [up_j _ _ _ (by decide), K9.2 6 (by decide) (by decide), w6'], by rw [up_j _ _ _ (by decide), K9.2 7 (by decide) (by decide), w7], up_s ..⟩⟩
        by_cases q1 : f p3 = 45
        · have g1 : xM f 45 true p3 = (true, p3 + 1) := if_pos ⟨rfl, q1⟩
          have g2' : grn f p3 = 1 := if_pos q1
          have g3' : xG f true p3 = (true, p3 + 1) := if_pos ⟨rfl, by omega⟩
          rw [g1] at d2 ⊢
          dsimp only at d2 ⊢
          rw [if_neg t0]
          exact fin τ5 1 g2'.symm (by rw [g3']; exact d2) d3
        · have g1 : xM f 45 true p3 = (false, p3) := if_neg (fun h => q1 h.2)
          rw [g1] at d2 ⊢
          dsimp only at d2 ⊢
          rw [if_pos f0]
          obtain ⟨τ6, i1, i2, i3⟩ := accC_eq (c := 124) X d2 (by decide) (by decide)
          have i1' : f_X6_accepts 124 τ5 = _ := i1
          rw [i1', bind_s]
          by_cases q2 : f p3 = 124
          · have g4 : xM f 124 true p3 = (true, p3 + 1) := if_pos ⟨rfl, q2⟩
            have g2' : grn f p3 = 2 := by unfold grn; rw [if_neg q1, if_pos q2]
            have g3' : xG f true p3 = (true, p3 + 1) := if_pos ⟨rfl, by omega⟩
            rw [g4] at i2 ⊢
            dsimp only at i2 ⊢
            rw [if_neg t0]
            exact fin τ6 2 g2'.symm (by rw [g3']; exact i2) (K5_t d3 i3)
          · have g4 : xM f 124 true p3 = (false, p3) := if_neg (fun h => q2 h.2)
            have g2' : grn f p3 = 0 := by unfold grn; rw [if_neg q1, if_neg q2]
            have g3' : xG f true p3 = (true, p3) := if_neg (fun h => by have := h.2; omega)
            rw [g4] at i2 ⊢
            dsimp only at i2 ⊢
            rw [if_pos f0]
            exact fin τ6 0 g2'.symm (by rw [g3']; exact i2) (K5_t d3 i3)
theorem spoilC_eq (X : TX f len) (C : CT f len p σ) : ∃ τ, f_X6_isSpoilItem σ = some (nI (bN (iD3 f p).1), τ) ∧ CT f len (iD3 f p).2 τ ∧ KI σ τ ∧ ((iD3 f p).1 = true → τ 99 6 = nI (f p - 48) ∧ τ 99 7 = nI (nv f (iD2 f p).2)) := by
  obtain ⟨τ1, a1, a2, a3, a4, _⟩ := digC_eq X C
  unfold f_X6_isSpoilItem f_X6_isSpoilItem_0
  rw [a1, bind_s]
  rcases h1 : iD1 f p with ⟨b1, p1⟩
  rw [show xD f true p = (b1, p1) from h1] at a2 a4 ⊢
  dsimp only at a2 a4 ⊢
  cases b1
  · have e : iD3 f p = (false, p1) := by simp only [iD3, iD2, h1, xM_f, xN_f]
    rw [if_pos f0, e]
    exact ⟨_, bzW_0 _, a2, KI_5 a3, fun h => absurd (show false = true from h) (by decide)⟩
  · rw [if_neg t0, a4 rfl]
    have C1 : CT f len p1 (up τ1 99 6 (nI (f p - 48))) := CT_up a2 (by decide) (by decide)
    have F1 : KI σ (up τ1 99 6 (nI (f p - 48))) := KI_t (KI_5 a3) (KI_up _ _ (by decide))
    obtain ⟨τ2, b1, b2, b3⟩ := accC_eq (c := 58) X C1 (by decide) (by decide)
    have b1' : f_X6_accepts 58 (up τ1 99 6 (nI (f p - 48))) = _ := b1
    rw [b1', bind_s]
    rcases h2 : iD2 f p with ⟨b2', p2⟩
    have g2 : xM f 58 true p1 = (b2', p2) := by rw [← h2]; unfold iD2; rw [h1]
    rw [g2] at b2 ⊢
    dsimp only at b2 ⊢
    have F2 := KI_t F1 (KI_5 b3)
    cases b2'
    · have e : iD3 f p = (false, p2) := by simp only [iD3, h2, xN_f]
      rw [if_pos f0, e]
      exact ⟨_, bzW_0 _, b2, F2, fun h => absurd (show false = true from h) (by decide)⟩
    · rw [if_neg t0]
      obtain ⟨τ3, c1, c2, c3, c4⟩ := numC_eq X b2
      rw [c1, bind_s]
      rcases h3 : iD3 f p with ⟨b3', p3⟩
      have g3 : xN f true p2 = (b3', p3) := by rw [← h3]; unfold iD3; rw [h2]
      rw [g3] at c2 c4 ⊢
      dsimp only at c2 c4 ⊢
      have F3 := KI_t F2 (KI_5 c3)
      have w6 : τ3 99 6 = nI (f p - 48) := by rw [c3.2 6 (by decide) (by decide), b3.2 6 (by decide) (by decide), up_s]
      cases b3'
      · rw [if_pos f0]
        exact ⟨_, bzW_0 _, c2, F3, fun h => absurd (show false = true from h) (by decide)⟩
      · rw [if_neg t0, c4 rfl]
        exact ⟨_, bzW_1 _, CT_up c2 (by decide) (by decide), KI_t F3 (KI_up _ _ (by decide)), fun _ => ⟨by rw [up_j _ _ _ (by decide), w6], up_s ..⟩⟩
