/-! PURE FACTS, 95: texts, the small pieces, the reference's -/
variable {len p c k C Ck : Nat} {f : Nat → Nat} {b e : Bool} {σ τ υ : St}
/-- the reference's text, where it reads, and whether all was right -/
def PS (f : Nat → Nat) (len : Nat) (b : Bool) (p : Nat) (σ : St) : Prop := σ 101 8 = nI len ∧ (∀ i, i < len → σ 106 i = nI (f i)) ∧ σ 101 38 = nI p ∧ p ≤ len ∧ σ 101 39 = nI (bN b)
def P2 (σ τ : St) : Prop := (∀ a, a ≠ 101 → τ a = σ a) ∧ ∀ j, j ≠ 38 → j ≠ 39 → τ 101 j = σ 101 j
theorem P2_r (σ : St) : P2 σ σ := ⟨fun _ _ => rfl, fun _ _ _ => rfl⟩
theorem P2_t (h : P2 σ τ) (h2 : P2 τ υ) : P2 σ υ := ⟨fun a ha => (h2.1 a ha).trans (h.1 a ha), fun j h3 h4 => (h2.2 j h3 h4).trans (h.2 j h3 h4)⟩
theorem P2_up (σ : St) {j : Nat} (v : Int32) (h : j = 38 ∨ j = 39) : P2 σ (up σ 101 j v) := ⟨fun a ha => up_k _ _ _ ha, fun i h1 h2 => up_j _ _ _ (by omega)⟩
theorem PS_c (h : τ 106 = σ 106) (h8 : τ 101 8 = σ 101 8) (h38 : τ 101 38 = σ 101 38) (h39 : τ 101 39 = σ 101 39) (P : PS f len b p σ) : PS f len b p τ := by
  unfold PS at *
  rw [h, h8, h38, h39]
  exact P
theorem PS_up (P : PS f len b p σ) {j : Nat} {v : Int32} (h1 : j ≠ 8) (h2 : j ≠ 38) (h3 : j ≠ 39) : PS f len b p (up σ 101 j v) := PS_c (up_k _ _ _ (by decide)) (up_j _ _ _ (fun e => h1 e.symm)) (up_j _ _ _ (fun e => h2 e.symm)) (up_j _ _ _ (fun e => h3 e.symm)) P
theorem PS_38 (P : PS f len b p σ) {q : Nat} (hq : q ≤ len) : PS f len b q (up σ 101 38 (nI q)) := ⟨by rw [up_j _ _ _ (by decide)]; exact P.1, fun i hi => by rw [up_k _ _ _ (by decide)]; exact P.2.1 i hi, up_s .., hq, by rw [up_j _ _ _ (by decide)]; exact P.2.2.2.2⟩
theorem PS_39 (P : PS f len b p σ) (w : Bool) : PS f len w p (up σ 101 39 (nI (bN w))) := ⟨by rw [up_j _ _ _ (by decide)]; exact P.1, fun i hi => by rw [up_k _ _ _ (by decide)]; exact P.2.1 i hi, by rw [up_j _ _ _ (by decide)]; exact P.2.2.1, P.2.2.2.1, up_s ..⟩
theorem hereR_eq (X : TX f len) (P : PS f len b p σ) : ∃ h, f_X11_here σ = some h ∧ (∀ c, 0 < c → c < 65536 → (h = nI c ↔ f p = c)) ∧ f_X11_in h 48 57 = some (nI (bN (dg f p))) := by
  have x1 := X.2.1 p
  have hl := X.1
  by_cases q : p < len
  · refine ⟨nI (f p), ?_, fun c h0 hc => nI_eq (by omega) (by omega), ?_⟩
    · unfold f_X11_here f_X11_here_0
      rw [P.1, P.2.2.1, if_neg (nI_ge q (by omega)), chkin (by omega) (by omega), nI_clamp (by omega), P.2.1 p q]
    · by_cases e : dg f p = true
      · have e2 := dg_i.mp e
        rw [e]
        exact ri_in (a := 48) (b := 57) e2.1 e2.2 (by decide)
      · rw [Bool.eq_false_iff.mpr e]
        refine ri_out (a := 48) (b := 57) ?_
        by_cases h : 48 ≤ f p
        · right
          refine nI_lt ?_ (by omega)
          rcases Nat.lt_or_ge 57 (f p) with g | g
          · exact g
          · exact absurd (dg_i.mpr ⟨h, g⟩) e
        · left
          exact nI_lt (by omega) (by decide)
  · have z := X.2.2 p (by omega)
    refine ⟨-1, ?_, fun c h0 hc => ?_, ?_⟩
    · unfold f_X11_here f_X11_here_0
      have hq := P.2.2.2.1
      rw [P.1, P.2.2.1, if_pos (nI_le (by omega) (by omega))]
    · rw [z, nI_nem (by omega)]
      exact ⟨fun h => h.elim, fun h => by omega⟩
    · have e : dg f p = false := Bool.eq_false_iff.mpr (fun h => by have := dg_i.mp h; omega)
      rw [e]
      rfl
theorem okzb (w : Bool) : okz (nI (bN w)) = true := by cases w <;> decide
theorem mustJ_eq (P : PS f len b p σ) (w : Bool) : f_X11_must_j21 (nI (bN w)) σ = some (nI (bN w), up (up σ 101 39 (nI (bN w))) 101 38 (nI (if w = true then p + 1 else p))) := by
  unfold f_X11_must_j21 f_X11_must_j41
  rw [okzb, up_s, up_j _ _ _ (show (38 : Nat) ≠ 39 by decide), P.2.2.1]
  cases w
  · show some (_, _) = _
    rw [up_j _ _ _ (show (39 : Nat) ≠ 38 by decide), up_s, show nI p + 0 = nI p from nI_add p 0]
    rfl
  · show some (_, _) = _
    rw [up_j _ _ _ (show (39 : Nat) ≠ 38 by decide), up_s, nI_1]
    rfl
theorem mustR_eq (X : TX f len) (P : PS f len b p σ) (h0 : 0 < c) (hc : c < 65536) : ∃ v τ, f_X11_must (nI c) σ = some (v, τ) ∧ PS f len (xM f c b p).1 (xM f c b p).2 τ ∧ P2 σ τ := by
  obtain ⟨h, a1, a2, a3⟩ := hereR_eq X P
  have fin : ∀ w : Bool, (w = true → f p = c) → ∃ τ, f_X11_must_j21 (nI (bN w)) σ = some (nI (bN w), τ) ∧ PS f len w (if w = true then p + 1 else p) τ ∧ P2 σ τ := fun w hw => by
    refine ⟨_, mustJ_eq P w, PS_38 (PS_39 P w) ?_, P2_t (P2_up _ _ (by omega)) (P2_up _ _ (by omega))⟩
    cases w
    · exact P.2.2.2.1
    · have := TX_in X (p := p) (by rw [hw rfl]; omega)
      show p + 1 ≤ len
      omega
  unfold f_X11_must f_X11_must_0 f_X11_must_j20 xM
  rw [P.2.2.2.2]
  cases b
  · obtain ⟨τ, b1, b2, b3⟩ := fin false (fun h => absurd h (by decide))
    have b1' : f_X11_must_j21 0 σ = some (nI (bN false), τ) := b1
    rw [if_pos f0, b1', bzb, if_neg (fun h => absurd h.1 (by decide))]
    exact ⟨_, τ, rfl, b2, b3⟩
  · rw [if_neg t0, a1, bind_s]
    by_cases e : f p = c
    · obtain ⟨τ, b1, b2, b3⟩ := fin true (fun _ => e)
      have b1' : f_X11_must_j21 1 σ = some (nI (bN true), τ) := b1
      rw [if_pos ((a2 c h0 hc).mpr e), b1', bzb, if_pos ⟨rfl, e⟩]
      exact ⟨_, τ, rfl, b2, b3⟩
    · obtain ⟨τ, b1, b2, b3⟩ := fin false (fun h => absurd h (by decide))
      have b1' : f_X11_must_j21 0 σ = some (nI (bN false), τ) := b1
      rw [if_neg (fun h => e ((a2 c h0 hc).mp h)), b1', bzb, if_neg (fun h => e h.2)]
      exact ⟨_, τ, rfl, b2, b3⟩
theorem digR_eq (X : TX f len) (P : PS f len b p σ) : ∃ v τ, f_X11_digit σ = some (v, τ) ∧ PS f len (xD f b p).1 (xD f b p).2 τ ∧ P2 σ τ ∧ ((xD f b p).1 = true → v = nI (f p - 48)) := by
  have hl := X.1
  have x1 := X.2.1 p
  obtain ⟨h, a1, a2, a3⟩ := hereR_eq X P
  have no : ∃ v τ, f_X11_digit_j27 0 σ = some (v, τ) ∧ PS f len false p τ ∧ P2 σ τ := by
    refine ⟨0, up σ 101 39 (nI (bN false)), ?_, PS_39 P false, P2_up _ _ (by omega)⟩
    have e : (0 : Int32) = nI (bN false) := rfl
    unfold f_X11_digit_j27
    rw [e, okzb, up_s]
    rfl
  unfold f_X11_digit f_X11_digit_0 f_X11_digit_j26 xD
  rw [P.2.2.2.2]
  cases b
  · obtain ⟨v, τ, b1, b2, b3⟩ := no
    rw [if_pos f0, b1, if_neg (fun h => absurd h.1 (by decide))]
    exact ⟨v, τ, rfl, b2, b3, fun h => absurd (show false = true from h) (by decide)⟩
  · rw [if_neg t0, a1, bind_s, a3, bind_s]
    cases e : dg f p
    · obtain ⟨v, τ, b1, b2, b3⟩ := no
      rw [if_pos f0, b1, if_neg (fun h => absurd h.2 (by decide))]
      exact ⟨v, τ, rfl, b2, b3, fun h => absurd (show false = true from h) (by decide)⟩
    · have hd := dg_i.mp e
      have hp := TX_in X (p := p) (by omega)
      rw [if_neg t0, if_pos ⟨rfl, rfl⟩]
      have e1 : (1 : Int32) = nI (bN true) := rfl
      refine ⟨nI (f p - 48), up (up σ 101 39 (nI (bN true))) 101 38 (nI (p + 1)), ?_, PS_38 (PS_39 P true) (by omega), P2_t (P2_up _ _ (by omega)) (P2_up _ _ (by omega)), fun _ => rfl⟩
      unfold f_X11_digit_j27
      rw [chk_t (show okz 1 = true by decide), up_s σ 101 39 1, if_neg (show ¬ (1 : Int32) = 0 by decide), up_j σ 101 (1 : Int32) (show (38 : Nat) ≠ 39 by decide), P.2.2.1, nI_1, up_s (up σ 101 39 1) 101 38 (nI (p + 1)), show nI (p + 1) - 1 = nI p from nI_subx (a := p + 1) (b := 1) (by omega), chkin (by omega) (by omega), nI_clamp (by omega), up_k _ _ _ (show (106 : Nat) ≠ 101 by decide), up_k _ _ _ (show (106 : Nat) ≠ 101 by decide), P.2.1 p hp, show nI (f p) - 48 = nI (f p - 48) from nI_subx (b := 48) hd.1]
      rfl
theorem numR_eq (X : TX f len) (P : PS f len b p σ) : ∃ v τ, f_X11_number σ = some (v, τ) ∧ PS f len (xN f b p).1 (xN f b p).2 τ ∧ P2 σ τ ∧ ((xN f b p).1 = true → v = nI (nv f p)) := by
  obtain ⟨v1, τ1, a1, a2, a3, a4⟩ := digR_eq X P
  unfold f_X11_number f_X11_number_0 xN nm nv
  rw [a1, bind_s]
  dsimp only
  by_cases e : b = true ∧ dg f p = true
  · have g : xD f b p = (true, p + 1) := if_pos e
    rw [g] at a2 a4
    rw [if_neg (show ¬ τ1 101 39 = 0 by rw [a2.2.2.2.2]; exact t0), if_pos e]
    have a2' : PS f len true (p + 1) τ1 := a2
    obtain ⟨h, h1, h2, h3⟩ := hereR_eq X a2'
    rw [h1, bind_s, h3, bind_s, a4 rfl]
    cases e2 : dg f (p + 1)
    · rw [if_pos f0]
      exact ⟨_, τ1, rfl, a2, a3, fun _ => rfl⟩
    · rw [if_neg t0]
      obtain ⟨v2, τ2, b1, b2, b3, b4⟩ := digR_eq X a2'
      have g2 : xD f true (p + 1) = (true, p + 2) := if_pos ⟨rfl, e2⟩
      rw [g2] at b2 b4
      rw [b1, bind_s]
      dsimp only
      rw [b4 rfl, show (10 : Int32) = nI 10 from rfl, pk_mul, nI_add]
      exact ⟨_, τ2, rfl, b2, P2_t a3 b3, fun _ => rfl⟩
  · have g : xD f b p = (false, p) := if_neg e
    rw [g] at a2
    rw [if_pos (show τ1 101 39 = 0 by rw [a2.2.2.2.2]; rfl), if_neg e]
    exact ⟨_, τ1, rfl, a2, a3, fun h => absurd (show false = true from h) (by decide)⟩
