/-! PURE FACTS, 97: texts, the items, the reference's -/
variable {len p c k m prev : Nat} {f : Nat → Nat} {b e o : Bool} {σ τ υ : St}
theorem xM_b (h : (xM f c b p).1 = true) : b = true := by
  cases b
  · rw [xM_f] at h; exact h
  · rfl
theorem xD_b (h : (xD f b p).1 = true) : b = true := by
  cases b
  · rw [xD_f] at h; exact h
  · rfl
theorem xN_b (h : (xN f b p).1 = true) : b = true := by
  cases b
  · rw [xN_f] at h; exact h
  · rfl
theorem xG_b (h : (xG f b p).1 = true) : b = true := by
  cases b
  · rw [xG_f] at h; exact h
  · rfl
def PZ (σ τ : St) : Prop := (∀ a, a ≠ 101 → a ≠ 121 → τ a = σ a) ∧ ∀ j, j ≠ 38 → j ≠ 39 → ¬ (41 ≤ j ∧ j ≤ 46) → τ 101 j = σ 101 j
theorem PZ_t (h : PZ σ τ) (h2 : PZ τ υ) : PZ σ υ := ⟨fun a ha hb => (h2.1 a ha hb).trans (h.1 a ha hb), fun j h3 h4 h5 => (h2.2 j h3 h4 h5).trans (h.2 j h3 h4 h5)⟩
theorem PZ_2 (h : P2 σ τ) : PZ σ τ := ⟨fun a ha _ => h.1 a ha, fun j h1 h2 _ => h.2 j h1 h2⟩
theorem PZ_R (h : PR σ τ) : PZ σ τ := ⟨fun a ha _ => h.1 a ha, fun j h1 h2 h3 => h.2 j h1 h2 (by omega)⟩
theorem PZ_up (σ : St) {j : Nat} (v : Int32) (h : j = 38 ∨ j = 39 ∨ (41 ≤ j ∧ j ≤ 46)) : PZ σ (up σ 101 j v) := ⟨fun a ha _ => up_k _ _ _ ha, fun i h1 h2 h3 => up_j _ _ _ (by omega)⟩
theorem PZ_n (σ : St) (j : Nat) (v : Int32) : PZ σ (up σ 121 j v) := ⟨fun a _ hb => up_k _ _ _ hb, fun i _ _ _ => by rw [up_k _ _ _ (by decide)]⟩
theorem PS_n (P : PS f len b p σ) (j : Nat) (v : Int32) : PS f len b p (up σ 121 j v) := PS_c (up_k _ _ _ (by decide)) (by rw [up_k _ _ _ (by decide)]) (by rw [up_k _ _ _ (by decide)]) (by rw [up_k _ _ _ (by decide)]) P
theorem gr82_eq {g : Nat} (P : PS f len b p σ) (X : TX f len) (hg : g = grn f p) : ∃ τ, f_X11_readsItem_j82 (nI g) σ = some τ ∧ PS f len (xG f b p).1 (xG f b p).2 τ ∧ τ 101 42 = nI g ∧ (∀ a, a ≠ 101 → τ a = σ a) ∧ ∀ j, j ≠ 38 → j ≠ 42 → τ 101 j = σ 101 j := by
  have P1 : PS f len b p (up σ 101 42 (nI g)) := PS_up P (by decide) (by decide) (by decide)
  have e42 : (up σ 101 42 (nI g)) 101 42 = nI g := up_s ..
  have fr1 : ∀ a, a ≠ 101 → (up σ 101 42 (nI g)) a = σ a := fun a ha => up_k _ _ _ ha
  have fr2 : ∀ j, j ≠ 42 → (up σ 101 42 (nI g)) 101 j = σ 101 j := fun j hj => up_j _ _ _ hj
  have hg2 : g ≤ 2 := by subst hg; unfold grn; (repeat' split) <;> omega
  unfold f_X11_readsItem_j82 f_X11_readsItem_j108 f_X11_readsItem_j109
  generalize up σ 101 42 (nI g) = σ1 at *
  have e38 : σ1 101 38 = nI p := P1.2.2.1
  have no : xG f b p = (b, p) → ∃ τ, some (up σ1 101 38 (σ1 101 38 + 0)) = some τ ∧ PS f len (xG f b p).1 (xG f b p).2 τ ∧ τ 101 42 = nI g ∧ (∀ a, a ≠ 101 → τ a = σ a) ∧ ∀ j, j ≠ 38 → j ≠ 42 → τ 101 j = σ 101 j := fun h => by
    refine ⟨_, rfl, ?_, by rw [up_j _ _ _ (by decide), e42], fun a ha => by rw [up_k _ _ _ ha, fr1 a ha], fun j h1 h2 => by rw [up_j _ _ _ h1, fr2 j h2]⟩
    rw [h, e38, show nI p + 0 = nI p from nI_add p 0]
    exact PS_38 P1 P1.2.2.2.1
  by_cases q : b = true
  · subst q
    rw [if_neg (show ¬ σ1 101 39 = 0 by rw [P1.2.2.2.2]; exact t0)]
    by_cases q2 : 0 < g
    · rw [if_neg (show ¬ σ1 101 42 ≤ 0 by rw [e42]; exact nI_ge (a := 0) q2 (by omega))]
      have hx : xG f true p = (true, p + 1) := if_pos ⟨rfl, by omega⟩
      have hp : p < len := TX_in X (p := p) (fun h => by subst hg; unfold grn at q2; rw [if_neg (by omega), if_neg (by omega)] at q2; omega)
      refine ⟨_, rfl, ?_, by rw [up_j _ _ _ (by decide), e42], fun a ha => by rw [up_k _ _ _ ha, fr1 a ha], fun j h1 h2 => by rw [up_j _ _ _ h1, fr2 j h2]⟩
      rw [hx, e38, nI_1]
      exact PS_38 P1 hp
    · rw [if_pos (show σ1 101 42 ≤ 0 by rw [e42]; exact nI_le (b := 0) (by omega) (by decide))]
      exact no (if_neg (fun h => by omega))
  · have hb : b = false := Bool.eq_false_iff.mpr q
    rw [if_pos (show σ1 101 39 = 0 by rw [P1.2.2.2.2, hb]; rfl)]
    exact no (by rw [hb]; exact xG_f)
theorem sheetR_eq (X : TX f len) (P : PS f len true p σ) : ∃ v1 τ1 v2 τ2 v3 τ3 τ4, f_X11_number σ = some (v1, τ1) ∧ f_X11_must 120 (up τ1 121 0 v1) = some (v2, τ2) ∧ f_X11_number τ2 = some (v3, τ3) ∧ (((f_X11_here (up τ3 121 1 v3)).bind fun q27 => if q27 = 45 then f_X11_readsItem_j82 1 (up τ3 121 1 v3) else (f_X11_here (up τ3 121 1 v3)).bind fun q29 => if q29 = 124 then f_X11_readsItem_j82 2 (up τ3 121 1 v3) else f_X11_readsItem_j82 0 (up τ3 121 1 v3)) = some τ4) ∧ PS f len (iS4 f p).1 (iS4 f p).2 τ4 ∧ PZ σ τ4 ∧ τ4 101 41 = σ 101 41 ∧ ((iS4 f p).1 = true → τ4 121 0 = nI (nv f p) ∧ τ4 121 1 = nI (nv f (iS2 f p).2) ∧ τ4 101 42 = nI (grn f (iS3 f p).2)) := by
  obtain ⟨v1, τ1, a1, a2, a3, a4⟩ := numR_eq X P
  obtain ⟨v2, τ2, b1, b2, b3⟩ := mustR_eq (c := 120) X (PS_n a2 0 v1) (by decide) (by decide)
  obtain ⟨v3, τ3, c1, c2, c3, c4⟩ := numR_eq X b2
  have P3 := PS_n c2 1 v3
  obtain ⟨h, h1, h2, h3⟩ := hereR_eq X P3
  have e4 : ∃ τ4, (((f_X11_here (up τ3 121 1 v3)).bind fun q27 => if q27 = 45 then f_X11_readsItem_j82 1 (up τ3 121 1 v3) else (f_X11_here (up τ3 121 1 v3)).bind fun q29 => if q29 = 124 then f_X11_readsItem_j82 2 (up τ3 121 1 v3) else f_X11_readsItem_j82 0 (up τ3 121 1 v3)) = some τ4) ∧ PS f len (iS4 f p).1 (iS4 f p).2 τ4 ∧ τ4 101 42 = nI (grn f (iS3 f p).2) ∧ (∀ a, a ≠ 101 → τ4 a = (up τ3 121 1 v3) a) ∧ ∀ j, j ≠ 38 → j ≠ 42 → τ4 101 j = (up τ3 121 1 v3) 101 j := by
    rw [h1, bind_s]
    by_cases q1 : f (iS3 f p).2 = 45
    · have g : 1 = grn f (iS3 f p).2 := by unfold grn; rw [if_pos q1]
      obtain ⟨τ4, d1, d2, d3, d4, d5⟩ := gr82_eq (g := 1) P3 X g
      rw [if_pos (show h = 45 from (h2 45 (by decide) (by decide)).mpr q1)]
      exact ⟨τ4, d1, d2, by rw [← g]; exact d3, d4, d5⟩
    · rw [if_neg (show ¬ h = 45 from fun g => q1 ((h2 45 (by decide) (by decide)).mp g)), bind_s]
      by_cases q2 : f (iS3 f p).2 = 124
      · have g : 2 = grn f (iS3 f p).2 := by unfold grn; rw [if_neg q1, if_pos q2]
        obtain ⟨τ4, d1, d2, d3, d4, d5⟩ := gr82_eq (g := 2) P3 X g
        rw [if_pos (show h = 124 from (h2 124 (by decide) (by decide)).mpr q2)]
        exact ⟨τ4, d1, d2, by rw [← g]; exact d3, d4, d5⟩
      · have g : 0 = grn f (iS3 f p).2 := by unfold grn; rw [if_neg q1, if_neg q2]
        obtain ⟨τ4, d1, d2, d3, d4, d5⟩ := gr82_eq (g := 0) P3 X g
        rw [if_neg (show ¬ h = 124 from fun g => q2 ((h2 124 (by decide) (by decide)).mp g))]
        exact ⟨τ4, d1, d2, by rw [← g]; exact d3, d4, d5⟩
  obtain ⟨τ4, d1, d2, d3, d4, d5⟩ := e4
  refine ⟨v1, τ1, v2, τ2, v3, τ3, τ4, a1, b1, c1, d1, d2, PZ_t (PZ_2 a3) (PZ_t (PZ_n _ _ _) (PZ_t (PZ_2 b3) (PZ_t (PZ_2 c3) (PZ_t (PZ_n _ 1 v3) ⟨fun a ha _ => d4 a ha, fun j h1 h2 h3 => d5 j h1 (by omega)⟩)))), ?_, fun hok => ⟨?_, ?_, d3⟩⟩
  · rw [d5 41 (by decide) (by decide), up_k _ _ _ (by decide), c3.2 41 (by decide) (by decide), b3.2 41 (by decide) (by decide), up_k _ _ _ (by decide), a3.2 41 (by decide) (by decide)]
  · have o3 : (iS3 f p).1 = true := xG_b hok
    have o2 : (iS2 f p).1 = true := xN_b o3
    have o1 : (iS1 f p).1 = true := xM_b o2
    rw [d4 121 (by decide), up_j _ _ _ (by decide), c3.1 121 (by decide), b3.1 121 (by decide), up_s]
    exact a4 o1
  · have o3 : (iS3 f p).1 = true := xG_b hok
    rw [d4 121 (by decide), up_s]
    exact c4 o3
theorem spoilR_eq (X : TX f len) (P : PS f len true p σ) : ∃ v1 τ1 v2 τ2 v3 τ3, f_X11_digit σ = some (v1, τ1) ∧ f_X11_must 58 (up τ1 121 0 v1) = some (v2, τ2) ∧ f_X11_number τ2 = some (v3, τ3) ∧ PS f len (iD3 f p).1 (iD3 f p).2 (up τ3 121 1 v3) ∧ PZ σ (up τ3 121 1 v3) ∧ (up τ3 121 1 v3) 101 41 = σ 101 41 ∧ ((iD3 f p).1 = true → (up τ3 121 1 v3) 121 0 = nI (f p - 48) ∧ (up τ3 121 1 v3) 121 1 = nI (nv f (iD2 f p).2)) := by
  obtain ⟨v1, τ1, a1, a2, a3, a4⟩ := digR_eq X P
  obtain ⟨v2, τ2, b1, b2, b3⟩ := mustR_eq (c := 58) X (PS_n a2 0 v1) (by decide) (by decide)
  obtain ⟨v3, τ3, c1, c2, c3, c4⟩ := numR_eq X b2
  refine ⟨v1, τ1, v2, τ2, v3, τ3, a1, b1, c1, PS_n c2 1 v3, PZ_t (PZ_2 a3) (PZ_t (PZ_n _ _ _) (PZ_t (PZ_2 b3) (PZ_t (PZ_2 c3) (PZ_n _ 1 v3)))), ?_, fun hok => ⟨?_, ?_⟩⟩
  · rw [up_k _ _ _ (by decide), c3.2 41 (by decide) (by decide), b3.2 41 (by decide) (by decide), up_k _ _ _ (by decide), a3.2 41 (by decide) (by decide)]
  · have o2 : (iD2 f p).1 = true := xN_b hok
    have o1 : (iD1 f p).1 = true := xM_b o2
    rw [up_j _ _ _ (by decide), c3.1 121 (by decide), b3.1 121 (by decide), up_s]
    exact a4 o1
  · rw [up_s]
    exact c4 hok
theorem tailR_eq {q : Bool × Nat} (hq : q = xR f p) (X : TX f len) (P : PS f len q.1 q.2 σ) : ∃ τ, f_X11_readsItem_j192 σ = some τ ∧ PS f len (iP4 f p).1 (iP4 f p).2 τ ∧ PZ σ τ ∧ (∀ j, 41 ≤ j → j ≤ 46 → τ 101 j = σ 101 j) ∧ ((iP4 f p).1 = true → τ 121 0 = nI (f (iP1 f p).2 - 48) ∧ τ 121 1 = nI (nv f (iP3 f p).2)) := by
  subst hq
  obtain ⟨v1, τ1, a1, a2, a3⟩ := mustR_eq (c := 58) X P (by decide) (by decide)
  obtain ⟨v2, τ2, b1, b2, b3, b4⟩ := digR_eq X a2
  obtain ⟨v3, τ3, c1, c2, c3⟩ := mustR_eq (c := 42) X (PS_n b2 0 v2) (by decide) (by decide)
  obtain ⟨v4, τ4, d1, d2, d3, d4⟩ := numR_eq X c2
  have a1' : f_X11_must 58 σ = some (v1, τ1) := a1
  have c1' : f_X11_must 42 (up τ2 121 0 v2) = some (v3, τ3) := c1
  have i0 : (0 : Int32).toNatClampNeg = 0 := by decide
  have i1 : (1 : Int32).toNatClampNeg = 1 := by decide
  refine ⟨up τ4 121 1 v4, ?_, PS_n d2 1 v4, PZ_t (PZ_2 a3) (PZ_t (PZ_2 b3) (PZ_t (PZ_n _ _ _) (PZ_t (PZ_2 c3) (PZ_t (PZ_2 d3) (PZ_n _ 1 v4))))), fun j h1 h2 => ?_, fun hok => ⟨?_, ?_⟩⟩
  · unfold f_X11_readsItem_j192
    rw [a1', bind_s, b1, bind_s, chk_t (show inb 0 2 = true by decide), i0, c1', bind_s, d1, bind_s, chk_t (show inb 1 2 = true by decide), i1]
  · rw [up_k _ _ _ (by decide), d3.2 j (by omega) (by omega), c3.2 j (by omega) (by omega), up_k _ _ _ (by decide), b3.2 j (by omega) (by omega), a3.2 j (by omega) (by omega)]
  · have o3 : (iP3 f p).1 = true := xN_b hok
    have o2 : (iP2 f p).1 = true := xM_b o3
    rw [up_j _ _ _ (by decide), d3.1 121 (by decide), c3.1 121 (by decide), up_s]
    exact b4 o2
  · rw [up_s]
    exact d4 hok
