/-! PURE FACTS, 98: texts, the reference reads a text -/
variable {len p c k m prev : Nat} {f : Nat → Nat} {b e o : Bool} {σ τ υ : St}
/-- what an item that is one left in the reference -/
def DR (f : Nat → Nat) (p : Nat) (τ : St) : Prop := τ 101 41 = nI (f p) ∧ τ 121 0 = nI (dA f p) ∧ τ 121 1 = nI (dB f p) ∧ (f p = 115 → τ 101 42 = nI (grn f (iS3 f (p + 1)).2)) ∧ (f p = 112 → τ 101 43 = nI (lr f (p + 1) + 1) ∧ τ 101 44 = nI (wd f (pS f (p + 1) (lr f (p + 1)))) ∧ τ 101 45 = nI (rfm f (p + 1) (lr f (p + 1) + 1)) ∧ τ 101 46 = nI (bN (odn f (p + 1) (lr f (p + 1) + 1))))
theorem row_bind (S : St) : ((f_X11_row S).bind fun q10 => (lp (f_X11_readsItem_l159) FU q10).bind fun q15 => f_X11_readsItem_j192 q15) = ((f_X11_row S).bind fun q10 => lp f_X11_readsItem_l159 FU q10).bind fun q15 => f_X11_readsItem_j192 q15 := by
  cases f_X11_row S <;> rfl
theorem itemR_eq (X : TX f len) (P : PS f len true p σ) : ∃ τ, f_X11_readsItem σ = some τ ∧ PS f len (itm f p).1 (itm f p).2 τ ∧ PZ σ τ ∧ ((itm f p).1 = true → DR f p τ) := by
  have x1 := X.2.1 p
  obtain ⟨h, h1, h2, h3⟩ := hereR_eq X P
  have i0 : (0 : Int32).toNatClampNeg = 0 := by decide
  have i1 : (1 : Int32).toNatClampNeg = 1 := by decide
  have s41 : up σ 101 41 h 101 41 = h := up_s ..
  have s38 : (up σ 101 41 h 101 38) + 1 = nI (p + 1) := by rw [up_j _ _ _ (by decide), P.2.2.1, nI_1]
  have n38 : ∀ v : Int32, (up (up σ 101 41 h) 101 38 v) 101 41 = h := fun v => by rw [up_j _ _ _ (by decide), s41]
  have fr : ∀ v : Int32, PZ σ (up (up σ 101 41 h) 101 38 v) := fun v => PZ_t (PZ_up _ _ (by omega)) (PZ_up _ _ (by omega))
  unfold f_X11_readsItem f_X11_readsItem_0
  rw [h1, bind_s]
  by_cases q1 : f p = 115
  · have hp := TX_in X (p := p) (by omega)
    have hh : h = nI (f p) := (h2 (f p) (by omega) x1).mpr rfl
    have P1 : PS f len true (p + 1) (up (up σ 101 41 h) 101 38 (nI (p + 1))) := PS_38 (PS_up P (by decide) (by decide) (by decide)) hp
    obtain ⟨v1, τ1, v2, τ2, v3, τ3, τ4, a1, b1, c1, d1, d2, d3, d4, d5⟩ := sheetR_eq X P1
    have ei : itm f p = iS4 f (p + 1) := if_pos q1
    rw [if_pos (show up σ 101 41 h 101 41 = 115 by rw [s41]; exact (h2 115 (by decide) (by decide)).mpr q1), s38, a1, bind_s, chk_t (show inb 0 2 = true by decide), i0, b1, bind_s, c1, bind_s, chk_t (show inb 1 2 = true by decide), i1]
    refine ⟨τ4, d1, by rw [ei]; exact d2, PZ_t (fr _) d3, fun hok => ?_⟩
    rw [ei] at hok
    obtain ⟨g1, g2, g3⟩ := d5 hok
    refine ⟨by rw [d4, n38, hh], ?_, ?_, fun _ => g3, fun h => by omega⟩
    · rw [g1]; unfold dA; rw [if_pos q1]
    · rw [g2]; unfold dB; rw [if_pos q1]
  · rw [if_neg (show ¬ up σ 101 41 h 101 41 = 115 by rw [s41]; exact fun g => q1 ((h2 115 (by decide) (by decide)).mp g))]
    by_cases q2 : f p = 112
    · have hp := TX_in X (p := p) (by omega)
      have hh : h = nI (f p) := (h2 (f p) (by omega) x1).mpr rfl
      have P1 : PS f len true (p + 1) (up (up σ 101 41 h) 101 38 (nI (p + 1))) := PS_38 (PS_up P (by decide) (by decide) (by decide)) hp
      have P2 : PS f len true (p + 1) (up (up (up (up (up (up σ 101 41 h) 101 38 (nI (p + 1))) 101 43 0) 101 44 0) 101 45 0) 101 46 0) := PS_up (PS_up (PS_up (PS_up P1 (by decide) (by decide) (by decide)) (by decide) (by decide) (by decide)) (by decide) (by decide) (by decide)) (by decide) (by decide) (by decide)
      obtain ⟨τ1, a1, a2, a3, a4, a5, a6, a7⟩ := rowsR_eq X P2 (by rw [up_j _ _ _ (by decide), up_j _ _ _ (by decide), up_j _ _ _ (by decide), up_s]; rfl) (by rw [up_j _ _ _ (by decide), up_j _ _ _ (by decide), up_s]; rfl) (by rw [up_j _ _ _ (by decide), up_s]; rfl) (by rw [up_s]; rfl)
      obtain ⟨τ2, b1, b2, b3, b4, b5⟩ := tailR_eq (f := f) (p := p + 1) rfl X a2
      have ei : itm f p = iP4 f (p + 1) := by unfold itm; rw [if_neg q1, if_pos q2]
      rw [if_pos (show up σ 101 41 h 101 41 = 112 by rw [s41]; exact (h2 112 (by decide) (by decide)).mpr q2), s38, row_bind, a1, bind_s]
      refine ⟨τ2, b1, by rw [ei]; exact b2, PZ_t (fr _) (PZ_t (PZ_up _ _ (by omega)) (PZ_t (PZ_up _ _ (by omega)) (PZ_t (PZ_up _ _ (by omega)) (PZ_t (PZ_up _ _ (by omega)) (PZ_t (PZ_R a3) b3))))), fun hok => ?_⟩
      rw [ei] at hok
      obtain ⟨g1, g2⟩ := b5 hok
      refine ⟨?_, ?_, ?_, fun h => by omega, fun _ => ⟨by rw [b4 43 (by decide) (by decide), a4], by rw [b4 44 (by decide) (by decide), a5], by rw [b4 45 (by decide) (by decide), a6], by rw [b4 46 (by decide) (by decide), a7]⟩⟩
      · rw [b4 41 (by decide) (by decide), a3.2 41 (by decide) (by decide) (by decide), up_j _ _ _ (by decide), up_j _ _ _ (by decide), up_j _ _ _ (by decide), up_j _ _ _ (by decide), n38, hh]
      · rw [g1]; unfold dA; rw [if_neg q1, if_pos q2]
      · rw [g2]; unfold dB; rw [if_neg q1, if_pos q2]
    · rw [if_neg (show ¬ up σ 101 41 h 101 41 = 112 by rw [s41]; exact fun g => q2 ((h2 112 (by decide) (by decide)).mp g))]
      by_cases q3 : f p = 100
      · have hp := TX_in X (p := p) (by omega)
        have hh : h = nI (f p) := (h2 (f p) (by omega) x1).mpr rfl
        have P1 : PS f len true (p + 1) (up (up σ 101 41 h) 101 38 (nI (p + 1))) := PS_38 (PS_up P (by decide) (by decide) (by decide)) hp
        obtain ⟨v1, τ1, v2, τ2, v3, τ3, a1, b1, c1, d2, d3, d4, d5⟩ := spoilR_eq X P1
        have ei : itm f p = iD3 f (p + 1) := by unfold itm; rw [if_neg q1, if_neg q2, if_pos q3]
        rw [if_pos (show up σ 101 41 h 101 41 = 100 by rw [s41]; exact (h2 100 (by decide) (by decide)).mpr q3), s38, a1, bind_s, chk_t (show inb 0 2 = true by decide), i0, b1, bind_s, c1, bind_s, chk_t (show inb 1 2 = true by decide), i1]
        refine ⟨_, rfl, by rw [ei]; exact d2, PZ_t (fr _) d3, fun hok => ?_⟩
        rw [ei] at hok
        obtain ⟨g1, g2⟩ := d5 hok
        refine ⟨by rw [d4, n38, hh], ?_, ?_, fun h => by omega, fun h => by omega⟩
        · rw [g1]; unfold dA; rw [if_neg q1, if_neg q2]
        · rw [g2]; unfold dB; rw [if_neg q1, if_neg q2]
      · rw [if_neg (show ¬ up σ 101 41 h 101 41 = 100 by rw [s41]; exact fun g => q3 ((h2 100 (by decide) (by decide)).mp g))]
        have ei : itm f p = (false, p) := by unfold itm; rw [if_neg q1, if_neg q2, if_neg q3]
        refine ⟨_, rfl, by rw [ei]; exact PS_39 (PS_up P (by decide) (by decide) (by decide)) false, PZ_t (PZ_up _ _ (by omega)) (PZ_up _ _ (by omega)), fun hok => ?_⟩
        rw [ei] at hok
        exact absurd (show false = true from hok) (by decide)
def PT (σ τ : St) : Prop := (∀ a, a ≠ 101 → a ≠ 121 → τ a = σ a) ∧ ∀ j, ¬ (38 ≤ j ∧ j ≤ 46) → τ 101 j = σ 101 j
theorem PT_t (h : PT σ τ) (h2 : PT τ υ) : PT σ υ := ⟨fun a ha hb => (h2.1 a ha hb).trans (h.1 a ha hb), fun j h3 => (h2.2 j h3).trans (h.2 j h3)⟩
theorem PT_Z (h : PZ σ τ) : PT σ τ := ⟨h.1, fun j hj => h.2 j (by omega) (by omega) (by omega)⟩
theorem PT_up (σ : St) {j : Nat} (v : Int32) (h : 38 ≤ j ∧ j ≤ 46) : PT σ (up σ 101 j v) := ⟨fun a ha _ => up_k _ _ _ ha, fun i h1 => up_j _ _ _ (by omega)⟩
theorem textR_eq (X : TX f len) (h8 : σ 101 8 = nI len) (h106 : ∀ i, i < len → σ 106 i = nI (f i)) : ∃ τ, f_X11_isText σ = some (nI (bN (tok f len)), τ) ∧ PS f len (tok f len) (eT f) τ ∧ PT σ τ := by
  have hl := X.1
  obtain ⟨r1, r2⟩ := lq_ok X
  have hb := fun k (hk : k ≤ lq f) => qS_b X k (fun j hj => r1 j (by omega))
  have hbl := hb (lq f) (Nat.le_refl _)
  have P0 : PS f len true 0 (up (up (up σ 101 38 0) 101 40 0) 101 39 1) := ⟨by rw [up_j _ _ _ (by decide), up_j _ _ _ (by decide), up_j _ _ _ (by decide), h8], fun i hi => by rw [up_k _ _ _ (by decide), up_k _ _ _ (by decide), up_k _ _ _ (by decide)]; exact h106 i hi, by rw [up_j _ _ _ (by decide), up_j _ _ _ (by decide), up_s]; rfl, Nat.zero_le _, up_s ..⟩
  obtain ⟨τ0, a1, a2, a3, _⟩ := itemR_eq X P0
  have F0 : PT σ τ0 := PT_t (PT_up _ _ (by omega)) (PT_t (PT_up _ _ (by omega)) (PT_t (PT_up _ _ (by omega)) (PT_Z a3)))
  obtain ⟨τ1, q1, q2, q3⟩ := lp_fu (f := f_X11_isText_l19) (fun k z => PS f len (itm f (qS f k)).1 (itm f (qS f k)).2 z ∧ PT σ z) (fun τ => PS f len (itm f (qS f (lq f))).1 (eT f) τ ∧ PT σ τ) (lq f) (by omega) τ0 ⟨a2, F0⟩ (by
    rintro k τ hk ⟨P1, F1⟩
    left
    obtain ⟨g1, g2⟩ := cnI_i.mp (r1 k hk)
    have hbk := hb (k + 1) (by omega)
    rw [g1] at P1
    obtain ⟨h, c1, c2, c3⟩ := hereR_eq X P1
    have P2 : PS f len true (qS f (k + 1)) (up (up τ 101 38 ((τ 101 38) + 1)) 101 40 ((up τ 101 38 ((τ 101 38) + 1) 101 40) + 1)) := PS_up (by rw [P1.2.2.1, nI_1]; exact PS_38 P1 hbk.2) (by decide) (by decide) (by decide)
    obtain ⟨τ2, d1, d2, d3, _⟩ := itemR_eq X P2
    refine ⟨τ2, ?_, d2, PT_t F1 (PT_t (PT_up _ _ (by omega)) (PT_t (PT_up _ _ (by omega)) (PT_Z d3)))⟩
    unfold f_X11_isText_l19
    rw [if_neg (show ¬ τ 101 39 = 0 by rw [P1.2.2.2.2]; exact t0), c1, bind_s, if_pos (show h = 59 from (c2 59 (by decide) (by decide)).mpr g2), d1, bind_s]) (by
    rintro τ ⟨P1, F1⟩
    refine ⟨τ, ?_, P1, F1⟩
    unfold f_X11_isText_l19
    cases g1 : (itm f (qS f (lq f))).1
    · rw [g1] at P1
      rw [if_pos (show τ 101 39 = 0 by rw [P1.2.2.2.2]; rfl)]
    · have g2 : ¬ f (eT f) = 59 := fun h => r2 (cnI_i.mpr ⟨g1, h⟩)
      rw [g1] at P1
      obtain ⟨h, c1, c2, c3⟩ := hereR_eq X P1
      rw [if_neg (show ¬ τ 101 39 = 0 by rw [P1.2.2.2.2]; exact t0), c1, bind_s, if_neg (show ¬ h = 59 from fun g => g2 ((c2 59 (by decide) (by decide)).mp g))])
  have fin : ∀ w : Bool, f_X11_isText_j86 (nI (bN w)) τ1 = some (nI (bN w), up τ1 101 39 (nI (bN w))) := fun w => by
    unfold f_X11_isText_j86
    rw [chk_t (okzb w), up_s]
  refine ⟨up τ1 101 39 (nI (bN (tok f len))), ?_, PS_39 q2 _, PT_t q3 (PT_up _ _ (by omega))⟩
  have hj : f_X11_isText_j62 τ1 = f_X11_isText_j86 (nI (bN (tok f len))) τ1 := by
    have hE : eT f ≤ len := q2.2.2.2.1
    unfold f_X11_isText_j62 f_X11_isText_j85 tok
    cases g1 : (itm f (qS f (lq f))).1
    · rw [g1] at q2
      rw [if_pos (show τ1 101 39 = 0 by rw [q2.2.2.2.2]; rfl)]
      rfl
    · rw [g1] at q2
      rw [if_neg (show ¬ τ1 101 39 = 0 by rw [q2.2.2.2.2]; exact t0), Bool.true_and]
      by_cases g : eT f = len
      · rw [if_pos (show τ1 101 38 = τ1 101 8 by rw [q2.1, q2.2.2.1, g]), decide_eq_true g]; rfl
      · rw [if_neg (show ¬ τ1 101 38 = τ1 101 8 by rw [q2.1, q2.2.2.1, nI_eqI (by omega) (by omega)]; exact g), decide_eq_false g]; rfl
  unfold f_X11_isText f_X11_isText_0
  rw [a1, bind_s, q1, bind_s, hj, fin, bzb]
