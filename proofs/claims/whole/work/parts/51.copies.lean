/-! PURE FACTS, 2: the reference's rows that are copied -/
def blk (D n : Nat) (f g : Nat → Int32) : Nat → Int32 := fun j => if D ≤ j ∧ j < D + n then f (j - D) else g j
theorem upA_upA (σ : St) (k : Nat) (f h : Nat → Int32) : upA (upA σ k f) k h = upA σ k h := by
  funext a
  by_cases e : a = k <;> simp [upA, e]
theorem up_upA (σ : St) (k j : Nat) (f : Nat → Int32) (v : Int32) : up (upA σ k f) k j v = upA σ k (upd f j v) := by
  unfold up
  rw [upA_same, upA_upA]
theorem upA_id (σ : St) (k : Nat) : upA σ k (σ k) = σ := by
  funext a
  by_cases e : a = k <;> simp [upA, e]
theorem blk_0 (D : Nat) (f g : Nat → Int32) : blk D 0 f g = g := by
  funext j
  simp only [blk]
  rw [if_neg (by omega)]
theorem blk_s (D i : Nat) (f g : Nat → Int32) : upd (blk D i f g) (D + i) (f i) = blk D (i + 1) f g := by
  funext j
  simp only [upd, blk]
  by_cases e : j = D + i
  · subst e
    rw [if_pos rfl, if_pos (by omega), Nat.add_sub_cancel_left]
  · rw [if_neg e]
    by_cases h : D ≤ j ∧ j < D + i
    · rw [if_pos h, if_pos (by omega)]
    · rw [if_neg h, if_neg (by omega)]
theorem blk_out {D n j : Nat} {f g : Nat → Int32} (h : j < D ∨ D + n ≤ j) : blk D n f g j = g j := by
  simp only [blk]
  rw [if_neg (by omega)]
theorem blk_in {D n j : Nat} {f g : Nat → Int32} (h : D ≤ j) (h2 : j < D + n) : blk D n f g j = f (j - D) := by
  simp only [blk]
  rw [if_pos ⟨h, h2⟩]
/-- a loop that writes src into the row d from D on -/
theorem copy_eq {f : Int32 × St → Option ((Int32 × St) ⊕ St)} (σ : St) (d D N : Nat) (src : Nat → Int32) (hN : N < 1000000) (hs : ∀ i, i < N → ∀ τ, τ = upA σ d (blk D i src (σ d)) → f (nI i, τ) = some (.inl (nI (i + 1), up τ d (D + i) (src i)))) (hx : ∀ τ, f (nI N, τ) = some (.inr τ)) : lp f FU (0, σ) = some (upA σ d (blk D N src (σ d))) := by
  obtain ⟨r, h1, h2⟩ := lp_fu (f := f) (fun i z => z = (nI i, upA σ d (blk D i src (σ d)))) (fun r => r = upA σ d (blk D N src (σ d))) N hN (0, σ) (by show (0, σ) = (nI 0, _); rw [blk_0, upA_id]; rfl) (by
    intro i z hi e
    subst e
    refine Or.inl ⟨_, hs i hi _ rfl, ?_⟩
    rw [up_upA, blk_s]) (by
    intro z e
    subst e
    exact ⟨_, hx _, rfl⟩)
  rw [h1, h2]
theorem frames_eq (σ : St) : f_X11_frames σ = some (upA σ 104 (blk 0 761 (σ 102) (σ 104))) := by
  unfold f_X11_frames f_X11_frames_0
  rw [copy_eq σ 104 0 761 (σ 102) (by decide) (fun i hi τ e => by
    unfold f_X11_frames_l2
    dsimp only
    rw [if_neg (show ¬ (761 : Int32) ≤ nI i from nI_ge hi (by decide)), chk_t (inb_nI hi (by omega)), chk_t (inb_nI hi (by omega)), nI_clamp (by omega), nI_1, Nat.zero_add]
    subst e
    rw [upA_ne σ _ (by decide)]) (fun τ => by
    unfold f_X11_frames_l2
    dsimp only
    rw [if_pos (show (761 : Int32) ≤ nI 761 from nI_le (Nat.le_refl _) (by decide))])]
  rfl
theorem backs_eq (σ : St) : f_X11_backs σ = some (upA σ 102 (blk 0 761 (σ 104) (σ 102))) := by
  unfold f_X11_backs f_X11_backs_0
  rw [copy_eq σ 102 0 761 (σ 104) (by decide) (fun i hi τ e => by
    unfold f_X11_backs_l2
    dsimp only
    rw [if_neg (show ¬ (761 : Int32) ≤ nI i from nI_ge hi (by decide)), chk_t (inb_nI hi (by omega)), chk_t (inb_nI hi (by omega)), nI_clamp (by omega), nI_1, Nat.zero_add]
    subst e
    rw [upA_ne σ _ (by decide)]) (fun τ => by
    unfold f_X11_backs_l2
    dsimp only
    rw [if_pos (show (761 : Int32) ≤ nI 761 from nI_le (Nat.le_refl _) (by decide))])]
  rfl
/-- the snapshot of the reference -/
theorem saveR_eq (σ : St) : f_X11_saveSnapshot σ = some (σ 102 2, up (upA (up σ 101 0 0) 103 (blk 0 761 (σ 102) (σ 103))) 101 6 1) := by
  unfold f_X11_saveSnapshot f_X11_saveSnapshot_0
  rw [copy_eq (up σ 101 0 0) 103 0 761 (σ 102) (by decide) (fun i hi τ e => by
    unfold f_X11_saveSnapshot_l7
    dsimp only
    rw [if_neg (show ¬ (761 : Int32) ≤ nI i from nI_ge hi (by decide)), chk_t (inb_nI hi (by omega)), chk_t (inb_nI hi (by omega)), nI_clamp (by omega), nI_1, Nat.zero_add]
    subst e
    rw [upA_ne _ _ (show (102 : Nat) ≠ 103 by decide), up_k σ 0 0 (show (102 : Nat) ≠ 101 by decide)]) (fun τ => by
    unfold f_X11_saveSnapshot_l7
    dsimp only
    rw [if_pos (show (761 : Int32) ≤ nI 761 from nI_le (Nat.le_refl _) (by decide))])]
  show chk (inb (nI 2) 761) _ = _
  rw [chk_t (inb_nI (by decide) (by decide)), up_k σ 0 0 (by decide : (103 : Nat) ≠ 101)]
  show some (_, _) = some (_, _)
  have e : (2 : Int32).toNatClampNeg = 2 := by decide
  rw [e, up_k _ 6 1 (by decide), upA_ne _ _ (by decide), up_k σ 0 0 (by decide)]
theorem keepsJ_eq (σ : St) {kp : Nat} (h : σ 101 5 = nI (kp + 1)) (hk : kp < 8) : f_X11_keeps_j53 σ = some (upA σ 105 (blk (761 * kp) 761 (σ 104) (σ 105))) := by
  unfold f_X11_keeps_j53
  rw [copy_eq σ 105 (761 * kp) 761 (σ 104) (by decide) (fun i hi τ e => by
    have h2 : τ 101 5 = nI (kp + 1) := by rw [e, upA_ne σ _ (by decide), h]
    have h3 : (761 * ((τ 101 5) - 1)) + nI i = nI (761 * kp + i) := by
      rw [h2, nI_pred, show (761 : Int32) = nI 761 from rfl, pk_mul, nI_add]
    unfold f_X11_keeps_l55
    dsimp only
    rw [if_neg (show ¬ (761 : Int32) ≤ nI i from nI_ge hi (by decide)), chk_t (inb_nI hi (by omega))]
    show chk (inb ((761 * ((τ 101 5) - 1)) + nI i) 6088) (some (Sum.inl (nI i + 1, up τ 105 ((761 * ((τ 101 5) - 1)) + nI i).toNatClampNeg (τ 104 (nI i).toNatClampNeg)))) = _
    rw [h3, chk_t (inb_nI (by omega) (by omega)), nI_clamp (by omega), nI_clamp (by omega), nI_1, e, upA_ne σ _ (by decide)]) (fun τ => by
    unfold f_X11_keeps_l55
    dsimp only
    rw [if_pos (show (761 : Int32) ≤ nI 761 from nI_le (Nat.le_refl _) (by decide))])]
  rfl
theorem keeps_lt (σ : St) {kp : Nat} (h : σ 101 5 = nI kp) (hk : kp < 8) : f_X11_keeps σ = some (upA (up σ 101 5 (nI (kp + 1))) 105 (blk (761 * kp) 761 (σ 104) (σ 105))) := by
  unfold f_X11_keeps f_X11_keeps_0
  rw [h, if_neg (show ¬ nI kp = (8 : Int32) from fun e => by have e2 := (nI_eq (a := kp) (b := 8) (by omega) (by decide)).mp e; omega), nI_1, keepsJ_eq _ (up_s σ 101 5 _) hk, up_k σ 5 _ (by decide), up_k σ 5 _ (by decide)]
theorem keeps_8 (σ : St) (h : σ 101 5 = nI 8) : f_X11_keeps σ = some (upA σ 105 (blk 5327 761 (σ 104) (blk 0 5327 (fun i => σ 105 (i + 761)) (σ 105)))) := by
  unfold f_X11_keeps f_X11_keeps_0
  rw [if_pos (show σ 101 5 = (8 : Int32) from h), copy_eq σ 105 0 5327 (fun i => σ 105 (i + 761)) (by decide) (fun i hi τ e => by
    have h2 : τ 105 (i + 761) = σ 105 (i + 761) := by rw [e, upA_same, blk_out (by omega)]
    unfold f_X11_keeps_l11
    dsimp only
    rw [if_neg (show ¬ (5327 : Int32) ≤ nI i from nI_ge hi (by decide))]
    show chk (inb (nI i + nI 761) 6088) (chk (inb (nI i) 6088) (some (Sum.inl (nI i + 1, up τ 105 (nI i).toNatClampNeg (τ 105 (nI i + nI 761).toNatClampNeg))))) = _
    rw [nI_add, chk_t (inb_nI (by omega) (by omega)), chk_t (inb_nI (by omega) (by omega)), nI_clamp (by omega), nI_clamp (by omega), nI_1, h2, Nat.zero_add]) (fun τ => by
    unfold f_X11_keeps_l11
    dsimp only
    rw [if_pos (show (5327 : Int32) ≤ nI 5327 from nI_le (Nat.le_refl _) (by decide))])]
  rw [Option.bind_some, keepsJ_eq (kp := 7) _ (by rw [upA_ne σ _ (by decide)]; exact h) (by decide), upA_upA, upA_ne σ _ (by decide : (104 : Nat) ≠ 105), upA_same]
theorem changes_eq (σ : St) : f_X11_changes σ = f_X11_keeps (upA σ 104 (blk 0 761 (σ 102) (σ 104))) := by
  unfold f_X11_changes f_X11_changes_0
  rw [frames_eq]
  show (f_X11_keeps _).bind (fun q => some q) = _
  cases f_X11_keeps (upA σ 104 (blk 0 761 (σ 102) (σ 104))) <;> rfl
