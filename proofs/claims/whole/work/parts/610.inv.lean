/-! PURE FACTS, 25: what holds between the calls -/
variable {k n len nr nf : Nat} {R V tx : Nat → Nat} {H : Nat → Nat → Nat} {hv : Bool} {rk rp fk fp : Nat → Int32} {σ τ : St}
def CI (R : Nat → Nat) (n : Nat) (H : Nat → Nat → Nat) (hv : Bool) (V : Nat → Nat) (σ : St) : Prop := ShR 1 R σ ∧ ShK 8 σ ∧ ShK 15 σ ∧ (∃ nx, Ring nx n H σ) ∧ σ 0 11 = nI (bN hv) ∧ (hv = true → ShR 15 V σ ∧ Good V)
def CX (len : Nat) (tx : Nat → Nat) (nr : Nat) (rk rp : Nat → Int32) (nf : Nat) (fk fp : Nat → Int32) (σ : St) : Prop := σ 99 1 = nI len ∧ (∀ i, i < len → σ 100 i = nI (tx i)) ∧ σ 80 2 = nI nr ∧ (∀ i, i < nr → σ 81 i = rk i ∧ σ 82 i = rp i) ∧ σ 83 2 = nI nf ∧ (∀ i, i < nf → σ 84 i = fk i ∧ σ 85 i = fp i)
def RI (R : Nat → Nat) (n : Nat) (H : Nat → Nat → Nat) (hv : Bool) (V : Nat → Nat) (σ : St) : Prop := σ 102 = rwN R ∧ σ 101 5 = nI n ∧ (∀ j, j < n → ∀ i, i < 761 → σ 105 (761 * (n - 1 - j) + i) = nI (H j i)) ∧ σ 101 6 = nI (bN hv) ∧ (hv = true → ∀ i, i < 761 → σ 103 i = nI (V i))
def RX (len : Nat) (tx : Nat → Nat) (nr : Nat) (rk rp : Nat → Int32) (nf : Nat) (fk fp : Nat → Int32) (σ : St) : Prop := σ 101 8 = nI len ∧ (∀ i, i < len → σ 106 i = nI (tx i)) ∧ σ 101 13 = nI nr ∧ (∀ i, i < nr → σ 107 i = rk i ∧ σ 108 i = rp i) ∧ σ 101 14 = nI nf ∧ (∀ i, i < nf → σ 109 i = fk i ∧ σ 110 i = fp i)
def SmallI (n len : Nat) (tx : Nat → Nat) (nr nf : Nat) : Prop := n ≤ 8 ∧ len ≤ 70 ∧ (∀ i, i < len → tx i < 65536) ∧ nr ≤ 3 ∧ nf ≤ 3
def Inv (σ : St) : Prop := ∃ R n H hv V len tx nr rk rp nf fk fp, Good R ∧ SmallI n len tx nr nf ∧ CI R n H hv V σ ∧ CX len tx nr rk rp nf fk fp σ ∧ RI R n H hv V σ ∧ RX len tx nr rk rp nf fk fp σ
/-- only the class's scratch cells, or the law's own, differ -/
def Fc (σ τ : St) : Prop := ∀ a, ¬ (86 ≤ a ∧ a ≤ 98) → a ≠ 122 → τ a = σ a
/-- only the reference's scratch cells and fields differ -/
def Fr (σ τ : St) : Prop := (∀ a, a ≠ 101 → a ≠ 104 → ¬ (111 ≤ a ∧ a ≤ 121) → τ a = σ a) ∧ ∀ j, j = 5 ∨ j = 6 ∨ j = 8 ∨ j = 13 ∨ j = 14 → τ 101 j = σ 101 j
theorem Fc_r (σ : St) : Fc σ σ := fun _ _ _ => rfl
theorem Fr_r (σ : St) : Fr σ σ := ⟨fun _ _ _ _ => rfl, fun _ _ => rfl⟩
theorem Fc_t {υ : St} (h : Fc σ τ) (h2 : Fc τ υ) : Fc σ υ := fun a h3 h4 => (h2 a h3 h4).trans (h a h3 h4)
theorem Fr_t {υ : St} (h : Fr σ τ) (h2 : Fr τ υ) : Fr σ υ := ⟨fun a h3 h4 h5 => (h2.1 a h3 h4 h5).trans (h.1 a h3 h4 h5), fun j hj => (h2.2 j hj).trans (h.2 j hj)⟩
theorem Fc_up (σ : St) {a : Nat} (j : Nat) (v : Int32) (h : 86 ≤ a ∧ a ≤ 98 ∨ a = 122) : Fc σ (up σ a j v) := fun b h1 h2 => up_k _ _ _ (by omega)
theorem Fc_upA (σ : St) {a : Nat} (f : Nat → Int32) (h : 86 ≤ a ∧ a ≤ 98 ∨ a = 122) : Fc σ (upA σ a f) := fun b h1 h2 => upA_ne _ _ (by omega)
theorem Fr_upA (σ : St) {a : Nat} (f : Nat → Int32) (h : a = 104 ∨ 111 ≤ a ∧ a ≤ 121) : Fr σ (upA σ a f) := ⟨fun b h1 h2 h3 => upA_ne _ _ (by omega), fun j _ => by rw [upA_ne _ _ (by omega)]⟩
theorem Fr_up (σ : St) {a : Nat} (j : Nat) (v : Int32) (h : a = 104 ∨ 111 ≤ a ∧ a ≤ 121) : Fr σ (up σ a j v) := Fr_upA σ _ h
theorem Fr_up1 (σ : St) {j : Nat} (v : Int32) (h : ¬ (j = 5 ∨ j = 6 ∨ j = 8 ∨ j = 13 ∨ j = 14)) : Fr σ (up σ 101 j v) := ⟨fun b h1 h2 h3 => up_k _ _ _ h1, fun i hi => up_j _ _ _ (fun e => h (e ▸ hi))⟩
theorem CI_c (h : ∀ a, a ≤ 78 → τ a = σ a) (I : CI R n H hv V σ) : CI R n H hv V τ := by
  obtain ⟨h1, h2, h3, ⟨nx, h4⟩, h5, h6⟩ := I
  refine ⟨ShR_c (fun a _ _ => h a (by omega)) h1, ShK_c (fun a _ _ => h a (by omega)) h2, ShK_c (fun a _ _ => h a (by omega)) h3, ⟨nx, Ring_c (fun a _ _ => h a (by omega)) h4⟩, by rw [h 0 (by omega)]; exact h5, fun e => ⟨ShR_c (fun a _ _ => h a (by omega)) (h6 e).1, (h6 e).2⟩⟩
theorem CX_c (h : ∀ a, (80 ≤ a ∧ a ≤ 85) ∨ a = 99 ∨ a = 100 → τ a = σ a) (I : CX len tx nr rk rp nf fk fp σ) : CX len tx nr rk rp nf fk fp τ := by
  unfold CX at *
  rw [h 99 (by omega), h 100 (by omega), h 80 (by omega), h 81 (by omega), h 82 (by omega), h 83 (by omega), h 84 (by omega), h 85 (by omega)]
  exact I
theorem RI_c (h : ∀ a, a = 102 ∨ a = 103 ∨ a = 105 → τ a = σ a) (h2 : ∀ j, j = 5 ∨ j = 6 → τ 101 j = σ 101 j) (I : RI R n H hv V σ) : RI R n H hv V τ := by
  unfold RI at *
  rw [h 102 (by omega), h 103 (by omega), h 105 (by omega), h2 5 (by omega), h2 6 (by omega)]
  exact I
theorem RX_c (h : ∀ a, 106 ≤ a ∧ a ≤ 110 → τ a = σ a) (h2 : ∀ j, j = 8 ∨ j = 13 ∨ j = 14 → τ 101 j = σ 101 j) (I : RX len tx nr rk rp nf fk fp σ) : RX len tx nr rk rp nf fk fp τ := by
  unfold RX at *
  rw [h 106 (by omega), h 107 (by omega), h 108 (by omega), h 109 (by omega), h 110 (by omega), h2 8 (by omega), h2 13 (by omega), h2 14 (by omega)]
  exact I
theorem Inv_Fc (F : Fc σ τ) (I : Inv σ) : Inv τ := by
  obtain ⟨R, n, H, hv, V, len, tx, nr, rk, rp, nf, fk, fp, G, S, a, b, c, d⟩ := I
  exact ⟨R, n, H, hv, V, len, tx, nr, rk, rp, nf, fk, fp, G, S, CI_c (fun a h => F a (by omega) (by omega)) a, CX_c (fun a h => F a (by omega) (by omega)) b, RI_c (fun a h => F a (by omega) (by omega)) (fun j _ => by rw [F 101 (by omega) (by omega)]) c, RX_c (fun a h => F a (by omega) (by omega)) (fun j _ => by rw [F 101 (by omega) (by omega)]) d⟩
theorem Inv_Fr (F : Fr σ τ) (I : Inv σ) : Inv τ := by
  obtain ⟨R, n, H, hv, V, len, tx, nr, rk, rp, nf, fk, fp, G, S, a, b, c, d⟩ := I
  exact ⟨R, n, H, hv, V, len, tx, nr, rk, rp, nf, fk, fp, G, S, CI_c (fun a h => F.1 a (by omega) (by omega) (by omega)) a, CX_c (fun a h => F.1 a (by omega) (by omega) (by omega)) b, RI_c (fun a h => F.1 a (by omega) (by omega) (by omega)) (fun j h => F.2 j (by omega)) c, RX_c (fun a h => F.1 a (by omega) (by omega) (by omega)) (fun j h => F.2 j (by omega)) d⟩
/-- one call that may throw: the class's helper, then the reference, alike, and all holds behind -/
def Step (f g : St → Option (Int32 × St)) (σ : St) : Prop := ∃ c τ v τ', f σ = some (c, τ) ∧ g τ = some (v, τ') ∧ τ' 101 0 = c ∧ (c = 0 → τ' 122 0 = v) ∧ Inv τ'
/-- one call that never throws -/
def Step0 (f g : St → Option (Int32 × St)) (σ : St) : Prop := ∃ τ v τ', f σ = some (v, τ) ∧ g τ = some (v, τ') ∧ Inv τ'
/-- a call that only asks -/
theorem step_ask {f g : St → Option (Int32 × St)} {c v : Int32} (I : Inv σ) (hf : f σ = some (c, τ)) (F : Fc σ τ) (hg : ∃ τ', g τ = some (v, τ') ∧ Fr τ τ' ∧ τ' 101 0 = c) (hv : c = 0 → τ 122 0 = v) : Step f g σ := by
  obtain ⟨τ', h1, h2, h3⟩ := hg
  exact ⟨c, τ, v, τ', hf, h1, h3, fun e => by rw [h2.1 122 (by omega) (by omega) (by omega)]; exact hv e, Inv_Fr h2 (Inv_Fc F I)⟩
theorem CI_push (I : CI R n H hv V σ) (G : Good R) : ∃ τ, f_X2_push 1 σ = some τ ∧ CI R (min (n + 1) 8) (pushH R H) hv V τ ∧ ∀ a, a < 23 ∨ 78 < a → τ a = σ a := by
  obtain ⟨h1, h2, h3, ⟨nx, h4⟩, h5, h6⟩ := I
  obtain ⟨τ, a1, a2, a3⟩ := push_eq h1 G (Or.inl rfl) h4
  refine ⟨τ, a1, ⟨ShR_c (fun a _ _ => a3 a (by omega)) h1, ShK_c (fun a _ _ => a3 a (by omega)) h2, ShK_c (fun a _ _ => a3 a (by omega)) h3, ⟨_, a2⟩, by rw [a3 0 (by omega)]; exact h5, fun e => ⟨ShR_c (fun a _ _ => a3 a (by omega)) (h6 e).1, (h6 e).2⟩⟩, a3⟩
theorem CI_now {R' : Nat → Nat} (I : CI R n H hv V σ) (T : ShR 1 R' τ) (h : ∀ a, a < 2 ∨ (7 < a ∧ a ≤ 78) → τ a = σ a) : CI R' n H hv V τ := by
  obtain ⟨h1, h2, h3, ⟨nx, h4⟩, h5, h6⟩ := I
  exact ⟨T, ShK_c (fun a _ _ => h a (by omega)) h2, ShK_c (fun a _ _ => h a (by omega)) h3, ⟨nx, Ring_c (fun a _ _ => h a (by omega)) h4⟩, by rw [h 0 (by omega)]; exact h5, fun e => ⟨ShR_c (fun a _ _ => h a (by omega)) (h6 e).1, (h6 e).2⟩⟩
theorem RI_now {R' : Nat → Nat} (I : RI R n H hv V σ) (h : τ 102 = rwN R') (h2 : ∀ a, a = 101 ∨ a = 103 ∨ a = 105 → τ a = σ a) : RI R' n H hv V τ := by
  unfold RI at *
  rw [h, h2 101 (by omega), h2 103 (by omega), h2 105 (by omega)]
  exact ⟨rfl, I.2⟩
theorem RI_push (I : RI R n H hv V σ) (hn : n ≤ 8) : ∃ τ, f_X11_changes σ = some τ ∧ RI R (min (n + 1) 8) (pushH R H) hv V τ ∧ (∀ a, a ≠ 101 → a ≠ 104 → a ≠ 105 → τ a = σ a) ∧ ∀ j, j ≠ 5 → τ 101 j = σ 101 j := by
  obtain ⟨h1, h2, h3, h4, h5⟩ := I
  rw [changes_eq]
  generalize hs1 : upA σ 104 (blk 0 761 (σ 102) (σ 104)) = σ1
  have d : ∀ a, a ≠ 104 → σ1 a = σ a := fun a ha => by rw [← hs1, upA_ne _ _ ha]
  have e4 : ∀ i, i < 761 → σ1 104 i = nI (R i) := fun i hi => by rw [← hs1, upA_same, blk_in (by omega) (by omega), h1]; rfl
  by_cases e : n < 8
  · have h := keeps_lt σ1 (kp := n) (by rw [d _ (by decide), h2]) e
    refine ⟨_, h, ⟨?_, ?_, fun j hj i hi => ?_, ?_, fun q i hi => ?_⟩, fun a q1 q2 q3 => ?_, fun j hj => ?_⟩
    · rw [upA_ne _ _ (by decide), up_k _ _ _ (by decide), d _ (by decide), h1]
    · rw [upA_ne _ _ (by decide), up_s, show min (n + 1) 8 = n + 1 by omega]
    · rw [upA_same, show min (n + 1) 8 = n + 1 by omega]
      unfold pushH
      by_cases ej : j = 0
      · subst ej
        rw [if_pos rfl, blk_in (by omega) (by omega), e4 _ (by omega)]
        exact congrArg (fun q => nI (R q)) (by omega)
      · rw [if_neg ej, blk_out (by omega), d _ (by decide), ← h3 (j - 1) (by omega) i hi]
        congr 1
        omega
    · rw [upA_ne _ _ (by decide), up_j _ _ _ (by decide), d _ (by decide), h4]
    · rw [upA_ne _ _ (by decide), up_k _ _ _ (by decide), d _ (by decide), h5 q i hi]
    · rw [upA_ne _ _ q3, up_k _ _ _ q1, d _ q2]
    · rw [upA_ne _ _ (by decide), up_j _ _ _ hj, d _ (by decide)]
  · have en : n = 8 := by omega
    subst en
    have h := keeps_8 σ1 (by rw [d _ (by decide), h2])
    refine ⟨_, h, ⟨?_, ?_, fun j hj i hi => ?_, ?_, fun q i hi => ?_⟩, fun a q1 q2 q3 => ?_, fun j hj => ?_⟩
    · rw [upA_ne _ _ (by decide), d _ (by decide), h1]
    · rw [upA_ne _ _ (by decide), d _ (by decide), h2]
      rfl
    · rw [upA_same, show min (8 + 1) 8 = 8 by omega] at *
      unfold pushH
      by_cases ej : j = 0
      · subst ej
        rw [if_pos rfl, blk_in (by omega) (by omega), e4 _ (by omega)]
        exact congrArg (fun q => nI (R q)) (by omega)
      · rw [if_neg ej, blk_out (by omega), blk_in (by omega) (by omega), d _ (by decide), ← h3 (j - 1) (by omega) i hi]
        congr 1
        omega
    · rw [upA_ne _ _ (by decide), d _ (by decide), h4]
    · rw [upA_ne _ _ (by decide), d _ (by decide), h5 q i hi]
    · rw [upA_ne _ _ q3, d _ q2]
    · rw [upA_ne _ _ (by decide), d _ (by decide)]
/-- a call that changes the row, once what it was is kept -/
theorem step_change {f g : St → Option (Int32 × St)} {R' : Nat → Nat} {v : Int32} {υ : St} (G : Good R) (G' : Good R') (S : SmallI n len tx nr nf) (c : CI R n H hv V σ) (cx : CX len tx nr rk rp nf fk fp σ) (r : RI R n H hv V σ) (rx : RX len tx nr rk rp nf fk fp σ) (Fσ : Fc σ υ)
    (hf : ∀ τ, CI R (min (n + 1) 8) (pushH R H) hv V τ → f_X2_push 1 υ = some τ → ∃ τ2, f σ = some (0, up τ2 122 0 v) ∧ ShR 1 R' τ2 ∧ ∀ a, ¬ (2 ≤ a ∧ a ≤ 7) → ¬ (86 ≤ a ∧ a ≤ 98) → τ2 a = τ a)
    (hg : ∀ τ, RI R n H hv V τ → ∃ υ2, Fr τ υ2 ∧ υ2 101 0 = 0 ∧ ∀ τ2, f_X11_changes υ2 = some τ2 → τ2 102 = rwN R → (∀ a, a ≠ 101 → a ≠ 104 → a ≠ 105 → τ2 a = υ2 a) → (∀ j, j ≠ 5 → τ2 101 j = υ2 101 j) → ∃ υ3 υ4, Fr τ2 υ3 ∧ υ3 101 0 = τ2 101 0 ∧ g τ = some (v, υ4) ∧ υ4 102 = rwN R' ∧ ∀ a, a ≠ 102 → υ4 a = υ3 a) : Step f g σ := by
  obtain ⟨τ, a1, a2, a3⟩ := CI_push (CI_c (τ := υ) (fun a h => Fσ a (by omega) (by omega)) c) G
  obtain ⟨τ2, b1, b2, b3⟩ := hf τ a2 a1
  have q1 : ∀ a, 79 ≤ a → ¬ (86 ≤ a ∧ a ≤ 98) → a ≠ 122 → (up τ2 122 0 v) a = σ a := fun a h1 h2 h3 => by
    rw [up_k _ _ _ h3, b3 a (by omega) h2, a3 a (by omega), Fσ a h2 h3]
  have r1 : RI R n H hv V (up τ2 122 0 v) := RI_c (fun a h => q1 a (by omega) (by omega) (by omega)) (fun j h => by rw [q1 101 (by omega) (by omega) (by omega)]) r
  obtain ⟨υ2, c1, c0, c2⟩ := hg _ r1
  have r2 : RI R n H hv V υ2 := RI_c (fun a h => c1.1 a (by omega) (by omega) (by omega)) (fun j h => c1.2 j (by omega)) r1
  obtain ⟨τ3, d1, d2, d3, d4⟩ := RI_push r2 S.1
  obtain ⟨υ3, υ4, e1, e2, e3, e4, e5⟩ := c2 τ3 d1 d2.1 d3 d4
  have r3 : RI R (min (n + 1) 8) (pushH R H) hv V υ3 := RI_c (fun a h => e1.1 a (by omega) (by omega) (by omega)) (fun j h => e1.2 j (by omega)) d2
  have key : ∀ a, a ≠ 101 → a ≠ 102 → a ≠ 104 → a ≠ 105 → ¬ (111 ≤ a ∧ a ≤ 121) → υ4 a = (up τ2 122 0 v) a := fun a h1 h2 h3 h4 h5 => by
    rw [e5 a h2, e1.1 a h1 h3 h5, d3 a h1 h3 h4, c1.1 a h1 h3 h5]
  refine ⟨0, _, v, υ4, b1, e3, ?_, fun _ => ?_, R', min (n + 1) 8, pushH R H, hv, V, len, tx, nr, rk, rp, nf, fk, fp, G', ⟨by omega, S.2⟩, ?_, ?_, RI_now r3 e4 (fun a h => e5 a (by omega)), ?_⟩
  · rw [e5 101 (by omega), e2, d4 0 (by omega), c0]
  · rw [key 122 (by omega) (by omega) (by omega) (by omega) (by omega), up_s]
  · refine CI_c (σ := τ2) (fun a h => ?_) (CI_now a2 b2 (fun a h => ?_))
    · rw [key a (by omega) (by omega) (by omega) (by omega) (by omega), up_k _ _ _ (by omega)]
    · exact b3 a (by omega) (by omega)
  · exact CX_c (fun a h => by rw [key a (by omega) (by omega) (by omega) (by omega) (by omega), q1 a (by omega) (by omega) (by omega)]) cx
  · refine RX_c (σ := up τ2 122 0 v) (fun a h => ?_) (fun j h => ?_) (RX_c (fun a h => q1 a (by omega) (by omega) (by omega)) (fun j h => by rw [q1 101 (by omega) (by omega) (by omega)]) rx)
    · exact key a (by omega) (by omega) (by omega) (by omega) (by omega)
    · rw [e5 101 (by omega), e1.2 j (by omega), d4 j (by omega), c1.2 j (by omega)]
