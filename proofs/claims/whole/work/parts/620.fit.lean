/-! PURE FACTS, 32: whether a shape fits -/
variable {k : Nat} {R : Nat → Nat} {σ τ : St}
def egI (w h : Nat) (X Y : Int64) : Nat := if Y < 0 then 0 else if lN w ≤ X then 1 else if lN h ≤ Y then 2 else if X < 0 then 3 else 4
theorem egI_lt (w h : Nat) (X Y : Int64) : egI w h X Y < 5 := by
  unfold egI
  (repeat' split) <;> omega
theorem side_eq {w h : Nat} (hw : w < 100) (hh : h < 100) (X Y : Int64) : f_X1_sideOf (nI w) (nI h) X Y = some (nI (egI w h X Y)) := by
  unfold f_X1_sideOf f_X1_sideOf_0 egI
  rw [nI_l (by omega), nI_l (by omega)]
  by_cases a : Y < 0
  · rw [if_neg (by rw [lg_cmp_ge]; exact Int64.not_le.mpr a), if_pos a]; rfl
  · rw [if_pos ((lg_cmp_ge _ _).mpr (Int64.not_lt.mp a)), if_neg a]
    by_cases b : lN w ≤ X
    · rw [if_neg (by rw [lg_cmp_lt]; exact Int64.not_lt.mpr b), if_pos b]; rfl
    · rw [if_pos ((lg_cmp_lt _ _).mpr (Int64.not_le.mp b)), if_neg b]
      by_cases c : lN h ≤ Y
      · rw [if_neg (by rw [lg_cmp_lt]; exact Int64.not_lt.mpr c), if_pos c]; rfl
      · rw [if_pos ((lg_cmp_lt _ _).mpr (Int64.not_le.mp c)), if_neg c]
        by_cases d : X < 0
        · rw [if_neg (by rw [lg_cmp_ge]; exact Int64.not_le.mpr d), if_pos d]; rfl
        · rw [if_pos ((lg_cmp_ge _ _).mpr (Int64.not_lt.mp d)), if_neg d]; rfl
theorem egI_4 {w h : Nat} (hw : w < 100) (hh : h < 100) {X Y : Int64} (e : egI w h X Y = 4) : ∃ x y, x < w ∧ y < h ∧ X = lN x ∧ Y = lN y := by
  unfold egI at e
  by_cases a : Y < 0
  · rw [if_pos a] at e; omega
  rw [if_neg a] at e
  by_cases b : lN w ≤ X
  · rw [if_pos b] at e; omega
  rw [if_neg b] at e
  by_cases c : lN h ≤ Y
  · rw [if_pos c] at e; omega
  rw [if_neg c] at e
  by_cases d : X < 0
  · rw [if_pos d] at e; omega
  obtain ⟨x, hx, rfl⟩ := pk_lOf d
  obtain ⟨y, hy, rfl⟩ := pk_lOf a
  rw [pk_lLE (by omega) hx] at b
  rw [pk_lLE (by omega) hy] at c
  exact ⟨x, y, by omega, by omega, rfl, rfl⟩
def cel (R : Nat → Nat) (s : Nat) (X Y : Int64) : Nat := sc R s * Y.toInt.toNat + X.toInt.toNat
theorem cel_n {s x y : Nat} (hx : x < 100) (hy : y < 100) : cel R s (lN x) (lN y) = sc R s * y + x := by
  unfold cel
  rw [pk_lT (by omega), pk_lT (by omega)]
  rfl
/-- whether the place is free -/
def frI (R : Nat → Nat) (s : Nat) (X Y : Int64) : Bool := decide (egI (sc R s) (sr R s) X Y = 4) && decide (on R s (cel R s X Y) = 1)
def bkK (R : Nat → Nat) (s : Nat) (X Y : Int64) : Int32 := if egI (sc R s) (sr R s) X Y ≠ 4 then nI 6 else if on R s (cel R s X Y) = 0 then nI 7 else nI 8
def bkP (R : Nat → Nat) (s : Nat) (X Y : Int64) : Int32 := if egI (sc R s) (sr R s) X Y ≠ 4 then nI (egI (sc R s) (sr R s) X Y) else if on R s (cel R s X Y) = 0 then nI (cel R s X Y) else wI (on R s (cel R s X Y))
theorem bzW_1 (τ : St) : bzW (some (nI 1, τ)) = some (nI 1, τ) := rfl
theorem bzW_0 (τ : St) : bzW (some (nI 0, τ)) = some (nI 0, τ) := rfl
theorem freeC_eq (T : ShR 1 R σ) (G : Good R) {s t : Nat} (hs : s < R 0) (X Y : Int64) : f_X1_isFree t 1 (nI s) X Y σ = if frI R s X Y = true then some (nI 1, σ) else some (nI 0, up (up σ t 1 (bkK R s X Y)) t 2 (bkP R s X Y)) := by
  have hS := GS G hs
  have he := egI_lt (sc R s) (sr R s) X Y
  unfold f_X1_isFree f_X1_isFree_0 f_X1_block f_X1_block_0 frI bkK bkP
  rw [columnsOf_eq T G hs, bind_s, rowsOf_eq T G hs, bind_s, side_eq (by omega) (by omega), bind_s]
  by_cases e : egI (sc R s) (sr R s) X Y = 4
  · obtain ⟨x, y, hx, hy, rfl, rfl⟩ := egI_4 (by omega) (by omega) e
    have hc := xy_lt hx hy
    have e1 : (lN x + (nI (sc R s)).toInt64 * lN y).toInt32 = nI (sc R s * y + x) := by
      rw [nI_l (by omega), lN_mul, lN_add, lN_i, Nat.add_comm]
    have ho := on_lt G hs hc
    rw [e1, onCell_eq T G hs hc, cel_n (by omega) (by omega), e]
    simp only [decide_true, Bool.true_and, ne_eq, not_true_eq_false, if_false, decide_eq_true_eq]
    rw [if_pos (show nI 4 = (4 : Int32) from rfl), bind_s]
    rw [show (-1 : Int32) = wI 1 from rfl, show (-2 : Int32) = wI 0 from rfl]
    simp (disch := omega) only [wI_inj]
    by_cases e2 : on R s (sc R s * y + x) = 1
    · rw [if_pos e2, if_pos e2]; rfl
    · rw [if_neg e2, if_neg e2]
      by_cases e3 : on R s (sc R s * y + x) = 0
      · rw [if_pos e3, if_pos e3, if_pos e3]; rfl
      · rw [if_neg e3, if_neg e3, if_neg e3]; rfl
  · rw [if_neg (show ¬ nI (egI (sc R s) (sr R s) X Y) = (4 : Int32) from fun h => e ((nI_eq (a := egI (sc R s) (sr R s) X Y) (b := 4) (by omega) (by decide)).mp h)), decide_eq_false e, Bool.false_and, if_neg Bool.false_ne_true, if_pos e, if_pos e]
    rfl
/-- is place k of the shape blocked -/
def bkd (R : Nat → Nat) (h s t : Nat) (X Y : Int64) (k : Nat) : Bool := decide (bit (tm R h t) k = 1) && !frI R s (X + lN (k % tc R h t)) (Y + lN (k / tc R h t))
def bc' (R : Nat → Nat) (h t k : Nat) : Nat := cnt (fun j => decide (bit (tm R h t) j = 1)) k
/-- the first blocked place below n -/
def fstB (R : Nat → Nat) (h s t : Nat) (X Y : Int64) (n k : Nat) : Prop := k < n ∧ bkd R h s t X Y k = true ∧ ∀ j, j < k → bkd R h s t X Y j = false
set_option maxHeartbeats 4000000 in
theorem fitC_eq (T : ShR 1 R σ) (G : Good R) {h s t f : Nat} (hf : 7 < f) (hh : h < R 1) (hs : s < R 0) (ht : t < 4) (x y : Int32) : ∃ τ, (∀ a, a ≠ f → τ a = σ a) ∧ ((f_X1_isFitting f 1 (nI h) (nI s) x y (nI t) σ = some (nI 1, τ) ∧ ∀ k, k < 16 → bkd R h s t x.toInt64 y.toInt64 k = false) ∨ (f_X1_isFitting f 1 (nI h) (nI s) x y (nI t) σ = some (nI 0, τ) ∧ ∃ k, fstB R h s t x.toInt64 y.toInt64 16 k ∧ τ f 0 = nI (bc' R h t k) ∧ τ f 1 = bkK R s (x.toInt64 + lN (k % tc R h t)) (y.toInt64 + lN (k / tc R h t)) ∧ τ f 2 = bkP R s (x.toInt64 + lN (k % tc R h t)) (y.toInt64 + lN (k / tc R h t)))) := by
  have hH := GH G hh
  have hT := SM_t hH.2.1 t
  have h16 := tm_16 hH.2.1 t
  have hm := tm_lt hH.2.1 t
  have hwh : tc R h t * tr R h t ≤ 16 := Nat.mul_le_mul hT.2.1 hT.2.2.2
  generalize hX : x.toInt64 = X
  generalize hY : y.toInt64 = Y
  have hTτ : ∀ τ, (∀ a, a ≠ f → τ a = σ a) → ShR 1 R τ := fun τ hτ => ShR_c (fun a h1 h2 => hτ a (by omega)) T
  have main := lp_fu (f := f_X1_isFitting_l26 f 1 (nI h) (nI s) x y (nI t) (nI (tc R h t)) (nI (tm R h t))) (fun r z => ∃ τ, z = (nI r, τ) ∧ (∀ a, a ≠ f → τ a = σ a) ∧ τ f 0 = nI (bc' R h t (tc R h t * r)) ∧ ∀ k, k < tc R h t * r → bkd R h s t X Y k = false) (fun v => (∃ τ, v = .inl τ ∧ (∀ a, a ≠ f → τ a = σ a) ∧ ∀ k, k < tc R h t * tr R h t → bkd R h s t X Y k = false) ∨ (∃ τ, v = .inr τ ∧ (∀ a, a ≠ f → τ a = σ a) ∧ ∃ k, fstB R h s t X Y 16 k ∧ τ f 0 = nI (bc' R h t k) ∧ τ f 1 = bkK R s (X + lN (k % tc R h t)) (Y + lN (k / tc R h t)) ∧ τ f 2 = bkP R s (X + lN (k % tc R h t)) (Y + lN (k / tc R h t)))) (tr R h t) (by omega) (nI 0, up σ f 0 (nI 0)) ⟨up σ f 0 (nI 0), rfl, fun a ha => up_k _ _ _ ha, by rw [up_s, Nat.mul_zero]; rfl, fun k hk => by rw [Nat.mul_zero] at hk; omega⟩ (by
    rintro r z hr ⟨τ, rfl, hτ, hn, hb⟩
    have inner := lp_fu (f := f_X1_isFitting_l41 f 1 (nI h) (nI s) x y (nI t) (nI (tc R h t)) (nI (tm R h t)) (nI r)) (fun c z => ∃ τ, z = (nI c, τ) ∧ (∀ a, a ≠ f → τ a = σ a) ∧ τ f 0 = nI (bc' R h t (tc R h t * r + c)) ∧ ∀ k, k < tc R h t * r + c → bkd R h s t X Y k = false) (fun v => (∃ τ, v = .inl τ ∧ (∀ a, a ≠ f → τ a = σ a) ∧ τ f 0 = nI (bc' R h t (tc R h t * (r + 1))) ∧ ∀ k, k < tc R h t * (r + 1) → bkd R h s t X Y k = false) ∨ (∃ τ, v = .inr τ ∧ (∀ a, a ≠ f → τ a = σ a) ∧ ∃ k, fstB R h s t X Y 16 k ∧ τ f 0 = nI (bc' R h t k) ∧ τ f 1 = bkK R s (X + lN (k % tc R h t)) (Y + lN (k / tc R h t)) ∧ τ f 2 = bkP R s (X + lN (k % tc R h t)) (Y + lN (k / tc R h t)))) (tc R h t) (by omega) (nI 0, τ) ⟨τ, rfl, hτ, hn, hb⟩ (by
      rintro c z hc ⟨τ, rfl, hτ, hn, hb⟩
      have hlt : tc R h t * r + c < 16 := at_lt hc hr hwh
      have hcs : bc' R h t (tc R h t * r + c) ≤ 16 := Nat.le_trans (cnt_le _ _) (by omega)
      have hs1 : bc' R h t (tc R h t * r + (c + 1)) = if decide (bit (tm R h t) (tc R h t * r + c) = 1) = true then bc' R h t (tc R h t * r + c) + 1 else bc' R h t (tc R h t * r + c) := rfl
      have hX2 : x.toInt64 + (nI c).toInt64 = X + lN ((tc R h t * r + c) % tc R h t) := by rw [lin_mod hc, nI_l (by omega), hX]
      have hY2 : y.toInt64 + (nI r).toInt64 = Y + lN ((tc R h t * r + c) / tc R h t) := by rw [lin_div hc, nI_l (by omega), hY]
      have hfr := freeC_eq (t := f) (hTτ τ hτ) G hs (X + lN ((tc R h t * r + c) % tc R h t)) (Y + lN ((tc R h t * r + c) / tc R h t))
      unfold f_X1_isFitting_l41 f_X1_isFitting_j97
      dsimp only
      rw [hX2, hY2, hfr]
      by_cases e : bit (tm R h t) (tc R h t * r + c) = 0
      · left
        have e1 : bkd R h s t X Y (tc R h t * r + c) = false := by unfold bkd; simp [e]
        refine ⟨(nI (c + 1), τ), ?_, τ, rfl, hτ, ?_, fun k hk => ?_⟩
        · simp (disch := omega) only [bind_s, sum_l, sum_r, chkin, lit, nI_add, pk_mul, nI_clamp, nI_leI, nI_ltI, nI_eqI, nI_or, and1, shl1, shrx, nI_subx, pk_divx, pk_remx, nmod, nzx, if_tt, if_ff, bz_n1, bz_n0, nm1, nm2, wI_p, wI_inj, wI_n, nI_w, wI_ltI, wI_leI, nI_ltw, nI_lew, reduceIte, covers_eq, bit_e0, e]
        · rw [hs1, hn]
          simp [e]
        · by_cases e2 : k = tc R h t * r + c
          · rw [e2]; exact e1
          · exact hb k (by omega)
      · have e1 : bit (tm R h t) (tc R h t * r + c) = 1 := by have := bit_lt (tm R h t) (tc R h t * r + c); omega
        by_cases e2 : frI R s (X + lN ((tc R h t * r + c) % tc R h t)) (Y + lN ((tc R h t * r + c) / tc R h t)) = true
        · left
          have e3 : bkd R h s t X Y (tc R h t * r + c) = false := by unfold bkd; rw [e2, Bool.not_true, Bool.and_false]
          refine ⟨(nI (c + 1), up τ f 0 (nI (bc' R h t (tc R h t * r + c) + 1))), ?_, _, rfl, fun a ha => by rw [up_k _ _ _ ha, hτ a ha], ?_, fun k hk => ?_⟩
          · rw [if_pos e2]
            simp (disch := omega) only [bind_s, sum_l, sum_r, chkin, lit, nI_add, pk_mul, nI_clamp, nI_leI, nI_ltI, nI_eqI, nI_or, and1, shl1, shrx, nI_subx, pk_divx, pk_remx, nmod, nzx, if_tt, if_ff, bz_n1, bz_n0, nm1, nm2, wI_p, wI_inj, wI_n, nI_w, wI_ltI, wI_leI, nI_ltw, nI_lew, reduceIte, covers_eq, bit_e0, e1, hn]
          · rw [hs1, up_s]
            simp [e1]
          · by_cases e4 : k = tc R h t * r + c
            · rw [e4]; exact e3
            · exact hb k (by omega)
        · right
          have e3 : bkd R h s t X Y (tc R h t * r + c) = true := by unfold bkd; rw [decide_eq_true e1, Bool.eq_false_iff.mpr e2]; rfl
          refine ⟨.inr (up (up τ f 1 (bkK R s (X + lN ((tc R h t * r + c) % tc R h t)) (Y + lN ((tc R h t * r + c) / tc R h t)))) f 2 (bkP R s (X + lN ((tc R h t * r + c) % tc R h t)) (Y + lN ((tc R h t * r + c) / tc R h t)))), ?_, Or.inr ⟨_, rfl, fun a ha => by rw [up_k _ _ _ ha, up_k _ _ _ ha, hτ a ha], tc R h t * r + c, ⟨hlt, e3, hb⟩, ?_, ?_, ?_⟩⟩
          · rw [if_neg e2]
            simp (disch := omega) only [bind_s, sum_l, sum_r, chkin, lit, nI_add, pk_mul, nI_clamp, nI_leI, nI_ltI, nI_eqI, nI_or, and1, shl1, shrx, nI_subx, pk_divx, pk_remx, nmod, nzx, if_tt, if_ff, bz_n1, bz_n0, nm1, nm2, wI_p, wI_inj, wI_n, nI_w, wI_ltI, wI_leI, nI_ltw, nI_lew, reduceIte, covers_eq, bit_e0, e1]
          · rw [up_j _ _ _ (by decide), up_j _ _ _ (by decide), hn]
          · rw [up_j _ _ _ (by decide), up_s]
          · rw [up_s]) (by
      rintro z ⟨τ, rfl, hτ, hn, hb⟩
      refine ⟨.inl τ, ?_, Or.inl ⟨τ, rfl, hτ, by rw [Nat.mul_succ]; exact hn, fun k hk => hb k (by rw [Nat.mul_succ] at hk; exact hk)⟩⟩
      unfold f_X1_isFitting_l41
      dsimp only
      simp (disch := omega) only [bind_s, sum_l, sum_r, chkin, lit, nI_add, pk_mul, nI_clamp, nI_leI, nI_ltI, nI_eqI, nI_or, and1, shl1, shrx, nI_subx, pk_divx, pk_remx, nmod, nzx, if_tt, if_ff, bz_n1, bz_n0, nm1, nm2, wI_p, wI_inj, wI_n, nI_w, wI_ltI, wI_leI, nI_ltw, nI_lew, reduceIte])
    obtain ⟨v, q1, q2⟩ := inner
    unfold f_X1_isFitting_l26
    dsimp only
    rw [rowsAfter_eq (hTτ τ hτ) G hh ht, bind_s, if_neg (nI_ge hr (by omega)), show (0 : Int32) = nI 0 from rfl, q1, bind_s, nI_1]
    rcases q2 with ⟨τ', rfl, p1, p2, p3⟩ | ⟨τ', rfl, p1, p2⟩
    · left
      exact ⟨_, rfl, τ', rfl, p1, p2, p3⟩
    · right
      exact ⟨_, rfl, Or.inr ⟨τ', rfl, p1, p2⟩⟩) (by
    rintro z ⟨τ, rfl, hτ, hn, hb⟩
    refine ⟨.inl τ, ?_, Or.inl ⟨τ, rfl, hτ, hb⟩⟩
    unfold f_X1_isFitting_l26
    dsimp only
    rw [rowsAfter_eq (hTτ τ hτ) G hh ht, bind_s, if_pos (nI_le (Nat.le_refl _) (by omega))])
  obtain ⟨v, q1, q2⟩ := main
  have hhead : f_X1_isFitting f 1 (nI h) (nI s) x y (nI t) σ = bzW (Sum.elim (fun v14 => some (1, v14)) (fun v15 => some (0, v15)) v) := by
    unfold f_X1_isFitting f_X1_isFitting_0
    rw [columnsAfter_eq T G hh ht, bind_s, coveredAfter_eq T G hh ht, bind_s, show (0 : Int32) = nI 0 from rfl, q1, bind_s]
  rcases q2 with ⟨τ', rfl, p1, p3⟩ | ⟨τ', rfl, p1, p2⟩
  · refine ⟨τ', p1, Or.inl ⟨hhead, fun k hk => ?_⟩⟩
    by_cases e : k < tc R h t * tr R h t
    · exact p3 k e
    · have : bit (tm R h t) k ≠ 1 := fun h => e (bit_hi hm h)
      unfold bkd
      simp [this]
  · exact ⟨τ', p1, Or.inr ⟨hhead, p2⟩⟩
