/-! PURE FACTS, 15: tables that grow; shops copied; the ring -/
variable {k : Nat} {R : Nat → Nat} {σ : St}
theorem append_eq {t w n lim : Nat} {σ : St} (hw : σ t 0 = nI w) (hs : σ t 2 = nI n) (hl : ln (t + 1) = lim * w) (hw0 : 0 < w) (hn : n < lim) (hb : lim * w < 2 ^ 20) : f_X9_append t σ = some (nI n, up σ t 2 (nI (n + 1))) := by
  have hlim : lim < 2 ^ 20 := Nat.lt_of_le_of_lt (Nat.le_mul_of_pos_right lim hw0) hb
  unfold f_X9_append f_X9_append_0
  rw [full_eq hw hs hl hw0 (by omega) (by omega) hb, if_neg (by omega), bind_s, if_pos rfl, hs, nI_1, up_s, nI_pred]
theorem ShR_c {τ : St} (h : ∀ a, k + 1 ≤ a → a ≤ k + 6 → τ a = σ a) (T : ShR k R σ) : ShR k R τ := by
  have h1 := h (k + 1) (by omega) (by omega)
  have h2 := h (k + 1 + 1) (by omega) (by omega)
  have h3 := h (k + 3) (by omega) (by omega)
  have h4 := h (k + 3 + 1) (by omega) (by omega)
  have h5 := h (k + 5) (by omega) (by omega)
  have h6 := h (k + 5 + 1) (by omega) (by omega)
  unfold ShR ShW ShS ShH ShP at *
  rw [h1, h2, h3, h4, h5, h6]
  exact T
/-- the parts of a shop cell that copying never writes -/
def ShK (k : Nat) (σ : St) : Prop := SL k ∧ σ (k + 1) 0 = nI 103 ∧ σ (k + 3) 0 = nI 9 ∧ σ (k + 5) 0 = nI 5
theorem ShK_of (T : ShR k R σ) : ShK k σ := ⟨T.1, T.2.1.1, T.2.1.2.2.1, T.2.1.2.2.2.2.1⟩
theorem tcopy_eq {t u n : Nat} (σ : St) (h1 : ln (t + 1) = n) (h2 : ln (u + 1) = n) (hn : n < 2 ^ 20) (hd : u ≠ t + 1) : ∃ arr, f_X9_copyFrom t u σ = some (up (upA σ (t + 1) arr) t 2 (σ u 2)) ∧ ∀ j, j < n → arr j = σ (u + 1) j := by
  refine ⟨va_cpy (σ (u + 1)) (σ (t + 1)) 0 0 n, ?_, fun j hj => ?_⟩
  · unfold f_X9_copyFrom f_X9_copyFrom_0
    have e : (if (Int32.ofNat (ln (t + 1))) < (Int32.ofNat (ln (u + 1))) then (Int32.ofNat (ln (t + 1))) else (Int32.ofNat (ln (u + 1)))) = nI n := by
      rw [h1, h2]
      split <;> rfl
    rw [e, h1, h2, nI_clamp (by omega), show (0 : Int32).toNatClampNeg = 0 from rfl, chk_t, upA_ne _ _ hd]
    unfold cpok
    rw [nI_toInt (by omega), nI_clamp (by omega)]
    apply decide_eq_true
    refine ⟨⟨by decide, by decide, by omega⟩, ?_, ?_⟩ <;> (show (0 : Nat) + n ≤ n; omega)
  · rw [pk_cpy_in (Nat.zero_le _) (by omega)]
    congr 1
    omega
theorem shopcopy_eq {d s : Nat} (T : ShR s R σ) (G : Good R) (K : ShK d σ) (hds : d + 7 ≤ s ∨ s + 7 ≤ d) : ∃ τ, f_X8_copyFrom d s σ = some τ ∧ ShR d R τ ∧ ∀ a, (a < d + 1 ∨ d + 6 < a) → τ a = σ a := by
  obtain ⟨L, W, S, H, P⟩ := T
  obtain ⟨L2, k1, k2, k3⟩ := K
  obtain ⟨a1, c1, d1⟩ := tcopy_eq (t := d + 1) (u := s + 1) (n := 618) σ L2.1 L.1 (by decide) (by omega)
  obtain ⟨a2, c2, d2⟩ := tcopy_eq (t := d + 3) (u := s + 3) (n := 72) (up (upA σ (d + 1 + 1) a1) (d + 1) 2 (σ (s + 1) 2)) L2.2.1 L.2.1 (by decide) (by omega)
  obtain ⟨a3, c3, d3⟩ := tcopy_eq (t := d + 5) (u := s + 5) (n := 100) (up (upA (up (upA σ (d + 1 + 1) a1) (d + 1) 2 (σ (s + 1) 2)) (d + 3 + 1) a2) (d + 3) 2 (up (upA σ (d + 1 + 1) a1) (d + 1) 2 (σ (s + 1) 2) (s + 3) 2)) L2.2.2 L.2.2 (by decide) (by omega)
  refine ⟨_, by
    unfold f_X8_copyFrom f_X8_copyFrom_0
    rw [c1, bind_s, c2, bind_s, c3, bind_s], ?_, ?_⟩
  · have e1 : ∀ a j, (a < d + 1 ∨ d + 6 < a) → (up (upA σ (d + 1 + 1) a1) (d + 1) 2 (σ (s + 1) 2)) a j = σ a j := fun a j h => by rw [up_k _ _ _ (by omega), upA_ne _ _ (by omega)]
    have e2 : ∀ a j, (a < d + 1 ∨ d + 6 < a) → (up (upA (up (upA σ (d + 1 + 1) a1) (d + 1) 2 (σ (s + 1) 2)) (d + 3 + 1) a2) (d + 3) 2 (up (upA σ (d + 1 + 1) a1) (d + 1) 2 (σ (s + 1) 2) (s + 3) 2)) a j = σ a j := fun a j h => by rw [up_k _ _ _ (by omega), upA_ne _ _ (by omega), e1 a j h]
    have e3 := e1 (s + 3) 2 (by omega)
    simp only [e3] at e2 d3 ⊢
    rw [e2 (s + 5) 2 (by omega)]
    generalize hτ : up (upA (up (upA (up (upA σ (d + 1 + 1) a1) (d + 1) 2 (σ (s + 1) 2)) (d + 3 + 1) a2) (d + 3) 2 (σ (s + 3) 2)) (d + 5 + 1) a3) (d + 5) 2 (σ (s + 5) 2) = τ
    have f1 : ∀ j, j < 618 → τ (d + 1 + 1) j = σ (s + 1 + 1) j := fun j hj => by
      rw [← hτ, up_k _ _ _ (by omega), upA_ne _ _ (by omega), up_k _ _ _ (by omega), upA_ne _ _ (by omega), up_k _ _ _ (by omega), upA_same, d1 j hj]
    have f2 : ∀ j, j < 72 → τ (d + 3 + 1) j = σ (s + 3 + 1) j := fun j hj => by
      rw [← hτ, up_k _ _ _ (by omega), upA_ne _ _ (by omega), up_k _ _ _ (by omega), upA_same, d2 j hj, e1 _ _ (by omega)]
    have f3 : ∀ j, j < 100 → τ (d + 5 + 1) j = σ (s + 5 + 1) j := fun j hj => by
      have q := e2 (s + 5 + 1) j (by omega)
      rw [← hτ, up_k _ _ _ (by omega), upA_same, d3 j hj, q]
    have g1 : τ (d + 1) 2 = σ (s + 1) 2 := by
      rw [← hτ, up_k _ _ _ (by omega), upA_ne _ _ (by omega), up_k _ _ _ (by omega), upA_ne _ _ (by omega), up_s]
    have g2 : τ (d + 3) 2 = σ (s + 3) 2 := by
      rw [← hτ, up_k _ _ _ (by omega), upA_ne _ _ (by omega), up_s]
    have g3 : τ (d + 5) 2 = σ (s + 5) 2 := by
      rw [← hτ, up_s]
    have h1 : τ (d + 1) 0 = nI 103 := by
      rw [← hτ, up_k _ _ _ (by omega), upA_ne _ _ (by omega), up_k _ _ _ (by omega), upA_ne _ _ (by omega), up_j _ _ _ (by omega), upA_ne _ _ (by omega), k1]
    have h2 : τ (d + 3) 0 = nI 9 := by
      rw [← hτ, up_k _ _ _ (by omega), upA_ne _ _ (by omega), up_j _ _ _ (by omega), upA_ne _ _ (by omega), up_k _ _ _ (by omega), upA_ne _ _ (by omega), k2]
    have h3 : τ (d + 5) 0 = nI 5 := by
      rw [← hτ, up_j _ _ _ (by omega), upA_ne _ _ (by omega), up_k _ _ _ (by omega), upA_ne _ _ (by omega), up_k _ _ _ (by omega), upA_ne _ _ (by omega), k3]
    refine ⟨L2, ⟨h1, g1.trans W.2.1, h2, g2.trans W.2.2.2.1, h3, g3.trans W.2.2.2.2.2⟩, fun s' hs => ?_, fun h hh => ?_, fun p hp => ?_⟩
    · obtain ⟨x0, x1, x2, x3, x4, x5, x6, x7⟩ := GS G hs
      obtain ⟨y0, y1, y2, y3⟩ := S s' hs
      exact ⟨(f1 _ (by omega)).trans y0, (f1 _ (by omega)).trans y1, (f1 _ (by omega)).trans y2, fun c hc => (f1 _ (by omega)).trans (y3 c hc)⟩
    · have x := GH G hh
      obtain ⟨y0, y1, y2, y3, y4, y5⟩ := H h hh
      exact ⟨(f2 _ (by omega)).trans y0, (f2 _ (by omega)).trans y1, (f2 _ (by omega)).trans y2, (f2 _ (by omega)).trans y3, (f2 _ (by omega)).trans y4, fun t ht => (f2 _ (by omega)).trans (y5 t ht)⟩
    · have x := GP G hp
      obtain ⟨y0, y1, y2, y3, y4⟩ := P p hp
      exact ⟨(f3 _ (by omega)).trans y0, (f3 _ (by omega)).trans y1, (f3 _ (by omega)).trans y2, (f3 _ (by omega)).trans y3, (f3 _ (by omega)).trans y4⟩
  · intro a h
    rw [up_k _ _ _ (by omega), upA_ne _ _ (by omega), up_k _ _ _ (by omega), upA_ne _ _ (by omega), up_k _ _ _ (by omega), upA_ne _ _ (by omega)]
theorem ShK_c {τ : St} (h : ∀ a, k + 1 ≤ a → a ≤ k + 6 → τ a = σ a) (T : ShK k σ) : ShK k τ := by
  have h1 := h (k + 1) (by omega) (by omega)
  have h3 := h (k + 3) (by omega) (by omega)
  have h5 := h (k + 5) (by omega) (by omega)
  unfold ShK at *
  rw [h1, h3, h5]
  exact T
/-- the ring: what it holds of the latest rows, the newest first -/
def Ring (nx sz : Nat) (H : Nat → Nat → Nat) (σ : St) : Prop := nx < 8 ∧ sz ≤ 8 ∧ σ 78 1 = nI nx ∧ σ 78 2 = nI sz ∧ (∀ j, j < 8 → ShK (22 + 7 * j) σ) ∧ ∀ i, i < sz → ShR (22 + 7 * ((nx + 7 - i) % 8)) (H i) σ ∧ Good (H i)
def pushH (R : Nat → Nat) (H : Nat → Nat → Nat) : Nat → Nat → Nat := fun i => if i = 0 then R else H (i - 1)
theorem kd9_ring : ∀ j : Fin 8, kd9 (22 + 7 * j.1) = true := by decide +kernel
theorem Ring_c {nx sz : Nat} {H : Nat → Nat → Nat} {τ : St} (h : ∀ a, 23 ≤ a → a ≤ 78 → τ a = σ a) (W : Ring nx sz H σ) : Ring nx sz H τ := by
  obtain ⟨a1, a2, a3, a4, a5, a6⟩ := W
  refine ⟨a1, a2, by rw [h 78 (by omega) (by omega)]; exact a3, by rw [h 78 (by omega) (by omega)]; exact a4, fun j hj => ShK_c (fun a h1 h2 => h a (by omega) (by omega)) (a5 j hj), fun i hi => ⟨ShR_c (fun a h1 h2 => h a (by omega) (by omega)) (a6 i hi).1, (a6 i hi).2⟩⟩
theorem push_eq {nx sz : Nat} {H : Nat → Nat → Nat} {s : Nat} (T : ShR s R σ) (G : Good R) (hs : s = 1 ∨ s = 8) (W : Ring nx sz H σ) : ∃ τ, f_X2_push s σ = some τ ∧ Ring ((nx + 1) % 8) (min (sz + 1) 8) (pushH R H) τ ∧ ∀ a, (a < 23 ∨ 78 < a) → τ a = σ a := by
  obtain ⟨a1, a2, a3, a4, a5, a6⟩ := W
  obtain ⟨τ, b1, b2, b3⟩ := shopcopy_eq (d := 22 + 7 * nx) T G (a5 nx a1) (by omega)
  have h78 : τ 78 = σ 78 := b3 78 (by omega)
  have hk := kd9_ring ⟨nx, a1⟩
  simp only at hk
  have e1 : f_X2_shopAt (nI nx) σ = some (some (22 + 7 * nx)) := by
    unfold f_X2_shopAt f_X2_shopAt_0
    simp (disch := omega) only [bind_s, sum_l, sum_r, chkin, lit, nI_add, pk_mul, nI_clamp, nI_leI, nI_ltI, nI_eqI, nI_or, and1, shl1, shrx, nI_subx, pk_divx, pk_remx, nmod, nzx, if_tt, if_ff, bz_n1, bz_n0, nm1, nm2, wI_p, wI_inj, wI_n, nI_w, wI_ltI, wI_leI, nI_ltw, nI_lew, reduceIte, Nat.not_lt_zero]
  refine ⟨up (up τ 78 1 (nI ((nx + 1) % 8))) 78 2 (nI (min (sz + 1) 8)), ?_, ⟨Nat.mod_lt _ (by decide), by omega, ?_, by rw [up_s], fun j hj => ?_, fun i hi => ?_⟩, fun a ha => ?_⟩
  · unfold f_X2_push f_X2_push_0
    rw [a3, e1, bind_s]
    show chk (kd9 (22 + 7 * nx)) _ = _
    rw [chk_t hk, b1, bind_s, chk_t (by decide), h78, a3]
    have e2 : (up τ 78 1 (nI nx + 1 - (nI nx + 1) / 8 * 8)) 78 2 = nI sz := by rw [up_j _ _ _ (by decide), h78, a4]
    rw [e2]
    simp (disch := omega) only [bind_s, sum_l, sum_r, chkin, lit, nI_add, pk_mul, nI_clamp, nI_leI, nI_ltI, nI_eqI, nI_or, and1, shl1, shrx, nI_subx, pk_divx, pk_remx, nmod, nzx, if_tt, if_ff, bz_n1, bz_n0, nm1, nm2, wI_p, wI_inj, wI_n, nI_w, wI_ltI, wI_leI, nI_ltw, nI_lew, reduceIte]
    congr 2
    by_cases e : 8 < sz + 1
    · rw [if_pos e, show min (sz + 1) 8 = 8 by omega]
    · rw [if_neg e, show min (sz + 1) 8 = sz + 1 by omega]
  · rw [up_j _ _ _ (by decide), up_s]
  · refine ShK_c (σ := τ) (fun a h1 h2 => by rw [up_k _ _ _ (by omega), up_k _ _ _ (by omega)]) ?_
    by_cases e : j = nx
    · subst e
      exact ShK_of b2
    · exact ShK_c (fun a h1 h2 => b3 a (by omega)) (a5 j hj)
  · unfold pushH
    by_cases e : i = 0
    · subst e
      rw [if_pos rfl]
      have e3 : ((nx + 1) % 8 + 7 - 0) % 8 = nx := by omega
      rw [e3]
      exact ⟨ShR_c (fun a h1 h2 => by rw [up_k _ _ _ (by omega), up_k _ _ _ (by omega)]) b2, G⟩
    · rw [if_neg e]
      have e3 : ((nx + 1) % 8 + 7 - i) % 8 = (nx + 7 - (i - 1)) % 8 := by omega
      have e4 : (nx + 7 - (i - 1)) % 8 ≠ nx := by omega
      rw [e3]
      have := a6 (i - 1) (by omega)
      refine ⟨ShR_c (σ := τ) (fun a h1 h2 => by rw [up_k _ _ _ (by omega), up_k _ _ _ (by omega)]) (ShR_c (fun a h1 h2 => b3 a ?_) this.1), this.2⟩
      generalize (nx + 7 - (i - 1)) % 8 = q at *
      omega
  · rw [up_k _ _ _ (by omega), up_k _ _ _ (by omega)]
    exact b3 a (by omega)
theorem pop_eq {nx sz : Nat} {H : Nat → Nat → Nat} (K : ShK 1 σ) (W : Ring nx (sz + 1) H σ) : ∃ τ, f_X2_pop 1 σ = some τ ∧ ShR 1 (H 0) τ ∧ Ring ((nx + 7) % 8) sz (fun i => H (i + 1)) τ ∧ ∀ a, (a < 2 ∨ (7 < a ∧ a ≠ 78)) → τ a = σ a := by
  obtain ⟨a1, a2, a3, a4, a5, a6⟩ := W
  have h0 := a6 0 (by omega)
  rw [Nat.sub_zero] at h0
  have hq : (nx + 7) % 8 < 8 := Nat.mod_lt _ (by decide)
  generalize hqq : (nx + 7) % 8 = q at *
  obtain ⟨τ, b1, b2, b3⟩ := shopcopy_eq (d := 1) h0.1 h0.2 K (by omega)
  have h78 : τ 78 = σ 78 := b3 78 (by omega)
  have hk := kd9_ring ⟨q, hq⟩
  simp only at hk
  have e1 : f_X2_shopAt (nI q) σ = some (some (22 + 7 * q)) := by
    unfold f_X2_shopAt f_X2_shopAt_0
    simp (disch := omega) only [bind_s, sum_l, sum_r, chkin, lit, nI_add, pk_mul, nI_clamp, nI_leI, nI_ltI, nI_eqI, nI_or, and1, shl1, shrx, nI_subx, pk_divx, pk_remx, nmod, nzx, if_tt, if_ff, bz_n1, bz_n0, nm1, nm2, wI_p, wI_inj, wI_n, nI_w, wI_ltI, wI_leI, nI_ltw, nI_lew, reduceIte, Nat.not_lt_zero]
  have e5 : nI nx + 8 - 1 - (nI nx + 8 - 1) / 8 * 8 = nI q := by
    simp (disch := omega) only [bind_s, sum_l, sum_r, chkin, lit, nI_add, pk_mul, nI_clamp, nI_leI, nI_ltI, nI_eqI, nI_or, and1, shl1, shrx, nI_subx, pk_divx, pk_remx, nmod, nzx, if_tt, if_ff, bz_n1, bz_n0, nm1, nm2, wI_p, wI_inj, wI_n, nI_w, wI_ltI, wI_leI, nI_ltw, nI_lew, reduceIte]
    rw [← hqq]
    congr 1
  refine ⟨up (up τ 78 1 (nI q)) 78 2 (nI sz), ?_, ?_, ⟨hq, by omega, ?_, by rw [up_s], fun j hj => ?_, fun i hi => ?_⟩, fun a ha => ?_⟩
  · unfold f_X2_pop f_X2_pop_0
    rw [chk_t (by decide), a3, e5, e1, bind_s]
    show chk (kd9 (22 + 7 * q)) _ = _
    rw [chk_t hk, a4, if_pos (show (1 : Int32) ≤ nI (sz + 1) from nI_le (a := 1) (by omega) (by omega)), b1, bind_s]
    have e2 : (up τ 78 1 (nI q)) 78 2 = nI (sz + 1) := by rw [up_j _ _ _ (by decide), h78, a4]
    rw [e2, nI_pred]
  · exact ShR_c (fun a h1 h2 => by rw [up_k _ _ _ (by omega), up_k _ _ _ (by omega)]) b2
  · rw [up_j _ _ _ (by decide), up_s]
  · exact ShK_c (fun a h1 h2 => by rw [up_k _ _ _ (by omega), up_k _ _ _ (by omega)]; exact b3 a (by omega)) (a5 j hj)
  · have := a6 (i + 1) (by omega)
    have e3 : (q + 7 - i) % 8 = (nx + 7 - (i + 1)) % 8 := by omega
    rw [e3]
    exact ⟨ShR_c (fun a h1 h2 => by rw [up_k _ _ _ (by omega), up_k _ _ _ (by omega)]; exact b3 a (by omega)) this.1, this.2⟩
  · rw [up_k _ _ _ (by omega), up_k _ _ _ (by omega)]
    exact b3 a (by omega)
