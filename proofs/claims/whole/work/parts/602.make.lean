/-! PURE FACTS, 21: the class makes sheets and shapes, and spoils cells -/
variable {k : Nat} {R : Nat → Nat} {σ : St}
theorem sset_eq {s f : Nat} {τ : St} {v : Int32} (L : SL k) (hw : τ (k + 1) 0 = nI 103) (h : s * 103 + f < 618) : f_X9_set (k + 1) (nI s) (nI f) v τ = some (up τ (k + 1 + 1) (s * 103 + f) v) :=
  set_eq hw (by rw [L.1]; exact h) (by rw [L.1]; decide)
theorem hset_eq {s f : Nat} {τ : St} {v : Int32} (L : SL k) (hw : τ (k + 3) 0 = nI 9) (h : s * 9 + f < 72) : f_X9_set (k + 3) (nI s) (nI f) v τ = some (up τ (k + 3 + 1) (s * 9 + f) v) :=
  set_eq hw (by rw [L.2.1]; exact h) (by rw [L.2.1]; decide)
theorem pset_eq {s f : Nat} {τ : St} {v : Int32} (L : SL k) (hw : τ (k + 5) 0 = nI 5) (h : s * 5 + f < 100) : f_X9_set (k + 5) (nI s) (nI f) v τ = some (up τ (k + 5 + 1) (s * 5 + f) v) :=
  set_eq hw (by rw [L.2.2]; exact h) (by rw [L.2.2]; decide)
/-- a row's writes on one cell of the world: the cell's array changes alone -/
theorem upA_w (σ : St) (a j : Nat) (f : Nat → Int32) (v : Int32) : up (upA σ a f) a j v = upA σ a (upd f j v) := up_upA σ a j f v
theorem up_as (σ : St) (a j : Nat) (v : Int32) : up σ a j v = upA σ a (upd (σ a) j v) := rfl
theorem blk_v {D n j : Nat} {v : Int32} {g : Nat → Int32} : blk D n (fun _ => v) g j = if D ≤ j ∧ j < D + n then v else g j := rfl
theorem createSheet_eq (T : ShR k R σ) (G : Good R) (h0 : R 0 < 6) {c r g d : Nat} (hc : 2 ≤ c ∧ c ≤ 10) (hr : 2 ≤ r ∧ r ≤ 10) (hg : g ≤ 2) (hd : d ≤ 1) : ∃ τ, f_X8_createSheet k (nI c) (nI r) (nI g) (wI d) σ = some (nI (R 0), τ) ∧ ShR k (rSheet R c r g (fun _ => d)) τ ∧ ∀ a, a ≠ k + 1 → a ≠ k + 1 + 1 → τ a = σ a := by
  obtain ⟨L, W, S, H, P⟩ := T
  obtain ⟨w1, w2, w3, w4, w5, w6⟩ := W
  have hcr : c * r ≤ 100 := Nat.mul_le_mul hc.2 hr.2
  have a1 := append_eq (lim := 6) w1 w2 L.1 (by decide) h0 (by decide)
  generalize hσ1 : up σ (k + 1) 2 (nI (R 0 + 1)) = σ1 at a1
  have b1 : σ1 (k + 1) 0 = nI 103 := by rw [← hσ1, up_j _ _ _ (by decide), w1]
  have b2 : σ1 (k + 1 + 1) = σ (k + 1 + 1) := by rw [← hσ1, up_k _ _ _ (by omega)]
  have c1 : ∀ f, (upA σ1 (k + 1 + 1) f) (k + 1) 0 = nI 103 := fun f => by rw [upA_ne _ _ (by omega), b1]
  have h2 := copy_eq (f := f_X8_createSheet_l45 k (nI c) (nI r) (wI d) (nI (R 0))) (upA σ1 (k + 1 + 1) (upd (upd (upd (σ (k + 1 + 1)) (R 0 * 103 + 0) (nI c)) (R 0 * 103 + 1) (nI r)) (R 0 * 103 + 2) (nI g))) (k + 1 + 1) (R 0 * 103 + 3) (c * r) (fun _ => wI d) (by omega) (fun i hi τ e => by
    have e1 : τ (k + 1) 0 = nI 103 := by rw [e, upA_ne _ _ (by omega), c1]
    unfold f_X8_createSheet_l45 f_X8_setCell f_X8_setCell_0
    dsimp only
    simp (disch := omega) only [bind_s, sum_l, sum_r, chkin, lit, nI_add, pk_mul, nI_clamp, nI_leI, nI_ltI, nI_eqI, nI_or, and1, shl1, shrx, nI_subx, pk_divx, pk_remx, nmod, nzx, if_tt, if_ff, bz_n1, bz_n0, nm1, nm2, wI_p, wI_inj, wI_n, nI_w, wI_ltI, wI_leI, nI_ltw, nI_lew, reduceIte, sset_eq L e1, Nat.add_assoc]) (fun τ => by
    unfold f_X8_createSheet_l45
    dsimp only
    simp (disch := omega) only [bind_s, sum_l, sum_r, chkin, lit, nI_add, pk_mul, nI_clamp, nI_leI, nI_ltI, nI_eqI, nI_or, and1, shl1, shrx, nI_subx, pk_divx, pk_remx, nmod, nzx, if_tt, if_ff, bz_n1, bz_n0, nm1, nm2, wI_p, wI_inj, wI_n, nI_w, wI_ltI, wI_leI, nI_ltw, nI_lew, reduceIte])
  rw [upA_upA, upA_same] at h2
  rw [show (0 : Int32) = nI 0 from rfl] at h2
  generalize hf : blk (R 0 * 103 + 3) (c * r) (fun _ => wI d) (upd (upd (upd (σ (k + 1 + 1)) (R 0 * 103 + 0) (nI c)) (R 0 * 103 + 1) (nI r)) (R 0 * 103 + 2) (nI g)) = f at h2
  obtain ⟨n0, n1, n2, n3, n4, n5, n6, n7⟩ := rSheet_n (R := R) (c := c) (r := r) (g := g) (u := fun _ => d) h0
  have O := rSheet_on (c := c) (r := r) (g := g) (u := fun _ => d) G h0
  refine ⟨upA σ1 (k + 1 + 1) f, ?_, ⟨L, ⟨?_, ?_, ?_, ?_, ?_, ?_⟩, fun s hs => ?_, fun h hh => ?_, fun p hp => ?_⟩, fun a h1 h3 => ?_⟩
  · unfold f_X8_createSheet f_X8_createSheet_0
    simp (disch := omega) only [bind_s, sum_l, sum_r, chkin, lit, nI_add, pk_mul, nI_clamp, nI_leI, nI_ltI, nI_eqI, nI_or, and1, shl1, shrx, nI_subx, pk_divx, pk_remx, nmod, nzx, if_tt, if_ff, bz_n1, bz_n0, nm1, nm2, wI_p, wI_inj, wI_n, nI_w, wI_ltI, wI_leI, nI_ltw, nI_lew, reduceIte, a1, sset_eq L b1, sset_eq L (c1 _), up_as σ1, upA_w, b2, h2]
  · exact c1 f
  · rw [upA_ne _ _ (by omega), ← hσ1, up_s, n0]
  · rw [upA_ne _ _ (by omega), ← hσ1, up_k _ _ _ (by omega), w3]
  · rw [upA_ne _ _ (by omega), ← hσ1, up_k _ _ _ (by omega), w4, n1]
  · rw [upA_ne _ _ (by omega), ← hσ1, up_k _ _ _ (by omega), w5]
  · rw [upA_ne _ _ (by omega), ← hσ1, up_k _ _ _ (by omega), w6, n2]
  · unfold ShS
    rw [upA_same, ← hf]
    simp only [blk_v, upd]
    by_cases e : s = R 0
    · subst e
      rw [n3, n4, n5]
      refine ⟨?_, ?_, ?_, fun j hj => ?_⟩
      · rw [if_neg (by omega), if_neg (by omega), if_neg (by omega), if_pos rfl]
      · rw [if_neg (by omega), if_neg (by omega), if_pos rfl]
      · rw [if_neg (by omega), if_pos rfl]
      · rw [if_pos (by omega), O.2.2 j (by omega)]
    · have hs' : s < R 0 := by omega
      obtain ⟨m1, m2, m3, m4⟩ := rSheet_sc (R := R) (c := c) (r := r) (g := g) (u := fun _ => d) h0 hs'
      obtain ⟨x0, x1, x2, x3, x4, x5, x6, x7⟩ := GS G hs'
      obtain ⟨y0, y1, y2, y3⟩ := S s hs'
      rw [m1, m2, m3]
      refine ⟨?_, ?_, ?_, fun j hj => ?_⟩
      · rw [if_neg (by omega), if_neg (by omega), if_neg (by omega), if_neg (by omega), y0]
      · rw [if_neg (by omega), if_neg (by omega), if_neg (by omega), if_neg (by omega), y1]
      · rw [if_neg (by omega), if_neg (by omega), if_neg (by omega), if_neg (by omega), y2]
      · rw [if_neg (by omega), if_neg (by omega), if_neg (by omega), if_neg (by omega), y3 j hj, O.2.1 s j hs' (by omega)]
  · have hh' : h < R 1 := by omega
    have := H h hh'
    unfold ShH at *
    rw [upA_ne _ _ (by omega), ← hσ1, up_k _ _ _ (by omega), n7 _ (by omega), n7 _ (by omega), n7 _ (by omega), n7 _ (by omega), n7 _ (by omega)]
    refine ⟨this.1, this.2.1, this.2.2.1, this.2.2.2.1, this.2.2.2.2.1, fun t ht => ?_⟩
    rw [(tm_c (R := R) (n7 _ (by omega)) (n7 _ (by omega)) (n7 _ (by omega)) t).2.2]
    exact this.2.2.2.2.2 t ht
  · have := P p (by omega)
    unfold ShP at *
    rw [upA_ne _ _ (by omega), ← hσ1, up_k _ _ _ (by omega), n7 _ (by omega), n7 _ (by omega), n7 _ (by omega), n7 _ (by omega), n7 _ (by omega)]
    exact this
  · rw [upA_ne _ _ h3, ← hσ1, up_k _ _ _ h1]
/-- one cell of a sheet is written: the row's usable cells change there -/
theorem setCell_eq (T : ShR k R σ) (G : Good R) {s c d : Nat} (hs : s < R 0) (hc : c < sc R s * sr R s) {v : Int32} : f_X8_setCell k (nI s) (nI c) v σ = some (up σ (k + 1 + 1) (s * 103 + (3 + c)) v) := by
  have := GS G hs
  unfold f_X8_setCell f_X8_setCell_0
  simp (disch := omega) only [bind_s, sum_l, sum_r, chkin, lit, nI_add, pk_mul, nI_clamp, nI_leI, nI_ltI, nI_eqI, nI_or, and1, shl1, shrx, nI_subx, pk_divx, pk_remx, nmod, nzx, if_tt, if_ff, bz_n1, bz_n0, nm1, nm2, wI_p, wI_inj, wI_n, nI_w, wI_ltI, wI_leI, nI_ltw, nI_lew, reduceIte, sset_eq T.1 T.2.1.1]
/-- a shop whose sheets' cells alone differ -/
theorem ShR_cells {R' : Nat → Nat} {f : Nat → Int32} (T : ShR k R σ) (G : Good R) (hlo : ∀ i, i < 21 → R' i = R i) (hhi : ∀ i, 621 ≤ i → R' i = R i) (hf : ∀ s, s < R 0 → f (s * 103 + 0) = σ (k + 1 + 1) (s * 103 + 0) ∧ f (s * 103 + 1) = σ (k + 1 + 1) (s * 103 + 1) ∧ f (s * 103 + 2) = σ (k + 1 + 1) (s * 103 + 2) ∧ ∀ c, c < sc R s * sr R s → f (s * 103 + (3 + c)) = wI (on R' s c)) : ShR k R' (upA σ (k + 1 + 1) f) := by
  obtain ⟨L, ⟨w1, w2, w3, w4, w5, w6⟩, S, H, P⟩ := T
  have g0 := G.1
  have m0 := hlo 0 (by omega)
  have m1 := hlo 1 (by omega)
  have m2 := hlo 2 (by omega)
  refine ⟨L, ⟨?_, ?_, ?_, ?_, ?_, ?_⟩, fun s hs => ?_, fun h hh => ?_, fun p hp => ?_⟩
  · rw [upA_ne _ _ (by omega), w1]
  · rw [upA_ne _ _ (by omega), w2, m0]
  · rw [upA_ne _ _ (by omega), w3]
  · rw [upA_ne _ _ (by omega), w4, m1]
  · rw [upA_ne _ _ (by omega), w5]
  · rw [upA_ne _ _ (by omega), w6, m2]
  · have hs' : s < R 0 := by omega
    obtain ⟨f0, f1, f2, f3⟩ := hf s hs'
    obtain ⟨y0, y1, y2, y3⟩ := S s hs'
    have e1 : sc R' s = sc R s := hlo _ (by omega)
    have e2 : sr R' s = sr R s := hlo _ (by omega)
    unfold ShS
    rw [upA_same, e1, e2, hlo _ (by omega), f0, f1, f2, y0, y1, y2]
    exact ⟨rfl, rfl, rfl, f3⟩
  · have := H h (by omega)
    unfold ShH at *
    rw [upA_ne _ _ (by omega), hhi _ (by omega), hhi _ (by omega), hhi _ (by omega), hhi _ (by omega), hhi _ (by omega)]
    refine ⟨this.1, this.2.1, this.2.2.1, this.2.2.2.1, this.2.2.2.2.1, fun t ht => ?_⟩
    rw [(tm_c (R := R) (hhi _ (by omega)) (hhi _ (by omega)) (hhi _ (by omega)) t).2.2]
    exact this.2.2.2.2.2 t ht
  · have := P p (by omega)
    unfold ShP at *
    rw [upA_ne _ _ (by omega), hhi _ (by omega), hhi _ (by omega), hhi _ (by omega), hhi _ (by omega), hhi _ (by omega)]
    exact this
def spo (R : Nat → Nat) (s c : Nat) : Nat → Nat := rUse R s (fun j => if j = c then 0 else us R s j)
theorem spo_G (G : Good R) {s c : Nat} (hs : s < R 0) (hc : c < sc R s * sr R s) (h1 : on R s c = 1) : Good (spo R s c) := by
  have h2 := on1 G hs hc h1
  refine rUse_G G hs (fun j hj => ?_) (fun p j hp hh => ?_)
  · have := (GS G hs).2.2.2.2.2.2.2 j hj
    split <;> omega
  · split
    · rename_i e
      subst e
      rw [(ck_1 G).mp h2.2 p hp] at hh
      cases hh
    · exact (hit_cell G hp hh).2.1
theorem spoC_eq (T : ShR k R σ) (G : Good R) {s c : Nat} (hs : s < R 0) (hc : c < sc R s * sr R s) (h1 : on R s c = 1) : f_X8_setCell k (nI s) (nI c) (wI 0) σ = some (up σ (k + 1 + 1) (s * 103 + (3 + c)) (wI 0)) ∧ ShR k (spo R s c) (up σ (k + 1 + 1) (s * 103 + (3 + c)) (wI 0)) := by
  have g0 := G.1
  have hS := GS G hs
  have h2 := on1 G hs hc h1
  refine ⟨setCell_eq (d := 0) T G hs hc, ?_⟩
  obtain ⟨n1, n2, n3, n4⟩ := rUse_n (R := R) (s := s) (u := fun j => if j = c then 0 else us R s j) (by omega)
  obtain ⟨o1, o2, o3⟩ := rUse_on (u := fun j => if j = c then 0 else us R s j) G hs
  refine ShR_cells T G n1 n2 (fun s' hs' => ?_)
  have hS' := GS G hs'
  obtain ⟨y0, y1, y2, y3⟩ := T.2.2.1 s' hs'
  simp only [upd]
  refine ⟨by rw [if_neg (by omega)], by rw [if_neg (by omega)], by rw [if_neg (by omega)], fun j hj => ?_⟩
  by_cases e : s' = s
  · subst e
    show _ = wI (on (rUse R s' _) s' j)
    rw [o2 j (by omega)]
    by_cases e2 : j = c
    · subst e2
      rw [if_pos rfl, if_pos h2.2]
      simp
    · rw [if_neg (by omega), y3 j hj]
      simp only [if_neg e2]
      rfl
  · show _ = wI (on (rUse R s _) s' j)
    rw [o3 s' j e hs' (by omega), if_neg (by omega), y3 j hj]
