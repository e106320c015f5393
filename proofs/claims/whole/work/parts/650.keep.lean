/-! PURE FACTS, 57: a remnant becomes a sheet, the class's -/
variable {R : Nat → Nat} {σ τ τ2 : St}
theorem cellw {s c : Nat} {v : Int32} (L : SL 1) (h : τ 2 0 = nI 103) (hs : s < 6) (hc : c < 100) : f_X8_setCell 1 (nI s) (nI c) v τ = some (up τ 3 (s * 103 + 3 + c) v) := by
  unfold f_X8_setCell f_X8_setCell_0
  simp (disch := omega) only [bind_s, sum_l, sum_r, chkin, lit, nI_add, pk_mul, nI_clamp, nI_leI, nI_ltI, nI_eqI, nI_or, and1, shl1, shrx, nI_subx, pk_divx, pk_remx, nmod, nzx, if_tt, if_ff, bz_n1, bz_n0, nm1, nm2, wI_p, wI_inj, wI_n, nI_w, wI_ltI, wI_leI, nI_ltw, nI_lew, reduceIte, sset_eq L h, Nat.add_assoc]
def two (n : Nat) : Nat := if 2 < n then n else 2
theorem two_b {n : Nat} (h : n ≤ 10) : 2 ≤ two n ∧ two n ≤ 10 ∧ n ≤ two n := by
  unfold two
  split <;> omega
/-- a cell's place in the new sheet -/
def kx (w L T q : Nat) (c : Nat) : Nat := (c % w - L) + q * (c / w - T)
theorem kx_lt {w L Q T B c : Nat} (h1 : Q < 10) (h2 : B < 10) (h3 : c % w ≤ Q) (h4 : c / w ≤ B) (h5 : L ≤ c % w) (h6 : T ≤ c / w) : kx w L T (two (Q - L + 1)) c < two (Q - L + 1) * two (B - T + 1) ∧ kx w L T (two (Q - L + 1)) c < 100 := by
  have a := two_b (n := Q - L + 1) (by omega)
  have b := two_b (n := B - T + 1) (by omega)
  have e : kx w L T (two (Q - L + 1)) c < two (Q - L + 1) * two (B - T + 1) := by
    unfold kx
    have := xy_lt (w := two (Q - L + 1)) (h := two (B - T + 1)) (x := c % w - L) (y := c / w - T) (by omega) (by omega)
    omega
  have := Nat.mul_le_mul a.2.1 b.2.1
  exact ⟨e, by omega⟩
section
variable {s g lo L Q T B : Nat} {f : Nat → Nat}
/-- the remnant's cells -/
def kP (n g : Nat) (f : Nat → Nat) (c : Nat) : Bool := decide (c < n ∧ f c = g + 2)
theorem split_eq (TT : ShR 1 R τ) (G : Good R) (h0 : R 0 < 6) (hs : s < R 0) (hg : g < 500) (m1 : f_X4_measure (nI g) τ = some τ2) (m2 : ∀ a, a ≠ 89 → τ2 a = τ a) (G2 : Rg (sc R s) (sr R s) f τ2) (hf : ∀ c, c < sc R s * sr R s → f c < 1000) (hon : ∀ c, c < sc R s * sr R s → f c = g + 2 → on R s c = 1) (ib : IsB (fun c => decide (f c = g + 2)) (sc R s) (sc R s * sr R s) lo L Q T B) (hLQ : L ≤ Q ∧ T ≤ B) (hQw : Q < sc R s ∧ B < sr R s) (y7 : τ2 89 7 = nI L) (y8 : τ2 89 8 = nI Q) (y9 : τ2 89 9 = nI T) (y10 : τ2 89 10 = nI B) : ∃ τ4, f_X4_splitOff 1 (nI s) (nI g) τ = some (nI (R 0), τ4) ∧ ShR 1 (kp R (two (Q - L + 1)) (two (B - T + 1)) (R (15 + s)) s (kP (sc R s * sr R s) g f) (kx (sc R s) L T (two (Q - L + 1))) (sc R s * sr R s)) τ4 ∧ ∀ a, a ≠ 2 → a ≠ 3 → τ4 a = τ2 a := by
  obtain ⟨z0, z1, z2, z3, z4, z5, hn, _⟩ := GS G hs
  have ca := two_b (n := Q - L + 1) (by omega)
  have cb := two_b (n := B - T + 1) (by omega)
  generalize hcols : two (Q - L + 1) = cols at *
  generalize hrows : two (B - T + 1) = rows at *
  have T2 : ShR 1 R τ2 := ShR_c (fun a _ _ => m2 a (by omega)) TT
  obtain ⟨τ3, e1, e2, e3⟩ := createSheet_eq (d := 0) T2 G h0 ⟨ca.1, ca.2.1⟩ ⟨cb.1, cb.2.1⟩ z5 (by omega)
  have G3 : Rg (sc R s) (sr R s) f τ3 := ⟨by rw [e3 89 (by decide) (by decide)]; exact G2.1, by rw [e3 89 (by decide) (by decide)]; exact G2.2.1, fun c hc => by rw [e3 90 (by decide) (by decide)]; exact G2.2.2 c hc⟩
  have q7 : τ3 89 7 = nI L := by rw [e3 89 (by decide) (by decide), y7]
  have q8 : τ3 89 8 = nI Q := by rw [e3 89 (by decide) (by decide), y8]
  have q9 : τ3 89 9 = nI T := by rw [e3 89 (by decide) (by decide), y9]
  have q10 : τ3 89 10 = nI B := by rw [e3 89 (by decide) (by decide), y10]
  generalize hP : kP (sc R s * sr R s) g f = P
  have hPc : ∀ c, P c = true ↔ c < sc R s * sr R s ∧ f c = g + 2 := fun c => by rw [← hP]; exact decide_eq_true_iff
  have hbox : ∀ c, P c = true → L ≤ c % sc R s ∧ c % sc R s ≤ Q ∧ T ≤ c / sc R s ∧ c / sc R s ≤ B := fun c h => by
    obtain ⟨h1, h2⟩ := (hPc c).mp h
    have := ib.1 c h1 (decide_eq_true h2)
    exact ⟨this.1, this.2.1, this.2.2.1, this.2.2.2.1⟩
  have hx : ∀ c, P c = true → kx (sc R s) L T cols c < 100 := fun c h => by
    obtain ⟨b1, b2, b3, b4⟩ := hbox c h
    have := (kx_lt (w := sc R s) (c := c) (L := L) (T := T) (show Q < 10 by omega) (show B < 10 by omega) b2 b4 b1 b3).2
    rw [hcols] at this
    exact this
  have fin := ShR_k (n := sc R s * sr R s) e2 G h0 hs ⟨ca.1, ca.2.1⟩ ⟨cb.1, cb.2.1⟩ z5 (fun j h => ⟨((hPc j).mp h).1, hon j ((hPc j).mp h).1 ((hPc j).mp h).2⟩) hx
  generalize hF : kf P (kx (sc R s) L T cols) (R 0 * 103 + 3) (s * 103 + 3) (τ3 (1 + 1 + 1)) = F at *
  have F0 : F 0 = τ3 3 := by rw [← hF]; rfl
  have Fc' : ∀ i j, i ≤ j → (∀ c, i ≤ c → c < j → ¬ P c = true) → F j = F i := fun i j h1 h2 => by rw [← hF]; exact kf_c h1 h2
  have Fs : ∀ i, P i = true → F (i + 1) = upd (upd (F i) (R 0 * 103 + 3 + kx (sc R s) L T cols i) (wI 1)) (s * 103 + 3 + i) (wI 0) := fun i h => by rw [← hF]; rw [kf, if_pos h]
  have w20 : τ3 2 0 = nI 103 := e2.2.1.1
  have row : ∀ c y, c % sc R s < sc R s → c < sc R s * (y + 1) → sc R s * y ≤ c → c / sc R s = y := fun c y _ h1 h2 => by
    have : c < (y + 1) * sc R s := by rw [Nat.mul_comm]; exact h1
    have a1 := (Nat.div_lt_iff_lt_mul (show 0 < sc R s by omega)).mpr this
    have a2 := (Nat.le_div_iff_mul_le (show 0 < sc R s by omega)).mpr (show y * sc R s ≤ c by rw [Nat.mul_comm]; exact h2)
    omega
  obtain ⟨v, l1, l2⟩ := lp_from (f := f_X4_splitOff_l52 1 (nI s) (nI g) (nI cols) (nI (R 0))) (fun y z => z = (nI y, upA τ3 3 (F (sc R s * y)))) (fun v => v = upA τ3 3 (F (sc R s * sr R s))) T (B + 1) (by omega) (by omega) (nI T, τ3) (by
    rw [Fc' 0 (sc R s * T) (Nat.zero_le _) (fun c _ h2 hp => by
      have := hbox c hp
      have h3 := Nat.div_lt_of_lt_mul h2
      omega), F0]
    exact congrArg (fun q => (nI T, q)) (by funext a; by_cases e : a = 3; · subst e; rw [upA_same]
                                            · rw [upA_ne _ _ e])) (by
    rintro y z j1 j2 rfl
    left
    obtain ⟨v, p1, p2⟩ := lp_from (f := f_X4_splitOff_l67 1 (nI s) (nI g) (nI cols) (nI (R 0)) (nI y)) (fun x z => z = (nI x, upA τ3 3 (F (sc R s * y + x)))) (fun v => v = upA τ3 3 (F (sc R s * y + (Q + 1)))) L (Q + 1) (by omega) (by omega) (nI L, upA τ3 3 (F (sc R s * y))) (by
      rw [Fc' (sc R s * y) (sc R s * y + L) (by omega) (fun c h1 h2 hp => by
        have := hbox c hp
        have h4 : c % sc R s = c - sc R s * y := by
          rw [show c = sc R s * y + (c - sc R s * y) by omega, lin_mod (by omega)]; omega
        omega)]) (by
      rintro x z i1 i2 rfl
      left
      have hlt : sc R s * y + x < sc R s * sr R s := xy_lt (by omega) (by omega)
      have G4 : Rg (sc R s) (sr R s) f (upA τ3 3 (F (sc R s * y + x))) := ⟨by rw [upA_ne _ _ (by decide)]; exact G3.1, by rw [upA_ne _ _ (by decide)]; exact G3.2.1, fun c hc => by rw [upA_ne _ _ (by decide)]; exact G3.2.2 c hc⟩
      have hl := label_in G4 hn hlt
      have hfc := hf _ hlt
      rw [Nat.add_comm (sc R s * y)] at hl
      have a7 : (upA τ3 3 (F (sc R s * y + x))) 89 = τ3 89 := upA_ne _ _ (by decide)
      refine ⟨_, ?_, rfl⟩
      unfold f_X4_splitOff_l67 f_X4_splitOff_j132
      dsimp only
      by_cases c : f (sc R s * y + x) = g + 2
      · have hp : P (sc R s * y + x) = true := (hPc _).mpr ⟨hlt, c⟩
        have hk := hx _ hp
        have hk2 : kx (sc R s) L T cols (sc R s * y + x) = (x - L) + cols * (y - T) := by
          unfold kx
          rw [lin_mod (show x < sc R s by omega), lin_div (show x < sc R s by omega)]
        rw [show sc R s * y + (x + 1) = sc R s * y + x + 1 from rfl, Fs _ hp]
        rw [hk2] at hk ⊢
        have c1 := cellw (τ := upA τ3 3 (F (sc R s * y + x))) (s := R 0) (c := (x - L) + cols * (y - T)) (v := wI 1) e2.1 (by rw [upA_ne _ _ (by decide), w20]) h0 hk
        have c2 := cellw (τ := up (upA τ3 3 (F (sc R s * y + x))) 3 (R 0 * 103 + 3 + ((x - L) + cols * (y - T))) (wI 1)) (s := s) (c := sc R s * y + x) (v := wI 0) e2.1 (by rw [up_k _ _ _ (by decide), upA_ne _ _ (by decide), w20]) z0 (by omega)
        rw [upA_w] at c1 c2
        rw [upA_w] at c2
        rw [Nat.add_comm (sc R s * y)] at c hfc c2
        rw [Nat.add_comm (sc R s * y) x]
        have v1 : (nI x - nI L) + nI cols * (nI y - nI T) = nI ((x - L) + cols * (y - T)) := by rw [nI_subx (by omega), nI_subx (by omega), pk_mul, nI_add]
        rw [Nat.add_comm (sc R s * y)] at c1 a7
        have nn : ¬ (upA τ3 3 (F (x + sc R s * y))) 89 8 < nI x := by rw [a7, q8]; exact nI_nlt (by omega) (by omega)
        rw [if_neg nn, a7, G3.1, pk_mul, nI_add, hl, bind_s, c, wI_p, if_pos rfl, q7, q9, v1, show (-1 : Int32) = wI 1 from rfl, show (-2 : Int32) = wI 0 from rfl, c1, bind_s, c2, bind_s, nI_1]
      · have hp : ¬ P (sc R s * y + x) = true := fun h => c ((hPc _).mp h).2
        have e4 : F (sc R s * y + (x + 1)) = F (sc R s * y + x) := Fc' _ _ (by omega) (fun c' h1 h2 => by rw [show c' = sc R s * y + x by omega]; exact hp)
        rw [e4]
        have c' : ¬ wI (f (sc R s * y + x)) = nI g := fun h => c (by
          have := cast (wI_inj (a := f (sc R s * y + x)) (b := g + 2) (by omega) (by omega)) (h.trans (wI_p g).symm)
          exact this)
        rw [Nat.add_comm (sc R s * y)] at c' hfc
        rw [Nat.add_comm (sc R s * y)] at a7 ⊢
        have nn : ¬ (upA τ3 3 (F (x + sc R s * y))) 89 8 < nI x := by rw [a7, q8]; exact nI_nlt (by omega) (by omega)
        rw [if_neg nn, a7, G3.1, pk_mul, nI_add, hl, bind_s, if_neg c', nI_1]) (by
      rintro z rfl
      refine ⟨_, ?_, rfl⟩
      unfold f_X4_splitOff_l67
      dsimp only
      exact if_pos (by rw [upA_ne _ _ (show (89 : Nat) ≠ 3 by decide), q8]; exact nI_lt (by omega) (by omega)))
    refine ⟨(nI (y + 1), upA τ3 3 (F (sc R s * (y + 1)))), ?_, rfl⟩
    have e5 : F (sc R s * (y + 1)) = F (sc R s * y + (Q + 1)) := Fc' _ _ (by rw [Nat.mul_succ]; omega) (fun c h1 h2 hp => by
      have := hbox c hp
      have h4 : c % sc R s = c - sc R s * y := by
        rw [Nat.mul_succ] at h2
        rw [show c = sc R s * y + (c - sc R s * y) by omega, lin_mod (by omega)]; omega
      omega)
    rw [e5]
    unfold f_X4_splitOff_l52
    dsimp only
    have nn : ¬ (upA τ3 3 (F (sc R s * y))) 89 10 < nI y := by rw [upA_ne _ _ (show (89 : Nat) ≠ 3 by decide), q10]; exact nI_nlt (by omega) (by omega)
    rw [if_neg nn, upA_ne _ _ (show (89 : Nat) ≠ 3 by decide), q7, p1, bind_s, p2, nI_1]) (by
    rintro z rfl
    refine ⟨_, ?_, rfl⟩
    have e6 : F (sc R s * sr R s) = F (sc R s * (B + 1)) := Fc' _ _ (Nat.mul_le_mul_left _ (by omega)) (fun c h1 h2 hp => by
      have := hbox c hp
      have := (Nat.le_div_iff_mul_le (show 0 < sc R s by omega)).mpr (show (B + 1) * sc R s ≤ c by rw [Nat.mul_comm]; exact h1)
      omega)
    rw [e6]
    unfold f_X4_splitOff_l52
    dsimp only
    exact if_pos (by rw [upA_ne _ _ (show (89 : Nat) ≠ 3 by decide), q10]; exact nI_lt (by omega) (by omega)))
  refine ⟨_, ?_, fin, fun a h1 h2 => by rw [upA_ne _ _ h2, e3 a h1 h2]⟩
  have v2 : ∀ n, n < 100 → (if (2 : Int32) < nI n then nI n else 2) = nI (two n) := fun n hn => by
    unfold two
    by_cases q : 2 < n
    · rw [if_pos q, if_pos (show (2 : Int32) < nI n from nI_lt (a := 2) q (by omega))]
    · rw [if_neg q, if_neg (show ¬ (2 : Int32) < nI n from (show ¬ nI 2 < nI n from nI_nlt (by omega) (by omega)))]; rfl
  have hgr : f_X9_get 2 (nI s) 2 τ2 = some (nI (R (15 + s))) := by
    have := get_eq (t := 2) (row := s) (fld := 2) T2.2.1.1 (by have : ln 3 = 618 := T2.1.1; rw [this]; omega) (by have : ln 3 = 618 := T2.1.1; rw [this]; decide)
    rw [show (2 : Int32) = nI 2 from rfl, this]
    exact congrArg some (T2.2.2.1 s hs).2.2.1
  unfold f_X4_splitOff f_X4_splitOff_0 f_X4_columnsMeasured f_X4_columnsMeasured_0 f_X4_rowsMeasured f_X4_rowsMeasured_0
  rw [m1, bind_s, y7, y8, y9, y10, nI_subx hLQ.1, nI_subx hLQ.2, show (1 : Int32) = nI 1 from rfl, nI_add, nI_add, bind_s, bind_s, hgr, bind_s, v2 _ (by omega), v2 _ (by omega), hcols, hrows, show (-2 : Int32) = wI 0 from rfl, e1, bind_s]
  dsimp only
  rw [q9, l1, bind_s, l2]
end
