/-! PURE FACTS, 63: the call usedShare -/
variable {R : Nat → Nat} {σ τ : St}
/-- as Step, for a number with a point -/
def StepS (f g : St → Option (Int32 × St)) (σ : St) : Prop := ∃ c τ v τ', f σ = some (c, τ) ∧ g τ = some (v, τ') ∧ τ' 101 0 = c ∧ (c = 0 → τ' 123 0 = v ∧ nf64 (FP.f2d v.toUInt32) = true ∧ (Op.cmpValue (FP.dcmp (FP.f2d v.toUInt32) (FP.f2d v.toUInt32)) CmpOp.l) = 0) ∧ Inv τ'
theorem Inv_123 (I : Inv σ) (j : Nat) (v : Int32) : Inv (up σ 123 j v) := by
  obtain ⟨R, n, H, hv, V, len, tx, nr, rk, rp, nf, fk, fp, G, S, a, b, c, d⟩ := I
  have e : ∀ a, a ≠ 123 → (up σ 123 j v) a = σ a := fun a h => up_k _ _ _ h
  exact ⟨R, n, H, hv, V, len, tx, nr, rk, rp, nf, fk, fp, G, S, CI_c (fun a h => e a (by omega)) a, CX_c (fun a h => e a (by omega)) b, RI_c (fun a h => e a (by omega)) (fun j _ => by rw [e 101 (by omega)]) c, RX_c (fun a h => e a (by omega)) (fun j _ => by rw [e 101 (by omega)]) d⟩
theorem call_share (I : Inv σ) : StepS f_L_usedShare f_X11_usedShare σ := by
  have I0 := I
  obtain ⟨R, n, H, hv, V, len, tx, nr, rk, rp, nf, fk, fp, G, S, c, cx, r, rx⟩ := I
  have hR := r.1
  have g0 := G.1
  have g2 := G.2.2.1
  have q1 := shareC_eq c.1 G
  have ha : su (cvS R) (R 0) ≤ 320 := by
    rw [cov_sum G]
    have := su_le (g := fun p => pcn (R (637 + R (661 + p)))) (n := R 2) (b := 16) (fun i _ => pcn_16 _)
    omega
  have hb : su (tlS R) (R 0) ≤ 600 := by
    have := su_le (g := tlS R) (n := R 0) (b := 100) (fun i hi => Nat.le_trans (cnt_le _ _) (nS_le G hi))
    omega
  generalize hA : su (cvS R) (R 0) = A at *
  generalize hB : su (tlS R) (R 0) = B at *
  have ref : ∀ υ, υ 102 = rwN R → f_X11_usedShare υ = if B = 0 then f_X11_usedShare_j112 (nI B) (nI A) 1 υ else f_X11_usedShare_j112 (nI B) (nI A) 0 υ := fun υ hυ => by
    have r1 := shareR1 hυ G
    have r2 := shareR2 hυ G (nI B)
    rw [hB] at r1
    rw [← cov_sum G, hA] at r2
    unfold f_X11_usedShare f_X11_usedShare_0
    rw [show (0 : Int32) = nI 0 from rfl, r1, bind_s, r2, bind_s]
    by_cases e : B = 0
    · rw [e]; rfl
    · rw [if_neg (by rw [nI_eqI (by omega) (by omega)]; exact e), if_neg e]
  by_cases e : B = 0
  · refine ⟨nI 1, σ, FP.fconst0.toInt32, up σ 101 0 1, ?_, ?_, up_s .., fun h => absurd h (by decide), Inv_Fr (u0F _ _) I0⟩
    · unfold f_L_usedShare f_L_usedShare_0 f_X10_usedShare f_X10_usedShare_0
      rw [show (0 : Int32) = nI 0 from rfl, q1, bind_s, e]
      rfl
    · rw [ref σ hR, if_pos e, e]
      rfl
  · have hx := fdiv_le (a := A) (b := B) (by omega) (by omega) (by omega)
    generalize hX : FP.fdiv (FP.i2f (nI A)) (FP.i2f (nI B)) = X at hx
    have hy := f2d_le hx
    have hX2 : X.toInt32.toUInt32 = X := rfl
    refine ⟨0, up σ 123 0 X.toInt32, X.toInt32, up (up σ 123 0 X.toInt32) 101 0 0, ?_, ?_, up_s .., fun _ => ⟨?_, ?_, ?_⟩, Inv_Fr (u0F _ _) (Inv_123 I0 _ _)⟩
    · unfold f_L_usedShare f_L_usedShare_0 f_X10_usedShare f_X10_usedShare_0
      rw [show (0 : Int32) = nI 0 from rfl, q1, bind_s]
      have h1 : (1 : Int32) ≤ nI B := show nI 1 ≤ nI B by rw [nI_leI (by omega) (by omega)]; omega
      dsimp only
      rw [if_pos h1, hX]
      have n1 : nf32 X = true := nf32_le hx
      have n2 : nf64 (FP.f2d X) = true := nf64_le hy
      rw [n1]
      show (chk (nf64 (FP.f2d X.toInt32.toUInt32)) _) = _
      rw [hX2, n2]
      rfl
    · rw [ref _ (by rw [up_k _ _ _ (by decide), hR]), if_neg e]
      unfold f_X11_usedShare_j112
      rw [if_neg (show ¬ nI B = 0 from fun h => e (by rw [show (0 : Int32) = nI 0 from rfl, nI_eqI (by omega) (by omega)] at h; exact h)), hX, nf32_le hx]
      rfl
    · rw [up_k _ _ _ (by decide), up_s]
    · rw [hX2]; exact nf64_le hy
    · rw [hX2]; exact dcmp_same hy
