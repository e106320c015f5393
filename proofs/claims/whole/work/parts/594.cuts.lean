/-! PURE FACTS, 14: the two counts of cuts are one; common cuts of a part -/
variable {k : Nat} {R : Nat → Nat} {σ : St}
theorem isc_prc {s c d : Nat} (G : Good R) (hs : s < R 0) (hc : c < sc R s * sr R s) (hd : d < sc R s * sr R s) (b : Bool) : isc (on R s c) (on R s d) b = prc (ck R s c) (ck R s d) b 1 := by
  have h1 := on_cases G hs hc
  have h2 := on_cases G hs hd
  generalize on R s c = o at *
  generalize on R s d = n at *
  generalize ck R s c = x at *
  generalize ck R s d = y at *
  generalize us R s c = u at *
  generalize us R s d = v at *
  unfold isc prc
  simp only [decide_true, Bool.true_or, Bool.and_true]
  cases b <;> simp <;> by_cases a1 : o < 2 <;> by_cases a2 : n < 2 <;> by_cases a3 : o = n <;> by_cases a4 : x = y <;> by_cases a5 : x = 1 <;> by_cases a6 : y = 1 <;> simp [a1, a2, a3, a4, a5, a6] <;> omega
theorem cut_same {s : Nat} (G : Good R) (hs : s < R 0) (b : Bool) : sm (cutf R s b) (sc R s * sr R s) = sm (cutr R s b 1) (sc R s * sr R s) := by
  refine sm_e (fun c hc => ?_)
  unfold cutf cutr
  have e1 : (if (c + 1) % sc R s = 0 then 0 else bN (isc (on R s c) (on R s (c + 1)) b)) = (if (c + 1) % sc R s = 0 then 0 else bN (prc (ck R s c) (ck R s (c + 1)) b 1)) := by
    split
    · rfl
    · rename_i h
      rw [isc_prc G hs hc (nx_lt hc h)]
  have e2 : (if c + sc R s < sc R s * sr R s then bN (isc (on R s c) (on R s (c + sc R s)) b) else 0) = (if c + sc R s < sc R s * sr R s then bN (prc (ck R s c) (ck R s (c + sc R s)) b 1) else 0) := by
    split
    · rename_i h
      rw [isc_prc G hs hc h]
    · rfl
  rw [e1, e2]
/-- another part -/
def oth (n q : Nat) : Nat := bN (decide (2 ≤ n) && decide (n ≠ q))
theorem oth_lt (n q : Nat) : oth n q < 2 := bN_lt _
theorem oth_eq {n q : Nat} (hn : n < 100) (hq : q < 100) : f_X8_otherPart (wI n) (wI q) = some (nI (oth n q)) := by
  unfold f_X8_otherPart f_X8_otherPart_0 oth
  simp (disch := omega) only [bind_s, sum_l, sum_r, chkin, lit, nI_add, pk_mul, nI_clamp, nI_leI, nI_ltI, nI_eqI, nI_or, and1, shl1, shrx, nI_subx, pk_divx, pk_remx, nmod, nzx, if_tt, if_ff, bz_n1, bz_n0, nm1, nm2, wI_p, wI_inj, wI_n, nI_w, wI_ltI, wI_leI, nI_ltw, nI_lew, reduceIte]
  by_cases a : n < 2
  · rw [if_pos (by omega), decide_eq_false (by omega)]
    rfl
  · rw [if_neg (by omega), decide_eq_true (by omega)]
    by_cases b : n = q <;> simp [b, bN]
def bes (R : Nat → Nat) (s q c : Nat) : Nat := oth (nl R s c) q + oth (nr R s c) q + oth (nu R s c) q + oth (nd R s c) q
theorem bes_le (s q c : Nat) : bes R s q c ≤ 4 := by
  unfold bes
  have h1 := oth_lt (nl R s c) q
  have h2 := oth_lt (nr R s c) q
  have h3 := oth_lt (nu R s c) q
  have h4 := oth_lt (nd R s c) q
  omega
theorem onP_lt {s x y : Nat} (G : Good R) (hs : s < R 0) : onP R s x y < 100 := by
  unfold onP
  split
  · rename_i h
    have := on_lt G hs (xy_lt h.1 h.2)
    omega
  · omega
theorem bes_eq (T : ShR k R σ) (G : Good R) {s x y q : Nat} (hs : s < R 0) (hx : x < sc R s) (hy : y < sr R s) (hq : q < 100) : f_X8_otherPartsBeside k (nI s) (nI x) (nI y) (wI q) σ = some (nI (bes R s q (sc R s * y + x))) := by
  obtain ⟨h0, h1, h2, h3, h4, h5, h6, h7⟩ := GS G hs
  have i1 : (if x = 0 then 0 else onP R s (x - 1) y) < 100 := by
    split
    · omega
    · exact onP_lt G hs
  have i2 : onP R s (x + 1) y < 100 := onP_lt G hs
  have i3 : (if y = 0 then 0 else onP R s x (y - 1)) < 100 := by
    split
    · omega
    · exact onP_lt G hs
  have i4 : onP R s x (y + 1) < 100 := onP_lt G hs
  unfold f_X8_otherPartsBeside f_X8_otherPartsBeside_0
  rw [show (1 : Int32) = nI 1 from rfl, onPlace_l T G hs (by omega) (by omega), onPlace_u T G hs (by omega) (by omega), nI_add, nI_add, onPlace_eq T G hs (by omega) (by omega), onPlace_eq T G hs (by omega) (by omega)]
  rw [onP_l hx hy] at *
  rw [onP_r hx hy] at *
  rw [onP_u hx hy] at *
  rw [onP_d hx hy] at *
  simp (disch := omega) only [bind_s, sum_l, sum_r, chkin, lit, nI_add, pk_mul, nI_clamp, nI_leI, nI_ltI, nI_eqI, nI_or, and1, shl1, shrx, nI_subx, pk_divx, pk_remx, nmod, nzx, if_tt, if_ff, bz_n1, bz_n0, nm1, nm2, wI_p, wI_inj, wI_n, nI_w, wI_ltI, wI_leI, nI_ltw, nI_lew, reduceIte, oth_eq]
  rfl
def comf (R : Nat → Nat) (s q c : Nat) : Nat := if on R s c = q then bes R s q c else 0
theorem comC_eq (T : ShR k R σ) (G : Good R) {p : Nat} (hp : p < R 2) : f_X8_commonCutsOf k (nI p) σ = some (nI (sm (comf R (R (681 + p)) (p + 2)) (sc R (R (681 + p)) * sr R (R (681 + p))))) := by
  have hP := GP G hp
  have hs := (G.2.2.2.2.2.1 p hp).2.1
  obtain ⟨h0, h1, h2, h3, h4, h5, h6, h7⟩ := GS G hs
  generalize hs' : R (681 + p) = s at *
  unfold f_X8_commonCutsOf f_X8_commonCutsOf_0
  have hb : ∀ m, m ≤ sc R s * sr R s → sm (comf R s (p + 2)) m < 1000 := fun m hm => by
    have := sm_le (g := comf R s (p + 2)) (n := m) (B := 4) (fun i _ => by
      unfold comf
      split
      · exact bes_le s _ i
      · omega)
    omega
  have := lp_ex (f := f_X8_commonCutsOf_l15 k (nI p) (nI s) σ) (fun y => (nI (sm (comf R s (p + 2)) (sc R s * y)), nI y)) (nI (sm (comf R s (p + 2)) (sc R s * sr R s))) (sr R s) (by omega) (fun y hy => by
    have q := lp_ex (f := f_X8_commonCutsOf_l28 k (nI p) (nI s) (nI y) σ) (fun x => (nI (sm (comf R s (p + 2)) (sc R s * y + x)), nI x)) (nI (sm (comf R s (p + 2)) (sc R s * (y + 1)))) (sc R s) (by omega) (fun x hx => by
      have hc := xy_lt hx hy
      have o1 := on_lt G hs hc
      have o2 := onP_0 (R := R) hx hy
      have e9 : sm (comf R s (p + 2)) (sc R s * y + (x + 1)) = sm (comf R s (p + 2)) (sc R s * y + x) + comf R s (p + 2) (sc R s * y + x) := rfl
      have e8 : comf R s (p + 2) (sc R s * y + x) = if on R s (sc R s * y + x) = p + 2 then bes R s (p + 2) (sc R s * y + x) else 0 := rfl
      have e7 := bes_eq T G (q := p + 2) hs hx hy (by omega)
      rw [wI_p] at e7
      unfold f_X8_commonCutsOf_l28 f_X8_commonCutsOf_j64
      dsimp only
      simp (disch := omega) only [bind_s, sum_l, sum_r, chkin, lit, nI_add, pk_mul, nI_clamp, nI_leI, nI_ltI, nI_eqI, nI_or, and1, shl1, shrx, nI_subx, pk_divx, pk_remx, nmod, nzx, if_tt, if_ff, bz_n1, bz_n0, nm1, nm2, wI_p, wI_inj, wI_n, nI_w, wI_ltI, wI_leI, nI_ltw, nI_lew, reduceIte, columnsOf_eq T G hs, onPlace_eq T G hs, o2, e7]
      rw [e9, e8]
      by_cases e : on R s (sc R s * y + x) = p + 2
      · rw [if_pos e, if_pos e]
      · rw [if_neg e, if_neg e]
        rfl) (by
      unfold f_X8_commonCutsOf_l28
      dsimp only
      simp (disch := omega) only [bind_s, sum_l, sum_r, chkin, lit, nI_add, pk_mul, nI_clamp, nI_leI, nI_ltI, nI_eqI, nI_or, and1, shl1, shrx, nI_subx, pk_divx, pk_remx, nmod, nzx, if_tt, if_ff, bz_n1, bz_n0, nm1, nm2, wI_p, wI_inj, wI_n, nI_w, wI_ltI, wI_leI, nI_ltw, nI_lew, reduceIte, columnsOf_eq T G hs]
      rfl)
    simp only [Nat.add_zero] at q
    unfold f_X8_commonCutsOf_l15
    dsimp only
    simp (disch := omega) only [bind_s, sum_l, sum_r, chkin, lit, nI_add, pk_mul, nI_clamp, nI_leI, nI_ltI, nI_eqI, nI_or, and1, shl1, shrx, nI_subx, pk_divx, pk_remx, nmod, nzx, if_tt, if_ff, bz_n1, bz_n0, nm1, nm2, wI_p, wI_inj, wI_n, nI_w, wI_ltI, wI_leI, nI_ltw, nI_lew, reduceIte, rowsOf_eq T G hs, q]) (by
    unfold f_X8_commonCutsOf_l15
    dsimp only
    simp (disch := omega) only [bind_s, sum_l, sum_r, chkin, lit, nI_add, pk_mul, nI_clamp, nI_leI, nI_ltI, nI_eqI, nI_or, and1, shl1, shrx, nI_subx, pk_divx, pk_remx, nmod, nzx, if_tt, if_ff, bz_n1, bz_n0, nm1, nm2, wI_p, wI_inj, wI_n, nI_w, wI_ltI, wI_leI, nI_ltw, nI_lew, reduceIte, rowsOf_eq T G hs])
  rw [Nat.mul_zero] at this
  have e0 : (nI (sm (comf R s (p + 2)) 0), nI 0) = (nI 0, nI 0) := rfl
  rw [e0] at this
  simp (disch := omega) only [bind_s, sum_l, sum_r, chkin, lit, nI_add, pk_mul, nI_clamp, nI_leI, nI_ltI, nI_eqI, nI_or, and1, shl1, shrx, nI_subx, pk_divx, pk_remx, nmod, nzx, if_tt, if_ff, bz_n1, bz_n0, nm1, nm2, wI_p, wI_inj, wI_n, nI_w, wI_ltI, wI_leI, nI_ltw, nI_lew, reduceIte, pg_eq T, (T.2.2.2.2 p hp).2.1, hs', this]
theorem prc_com {s c d q : Nat} (G : Good R) (hs : s < R 0) (hc : c < sc R s * sr R s) (hd : d < sc R s * sr R s) (hq : 2 ≤ q) : bN (prc (ck R s c) (ck R s d) true q) = (if on R s c = q then oth (on R s d) q else 0) + (if on R s d = q then oth (on R s c) q else 0) := by
  have h1 := on_cases G hs hc
  have h2 := on_cases G hs hd
  generalize on R s c = o at *
  generalize on R s d = n at *
  generalize ck R s c = x at *
  generalize ck R s d = y at *
  generalize us R s c = u at *
  generalize us R s d = v at *
  unfold oth prc
  have hq1 : q ≠ 1 := by omega
  by_cases a1 : o < 2 <;> by_cases a2 : n < 2
  · have a3 : x = 1 := by omega
    have a4 : y = 1 := by omega
    have a5 : o ≠ q := by omega
    have a6 : n ≠ q := by omega
    simp [a3, a4, a5, a6, bN]
  · have a3 : x = 1 := by omega
    have a4 : y = n := by omega
    have a5 : o ≠ q := by omega
    have a6 : ¬ 2 ≤ o := by omega
    subst a4 a3
    simp [a5, a6, bN]
  · have a3 : y = 1 := by omega
    have a4 : x = o := by omega
    have a5 : n ≠ q := by omega
    have a6 : ¬ 2 ≤ n := by omega
    subst a4 a3
    simp [a5, a6, bN]
  · have a3 : y = n := by omega
    have a4 : x = o := by omega
    have a5 : 2 ≤ o := by omega
    have a6 : 2 ≤ n := by omega
    have a7 : o ≠ 1 := by omega
    have a8 : n ≠ 1 := by omega
    subst a3 a4
    by_cases b1 : x = q
    · subst b1
      by_cases b2 : y = x
      · subst b2
        simp [bN]
      · have b3 : ¬ x = y := fun h => b2 h.symm
        simp [a5, a6, a7, a8, b2, b3, hq1, bN]
    · by_cases b2 : y = q
      · subst b2
        simp [a5, a6, a7, a8, b1, hq1, bN]
      · simp [b1, b2, hq1, bN]
theorem com_same {s q : Nat} (G : Good R) (hs : s < R 0) (hq : 2 ≤ q) : sm (comf R s q) (sc R s * sr R s) = sm (cutr R s true q) (sc R s * sr R s) := by
  obtain ⟨h0, h1, h2, h3, h4, h5, h6, h7⟩ := GS G hs
  generalize hn : sc R s * sr R s = n at *
  have o0 : oth 0 q = 0 := rfl
  let g1 : Nat → Nat := fun c => if (c + 1) % sc R s = 0 then 0 else if on R s (c + 1) = q then oth (on R s c) q else 0
  let g2 : Nat → Nat := fun c => if c + sc R s < n then (if on R s (c + sc R s) = q then oth (on R s c) q else 0) else 0
  have m1 := sm_move g1 1 n
  have m2 := sm_move g2 (sc R s) n
  have r1 : sm (fun c => if c + 1 < n then g1 c else 0) n = sm g1 n := sm_e (fun c hc => by
    by_cases e : c + 1 < n
    · rw [if_pos e]
    · have e2 : (c + 1) % sc R s = 0 := by rw [show c + 1 = n by omega, ← hn, Nat.mul_mod_right]
      rw [if_neg e]
      show 0 = if (c + 1) % sc R s = 0 then 0 else _
      rw [if_pos e2])
  have r2 : sm (fun c => if c + sc R s < n then g2 c else 0) n = sm g2 n := sm_e (fun c hc => by
    show (if c + sc R s < n then (if c + sc R s < n then _ else _) else 0) = if c + sc R s < n then _ else _
    by_cases e : c + sc R s < n
    · simp only [if_pos e]
    · simp only [if_neg e])
  have l1 : sm (fun c => if 1 ≤ c then g1 (c - 1) else 0) n = sm (fun c => if on R s c = q then oth (nl R s c) q else 0) n := sm_e (fun c hc => by
    unfold nl
    by_cases e : 1 ≤ c
    · rw [if_pos e]
      show (if (c - 1 + 1) % sc R s = 0 then 0 else if on R s (c - 1 + 1) = q then oth (on R s (c - 1)) q else 0) = _
      rw [Nat.sub_add_cancel e]
      by_cases e2 : c % sc R s = 0
      · rw [if_pos e2, if_pos e2, o0, ite_self]
      · rw [if_neg e2, if_neg e2]
    · have : c = 0 := by omega
      subst this
      rw [if_neg e, Nat.zero_mod, if_pos rfl, o0, ite_self])
  have l2 : sm (fun c => if sc R s ≤ c then g2 (c - sc R s) else 0) n = sm (fun c => if on R s c = q then oth (nu R s c) q else 0) n := sm_e (fun c hc => by
    unfold nu
    by_cases e : sc R s ≤ c
    · have e5 : ¬ c < sc R s := by omega
      simp only [if_pos e, if_neg e5]
      show (if c - sc R s + sc R s < n then (if on R s (c - sc R s + sc R s) = q then oth (on R s (c - sc R s)) q else 0) else 0) = _
      rw [Nat.sub_add_cancel e, if_pos hc]
    · have e5 : c < sc R s := by omega
      simp only [if_neg e, if_pos e5, o0, ite_self])
  have t1 : sm (comf R s q) n = sm (fun c => if on R s c = q then oth (nl R s c) q else 0) n + sm (fun c => if on R s c = q then oth (nr R s c) q else 0) n + sm (fun c => if on R s c = q then oth (nu R s c) q else 0) n + sm (fun c => if on R s c = q then oth (nd R s c) q else 0) n := by
    rw [← sm_add, ← sm_add, ← sm_add]
    refine sm_e (fun c hc => ?_)
    unfold comf bes
    by_cases e : on R s c = q
    · simp only [if_pos e]
    · simp only [if_neg e, Nat.add_zero]
  have t2 : sm (cutr R s true q) n = sm (fun c => if on R s c = q then oth (nr R s c) q else 0) n + sm g1 n + (sm (fun c => if on R s c = q then oth (nd R s c) q else 0) n + sm g2 n) := by
    rw [← sm_add, ← sm_add, ← sm_add]
    refine sm_e (fun c hc => ?_)
    have u1 : (if (c + 1) % sc R s = 0 then 0 else bN (prc (ck R s c) (ck R s (c + 1)) true q)) = (if on R s c = q then oth (nr R s c) q else 0) + g1 c := by
      show _ = _ + if (c + 1) % sc R s = 0 then 0 else _
      unfold nr
      by_cases e : (c + 1) % sc R s = 0
      · simp only [if_pos e, o0, ite_self]
      · simp only [if_neg e]
        have := nx_lt (h := sr R s) (by omega) e
        exact prc_com G hs (by omega) this hq
    have u2 : (if c + sc R s < n then bN (prc (ck R s c) (ck R s (c + sc R s)) true q) else 0) = (if on R s c = q then oth (nd R s c) q else 0) + g2 c := by
      show _ = _ + if c + sc R s < n then _ else _
      unfold nd
      rw [hn]
      by_cases e : c + sc R s < n
      · simp only [if_pos e]
        exact prc_com G hs (by omega) (by omega) hq
      · simp only [if_neg e, o0, ite_self]
    unfold cutr
    rw [hn, u1, u2]
  rw [t1, t2, ← l1, ← l2, m1, m2, r1, r2]
  omega
