/-! PURE FACTS, 100: texts, what an item does, the class's -/
variable {len p c k m n C : Nat} {f : Nat → Nat} {b e o : Bool} {σ τ υ : St} {R : Nat → Nat}
/-- a shape's columns, rows and set -/
def sC (f : Nat → Nat) (p : Nat) : Nat := wd f (p + 1)
def sN (f : Nat → Nat) (p : Nat) : Nat := lr f (p + 1) + 1
def sM (f : Nat → Nat) (p : Nat) : Nat := clm f (p + 1) (sN f p)
def shv (f : Nat → Nat) (p : Nat) : Bool := !odn f (p + 1) (sN f p) && decide (f_X3_isShape (nI (sC f p)) (nI (sN f p)) (nI (sM f p)) = some (nI 1))
/-- what an item does: a fault's kind and place, or the row it makes -/
def doI (f : Nat → Nat) (p : Nat) (R : Nat → Nat) : (Nat × Nat) ⊕ (Nat → Nat) :=
  if f p = 115 then (if dA f p < 2 ∨ 10 < dA f p then .inl (4, 0) else if dB f p < 2 ∨ 10 < dB f p then .inl (4, 1) else if R 0 = 6 then .inl (6, 0) else .inr (rSheet R (dA f p) (dB f p) (grn f (iS3 f (p + 1)).2) (fun _ => 1)))
  else if f p = 112 then (if 2 < dA f p then .inl (4, 0) else if shv f p = true then (if R 1 = 8 then .inl (6, 0) else .inr (rShape R (sC f p) (sN f p) (sM f p) (dA f p) (dB f p))) else .inl (5, 0))
  else (if R 0 ≤ dA f p then .inl (7, 0) else if sc R (dA f p) * sr R (dA f p) ≤ dB f p then .inl (7, 1) else if on R (dA f p) (dB f p) = 1 then .inr (spo R (dA f p) (dB f p)) else .inl (7, 1))
theorem nv_lt (X : TX f len) (p : Nat) : nv f p < 2 ^ 20 := by
  have h1 := X.2.1 p
  have h2 := X.2.1 (p + 1)
  unfold nv
  split <;> omega
theorem nv_99 (h : dg f p = true) : nv f p ≤ 99 := by
  have h1 := dg_i.mp h
  unfold nv
  by_cases h2 : dg f (p + 1) = true
  · have h3 := dg_i.mp h2
    rw [if_pos h2]
    omega
  · rw [if_neg h2]
    omega
theorem dA_lt (X : TX f len) (p : Nat) : dA f p < 2 ^ 20 := by
  unfold dA
  have h1 := nv_lt X (p + 1)
  have h2 := X.2.1 (iP1 f (p + 1)).2
  have h3 := X.2.1 (p + 1)
  split
  · exact h1
  · split <;> omega
theorem dB_lt (X : TX f len) (p : Nat) : dB f p < 2 ^ 20 := by
  unfold dB
  split
  · exact nv_lt X _
  · split <;> exact nv_lt X _
theorem grn_le (f : Nat → Nat) (p : Nat) : grn f p ≤ 2 := by unfold grn; (repeat' split) <;> omega
/-- a shape's item that is one -/
theorem shp_ok (X : TX f len) (hp : p < len) (q : f p = 112) (hok : (itm f p).1 = true) : dB f p ≤ 99 ∧ 0 < wd f (pS f (p + 1) (lr f (p + 1))) ∧ sC f p ≤ 70 ∧ sN f p ≤ 71 := by
  have ei : itm f p = iP4 f (p + 1) := by unfold itm; rw [if_neg (by omega), if_pos q]
  rw [ei] at hok
  have o3 : (iP3 f (p + 1)).1 = true := xN_b hok
  have o2 : (iP2 f (p + 1)).1 = true := xM_b o3
  have o1 : (iP1 f (p + 1)).1 = true := xD_b o2
  have o0 : (xR f (p + 1)).1 = true := xM_b o1
  have hl := X.1
  obtain ⟨r1, r2⟩ := lr_ok X (show p + 1 ≤ len by omega)
  have hb := pS_b X (show p + 1 ≤ len by omega) (lr f (p + 1)) r1
  have hw := wd_le X (show p + 1 ≤ len by omega)
  refine ⟨?_, of_decide_eq_true o0, by unfold sC; omega, by unfold sN; omega⟩
  unfold dB
  rw [if_neg (by omega), if_pos q]
  refine nv_99 ?_
  apply Classical.byContradiction
  intro hn
  have : iP4 f (p + 1) = (false, (iP3 f (p + 1)).2) := if_neg (fun h => hn h.2)
  rw [this] at hok
  exact absurd (show false = true from hok) (by decide)
/-- a shape's rows that aren't odd -/
theorem shp_even (X : TX f len) (hp : p < len) (q : f p = 112) (hok : (itm f p).1 = true) (h : odn f (p + 1) (sN f p) = false) : 1 ≤ sC f p ∧ sC f p ≤ 4 ∧ 1 ≤ sN f p ∧ sN f p ≤ 4 ∧ (∀ k, k < sN f p → wd f (pS f (p + 1) k) = sC f p) ∧ sM f p < 2 ^ (sC f p * sN f p) := by
  obtain ⟨g1, g2, g3, g4⟩ := shp_ok X hp q hok
  obtain ⟨h1, h2, h3⟩ := odn_i.mp h
  have e1 := h1 (lr f (p + 1)) (by unfold sN; omega)
  refine ⟨by unfold sC; omega, h2 0 (by unfold sN; omega), by unfold sN; omega, h3, h1, clm_lt h1⟩
theorem shv_b {b : Bool} (h : odn f (p + 1) (sN f p) = false) (hb : f_X3_isShape (nI (sC f p)) (nI (sN f p)) (nI (sM f p)) = some (nI (bN b))) : shv f p = b := by
  unfold shv
  rw [h, hb]
  cases b <;> rfl
theorem shv_o (h : odn f (p + 1) (sN f p) = true) : shv f p = false := by
  unfold shv
  rw [h]
  rfl
theorem shpC_eq (X : TX f len) (hp : p < len) (q : f p = 112) (hok : (itm f p).1 = true) (D : DC f p σ) {B : Type} (A Y : Option B) : (if σ 99 12 = 0 then A else (f_X3_isShape (σ 99 9) (σ 99 10) (σ 99 11)).bind fun q4 => if q4 = 0 then A else Y) = if shv f p = true then Y else A := by
  obtain ⟨g1, g2, g3, g4⟩ := shp_ok X hp q hok
  obtain ⟨d9, d10, d12, d11⟩ := D.2.2.2.2 q
  by_cases ho : odn f (p + 1) (sN f p) = true
  · rw [shv_o ho, if_neg (show ¬ false = true by decide)]
    by_cases he : evn f (p + 1) (sN f p) = true
    · have hC1 : 1 ≤ sC f p := by
        have := evn_i.mp he (lr f (p + 1)) (by unfold sN; omega)
        unfold sC
        omega
      have hbig : 4 < sC f p ∨ 4 < sN f p := by
        rcases Nat.lt_or_ge 4 (sC f p) with h | h
        · exact Or.inl h
        · rcases Nat.lt_or_ge 4 (sN f p) with h2 | h2
          · exact Or.inr h2
          · exfalso
            have e1 := evn_i.mp he
            have := (odn_i (f := f) (p := p + 1) (n := sN f p)).mpr ⟨e1, fun k hk => by rw [e1 k hk]; exact h, h2⟩
            rw [ho] at this
            exact absurd this (by decide)
      rw [if_neg (show ¬ σ 99 12 = 0 by rw [d12]; show ¬ nI (bN (evn f (p + 1) (sN f p))) = 0; rw [he]; exact t0), d9, d10]
      have := shp_out (x := σ 99 11) hbig (by omega) (by omega) hC1
      unfold sC sN at this
      rw [this, bind_s, if_pos (by rfl)]
    · rw [if_pos (show σ 99 12 = 0 by rw [d12]; show nI (bN (evn f (p + 1) (sN f p))) = 0; rw [Bool.eq_false_iff.mpr he]; rfl)]
  · have ho : odn f (p + 1) (sN f p) = false := Bool.eq_false_iff.mpr ho
    obtain ⟨c1, c2, n1, n2, hk, hm⟩ := shp_even X hp q hok ho
    obtain ⟨b, f1, _, _⟩ := shp_eq ⟨c1, c2⟩ ⟨n1, n2⟩ hm
    have he : evn f (p + 1) (sN f p) = true := evn_i.mpr (odn_i.mp ho).1
    rw [if_neg (show ¬ σ 99 12 = 0 by rw [d12]; show ¬ nI (bN (evn f (p + 1) (sN f p))) = 0; rw [he]; exact t0), d9, d10, d11 c2, shv_b ho f1]
    unfold sM sC sN at f1
    rw [f1, bind_s]
    cases b
    · rfl
    · rfl
theorem fail_eq (a b : Int32) (σ : St) : f_X6_fail a b σ = some (nI 0, up (up σ 99 13 a) 99 14 b) := rfl
theorem isSheetSide_in {j : Nat} (h1 : 2 ≤ j) (h2 : j ≤ 10) : f_X10_isSheetSide (nI j) = some (nI 1) := by
  unfold f_X10_isSheetSide f_X10_isSheetSide_0
  have : f_X10_isWithin (nI j) 2 10 = some (nI 1) := wi_in (a := 2) (b := 10) h1 h2 (by decide)
  rw [this]
  rfl
theorem isSheetSide_out {j : Nat} (h : j < 2 ∨ 10 < j) (hj : j < 2 ^ 20) : f_X10_isSheetSide (nI j) = some (nI 0) := by
  unfold f_X10_isSheetSide f_X10_isSheetSide_0
  have : f_X10_isWithin (nI j) 2 10 = some (nI 0) := wi_out (a := 2) (b := 10) (h.elim (fun h => Or.inl (nI_lt h (by omega))) (fun h => Or.inr (nI_lt h (by omega))))
  rw [this]
  rfl
theorem fullS (T : ShR 1 R σ) (G : Good R) : f_X9_isFull 2 σ = some (if R 0 = 6 then 1 else 0) := full_eq (t := 2) (lim := 6) T.2.1.1 T.2.1.2.1 T.1.1 (by decide) (by decide) G.1 (by decide)
theorem fullH (T : ShR 1 R σ) (G : Good R) : f_X9_isFull 4 σ = some (if R 1 = 8 then 1 else 0) := full_eq (t := 4) (lim := 8) T.2.1.2.2.1 T.2.1.2.2.2.1 T.1.2.1 (by decide) (by decide) G.2.1 (by decide)
theorem doC_eq (X : TX f len) (hp : p < len) (T : ShR 1 R σ) (G : Good R) (hok : (itm f p).1 = true) (hch : f p = 115 ∨ f p = 112 ∨ f p = 100) (D : DC f p σ) : (∃ kd pl, doI f p R = .inl (kd, pl) ∧ f_X6_carryOut 1 σ = some (nI 0, up (up σ 99 13 (nI kd)) 99 14 (nI pl))) ∨ ∃ R', doI f p R = .inr R' ∧ Good R' ∧ ∃ τ, f_X6_carryOut 1 σ = some (nI 1, τ) ∧ ShR 1 R' τ ∧ ∀ a, ¬ (2 ≤ a ∧ a ≤ 7) → τ a = σ a := by
  have hA := dA_lt X p
  have hB := dB_lt X p
  obtain ⟨d4, d6, d7, d8, d9⟩ := D
  have g0 := G.1
  by_cases q1 : f p = 115
  · have hc : f_X6_carryOut 1 σ = bzW ((f_X6_carryOutSheet 1 σ).bind fun q5 => some (q5.1, q5.2)) := by
      unfold f_X6_carryOut f_X6_carryOut_0
      rw [if_pos (show σ 99 4 = 115 by rw [d4, q1]; rfl)]
    by_cases c1 : dA f p < 2 ∨ 10 < dA f p
    · refine Or.inl ⟨4, 0, by unfold doI; rw [if_pos q1, if_pos c1], ?_⟩
      rw [hc]
      unfold f_X6_carryOutSheet f_X6_carryOutSheet_0
      rw [d6, isSheetSide_out c1 hA, bind_s, if_pos (by rfl), fail_eq]
      rfl
    · by_cases c2 : dB f p < 2 ∨ 10 < dB f p
      · refine Or.inl ⟨4, 1, by unfold doI; rw [if_pos q1, if_neg c1, if_pos c2], ?_⟩
        rw [hc]
        unfold f_X6_carryOutSheet f_X6_carryOutSheet_0
        rw [d6, d7, isSheetSide_in (by omega) (by omega), bind_s, if_neg (by decide), isSheetSide_out c2 hB, bind_s, if_pos (by rfl), fail_eq]
        rfl
      · by_cases c3 : R 0 = 6
        · refine Or.inl ⟨6, 0, by unfold doI; rw [if_pos q1, if_neg c1, if_neg c2, if_pos c3], ?_⟩
          rw [hc]
          unfold f_X6_carryOutSheet f_X6_carryOutSheet_0
          rw [d6, d7, isSheetSide_in (by omega) (by omega), bind_s, if_neg (by decide), isSheetSide_in (by omega) (by omega), bind_s, if_neg (by decide), fullS T G, if_pos c3, bind_s, if_neg (by decide), fail_eq]
          rfl
        · have g1 := grn_le f (iS3 f (p + 1)).2
          obtain ⟨τ2, m1, m2, m3⟩ := createSheet_eq (d := 1) T G (show R 0 < 6 by omega) (show 2 ≤ dA f p ∧ dA f p ≤ 10 by omega) (show 2 ≤ dB f p ∧ dB f p ≤ 10 by omega) g1 (Nat.le_refl _)
          refine Or.inr ⟨_, by unfold doI; rw [if_pos q1, if_neg c1, if_neg c2, if_neg c3], rSheet_G G (by omega) (by omega) (by omega) g1 (fun _ _ => Nat.le_refl _), τ2, ?_, m2, fun a ha => m3 a (by omega) (by omega)⟩
          have m1' : f_X8_createSheet 1 (nI (dA f p)) (nI (dB f p)) (nI (grn f (iS3 f (p + 1)).2)) (-1) σ = some (nI (R 0), τ2) := m1
          rw [hc]
          unfold f_X6_carryOutSheet f_X6_carryOutSheet_0
          rw [d6, d7, d8 q1, isSheetSide_in (by omega) (by omega), bind_s, if_neg (by decide), isSheetSide_in (by omega) (by omega), bind_s, if_neg (by decide), fullS T G, if_neg c3, bind_s, if_pos (by rfl), m1', bind_s]
          rfl
  · by_cases q2 : f p = 112
    · have hc : f_X6_carryOut 1 σ = bzW ((f_X6_carryOutShape 1 σ).bind fun q5 => some (q5.1, q5.2)) := by
        unfold f_X6_carryOut f_X6_carryOut_0
        rw [if_neg (show ¬ σ 99 4 = 115 by rw [d4, q2]; decide), if_pos (show σ 99 4 = 112 by rw [d4, q2]; rfl)]
      by_cases c1 : 2 < dA f p
      · refine Or.inl ⟨4, 0, by unfold doI; rw [if_neg q1, if_pos q2, if_pos c1], ?_⟩
        rw [hc]
        unfold f_X6_carryOutShape f_X6_carryOutShape_0
        rw [if_neg (show ¬ σ 99 6 ≤ 2 by rw [d6]; exact nI_ge (a := 2) c1 (by omega)), fail_eq]
        rfl
      · have hs := fun (Y : Option (Int32 × St)) => shpC_eq X hp q2 hok ⟨d4, d6, d7, d8, d9⟩ (f_X6_carryOutShape_j40 1 σ) Y
        have hc2 : f_X6_carryOutShape 1 σ = bzW (if shv f p = true then ((f_X9_isFull (1 + 3) σ).bind fun q6 => if q6 = 0 then (f_X8_createShape 1 (σ 99 9) (σ 99 10) (σ 99 11) (σ 99 6) (σ 99 7) σ).bind fun q8 => some (1, q8.2) else (f_X6_fail 6 0 σ).bind fun q9 => some (q9.1, q9.2)) else f_X6_carryOutShape_j40 1 σ) := by
          unfold f_X6_carryOutShape f_X6_carryOutShape_0
          rw [if_pos (show σ 99 6 ≤ 2 by rw [d6]; exact nI_le (b := 2) (by omega) (by decide)), hs]
        by_cases c2 : shv f p = true
        · rw [if_pos c2] at hc2
          by_cases c3 : R 1 = 8
          · refine Or.inl ⟨6, 0, by unfold doI; rw [if_neg q1, if_pos q2, if_neg c1, if_pos c2, if_pos c3], ?_⟩
            rw [hc, hc2, show f_X9_isFull (1 + 3) σ = _ from fullH T G, if_pos c3, bind_s, if_neg (by decide), fail_eq]
            rfl
          · have ho : odn f (p + 1) (sN f p) = false := by
              refine Bool.eq_false_iff.mpr (fun h => ?_)
              rw [shv_o h] at c2
              exact absurd c2 (by decide)
            obtain ⟨s1, s2, n1, n2, hk, hm⟩ := shp_even X hp q2 hok ho
            obtain ⟨b, f1, f2, f3⟩ := shp_eq ⟨s1, s2⟩ ⟨n1, n2⟩ hm
            have hb := shv_b ho f1
            rw [c2] at hb
            have F := f3 hb.symm
            obtain ⟨h99, _⟩ := shp_ok X hp q2 hok
            have g1 := G.2.1
            obtain ⟨τ2, m1, m2, m3⟩ := createShape_eq (u := dA f p) (st := dB f p) T G (show R 1 < 8 by omega) ⟨s1, s2⟩ ⟨n1, n2⟩ hm
            refine Or.inr ⟨_, by unfold doI; rw [if_neg q1, if_pos q2, if_neg c1, if_pos c2, if_neg c3], rShape_G G (by omega) ⟨s1, s2, n1, n2, hm⟩ F (by omega) h99, τ2, ?_, m2, fun a ha => m3 a (by omega) (by omega)⟩
            obtain ⟨e9, e10, e12, e11⟩ := d9 q2
            have m1' : f_X8_createShape 1 (σ 99 9) (σ 99 10) (σ 99 11) (σ 99 6) (σ 99 7) σ = some (nI (R 1), τ2) := by
              rw [e9, e10, e11 s2, d6, d7]
              exact m1
            rw [hc, hc2, show f_X9_isFull (1 + 3) σ = _ from fullH T G, if_neg c3, bind_s, if_pos (by rfl), m1', bind_s]
            rfl
        · rw [if_neg c2] at hc2
          refine Or.inl ⟨5, 0, by unfold doI; rw [if_neg q1, if_pos q2, if_neg c1, if_neg c2], ?_⟩
          rw [hc, hc2]
          unfold f_X6_carryOutShape_j40
          rw [fail_eq]
          rfl
    · have q3 : f p = 100 := by omega
      have hc : f_X6_carryOut 1 σ = bzW ((f_X6_carryOutSpoil 1 σ).bind fun q5 => some (q5.1, q5.2)) := by
        unfold f_X6_carryOut f_X6_carryOut_0
        rw [if_neg (show ¬ σ 99 4 = 115 by rw [d4, q3]; decide), if_neg (show ¬ σ 99 4 = 112 by rw [d4, q3]; decide)]
      have hsz : σ 2 2 = nI (R 0) := T.2.1.2.1
      by_cases c1 : R 0 ≤ dA f p
      · refine Or.inl ⟨7, 0, by unfold doI; rw [if_neg q1, if_neg q2, if_pos c1], ?_⟩
        rw [hc]
        unfold f_X6_carryOutSpoil f_X6_carryOutSpoil_0
        rw [d6, show f_X9_has (1 + 1) (nI (dA f p)) σ = some 0 from has_out (t := 2) hsz (Or.inr ⟨nI_nlt0 (by omega), nI_le c1 (by omega)⟩), bind_s, if_pos (by rfl), fail_eq]
        rfl
      · have hs : dA f p < R 0 := by omega
        obtain ⟨z0, z1, z2, z3, z4, z5, hn, _⟩ := GS G hs
        have hhas : f_X9_has (1 + 1) (nI (dA f p)) σ = some 1 := has_in (t := 2) hsz (by omega) hs
        by_cases c2 : sc R (dA f p) * sr R (dA f p) ≤ dB f p
        · refine Or.inl ⟨7, 1, by unfold doI; rw [if_neg q1, if_neg q2, if_neg c1, if_pos c2], ?_⟩
          rw [hc]
          unfold f_X6_carryOutSpoil f_X6_carryOutSpoil_0 f_X6_carryOutSpoil_j53
          rw [d6, d7, hhas, bind_s, if_neg (by decide), cellsOf_eq T G hs, bind_s, if_pos (nI_le c2 (by omega)), fail_eq]
          rfl
        · have hcell : dB f p < sc R (dA f p) * sr R (dA f p) := by omega
          have hon := on_lt G hs hcell
          by_cases c3 : on R (dA f p) (dB f p) = 1
          · obtain ⟨m1, m2⟩ := spoC_eq T G hs hcell c3
            have m1' : f_X8_setCell 1 (nI (dA f p)) (nI (dB f p)) (-2) σ = some (up σ (1 + 1 + 1) (dA f p * 103 + (3 + dB f p)) (wI 0)) := m1
            refine Or.inr ⟨_, by unfold doI; rw [if_neg q1, if_neg q2, if_neg c1, if_neg c2, if_pos c3], spo_G G hs hcell c3, _, ?_, m2, fun a ha => up_k _ _ _ (by omega)⟩
            rw [hc]
            unfold f_X6_carryOutSpoil f_X6_carryOutSpoil_0
            rw [d6, d7, hhas, bind_s, if_neg (by decide), cellsOf_eq T G hs, bind_s, if_neg (nI_ge hcell (by omega)), onCell_eq T G hs hcell, bind_s, if_pos (show wI (on R (dA f p) (dB f p)) = -1 by rw [c3]; rfl), m1', bind_s]
            rfl
          · refine Or.inl ⟨7, 1, by unfold doI; rw [if_neg q1, if_neg q2, if_neg c1, if_neg c2, if_neg c3], ?_⟩
            rw [hc]
            unfold f_X6_carryOutSpoil f_X6_carryOutSpoil_0 f_X6_carryOutSpoil_j53
            rw [d6, d7, hhas, bind_s, if_neg (by decide), cellsOf_eq T G hs, bind_s, if_neg (nI_ge hcell (by omega)), onCell_eq T G hs hcell, bind_s, if_neg (show ¬ wI (on R (dA f p) (dB f p)) = -1 by rw [wI_m1 (by omega)]; exact c3), fail_eq]
            rfl
