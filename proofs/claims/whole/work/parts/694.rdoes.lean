/-! PURE FACTS, 101: texts, what an item does, the reference's -/
variable {len p c k m n C q : Nat} {f : Nat → Nat} {b e o : Bool} {σ τ υ : St} {R : Nat → Nat}
theorem shpR_eq (X : TX f len) (hp : p < len) (h : f p = 112) (hok : (itm f p).1 = true) (D : DR f p σ) {B : Type} (A Y : Option B) : (if σ 101 46 = 0 then (f_X11_field σ).bind fun q26 => (f_X11_isField (σ 101 44) (σ 101 43) q26).bind fun q27 => if q27 = 0 then A else Y else A) = if shv f p = true then Y else A := by
  obtain ⟨d43, d44, d45, d46⟩ := D.2.2.2.2 h
  by_cases ho : odn f (p + 1) (sN f p) = true
  · rw [shv_o ho, if_neg (show ¬ false = true by decide), if_neg (show ¬ σ 101 46 = 0 by rw [d46]; show ¬ nI (bN (odn f (p + 1) (sN f p))) = 0; rw [ho]; exact t0)]
  · have ho : odn f (p + 1) (sN f p) = false := Bool.eq_false_iff.mpr ho
    obtain ⟨c1, c2, n1, n2, hk, hm⟩ := shp_even X hp h hok ho
    obtain ⟨b, f1, f2, _⟩ := shp_eq ⟨c1, c2⟩ ⟨n1, n2⟩ hm
    have e44 : σ 101 44 = nI (wd f (p + 1)) := by
      rw [d44]
      exact congrArg nI (hk (lr f (p + 1)) (by unfold sN; omega))
    have hf : f_X11_field σ = some (nI (sM f p)) := fieldR_eq (n := sN f p) d43 e44 d45 hk c2 n2
    have f2' : f_X11_isField (σ 101 44) (σ 101 43) (nI (sM f p)) = some (nI (bN b)) := by
      rw [e44, d43]
      exact f2
    rw [if_pos (show σ 101 46 = 0 by rw [d46]; show nI (bN (odn f (p + 1) (sN f p))) = 0; rw [ho]; rfl), hf, bind_s, f2', bind_s, shv_b ho f1]
    cases b
    · rfl
    · rfl
theorem faults_eq {i : Nat} (hi : i < 3) (a b : Int32) (σ : St) : f_X11_faults (nI i) a b σ = some (up (up (up σ 109 i a) 110 i b) 101 14 (nI (i + 1))) := by
  unfold f_X11_faults f_X11_faults_0
  rw [chkin hi (by omega), chkin hi (by omega), nI_clamp (by omega), nI_1]
/-- the three faults of an item -/
def FT (kd pl q known : Nat) (τ : St) : Prop := τ 101 14 = nI 3 ∧ τ 109 0 = nI 1 ∧ τ 110 0 = nI q ∧ τ 109 1 = nI 3 ∧ τ 110 1 = nI known ∧ τ 109 2 = nI kd ∧ τ 110 2 = nI pl
theorem refuses_eq (hR : σ 102 = rwN R) (h40 : σ 101 40 = nI q) (kd pl : Nat) : ∃ τ, f_X11_refuses (nI kd) (nI pl) σ = some τ ∧ FT kd pl q (R 0 + R 1) τ ∧ (∀ a, a ≠ 101 → a ≠ 109 → a ≠ 110 → τ a = σ a) ∧ ∀ j, j ≠ 14 → τ 101 j = σ 101 j := by
  have i0 : (0 : Int32).toNatClampNeg = 0 := by decide
  have i1 : (1 : Int32).toNatClampNeg = 1 := by decide
  have s1 : f_X11_faults 0 1 (nI q) σ = _ := faults_eq (i := 0) (by decide) 1 (nI q) σ
  have r0 : ∀ τ : St, τ 102 = σ 102 → τ 102 0 = nI (R 0) := fun τ h => by rw [h, hR]; rfl
  have r1 : ∀ τ : St, τ 102 = σ 102 → τ 102 1 = nI (R 1) := fun τ h => by rw [h, hR]; rfl
  have s2 : ∀ b τ, f_X11_faults 1 3 b τ = _ := fun b τ => faults_eq (i := 1) (by decide) 3 b τ
  have s3 : ∀ b τ, f_X11_faults 2 (nI kd) b τ = _ := fun b τ => faults_eq (i := 2) (by decide) (nI kd) b τ
  have k1 : (up (up (up σ 109 0 1) 110 0 (nI q)) 101 14 (nI (0 + 1))) 102 = σ 102 := by rw [up_k _ _ _ (by decide), up_k _ _ _ (by decide), up_k _ _ _ (by decide)]
  have e : f_X11_refuses (nI kd) (nI pl) σ = some (up (up (up (up (up (up (up (up (up σ 109 0 1) 110 0 (nI q)) 101 14 (nI (0 + 1))) 109 1 3) 110 1 (nI (R 0 + R 1))) 101 14 (nI (1 + 1))) 109 2 (nI kd)) 110 2 (nI pl)) 101 14 (nI (2 + 1))) := by
    unfold f_X11_refuses f_X11_refuses_0
    rw [h40, s1, bind_s, chk_t (show inb 0 761 = true by decide), chk_t (show inb 1 761 = true by decide), i0, i1, r0 _ k1, r1 _ k1, nI_add, s2, bind_s, s3, bind_s]
  refine ⟨_, e, ⟨up_s .., ?_, ?_, ?_, ?_, ?_, ?_⟩, fun a x1 x2 x3 => ?_, fun j hj => ?_⟩
  · rw [up_k _ _ _ (by decide), up_k _ _ _ (by decide), up_j _ _ _ (by decide), up_k _ _ _ (by decide), up_k _ _ _ (by decide), up_j _ _ _ (by decide), up_k _ _ _ (by decide), up_k _ _ _ (by decide), up_s]
    rfl
  · rw [up_k _ _ _ (by decide), up_j _ _ _ (by decide), up_k _ _ _ (by decide), up_k _ _ _ (by decide), up_j _ _ _ (by decide), up_k _ _ _ (by decide), up_k _ _ _ (by decide), up_s]
  · rw [up_k _ _ _ (by decide), up_k _ _ _ (by decide), up_j _ _ _ (by decide), up_k _ _ _ (by decide), up_k _ _ _ (by decide), up_s]
    rfl
  · rw [up_k _ _ _ (by decide), up_j _ _ _ (by decide), up_k _ _ _ (by decide), up_k _ _ _ (by decide), up_s]
  · rw [up_k _ _ _ (by decide), up_k _ _ _ (by decide), up_s]
  · rw [up_k _ _ _ (by decide), up_s]
  · rw [up_k _ _ _ x1, up_k _ _ _ x3, up_k _ _ _ x2, up_k _ _ _ x1, up_k _ _ _ x3, up_k _ _ _ x2, up_k _ _ _ x1, up_k _ _ _ x3, up_k _ _ _ x2]
  · rw [up_j _ _ _ hj, up_k _ _ _ (by decide), up_k _ _ _ (by decide), up_j _ _ _ hj, up_k _ _ _ (by decide), up_k _ _ _ (by decide), up_j _ _ _ hj, up_k _ _ _ (by decide), up_k _ _ _ (by decide)]
theorem spoR_up (hR : σ 102 = rwN R) (s d : Nat) : up σ 102 (21 + 100 * s + d) (nI 0) = upA σ 102 (rwN (updN R (21 + 100 * s + d) 0)) := upR hR _ _
theorem spo_updN {s d : Nat} (hd : d < 100) : updN R (21 + 100 * s + d) 0 = spo R s d := by
  funext i
  unfold updN spo rUse us
  by_cases q1 : i = 21 + 100 * s + d
  · rw [if_pos q1, if_pos (by omega)]
    show _ = if i - (21 + 100 * s) = d then 0 else R (21 + 100 * s + (i - (21 + 100 * s)))
    rw [if_pos (by omega)]
  · rw [if_neg q1]
    by_cases q2 : 21 + 100 * s ≤ i ∧ i < 121 + 100 * s
    · rw [if_pos q2]
      show _ = if i - (21 + 100 * s) = d then 0 else R (21 + 100 * s + (i - (21 + 100 * s)))
      rw [if_neg (by omega), show 21 + 100 * s + (i - (21 + 100 * s)) = i by omega]
    · rw [if_neg q2]
theorem doR_eq (X : TX f len) (hp : p < len) (hR : σ 102 = rwN R) (G : Good R) (hok : (itm f p).1 = true) (hch : f p = 115 ∨ f p = 112 ∨ f p = 100) (D : DR f p σ) (h40 : σ 101 40 = nI q) : (∃ kd pl, doI f p R = .inl (kd, pl) ∧ ∃ τ, f_X11_does σ = some τ ∧ FT kd pl q (R 0 + R 1) τ ∧ (∀ a, a ≠ 101 → a ≠ 109 → a ≠ 110 → a ≠ 111 → τ a = σ a) ∧ ∀ j, j ≠ 14 → τ 101 j = σ 101 j) ∨ ∃ R', doI f p R = .inr R' ∧ ∃ τ, f_X11_does σ = some τ ∧ τ 102 = rwN R' ∧ ∀ a, a ≠ 102 → a ≠ 111 → τ a = σ a := by
  have hA := dA_lt X p
  have hB := dB_lt X p
  have i0 : (0 : Int32).toNatClampNeg = 0 := by decide
  have i1 : (1 : Int32).toNatClampNeg = 1 := by decide
  obtain ⟨d41, d0, d1, d42, dsh⟩ := D
  have g0 := G.1
  have c02 : inb 0 2 = true := by decide
  have c12 : inb 1 2 = true := by decide
  have ref : ∀ kd pl (σ1 : St), (∀ a, a ≠ 111 → σ1 a = σ a) → ∃ τ, f_X11_refuses (nI kd) (nI pl) σ1 = some τ ∧ FT kd pl q (R 0 + R 1) τ ∧ (∀ a, a ≠ 101 → a ≠ 109 → a ≠ 110 → a ≠ 111 → τ a = σ a) ∧ ∀ j, j ≠ 14 → τ 101 j = σ 101 j := fun kd pl σ1 h1 => by
    obtain ⟨τ, e1, e2, e3, e4⟩ := refuses_eq (σ := σ1) (by rw [h1 102 (by decide), hR]) (by rw [h1 101 (by decide), h40]) kd pl
    exact ⟨τ, e1, e2, fun a x1 x2 x3 x4 => by rw [e3 a x1 x2 x3, h1 a x4], fun j hj => by rw [e4 j hj, h1 101 (by decide)]⟩
  unfold f_X11_does f_X11_does_0
  by_cases q1 : f p = 115
  · rw [if_pos (show σ 101 41 = 115 by rw [d41, q1]; rfl), chk_t c02, i0, d0]
    by_cases c1 : dA f p < 2 ∨ 10 < dA f p
    · obtain ⟨τ, e1, e2⟩ := ref 4 0 σ (fun _ _ => rfl)
      have e1' : f_X11_refuses 4 0 σ = some τ := e1
      refine Or.inl ⟨4, 0, by unfold doI; rw [if_pos q1, if_pos c1], τ, ?_, e2⟩
      have : f_X11_in (nI (dA f p)) 2 10 = some (nI 0) := ri_out (a := 2) (b := 10) (c1.elim (fun h => Or.inl (nI_lt h (by omega))) (fun h => Or.inr (nI_lt h (by omega))))
      rw [this, bind_s, if_pos (by rfl), e1', bind_s]
    · have in1 : f_X11_in (nI (dA f p)) 2 10 = some (nI 1) := ri_in (a := 2) (b := 10) (by omega) (by omega) (by decide)
      rw [in1, bind_s, if_neg (show ¬ nI 1 = 0 by decide), chk_t c12, i1, d1]
      by_cases c2 : dB f p < 2 ∨ 10 < dB f p
      · obtain ⟨τ, e1, e2⟩ := ref 4 1 σ (fun _ _ => rfl)
        have e1' : f_X11_refuses 4 1 σ = some τ := e1
        refine Or.inl ⟨4, 1, by unfold doI; rw [if_pos q1, if_neg c1, if_pos c2], τ, ?_, e2⟩
        have : f_X11_in (nI (dB f p)) 2 10 = some (nI 0) := ri_out (a := 2) (b := 10) (c2.elim (fun h => Or.inl (nI_lt h (by omega))) (fun h => Or.inr (nI_lt h (by omega))))
        rw [this, bind_s, if_pos (by rfl), e1', bind_s]
      · have in2 : f_X11_in (nI (dB f p)) 2 10 = some (nI 1) := ri_in (a := 2) (b := 10) (by omega) (by omega) (by decide)
        rw [in2, bind_s, if_neg (show ¬ nI 1 = 0 by decide), chk_t (show inb 0 761 = true by decide)]
        have e0 : σ 102 0 = nI (R 0) := by rw [hR]; rfl
        by_cases c3 : R 0 = 6
        · obtain ⟨τ, e1, e2⟩ := ref 6 0 σ (fun _ _ => rfl)
          have e1' : f_X11_refuses 6 0 σ = some τ := e1
          refine Or.inl ⟨6, 0, by unfold doI; rw [if_pos q1, if_neg c1, if_neg c2, if_pos c3], τ, ?_, e2⟩
          rw [if_pos (show σ 102 0 = 6 by rw [e0, c3]; rfl), e1', bind_s]
        · refine Or.inr ⟨_, by unfold doI; rw [if_pos q1, if_neg c1, if_neg c2, if_neg c3], _, ?_, upA_same .., fun a h1 h2 => upA_ne _ _ h1⟩
          rw [if_neg (show ¬ σ 102 0 = 6 by rw [e0]; show ¬ nI (R 0) = nI 6; rw [nI_eqI (by omega) (by decide)]; exact c3), chk_t c02, chk_t c12, d42 q1, makesSheet_eq hR (by omega), bind_s]
  · rw [if_neg (show ¬ σ 101 41 = 115 by rw [d41]; show ¬ nI (f p) = nI 115; rw [nI_eqI (by have := X.2.1 p; omega) (by decide)]; exact q1)]
    by_cases q2 : f p = 112
    · rw [if_pos (show σ 101 41 = 112 by rw [d41, q2]; rfl), chk_t c02, i0, i1, d0, d1]
      by_cases c1 : 2 < dA f p
      · obtain ⟨τ, e1, e2⟩ := ref 4 0 σ (fun _ _ => rfl)
        have e1' : f_X11_refuses 4 0 σ = some τ := e1
        refine Or.inl ⟨4, 0, by unfold doI; rw [if_neg q1, if_pos q2, if_pos c1], τ, ?_, e2⟩
        have : f_X11_in (nI (dA f p)) 0 2 = some (nI 0) := ri_out (a := 0) (b := 2) (Or.inr (nI_lt c1 (by omega)))
        rw [this, bind_s, if_pos (by rfl), e1', bind_s]
      · have in1 : f_X11_in (nI (dA f p)) 0 2 = some (nI 1) := ri_in (a := 0) (b := 2) (by omega) (by omega) (by decide)
        rw [in1, bind_s, if_neg (show ¬ nI 1 = 0 by decide), shpR_eq X hp q2 hok ⟨d41, d0, d1, d42, dsh⟩]
        by_cases c2 : shv f p = true
        · rw [if_pos c2, chk_t (show inb 1 761 = true by decide)]
          have e1 : σ 102 1 = nI (R 1) := by rw [hR]; rfl
          have g1 := G.2.1
          by_cases c3 : R 1 = 8
          · obtain ⟨τ, e1, e2⟩ := ref 6 0 σ (fun _ _ => rfl)
            have e1' : f_X11_refuses 6 0 σ = some τ := e1
            refine Or.inl ⟨6, 0, by unfold doI; rw [if_neg q1, if_pos q2, if_neg c1, if_pos c2, if_pos c3], τ, ?_, e2⟩
            rw [if_pos (show σ 102 1 = 8 by rw [hR]; show nI (R 1) = 8; rw [c3]; rfl), e1', bind_s]
          · have ho : odn f (p + 1) (sN f p) = false := by
              refine Bool.eq_false_iff.mpr (fun h => ?_)
              rw [shv_o h] at c2
              exact absurd c2 (by decide)
            obtain ⟨s1, s2, n1, n2, hk, hm⟩ := shp_even X hp q2 hok ho
            obtain ⟨d43, d44, d45, d46⟩ := dsh q2
            have e44 : σ 101 44 = nI (sC f p) := by
              rw [d44]
              exact congrArg nI (hk (lr f (p + 1)) (by unfold sN; omega))
            have e43 : σ 101 43 = nI (sN f p) := d43
            have hf : f_X11_field σ = some (nI (sM f p)) := fieldR_eq (n := sN f p) d43 e44 d45 hk s2 n2
            refine Or.inr ⟨_, by unfold doI; rw [if_neg q1, if_pos q2, if_neg c1, if_pos c2, if_neg c3], _, ?_, upA_same .., fun a h1 h2 => upA_ne _ _ h1⟩
            rw [if_neg (show ¬ σ 102 1 = 8 by rw [e1]; show ¬ nI (R 1) = nI 8; rw [nI_eqI (by omega) (by decide)]; exact c3), hf, bind_s, chk_t c02, chk_t c12, e43, e44, makesShape_eq hR (by omega), bind_s]
        · rw [if_neg c2]
          obtain ⟨τ, e1, e2⟩ := ref 5 0 σ (fun _ _ => rfl)
          have e1' : f_X11_refuses 5 0 σ = some τ := e1
          refine Or.inl ⟨5, 0, by unfold doI; rw [if_neg q1, if_pos q2, if_neg c1, if_neg c2], τ, ?_, e2⟩
          unfold f_X11_does_j159
          rw [e1', bind_s]
    · rw [if_neg (show ¬ σ 101 41 = 112 by rw [d41]; show ¬ nI (f p) = nI 112; rw [nI_eqI (by have := X.2.1 p; omega) (by decide)]; exact q2), chk_t c02, i0, i1, d0]
      by_cases c1 : R 0 ≤ dA f p
      · obtain ⟨τ, e1, e2⟩ := ref 7 0 σ (fun _ _ => rfl)
        have e1' : f_X11_refuses 7 0 σ = some τ := e1
        refine Or.inl ⟨7, 0, by unfold doI; rw [if_neg q1, if_neg q2, if_pos c1], τ, ?_, e2⟩
        rw [isSheet_out hR G (Or.inr ⟨nI_nlt0 (by omega), nI_le c1 (by omega)⟩), bind_s, if_pos (by rfl), e1', bind_s]
      · have hs : dA f p < R 0 := by omega
        obtain ⟨z0, z1, z2, z3, z4, z5, hn, _⟩ := GS G hs
        obtain ⟨row, l1, l2⟩ := looks_eq hR G (dA f p) (by omega)
        have fr1 : ∀ a, a ≠ 111 → (upA σ 111 row) a = σ a := fun a ha => upA_ne _ _ ha
        have hR1 : (upA σ 111 row) 102 = rwN R := by rw [fr1 102 (by decide), hR]
        have hC : Cov R (dA f p) ((upA σ 111 row) 111) := by rw [upA_same]; exact l2
        have e0 : (upA σ 111 row) 121 0 = nI (dA f p) := by rw [fr1 121 (by decide), d0]
        have e1 : (upA σ 111 row) 121 1 = nI (dB f p) := by rw [fr1 121 (by decide), d1]
        rw [isSheet_in hR G hs, bind_s, if_neg (show ¬ nI 1 = 0 by decide), chk_t c02, l1, bind_s, chk_t c12, chk_t c02]
        generalize upA σ 111 row = σ1 at *
        rw [e0, cellsR_eq hR1 z0, bind_s, e1]
        by_cases c2 : sc R (dA f p) * sr R (dA f p) ≤ dB f p
        · obtain ⟨τ, e1, e2⟩ := ref 7 1 σ1 fr1
          have e1' : f_X11_refuses 7 1 σ1 = some τ := e1
          refine Or.inl ⟨7, 1, by unfold doI; rw [if_neg q1, if_neg q2, if_neg c1, if_pos c2], τ, ?_, e2⟩
          unfold f_X11_does_j290
          rw [if_pos (nI_le c2 (by omega)), e1', bind_s]
        · have hcell : dB f p < sc R (dA f p) * sr R (dA f p) := by omega
          rw [if_neg (nI_ge hcell (by omega)), chk_t c02, chk_t c12, freeR_eq hR1 G hs (by omega) hC, bind_s, on_fr G hs hcell]
          by_cases c3 : on R (dA f p) (dB f p) = 1
          · refine Or.inr ⟨_, by unfold doI; rw [if_neg q1, if_neg q2, if_neg c1, if_neg c2, if_pos c3], upA σ1 102 (rwN (spo R (dA f p) (dB f p))), ?_, upA_same .., fun a h1 h2 => by rw [upA_ne _ _ h1, fr1 a h2]⟩
            rw [decide_eq_true c3, if_neg t0, chk_t c02, chk_t c12, show (21 : Int32) = nI 21 from rfl, show (100 : Int32) = nI 100 from rfl, pk_mul, nI_add, nI_add, chkin (by omega) (by omega), nI_clamp (by omega), ← spo_updN (by omega), ← spoR_up hR1]
            rfl
          · obtain ⟨τ, e1, e2⟩ := ref 7 1 σ1 fr1
            have e1' : f_X11_refuses 7 1 σ1 = some τ := e1
            refine Or.inl ⟨7, 1, by unfold doI; rw [if_neg q1, if_neg q2, if_neg c1, if_neg c2, if_neg c3], τ, ?_, e2⟩
            unfold f_X11_does_j290
            rw [decide_eq_false c3, if_pos f0, e1', bind_s]
