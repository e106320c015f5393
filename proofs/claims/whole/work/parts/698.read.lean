/-! PURE FACTS, 105: the call read -/
variable {len p k m n C q nr nf : Nat} {f tx : Nat → Nat} {b e o hv : Bool} {σ τ υ : St} {R V : Nat → Nat} {H : Nat → Nat → Nat} {rk rp fk fp : Nat → Int32}
theorem add3_eq (h : σ 83 2 = nI 0) (a0 b0 a1 b1 a2 b2 : Int32) : ∃ τa τb τc, f_X0_add 83 a0 b0 σ = some τa ∧ f_X0_add 83 a1 b1 τa = some τb ∧ f_X0_add 83 a2 b2 τb = some τc ∧ (∀ a, a ≠ 83 → a ≠ 84 → a ≠ 85 → τa a = σ a) ∧ (∀ a, a ≠ 83 → a ≠ 84 → a ≠ 85 → τb a = σ a) ∧ (∀ a, a ≠ 83 → a ≠ 84 → a ≠ 85 → τc a = σ a) ∧ (τb 83 2 = nI 2 ∧ τb 84 0 = a0 ∧ τb 85 0 = b0 ∧ τb 84 1 = a1 ∧ τb 85 1 = b1) ∧ (τc 83 2 = nI 3 ∧ τc 84 0 = a0 ∧ τc 85 0 = b0 ∧ τc 84 1 = a1 ∧ τc 85 1 = b1 ∧ τc 84 2 = a2 ∧ τc 85 2 = b2) := by
  have x1 := add83_eq (l := 0) (by decide) h a0 b0
  have r1 : (up (up (up σ 84 0 a0) 85 0 b0) 83 2 (nI (0 + 1))) 83 2 = nI 1 ∧ (up (up (up σ 84 0 a0) 85 0 b0) 83 2 (nI (0 + 1))) 84 0 = a0 ∧ (up (up (up σ 84 0 a0) 85 0 b0) 83 2 (nI (0 + 1))) 85 0 = b0 := ⟨up_s .., by rw [up_k _ _ _ (by decide), up_k _ _ _ (by decide), up_s], by rw [up_k _ _ _ (by decide), up_s]⟩
  have f1 : ∀ a, a ≠ 83 → a ≠ 84 → a ≠ 85 → (up (up (up σ 84 0 a0) 85 0 b0) 83 2 (nI (0 + 1))) a = σ a := fun a y1 y2 y3 => by rw [up_k _ _ _ y1, up_k _ _ _ y3, up_k _ _ _ y2]
  generalize up (up (up σ 84 0 a0) 85 0 b0) 83 2 (nI (0 + 1)) = τa at *
  have x2 := add83_eq (σ := τa) (l := 1) (by decide) r1.1 a1 b1
  have r2 : (up (up (up τa 84 1 a1) 85 1 b1) 83 2 (nI (1 + 1))) 83 2 = nI 2 ∧ (up (up (up τa 84 1 a1) 85 1 b1) 83 2 (nI (1 + 1))) 84 0 = a0 ∧ (up (up (up τa 84 1 a1) 85 1 b1) 83 2 (nI (1 + 1))) 85 0 = b0 ∧ (up (up (up τa 84 1 a1) 85 1 b1) 83 2 (nI (1 + 1))) 84 1 = a1 ∧ (up (up (up τa 84 1 a1) 85 1 b1) 83 2 (nI (1 + 1))) 85 1 = b1 := ⟨up_s .., by rw [up_k _ _ _ (by decide), up_k _ _ _ (by decide), up_j _ _ _ (by decide), r1.2.1], by rw [up_k _ _ _ (by decide), up_j _ _ _ (by decide), up_k _ _ _ (by decide), r1.2.2], by rw [up_k _ _ _ (by decide), up_k _ _ _ (by decide), up_s], by rw [up_k _ _ _ (by decide), up_s]⟩
  have f2 : ∀ a, a ≠ 83 → a ≠ 84 → a ≠ 85 → (up (up (up τa 84 1 a1) 85 1 b1) 83 2 (nI (1 + 1))) a = σ a := fun a y1 y2 y3 => by rw [up_k _ _ _ y1, up_k _ _ _ y3, up_k _ _ _ y2, f1 a y1 y2 y3]
  generalize up (up (up τa 84 1 a1) 85 1 b1) 83 2 (nI (1 + 1)) = τb at *
  have x3 := add83_eq (σ := τb) (l := 2) (by decide) r2.1 a2 b2
  refine ⟨τa, τb, _, x1, x2, x3, f1, f2, fun a y1 y2 y3 => ?_, r2, up_s .., ?_, ?_, ?_, ?_, ?_, ?_⟩
  · rw [up_k _ _ _ y1, up_k _ _ _ y3, up_k _ _ _ y2, f2 a y1 y2 y3]
  · rw [up_k _ _ _ (by decide), up_k _ _ _ (by decide), up_j _ _ _ (by decide), r2.2.1]
  · rw [up_k _ _ _ (by decide), up_j _ _ _ (by decide), up_k _ _ _ (by decide), r2.2.2.1]
  · rw [up_k _ _ _ (by decide), up_k _ _ _ (by decide), up_j _ _ _ (by decide), r2.2.2.2.1]
  · rw [up_k _ _ _ (by decide), up_j _ _ _ (by decide), up_k _ _ _ (by decide), r2.2.2.2.2]
  · rw [up_k _ _ _ (by decide), up_k _ _ _ (by decide), up_s]
  · rw [up_k _ _ _ (by decide), up_s]
/-- the reference once the text is one -/
theorem readR_ok (X : TX f len) (ht : tok f len = true) (G : Good R) (hR : σ 102 = rwN R) (h14 : σ 101 14 = 0) (h8 : σ 101 8 = nI len) (h106 : ∀ i, i < len → σ 106 i = nI (f i)) : ∃ τ, (f_X11_isText σ).bind (fun q1 => if q1.1 = 0 then (lp (f_X11_read_l21 q1.2) FU (0, 0)).bind fun q18 => f_X11_read_j62 q18 q1.2 else (f_X11_frames q1.2).bind fun q3 => (lp (f_X11_read_l107) FU (1, up (up (up q3 101 38 0) 101 40 0) 101 39 1)).bind fun q10 => f_X11_read_j164 q10) = (lp f_X11_read_l107 FU (nI 1, τ)).bind (fun q10 => f_X11_read_j164 q10) ∧ PS f len true 0 τ ∧ τ 102 = rwN R ∧ τ 101 40 = nI 0 ∧ τ 101 14 = 0 ∧ (∀ i, i < 761 → τ 104 i = nI (R i)) ∧ (∀ a, a ≠ 101 → a ≠ 104 → a ≠ 121 → τ a = σ a) ∧ ∀ j, ¬ (38 ≤ j ∧ j ≤ 46) → τ 101 j = σ 101 j := by
  obtain ⟨τr, b1, b2, b3⟩ := textR_eq X h8 h106
  rw [ht] at b1 b2
  have e102 : τr 102 = rwN R := by rw [b3.1 102 (by decide) (by decide), hR]
  refine ⟨up (up (up (upA τr 104 (blk 0 761 (τr 102) (τr 104))) 101 38 0) 101 40 0) 101 39 1, ?_, ⟨?_, fun i hi => ?_, ?_, Nat.zero_le _, up_s ..⟩, ?_, ?_, ?_, fun i hi => ?_, fun a x1 x2 x3 => ?_, fun j hj => ?_⟩
  · rw [b1, bind_s, if_neg t0, frames_eq, bind_s]
    rfl
  · rw [up_j _ _ _ (by decide), up_j _ _ _ (by decide), up_j _ _ _ (by decide), upA_ne _ _ (by decide), b3.2 8 (by decide), h8]
  · rw [up_k _ _ _ (by decide), up_k _ _ _ (by decide), up_k _ _ _ (by decide), upA_ne _ _ (by decide), b3.1 106 (by decide) (by decide)]
    exact h106 i hi
  · rw [up_j _ _ _ (by decide), up_j _ _ _ (by decide), up_s]; rfl
  · rw [up_k _ _ _ (by decide), up_k _ _ _ (by decide), up_k _ _ _ (by decide), upA_ne _ _ (by decide), e102]
  · rw [up_j _ _ _ (by decide), up_s]; rfl
  · rw [up_j _ _ _ (by decide), up_j _ _ _ (by decide), up_j _ _ _ (by decide), upA_ne _ _ (by decide), b3.2 14 (by decide), h14]
  · rw [up_k _ _ _ (by decide), up_k _ _ _ (by decide), up_k _ _ _ (by decide), upA_same, blk_in (Nat.zero_le _) (by omega), e102]
    rfl
  · rw [up_k _ _ _ x1, up_k _ _ _ x1, up_k _ _ _ x1, upA_ne _ _ x2, b3.1 a x1 x3]
  · rw [up_j _ _ _ (by omega), up_j _ _ _ (by omega), up_j _ _ _ (by omega), upA_ne _ _ (by decide), b3.2 j hj]
theorem call_read (I : Inv σ) : Step0 f_X10_read f_X11_read σ := by
  obtain ⟨R, n, H, hv, V, len, tx, nr, rk, rp, nf, fk, fp, G, S, c, cx, r, rx⟩ := I
  obtain ⟨S1, S2, S3, S4, S5⟩ := S
  obtain ⟨y1, y2, y3, y4, y5, y6⟩ := cx
  obtain ⟨z1, z2, z3, z4, z5, z6⟩ := rx
  obtain ⟨c1, c2, c3, ⟨nx, c4⟩, c5, c6⟩ := c
  obtain ⟨r1, r2, r3, r4, r5⟩ := r
  obtain ⟨f, hfe, X⟩ : ∃ f : Nat → Nat, (∀ i, i < len → f i = tx i) ∧ TX f len := ⟨fun i => if i < len then tx i else 0, fun i hi => if_pos hi, S2, fun i => by
    show (if i < len then tx i else 0) < 65536
    by_cases h : i < len
    · rw [if_pos h]; exact S3 i h
    · rw [if_neg h]; decide, fun i hi => if_neg (by omega)⟩
  have hlq : lq f ≤ 70 := by
    have := qS_b X (lq f) (lq_ok X).1
    omega
  have C0 : CT f len 0 (up (up σ 83 2 0) 99 2 0) := ⟨by rw [up_j _ _ _ (by decide), up_k _ _ _ (by decide)]; exact y1, fun i hi => by rw [up_k _ _ _ (by decide), up_k _ _ _ (by decide), hfe i hi]; exact y2 i hi, up_s .., Nat.zero_le _⟩
  obtain ⟨τ1, a1, a2, a3, a4⟩ := countC_eq X C0
  have a1' : f_X6_countItems (up σ 83 2 0) = some (if tok f len = true then nI (lq f + 1) else -1, τ1) := by
    rw [← a1]
    unfold f_X6_countItems f_X6_countItems_0 f_X6_rewind f_X6_rewind_0
    rw [up_up]
  have F1 : ∀ a, a ≠ 99 → a ≠ 83 → τ1 a = σ a := fun a h1 h2 => by rw [a3.1 a h1, up_k _ _ _ h1, up_k _ _ _ h2]
  have e83 : τ1 83 2 = nI 0 := by rw [a3.1 83 (by decide), up_k _ _ _ (by decide), up_s]; rfl
  have hclr : f_X10_read σ = (f_X6_countItems (up σ 83 2 0)).bind fun q2 => if q2.1 ≤ 0 then (f_X10_refuseText q2.2).bind fun q4 => f_X10_read_j31 q2.1 q4.1 q4.2 else (f_X10_carryOutItems q2.1 q2.2).bind fun q7 => f_X10_read_j31 q2.1 q7.1 q7.2 := rfl
  rw [a1'] at hclr
  -- the reference's state behind the first lines
  have u8 : ∀ υ : St, (∀ a, 101 ≤ a → υ a = σ a) → (up (up υ 101 0 0) 101 14 0) 102 = rwN R ∧ (up (up υ 101 0 0) 101 14 0) 101 14 = 0 ∧ (up (up υ 101 0 0) 101 14 0) 101 8 = nI len ∧ (∀ i, i < len → (up (up υ 101 0 0) 101 14 0) 106 i = nI (f i)) ∧ (∀ a, a ≠ 101 → (up (up υ 101 0 0) 101 14 0) a = υ a) ∧ ∀ j, j ≠ 0 → j ≠ 14 → (up (up υ 101 0 0) 101 14 0) 101 j = σ 101 j := fun υ hυ => ⟨by rw [up_k _ _ _ (by decide), up_k _ _ _ (by decide), hυ 102 (by decide), r1], up_s .., by rw [up_j _ _ _ (by decide), up_j _ _ _ (by decide), hυ 101 (by decide), z1], fun i hi => by rw [up_k _ _ _ (by decide), up_k _ _ _ (by decide), hυ 106 (by decide), hfe i hi]; exact z2 i hi, fun a ha => by rw [up_k _ _ _ ha, up_k _ _ _ ha], fun j h1 h2 => by rw [up_j _ _ _ h2, up_j _ _ _ h1, hυ 101 (by decide)]⟩
  cases ht : tok f len
  · -- it is no text
    obtain ⟨τa, τb, τc, p1, p2, _, g1, g2, _, ⟨w1, w2, w3, w4, w5⟩, _⟩ := add3_eq e83 1 (nI (lq f)) 2 (nI (eT f)) 0 0
    have hc : f_X10_read σ = some (-1, up τb 99 1 0) := by
      rw [hclr, ht, bind_s]
      show (if (-1 : Int32) ≤ 0 then (f_X10_refuseText τ1).bind fun q4 => f_X10_read_j31 (-1) q4.1 q4.2 else _) = _
      rw [if_pos (show (-1 : Int32) ≤ 0 by decide)]
      have e2 : f_X10_refuseText τ1 = some (0, τb) := by
        unfold f_X10_refuseText f_X10_refuseText_0 f_X6_itemsBefore f_X6_itemsBefore_0 f_X6_position f_X6_position_0
        rw [bind_s, a4, p1, bind_s, bind_s, g1 99 (by decide) (by decide) (by decide), a2.2.2.1, p2, bind_s]
        rfl
      rw [e2]
      rfl
    have hυ : ∀ a, 101 ≤ a → (up τb 99 1 0) a = σ a := fun a h => by rw [up_k _ _ _ (by omega), g2 a (by omega) (by omega) (by omega), F1 a (by omega) (by omega)]
    have hlow : ∀ a, a ≠ 99 → a ≠ 83 → a ≠ 84 → a ≠ 85 → (up τb 99 1 0) a = σ a := fun a h1 h2 h3 h4 => by rw [up_k _ _ _ h1, g2 a h2 h3 h4, F1 a h1 h2]
    have CXf : CX 0 tx nr rk rp 2 (fun i => if i = 0 then 1 else 2) (fun i => if i = 0 then nI (lq f) else nI (eT f)) (up τb 99 1 0) := by
      refine ⟨up_s .., fun i hi => absurd hi (Nat.not_lt_zero _), ?_, fun i hi => ?_, ?_, fun i hi => ?_⟩
      · rw [hlow 80 (by decide) (by decide) (by decide) (by decide)]; exact y3
      · rw [hlow 81 (by decide) (by decide) (by decide) (by decide), hlow 82 (by decide) (by decide) (by decide) (by decide)]; exact y4 i hi
      · rw [up_k _ _ _ (by decide)]; exact w1
      · rw [up_k _ _ _ (by decide), up_k _ _ _ (by decide)]
        have : i = 0 ∨ i = 1 := by omega
        rcases this with rfl | rfl
        · exact ⟨w2, w3⟩
        · exact ⟨w4, w5⟩
    have CIf : CI R n H hv V (up τb 99 1 0) := CI_c (fun a h => hlow a (by omega) (by omega) (by omega) (by omega)) ⟨c1, c2, c3, ⟨nx, c4⟩, c5, c6⟩
    generalize up τb 99 1 0 = υ at *
    obtain ⟨v1, v2, v3, v4, v5, v6⟩ := u8 υ hυ
    obtain ⟨τr, b1, b2, b3⟩ := textR_eq X v3 v4
    rw [ht] at b1 b2
    have sem := semiR_eq X b2
    have s1 : f_X11_faults 0 1 (nI (lq f)) τr = _ := faults_eq (i := 0) (by decide) 1 (nI (lq f)) τr
    have e38 : (up (up (up τr 109 0 1) 110 0 (nI (lq f))) 101 14 (nI (0 + 1))) 101 38 = nI (eT f) := by rw [up_j _ _ _ (by decide), up_k _ _ _ (by decide), up_k _ _ _ (by decide), b2.2.2.1]
    have s2 : f_X11_faults 1 2 (nI (eT f)) (up (up (up τr 109 0 1) 110 0 (nI (lq f))) 101 14 (nI (0 + 1))) = _ := faults_eq (i := 1) (by decide) 2 (nI (eT f)) _
    have hg : f_X11_read υ = some (-1, up (up (up (up (up (up (up τr 109 0 1) 110 0 (nI (lq f))) 101 14 (nI (0 + 1))) 109 1 2) 110 1 (nI (eT f))) 101 14 (nI (1 + 1))) 101 8 0) := by
      have sem' : lp (f_X11_read_l21 τr) FU (0, 0) = some (nI (lq f)) := sem
      unfold f_X11_read f_X11_read_0
      rw [b1, bind_s, if_pos f0, sem', bind_s]
      unfold f_X11_read_j62
      rw [s1, bind_s, e38, s2, bind_s]
    have d1 : ∀ a, a ≠ 101 → a ≠ 109 → a ≠ 110 → (up (up (up (up (up (up (up τr 109 0 1) 110 0 (nI (lq f))) 101 14 (nI (0 + 1))) 109 1 2) 110 1 (nI (eT f))) 101 14 (nI (1 + 1))) 101 8 0) a = τr a := fun a h1 h2 h3 => by rw [up_k _ _ _ h1, up_k _ _ _ h1, up_k _ _ _ h3, up_k _ _ _ h2, up_k _ _ _ h1, up_k _ _ _ h3, up_k _ _ _ h2]
    have d2 : ∀ j, j ≠ 8 → j ≠ 14 → (up (up (up (up (up (up (up τr 109 0 1) 110 0 (nI (lq f))) 101 14 (nI (0 + 1))) 109 1 2) 110 1 (nI (eT f))) 101 14 (nI (1 + 1))) 101 8 0) 101 j = τr 101 j := fun j h1 h2 => by rw [up_j _ _ _ h1, up_j _ _ _ h2, up_k _ _ _ (by decide), up_k _ _ _ (by decide), up_j _ _ _ h2, up_k _ _ _ (by decide), up_k _ _ _ (by decide)]
    have d3 : ∀ a, a ≠ 101 → a ≠ 109 → a ≠ 110 → a ≠ 121 → (up (up (up (up (up (up (up τr 109 0 1) 110 0 (nI (lq f))) 101 14 (nI (0 + 1))) 109 1 2) 110 1 (nI (eT f))) 101 14 (nI (1 + 1))) 101 8 0) a = υ a := fun a h1 h2 h3 h4 => by rw [d1 a h1 h2 h3, b3.1 a h1 h4, v5 a h1]
    have d4 : ∀ j, j ≠ 8 → j ≠ 14 → j ≠ 0 → ¬ (38 ≤ j ∧ j ≤ 46) → (up (up (up (up (up (up (up τr 109 0 1) 110 0 (nI (lq f))) 101 14 (nI (0 + 1))) 109 1 2) 110 1 (nI (eT f))) 101 14 (nI (1 + 1))) 101 8 0) 101 j = σ 101 j := fun j h1 h2 h3 h4 => by rw [d2 j h1 h2, b3.2 j h4, v6 j h3 h2]
    refine read_fin (R' := R) (n' := n) (H' := H) (hv := hv) (V := V) hc hg (fun a h => d3 a (by omega) (by omega) (by omega) (by omega)) G ⟨S1, Nat.zero_le _, fun i hi => absurd hi (Nat.not_lt_zero _), S4, by decide⟩ CIf CXf ?_ ⟨?_, fun i hi => absurd hi (Nat.not_lt_zero _), ?_, fun i hi => ?_, ?_, fun i hi => ?_⟩
    · refine RI_c (σ := σ) (fun a h => ?_) (fun j h => ?_) ⟨r1, r2, r3, r4, r5⟩
      · rw [d3 a (by omega) (by omega) (by omega) (by omega), hυ a (by omega)]
      · exact d4 j (by omega) (by omega) (by omega) (by omega)
    · rw [up_s]; rfl
    · rw [d4 13 (by decide) (by decide) (by decide) (by decide)]; exact z3
    · rw [d3 107 (by decide) (by decide) (by decide) (by decide), d3 108 (by decide) (by decide) (by decide) (by decide), hυ 107 (by decide), hυ 108 (by decide)]; exact z4 i hi
    · rw [up_j _ _ _ (by decide), up_s]
    · have : i = 0 ∨ i = 1 := by omega
      rcases this with rfl | rfl
      · refine ⟨?_, ?_⟩
        · rw [up_k _ _ _ (by decide), up_k _ _ _ (by decide), up_k _ _ _ (by decide), up_j _ _ _ (by decide), up_k _ _ _ (by decide), up_k _ _ _ (by decide), up_s]; rfl
        · rw [up_k _ _ _ (by decide), up_k _ _ _ (by decide), up_j _ _ _ (by decide), up_k _ _ _ (by decide), up_k _ _ _ (by decide), up_s]; rfl
      · refine ⟨?_, ?_⟩
        · rw [up_k _ _ _ (by decide), up_k _ _ _ (by decide), up_k _ _ _ (by decide), up_s]; rfl
        · rw [up_k _ _ _ (by decide), up_k _ _ _ (by decide), up_s]; rfl
  · -- it is a text
    have hGs := rsR_G X ht G
    have T1 : ShR 1 R τ1 := ShR_c (fun a _ _ => F1 a (by omega) (by omega)) c1
    have K1 : ShK 8 τ1 := ShK_c (fun a _ _ => F1 a (by omega) (by omega)) c2
    obtain ⟨τ2, s1, s2, s3⟩ := shopcopy_eq (d := 8) (s := 1) T1 G K1 (by omega)
    have C3 : CT f len 0 (up τ2 99 2 0) := ⟨by rw [up_j _ _ _ (by decide), s3 99 (by omega)]; exact a2.1, fun i hi => by rw [up_k _ _ _ (by decide), s3 100 (by omega)]; exact a2.2.1 i hi, up_s .., Nat.zero_le _⟩
    have T3 : ShR 1 R (up τ2 99 2 0) := ShR_c (fun a _ _ => by rw [up_k _ _ _ (by omega), s3 a (by omega)]) T1
    have F3 : ∀ a, a ≠ 99 → (a < 9 ∨ 14 < a) → (up τ2 99 2 0) a = τ1 a := fun a h1 h2 => by rw [up_k _ _ _ h1, s3 a h2]
    have B3 : ShR 8 R (up τ2 99 2 0) := ShR_c (fun a _ _ => up_k _ _ _ (by omega)) s2
    have hcar : f_X10_read σ = (f_X10_carryOutItems (nI (lq f + 1)) τ1).bind fun q7 => f_X10_read_j31 (nI (lq f + 1)) q7.1 q7.2 := by
      rw [hclr, ht, bind_s]
      show (if nI (lq f + 1) ≤ 0 then _ else _) = _
      rw [if_neg (show ¬ nI (lq f + 1) ≤ 0 from nI_ge (a := 0) (by omega) (by omega))]
      rfl
    have hcar2 : f_X10_carryOutItems (nI (lq f + 1)) τ1 = bzW ((lp (f_X10_carryOutItems_l20 (nI (lq f + 1))) FU (nI 0, up τ2 99 2 0)).bind fun q10 => Sum.elim (fun v11 => (f_X2_push 8 v11).bind fun q12 => some (1, q12)) (fun v13 => (f_X0_add 83 1 v13.1 v13.2.2).bind fun q14 => (f_X0_add 83 3 v13.2.1 q14).bind fun q15 => (f_X6_faultKind q15).bind fun q16 => (f_X6_faultPlace q15).bind fun q17 => (f_X0_add 83 q16 q17 q15).bind fun q18 => (f_X8_copyFrom 1 8 q18).bind fun q19 => some (0, q19)) q10) := by
      unfold f_X10_carryOutItems f_X10_carryOutItems_0 f_X6_rewind f_X6_rewind_0
      rw [s1, bind_s, bind_s]
      rfl
    generalize up τ2 99 2 0 = τ3 at *
    have G3 : ∀ a, a ≠ 99 → a ≠ 83 → (a < 9 ∨ 14 < a) → τ3 a = σ a := fun a h1 h2 h3 => by rw [F3 a h1 h3, F1 a h1 h2]
    have e83' : τ3 83 2 = nI 0 := by rw [F3 83 (by decide) (by omega), e83]
    -- the reference
    have refhead : ∀ υ : St, (∀ a, 101 ≤ a → υ a = σ a) → ∃ τ, f_X11_read υ = (lp f_X11_read_l107 FU (nI 1, τ)).bind (fun q10 => f_X11_read_j164 q10) ∧ PS f len true 0 τ ∧ τ 102 = rwN R ∧ τ 101 40 = nI 0 ∧ τ 101 14 = 0 ∧ (∀ i, i < 761 → τ 104 i = nI (R i)) ∧ (∀ a, a ≠ 101 → a ≠ 104 → a ≠ 121 → τ a = υ a) ∧ ∀ j, j ≠ 0 → j ≠ 14 → ¬ (38 ≤ j ∧ j ≤ 46) → τ 101 j = σ 101 j := fun υ hυ => by
      obtain ⟨v1, v2, v3, v4, v5, v6⟩ := u8 υ hυ
      obtain ⟨τ, w1, w2, w3, w4, w5, w6, w7, w8⟩ := readR_ok X ht G v1 v2 v3 v4
      exact ⟨τ, w1, w2, w3, w4, w5, w6, fun a x1 x2 x3 => by rw [w7 a x1 x2 x3, v5 a x1], fun j x1 x2 x3 => by rw [w8 j x3, v6 j x1 x2]⟩
    rcases least_ex (bad f R) (lq f + 1) with ⟨q, hq, hb, hall⟩ | hall
    · -- an item that can't be carried out
      obtain ⟨τ4, kd, pl, dI, l1, l2, l3, l4, l5, l6⟩ := loopC_bad X ht C3 T3 G (show q ≤ lq f by omega) hb hall
      have e83'' : τ4 83 2 = nI 0 := by rw [l6 83 (by decide) (by decide), e83']
      obtain ⟨τa, τb, τc, p1, p2, p3, g1, g2, g3, _, ⟨w1, w2, w3, w4, w5, w6, w7⟩⟩ := add3_eq e83'' 1 (nI q) 3 (nI (rsR f R q 0 + rsR f R q 1)) (nI kd) (nI pl)
      have B5 : ShR 8 R τc := ShR_c (fun a _ _ => by rw [g3 a (by omega) (by omega) (by omega), l6 a (by omega) (by omega)]) B3
      have K5 : ShK 1 τc := ShK_of (ShR_c (fun a _ _ => g3 a (by omega) (by omega) (by omega)) l5)
      obtain ⟨τ6, m1, m2, m3⟩ := shopcopy_eq (d := 1) (s := 8) B5 G K5 (by omega)
      have hc : f_X10_read σ = some (-1, up τ6 99 1 0) := by
        rw [hcar, hcar2, l1, bind_s]
        show (bzW ((f_X0_add 83 1 (nI q) τ4).bind _)).bind _ = _
        rw [p1, bind_s]
        show (bzW ((f_X0_add 83 3 (nI (rsR f R q 0 + rsR f R q 1)) τa).bind _)).bind _ = _
        rw [p2, bind_s]
        unfold f_X6_faultKind f_X6_faultKind_0 f_X6_faultPlace f_X6_faultPlace_0
        rw [bind_s, bind_s, g2 99 (by decide) (by decide) (by decide), l2, l3, p3, bind_s, m1, bind_s]
        rfl
      have fr : ∀ a, a ≠ 99 → a ≠ 83 → a ≠ 84 → a ≠ 85 → ¬ (2 ≤ a ∧ a ≤ 14) → (up τ6 99 1 0) a = σ a := fun a h1 h2 h3 h4 h5 => by rw [up_k _ _ _ h1, m3 a (by omega), g3 a h2 h3 h4, l6 a (by omega) h1, G3 a h1 h2 (by omega)]
      have CIf : CI R n H hv V (up τ6 99 1 0) := by
        refine ⟨ShR_c (fun a _ _ => up_k _ _ _ (by omega)) m2, ?_, ?_, ⟨nx, ?_⟩, ?_, fun h => ⟨?_, (c6 h).2⟩⟩
        · exact ShK_c (fun a _ _ => by rw [up_k _ _ _ (by omega), m3 a (by omega)]) (ShK_of B5)
        · exact ShK_c (fun a _ _ => fr a (by omega) (by omega) (by omega) (by omega) (by omega)) c3
        · exact Ring_c (fun a _ _ => fr a (by omega) (by omega) (by omega) (by omega) (by omega)) c4
        · rw [fr 0 (by decide) (by decide) (by decide) (by decide) (by decide)]; exact c5
        · exact ShR_c (fun a _ _ => fr a (by omega) (by omega) (by omega) (by omega) (by omega)) (c6 h).1
      have CXf : CX 0 tx nr rk rp 3 (fun i => if i = 0 then 1 else if i = 1 then 3 else nI kd) (fun i => if i = 0 then nI q else if i = 1 then nI (rsR f R q 0 + rsR f R q 1) else nI pl) (up τ6 99 1 0) := by
        refine ⟨up_s .., fun i hi => absurd hi (Nat.not_lt_zero _), ?_, fun i hi => ?_, ?_, fun i hi => ?_⟩
        · rw [fr 80 (by decide) (by decide) (by decide) (by decide) (by decide)]; exact y3
        · rw [fr 81 (by decide) (by decide) (by decide) (by decide) (by decide), fr 82 (by decide) (by decide) (by decide) (by decide) (by decide)]; exact y4 i hi
        · rw [up_k _ _ _ (by decide), m3 83 (by omega)]; exact w1
        · rw [up_k _ _ _ (by decide), up_k _ _ _ (by decide), m3 84 (by omega), m3 85 (by omega)]
          have : i = 0 ∨ i = 1 ∨ i = 2 := by omega
          rcases this with rfl | rfl | rfl
          · exact ⟨w2, w3⟩
          · exact ⟨w4, w5⟩
          · exact ⟨w6, w7⟩
      have hυ : ∀ a, 101 ≤ a → (up τ6 99 1 0) a = σ a := fun a h => fr a (by omega) (by omega) (by omega) (by omega) (by omega)
      generalize up τ6 99 1 0 = υ at *
      obtain ⟨τg, h1, h2, h3, h4, h5, h6, h7, h8⟩ := refhead υ hυ
      obtain ⟨τh, kd2, pl2, dI2, i1, i2, i3, i4⟩ := loopR_bad X ht h2 h3 (fun j hj => hGs j (by omega)) h4 h5 (show q ≤ lq f by omega) hb hall
      rw [dI] at dI2
      cases dI2
      have hg : f_X11_read υ = some (-1, upA (up τh 101 8 0) 102 (rwN R)) := by
        rw [h1, i1, bind_s]
        unfold f_X11_read_j164
        rw [if_neg (show ¬ up τh 101 8 0 101 14 ≤ 0 by rw [up_j _ _ _ (by decide), i2.1]; decide), backs_eq, bind_s]
        have : blk 0 761 ((up τh 101 8 0) 104) ((up τh 101 8 0) 102) = rwN R := by
          rw [up_k _ _ _ (by decide), up_k _ _ _ (by decide), i4]
          refine row_eq (fun i hi => ?_) G.2.2.2.2.2.2.2 (hGs q (by omega)).2.2.2.2.2.2.2
          rw [i3.1 104 (by decide) (by decide) (by decide) (by decide) (by decide) (by decide), h6 i hi]
        rw [this]
      have d1 : ∀ a, a ≠ 101 → a ≠ 102 → a ≠ 104 → a ≠ 109 → a ≠ 110 → a ≠ 111 → a ≠ 121 → (upA (up τh 101 8 0) 102 (rwN R)) a = υ a := fun a x1 x2 x3 x4 x5 x6 x7 => by rw [upA_ne _ _ x2, up_k _ _ _ x1, i3.1 a x1 x2 x4 x5 x6 x7, h7 a x1 x3 x7]
      have d2 : ∀ j, j ≠ 0 → j ≠ 8 → j ≠ 14 → ¬ (38 ≤ j ∧ j ≤ 46) → (upA (up τh 101 8 0) 102 (rwN R)) 101 j = σ 101 j := fun j x1 x2 x3 x4 => by rw [upA_ne _ _ (by decide), up_j _ _ _ x2, i3.2 j x3 x4, h8 j x1 x3 x4]
      refine read_fin (R' := R) (n' := n) (H' := H) (hv := hv) (V := V) hc hg (fun a h => d1 a (by omega) (by omega) (by omega) (by omega) (by omega) (by omega) (by omega)) G ⟨S1, Nat.zero_le _, fun i hi => absurd hi (Nat.not_lt_zero _), S4, by decide⟩ CIf CXf ⟨upA_same .., ?_, fun j hj i hi => ?_, ?_, fun h i hi => ?_⟩ ⟨?_, fun i hi => absurd hi (Nat.not_lt_zero _), ?_, fun i hi => ?_, ?_, fun i hi => ?_⟩
      · rw [d2 5 (by decide) (by decide) (by decide) (by decide)]; exact r2
      · rw [d1 105 (by decide) (by decide) (by decide) (by decide) (by decide) (by decide) (by decide), hυ 105 (by decide)]; exact r3 j hj i hi
      · rw [d2 6 (by decide) (by decide) (by decide) (by decide)]; exact r4
      · rw [d1 103 (by decide) (by decide) (by decide) (by decide) (by decide) (by decide) (by decide), hυ 103 (by decide)]; exact r5 h i hi
      · rw [upA_ne _ _ (by decide), up_s]; rfl
      · rw [d2 13 (by decide) (by decide) (by decide) (by decide)]; exact z3
      · rw [d1 107 (by decide) (by decide) (by decide) (by decide) (by decide) (by decide) (by decide), d1 108 (by decide) (by decide) (by decide) (by decide) (by decide) (by decide) (by decide), hυ 107 (by decide), hυ 108 (by decide)]; exact z4 i hi
      · rw [upA_ne _ _ (by decide), up_j _ _ _ (by decide), i2.1]
      · rw [upA_ne _ _ (by decide), upA_ne _ _ (by decide), up_k _ _ _ (by decide), up_k _ _ _ (by decide)]
        obtain ⟨_, t1, t2, t3, t4, t5, t6⟩ := i2
        have : i = 0 ∨ i = 1 ∨ i = 2 := by omega
        rcases this with rfl | rfl | rfl
        · exact ⟨t1, t2⟩
        · exact ⟨t3, t4⟩
        · exact ⟨t5, t6⟩
    · -- all items are carried out
      obtain ⟨τ4, l1, l4, l5, l7, l6⟩ := loopC_ok X ht C3 T3 G hall
      have B4 : ShR 8 R τ4 := ShR_c (fun a _ _ => l6 a (by omega) (by omega)) B3
      have W4 : Ring nx n H τ4 := Ring_c (fun a _ _ => by rw [l6 a (by omega) (by omega), G3 a (by omega) (by omega) (by omega)]) c4
      obtain ⟨τ5, m1, m2, m3⟩ := push_eq B4 G (Or.inr rfl) W4
      have hc : f_X10_read σ = some (nI (lq f + 1), up τ5 99 1 0) := by
        rw [hcar, hcar2, l1, bind_s]
        show (bzW ((f_X2_push 8 τ4).bind _)).bind _ = _
        rw [m1, bind_s]
        rfl
      have fr : ∀ a, a ≠ 99 → a ≠ 83 → ¬ (2 ≤ a ∧ a ≤ 14) → (a < 23 ∨ 78 < a) → (up τ5 99 1 0) a = σ a := fun a h1 h2 h5 h6 => by rw [up_k _ _ _ h1, m3 a h6, l6 a (by omega) h1, G3 a h1 h2 (by omega)]
      have CIf : CI (rsR f R (lq f + 1)) (min (n + 1) 8) (pushH R H) hv V (up τ5 99 1 0) := by
        refine ⟨ShR_c (fun a _ _ => by rw [up_k _ _ _ (by omega), m3 a (by omega)]) l5, ?_, ?_, ⟨_, Ring_c (fun a _ _ => up_k _ _ _ (by omega)) m2⟩, ?_, fun h => ⟨?_, (c6 h).2⟩⟩
        · exact ShK_c (fun a _ _ => by rw [up_k _ _ _ (by omega), m3 a (by omega)]) (ShK_of B4)
        · exact ShK_c (fun a _ _ => fr a (by omega) (by omega) (by omega) (by omega)) c3
        · rw [fr 0 (by decide) (by decide) (by decide) (by decide)]; exact c5
        · exact ShR_c (fun a _ _ => fr a (by omega) (by omega) (by omega) (by omega)) (c6 h).1
      have CXf : CX 0 tx nr rk rp 0 fk fp (up τ5 99 1 0) := by
        refine ⟨up_s .., fun i hi => absurd hi (Nat.not_lt_zero _), ?_, fun i hi => ?_, ?_, fun i hi => absurd hi (Nat.not_lt_zero _)⟩
        · rw [fr 80 (by decide) (by decide) (by decide) (by decide)]; exact y3
        · rw [fr 81 (by decide) (by decide) (by decide) (by decide), fr 82 (by decide) (by decide) (by decide) (by decide)]; exact y4 i hi
        · rw [up_k _ _ _ (by decide), m3 83 (by omega), l6 83 (by decide) (by decide)]; exact e83'
      have hυ : ∀ a, 101 ≤ a → (up τ5 99 1 0) a = σ a := fun a h => fr a (by omega) (by omega) (by omega) (by omega)
      generalize up τ5 99 1 0 = υ at *
      obtain ⟨τg, h1, h2, h3, h4, h5, h6, h7, h8⟩ := refhead υ hυ
      obtain ⟨τh, i1, i2, i3, i4, i5⟩ := loopR_ok X ht h2 h3 (fun j hj => hGs j (by omega)) h4 h5 hall
      have gg : ∀ j, j ≠ 0 → j ≠ 8 → j ≠ 14 → ¬ (38 ≤ j ∧ j ≤ 46) → (up τh 101 8 0) 101 j = σ 101 j := fun j x1 x2 x3 x4 => by rw [up_j _ _ _ x2, i5.2 j x3 x4, h8 j x1 x3 x4]
      have ga : ∀ a, a ≠ 101 → a ≠ 102 → a ≠ 104 → a ≠ 109 → a ≠ 110 → a ≠ 111 → a ≠ 121 → (up τh 101 8 0) a = υ a := fun a x1 x2 x3 x4 x5 x6 x7 => by rw [up_k _ _ _ x1, i5.1 a x1 x2 x4 x5 x6 x7, h7 a x1 x3 x7]
      have RIi : RI (rsR f R (lq f + 1)) n H hv V (up τh 101 8 0) := by
        refine ⟨by rw [up_k _ _ _ (by decide), i2], ?_, fun j hj i hi => ?_, ?_, fun h i hi => ?_⟩
        · rw [gg 5 (by decide) (by decide) (by decide) (by decide)]; exact r2
        · rw [ga 105 (by decide) (by decide) (by decide) (by decide) (by decide) (by decide) (by decide), hυ 105 (by decide)]; exact r3 j hj i hi
        · rw [gg 6 (by decide) (by decide) (by decide) (by decide)]; exact r4
        · rw [ga 103 (by decide) (by decide) (by decide) (by decide) (by decide) (by decide) (by decide), hυ 103 (by decide)]; exact r5 h i hi
      obtain ⟨τj, k1, k2, k3, k4⟩ := RI_keep RIi (fun i hi => by rw [up_k _ _ _ (by decide), i5.1 104 (by decide) (by decide) (by decide) (by decide) (by decide) (by decide)]; exact h6 i hi) S1
      have hg : f_X11_read υ = some (nI (lq f + 1), τj) := by
        rw [h1, i1, bind_s]
        unfold f_X11_read_j164
        rw [if_pos (show up τh 101 8 0 101 14 ≤ 0 by rw [up_j _ _ _ (by decide), i4]; decide), k1, bind_s, k4 40 (by decide), up_j _ _ _ (by decide), i3]
      refine read_fin (fk' := fk) (fp' := fp) hc hg (fun a h => by rw [k3 a (by omega) (by omega), ga a (by omega) (by omega) (by omega) (by omega) (by omega) (by omega) (by omega)]) (hGs _ (Nat.le_refl _)) ⟨by omega, Nat.zero_le _, fun i hi => absurd hi (Nat.not_lt_zero _), S4, by decide⟩ CIf CXf k2 ⟨?_, fun i hi => absurd hi (Nat.not_lt_zero _), ?_, fun i hi => ?_, ?_, fun i hi => absurd hi (Nat.not_lt_zero _)⟩
      · rw [k4 8 (by decide), up_s]; rfl
      · rw [k4 13 (by decide), gg 13 (by decide) (by decide) (by decide) (by decide)]; exact z3
      · rw [k3 107 (by decide) (by decide), k3 108 (by decide) (by decide), ga 107 (by decide) (by decide) (by decide) (by decide) (by decide) (by decide) (by decide), ga 108 (by decide) (by decide) (by decide) (by decide) (by decide) (by decide) (by decide), hυ 107 (by decide), hυ 108 (by decide)]; exact z4 i hi
      · rw [k4 14 (by decide), up_j _ _ _ (by decide), i4]; rfl
