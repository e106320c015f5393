/-! PURE FACTS, 106: one round of the law -/
variable {σ τ : St} {xs : Nat → Int32} {L : Nat} {x5 : Int32}
theorem cmp_same (x : Int64) : lg_cmp x x = 0 := by
  unfold lg_cmp
  rw [if_neg (Int64.lt_irrefl), if_pos rfl]
theorem law_tail {c v : Int32} {τ' : St} {K : Option ((Int32 × St) ⊕ St)} (h0 : τ' 101 0 = c) (hv : c = 0 → τ' 122 0 = v) : ((f_X11_thrown τ').bind fun q12 => if q12 = c then if c = 0 then chk (inb 0 1) (if (lg_cmp ((τ' 122 (0 : Int32).toNatClampNeg).toInt64) v.toInt64) = 0 then K else none) else K else none) = K := by
  have i0 : (0 : Int32).toNatClampNeg = 0 := by decide
  unfold f_X11_thrown f_X11_thrown_0
  rw [bind_s, if_pos h0]
  by_cases e : c = 0
  · rw [if_pos e, chk_t (show inb 0 1 = true by decide), i0, hv e, if_pos (cmp_same _)]
  · rw [if_neg e]
/-- the ints of a round are there -/
def B6 (L : Nat) (x5 : Int32) : Prop := inb x5 L = true ∧ inb (x5 + 1) L = true ∧ inb (x5 + 2) L = true ∧ inb (x5 + 3) L = true ∧ inb (x5 + 4) L = true ∧ inb (x5 + 5) L = true
def LawStep (xs : Nat → Int32) (L : Nat) (x5 : Int32) (r : Option ((Int32 × St) ⊕ St)) : Prop := ∃ τ', r = some (.inl (x5 + 6, τ')) ∧ Inv τ'
theorem law_0 (I : Inv σ) (b : B6 L x5) : LawStep xs L x5 (f_L_law_j156 xs L x5 σ) := by
  obtain ⟨b0, b1, b2, b3, b4, b5⟩ := b
  obtain ⟨c, τ, v, τ', h1, h2, h3, h4, h5⟩ := call_addSheet I (xs (x5 + 1).toNatClampNeg) (xs (x5 + 2).toNatClampNeg) (xs (x5 + 3).toNatClampNeg)
  refine ⟨τ', ?_, h5⟩
  unfold f_L_law_j156 f_L_law_j233 f_L_law_j1667
  rw [chk_t b1, chk_t b2, chk_t b3, h1, bind_s]
  dsimp only
  rw [chk_t b1, chk_t b2, chk_t b3, h2, bind_s]
  exact law_tail h3 h4
theorem law_1 (I : Inv σ) (b : B6 L x5) : LawStep xs L x5 (f_L_law_j236 xs L x5 σ) := by
  obtain ⟨b0, b1, b2, b3, b4, b5⟩ := b
  obtain ⟨c, τ, v, τ', h1, h2, h3, h4, h5⟩ := call_addShape I (xs (x5 + 1).toNatClampNeg) (xs (x5 + 2).toNatClampNeg) (xs (x5 + 3).toNatClampNeg) (xs (x5 + 4).toNatClampNeg) (xs (x5 + 5).toNatClampNeg)
  refine ⟨τ', ?_, h5⟩
  unfold f_L_law_j236 f_L_law_j337 f_L_law_j1667
  rw [chk_t b1, chk_t b2, chk_t b3, chk_t b4, chk_t b5, h1, bind_s]
  dsimp only
  rw [chk_t b1, chk_t b2, chk_t b3, chk_t b4, chk_t b5, h2, bind_s]
  exact law_tail h3 h4
theorem law_2 (I : Inv σ) (b : B6 L x5) : LawStep xs L x5 (f_L_law_j340 xs L x5 σ) := by
  obtain ⟨b0, b1, b2, b3, b4, b5⟩ := b
  obtain ⟨c, τ, v, τ', h1, h2, h3, h4, h5⟩ := call_spoil I (xs (x5 + 1).toNatClampNeg) (xs (x5 + 2).toNatClampNeg)
  refine ⟨τ', ?_, h5⟩
  unfold f_L_law_j340 f_L_law_j405 f_L_law_j1667
  rw [chk_t b1, chk_t b2, h1, bind_s]
  dsimp only
  rw [chk_t b1, chk_t b2, h2, bind_s]
  exact law_tail h3 h4
theorem law_3 (I : Inv σ) (b : B6 L x5) : LawStep xs L x5 (f_L_law_j408 xs L x5 σ) := by
  obtain ⟨b0, b1, b2, b3, b4, b5⟩ := b
  obtain ⟨c, τ, v, τ', h1, h2, h3, h4, h5⟩ := call_sheet I (xs (x5 + 1).toNatClampNeg) (xs (x5 + 2).toNatClampNeg)
  refine ⟨τ', ?_, h5⟩
  unfold f_L_law_j408 f_L_law_j473 f_L_law_j1667
  rw [chk_t b1, chk_t b2, h1, bind_s]
  dsimp only
  rw [chk_t b1, chk_t b2, h2, bind_s]
  exact law_tail h3 h4
theorem law_4 (I : Inv σ) (b : B6 L x5) : LawStep xs L x5 (f_L_law_j476 xs L x5 σ) := by
  obtain ⟨b0, b1, b2, b3, b4, b5⟩ := b
  obtain ⟨c, τ, v, τ', h1, h2, h3, h4, h5⟩ := call_cell I (xs (x5 + 1).toNatClampNeg) (xs (x5 + 2).toNatClampNeg)
  refine ⟨τ', ?_, h5⟩
  unfold f_L_law_j476 f_L_law_j541 f_L_law_j1667
  rw [chk_t b1, chk_t b2, h1, bind_s]
  dsimp only
  rw [chk_t b1, chk_t b2, h2, bind_s]
  exact law_tail h3 h4
theorem law_5 (I : Inv σ) (b : B6 L x5) : LawStep xs L x5 (f_L_law_j544 xs L x5 σ) := by
  obtain ⟨b0, b1, b2, b3, b4, b5⟩ := b
  obtain ⟨c, τ, v, τ', h1, h2, h3, h4, h5⟩ := call_shape I (xs (x5 + 1).toNatClampNeg) (xs (x5 + 2).toNatClampNeg)
  refine ⟨τ', ?_, h5⟩
  unfold f_L_law_j544 f_L_law_j609 f_L_law_j1667
  rw [chk_t b1, chk_t b2, h1, bind_s]
  dsimp only
  rw [chk_t b1, chk_t b2, h2, bind_s]
  exact law_tail h3 h4
theorem law_6 (I : Inv σ) (b : B6 L x5) : LawStep xs L x5 (f_L_law_j612 xs L x5 σ) := by
  obtain ⟨b0, b1, b2, b3, b4, b5⟩ := b
  obtain ⟨c, τ, v, τ', h1, h2, h3, h4, h5⟩ := call_turned I (xs (x5 + 1).toNatClampNeg) (xs (x5 + 2).toNatClampNeg)
  refine ⟨τ', ?_, h5⟩
  unfold f_L_law_j612 f_L_law_j677 f_L_law_j1667
  rw [chk_t b1, chk_t b2, h1, bind_s]
  dsimp only
  rw [chk_t b1, chk_t b2, h2, bind_s]
  exact law_tail h3 h4
theorem law_7 (I : Inv σ) (b : B6 L x5) : LawStep xs L x5 (f_L_law_j680 xs L x5 σ) := by
  obtain ⟨b0, b1, b2, b3, b4, b5⟩ := b
  obtain ⟨c, τ, v, τ', h1, h2, h3, h4, h5⟩ := call_place I (xs (x5 + 1).toNatClampNeg) (xs (x5 + 2).toNatClampNeg) (xs (x5 + 3).toNatClampNeg) (xs (x5 + 4).toNatClampNeg) (xs (x5 + 5).toNatClampNeg)
  refine ⟨τ', ?_, h5⟩
  unfold f_L_law_j680 f_L_law_j781 f_L_law_j1667
  rw [chk_t b1, chk_t b2, chk_t b3, chk_t b4, chk_t b5, h1, bind_s]
  dsimp only
  rw [chk_t b1, chk_t b2, chk_t b3, chk_t b4, chk_t b5, h2, bind_s]
  exact law_tail h3 h4
theorem law_8 (I : Inv σ) (b : B6 L x5) : LawStep xs L x5 (f_L_law_j784 xs L x5 σ) := by
  obtain ⟨b0, b1, b2, b3, b4, b5⟩ := b
  obtain ⟨c, τ, v, τ', h1, h2, h3, h4, h5⟩ := call_take I (xs (x5 + 1).toNatClampNeg)
  refine ⟨τ', ?_, h5⟩
  unfold f_L_law_j784 f_L_law_j837 f_L_law_j1667
  rw [chk_t b1, h1, bind_s]
  dsimp only
  rw [chk_t b1, h2, bind_s]
  exact law_tail h3 h4
theorem law_9 (I : Inv σ) (b : B6 L x5) : LawStep xs L x5 (f_L_law_j840 xs L x5 σ) := by
  obtain ⟨b0, b1, b2, b3, b4, b5⟩ := b
  obtain ⟨c, τ, v, τ', h1, h2, h3, h4, h5⟩ := call_part I (xs (x5 + 1).toNatClampNeg) (xs (x5 + 2).toNatClampNeg)
  refine ⟨τ', ?_, h5⟩
  unfold f_L_law_j840 f_L_law_j905 f_L_law_j1667
  rw [chk_t b1, chk_t b2, h1, bind_s]
  dsimp only
  rw [chk_t b1, chk_t b2, h2, bind_s]
  exact law_tail h3 h4
theorem law_11 (I : Inv σ) (b : B6 L x5) : LawStep xs L x5 (f_L_law_j992 xs L x5 σ) := by
  obtain ⟨b0, b1, b2, b3, b4, b5⟩ := b
  obtain ⟨c, τ, v, τ', h1, h2, h3, h4, h5⟩ := call_nest I (xs (x5 + 1).toNatClampNeg)
  refine ⟨τ', ?_, h5⟩
  unfold f_L_law_j992 f_L_law_j1045 f_L_law_j1667
  rw [chk_t b1, h1, bind_s]
  dsimp only
  rw [chk_t b1, h2, bind_s]
  exact law_tail h3 h4
theorem law_12 (I : Inv σ) : LawStep xs L x5 (f_L_law_j1048 xs L x5 σ) := by
  obtain ⟨τ, v, τ', h1, h2, h5⟩ := call_nestAll I
  refine ⟨τ', ?_, h5⟩
  unfold f_L_law_j1048 f_L_law_j1667
  rw [h1, bind_s]
  dsimp only
  rw [h2, bind_s, if_pos rfl]
theorem law_13 (I : Inv σ) (b : B6 L x5) : LawStep xs L x5 (f_L_law_j1061 xs L x5 σ) := by
  obtain ⟨b0, b1, b2, b3, b4, b5⟩ := b
  obtain ⟨c, τ, v, τ', h1, h2, h3, h4, h5⟩ := call_remnant I (xs (x5 + 1).toNatClampNeg) (xs (x5 + 2).toNatClampNeg) (xs (x5 + 3).toNatClampNeg)
  refine ⟨τ', ?_, h5⟩
  unfold f_L_law_j1061 f_L_law_j1138 f_L_law_j1667
  rw [chk_t b1, chk_t b2, chk_t b3, h1, bind_s]
  dsimp only
  rw [chk_t b1, chk_t b2, chk_t b3, h2, bind_s]
  exact law_tail h3 h4
theorem law_14 (I : Inv σ) (b : B6 L x5) : LawStep xs L x5 (f_L_law_j1141 xs L x5 σ) := by
  obtain ⟨b0, b1, b2, b3, b4, b5⟩ := b
  obtain ⟨c, τ, v, τ', h1, h2, h3, h4, h5⟩ := call_keep I (xs (x5 + 1).toNatClampNeg) (xs (x5 + 2).toNatClampNeg)
  refine ⟨τ', ?_, h5⟩
  unfold f_L_law_j1141 f_L_law_j1206 f_L_law_j1667
  rw [chk_t b1, chk_t b2, h1, bind_s]
  dsimp only
  rw [chk_t b1, chk_t b2, h2, bind_s]
  exact law_tail h3 h4
theorem law_15 (I : Inv σ) (b : B6 L x5) : LawStep xs L x5 (f_L_law_j1209 xs L x5 σ) := by
  obtain ⟨b0, b1, b2, b3, b4, b5⟩ := b
  obtain ⟨c, τ, v, τ', h1, h2, h3, h4, h5⟩ := call_way I (xs (x5 + 1).toNatClampNeg) (xs (x5 + 2).toNatClampNeg) (xs (x5 + 3).toNatClampNeg)
  refine ⟨τ', ?_, h5⟩
  unfold f_L_law_j1209 f_L_law_j1286 f_L_law_j1667
  rw [chk_t b1, chk_t b2, chk_t b3, h1, bind_s]
  dsimp only
  rw [chk_t b1, chk_t b2, chk_t b3, h2, bind_s]
  exact law_tail h3 h4
theorem law_17 (I : Inv σ) (b : B6 L x5) : LawStep xs L x5 (f_L_law_j1355 xs L x5 σ) := by
  obtain ⟨b0, b1, b2, b3, b4, b5⟩ := b
  obtain ⟨c, τ, v, τ', h1, h2, h3, h4, h5⟩ := call_count I (xs (x5 + 1).toNatClampNeg)
  refine ⟨τ', ?_, h5⟩
  unfold f_L_law_j1355 f_L_law_j1408 f_L_law_j1667
  rw [chk_t b1, h1, bind_s]
  dsimp only
  rw [chk_t b1, h2, bind_s]
  exact law_tail h3 h4
theorem law_18 (I : Inv σ) (b : B6 L x5) : LawStep xs L x5 (f_L_law_j1411 xs L x5 σ) := by
  obtain ⟨b0, b1, b2, b3, b4, b5⟩ := b
  obtain ⟨c, τ, v, τ', h1, h2, h3, h4, h5⟩ := call_feed I (x := (xs (x5 + 1).toNatClampNeg).toBitVec.toNat % 65536) (Nat.mod_lt _ (by decide))
  rw [← pk_char] at h1 h2
  refine ⟨τ', ?_, h5⟩
  unfold f_L_law_j1411 f_L_law_j1466 f_L_law_j1667
  rw [chk_t b1, h1, bind_s]
  dsimp only
  rw [chk_t b1, h2, bind_s]
  exact law_tail h3 h4
theorem law_19 (I : Inv σ) : LawStep xs L x5 (f_L_law_j1469 xs L x5 σ) := by
  obtain ⟨τ, v, τ', h1, h2, h5⟩ := call_read I
  refine ⟨τ', ?_, h5⟩
  unfold f_L_law_j1469 f_L_law_j1667
  rw [h1, bind_s]
  dsimp only
  rw [h2, bind_s, if_pos rfl]
theorem law_21 (I : Inv σ) : LawStep xs L x5 (f_L_law_j1566 xs L x5 σ) := by
  obtain ⟨c, τ, v, τ', h1, h2, h3, h4, h5⟩ := call_undo I
  refine ⟨τ', ?_, h5⟩
  unfold f_L_law_j1566 f_L_law_j1607 f_L_law_j1667
  rw [h1, bind_s]
  dsimp only
  rw [h2, bind_s]
  exact law_tail h3 h4
theorem law_22 (I : Inv σ) : LawStep xs L x5 (f_L_law_j1610 xs L x5 σ) := by
  obtain ⟨τ, v, τ', h1, h2, h5⟩ := call_save I
  refine ⟨τ', ?_, h5⟩
  unfold f_L_law_j1610 f_L_law_j1667
  rw [h1, bind_s]
  dsimp only
  rw [h2, bind_s, if_pos rfl]
theorem law_23 (I : Inv σ) : LawStep xs L x5 (f_L_law_j1623 xs L x5 σ) := by
  obtain ⟨c, τ, v, τ', h1, h2, h3, h4, h5⟩ := call_restore I
  refine ⟨τ', ?_, h5⟩
  unfold f_L_law_j1623 f_L_law_j1664 f_L_law_j1667
  rw [h1, bind_s]
  dsimp only
  rw [h2, bind_s]
  exact law_tail h3 h4
theorem law_10 (I : Inv σ) (b : B6 L x5) : LawStep xs L x5 (f_L_law_j908 xs L x5 σ) := by
  obtain ⟨b0, b1, b2, b3, b4, b5⟩ := b
  have go : ∀ z : Int32, (if xs (x5 + 2).toNatClampNeg = 0 then z = 0 else z = 1) → LawStep xs L x5 (f_L_law_j929 xs L x5 z (xs (x5 + 1).toNatClampNeg) σ) := fun z hz => by
    obtain ⟨c, τ, v, τ', h1, h2, h3, h4, h5⟩ := call_reason I (xs (x5 + 1).toNatClampNeg) z
    have fin : f_L_law_j956 xs L x5 c z (xs (x5 + 1).toNatClampNeg) τ = some (.inl (x5 + 6, τ')) := by
      unfold f_L_law_j956 f_L_law_j989 f_L_law_j1667
      rw [h2, bind_s]
      exact law_tail h3 h4
    refine ⟨τ', ?_, h5⟩
    unfold f_L_law_j929
    rw [h1, bind_s, chk_t b1, chk_t b2]
    by_cases e : xs (x5 + 2).toNatClampNeg = 0
    · rw [if_pos e] at hz ⊢
      subst hz
      exact fin
    · rw [if_neg e] at hz ⊢
      subst hz
      exact fin
  unfold f_L_law_j908
  rw [chk_t b1, chk_t b2]
  by_cases e : xs (x5 + 2).toNatClampNeg = 0
  · rw [if_pos e]
    exact go 0 (by rw [if_pos e])
  · rw [if_neg e]
    exact go 1 (by rw [if_neg e])
theorem law_20 (I : Inv σ) (b : B6 L x5) : LawStep xs L x5 (f_L_law_j1482 xs L x5 σ) := by
  obtain ⟨b0, b1, b2, b3, b4, b5⟩ := b
  have go : ∀ z : Int32, (if xs (x5 + 2).toNatClampNeg = 0 then z = 0 else z = 1) → LawStep xs L x5 (f_L_law_j1503 xs L x5 z (xs (x5 + 1).toNatClampNeg) σ) := fun z hz => by
    obtain ⟨c, τ, v, τ', h1, h2, h3, h4, h5⟩ := call_fault I (xs (x5 + 1).toNatClampNeg) z
    have fin : f_L_law_j1530 xs L x5 c z (xs (x5 + 1).toNatClampNeg) τ = some (.inl (x5 + 6, τ')) := by
      unfold f_L_law_j1530 f_L_law_j1563 f_L_law_j1667
      rw [h2, bind_s]
      exact law_tail h3 h4
    refine ⟨τ', ?_, h5⟩
    unfold f_L_law_j1503
    rw [h1, bind_s, chk_t b1, chk_t b2]
    by_cases e : xs (x5 + 2).toNatClampNeg = 0
    · rw [if_pos e] at hz ⊢
      subst hz
      exact fin
    · rw [if_neg e] at hz ⊢
      subst hz
      exact fin
  unfold f_L_law_j1482
  rw [chk_t b1, chk_t b2]
  by_cases e : xs (x5 + 2).toNatClampNeg = 0
  · rw [if_pos e]
    exact go 0 (by rw [if_pos e])
  · rw [if_neg e]
    exact go 1 (by rw [if_neg e])
theorem law_16 (I : Inv σ) : LawStep xs L x5 (f_L_law_j1289 xs L x5 σ) := by
  have i0 : (0 : Int32).toNatClampNeg = 0 := by decide
  obtain ⟨c, τ, v, τ', h1, h2, h3, h4, h5⟩ := call_share I
  refine ⟨τ', ?_, h5⟩
  unfold f_L_law_j1289 f_L_law_j1352 f_L_law_j1667 f_X11_thrown f_X11_thrown_0
  rw [h1, bind_s]
  dsimp only
  rw [h2, bind_s]
  dsimp only
  rw [bind_s, if_pos h3]
  by_cases e : c = 0
  · obtain ⟨g1, g2, g3⟩ := h4 e
    rw [if_pos e, chk_t (show inb 0 1 = true by decide), chk_t g2, i0, if_pos (show Op.cmpValue (FP.dcmp (FP.f2d (τ' 123 0).toUInt32) (FP.f2d v.toUInt32)) CmpOp.l = 0 by rw [g1]; exact g3)]
  · rw [if_neg e]
theorem law_round (I : Inv σ) (b : B6 L x5) (hx : ¬ ((Int32.ofNat L) - 6) < x5) : LawStep xs L x5 (f_L_law_l28 xs L x5 σ) := by
  unfold f_L_law_l28
  rw [if_neg hx, chk_t b.1]
  by_cases e0 : ((xs x5.toNatClampNeg) &&& 31) = 0
  · rw [if_pos e0]; exact law_0 I b
  rw [if_neg e0]
  by_cases e1 : ((xs x5.toNatClampNeg) &&& 31) = 1
  · rw [if_pos e1]; exact law_1 I b
  rw [if_neg e1]
  by_cases e2 : ((xs x5.toNatClampNeg) &&& 31) = 2
  · rw [if_pos e2]; exact law_2 I b
  rw [if_neg e2]
  by_cases e3 : ((xs x5.toNatClampNeg) &&& 31) = 3
  · rw [if_pos e3]; exact law_3 I b
  rw [if_neg e3]
  by_cases e4 : ((xs x5.toNatClampNeg) &&& 31) = 4
  · rw [if_pos e4]; exact law_4 I b
  rw [if_neg e4]
  by_cases e5 : ((xs x5.toNatClampNeg) &&& 31) = 5
  · rw [if_pos e5]; exact law_5 I b
  rw [if_neg e5]
  by_cases e6 : ((xs x5.toNatClampNeg) &&& 31) = 6
  · rw [if_pos e6]; exact law_6 I b
  rw [if_neg e6]
  by_cases e7 : ((xs x5.toNatClampNeg) &&& 31) = 7
  · rw [if_pos e7]; exact law_7 I b
  rw [if_neg e7]
  by_cases e8 : ((xs x5.toNatClampNeg) &&& 31) = 8
  · rw [if_pos e8]; exact law_8 I b
  rw [if_neg e8]
  by_cases e9 : ((xs x5.toNatClampNeg) &&& 31) = 9
  · rw [if_pos e9]; exact law_9 I b
  rw [if_neg e9]
  by_cases e10 : ((xs x5.toNatClampNeg) &&& 31) = 10
  · rw [if_pos e10]; exact law_10 I b
  rw [if_neg e10]
  by_cases e11 : ((xs x5.toNatClampNeg) &&& 31) = 11
  · rw [if_pos e11]; exact law_11 I b
  rw [if_neg e11]
  by_cases e12 : ((xs x5.toNatClampNeg) &&& 31) = 12
  · rw [if_pos e12]; exact law_12 I
  rw [if_neg e12]
  by_cases e13 : ((xs x5.toNatClampNeg) &&& 31) = 13
  · rw [if_pos e13]; exact law_13 I b
  rw [if_neg e13]
  by_cases e14 : ((xs x5.toNatClampNeg) &&& 31) = 14
  · rw [if_pos e14]; exact law_14 I b
  rw [if_neg e14]
  by_cases e15 : ((xs x5.toNatClampNeg) &&& 31) = 15
  · rw [if_pos e15]; exact law_15 I b
  rw [if_neg e15]
  by_cases e16 : ((xs x5.toNatClampNeg) &&& 31) = 16
  · rw [if_pos e16]; exact law_16 I
  rw [if_neg e16]
  by_cases e17 : ((xs x5.toNatClampNeg) &&& 31) = 17
  · rw [if_pos e17]; exact law_17 I b
  rw [if_neg e17]
  by_cases e18 : ((xs x5.toNatClampNeg) &&& 31) = 18
  · rw [if_pos e18]; exact law_18 I b
  rw [if_neg e18]
  by_cases e19 : ((xs x5.toNatClampNeg) &&& 31) = 19
  · rw [if_pos e19]; exact law_19 I
  rw [if_neg e19]
  by_cases e20 : ((xs x5.toNatClampNeg) &&& 31) = 20
  · rw [if_pos e20]; exact law_20 I b
  rw [if_neg e20]
  by_cases e21 : ((xs x5.toNatClampNeg) &&& 31) = 21
  · rw [if_pos e21]; exact law_21 I
  rw [if_neg e21]
  by_cases e22 : ((xs x5.toNatClampNeg) &&& 31) = 22
  · rw [if_pos e22]; exact law_22 I
  rw [if_neg e22]
  by_cases e23 : ((xs x5.toNatClampNeg) &&& 31) = 23
  · rw [if_pos e23]; exact law_23 I
  rw [if_neg e23]
  exact ⟨σ, rfl, I⟩
