/-! PURE FACTS, 12: cuts -/
variable {k : Nat} {R : Nat → Nat} {σ : St}
def sm (g : Nat → Nat) (n : Nat) : Nat := fo (fun i a => a + g i) n 0
theorem sm_s (g : Nat → Nat) (n : Nat) : sm g (n + 1) = sm g n + g n := rfl
theorem sm_e {g h : Nat → Nat} {n : Nat} (e : ∀ i, i < n → g i = h i) : sm g n = sm h n := by
  induction n with
  | zero => rfl
  | succ n ih => rw [sm_s, sm_s, e n (Nat.lt_succ_self n), ih (fun i hi => e i (Nat.lt_succ_of_lt hi))]
theorem sm_le {g : Nat → Nat} {n B : Nat} (h : ∀ i, i < n → g i ≤ B) : sm g n ≤ n * B := by
  induction n with
  | zero => exact Nat.zero_le _
  | succ n ih =>
    have := ih (fun i hi => h i (Nat.lt_succ_of_lt hi))
    have := h n (Nat.lt_succ_self n)
    rw [sm_s, Nat.succ_mul]
    omega
theorem sm_add (g h : Nat → Nat) (n : Nat) : sm (fun i => g i + h i) n = sm g n + sm h n := by
  induction n with
  | zero => rfl
  | succ n ih => rw [sm_s, sm_s, sm_s, ih]; omega
theorem sm_sh (g : Nat → Nat) (d n : Nat) : sm (fun c => if d ≤ c then g (c - d) else 0) n = sm g (n - d) := by
  induction n with
  | zero => rw [Nat.zero_sub]; rfl
  | succ n ih =>
    rw [sm_s, ih]
    by_cases e : d ≤ n
    · rw [if_pos e, show n + 1 - d = (n - d) + 1 by omega, sm_s]
    · rw [if_neg e, show n + 1 - d = 0 by omega, show n - d = 0 by omega, Nat.add_zero]
theorem sm_cut (g : Nat → Nat) (d n m : Nat) (hm : m ≤ n) : sm (fun c => if c + d < n then g c else 0) m = sm g (min m (n - d)) := by
  induction m with
  | zero => simp [sm, fo]
  | succ m ih =>
    rw [sm_s, ih (by omega)]
    by_cases e : m + d < n
    · rw [if_pos e, show min (m + 1) (n - d) = min m (n - d) + 1 by omega, sm_s]
      congr 2
      omega
    · rw [if_neg e, show min (m + 1) (n - d) = min m (n - d) by omega, Nat.add_zero]
theorem sm_move (g : Nat → Nat) (d n : Nat) : sm (fun c => if d ≤ c then g (c - d) else 0) n = sm (fun c => if c + d < n then g c else 0) n := by
  rw [sm_sh, sm_cut g d n n (Nat.le_refl _)]
  congr 1
  omega
theorem lin_mod {w y x : Nat} (h : x < w) : (w * y + x) % w = x := by
  rw [Nat.mul_add_mod, Nat.mod_eq_of_lt h]
theorem lin_div {w y x : Nat} (h : x < w) : (w * y + x) / w = y := by
  rw [Nat.mul_add_div (by omega), Nat.div_eq_of_lt h, Nat.add_zero]
theorem lin_s {w y x : Nat} (h : x < w) : ((w * y + x + 1) % w = 0) = (x + 1 = w) := by
  apply propext
  by_cases e : x + 1 = w
  · have h2 : w * y + x + 1 = w * (y + 1) := by rw [Nat.mul_succ]; omega
    rw [h2, Nat.mul_mod_right]
    simp [e]
  · rw [show w * y + x + 1 = w * y + (x + 1) by omega, lin_mod (by omega)]
    constructor
    · intro h2; omega
    · intro h2; exact absurd h2 e
theorem lin_u {w y x : Nat} (h : x < w) : (w * y + x < w) = (y = 0) := by
  apply propext
  constructor
  · intro h2
    cases y with
    | zero => rfl
    | succ y => rw [Nat.mul_succ] at h2; omega
  · rintro rfl; omega
theorem lin_d {w y x h : Nat} (hx : x < w) : (w * y + x + w < w * h) = (y + 1 < h) := by
  apply propext
  constructor
  · intro h2
    rcases Nat.lt_or_ge (y + 1) h with e | e
    · exact e
    · have := Nat.mul_le_mul_left w e
      rw [Nat.mul_succ] at this
      omega
  · intro h2
    have := xy_lt hx h2
    rw [Nat.mul_succ] at this
    omega
/-- the codes beside a cell: on its right, below, on its left, above; 0 where there is none -/
def nr (R : Nat → Nat) (s c : Nat) : Nat := if (c + 1) % sc R s = 0 then 0 else on R s (c + 1)
def nd (R : Nat → Nat) (s c : Nat) : Nat := if c + sc R s < sc R s * sr R s then on R s (c + sc R s) else 0
def nl (R : Nat → Nat) (s c : Nat) : Nat := if c % sc R s = 0 then 0 else on R s (c - 1)
def nu (R : Nat → Nat) (s c : Nat) : Nat := if c < sc R s then 0 else on R s (c - sc R s)
theorem onP_0 {s x y : Nat} (hx : x < sc R s) (hy : y < sr R s) : onP R s x y = on R s (sc R s * y + x) := if_pos ⟨hx, hy⟩
theorem onP_r {s x y : Nat} (hx : x < sc R s) (hy : y < sr R s) : onP R s (x + 1) y = nr R s (sc R s * y + x) := by
  unfold onP nr
  simp only [lin_s hx]
  by_cases e : x + 1 = sc R s
  · rw [if_neg (by omega), if_pos e]
  · rw [if_pos (by omega), if_neg e]
    congr 1
theorem onP_d {s x y : Nat} (hx : x < sc R s) (hy : y < sr R s) : onP R s x (y + 1) = nd R s (sc R s * y + x) := by
  unfold onP nd
  simp only [lin_d hx]
  by_cases e : y + 1 < sr R s
  · rw [if_pos ⟨hx, e⟩, if_pos e]
    congr 1
    rw [Nat.mul_succ]
    omega
  · rw [if_neg (by omega), if_neg e]
theorem onP_l {s x y : Nat} (hx : x < sc R s) (hy : y < sr R s) : (if x = 0 then 0 else onP R s (x - 1) y) = nl R s (sc R s * y + x) := by
  unfold onP nl
  rw [lin_mod hx]
  by_cases e : x = 0
  · rw [if_pos e, if_pos e]
  · rw [if_neg e, if_neg e, if_pos (by omega)]
    congr 1
    omega
theorem onP_u {s x y : Nat} (hx : x < sc R s) (hy : y < sr R s) : (if y = 0 then 0 else onP R s x (y - 1)) = nu R s (sc R s * y + x) := by
  unfold onP nu
  simp only [lin_u hx]
  by_cases e : y = 0
  · rw [if_pos e, if_pos e]
  · rw [if_neg e, if_neg e, if_pos (by omega)]
    obtain ⟨z, rfl⟩ : ∃ z, y = z + 1 := ⟨y - 1, by omega⟩
    congr 1
    rw [Nat.add_sub_cancel, Nat.mul_succ]
    omega
theorem onPlace_l (T : ShR k R σ) (G : Good R) {s x y : Nat} (hs : s < R 0) (hx : x < 2 ^ 20) (hy : y < 2 ^ 20) : f_X8_onPlace k (nI s) (nI x - nI 1) (nI y) σ = some (wI (if x = 0 then 0 else onP R s (x - 1) y)) := by
  by_cases e : x = 0
  · rw [e, pr_w, if_pos rfl, onPlace_m1 T G hs]
  · rw [nI_subx (by omega), if_neg e, onPlace_eq T G hs (by omega) hy]
theorem onPlace_u (T : ShR k R σ) (G : Good R) {s x y : Nat} (hs : s < R 0) (hx : x < 2 ^ 20) (hy : y < 2 ^ 20) : f_X8_onPlace k (nI s) (nI x) (nI y - nI 1) σ = some (wI (if y = 0 then 0 else onP R s x (y - 1))) := by
  by_cases e : y = 0
  · rw [e, pr_w, if_pos rfl, onPlace_m2 T G hs hx]
  · rw [nI_subx (by omega), if_neg e, onPlace_eq T G hs hx (by omega)]
def isc (o n : Nat) (b : Bool) : Bool := decide (o ≠ n) && ((!decide (o < 2) && !decide (n < 2)) || (!b && (!decide (o < 2) || !decide (n < 2))))
theorem isCut_eq {o n : Nat} (b : Bool) (ho : o < 100) (hn : n < 100) : f_X8_isCut (wI o) (wI n) (nI (bN b)) = some (nI (bN (isc o n b))) := by
  unfold f_X8_isCut f_X8_isCut_0 f_X8_isCut_j12 f_X8_isCut_j13 f_X8_isCut_j35 isc
  simp (disch := omega) only [bind_s, sum_l, sum_r, chkin, lit, nI_add, pk_mul, nI_clamp, nI_leI, nI_ltI, nI_eqI, nI_or, and1, shl1, shrx, nI_subx, pk_divx, pk_remx, nmod, nzx, if_tt, if_ff, bz_n1, bz_n0, nm1, nm2, wI_p, wI_inj, wI_n, nI_w, wI_ltI, wI_leI, nI_ltw, nI_lew, reduceIte, bN_e0]
  by_cases a1 : o < 2 <;> by_cases a2 : n < 2 <;> by_cases a3 : o = n <;> cases b <;> simp [a1, a2, a3, bN] <;> rfl
def cutf (R : Nat → Nat) (s : Nat) (b : Bool) (c : Nat) : Nat := (if (c + 1) % sc R s = 0 then 0 else bN (isc (on R s c) (on R s (c + 1)) b)) + (if c + sc R s < sc R s * sr R s then bN (isc (on R s c) (on R s (c + sc R s)) b) else 0)
theorem cutf_le (s : Nat) (b : Bool) (c : Nat) : cutf R s b c ≤ 2 := by
  unfold cutf
  have h1 := bN_lt (isc (on R s c) (on R s (c + 1)) b)
  have h2 := bN_lt (isc (on R s c) (on R s (c + sc R s)) b)
  split <;> split <;> omega
theorem cutsOn_eq (T : ShR k R σ) (G : Good R) {s : Nat} (hs : s < R 0) (b : Bool) : f_X8_cutsOn k (nI s) (nI (bN b)) σ = some (nI (sm (cutf R s b) (sc R s * sr R s))) := by
  obtain ⟨h0, h1, h2, h3, h4, h5, h6, h7⟩ := GS G hs
  unfold f_X8_cutsOn f_X8_cutsOn_0
  have hb : ∀ m, m ≤ sc R s * sr R s → sm (cutf R s b) m < 1000 := fun m hm => by
    have := sm_le (g := cutf R s b) (n := m) (B := 2) (fun i _ => cutf_le s b i)
    omega
  have := lp_ex (f := f_X8_cutsOn_l5 k (nI s) (nI (bN b)) σ) (fun y => (nI (sm (cutf R s b) (sc R s * y)), nI y)) (nI (sm (cutf R s b) (sc R s * sr R s))) (sr R s) (by omega) (fun y hy => by
    have q := lp_ex (f := f_X8_cutsOn_l18 k (nI s) (nI (bN b)) (nI y) σ) (fun x => (nI (sm (cutf R s b) (sc R s * y + x)), nI x)) (nI (sm (cutf R s b) (sc R s * (y + 1)))) (sc R s) (by omega) (fun x hx => by
      have hc := xy_lt hx hy
      have o1 := on_lt G hs hc
      have o2 := onP_0 (R := R) hx hy
      have o3 : onP R s (x + 1) y < 100 := by
        unfold onP
        split
        · rename_i h
          have := on_lt G hs (xy_lt h.1 h.2)
          omega
        · omega
      have o4 : onP R s x (y + 1) < 100 := by
        unfold onP
        split
        · rename_i h
          have := on_lt G hs (xy_lt h.1 h.2)
          omega
        · omega
      unfold f_X8_cutsOn_l18
      dsimp only
      have hj : ∀ a, f_X8_cutsOn_j74 k (nI s) (nI (bN b)) (nI a) (nI y) (nI x) (wI (on R s (sc R s * y + x))) σ = some (.inl (nI (a + (if sc R s * y + x + sc R s < sc R s * sr R s then bN (isc (on R s (sc R s * y + x)) (on R s (sc R s * y + x + sc R s)) b) else 0)), nI (x + 1))) := by
        intro a
        unfold f_X8_cutsOn_j74 f_X8_cutsOn_j109
        simp (disch := omega) only [bind_s, sum_l, sum_r, chkin, lit, nI_add, pk_mul, nI_clamp, nI_leI, nI_ltI, nI_eqI, nI_or, and1, shl1, shrx, nI_subx, pk_divx, pk_remx, nmod, nzx, if_tt, if_ff, bz_n1, bz_n0, nm1, nm2, wI_p, wI_inj, wI_n, nI_w, wI_ltI, wI_leI, nI_ltw, nI_lew, reduceIte, rowsOf_eq T G hs, onPlace_eq T G hs]
        rw [onP_d hx hy] at o4 ⊢
        unfold nd at *
        simp only [lin_d hx] at o4 ⊢
        by_cases e : y + 1 < sr R s
        · rw [if_neg (by omega)]
          rw [if_pos e] at o4
          simp only [if_pos e]
          rw [isCut_eq b (by omega) o4]
          simp (disch := omega) only [bind_s, sum_l, sum_r, chkin, lit, nI_add, pk_mul, nI_clamp, nI_leI, nI_ltI, nI_eqI, nI_or, and1, shl1, shrx, nI_subx, pk_divx, pk_remx, nmod, nzx, if_tt, if_ff, bz_n1, bz_n0, nm1, nm2, wI_p, wI_inj, wI_n, nI_w, wI_ltI, wI_leI, nI_ltw, nI_lew, reduceIte, bN_e0]
          cases isc (on R s (sc R s * y + x)) (on R s (sc R s * y + x + sc R s)) b <;> simp [bN]
        · rw [if_pos (by omega), if_neg e]
          rfl
      simp (disch := omega) only [bind_s, sum_l, sum_r, chkin, lit, nI_add, pk_mul, nI_clamp, nI_leI, nI_ltI, nI_eqI, nI_or, and1, shl1, shrx, nI_subx, pk_divx, pk_remx, nmod, nzx, if_tt, if_ff, bz_n1, bz_n0, nm1, nm2, wI_p, wI_inj, wI_n, nI_w, wI_ltI, wI_leI, nI_ltw, nI_lew, reduceIte, columnsOf_eq T G hs, onPlace_eq T G hs, o2]
      have e9 : sm (cutf R s b) (sc R s * y + (x + 1)) = sm (cutf R s b) (sc R s * y + x) + cutf R s b (sc R s * y + x) := rfl
      have e8 : cutf R s b (sc R s * y + x) = (if (sc R s * y + x + 1) % sc R s = 0 then 0 else bN (isc (on R s (sc R s * y + x)) (on R s (sc R s * y + x + 1)) b)) + (if sc R s * y + x + sc R s < sc R s * sr R s then bN (isc (on R s (sc R s * y + x)) (on R s (sc R s * y + x + sc R s)) b) else 0) := rfl
      rw [e9, e8]
      clear e9 e8
      simp only [lin_s hx]
      rw [onP_r hx hy] at *
      unfold nr at *
      simp only [lin_s hx] at o3 ⊢
      by_cases e : x + 1 = sc R s
      · rw [if_pos (by omega), hj, if_pos e, Nat.zero_add]
      · rw [if_neg (by omega)]
        rw [if_neg e] at o3
        simp only [if_neg e]
        rw [isCut_eq b (by omega) o3]
        simp (disch := omega) only [bind_s, sum_l, sum_r, chkin, lit, nI_add, pk_mul, nI_clamp, nI_leI, nI_ltI, nI_eqI, nI_or, and1, shl1, shrx, nI_subx, pk_divx, pk_remx, nmod, nzx, if_tt, if_ff, bz_n1, bz_n0, nm1, nm2, wI_p, wI_inj, wI_n, nI_w, wI_ltI, wI_leI, nI_ltw, nI_lew, reduceIte, bN_e0]
        rw [hj, hj]
        cases isc (on R s (sc R s * y + x)) (on R s (sc R s * y + x + 1)) b <;> simp [bN, cutf, Nat.add_assoc]) (by
      unfold f_X8_cutsOn_l18
      dsimp only
      simp (disch := omega) only [bind_s, sum_l, sum_r, chkin, lit, nI_add, pk_mul, nI_clamp, nI_leI, nI_ltI, nI_eqI, nI_or, and1, shl1, shrx, nI_subx, pk_divx, pk_remx, nmod, nzx, if_tt, if_ff, bz_n1, bz_n0, nm1, nm2, wI_p, wI_inj, wI_n, nI_w, wI_ltI, wI_leI, nI_ltw, nI_lew, reduceIte, columnsOf_eq T G hs]
      rfl)
    rw [Nat.add_zero] at q
    unfold f_X8_cutsOn_l5
    dsimp only
    simp (disch := omega) only [bind_s, sum_l, sum_r, chkin, lit, nI_add, pk_mul, nI_clamp, nI_leI, nI_ltI, nI_eqI, nI_or, and1, shl1, shrx, nI_subx, pk_divx, pk_remx, nmod, nzx, if_tt, if_ff, bz_n1, bz_n0, nm1, nm2, wI_p, wI_inj, wI_n, nI_w, wI_ltI, wI_leI, nI_ltw, nI_lew, reduceIte, rowsOf_eq T G hs, q]) (by
    unfold f_X8_cutsOn_l5
    dsimp only
    simp (disch := omega) only [bind_s, sum_l, sum_r, chkin, lit, nI_add, pk_mul, nI_clamp, nI_leI, nI_ltI, nI_eqI, nI_or, and1, shl1, shrx, nI_subx, pk_divx, pk_remx, nmod, nzx, if_tt, if_ff, bz_n1, bz_n0, nm1, nm2, wI_p, wI_inj, wI_n, nI_w, wI_ltI, wI_leI, nI_ltw, nI_lew, reduceIte, rowsOf_eq T G hs])
  rw [Nat.mul_zero] at this
  have e0 : (nI (sm (cutf R s b) 0), nI 0) = (nI 0, nI 0) := rfl
  rw [e0] at this
  simp (disch := omega) only [bind_s, sum_l, sum_r, chkin, lit, nI_add, pk_mul, nI_clamp, nI_leI, nI_ltI, nI_eqI, nI_or, and1, shl1, shrx, nI_subx, pk_divx, pk_remx, nmod, nzx, if_tt, if_ff, bz_n1, bz_n0, nm1, nm2, wI_p, wI_inj, wI_n, nI_w, wI_ltI, wI_leI, nI_ltw, nI_lew, reduceIte, this]
