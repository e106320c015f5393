/-! PURE FACTS, 40: nesting all, 1: what cannot be nested stays so -/
variable {k n len nr nf : Nat} {R V tx : Nat → Nat} {H : Nat → Nat → Nat} {hv : Bool} {rk rp fk fp : Nat → Int32} {σ τ : St}
theorem fo_up {B : Type} (μ : B → Nat) {g : Nat → B → B} {n : Nat} (h : ∀ i b, i < n → μ b ≤ μ (g i b)) (b : B) : μ b ≤ μ (fo g n b) := by
  induction n with
  | zero => exact Nat.le_refl _
  | succ n ih => exact Nat.le_trans (ih (fun i b hi => h i b (Nat.lt_succ_of_lt hi))) (h n _ (Nat.lt_succ_self n))
theorem fo_pos {B : Type} (μ : B → Nat) {g : Nat → B → B} {n : Nat} (h : ∀ i b, i < n → μ b ≤ μ (g i b)) {i : Nat} (hi : i < n) (hp : ∀ b, 0 < μ (g i b)) (b : B) : 0 < μ (fo g n b) := by
  induction n with
  | zero => exact absurd hi (Nat.not_lt_zero _)
  | succ n ih =>
    by_cases e : i = n
    · subst e; exact hp _
    · exact Nat.lt_of_lt_of_le (ih (fun i b hi => h i b (Nat.lt_succ_of_lt hi)) (by omega)) (h n _ (Nat.lt_succ_self n))
theorem nst_up (h s x y t : Nat) (b : B4) : b.1 ≤ (nst R h s x y t b).1 := by
  unfold nst
  split
  · rename_i e; exact Nat.le_of_lt e.2
  · exact Nat.le_refl _
theorem bT_up (h s x y : Nat) (b : B4) (n : Nat) : b.1 ≤ (bT R h s x y b n).1 := fo_up (fun b : B4 => b.1) (fun i b _ => nst_up h s x y i b) b
theorem bX_up (h s y : Nat) (b : B4) (n : Nat) : b.1 ≤ (bX R h s y b n).1 := fo_up (fun b : B4 => b.1) (fun i b _ => bT_up h s i y b 4) b
theorem sB_0 {h s : Nat} (h0 : (sB R h s).1 = 0) {x y t : Nat} (hx : x < sc R s) (hy : y < sr R s) (ht : t < 4) : jn R h s t (lN x) (lN y) ≠ 0 := by
  intro e
  have p1 : ∀ b, 0 < (nst R h s x y t b).1 := fun b => by
    unfold nst
    by_cases e2 : b.1 < comN R h s x y t + 1
    · rw [if_pos ⟨e, e2⟩]; exact Nat.succ_pos _
    · rw [if_neg (fun q => e2 q.2)]; omega
  have p2 : ∀ b, 0 < (bT R h s x y b 4).1 := fun b => fo_pos (fun b : B4 => b.1) (fun i b _ => nst_up h s x y i b) ht p1 b
  have p3 : ∀ b, 0 < (bX R h s y b (sc R s)).1 := fun b => fo_pos (fun b : B4 => b.1) (fun i b _ => bT_up h s i y b 4) hx p2 b
  have p4 : 0 < (sB R h s).1 := fo_pos (fun b : B4 => b.1) (fun i b _ => bX_up h s i b (sc R s)) hy p3 (0, 0, 0, 0)
  omega
theorem sB_1 {h s : Nat} (H : ∀ x y t, x < sc R s → y < sr R s → t < 4 → jn R h s t (lN x) (lN y) ≠ 0) : (sB R h s).1 = 0 := by
  have p1 : ∀ x y t b, x < sc R s → y < sr R s → t < 4 → b.1 = 0 → (nst R h s x y t b).1 = 0 := fun x y t b hx hy ht hb => by
    unfold nst
    rw [if_neg (fun q => H x y t hx hy ht q.1)]
    exact hb
  have p2 : ∀ x y b, x < sc R s → y < sr R s → b.1 = 0 → (bT R h s x y b 4).1 = 0 := fun x y b hx hy hb => fo_inv (fun (_ : Nat) (b : B4) => b.1 = 0) _ b hb 4 (fun i b hi hb => p1 x y i b hx hy hi hb)
  have p3 : ∀ y b, y < sr R s → b.1 = 0 → (bX R h s y b (sc R s)).1 = 0 := fun y b hy hb => fo_inv (fun (_ : Nat) (b : B4) => b.1 = 0) _ b hb (sc R s) (fun i b hi hb => p2 i y b hi hy hb)
  exact fo_inv (fun (_ : Nat) (b : B4) => b.1 = 0) _ (0, 0, 0, 0) rfl (sr R s) (fun i b hi hb => p3 i b hi hb)
theorem jn_i (G : Good R) {h s x y t : Nat} (hh : h < R 1) (hs : s < R 0) (hx : x < 100) (hy : y < 100) : jn R h s t (lN x) (lN y) = 0 ↔ gr R h s t = true ∧ R (653 + h) ≠ 0 ∧ R 2 ≠ 20 ∧ Fits R h s x y t := by
  constructor
  · intro e
    have j := jn_0 e
    exact ⟨j.1, j.2.1, j.2.2.1, jn_fit G hh hs hx hy e⟩
  · rintro ⟨a, b, c, d⟩
    unfold jn
    rw [if_neg (by rw [a]; decide), if_neg b, if_neg c, if_pos (fb_16 (fits_to G hh hs d))]
theorem none_mono (G : Good R) {h g s x y t : Nat} (h2 : R 2 < 20) (hh : h < R 1) (hs : s < R 0) (hg : g < R 1) (N : NoneF R g) : NoneF (rPart R h s x y t) g := by
  have g0 := G.1
  have g1 := G.2.1
  obtain ⟨n1, n2, n3, n4, n5, n6, n10, n7, n8, n9⟩ := rPart_n (R := R) (h := h) (s := s) (x := x) (y := y) (t := t) h2 (by omega)
  have O := (rPart_on (x := x) (y := y) (t := t) G h2 hh hs).2
  intro s' hs'
  have hs1 : s' < R 0 := by rw [n7 0 (by omega) (by omega) (by omega)] at hs'; exact hs'
  have hS := GS G hs1
  have e1 : sc (rPart R h s x y t) s' = sc R s' := n7 _ (by omega) (by omega) (by omega)
  have e2 : sr (rPart R h s x y t) s' = sr R s' := n7 _ (by omega) (by omega) (by omega)
  refine sB_1 (fun a b u ha hb hu e => ?_)
  rw [e1] at ha
  rw [e2] at hb
  have hn := sB_0 (N s' hs1) ha hb hu
  apply hn
  have e3 : gr (rPart R h s x y t) g s' u = gr R g s' u := by
    unfold gr
    rw [n7 (645 + g) (by omega) (by omega) (by omega), n7 (15 + s') (by omega) (by omega) (by omega)]
  have tmc := tm_c (R := R) (R' := rPart R h s x y t) (h := g) (n7 _ (by omega) (by omega) (by omega)) (n7 _ (by omega) (by omega) (by omega)) (n7 _ (by omega) (by omega) (by omega)) u
  have j := jn_0 e
  rw [jn_i G hg hs1 (by omega) (by omega)]
  refine ⟨by rw [← e3]; exact j.1, fun e4 => ?_, by omega, ?_⟩
  · apply j.2.1
    by_cases e5 : g = h
    · subst e5; rw [n10, e4]
    · rw [n7 _ (by omega) (by omega) (by omega), e4]
  · have hb2 : ∀ k, k < 16 → bkd (rPart R h s x y t) g s' u (lN a) (lN b) k = false := by
      rcases fb_c (rPart R h s x y t) g s' u (lN a) (lN b) with q | q
      · exact q.2
      · have := j.2.2.2; have := q.1; omega
    have hb3 : ∀ k, k < 16 → bkd R g s' u (lN a) (lN b) k = false := fun k hk => by
      have q := hb2 k hk
      unfold bkd at q ⊢
      rw [tmc.2.2, tmc.1] at q
      by_cases e6 : bit (tm R g u) k = 1
      · rw [decide_eq_true e6, Bool.true_and] at q ⊢
        have q2 : frI (rPart R h s x y t) s' (lN a + lN (k % tc R g u)) (lN b + lN (k / tc R g u)) = true := by
          cases e7 : frI (rPart R h s x y t) s' (lN a + lN (k % tc R g u)) (lN b + lN (k / tc R g u))
          · rw [e7] at q; cases q
          · rfl
        unfold frI at q2
        rw [e1, e2, Bool.and_eq_true, decide_eq_true_eq, decide_eq_true_eq] at q2
        obtain ⟨q3, q4⟩ := q2
        obtain ⟨a', b', ha', hb', ea, eb⟩ := egI_4 (by omega) (by omega) q3
        rw [ea, eb] at q4 ⊢
        rw [cel_n (by omega) (by omega)] at q4
        have hc := xy_lt ha' hb'
        rw [e1, O s' _ hs1 (by omega)] at q4
        rw [frI_of G hs1 ha' hb', Bool.not_true]
        by_cases e8 : nhit R h s x y t s' (sc R s' * b' + a') = true
        · rw [if_pos e8] at q4; omega
        · rw [if_neg e8] at q4; exact q4
      · rw [decide_eq_false e6, Bool.false_and]
    obtain ⟨x', y', _, _, ex, ey, F⟩ := fits_of G hg hs1 hb3
    rw [lN_inj (by omega) (by omega) ex, lN_inj (by omega) (by omega) ey]
    exact F
def szh (R : Nat → Nat) (h : Nat) : Nat := pcn (R (637 + h))
def Bef (R : Nat → Nat) (a h : Nat) : Prop := szh R h < szh R a ∨ (szh R a = szh R h ∧ a < h)
def NextIs (R : Nat → Nat) (h s : Nat) : Prop := h < R 1 ∧ Found R h s ∧ ∀ a, a < R 1 → Bef R a h → NoneF R a
def Done (R : Nat → Nat) : Prop := ∀ h, h < R 1 → NoneF R h
theorem no_Found {h s : Nat} (N : NoneF R h) (F : Found R h s) : False := by
  have := N s F.1
  have := F.2.1
  omega
theorem NextIs_u {h s h' s' : Nat} (a : NextIs R h s) (b : NextIs R h' s') : h = h' ∧ s = s' := by
  have e : h = h' := by
    rcases Nat.lt_trichotomy (szh R h) (szh R h') with q | q | q
    · exact absurd b.2.1 (fun F => no_Found (a.2.2 h' b.1 (Or.inl q)) F)
    · rcases Nat.lt_trichotomy h h' with p | p | p
      · exact absurd a.2.1 (fun F => no_Found (b.2.2 h a.1 (Or.inr ⟨q, p⟩)) F)
      · exact p
      · exact absurd b.2.1 (fun F => no_Found (a.2.2 h' b.1 (Or.inr ⟨q.symm, p⟩)) F)
    · exact absurd a.2.1 (fun F => no_Found (b.2.2 h a.1 (Or.inl q)) F)
  subst e
  exact ⟨rfl, Found_u a.2.1 b.2.1⟩
/-- k nestings, each the next one -/
def Ch (R : Nat → Nat) : Nat → (Nat → Nat) → Prop
  | 0, A => A = R
  | k + 1, A => ∃ B h s, Ch R k B ∧ NextIs B h s ∧ A = rNest B h s
theorem Ch_u {A B : Nat → Nat} (a : Ch R k A) (b : Ch R k B) : A = B := by
  induction k generalizing A B with
  | zero => exact (show A = R from a).trans (show B = R from b).symm
  | succ k ih =>
    obtain ⟨A', h, s, a1, a2, a3⟩ := a
    obtain ⟨B', h', s', b1, b2, b3⟩ := b
    have e := ih a1 b1
    subst e
    obtain ⟨e1, e2⟩ := NextIs_u a2 b2
    subst e1 e2
    rw [a3, b3]
theorem Done_no {h s : Nat} (D : Done R) (N : NextIs R h s) : False := no_Found (D h N.1) N.2.1
theorem Ch_le {A B : Nat → Nat} {j : Nat} (a : Ch R k A) (D : Done A) (b : Ch R j B) : j ≤ k := by
  induction j generalizing B with
  | zero => exact Nat.zero_le _
  | succ j ih =>
    obtain ⟨B', h, s, b1, b2, b3⟩ := b
    have h1 := ih b1
    by_cases e : j = k
    · subst e
      have := Ch_u a b1
      subst this
      exact (Done_no D b2).elim
    · omega
theorem Ch_end {A B : Nat → Nat} {j : Nat} (a : Ch R k A) (D : Done A) (b : Ch R j B) (D2 : Done B) : k = j ∧ A = B := by
  have h1 := Ch_le a D b
  have h2 := Ch_le b D2 a
  have e : k = j := by omega
  subst e
  exact ⟨rfl, Ch_u a b⟩
/-- what a chain of nestings keeps -/
theorem Ch_k {A : Nat → Nat} (G : Good R) (a : Ch R k A) : Good A ∧ A 0 = R 0 ∧ A 1 = R 1 ∧ A 2 = R 2 + k ∧ (∀ h, h < R 1 → A (637 + h) = R (637 + h)) := by
  induction k generalizing A with
  | zero =>
    have e : A = R := a
    subst e
    exact ⟨G, rfl, rfl, rfl, fun _ _ => rfl⟩
  | succ k ih =>
    obtain ⟨B, h, s, a1, a2, a3⟩ := a
    obtain ⟨b1, b2, b3, b4, b5⟩ := ih a1
    subst a3
    obtain ⟨o1, o2, o3, o4⟩ := Found_ok b1 a2.1 a2.2.1
    have g0 := G.1
    have g1 := G.2.1
    have hh := a2.1
    obtain ⟨n1, n2, n3, n4, n5, n6, n10, n7, n8, n9⟩ := rPart_n (R := B) (h := h) (s := s) (x := (sB B h s).2.1) (y := (sB B h s).2.2.1) (t := (sB B h s).2.2.2) o1 (by omega)
    refine ⟨rPart_G b1 o1 a2.1 a2.2.1.1 o3 o4, ?_, ?_, ?_, fun q hq => ?_⟩
    · rw [← b2]; exact n7 0 (by omega) (by omega) (by omega)
    · rw [← b3]; exact n7 1 (by omega) (by omega) (by omega)
    · have : rNest B h s 2 = B 2 + 1 := n1
      omega
    · rw [← b5 q hq]
      exact n7 _ (by omega) (by omega) (by omega)
theorem NoneF_next (G : Good R) {h s g : Nat} (N : NextIs R h s) (hg : g < R 1) (h0 : NoneF R g) : NoneF (rNest R h s) g :=
  none_mono G (Found_ok G N.1 N.2.1).1 N.1 N.2.1.1 hg h0
theorem NoneF_20 {h : Nat} (e : R 2 = 20) : NoneF R h := fun s _ => sB_no (fun s x y t => by
  unfold jn
  by_cases c1 : gr R h s t = false
  · rw [if_pos c1]; decide
  · rw [if_neg c1]
    by_cases c2 : R (653 + h) = 0
    · rw [if_pos c2]; decide
    · rw [if_neg c2, if_pos e]; decide) s
theorem NoneF_st {h : Nat} (e : R (653 + h) = 0) : NoneF R h := fun s _ => sB_no (fun s x y t => by
  unfold jn
  by_cases c1 : gr R h s t = false
  · rw [if_pos c1]; decide
  · rw [if_neg c1, if_pos e]; decide) s
theorem pcn_16 (m : Nat) : pcn m ≤ 16 := by
  unfold pcn
  exact fo_inv (fun i n => n ≤ i) _ 0 (Nat.le_refl _) 16 (fun i b _ hb => by
    have := Nat.mod_lt (m / 2 ^ i) (show 2 > 0 by decide)
    omega)
theorem pcn_1 {m : Nat} (h : ∃ k, k < 16 ∧ bit m k = 1) : 1 ≤ pcn m := by
  obtain ⟨k, hk, hb⟩ := h
  unfold pcn
  exact fo_pos (fun n : Nat => n) (g := fun k n => n + m / 2 ^ k % 2) (fun i b _ => Nat.le_add_right _ _) hk (fun b => by
    show 0 < b + m / 2 ^ k % 2
    unfold bit at hb
    omega) 0
theorem szh_in (G : Good R) {h : Nat} (hh : h < R 1) : 1 ≤ szh R h ∧ szh R h ≤ 16 := by
  refine ⟨pcn_1 ?_, pcn_16 _⟩
  have H := G.2.2.2.2.1 h hh
  obtain ⟨i, hi, hb⟩ := H.2.1.1 0 H.1.2.2.1
  have h1 := bit_hi H.1.2.2.2.2 hb
  have h2 : R (621 + h) * R (629 + h) ≤ 4 * 4 := Nat.mul_le_mul H.1.2.1 H.1.2.2.2.1
  exact ⟨_, by omega, hb⟩
