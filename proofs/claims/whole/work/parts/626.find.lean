/-! PURE FACTS, 38: the best way to nest a shape -/
variable {k : Nat} {R : Nat → Nat} {σ τ : St}
theorem wI_wle {a b : Nat} (ha : a < 2 ^ 30) (hb : b < 2 ^ 30) : (wI a ≤ wI b) = (a ≤ b) := by
  have h1 : (wI a).toInt = (a : Int) - 2 := pk_sub_toInt ha (by decide)
  have h2 : (wI b).toInt = (b : Int) - 2 := pk_sub_toInt hb (by decide)
  apply propext
  rw [Int32.le_iff_toInt_le, h1, h2]
  omega
abbrev B4 : Type := Nat × Nat × Nat × Nat
def nst (R : Nat → Nat) (h s x y t : Nat) (b : B4) : B4 := if jn R h s t (lN x) (lN y) = 0 ∧ b.1 < comN R h s x y t + 1 then (comN R h s x y t + 1, x, y, t) else b
def bT (R : Nat → Nat) (h s x y : Nat) (b : B4) (n : Nat) : B4 := fo (fun t b => nst R h s x y t b) n b
def bX (R : Nat → Nat) (h s y : Nat) (b : B4) (n : Nat) : B4 := fo (fun x b => bT R h s x y b 4) n b
def bY (R : Nat → Nat) (h s n : Nat) : B4 := fo (fun y b => bX R h s y b (sc R s)) n (0, 0, 0, 0)
def sB (R : Nat → Nat) (h s : Nat) : B4 := bY R h s (sr R s)
def VB (R : Nat → Nat) (h s : Nat) (b : B4) : Prop := b.1 ≤ 65 ∧ (0 < b.1 → b.2.1 < sc R s ∧ b.2.2.1 < sr R s ∧ b.2.2.2 < 4 ∧ jn R h s b.2.2.2 (lN b.2.1) (lN b.2.2.1) = 0)
theorem VB_nst {h s x y t : Nat} {b : B4} (hx : x < sc R s) (hy : y < sr R s) (ht : t < 4) (hb : VB R h s b) : VB R h s (nst R h s x y t b) := by
  unfold nst
  split
  · rename_i e
    exact ⟨by have := comN_le (R := R) h s x y t; show _ + 1 ≤ _; omega, fun _ => ⟨hx, hy, ht, e.1⟩⟩
  · exact hb
theorem VB_T {h s x y : Nat} {b : B4} (hx : x < sc R s) (hy : y < sr R s) (hb : VB R h s b) {n : Nat} (hn : n ≤ 4) : VB R h s (bT R h s x y b n) := by
  unfold bT
  exact fo_inv (fun _ b => VB R h s b) _ b hb n (fun i b hi hb => VB_nst hx hy (by omega) hb)
theorem VB_X {h s y : Nat} {b : B4} (hy : y < sr R s) (hb : VB R h s b) {n : Nat} (hn : n ≤ sc R s) : VB R h s (bX R h s y b n) := by
  unfold bX
  exact fo_inv (fun _ b => VB R h s b) _ b hb n (fun i b hi hb => VB_T (by omega) hy hb (Nat.le_refl _))
theorem VB_Y {h s n : Nat} (hn : n ≤ sr R s) : VB R h s (bY R h s n) := by
  unfold bY
  exact fo_inv (fun _ b => VB R h s b) _ (0, 0, 0, 0) ⟨Nat.zero_le _, fun h => absurd h (Nat.lt_irrefl _)⟩ n (fun i b hi hb => VB_X (by omega) hb (Nat.le_refl _))
theorem jn_fit (G : Good R) {h s x y t : Nat} (hh : h < R 1) (hs : s < R 0) (hx : x < 100) (hy : y < 100) (h0 : jn R h s t (lN x) (lN y) = 0) : Fits R h s x y t := by
  obtain ⟨x', y', a1, a2, a3, a4, F⟩ := jn_fits G hh hs h0
  rw [lN_inj (by omega) (by omega) a3, lN_inj (by omega) (by omega) a4]
  exact F
def EncC (s : Nat) (b : B4) (τ : St) : Prop := τ 87 5 = wI (b.1 + 1) ∧ (0 < b.1 → τ 87 1 = nI s ∧ τ 87 2 = nI b.2.1 ∧ τ 87 3 = nI b.2.2.1 ∧ τ 87 4 = nI b.2.2.2)
def Fs (σ τ : St) : Prop := ∀ a, a ≠ 87 → a ≠ 88 → τ a = σ a
theorem nI64 {a : Nat} (h : a < 2 ^ 31) : (nI a).toInt64 = lN a := nI_l h
theorem turn_C (T : ShR 1 R σ) (G : Good R) {h s x y t : Nat} {b : B4} (hh : h < R 1) (hs : s < R 0) (hst : R (653 + h) ≠ 0) (h20 : R 2 ≠ 20) (hx : x < sc R s) (hy : y < sr R s) (ht : t < 4) (F : Fs σ τ) (E : EncC s b τ) (hb : VB R h s b) : ∃ τ', f_X7_lookOn_l29 1 (nI h) (nI s) (nI y) (nI x) (nI t, τ) = some (.inl (nI (t + 1), τ')) ∧ Fs σ τ' ∧ EncC s (nst R h s x y t b) τ' := by
  have hS := GS G hs
  have T' : ShR 1 R τ := ShR_c (fun a h1 h2 => F a (by omega) (by omega)) T
  have hb1 := hb.1
  have hcm := comN_le (R := R) h s x y t
  unfold f_X7_lookOn_l29 f_X7_lookOn_j117
  dsimp only
  rw [if_neg (show ¬ (4 : Int32) ≤ nI t from nI_ge (b := 4) ht (by decide)), grainC_eq T' G hh hs ht, bind_s, show (0 : Int32) = nI 0 from rfl]
  simp only [bN_e0]
  by_cases c1 : gr R h s t = false
  · have e : jn R h s t (lN x) (lN y) ≠ 0 := by unfold jn; rw [if_pos c1]; decide
    rw [if_pos c1]
    refine ⟨τ, by rw [nI_1], F, ?_⟩
    unfold nst
    rw [if_neg (fun h => e h.1)]
    exact E
  · rw [if_neg c1]
    obtain ⟨υ, f1, f2⟩ := fitC_eq (f := 88) T' G (by decide) hh hs ht (nI x) (nI y)
    rw [nI64 (by omega), nI64 (by omega)] at f2
    have F' : Fs σ υ := fun a h1 h2 => by rw [f1 a h2, F a h1 h2]
    have E' : EncC s b υ := by
      unfold EncC at *
      rw [f1 87 (by decide)]
      exact E
    rcases f2 with ⟨f2, f3⟩ | ⟨f2, k0, f3, _⟩
    · have e : jn R h s t (lN x) (lN y) = 0 := by unfold jn; rw [if_neg c1, if_neg hst, if_neg h20, if_pos (fb_16 f3)]
      have hF := jn_fit G hh hs (by omega) (by omega) e
      have T2 : ShR 1 R υ := ShR_c (fun a h1 h2 => F' a (by omega) (by omega)) T
      rw [f2, bind_s, if_neg (show ¬ nI 1 = nI 0 by decide), comN_C T2 G hh hs ht hF, bind_s]
      dsimp only
      have hle : (nI (comN R h s x y t) ≤ υ 87 5) = (comN R h s x y t + 2 ≤ b.1 + 1) := by rw [E'.1]; exact nI_lew (by omega) (by omega)
      by_cases e2 : comN R h s x y t + 2 ≤ b.1 + 1
      · rw [if_pos (hle.mpr e2)]
        refine ⟨υ, by rw [nI_1], F', ?_⟩
        unfold nst
        rw [if_neg (by omega)]
        exact E'
      · rw [if_neg (fun q => e2 (hle.mp q))]
        refine ⟨_, by rw [nI_1], fun a h1 h2 => by rw [up_k _ _ _ h1, up_k _ _ _ h1, up_k _ _ _ h1, up_k _ _ _ h1, up_k _ _ _ h1, F' a h1 h2], ?_⟩
        unfold nst
        rw [if_pos ⟨e, by omega⟩]
        refine ⟨?_, fun _ => ⟨?_, ?_, ?_, ?_⟩⟩
        · rw [up_j _ _ _ (by decide), up_j _ _ _ (by decide), up_j _ _ _ (by decide), up_j _ _ _ (by decide), up_s, wI_p]
        · rw [up_j _ _ _ (by decide), up_j _ _ _ (by decide), up_j _ _ _ (by decide), up_s]
        · rw [up_j _ _ _ (by decide), up_j _ _ _ (by decide), up_s]
        · rw [up_j _ _ _ (by decide), up_s]
        · rw [up_s]
    · have e : jn R h s t (lN x) (lN y) ≠ 0 := by unfold jn; rw [if_neg c1, if_neg hst, if_neg h20, fb_k f3, if_neg (by have := f3.1; omega)]; decide
      rw [f2, bind_s, if_pos rfl]
      refine ⟨υ, by rw [nI_1], F', ?_⟩
      unfold nst
      rw [if_neg (fun h => e h.1)]
      exact E'
theorem look_C (T : ShR 1 R σ) (G : Good R) {h s : Nat} (hh : h < R 1) (hs : s < R 0) (hst : R (653 + h) ≠ 0) (h20 : R 2 ≠ 20) (F : Fs σ τ) (E : τ 87 5 = wI 1) : ∃ τ', f_X7_lookOn 1 (nI h) (nI s) τ = some τ' ∧ Fs σ τ' ∧ EncC s (sB R h s) τ' := by
  have hS := GS G hs
  have hT : ∀ τ, Fs σ τ → ShR 1 R τ := fun τ F => ShR_c (fun a h1 h2 => F a (by omega) (by omega)) T
  obtain ⟨r, q1, q2⟩ := lp_fu (f := f_X7_lookOn_l3 1 (nI h) (nI s)) (fun y z => ∃ τ', z = (nI y, τ') ∧ Fs σ τ' ∧ EncC s (bY R h s y) τ') (fun τ' => Fs σ τ' ∧ EncC s (sB R h s) τ') (sr R s) (by omega) (nI 0, τ) ⟨τ, rfl, F, E, fun h => absurd h (Nat.lt_irrefl _)⟩ (by
    rintro y z hy ⟨τ1, rfl, F1, E1⟩
    left
    obtain ⟨r, p1, p2⟩ := lp_fu (f := f_X7_lookOn_l16 1 (nI h) (nI s) (nI y)) (fun x z => ∃ τ', z = (nI x, τ') ∧ Fs σ τ' ∧ EncC s (bX R h s y (bY R h s y) x) τ') (fun τ' => Fs σ τ' ∧ EncC s (bX R h s y (bY R h s y) (sc R s)) τ') (sc R s) (by omega) (nI 0, τ1) ⟨τ1, rfl, F1, E1⟩ (by
      rintro x z hx ⟨τ2, rfl, F2, E2⟩
      left
      obtain ⟨r, o1, o2⟩ := lp_fu (f := f_X7_lookOn_l29 1 (nI h) (nI s) (nI y) (nI x)) (fun t z => ∃ τ', z = (nI t, τ') ∧ Fs σ τ' ∧ EncC s (bT R h s x y (bX R h s y (bY R h s y) x) t) τ') (fun τ' => Fs σ τ' ∧ EncC s (bT R h s x y (bX R h s y (bY R h s y) x) 4) τ') 4 (by decide) (nI 0, τ2) ⟨τ2, rfl, F2, E2⟩ (by
        rintro t z ht ⟨τ3, rfl, F3, E3⟩
        left
        obtain ⟨τ4, m1, m2, m3⟩ := turn_C T G hh hs hst h20 hx hy ht F3 E3 (VB_T hx hy (VB_X hy (VB_Y (by omega)) (by omega)) (by omega))
        exact ⟨_, m1, τ4, rfl, m2, m3⟩) (by
        rintro z ⟨τ3, rfl, F3, E3⟩
        refine ⟨τ3, ?_, F3, E3⟩
        unfold f_X7_lookOn_l29
        dsimp only
        rw [if_pos (show (4 : Int32) ≤ nI 4 from nI_le (a := 4) (Nat.le_refl _) (by decide))])
      refine ⟨(nI (x + 1), r), ?_, r, rfl, o2.1, o2.2⟩
      unfold f_X7_lookOn_l16
      dsimp only
      rw [columnsOf_eq (hT τ2 F2) G hs, bind_s, if_neg (nI_ge hx (by omega)), show (0 : Int32) = nI 0 from rfl, o1, bind_s, nI_1]) (by
      rintro z ⟨τ2, rfl, F2, E2⟩
      refine ⟨τ2, ?_, F2, E2⟩
      unfold f_X7_lookOn_l16
      dsimp only
      rw [columnsOf_eq (hT τ2 F2) G hs, bind_s, if_pos (nI_le (Nat.le_refl _) (by omega))])
    refine ⟨(nI (y + 1), r), ?_, r, rfl, p2.1, p2.2⟩
    unfold f_X7_lookOn_l3
    dsimp only
    rw [rowsOf_eq (hT τ1 F1) G hs, bind_s, if_neg (nI_ge hy (by omega)), show (0 : Int32) = nI 0 from rfl, p1, bind_s, nI_1]) (by
    rintro z ⟨τ1, rfl, F1, E1⟩
    refine ⟨τ1, ?_, F1, E1⟩
    unfold f_X7_lookOn_l3
    dsimp only
    rw [rowsOf_eq (hT τ1 F1) G hs, bind_s, if_pos (nI_le (Nat.le_refl _) (by omega))])
  refine ⟨r, ?_, q2⟩
  unfold f_X7_lookOn f_X7_lookOn_0
  rw [show (0 : Int32) = nI 0 from rfl, q1]
  rfl
def Found (R : Nat → Nat) (h s : Nat) : Prop := s < R 0 ∧ 0 < (sB R h s).1 ∧ ∀ s', s' < s → (sB R h s').1 = 0
def NoneF (R : Nat → Nat) (h : Nat) : Prop := ∀ s, s < R 0 → (sB R h s).1 = 0
theorem Found_u {h s s' : Nat} (a : Found R h s) (b : Found R h s') : s = s' := by
  rcases Nat.lt_trichotomy s s' with e | e | e
  · have := b.2.2 s e; have := a.2.1; omega
  · exact e
  · have := a.2.2 s' e; have := b.2.1; omega
theorem sB_no {h : Nat} (H : ∀ s x y t, jn R h s t (lN x) (lN y) ≠ 0) (s : Nat) : (sB R h s).1 = 0 := by
  have h1 : ∀ x y t b, nst R h s x y t b = b := fun x y t b => by unfold nst; rw [if_neg (fun h => H s x y t h.1)]
  have h2 : ∀ x y b n, bT R h s x y b n = b := fun x y b n => by
    unfold bT
    induction n with
    | zero => rfl
    | succ n ih => show nst R h s x y n (fo _ n b) = b; rw [h1, ih]
  have h3 : ∀ y b n, bX R h s y b n = b := fun y b n => by
    unfold bX
    induction n with
    | zero => rfl
    | succ n ih => show bT R h s n y (fo _ n b) 4 = b; rw [h2, ih]
  have h4 : ∀ n, bY R h s n = (0, 0, 0, 0) := fun n => by
    unfold bY
    induction n with
    | zero => rfl
    | succ n ih => show bX R h s n (fo _ n (0, 0, 0, 0)) (sc R s) = _; rw [h3, ih]
  unfold sB
  rw [h4]
theorem find_C (T : ShR 1 R σ) (G : Good R) {h : Nat} (hh : h < R 1) : ∃ τ, Fs σ τ ∧ ((f_X7_find 1 (nI h) σ = some (nI 0, τ) ∧ NoneF R h) ∨ (f_X7_find 1 (nI h) σ = some (nI 1, τ) ∧ ∃ s, Found R h s ∧ EncC s (sB R h s) τ)) := by
  have hH := GH G hh
  have g0 := G.1
  have g2 := G.2.2.1
  have F0 : Fs σ (up σ 87 5 (wI 1)) := fun a h1 h2 => up_k _ _ _ h1
  have T0 : ShR 1 R (up σ 87 5 (wI 1)) := ShR_c (fun a h1 h2 => F0 a (by omega) (by omega)) T
  have hg : f_X9_get (1 + 3) (nI h) (nI 4) (up σ 87 5 (wI 1)) = some (nI (R (653 + h))) := by
    rw [hg_eq T0 (by omega), (T0.2.2.2.1 h hh).2.2.2.2.1]
  have hful : f_X9_isFull (1 + 5) (up σ 87 5 (wI 1)) = some (if R 2 = 20 then 1 else 0) := full_eq (lim := 20) T0.2.1.2.2.2.2.1 T0.2.1.2.2.2.2.2 T0.1.2.2 (by decide) (by decide) g2 (by decide)
  unfold f_X7_find f_X7_find_0
  have em1 : (-1 : Int32) = wI 1 := rfl
  rw [em1, show (4 : Int32) = nI 4 from rfl, hg, bind_s]
  by_cases c2 : R (653 + h) = 0
  · refine ⟨up σ 87 5 (wI 1), F0, Or.inl ⟨?_, fun s _ => sB_no (fun s x y t => ?_) s⟩⟩
    · rw [c2, if_pos (by decide)]
      rfl
    · unfold jn
      by_cases c1 : gr R h s t = false
      · rw [if_pos c1]; decide
      · rw [if_neg c1, if_pos c2]; decide
  · rw [if_neg (show ¬ nI (R (653 + h)) < (1 : Int32) from nI_nlt (b := 1) (by omega) (by omega)), hful, bind_s]
    by_cases c3 : R 2 = 20
    · refine ⟨up σ 87 5 (wI 1), F0, Or.inl ⟨?_, fun s _ => sB_no (fun s x y t => ?_) s⟩⟩
      · rw [if_pos c3, if_neg (by decide)]
        rfl
      · unfold jn
        by_cases c1 : gr R h s t = false
        · rw [if_pos c1]; decide
        · rw [if_neg c1, if_neg c2, if_pos c3]; decide
    · rw [if_neg c3, if_pos rfl]
      have hsz : ∀ τ, Fs σ τ → f_X9_size (1 + 1) τ = some (nI (R 0)) := fun τ F => by
        rw [size_eq, F 2 (by decide) (by decide)]
        exact congrArg some T.2.1.2.1
      obtain ⟨r, q1, q2⟩ := lp_fu (f := f_X7_find_l32 1 (nI h)) (fun i z => ∃ τ, z = (nI i, τ) ∧ Fs σ τ ∧ ((τ 87 5 = wI 1 ∧ ∀ s', s' < i → (sB R h s').1 = 0) ∨ ∃ s, Found R h s ∧ EncC s (sB R h s) τ)) (fun τ => Fs σ τ ∧ ((τ 87 5 = wI 1 ∧ NoneF R h) ∨ ∃ s, Found R h s ∧ EncC s (sB R h s) τ)) (R 0) (by omega) (nI 0, up σ 87 5 (wI 1)) ⟨_, rfl, F0, Or.inl ⟨up_s .., fun s' hs' => absurd hs' (Nat.not_lt_zero _)⟩⟩ (by
        rintro i z hi ⟨τ, rfl, F, hz⟩
        rcases hz with ⟨z1, z2⟩ | ⟨s, z1, z2⟩
        · left
          obtain ⟨τ', m1, m2, m3⟩ := look_C T G hh hi c2 c3 F z1
          refine ⟨(nI (i + 1), τ'), ?_, τ', rfl, m2, ?_⟩
          · unfold f_X7_find_l32
            dsimp only
            rw [hsz τ F, bind_s, if_neg (nI_ge hi (by omega)), if_neg (show ¬ (0 : Int32) ≤ τ 87 5 by rw [z1]; decide), m1, bind_s, nI_1]
          · by_cases e : (sB R h i).1 = 0
            · left
              refine ⟨by rw [m3.1, e], fun s' hs' => ?_⟩
              by_cases e2 : s' = i
              · subst e2; exact e
              · exact z2 s' (by omega)
            · exact Or.inr ⟨i, ⟨hi, by omega, z2⟩, m3⟩
        · right
          refine ⟨τ, ?_, F, Or.inr ⟨s, z1, z2⟩⟩
          unfold f_X7_find_l32
          dsimp only
          have v : (0 : Int32) ≤ τ 87 5 := by
            rw [z2.1]
            obtain ⟨v, hv⟩ : ∃ v, (sB R h s).1 = v + 1 := ⟨(sB R h s).1 - 1, by have := z1.2.1; omega⟩
            have hVB := (VB_Y (R := R) (h := h) (s := s) (n := sr R s) (Nat.le_refl _)).1
            change (sB R h s).1 ≤ 65 at hVB
            rw [hv, wI_p]
            exact nI_pos' (by omega)
          rw [hsz τ F, bind_s, if_neg (nI_ge hi (by omega)), if_pos v]) (by
        rintro z ⟨τ, rfl, F, hz⟩
        refine ⟨τ, ?_, F, hz⟩
        unfold f_X7_find_l32
        dsimp only
        rw [hsz τ F, bind_s, if_pos (nI_le (Nat.le_refl _) (by omega))])
      rw [show (0 : Int32) = nI 0 from rfl, q1, bind_s]
      unfold f_X7_find_j63
      rcases q2 with ⟨F, ⟨z1, z2⟩ | ⟨s, z1, z2⟩⟩
      · exact ⟨r, F, Or.inl ⟨by rw [if_pos (show r 87 5 < (0 : Int32) by rw [z1]; decide)]; rfl, z2⟩⟩
      · refine ⟨r, F, Or.inr ⟨?_, s, z1, z2⟩⟩
        have v : ¬ r 87 5 < (0 : Int32) := by
          rw [z2.1]
          obtain ⟨v, hv⟩ : ∃ v, (sB R h s).1 = v + 1 := ⟨(sB R h s).1 - 1, by have := z1.2.1; omega⟩
          have hVB := (VB_Y (R := R) (h := h) (s := s) (n := sr R s) (Nat.le_refl _)).1
          change (sB R h s).1 ≤ 65 at hVB
          rw [hv, wI_p]
          exact nI_nlt0 (by omega)
        rw [if_neg v]
        rfl
