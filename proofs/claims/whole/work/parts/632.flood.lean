/-! PURE FACTS, 44: remnants, both sides -/
variable {k : Nat} {R : Nat → Nat} {σ τ : St}
theorem Rch_x {w h s0 c : Nat} {f g : Nat → Nat} (e : ∀ c, c < w * h → f c = g c) (hs : s0 < w * h) (H : Rch w (w * h) (fun c => f c = 1) (fun c => c = s0 ∧ f c = 1) c) : Rch w (w * h) (fun c => g c = 1) (fun c => c = s0 ∧ g c = 1) c :=
  (H (fun c => c < w * h ∧ Rch w (w * h) (fun c => g c = 1) (fun c => c = s0 ∧ g c = 1) c) (fun a ha => by
    obtain ⟨rfl, ha2⟩ := ha
    exact ⟨hs, Rch_s ⟨rfl, by rw [← e a hs]; exact ha2⟩⟩) (fun a b ha hn ho => ⟨Nb_lt ha.1 hn, Rch_n ha.2 hn (by
    have := e b (Nb_lt ha.1 hn)
    show g b = 1
    rw [← this]
    exact ho)⟩)).2
theorem Fl_u {w h g s0 : Nat} {f0 f1 a b : Nat → Nat} (e : ∀ c, c < w * h → f0 c = f1 c) (hs : s0 < w * h) (A : Fl w (w * h) f0 g s0 a) (B : Fl w (w * h) f1 g s0 b) : ∀ c, c < w * h → a c = b c := by
  intro c hc
  by_cases q : Rch w (w * h) (fun c => f0 c = 1) (fun c => c = s0 ∧ f0 c = 1) c
  · rw [(A c hc).1 q, (B c hc).1 (Rch_x e hs q)]
  · have q2 : ¬ Rch w (w * h) (fun c => f1 c = 1) (fun c => c = s0 ∧ f1 c = 1) c := fun h2 => q (Rch_x (fun c hc => (e c hc).symm) hs h2)
    rw [(A c hc).2 q, (B c hc).2 q2, e c hc]
/-- the labels and their number behind the cells below i -/
def RemS (w n : Nat) (f0 : Nat → Nat) : Nat → (Nat → Nat) → Nat → Prop
  | 0, f, m => (∀ c, c < n → f c = f0 c) ∧ m = 0
  | i + 1, f, m => ∃ f' m', RemS w n f0 i f' m' ∧ ((f' i = 1 ∧ m = m' + 1 ∧ Fl w n f' m' i f) ∨ (f' i ≠ 1 ∧ m = m' ∧ ∀ c, c < n → f c = f' c))
theorem RemS_u {w h i m1 m2 : Nat} {f0 a b : Nat → Nat} (hi : i ≤ w * h) (A : RemS w (w * h) f0 i a m1) (B : RemS w (w * h) f0 i b m2) : m1 = m2 ∧ ∀ c, c < w * h → a c = b c := by
  induction i generalizing a b m1 m2 with
  | zero => exact ⟨A.2.trans B.2.symm, fun c hc => (A.1 c hc).trans (B.1 c hc).symm⟩
  | succ i ih =>
    obtain ⟨a', n1, a1, a2⟩ := A
    obtain ⟨b', n2, b1, b2⟩ := B
    obtain ⟨e1, e2⟩ := ih (by omega) a1 b1
    subst e1
    have e3 := e2 i (by omega)
    rcases a2 with ⟨x1, x2, x3⟩ | ⟨x1, x2, x3⟩ <;> rcases b2 with ⟨y1, y2, y3⟩ | ⟨y1, y2, y3⟩
    · exact ⟨by omega, Fl_u e2 (by omega) x3 y3⟩
    · omega
    · omega
    · exact ⟨by omega, fun c hc => by rw [x3 c hc, y3 c hc, e2 c hc]⟩
/-- labels below the number, or 0 or 1 -/
theorem RemS_b {w h i m : Nat} {f0 f : Nat → Nat} (h0 : ∀ c, c < w * h → f0 c ≤ 1) (A : RemS w (w * h) f0 i f m) : m ≤ i ∧ ∀ c, c < w * h → f c < m + 2 := by
  induction i generalizing f m with
  | zero => exact ⟨by have := A.2; omega, fun c hc => by rw [A.1 c hc]; have := h0 c hc; omega⟩
  | succ i ih =>
    obtain ⟨f', m', a1, a2⟩ := A
    obtain ⟨e1, e2⟩ := ih a1
    rcases a2 with ⟨x1, x2, x3⟩ | ⟨x1, x2, x3⟩
    · refine ⟨by omega, fun c hc => ?_⟩
      by_cases q : Rch w (w * h) (fun c => f' c = 1) (fun c => c = i ∧ f' c = 1) c
      · rw [(x3 c hc).1 q]; omega
      · rw [(x3 c hc).2 q]; have := e2 c hc; omega
    · exact ⟨by omega, fun c hc => by rw [x3 c hc]; have := e2 c hc; omega⟩
def rf0 (R : Nat → Nat) (s : Nat) : Nat → Nat := fun c => if on R s c = 1 then 1 else 0
theorem rf0_le (s c : Nat) : rf0 R s c ≤ 1 := by
  unfold rf0
  split <;> omega
theorem begin_eq (T : ShR 1 R σ) (G : Good R) {s : Nat} (hs : s < R 0) : f_X4_begin 1 (nI s) σ = some (up (up σ 89 2 (nI (sc R s))) 89 3 (nI (sr R s))) := by
  have T2 : ShR 1 R (up σ 89 2 (nI (sc R s))) := ShR_c (fun a _ _ => up_k _ _ _ (by omega)) T
  unfold f_X4_begin f_X4_begin_0
  rw [columnsOf_eq T G hs, bind_s, rowsOf_eq T2 G hs]
  rfl
/-- the class fills in the labels, with a code for each cell -/
theorem fill_eq (T : ShR 1 R σ) {w h : Nat} (hn : w * h ≤ 100) (v : Nat → Nat) (f : Int32 × St → Option ((Int32 × St) ⊕ St)) (hw : σ 89 2 = nI w) (hh : σ 89 3 = nI h) (hs : ∀ i τ, i < w * h → τ 89 = σ 89 → ShR 1 R τ → f (nI i, τ) = some (.inl (nI (i + 1), up τ 90 i (wI (v i))))) (hx : ∀ τ, τ 89 = σ 89 → f (nI (w * h), τ) = some (.inr τ)) : ∃ τ, lp f FU (nI 0, σ) = some τ ∧ Rg w h v τ ∧ Fq σ τ := by
  obtain ⟨r, q1, q2, q3⟩ := lp_fu (f := f) (fun i z => ∃ τ, z = (nI i, τ) ∧ (∀ a, a ≠ 90 → τ a = σ a) ∧ ∀ c, c < i → τ 90 c = wI (v c)) (fun τ => (∀ a, a ≠ 90 → τ a = σ a) ∧ ∀ c, c < w * h → τ 90 c = wI (v c)) (w * h) (by omega) (nI 0, σ) ⟨σ, rfl, fun _ _ => rfl, fun c hc => absurd hc (Nat.not_lt_zero _)⟩ (by
    rintro i z hi ⟨τ, rfl, q1, q2⟩
    left
    refine ⟨_, hs i τ hi (q1 89 (by decide)) (ShR_c (fun a _ _ => q1 a (by omega)) T), _, rfl, fun a ha => by rw [up_k _ _ _ ha, q1 a ha], fun c hc => ?_⟩
    by_cases e : c = i
    · subst e; exact up_s ..
    · rw [up_j _ _ _ e]; exact q2 c (by omega)) (by
    rintro z ⟨τ, rfl, q1, q2⟩
    exact ⟨τ, hx τ (q1 89 (by decide)), q1, q2⟩)
  exact ⟨r, q1, ⟨by rw [q2 89 (by decide), hw], by rw [q2 89 (by decide), hh], q3⟩, fun a _ h2 _ => q2 a h2⟩
theorem remC_eq (T : ShR 1 R σ) (G : Good R) {s : Nat} (hs : s < R 0) : ∃ f m τ, f_X4_findRemnants 1 (nI s) σ = some (nI m, τ) ∧ RemS (sc R s) (sc R s * sr R s) (rf0 R s) (sc R s * sr R s) f m ∧ Rg (sc R s) (sr R s) f τ ∧ Fq σ τ := by
  have hS := GS G hs
  have hn := hS.2.2.2.2.2.2.1
  generalize hσ1 : up (up σ 89 2 (nI (sc R s))) 89 3 (nI (sr R s)) = σ1
  have d : ∀ a, a ≠ 89 → σ1 a = σ a := fun a ha => by rw [← hσ1, up_k _ _ _ ha, up_k _ _ _ ha]
  have T1 : ShR 1 R σ1 := ShR_c (fun a _ _ => d a (by omega)) T
  have w1 : σ1 89 2 = nI (sc R s) := by rw [← hσ1, up_j _ _ _ (by decide), up_s]
  have w2 : σ1 89 3 = nI (sr R s) := by rw [← hσ1, up_s]
  obtain ⟨τ1, a1, a2, a3⟩ := fill_eq T1 hn (rf0 R s) (f_X4_findRemnants_l8 1 (nI s)) w1 w2 (fun i τ hi h89 Tτ => by
    have ho := on_lt G hs hi
    have hp : ∀ v, f_X10_put 90 (nI i) v τ = _ := fun v => put_h (by rw [ln90.1]; omega) (by rw [ln90.1]; decide)
    unfold f_X4_findRemnants_l8 f_X4_findRemnants_j42 rf0
    dsimp only
    simp (disch := omega) only [bind_s, sum_l, sum_r, chkin, lit, nI_add, pk_mul, nI_clamp, nI_leI, nI_ltI, nI_eqI, nI_or, and1, shl1, shrx, nI_subx, pk_divx, pk_remx, nmod, nzx, if_tt, if_ff, bz_n1, bz_n0, nm1, nm2, wI_p, wI_inj, wI_n, nI_w, wI_ltI, wI_leI, nI_ltw, nI_lew, reduceIte, h89, w1, w2, onCell_eq Tτ G hs hi, hp]
    by_cases e : on R s i = 1
    · rw [if_pos e, if_pos e]
    · rw [if_neg e, if_neg e]) (fun τ h89 => by
    unfold f_X4_findRemnants_l8
    dsimp only
    simp (disch := omega) only [bind_s, sum_l, sum_r, chkin, lit, nI_add, pk_mul, nI_clamp, nI_leI, nI_ltI, nI_eqI, nI_or, and1, shl1, shrx, nI_subx, pk_divx, pk_remx, nmod, nzx, if_tt, if_ff, bz_n1, bz_n0, nm1, nm2, wI_p, wI_inj, wI_n, nI_w, wI_ltI, wI_leI, nI_ltw, nI_lew, reduceIte, h89, w1, w2])
  obtain ⟨r, q1, f, m, τ', rfl, q2, q3, q4⟩ := lp_fu (f := f_X4_findRemnants_l56 1) (fun i z => ∃ f m τ', z = (nI m, nI i, τ') ∧ RemS (sc R s) (sc R s * sr R s) (rf0 R s) i f m ∧ Rg (sc R s) (sr R s) f τ' ∧ Fq τ1 τ') (fun r => ∃ f m τ', r = (nI m, τ') ∧ RemS (sc R s) (sc R s * sr R s) (rf0 R s) (sc R s * sr R s) f m ∧ Rg (sc R s) (sr R s) f τ' ∧ Fq τ1 τ') (sc R s * sr R s) (by omega) (nI 0, nI 0, τ1) ⟨rf0 R s, 0, τ1, rfl, ⟨fun _ _ => rfl, rfl⟩, a2, Fq_r _⟩ (by
    rintro i z hi ⟨f, m, τ', rfl, S, G1, F⟩
    left
    obtain ⟨b1, b2⟩ := RemS_b (fun c _ => rf0_le s c) S
    have hl := label_in G1 hn hi
    have hfi := b2 i hi
    by_cases e : f i = 1
    · obtain ⟨f', τ2, m1, m2, m3, m4⟩ := spread_eq (g := m) ⟨hS.2.1, hS.2.2.1⟩ hn (by omega) (fun c hc => by have := b2 c hc; omega) G1 hi
      refine ⟨(nI (m + 1), nI (i + 1), τ2), ?_, f', m + 1, τ2, rfl, ⟨f, m, S, Or.inl ⟨e, rfl, m4⟩⟩, m2, Fq_t F m3⟩
      unfold f_X4_findRemnants_l56 f_X4_findRemnants_j90
      dsimp only
      simp (disch := omega) only [bind_s, sum_l, sum_r, chkin, lit, nI_add, pk_mul, nI_clamp, nI_leI, nI_ltI, nI_eqI, nI_or, and1, shl1, shrx, nI_subx, pk_divx, pk_remx, nmod, nzx, if_tt, if_ff, bz_n1, bz_n0, nm1, nm2, wI_p, wI_inj, wI_n, nI_w, wI_ltI, wI_leI, nI_ltw, nI_lew, reduceIte, G1.1, G1.2.1, hl, e, m1]
    · refine ⟨(nI m, nI (i + 1), τ'), ?_, f, m, τ', rfl, ⟨f, m, S, Or.inr ⟨e, rfl, fun _ _ => rfl⟩⟩, G1, F⟩
      unfold f_X4_findRemnants_l56 f_X4_findRemnants_j90
      dsimp only
      simp (disch := omega) only [bind_s, sum_l, sum_r, chkin, lit, nI_add, pk_mul, nI_clamp, nI_leI, nI_ltI, nI_eqI, nI_or, and1, shl1, shrx, nI_subx, pk_divx, pk_remx, nmod, nzx, if_tt, if_ff, bz_n1, bz_n0, nm1, nm2, wI_p, wI_inj, wI_n, nI_w, wI_ltI, wI_leI, nI_ltw, nI_lew, reduceIte, G1.1, G1.2.1, hl, e]) (by
    rintro z ⟨f, m, τ', rfl, S, G1, F⟩
    refine ⟨(nI m, τ'), ?_, f, m, τ', rfl, S, G1, F⟩
    unfold f_X4_findRemnants_l56
    dsimp only
    simp (disch := omega) only [bind_s, sum_l, sum_r, chkin, lit, nI_add, pk_mul, nI_clamp, nI_leI, nI_ltI, nI_eqI, nI_or, and1, shl1, shrx, nI_subx, pk_divx, pk_remx, nmod, nzx, if_tt, if_ff, bz_n1, bz_n0, nm1, nm2, wI_p, wI_inj, wI_n, nI_w, wI_ltI, wI_leI, nI_ltw, nI_lew, reduceIte, G1.1, G1.2.1])
  refine ⟨f, m, τ', ?_, q2, q3, fun a h1 h2 h3 => by rw [q4 a h1 h2 h3, a3 a h1 h2 h3, d a h1]⟩
  unfold f_X4_findRemnants f_X4_findRemnants_0
  rw [begin_eq T G hs, bind_s, hσ1, show (0 : Int32) = nI 0 from rfl, a1, bind_s, q1]
  rfl
