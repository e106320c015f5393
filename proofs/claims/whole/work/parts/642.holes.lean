/-! PURE FACTS, 49: holes, the class's -/
variable {k : Nat} {R : Nat → Nat} {σ τ : St}
def edge (w n c : Nat) : Prop := c % w = 0 ∨ (c + 1) % w = 0 ∨ c < w ∨ n ≤ c + w
def Out (w n : Nat) (f0 : Nat → Nat) (c : Nat) : Prop := Rch w n (fun c => f0 c = 1) (fun c => c < n ∧ edge w n c ∧ f0 c = 1) c
def HoS (w n : Nat) (f0 f : Nat → Nat) (D : Nat → Prop) : Prop := (∀ c, c < n → f c = f0 c ∨ (f0 c = 1 ∧ f c = 2)) ∧ (∀ a b, a < n → b < n → f0 a = 1 → f a = 2 → Nb w n a b → f0 b = 1 → f b = 2) ∧ (∀ c, c < n → f0 c = 1 → f c = 2 → Out w n f0 c) ∧ ∀ c, c < n → D c → f0 c = 1 → f c = 2
theorem HoS_s {w h s0 : Nat} {f0 f f' : Nat → Nat} {D : Nat → Prop} (H : HoS w (w * h) f0 f D) (hs : s0 < w * h) (he : edge w (w * h) s0) (F : Fl w (w * h) f 0 s0 f') : HoS w (w * h) f0 f' (fun c => D c ∨ c = s0) := by
  obtain ⟨h1, h2, h3, h4⟩ := H
  have r1 : ∀ c, Rch w (w * h) (fun c => f c = 1) (fun c => c = s0 ∧ f c = 1) c → c < w * h ∧ f c = 1 := fun c hr => hr (fun c => c < w * h ∧ f c = 1) (fun a ha => ⟨by rw [ha.1]; exact hs, ha.2⟩) (fun a b ha hn ho => ⟨Nb_lt ha.1 hn, ho⟩)
  have r2 : ∀ c, Rch w (w * h) (fun c => f c = 1) (fun c => c = s0 ∧ f c = 1) c → Out w (w * h) f0 c := fun c hr => (hr (fun c => c < w * h ∧ Out w (w * h) f0 c) (fun a ha => by
      obtain ⟨rfl, ha2⟩ := ha
      refine ⟨hs, Rch_s ⟨hs, he, ?_⟩⟩
      rcases h1 a hs with q | q <;> omega) (fun a b ha hn ho => by
      have hb := Nb_lt ha.1 hn
      refine ⟨hb, Rch_n ha.2 hn ?_⟩
      show f0 b = 1
      have ho : f b = 1 := ho
      rcases h1 b hb with q | q <;> omega)).2
  have keep : ∀ c, c < w * h → f0 c = 1 → f c = 2 → f' c = 2 := fun c hc h0 hf => by
    have : ¬ Rch w (w * h) (fun c => f c = 1) (fun c => c = s0 ∧ f c = 1) c := fun hr => by have := (r1 c hr).2; omega
    rw [(F c hc).2 this, hf]
  refine ⟨fun c hc => ?_, fun a b ha hb h0 hf hn ho => ?_, fun c hc h0 hf => ?_, fun c hc hD h0 => ?_⟩
  · by_cases q : Rch w (w * h) (fun c => f c = 1) (fun c => c = s0 ∧ f c = 1) c
    · refine Or.inr ⟨?_, (F c hc).1 q⟩
      have := (r1 c q).2
      rcases h1 c hc with q | q <;> omega
    · rw [(F c hc).2 q]; exact h1 c hc
  · by_cases q : Rch w (w * h) (fun c => f c = 1) (fun c => c = s0 ∧ f c = 1) a
    · by_cases e : f b = 1
      · exact (F b hb).1 (Rch_n q hn e)
      · refine keep b hb ho ?_
        rcases h1 b hb with q | q <;> omega
    · rw [(F a ha).2 q] at hf
      exact keep b hb ho (h2 a b ha hb h0 hf hn ho)
  · by_cases q : Rch w (w * h) (fun c => f c = 1) (fun c => c = s0 ∧ f c = 1) c
    · exact r2 c q
    · rw [(F c hc).2 q] at hf
      exact h3 c hc h0 hf
  · rcases hD with hD | hD
    · exact keep c hc h0 (h4 c hc hD h0)
    · subst hD
      by_cases e : f c = 1
      · exact (F c hc).1 (Rch_s ⟨rfl, e⟩)
      · refine keep c hc h0 ?_
        rcases h1 c hc with q | q <;> omega
theorem HoS_e {w h : Nat} {f0 f : Nat → Nat} {D : Nat → Prop} (H : HoS w (w * h) f0 f D) (hD : ∀ c, c < w * h → edge w (w * h) c → D c) {c : Nat} (hc : c < w * h) : f c = 1 ↔ f0 c = 1 ∧ ¬ Out w (w * h) f0 c := by
  obtain ⟨h1, h2, h3, h4⟩ := H
  have r : Out w (w * h) f0 c → f c = 2 := fun hr => (hr (fun c => c < w * h ∧ f0 c = 1 ∧ f c = 2) (fun a ha => ⟨ha.1, ha.2.2, h4 a ha.1 (hD a ha.1 ha.2.1) ha.2.2⟩) (fun a b ha hn ho => by
    have hb := Nb_lt ha.1 hn
    exact ⟨hb, ho, h2 a b ha.1 hb ha.2.1 ha.2.2 hn ho⟩)).2.2
  constructor
  · intro h
    have h0 : f0 c = 1 := by rcases h1 c hc with q | q <;> omega
    exact ⟨h0, fun q => by have := r q; omega⟩
  · rintro ⟨h0, hn⟩
    rcases h1 c hc with q | q
    · omega
    · exact absurd (h3 c hc h0 q.2) hn
def hf0 (R : Nat → Nat) (s q : Nat) : Nat → Nat := fun c => if on R s c = q then 0 else 1
theorem hf0_le (s q c : Nat) : hf0 R s q c ≤ 1 := by
  unfold hf0
  split <;> omega
theorem HoS_b {w h : Nat} {f0 f : Nat → Nat} {D : Nat → Prop} (H : HoS w (w * h) f0 f D) (h0 : ∀ c, f0 c ≤ 1) : ∀ c, c < w * h → f c < 1000 := fun c hc => by
  have := h0 c
  rcases H.1 c hc with q | q <;> omega
theorem holesC_eq (T : ShR 1 R σ) (G : Good R) {s p : Nat} (hs : s < R 0) (hp : p < 100) : ∃ f τ, f_X4_findHoles 1 (nI s) (nI p) σ = some τ ∧ Rg (sc R s) (sr R s) f τ ∧ Fq σ τ ∧ (∀ c, c < sc R s * sr R s → f c < 1000) ∧ ∀ c, c < sc R s * sr R s → (f c = 1 ↔ hf0 R s (p + 2) c = 1 ∧ ¬ Out (sc R s) (sc R s * sr R s) (hf0 R s (p + 2)) c) := by
  have hS := GS G hs
  obtain ⟨z0, z1, z2, z3, z4, z5, hn, _⟩ := hS
  generalize hσ1 : up (up σ 89 2 (nI (sc R s))) 89 3 (nI (sr R s)) = σ1
  have d : ∀ a, a ≠ 89 → σ1 a = σ a := fun a ha => by rw [← hσ1, up_k _ _ _ ha, up_k _ _ _ ha]
  have T1 : ShR 1 R σ1 := ShR_c (fun a _ _ => d a (by omega)) T
  have w1 : σ1 89 2 = nI (sc R s) := by rw [← hσ1, up_j _ _ _ (by decide), up_s]
  have w2 : σ1 89 3 = nI (sr R s) := by rw [← hσ1, up_s]
  obtain ⟨τ1, a1, a2, a3⟩ := fill_eq T1 hn (hf0 R s (p + 2)) (f_X4_findHoles_l9 1 (nI s) (nI p)) w1 w2 (fun i τ hi h89 Tτ => by
    have ho := on_lt G hs hi
    have hpu : ∀ v, f_X10_put 90 (nI i) v τ = _ := fun v => put_h (by rw [ln90.1]; omega) (by rw [ln90.1]; decide)
    unfold f_X4_findHoles_l9 f_X4_findHoles_j46 hf0
    dsimp only
    simp (disch := omega) only [bind_s, sum_l, sum_r, chkin, lit, nI_add, pk_mul, nI_clamp, nI_leI, nI_ltI, nI_eqI, nI_or, and1, shl1, shrx, nI_subx, pk_divx, pk_remx, nmod, nzx, if_tt, if_ff, bz_n1, bz_n0, nm1, nm2, wI_p, wI_inj, wI_n, nI_w, wI_ltI, wI_leI, nI_ltw, nI_lew, reduceIte, h89, w1, w2, onCell_eq Tτ G hs hi, hpu]
    by_cases e : on R s i = p + 2
    · rw [if_pos e, if_pos e]
    · rw [if_neg e, if_neg e]) (fun τ h89 => by
    unfold f_X4_findHoles_l9
    dsimp only
    simp (disch := omega) only [bind_s, sum_l, sum_r, chkin, lit, nI_add, pk_mul, nI_clamp, nI_leI, nI_ltI, nI_eqI, nI_or, and1, shl1, shrx, nI_subx, pk_divx, pk_remx, nmod, nzx, if_tt, if_ff, bz_n1, bz_n0, nm1, nm2, wI_p, wI_inj, wI_n, nI_w, wI_ltI, wI_leI, nI_ltw, nI_lew, reduceIte, h89, w1, w2])
  have H0 : HoS (sc R s) (sc R s * sr R s) (hf0 R s (p + 2)) (hf0 R s (p + 2)) (fun _ => False) := ⟨fun c _ => Or.inl rfl, fun a b _ _ h h2 _ _ => by omega, fun c _ h h2 => by omega, fun c _ h => h.elim⟩
  have rowlt : ∀ y, y < sr R s → sc R s * y + (sc R s - 1) < sc R s * sr R s := fun y hy => xy_lt (by omega) hy
  obtain ⟨τ2, q1, f2, q2, q3, q4⟩ := lp_fu (f := f_X4_findHoles_l58 1) (fun y z => ∃ f τ, z = (nI y, τ) ∧ HoS (sc R s) (sc R s * sr R s) (hf0 R s (p + 2)) f (fun c => ∃ y', y' < y ∧ (c = sc R s * y' ∨ c = sc R s * y' + (sc R s - 1))) ∧ Rg (sc R s) (sr R s) f τ ∧ Fq τ1 τ) (fun τ => ∃ f, HoS (sc R s) (sc R s * sr R s) (hf0 R s (p + 2)) f (fun c => ∃ y', y' < sr R s ∧ (c = sc R s * y' ∨ c = sc R s * y' + (sc R s - 1))) ∧ Rg (sc R s) (sr R s) f τ ∧ Fq τ1 τ) (sr R s) (by omega) (nI 0, τ1) ⟨_, τ1, rfl, ⟨H0.1, H0.2.1, H0.2.2.1, fun c _ ⟨y', h, _⟩ => absurd h (Nat.not_lt_zero _)⟩, a2, Fq_r _⟩ (by
    rintro y z hy ⟨f, τ, rfl, H, G1, F⟩
    left
    have l1 := rowlt y hy
    obtain ⟨f1, τa, b1, b2, b3, b4⟩ := spread_eq (g := 0) (s0 := sc R s * y) ⟨z1, z2⟩ hn (by decide) (HoS_b H (fun c => hf0_le s _ c)) G1 (by omega)
    have H1 := HoS_s H (show sc R s * y < sc R s * sr R s by omega) (Or.inl (Nat.mul_mod_right _ _)) b4
    obtain ⟨f2, τb, c1, c2, c3, c4⟩ := spread_eq (g := 0) (s0 := sc R s * y + (sc R s - 1)) ⟨z1, z2⟩ hn (by decide) (HoS_b H1 (fun c => hf0_le s _ c)) b2 l1
    have H2 := HoS_s H1 l1 (Or.inr (Or.inl (by rw [lin_s (by omega)]; omega))) c4
    refine ⟨(nI (y + 1), τb), ?_, f2, τb, rfl, ⟨H2.1, H2.2.1, H2.2.2.1, fun c hc hD => H2.2.2.2 c hc ?_⟩, c2, Fq_t F (Fq_t b3 c3)⟩
    · have e2 : sc R s * y + sc R s - 1 = sc R s * y + (sc R s - 1) := by omega
      unfold f_X4_findHoles_l58
      dsimp only
      simp (disch := omega) only [bind_s, sum_l, sum_r, chkin, lit, nI_add, pk_mul, nI_clamp, nI_leI, nI_ltI, nI_eqI, nI_or, and1, shl1, shrx, nI_subx, pk_divx, pk_remx, nmod, nzx, if_tt, if_ff, bz_n1, bz_n0, nm1, nm2, wI_p, wI_inj, wI_n, nI_w, wI_ltI, wI_leI, nI_ltw, nI_lew, reduceIte, G1.1, G1.2.1, b1, b2.1, e2, c1]
    · obtain ⟨y', h1, h2⟩ := hD
      by_cases e : y' = y
      · subst e
        rcases h2 with h2 | h2
        · exact Or.inl (Or.inr h2)
        · exact Or.inr h2
      · exact Or.inl (Or.inl ⟨y', by omega, h2⟩)) (by
    rintro z ⟨f, τ, rfl, H, G1, F⟩
    refine ⟨τ, ?_, f, H, G1, F⟩
    unfold f_X4_findHoles_l58
    dsimp only
    simp (disch := omega) only [bind_s, sum_l, sum_r, chkin, lit, nI_add, pk_mul, nI_clamp, nI_leI, nI_ltI, nI_eqI, nI_or, and1, shl1, shrx, nI_subx, pk_divx, pk_remx, nmod, nzx, if_tt, if_ff, bz_n1, bz_n0, nm1, nm2, wI_p, wI_inj, wI_n, nI_w, wI_ltI, wI_leI, nI_ltw, nI_lew, reduceIte, G1.2.1])
  obtain ⟨τ3, p1, f3, p2, p3, p4⟩ := lp_fu (f := f_X4_findHoles_l107 1) (fun x z => ∃ f τ, z = (nI x, τ) ∧ HoS (sc R s) (sc R s * sr R s) (hf0 R s (p + 2)) f (fun c => (∃ y', y' < sr R s ∧ (c = sc R s * y' ∨ c = sc R s * y' + (sc R s - 1))) ∨ ∃ x', x' < x ∧ (c = x' ∨ c = sc R s * (sr R s - 1) + x')) ∧ Rg (sc R s) (sr R s) f τ ∧ Fq τ1 τ) (fun τ => ∃ f, HoS (sc R s) (sc R s * sr R s) (hf0 R s (p + 2)) f (fun c => (∃ y', y' < sr R s ∧ (c = sc R s * y' ∨ c = sc R s * y' + (sc R s - 1))) ∨ ∃ x', x' < sc R s ∧ (c = x' ∨ c = sc R s * (sr R s - 1) + x')) ∧ Rg (sc R s) (sr R s) f τ ∧ Fq τ1 τ) (sc R s) (by omega) (nI 0, τ2) ⟨f2, τ2, rfl, ⟨q2.1, q2.2.1, q2.2.2.1, fun c hc hD => q2.2.2.2 c hc (by
      rcases hD with hD | ⟨x', h, _⟩
      · exact hD
      · exact absurd h (Nat.not_lt_zero _))⟩, q3, q4⟩ (by
    rintro x z hx ⟨f, τ, rfl, H, G1, F⟩
    left
    have l0 : x < sc R s * sr R s := by have := xy_lt hx (show 0 < sr R s by omega); omega
    have l1 : sc R s * (sr R s - 1) + x < sc R s * sr R s := xy_lt hx (by omega)
    have l2 : sc R s * sr R s = sc R s * (sr R s - 1) + sc R s := by rw [← Nat.mul_succ]; congr 1; omega
    obtain ⟨f1, τa, b1, b2, b3, b4⟩ := spread_eq (g := 0) (s0 := x) ⟨z1, z2⟩ hn (by decide) (HoS_b H (fun c => hf0_le s _ c)) G1 l0
    have H1 := HoS_s H l0 (Or.inr (Or.inr (Or.inl hx))) b4
    obtain ⟨f2, τb, c1, c2, c3, c4⟩ := spread_eq (g := 0) (s0 := sc R s * (sr R s - 1) + x) ⟨z1, z2⟩ hn (by decide) (HoS_b H1 (fun c => hf0_le s _ c)) b2 l1
    have H2 := HoS_s H1 l1 (Or.inr (Or.inr (Or.inr (by omega)))) c4
    refine ⟨(nI (x + 1), τb), ?_, f2, τb, rfl, ⟨H2.1, H2.2.1, H2.2.2.1, fun c hc hD => H2.2.2.2 c hc ?_⟩, c2, Fq_t F (Fq_t b3 c3)⟩
    · unfold f_X4_findHoles_l107
      dsimp only
      simp (disch := omega) only [bind_s, sum_l, sum_r, chkin, lit, nI_add, pk_mul, nI_clamp, nI_leI, nI_ltI, nI_eqI, nI_or, and1, shl1, shrx, nI_subx, pk_divx, pk_remx, nmod, nzx, if_tt, if_ff, bz_n1, bz_n0, nm1, nm2, wI_p, wI_inj, wI_n, nI_w, wI_ltI, wI_leI, nI_ltw, nI_lew, reduceIte, G1.1, b1, b2.1, b2.2.1, c1]
    · rcases hD with hD | ⟨x', h1, h2⟩
      · exact Or.inl (Or.inl (Or.inl hD))
      · by_cases e : x' = x
        · subst e
          rcases h2 with h2 | h2
          · exact Or.inl (Or.inr h2)
          · exact Or.inr h2
        · exact Or.inl (Or.inl (Or.inr ⟨x', by omega, h2⟩))) (by
    rintro z ⟨f, τ, rfl, H, G1, F⟩
    refine ⟨τ, ?_, f, H, G1, F⟩
    unfold f_X4_findHoles_l107
    dsimp only
    simp (disch := omega) only [bind_s, sum_l, sum_r, chkin, lit, nI_add, pk_mul, nI_clamp, nI_leI, nI_ltI, nI_eqI, nI_or, and1, shl1, shrx, nI_subx, pk_divx, pk_remx, nmod, nzx, if_tt, if_ff, bz_n1, bz_n0, nm1, nm2, wI_p, wI_inj, wI_n, nI_w, wI_ltI, wI_leI, nI_ltw, nI_lew, reduceIte, G1.1])
  refine ⟨f3, τ3, ?_, p3, fun a h1 h2 h3 => by rw [p4 a h1 h2 h3, a3 a h1 h2 h3, d a h1], HoS_b p2 (fun c => hf0_le s _ c), fun c hc => HoS_e p2 (fun c hc he => ?_) hc⟩
  · unfold f_X4_findHoles f_X4_findHoles_0
    rw [begin_eq T G hs, bind_s, hσ1, show (0 : Int32) = nI 0 from rfl, a1, bind_s, q1, bind_s, p1]
    rfl
  · have hm := Nat.mod_lt c (show sc R s > 0 by omega)
    have hdm := Nat.div_add_mod c (sc R s)
    have hd : c / sc R s < sr R s := Nat.div_lt_of_lt_mul hc
    have hls := lin_s (w := sc R s) (y := c / sc R s) (x := c % sc R s) hm
    have hld := lin_d (w := sc R s) (y := c / sc R s) (x := c % sc R s) (h := sr R s) hm
    have hlu := lin_u (w := sc R s) (y := c / sc R s) (x := c % sc R s) hm
    rw [hdm] at hls hld hlu
    rcases he with he | he | he | he
    · exact Or.inl ⟨c / sc R s, hd, Or.inl (by omega)⟩
    · have := hls.mp he
      exact Or.inl ⟨c / sc R s, hd, Or.inr (by omega)⟩
    · exact Or.inr ⟨c, he, Or.inl rfl⟩
    · have q : ¬ c / sc R s + 1 < sr R s := fun h => by have := hld.mpr h; omega
      have q2 : c / sc R s = sr R s - 1 := by omega
      rw [q2] at hdm
      exact Or.inr ⟨c % sc R s, hm, Or.inr hdm.symm⟩
