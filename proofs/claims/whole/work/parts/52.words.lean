/-! PURE FACTS, 3: words of small numbers -/
theorem lit (n : Nat) : (OfNat.ofNat n : Int32) = nI (OfNat.ofNat n) := rfl
theorem chkin {α : Type} {i n : Nat} {x : Option α} (h : i < n) (hn : n < 2 ^ 31) : chk (inb (nI i) n) x = x := chk_t (inb_nI h (by omega))
theorem bind_s {α β : Type} (a : α) (f : α → Option β) : (some a).bind f = f a := rfl
theorem sum_l {A B C : Type} (f : A → C) (g : B → C) (v : A) : Sum.elim f g (.inl v) = f v := rfl
theorem sum_r {A B C : Type} (f : A → C) (g : B → C) (v : B) : Sum.elim f g (.inr v) = g v := rfl
theorem nI_eqI {a b : Nat} (ha : a < 2 ^ 31) (hb : b < 2 ^ 31) : (nI a = nI b) = (a = b) := propext (nI_eq ha hb)
theorem nI_or (a b : Nat) : nI a ||| nI b = nI (a ||| b) := by
  apply Int32.toBitVec_inj.mp
  apply BitVec.eq_of_toNat_eq
  show (a % 2 ^ 32) ||| (b % 2 ^ 32) = (a ||| b) % 2 ^ 32
  rw [Nat.or_mod_two_pow]
theorem nI_and (a b : Nat) : nI a &&& nI b = nI (a &&& b) := by
  apply Int32.toBitVec_inj.mp
  apply BitVec.eq_of_toNat_eq
  show (a % 2 ^ 32) &&& (b % 2 ^ 32) = (a &&& b) % 2 ^ 32
  rw [Nat.and_mod_two_pow]
theorem and1 (a : Nat) : nI a &&& nI 1 = nI (a % 2) := by
  rw [nI_and, show (1 : Nat) = 2 ^ 1 - 1 from rfl, Nat.and_two_pow_sub_one_eq_mod]
theorem and31 {k : Nat} (h : k < 32) : nI k &&& nI 31 = nI k := by
  rw [nI_and, show (31 : Nat) = 2 ^ 5 - 1 from rfl, Nat.and_two_pow_sub_one_eq_mod, Nat.mod_eq_of_lt h]
theorem smod32 {k : Nat} (h : k < 32) : ((nI k).toBitVec.smod 32).toNat = k := by
  have : ∀ j : Fin 32, ((nI j.1).toBitVec.smod 32).toNat = j.1 := by decide +kernel
  exact this ⟨k, h⟩
theorem shlx {n k : Nat} (hk : k < 32) (h : n * 2 ^ k < 2 ^ 32) : nI n <<< (nI k &&& nI 31) = nI (n * 2 ^ k) := by
  rw [and31 hk]
  exact pk_shlN (nI k) k (smod32 hk) h
theorem shl1 {k : Nat} (hk : k < 31) : nI 1 <<< (nI k &&& nI 31) = nI (2 ^ k) := by
  rw [shlx (by omega) (by rw [Nat.one_mul]; exact Nat.pow_lt_pow_right (by decide) (by omega)), Nat.one_mul]
theorem shrx {n k : Nat} (hk : k < 32) (h : n < 2 ^ 31) : nI n >>> (nI k &&& nI 31) = nI (n / 2 ^ k) := by
  rw [and31 hk]
  exact pk_shrN h (nI k) k (smod32 hk)
theorem nI_subx {a b : Nat} (h : b ≤ a) : nI a - nI b = nI (a - b) := pk_sub h
theorem pk_remx {a d : Nat} (ha : a < 2 ^ 31) (h0 : 0 < d) (hd : d < 2 ^ 31) : nI a - nI (a / d * d) = nI (a % d) := by
  rw [nI_subx (Nat.div_mul_le_self a d)]
  congr 1
  have := Nat.div_add_mod a d
  rw [Nat.mul_comm] at this
  omega
theorem nmod (a d : Nat) : a - a / d * d = a % d := by
  have := Nat.div_add_mod a d
  rw [Nat.mul_comm] at this
  omega
theorem pk_divx {a d : Nat} (ha : a < 2 ^ 31) (h0 : 0 < d) (hd : d < 2 ^ 31) : nI a / nI d = nI (a / d) := pk_div ha h0 hd
theorem nzx {α : Type} {d : Nat} {x : Option α} (h0 : 0 < d) (hd : d < 2 ^ 31) : chk (nz (nI d)) x = x := chk_t (decide_eq_true (nI_ne0 h0 hd))
theorem if_tt {α : Type} {c : Prop} [Decidable c] {a b : α} (h : c) : (if c then a else b) = a := if_pos h
theorem if_ff {α : Type} {c : Prop} [Decidable c] {a b : α} (h : ¬ c) : (if c then a else b) = b := if_neg h
theorem bz_n1 : bz (some (nI 1)) = some (nI 1) := rfl
theorem bz_n0 : bz (some (nI 0)) = some (nI 0) := rfl
theorem nI_mne {a : Nat} (h : a < 2 ^ 31) : (nI a = -1) = False := eq_false (fun e => by
  have := congrArg Int32.toInt e
  rw [nI_toInt h] at this
  have e2 : (-1 : Int32).toInt = -1 := by decide
  omega)
theorem nI_nem {a : Nat} (h : a < 2 ^ 31) : (-1 = nI a) = False := by rw [← nI_mne h]; exact propext eq_comm
def wI (n : Nat) : Int32 := nI n - 2
theorem wI_p (p : Nat) : wI (p + 2) = nI p := by
  unfold wI
  rw [show (2 : Int32) = nI 2 from rfl, nI_subx (by omega), Nat.add_sub_cancel]
theorem wI_1 : wI 1 = -1 := by decide
theorem wI_0 : wI 0 = -2 := by decide
theorem wI_inj {a b : Nat} (ha : a < 2 ^ 30) (hb : b < 2 ^ 30) : (wI a = wI b) = (a = b) := by
  apply propext
  constructor
  · intro e
    have h1 : (wI a).toInt = (a : Int) - 2 := pk_sub_toInt ha (by decide)
    have h2 : (wI b).toInt = (b : Int) - 2 := pk_sub_toInt hb (by decide)
    rw [e] at h1
    omega
  · intro e; rw [e]
theorem wI_m1 {a : Nat} (ha : a < 2 ^ 30) : (wI a = -1) = (a = 1) := by rw [← wI_1]; exact wI_inj ha (by decide)
theorem wI_m2 {a : Nat} (ha : a < 2 ^ 30) : (wI a = -2) = (a = 0) := by rw [← wI_0]; exact wI_inj ha (by decide)
theorem wI_n {a p : Nat} (ha : a < 2 ^ 30) (hp : p < 2 ^ 29) : (wI a = nI p) = (a = p + 2) := by rw [← wI_p]; exact wI_inj ha (by omega)
theorem wI_l0 {a : Nat} (ha : a < 2 ^ 30) : (wI a < 0) = (a < 2) := by
  have h1 : (wI a).toInt = (a : Int) - 2 := pk_sub_toInt ha (by decide)
  apply propext
  rw [Int32.lt_iff_toInt_lt, h1]
  show (a : Int) - 2 < 0 ↔ _
  omega
theorem wI_l0n {a : Nat} (ha : a < 2 ^ 30) : (wI a < nI 0) = (a < 2) := wI_l0 ha
theorem wI_leI {a p : Nat} (ha : a < 2 ^ 30) (hp : p < 2 ^ 29) : (wI a ≤ nI p) = (a ≤ p + 2) := by
  have h1 : (wI a).toInt = (a : Int) - 2 := pk_sub_toInt ha (by decide)
  apply propext
  rw [Int32.le_iff_toInt_le, h1, nI_toInt (by omega)]
  omega
theorem nI_w {a p : Nat} (ha : a < 2 ^ 30) (hp : p < 2 ^ 29) : (nI p = wI a) = (p + 2 = a) := by rw [← wI_p]; exact wI_inj (by omega) ha
theorem wI_ltI {a p : Nat} (ha : a < 2 ^ 30) (hp : p < 2 ^ 29) : (wI a < nI p) = (a < p + 2) := by
  have h1 : (wI a).toInt = (a : Int) - 2 := pk_sub_toInt ha (by decide)
  apply propext
  rw [Int32.lt_iff_toInt_lt, h1, nI_toInt (by omega)]
  omega
theorem nI_ltw {a p : Nat} (ha : a < 2 ^ 30) (hp : p < 2 ^ 29) : (nI p < wI a) = (p + 2 < a) := by
  have h1 : (wI a).toInt = (a : Int) - 2 := pk_sub_toInt ha (by decide)
  apply propext
  rw [Int32.lt_iff_toInt_lt, h1, nI_toInt (by omega)]
  omega
theorem nI_lew {a p : Nat} (ha : a < 2 ^ 30) (hp : p < 2 ^ 29) : (nI p ≤ wI a) = (p + 2 ≤ a) := by
  have h1 : (wI a).toInt = (a : Int) - 2 := pk_sub_toInt ha (by decide)
  apply propext
  rw [Int32.le_iff_toInt_le, h1, nI_toInt (by omega)]
  omega
theorem nm1 : -nI 1 = wI 1 := by decide
theorem nm2 : -nI 2 = wI 0 := by decide
theorem n0m1 : nI 0 - nI 1 = wI 1 := by decide
theorem lit_m1 : (-1 : Int32) = -nI 1 := rfl
theorem FU_e : FU = 1000000 := rfl
def fo {B : Type} (g : Nat → B → B) : Nat → B → B
  | 0, b => b
  | n + 1, b => g n (fo g n b)
theorem lp_fo {S R B : Type} {f : S → Option (S ⊕ R)} (emb : Nat → B → S) (g : Nat → B → B) (P : Nat → B → Prop) (ex : B → R) (N : Nat) (hN : N < 1000000) (b0 : B) (h0 : P 0 b0) (hs : ∀ i b, i < N → P i b → f (emb i b) = some (.inl (emb (i + 1) (g i b))) ∧ P (i + 1) (g i b)) (hx : ∀ b, P N b → f (emb N b) = some (.inr (ex b))) : lp f FU (emb 0 b0) = some (ex (fo g N b0)) ∧ P N (fo g N b0) := by
  obtain ⟨r, h1, h2⟩ := lp_fu (f := f) (fun i z => z = emb i (fo g i b0) ∧ P i (fo g i b0)) (fun r => r = ex (fo g N b0) ∧ P N (fo g N b0)) N hN (emb 0 b0) ⟨rfl, h0⟩ (by
    rintro i z hi ⟨rfl, hp⟩
    obtain ⟨a1, a2⟩ := hs i _ hi hp
    exact Or.inl ⟨_, a1, rfl, a2⟩) (by
    rintro z ⟨rfl, hp⟩
    exact ⟨_, hx _ hp, rfl, hp⟩)
  rw [h1, h2.1]
  exact ⟨rfl, h2.2⟩
theorem lp_f0 {S R B : Type} {f : S → Option (S ⊕ R)} (emb : Nat → B → S) (g : Nat → B → B) (ex : B → R) (N : Nat) (hN : N < 1000000) (b0 : B) (hs : ∀ i b, i < N → f (emb i b) = some (.inl (emb (i + 1) (g i b)))) (hx : ∀ b, f (emb N b) = some (.inr (ex b))) : lp f FU (emb 0 b0) = some (ex (fo g N b0)) :=
  (lp_fo emb g (fun _ _ => True) ex N hN b0 trivial (fun i b hi _ => ⟨hs i b hi, trivial⟩) (fun b _ => hx b)).1
