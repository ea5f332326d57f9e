/-! PURE 1: loops, bits, abstract ports -/
def fld {α : Type} (g : Nat → α → α) : Nat → Nat → α → α
  | _, 0, a => a
  | j, d + 1, a => fld g (j + 1) d (g j a)
theorem fld_succ {α : Type} (g : Nat → α → α) : ∀ (d j : Nat) (a : α), fld g j (d + 1) a = g (j + d) (fld g j d a) := by
  intro d
  induction d with
  | zero => intro j a; rfl
  | succ d ih =>
    intro j a
    show fld g (j + 1) (d + 1) (g j a) = g (j + (d + 1)) (fld g (j + 1) d (g j a))
    rw [ih (j + 1) (g j a), show j + 1 + d = j + (d + 1) by omega]
theorem fld_congr {α : Type} {g g' : Nat → α → α} : ∀ (d j : Nat) (a : α), (∀ i b, j ≤ i → i < j + d → g i b = g' i b) → fld g j d a = fld g' j d a := by
  intro d
  induction d with
  | zero => intro j a _; rfl
  | succ d ih =>
    intro j a h
    show fld g (j + 1) d (g j a) = fld g' (j + 1) d (g' j a)
    rw [h j a (by omega) (by omega)]
    exact ih (j + 1) _ (fun i b h1 h2 => h i b (by omega) (by omega))
theorem lpF {σ β : Type} {L : Nat → Int32 → σ → Option β} {k : σ → Option β} {n : Nat} (g : Nat → σ → σ)
    (h0 : ∀ (f : Nat) (s : σ), L (f + 1) (nI n) s = k s)
    (h1 : ∀ (f j : Nat) (s : σ), j < n → L (f + 1) (nI j) s = L f (nI (j + 1)) (g j s)) :
    ∀ (d j f : Nat) (s : σ), j + d = n → d < f → L f (nI j) s = k (fld g j d s) := by
  intro d
  induction d with
  | zero =>
    intro j f s hj hf
    obtain ⟨f, rfl⟩ : ∃ f', f = f' + 1 := ⟨f - 1, by omega⟩
    have e : j = n := by omega
    subst e
    exact h0 f s
  | succ d ih =>
    intro j f s hj hf
    obtain ⟨f, rfl⟩ : ∃ f', f = f' + 1 := ⟨f - 1, by omega⟩
    rw [h1 f j s (by omega)]
    exact ih (j + 1) f (g j s) (by omega) (by omega)
theorem lpR {σ α β : Type} {L : Nat → Int32 → σ → Option β} {k : σ → Option β} {n : Nat} (R : Nat → α → σ → Prop) (g : Nat → α → α)
    (h0 : ∀ (f : Nat) (a : α) (s : σ), R n a s → L (f + 1) (nI n) s = k s)
    (h1 : ∀ (f j : Nat) (a : α) (s : σ), j < n → R j a s → ∃ s', L (f + 1) (nI j) s = L f (nI (j + 1)) s' ∧ R (j + 1) (g j a) s') :
    ∀ (d j f : Nat) (a : α) (s : σ), j + d = n → d < f → R j a s → ∃ s', L f (nI j) s = k s' ∧ R n (fld g j d a) s' := by
  intro d
  induction d with
  | zero =>
    intro j f a s hj hf hr
    obtain ⟨f, rfl⟩ : ∃ f', f = f' + 1 := ⟨f - 1, by omega⟩
    have e : j = n := by omega
    subst e
    exact ⟨s, h0 f a s hr, hr⟩
  | succ d ih =>
    intro j f a s hj hf hr
    obtain ⟨f, rfl⟩ : ∃ f', f = f' + 1 := ⟨f - 1, by omega⟩
    obtain ⟨s', e1, e2⟩ := h1 f j a s (by omega) hr
    obtain ⟨s2, e3, e4⟩ := ih (j + 1) f (g j a) s' (by omega) (by omega) e2
    exact ⟨s2, e1.trans e3, e4⟩
/-! bits -/
def sN (p : Nat → Bool) (n : Nat) : Nat := fld (fun j m => if p j then m ||| 2 ^ j else m) 0 n 0
def cnt (p : Nat → Bool) (n : Nat) : Nat := fld (fun j c => if p j then c + 1 else c) 0 n 0
def pcN (m : Nat) : Nat := cnt (fun i => m.testBit i) 8
theorem sN_succ (p : Nat → Bool) (n : Nat) : sN p (n + 1) = if p n then sN p n ||| 2 ^ n else sN p n := by
  unfold sN
  rw [fld_succ, Nat.zero_add]
theorem cnt_succ (p : Nat → Bool) (n : Nat) : cnt p (n + 1) = if p n then cnt p n + 1 else cnt p n := by
  unfold cnt
  rw [fld_succ, Nat.zero_add]
theorem sN_bit (p : Nat → Bool) : ∀ (n i : Nat), (sN p n).testBit i = (decide (i < n) && p i) := by
  intro n
  induction n with
  | zero => intro i; simp [sN, fld]
  | succ n ih =>
    intro i
    rw [sN_succ]
    by_cases hp : p n = true
    · rw [if_pos hp, Nat.testBit_or, ih i, Nat.testBit_two_pow]
      by_cases h : n = i
      · subst h
        simp [hp]
      · by_cases h2 : i < n
        · simp [h2, show i < n + 1 by omega, h]
        · simp [h2, show ¬ i < n + 1 by omega, h]
    · rw [if_neg hp, ih i]
      by_cases h : n = i
      · subst h
        simp [hp]
      · by_cases h2 : i < n
        · simp [h2, show i < n + 1 by omega]
        · simp [h2, show ¬ i < n + 1 by omega]
theorem sN_lt (p : Nat → Bool) (n : Nat) : sN p n < 2 ^ n := by
  apply Nat.lt_pow_two_of_testBit
  intro i hi
  rw [sN_bit]
  simp [show ¬ i < n by omega]
theorem cnt_congr {p q : Nat → Bool} {n : Nat} (h : ∀ i, i < n → p i = q i) : cnt p n = cnt q n := by
  induction n with
  | zero => rfl
  | succ n ih => rw [cnt_succ, cnt_succ, ih (fun i hi => h i (by omega)), h n (by omega)]
theorem cnt_cut (p : Nat → Bool) (n : Nat) : ∀ k, cnt (fun i => decide (i < n) && p i) (n + k) = cnt p n := by
  intro k
  induction k with
  | zero => exact cnt_congr (fun i hi => by simp [show i < n by simpa using hi])
  | succ k ih =>
    rw [show n + (k + 1) = (n + k) + 1 by omega, cnt_succ, ih]
    simp
    intro h
    omega
theorem cnt_le (p : Nat → Bool) (n : Nat) : cnt p n ≤ n := by
  induction n with
  | zero => exact Nat.le_refl _
  | succ n ih => rw [cnt_succ]; split <;> omega
theorem pcN_sN (p : Nat → Bool) {n : Nat} (hn : n ≤ 8) : pcN (sN p n) = cnt p n := by
  unfold pcN
  rw [show (fun i => (sN p n).testBit i) = (fun i => decide (i < n) && p i) from funext (sN_bit p n)]
  have := cnt_cut p n (8 - n)
  rwa [show n + (8 - n) = 8 by omega] at this
theorem nI_or (a b : Nat) : nI a ||| nI b = nI (a ||| b) := by
  apply Int32.toBitVec_inj.mp
  show (nI a).toBitVec ||| (nI b).toBitVec = (nI (a ||| b)).toBitVec
  show BitVec.ofNat 32 a ||| BitVec.ofNat 32 b = BitVec.ofNat 32 (a ||| b)
  simp
theorem one_shl : ∀ j, j < 31 → (1 : Int32) <<< (nI j &&& 31) = nI (2 ^ j) := by decide
theorem bitI {m j : Nat} (hm : m < 256) (hj : j < 8) : (nI m >>> (nI j &&& 31)) &&& 1 = if m.testBit j then 1 else 0 := by
  have : ∀ m, m < 256 → ∀ j, j < 8 → (nI m >>> (nI j &&& 31)) &&& 1 = if m.testBit j then 1 else 0 := by decide +kernel
  exact this m hm j hj
theorem bc_ok {m : Nat} (hm : m < 256) : f_J6_bitCount_0f7a4 (nI m) = nI (pcN m) := by
  have : ∀ m, m < 256 → f_J6_bitCount_0f7a4 (nI m) = nI (pcN m) := by decide +kernel
  exact this m hm
theorem size_mono : ∀ (f : Nat) (x c r : Int32), f_X6_size_L4 f x c = some r → f_X6_size_L4 (f + 1) x c = some r := by
  intro f
  induction f with
  | zero => intro x c r h; cases h
  | succ f ih =>
    intro x c r h
    rw [f_X6_size_L4] at h ⊢
    by_cases hx : x = 0
    · rw [if_pos hx] at h ⊢; exact h
    · rw [if_neg hx] at h ⊢
      simp only [lj] at h ⊢
      exact ih _ _ _ h
theorem size_ok {m N : Nat} (hm : m < 256) (hN : 9 ≤ N) : f_X6_size N (nI m) = some (nI (pcN m)) := by
  have h9 : ∀ m, m < 256 → f_X6_size_L4 9 (nI m) 0 = some (nI (pcN m)) := by decide +kernel
  have : ∀ k, f_X6_size_L4 (9 + k) (nI m) 0 = some (nI (pcN m)) := by
    intro k
    induction k with
    | zero => exact h9 m hm
    | succ k ih => exact size_mono _ _ _ _ ih
  unfold f_X6_size
  have := this (N - 9)
  rwa [show 9 + (N - 9) = N by omega] at this
/-! numbers -/
theorem ge_t {a b : Nat} (h : a ≤ b) (hb : b < 2 ^ 31) : nI a ≤ nI b := nI_le h hb
theorem eq_n {a b : Nat} (ha : a < 2 ^ 31) (hb : b < 2 ^ 31) (h : ¬ a = b) : ¬ nI a = nI b := fun q => h ((nI_eq ha hb).mp q)
theorem within_t {x a b : Nat} (h1 : a ≤ x) (h2 : x ≤ b) (hb : b < 2 ^ 31) : f_X5_within (nI x) (nI a) (nI b) = 1 := by
  unfold f_X5_within
  rw [if_neg (nI_nlt h1 (by omega)), if_neg (nI_nlt h2 (by omega))]
theorem within_of {x : Int32} {a b : Int32} (h : ¬ f_X5_within x a b = 0) : a ≤ x ∧ x ≤ b := by
  unfold f_X5_within at h
  by_cases h1 : x < a
  · rw [if_pos h1] at h; exact absurd rfl h
  · rw [if_neg h1] at h
    by_cases h2 : b < x
    · rw [if_pos h2] at h; exact absurd rfl h
    · exact ⟨Int32.not_lt.mp h1, Int32.not_lt.mp h2⟩
theorem within_01 (x a b : Int32) : f_X5_within x a b = 0 ∨ f_X5_within x a b = 1 := by
  unfold f_X5_within
  split
  · exact Or.inl rfl
  · split
    · exact Or.inl rfl
    · exact Or.inr rfl
theorem isIn_eq (x a b : Int32) : f_X6_isIn x.toInt64 a.toInt64 b.toInt64 = f_X5_within x a b := by
  have hl : ∀ y z : Int32, y.toInt64 < z.toInt64 ↔ y < z := fun y z => by
    rw [Int64.lt_iff_toInt_lt, Int32.lt_iff_toInt_lt, Int32.toInt_toInt64, Int32.toInt_toInt64]
  have he : ∀ y z : Int32, y.toInt64 = z.toInt64 ↔ y = z := fun y z => by
    rw [← Int64.toInt_inj, ← Int32.toInt_inj, Int32.toInt_toInt64, Int32.toInt_toInt64]
  have hc : ∀ y z : Int32, lg_cmp y.toInt64 z.toInt64 = if z < y then 1 else if y = z then 0 else -1 := fun y z => by
    unfold lg_cmp
    simp only [gt_iff_lt, hl, he]
  have tri : ∀ y z : Int32, y < z → ¬ z < y ∧ ¬ y = z := fun y z h => ⟨fun q => absurd h (Int32.not_lt.mpr (Int32.le_of_lt q)), fun q => by subst q; exact Int32.lt_irrefl h⟩
  unfold f_X6_isIn f_X5_within
  rw [hc, hc]
  by_cases h1 : x < a
  · obtain ⟨g1, g2⟩ := tri x a h1
    rw [if_neg g1, if_neg g2, if_pos h1, if_pos (by decide)]
  · rw [if_neg h1]
    have n1 : ¬ (if a < x then (1 : Int32) else if x = a then 0 else -1) < 0 := by
      by_cases g : a < x
      · rw [if_pos g]; decide
      · rw [if_neg g]
        have : x = a := Int32.le_antisymm (Int32.not_lt.mp g) (Int32.not_lt.mp h1)
        rw [if_pos this]; decide
    rw [if_neg n1]
    by_cases h2 : b < x
    · rw [if_pos h2, if_pos h2, if_pos (by decide)]
    · rw [if_neg h2, if_neg h2]
      by_cases g : x = b
      · rw [if_pos g, if_neg (by decide)]
      · rw [if_neg g, if_neg (by decide)]
/-! abstract ports -/
abbrev AP : Type := Nat × Nat × Int32 × (Nat → Nat) × (Nat → Nat) × (Nat → Nat) × (Nat → Nat) × (Nat → Nat) × (Nat → Nat)
abbrev aN (a : AP) : Nat := a.1
abbrev aH (a : AP) : Nat := a.2.1
abbrev aZ (a : AP) : Int32 := a.2.2.1
abbrev aLaw (a : AP) : Nat → Nat := a.2.2.2.1
abbrev aKind (a : AP) : Nat → Nat := a.2.2.2.2.1
abbrev aInk (a : AP) : Nat → Nat := a.2.2.2.2.2.1
abbrev aOn (a : AP) : Nat → Nat := a.2.2.2.2.2.2.1
abbrev aFi (a : AP) : Nat → Nat := a.2.2.2.2.2.2.2.1
abbrev aSe (a : AP) : Nat → Nat := a.2.2.2.2.2.2.2.2
def CV (a : AP) (v : PV) : Prop := pCount v = nI (aN a) ∧ pHour v = nI (aH a) ∧ pZ v = aZ a ∧ (∀ k, k < 4 → pLaws v k = nI (aLaw a k)) ∧ (∀ k, k < aN a → pKind v k = nI (aKind a k) ∧ pInk v k = nI (aInk a k) ∧ pOn v k = nI (aOn a k)) ∧ ∀ r, r < 6 → pFirst v r = nI (aFi a r) - 1 ∧ pSecond v r = nI (aSe a r) - 1
def CM (a : AP) (s : Nat → Int32) : Prop := s 0 = nI (aN a) ∧ s 1 = nI (aH a) ∧ s 2 = aZ a ∧ (∀ k, k < 4 → s (3 + k) = nI (aLaw a k)) ∧ (∀ k, k < aN a → s (19 + 3 * k) = nI (aKind a k) ∧ s (19 + 3 * k + 1) = nI (aInk a k) ∧ s (19 + 3 * k + 2) = nI (aOn a k)) ∧ ∀ r, r < 6 → s (7 + r) = nI (aFi a r) ∧ (¬ aFi a r = 0 → s (13 + r) = nI (aSe a r))
def WF (a : AP) : Prop := aN a ≤ 8 ∧ (1 ≤ aLaw a 0 ∧ aLaw a 0 ≤ 8 ∧ aLaw a 1 ≤ 9 ∧ aLaw a 2 ≤ 9 ∧ aLaw a 3 ≤ 99) ∧ (∀ k, k < aN a → aKind a k < 6 ∧ aInk a k ≤ 99 ∧ aOn a k < 8) ∧ ∀ r, r < 6 → (aFi a r = 0 ∧ aSe a r = 0) ∨ (1 ≤ aFi a r ∧ aFi a r ≤ 8 ∧ 1 ≤ aSe a r ∧ aSe a r ≤ 8 ∧ ¬ aFi a r = aSe a r)
theorem WF.law {a : AP} (h : WF a) {k : Nat} (hk : k < 4) : aLaw a k < 100 := by
  obtain ⟨-, ⟨h0, h1, h2, h3, h4⟩, -⟩ := h
  rcases (show k = 0 ∨ k = 1 ∨ k = 2 ∨ k = 3 by omega) with rfl | rfl | rfl | rfl <;> omega
