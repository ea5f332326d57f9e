/-! PURE 22: parts of a chance, hope -/
theorem lg_0 {a : Nat} (ha : a < 2 ^ 63) : lg_cmp (lN a) 0 = 0 ↔ a = 0 := by
  have h1 : (0 : Int64) < lN a ↔ 0 < a := pk_lLT (a := 0) (by decide) ha
  have h2 : lN a = 0 ↔ a = 0 := pk_lEQ (b := 0) ha (by decide)
  unfold lg_cmp
  simp only [gt_iff_lt, h1, h2]
  by_cases c : a = 0
  · rw [if_neg (by omega), if_pos c]; exact ⟨fun _ => c, fun _ => rfl⟩
  · rw [if_pos (by omega)]; exact ⟨fun z => absurd z (by decide), fun z => absurd z c⟩
theorem X5_cd : ∀ (d j f a b : Nat), j + d = 100 → d < f → a < 2 ^ 62 → b < 2 ^ 62 → f_X5_commonDivisor_L3 f (nI j) (lN a) (lN b) = some (lN (eS d a b).1) := by
  intro d
  induction d with
  | zero =>
    intro j f a b hj hf ha hb
    obtain ⟨f, rfl⟩ : ∃ f', f = f' + 1 := ⟨f - 1, by omega⟩
    rw [f_X5_commonDivisor_L3, if_pos (show (100 : Int32) ≤ nI j from nI_le (a := 100) (by omega) (by omega))]
    rfl
  | succ d ih =>
    intro j f a b hj hf ha hb
    obtain ⟨f, rfl⟩ : ∃ f', f = f' + 1 := ⟨f - 1, by omega⟩
    rw [f_X5_commonDivisor_L3, if_neg (show ¬ (100 : Int32) ≤ nI j from nI_ge (show j < 100 by omega) (by decide)), if_cg (lg_0 (show b < 2 ^ 63 by omega))]
    unfold eS
    by_cases c : b = 0
    · rw [if_pos c, if_pos c]
    · have nz : ¬ lN b = 0 := fun z => c ((pk_lEQ (b := 0) (show b < 2 ^ 63 by omega) (by decide)).mp z)
      have hm : a % b < b := Nat.mod_lt _ (by omega)
      rw [if_neg c, if_neg c, gdP_t nz, lj_s, lj_s, nI_1, pk_lRem (show a < 2 ^ 63 by omega) (by omega) (show b < 2 ^ 63 by omega)]
      exact ih (j + 1) f b (a % b) (by omega) (by omega) hb (by omega)
theorem X6_cd (j2 : Int64 → Option Int64) : ∀ (d f a b : Nat), d < f → a < 2 ^ 62 → b < 2 ^ 62 → (eS d a b).2 = 0 → f_X6_partOf_L6 j2 f (lN b) (lN a) = j2 (lN (eS d a b).1) := by
  intro d
  induction d with
  | zero =>
    intro f a b hf ha hb h
    obtain ⟨f, rfl⟩ : ∃ f', f = f' + 1 := ⟨f - 1, by omega⟩
    have h : b = 0 := h
    rw [f_X6_partOf_L6, if_cg (lg_0 (show b < 2 ^ 63 by omega)), if_pos h]
    rfl
  | succ d ih =>
    intro f a b hf ha hb h
    obtain ⟨f, rfl⟩ : ∃ f', f = f' + 1 := ⟨f - 1, by omega⟩
    rw [f_X6_partOf_L6, if_cg (lg_0 (show b < 2 ^ 63 by omega))]
    unfold eS at h ⊢
    by_cases c : b = 0
    · rw [if_pos c, if_pos c]
    · have nz : ¬ lN b = 0 := fun z => c ((pk_lEQ (b := 0) (show b < 2 ^ 63 by omega) (by decide)).mp z)
      have hm : a % b < b := Nat.mod_lt _ (by omega)
      rw [if_neg c] at h
      rw [if_neg c, if_neg c, gdP_t nz, lj_s, pk_lRem (show a < 2 ^ 63 by omega) (by omega) (show b < 2 ^ 63 by omega)]
      exact ih f b (a % b) (by omega) hb (by omega) h
theorem fb100 : (fbp 100).1 = 573147844013817084101 := by decide +kernel
theorem part_c {N : Nat} (hN : 500 ≤ N) {a b : Nat} (ha : a < 2 ^ 62) (hb : b < 2 ^ 62) (hb0 : 0 < b) (x2 : Int32) : ∃ r, f_X5_partOf N (lN a) (lN b) x2 = some r ∧ f_X6_partOf N (lN a) (lN b) x2 = some r := by
  have e1 : eS 100 a b = (Nat.gcd b a, 0) := eS_end (by rw [fb100]; omega)
  have e2 : eS 90 b a = (Nat.gcd a b, 0) := eS_end (by rw [fb90]; omega)
  have g0 : 0 < Nat.gcd a b := Nat.gcd_pos_of_pos_right _ hb0
  have gl : Nat.gcd a b ≤ b := Nat.le_of_dvd hb0 (Nat.gcd_dvd_right a b)
  have c1 : f_X5_commonDivisor N (lN a) (lN b) = some (lN (Nat.gcd a b)) := by
    unfold f_X5_commonDivisor
    have := X5_cd 100 0 N a b (by omega) (by omega) ha hb
    rw [e1] at this
    rw [Nat.gcd_comm a b]
    exact this
  have nz : ¬ lN (Nat.gcd a b) = 0 := fun z => by
    have := (pk_lEQ (b := 0) (show Nat.gcd a b < 2 ^ 63 by omega) (by decide)).mp z
    omega
  unfold f_X5_partOf f_X6_partOf
  rw [c1, ob1_s, if_cg (lg_0 (show Nat.gcd a b < 2 ^ 63 by omega)), if_neg (by omega)]
  simp only [lj]
  rw [X6_cd _ 90 N b a (by omega) hb ha (by rw [e2]), e2]
  by_cases c : x2 = 0
  · simp only [if_pos c, gdP_t nz]
    exact ⟨_, rfl, rfl⟩
  · simp only [if_neg c, gdP_t nz]
    exact ⟨_, rfl, rfl⟩
theorem Y_hope {N h : Nat} {v : PV} {s : Nat → Int32} (hr : RP h v s) (hN : 500 ≤ N) (x0 x1 : Int32) : ∃ r, f_X5_hope N v x0 x1 = some r ∧ f_X6_hope N s x0 x1 = some r := by
  obtain ⟨a, hv, hs, hw, hh⟩ := hr
  unfold f_X5_hope f_X6_hope
  rw [i099, i01]
  rcases wl_c x0 0 (hi := 99) (by decide) (by decide) with p | ⟨n, -, n99, rfl, p⟩
  · have p : f_X5_within x0 0 99 = 0 := p
    rw [if_pos p, if_pos p]; exact ⟨_, rfl, rfl⟩
  · have p : f_X5_within (nI n) 0 99 = 1 := p
    rw [p, if_neg n10, if_neg n10]
    by_cases c : f_X5_within x1 0 1 = 0
    · rw [if_pos c, if_pos c]; exact ⟨_, rfl, rfl⟩
    · have l3 := hw.law (k := 3) (by decide)
      have g1 : pLaws v 3 = nI (aLaw a 3) := hv.2.2.2.1 3 (by decide)
      have g2 : s 6 = nI (aLaw a 3) := hs.2.2.2.1 3 (by decide)
      have hm : n * aLaw a 3 ≤ 99 * 99 := Nat.mul_le_mul n99 (by omega)
      rw [if_neg c, if_neg c, g1, g2, nI_l (by omega), nI_l (by omega), lN_mul]
      obtain ⟨r, e1, e2⟩ := part_c (N := N) hN (a := n * aLaw a 3) (b := 100) (by omega) (by decide) (by decide) x1
      have e1 : f_X5_partOf N (lN (n * aLaw a 3)) 100 x1 = some r := e1
      have e2 : f_X6_partOf N (lN (n * aLaw a 3)) 100 x1 = some r := e2
      rw [e1, e2]
      exact ⟨r, rfl, rfl⟩
