/-! PURE 23: odds -/
theorem X5_power {N m : Nat} (hN : 100 ≤ N) (hm : m ≤ 8) (b : Nat) : f_X5_power N (lN b) (nI m) = some (lN (b ^ m)) := by
  obtain ⟨s', e1, e2⟩ := lpR (L := fun f i (c : Int64) => f_X5_power_L5 (lN b) (nI m) f i c) (k := fun c => some c) (n := m) (fun j (_ : Unit) (c : Int64) => c = lN (b ^ j)) (fun _ u => u)
    (fun f _ c _ => by show f_X5_power_L5 (lN b) (nI m) (f + 1) (nI m) c = _; rw [f_X5_power_L5, if_pos (Int32.le_refl _)])
    (fun f j _ c hj hc => by
      show ∃ s', f_X5_power_L5 (lN b) (nI m) (f + 1) (nI j) c = f_X5_power_L5 (lN b) (nI m) f (nI (j + 1)) s' ∧ _
      rw [f_X5_power_L5, if_neg (nI_ge hj (by omega)), hc, lN_mul, lj_s, lj_s, nI_1]
      exact ⟨_, rfl, by rw [Nat.pow_succ]⟩)
    m 0 N () (lN 1) (by omega) (by omega) (by rw [Nat.pow_zero])
  subst e2
  exact e1
def pdN (n : Nat) : Nat := fld (fun j v => v * j) 2 (n - 1) 1
def chN (n k : Nat) : Nat := fld (fun i w => w * (n - k + i) / i) 1 k 1
theorem X6_product {N n : Nat} (hN : 100 ≤ N) (hn : n ≤ 8) : f_X6_product N (nI n) = some (lN (pdN n)) := by
  have key : ∀ (d j f v : Nat), j + d = n + 1 → 2 ≤ j → d < f → f_X6_product_L4 (nI n) f (nI j) (lN v) = some (lN (fld (fun j v => v * j) j d v)) := by
    intro d
    induction d with
    | zero =>
      intro j f v hj h2 hf
      obtain ⟨f, rfl⟩ : ∃ f', f = f' + 1 := ⟨f - 1, by omega⟩
      rw [f_X6_product_L4, if_pos (nI_lt (by omega) (by omega))]
      rfl
    | succ d ih =>
      intro j f v hj h2 hf
      obtain ⟨f, rfl⟩ : ∃ f', f = f' + 1 := ⟨f - 1, by omega⟩
      rw [f_X6_product_L4, if_neg (nI_nlt (by omega) (by omega)), nI_l (by omega), lN_mul, lj_s, lj_s, nI_1]
      exact ih (j + 1) f (v * j) (by omega) (by omega) (by omega)
  by_cases c : n = 0
  · subst c
    obtain ⟨N, rfl⟩ : ∃ N', N = N' + 1 := ⟨N - 1, by omega⟩
    unfold f_X6_product
    rw [f_X6_product_L4, if_pos (by decide)]
    rfl
  · exact key (n - 1) 2 N 1 (by omega) (by decide) (by omega)
theorem X5_choices {N n k : Nat} (hN : 100 ≤ N) (hn : n ≤ 8) (hk : k ≤ n) : f_X5_choices N (nI n) (nI k) = some (lN (chN n k)) := by
  have key : ∀ (d j f w : Nat), j + d = k + 1 → 1 ≤ j → d < f → w ≤ 8 ^ j → f_X5_choices_L5 (nI n) (nI k) f (nI j) (lN w) = some (lN (fld (fun i w => w * (n - k + i) / i) j d w)) := by
    intro d
    induction d with
    | zero =>
      intro j f w hj h1 hf hw
      obtain ⟨f, rfl⟩ : ∃ f', f = f' + 1 := ⟨f - 1, by omega⟩
      rw [f_X5_choices_L5, if_pos (nI_lt (by omega) (by omega))]
      rfl
    | succ d ih =>
      intro j f w hj h1 hf hw
      obtain ⟨f, rfl⟩ : ∃ f', f = f' + 1 := ⟨f - 1, by omega⟩
      have nz : ¬ lN j = 0 := fun z => by
        have := (pk_lEQ (b := 0) (show j < 2 ^ 63 by omega) (by decide)).mp z
        omega
      have hm : w * (n - k + j) ≤ 8 ^ j * 8 := Nat.mul_le_mul hw (by omega)
      have hp : 8 ^ j ≤ 8 ^ 8 := Nat.pow_le_pow_right (by decide) (by omega)
      have hp8 : 8 ^ 8 = 16777216 := by decide
      have hd : w * (n - k + j) / j ≤ 8 ^ (j + 1) := by
        rw [Nat.pow_succ]
        exact Nat.le_trans (Nat.div_le_self _ _) hm
      rw [f_X5_choices_L5, if_neg (nI_nlt (by omega) (by omega)), nI_l (show j < 2 ^ 31 by omega), gdP_t nz, pk_sub hk, nI_add, nI_l (show n - k + j < 2 ^ 31 by omega), lN_mul, pk_lDiv (show w * (n - k + j) < 2 ^ 63 by omega) (by omega) (by omega), lj_s, lj_s, nI_1]
      exact ih (j + 1) f _ (by omega) (by omega) (by omega) hd
  exact key k 1 N 1 (by omega) (by decide) (by omega) (by decide)
theorem odd_n : ∀ n, n < 9 → ∀ k, k < n + 1 → pdN n / pdN k / pdN (n - k) = chN n k ∧ chN n k ≤ 70 ∧ 0 < pdN k ∧ 0 < pdN (n - k) ∧ pdN n < 100000 ∧ pdN k < 100000 ∧ pdN (n - k) < 100000 := by decide
