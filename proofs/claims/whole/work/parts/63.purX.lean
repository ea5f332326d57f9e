/-! PURE 24: odds on both sides -/
theorem Y_odds {N h : Nat} {v : PV} {s : Nat → Int32} (hr : RP h v s) (hN : 500 ≤ N) (x0 x1 x2 : Int32) : ∃ r, f_X5_odds N v x0 x1 x2 = some r ∧ f_X6_odds N s x0 x1 x2 = some r := by
  obtain ⟨a, hv, hs, hw, hh⟩ := hr
  unfold f_X5_odds f_X6_odds
  rw [i08, i01, show f_X6_isIn x1.toInt64 0 x0.toInt64 = f_X5_within x1 0 x0 from isIn_eq x1 0 x0]
  rcases wl_c x0 0 (hi := 8) (by decide) (by decide) with p | ⟨n, -, n8, rfl, p⟩
  · have p : f_X5_within x0 0 8 = 0 := p
    rw [if_pos p, if_pos p]; exact ⟨_, rfl, rfl⟩
  · have p : f_X5_within (nI n) 0 8 = 1 := p
    rw [p, if_neg n10, if_neg n10]
    rcases wl_c x1 0 (hi := n) (by omega) (by omega) with q | ⟨k, -, kn, rfl, q⟩
    · have q : f_X5_within x1 0 (nI n) = 0 := q
      rw [if_pos q, if_pos q]; exact ⟨_, rfl, rfl⟩
    · have q : f_X5_within (nI k) 0 (nI n) = 1 := q
      rw [q, if_neg n10, if_neg n10]
      by_cases c2 : f_X5_within x2 0 1 = 0
      · rw [if_pos c2, if_pos c2]; exact ⟨_, rfl, rfl⟩
      · have l3 := hw.2.1.2.2.2.2
        have g1 : pLaws v 3 = nI (aLaw a 3) := hv.2.2.2.1 3 (by decide)
        have g2 : s 6 = nI (aLaw a 3) := hs.2.2.2.1 3 (by decide)
        obtain ⟨o1, o2, o3, o4, o5, o6, o7⟩ := odd_n n (by omega) k (by omega)
        generalize aLaw a 3 = c at *
        have nz1 : ¬ lN (pdN k) = 0 := fun z => by
          have := (pk_lEQ (b := 0) (show pdN k < 2 ^ 63 by omega) (by decide)).mp z
          omega
        have nz2 : ¬ lN (pdN (n - k)) = 0 := fun z => by
          have := (pk_lEQ (b := 0) (show pdN (n - k) < 2 ^ 63 by omega) (by decide)).mp z
          omega
        have s100 : (100 : Int64) - lN c = lN (100 - c) := lN_sub (a := 100) (by omega)
        have i100 : ((100 : Int32) - nI c).toInt64 = lN (100 - c) := by
          rw [show (100 : Int32) - nI c = nI (100 - c) from pk_sub (a := 100) (by omega), nI_l (by omega)]
        have pw100 : f_X5_power N 100 (nI n) = some (lN (100 ^ n)) := X5_power (by omega) n8 100
        obtain ⟨z, e1, e2, e3⟩ := lpR (L := fun f i (z : Int64 × Int64) => f_X6_odds_L61 s (nI n) (nI k) (fun (i16 : Int64) (i17 : Int64) => ob1 (f_X6_partOf N i17 i16 x2) (fun (r19 : Int64) => some r19)) f i z.1 z.2) (k := fun z => ob1 (f_X6_partOf N z.2 z.1 x2) (fun (r19 : Int64) => some r19)) (n := n) (fun j (_ : Unit) z => z.1 = lN (100 ^ j) ∧ z.2 = lN (chN n k * c ^ (min j k) * (100 - c) ^ (j - k))) (fun _ u => u)
          (fun f _ z _ => by show f_X6_odds_L61 _ _ _ _ (f + 1) (nI n) z.1 z.2 = _; rw [f_X6_odds_L61, if_pos (Int32.le_refl _)])
          (fun f j _ z hj hz => by
            obtain ⟨z1, z2⟩ := hz
            show ∃ s' : Int64 × Int64, f_X6_odds_L61 _ _ _ _ (f + 1) (nI j) z.1 z.2 = f_X6_odds_L61 _ _ _ _ f (nI (j + 1)) s'.1 s'.2 ∧ s'.1 = lN (100 ^ (j + 1)) ∧ s'.2 = lN (chN n k * c ^ (min (j + 1) k) * (100 - c) ^ (j + 1 - k))
            rw [f_X6_odds_L61, if_neg (nI_ge hj (by omega)), g2, i100, nI_l (show c < 2 ^ 31 by omega), lj_s, z1, z2, nI_1]
            have b100 : lN (100 ^ j) * 100 = lN (100 ^ (j + 1)) := by rw [Nat.pow_succ]; exact lN_mul _ 100
            by_cases d : k ≤ j
            · rw [if_pos (nI_le d (by omega))]
              dsimp only
              rw [lj_s, lj_s, lj_s, b100, lN_mul]
              refine ⟨(lN (100 ^ (j + 1)), lN (chN n k * c ^ (min j k) * (100 - c) ^ (j - k) * (100 - c))), rfl, rfl, ?_⟩
              show lN _ = lN _
              rw [show min (j + 1) k = min j k by omega, show j + 1 - k = (j - k) + 1 by omega, Nat.pow_succ, Nat.mul_assoc (chN n k * c ^ (min j k))]
            · rw [if_neg (nI_ge (by omega) (by omega))]
              dsimp only
              rw [lj_s, lj_s, lj_s, b100, lN_mul]
              refine ⟨(lN (100 ^ (j + 1)), lN (chN n k * c ^ (min j k) * (100 - c) ^ (j - k) * c)), rfl, rfl, ?_⟩
              show lN _ = lN _
              rw [show min (j + 1) k = j + 1 by omega, show min j k = j by omega, show j + 1 - k = 0 by omega, show j - k = 0 by omega, Nat.pow_zero, Nat.mul_one, Nat.mul_one, Nat.pow_succ, Nat.mul_assoc])
          n 0 N () (1, lN (chN n k)) (by omega) (by omega) ⟨rfl, by rw [Nat.zero_min, Nat.zero_sub, Nat.pow_zero, Nat.pow_zero, Nat.mul_one, Nat.mul_one]⟩
        have e1 : f_X6_odds_L61 s (nI n) (nI k) (fun (i16 : Int64) (i17 : Int64) => ob1 (f_X6_partOf N i17 i16 x2) (fun (r19 : Int64) => some r19)) N 0 1 (lN (chN n k)) = _ := e1
        have hA : chN n k * c ^ k * (100 - c) ^ (n - k) ≤ 70 * 100 ^ 8 := by
          have h1 : c ^ k ≤ 100 ^ k := Nat.pow_le_pow_left (by omega) k
          have h2 : (100 - c) ^ (n - k) ≤ 100 ^ (n - k) := Nat.pow_le_pow_left (by omega) _
          have h3 : chN n k * c ^ k * (100 - c) ^ (n - k) ≤ 70 * 100 ^ k * 100 ^ (n - k) := Nat.mul_le_mul (Nat.mul_le_mul o2 h1) h2
          have h4 : 70 * 100 ^ k * 100 ^ (n - k) = 70 * 100 ^ n := by rw [Nat.mul_assoc, ← Nat.pow_add, show k + (n - k) = n by omega]
          have h5 : 100 ^ n ≤ 100 ^ 8 := Nat.pow_le_pow_right (by decide) n8
          omega
        have hB : 100 ^ n ≤ 100 ^ 8 := Nat.pow_le_pow_right (by decide) n8
        have e8 : 100 ^ 8 = 10000000000000000 := by decide
        obtain ⟨r, f1, f2⟩ := part_c (N := N) hN (a := chN n k * c ^ k * (100 - c) ^ (n - k)) (b := 100 ^ n) (by omega) (by omega) (Nat.pow_pos (by decide)) x2
        rw [if_neg c2, if_neg c2, lj_s, g1, nI_l (show c < 2 ^ 31 by omega), X5_choices (by omega) n8 kn, ob1_s, X5_power (by omega) (by omega), ob1_s, s100, pk_sub kn, X5_power (by omega) (by omega), ob1_s, lN_mul, lN_mul, lj_s, pw100, ob1_s, f1, ob1_s]
        rw [X6_product (by omega) n8, ob1_s, X6_product (by omega) (by omega), ob1_s, gdP_t nz1, X6_product (by omega) (by omega), ob1_s, gdP_t nz2, pk_lDiv (show pdN n < 2 ^ 63 by omega) o3 (by omega), pk_lDiv (show pdN n / pdN k < 2 ^ 63 by rw [Nat.div_lt_iff_lt_mul o3]; omega) o4 (by omega), o1, lj_s, lj_s, e1, e2, e3, show min n k = k by omega, f2, ob1_s]
        exact ⟨_, rfl, rfl⟩
