/-! PURE 14: sheets and shelves -/
def RS (sh : Nat → HV) (so sz nu : Nat → Int32) : Prop := ∀ t, t < 4 → shSort (sh t) = so t ∧ shSize (sh t) = sz t ∧ (so t = -1 ∨ ∃ q : Nat, q ≤ 3 ∧ so t = nI q) ∧ (∃ z : Nat, z ≤ 40 ∧ sz t = nI z) ∧ ∀ i, i < 40 → shItems (sh t) i = (nu (40 * t + i)).toInt64
def RF (sf : Nat → FV) (ho wh mn : Nat → Int32) : Prop := ∀ t, t < 4 → (sfHolding (sf t) = 0 ∧ ho t = 1 ∧ sfNumber (sf t) = wh t) ∨ (sfHolding (sf t) = 1 ∧ ho t = 2 ∧ sfSort (sf t) = wh t ∧ sfSize (sf t) = mn t) ∨ (sfHolding (sf t) = 2 ∧ ho t = 0)
theorem sheet_c (x : Int32) : (f_X5_isSheet x = 0 ∧ f_X6_isSheet x = 0) ∨ ∃ t : Nat, t < 4 ∧ x = nI t ∧ f_X5_isSheet x = 1 ∧ f_X6_isSheet x = 1 := by
  unfold f_X5_isSheet f_X6_isSheet
  rw [i03]
  rcases wl_c x 0 (hi := 3) (by decide) (by decide) with q | ⟨t, -, t3, rfl, q⟩
  · exact Or.inl ⟨q, q⟩
  · exact Or.inr ⟨t, by omega, rfl, q, q⟩
theorem sort_c {so : Int32} (h : so = -1 ∨ ∃ q : Nat, q ≤ 3 ∧ so = nI q) : (so = -1 ∧ ¬ 0 ≤ so ∧ so < 0) ∨ ∃ q : Nat, q ≤ 3 ∧ so = nI q ∧ ¬ so = -1 ∧ 0 ≤ so ∧ ¬ so < 0 := by
  rcases h with rfl | ⟨q, h1, rfl⟩
  · exact Or.inl ⟨rfl, by decide, by decide⟩
  · have nt : ∀ t, t < 8 → ¬ nI t = -1 := by decide
    exact Or.inr ⟨q, h1, rfl, nt q (by omega), nI_le (Nat.zero_le _) (by omega), nI_nlt (b := 0) (a := q) (by omega) (by omega)⟩
theorem ms_c {x : Int32} (h : ¬ f_X5_within x (-1) 3 = 0) : x = -1 ∨ ∃ q : Nat, q ≤ 3 ∧ x = nI q := by
  obtain ⟨h1, h2⟩ := within_of h
  by_cases q : x < 0
  · left
    apply Int32.toInt_inj.mp
    rw [Int32.lt_iff_toInt_lt] at q
    rw [Int32.le_iff_toInt_le] at h1
    have e1 : (-1 : Int32).toInt = -1 := rfl
    have e0 : (0 : Int32).toInt = 0 := rfl
    rw [e1] at h1 ⊢
    rw [e0] at q
    omega
  · right
    obtain ⟨j, e1, e2⟩ := nI_of2 (M := 3) (n := 3) rfl q h2
    exact ⟨j, e1, e2⟩
theorem X2_become {N : Nat} (hN : 100 ≤ N) (v : HV) (x0 x1 : Int32) : ∃ v', f_X2_become N v x0 x1 = some v' ∧ shSort v' = x0 ∧ shSize v' = x1 ∧ ∀ i, i < 40 → shItems v' i = 0 := by
  obtain ⟨u, e1, e2⟩ := lpR (L := fun f i (u : HV) => f_X2_become_L2 (fun (v1 : HV) => lj (shSetSort v1 x0) (fun (v3 : HV) => lj (shSetSize v3 x1) (fun (v4 : HV) => some v4))) f i u) (k := fun (v1 : HV) => some (shSetSize (shSetSort v1 x0) x1)) (n := 40) (fun j (_ : Unit) (u : HV) => ∀ i, i < j → shItems u i = 0) (fun _ u => u)
    (fun f _ u _ => by show f_X2_become_L2 _ (f + 1) (nI 40) u = _; rw [f_X2_become_L2, if_pos (by decide), lj_s, lj_s])
    (fun f j _ u hj hu => by
      show ∃ s', f_X2_become_L2 _ (f + 1) (nI j) u = f_X2_become_L2 _ f (nI (j + 1)) s' ∧ _
      rw [f_X2_become_L2, if_neg (show ¬ (40 : Int32) ≤ nI j from nI_ge hj (by decide)), ckA_nI hj (by decide), nI_clamp (by omega), lj_s, lj_s, nI_1]
      refine ⟨shSetItems u (vp_updL (shItems u) j 0), rfl, fun i hi => ?_⟩
      show vp_updL (shItems u) j 0 i = 0
      unfold vp_updL
      by_cases e : i = j
      · rw [if_pos e]
      · rw [if_neg e]; exact hu i (by omega))
    40 0 N () v (by omega) (by omega) (fun i hi => absurd hi (by omega))
  refine ⟨shSetSize (shSetSort u x0) x1, ?_, rfl, rfl, e2⟩
  unfold f_X2_become
  rw [lj_s]
  exact e1
theorem RS_new {sh : Nat → HV} {so sz nu nu' : Nat → Int32} (h : RS sh so sz nu) {t : Nat} {v' : HV} {x1 : Int32} {z : Nat} (hx : x1 = -1 ∨ ∃ q : Nat, q ≤ 3 ∧ x1 = nI q) (hz : z ≤ 40) (h1 : shSort v' = x1) (h2 : shSize v' = nI z) (h3 : ∀ i, i < 40 → shItems v' i = (nu' (40 * t + i)).toInt64) (h4 : ∀ i, (i < 40 * t ∨ 40 * t + 40 ≤ i) → nu' i = nu i) : RS (va_up sh t v') (upd so t x1) (upd sz t (nI z)) nu' := by
  intro u hu
  by_cases e : u = t
  · subst e
    rw [va_up_self, upd_s, upd_s]
    exact ⟨h1, h2, hx, ⟨z, hz, rfl⟩, h3⟩
  · rw [va_up_ne sh v' e, upd_n e, upd_n e]
    obtain ⟨g1, g2, g3, g4, g5⟩ := h u hu
    refine ⟨g1, g2, g3, g4, fun i hi => ?_⟩
    rw [g5 i hi, h4 _ (by omega)]
def YS (c : Option (Int32 × (Nat → HV))) (m : Option (Int32 × (Nat → Int32) × (Nat → Int32) × (Nat → Int32))) : Prop := ∃ (r : Int32) (sh : Nat → HV) (so sz nu : Nat → Int32), c = some (r, sh) ∧ m = some (r, so, sz, nu) ∧ RS sh so sz nu
theorem Y_sheet {N : Nat} (hN : 500 ≤ N) {sh : Nat → HV} {so sz nu : Nat → Int32} (h : RS sh so sz nu) (x0 x1 x2 : Int32) : YS (f_X5_sheet N sh x0 x1 x2) (f_X6_sheet N so sz nu x0 x1 x2) := by
  unfold f_X5_sheet f_X6_sheet
  rcases sheet_c x0 with ⟨q1, q2⟩ | ⟨t, ht, rfl, q1, q2⟩
  · rw [if_pos q1, if_pos q2]; exact ⟨_, _, _, _, _, rfl, rfl, h⟩
  · rw [q1, q2, if_neg n10, if_neg n10, im13]
    by_cases p : f_X5_within x1 (-1) 3 = 0
    · rw [if_pos p, if_pos p]; exact ⟨_, _, _, _, _, rfl, rfl, h⟩
    · have hx := ms_c p
      rw [if_neg p, if_neg p]
      have model : ∀ (z : Nat), z ≤ 40 → ∃ nu', f_X6_sheet_L69 (nI t) (upd so t x1) (upd sz t (nI z)) N 0 nu = some (1, upd so t x1, upd sz t (nI z), nu') ∧ (∀ i, i < 40 → nu' (40 * t + i) = 0) ∧ ∀ i, (i < 40 * t ∨ 40 * t + 40 ≤ i) → nu' i = nu i := by
        intro z hz
        obtain ⟨nu', e1, e2, e3⟩ := lpR (L := fun f i (u : Nat → Int32) => f_X6_sheet_L69 (nI t) (upd so t x1) (upd sz t (nI z)) f i u) (k := fun u => some (1, upd so t x1, upd sz t (nI z), u)) (n := 40) (fun j (_ : Unit) (u : Nat → Int32) => (∀ i, i < j → u (40 * t + i) = 0) ∧ ∀ i, (i < 40 * t ∨ 40 * t + 40 ≤ i) → u i = nu i) (fun _ u => u)
          (fun f _ u _ => by show f_X6_sheet_L69 _ _ _ (f + 1) (nI 40) u = _; rw [f_X6_sheet_L69, if_pos (by decide)])
          (fun f j _ u hj hu => by
            show ∃ s', f_X6_sheet_L69 _ _ _ (f + 1) (nI j) u = f_X6_sheet_L69 _ _ _ f (nI (j + 1)) s' ∧ _
            have im : (40 : Int32) * nI t + nI j = nI (40 * t + j) := by rw [show (40 : Int32) * nI t = nI (40 * t) from pk_mul 40 t, nI_add]
            rw [f_X6_sheet_L69, if_neg (show ¬ (40 : Int32) ≤ nI j from nI_ge hj (by decide)), im, ckA_nI (show 40 * t + j < 160 by omega) (by decide), nI_clamp (by omega), lj_s, lj_s, nI_1]
            refine ⟨_, rfl, fun i hi => ?_, fun i hi => ?_⟩
            · by_cases e : i = j
              · rw [e, upd_s]
              · rw [upd_n (by omega)]; exact hu.1 i (by omega)
            · rw [upd_n (by omega)]; exact hu.2 i hi)
          40 0 N () nu (by omega) (by omega) ⟨fun i hi => absurd hi (by omega), fun _ _ => rfl⟩
        exact ⟨nu', e1, e2, e3⟩
      have fin : ∀ (z : Nat) (y : Int32), z ≤ 40 → y = nI z → YS (ob1 (f_X2_become N (sh t) x1 y) (fun (v11 : HV) => some (1, va_up sh t v11))) (f_X6_sheet_L69 (nI t) (upd so t x1) (upd sz t y) N 0 nu) := by
        rintro z y hz rfl
        obtain ⟨v', b1, b2, b3, b4⟩ := X2_become (N := N) (by omega) (sh t) x1 (nI z)
        obtain ⟨nu', c1, c2, c3⟩ := model z hz
        rw [b1, ob1_s, c1]
        refine ⟨_, _, _, _, _, rfl, rfl, RS_new h hx hz b2 b3 (fun i hi => ?_) c3⟩
        rw [b4 i hi, c2 i hi]
        rfl
      simp only [lj, ckA_nI ht (show 4 < 2 ^ 31 by decide), nI_clamp (show t < 2 ^ 31 by omega)]
      rcases sort_c hx with ⟨s1, s2, s3⟩ | ⟨qq, -, -, s1, s2, s3⟩
      · rw [if_pos s1, if_pos s3, if_pos s3, if_neg s2]
        have := fin 0 0 (by decide) rfl
        rw [s1] at this ⊢
        exact this
      · rw [if_neg s1, if_neg s3, if_neg s3, if_pos s2]
        by_cases c1 : x2 ≤ 40
        · rw [if_pos c1, if_pos c1]
          by_cases c2 : 0 ≤ x2
          · rw [if_pos c2, if_pos c2]
            obtain ⟨z, z1, rfl⟩ := nI_of2 (M := 40) (n := 40) rfl (Int32.not_lt.mpr c2) c1
            exact fin z (nI z) z1 rfl
          · rw [if_neg c2, if_neg c2]; exact ⟨_, _, _, _, _, rfl, rfl, h⟩
        · rw [if_neg c1, if_neg c1]; exact ⟨_, _, _, _, _, rfl, rfl, h⟩
theorem cs_c (y : Int32) (x : Int32) {z : Nat} (hy : y = nI z) (hz : z ≤ 40) : (f_X5_within x 0 (y - 1) = 0 ∧ f_X6_isIn x.toInt64 0 (y - 1).toInt64 = 0) ∨ ∃ i : Nat, i < z ∧ x = nI i ∧ f_X5_within x 0 (y - 1) = 1 ∧ f_X6_isIn x.toInt64 0 (y - 1).toInt64 = 1 := by
  subst hy
  rw [show f_X6_isIn x.toInt64 0 (nI z - 1).toInt64 = f_X5_within x 0 (nI z - 1) from isIn_eq x 0 (nI z - 1)]
  rcases wn_c x (n := z) (by omega) with ⟨q, -⟩ | ⟨i, h1, h2, h3⟩
  · exact Or.inl ⟨q, q⟩
  · exact Or.inr ⟨i, h1, h2, h3, h3⟩
theorem Y_put {sh : Nat → HV} {so sz nu : Nat → Int32} (h : RS sh so sz nu) (x0 x1 x2 : Int32) : Y2 (fun sh nu => RS sh so sz nu) (f_X5_put sh x0 x1 x2) (f_X6_put so sz nu x0 x1 x2) := by
  unfold f_X5_put f_X6_put
  rcases sheet_c x0 with ⟨q1, q2⟩ | ⟨t, ht, rfl, q1, q2⟩
  · rw [if_pos q1, if_pos q2]; exact Y2.mk _ _ _ rfl rfl h
  · obtain ⟨g1, g2, g3, ⟨z, z40, g4⟩, g5⟩ := h t ht
    rw [q1, q2, if_neg n10, if_neg n10, ckA_nI ht (by decide), nI_clamp (show t < 2 ^ 31 by omega), lj_s, rdA_nI ht (by decide), rdA_nI ht (by decide), g1, g2]
    rcases sort_c g3 with ⟨s1, s2, s3⟩ | ⟨qq, q3, s0, s1, s2, s3⟩
    · rw [if_pos s1, if_neg s2]; exact Y2.mk _ _ _ rfl rfl h
    · rw [if_neg s1, if_pos s2]
      rcases cs_c (sz t) x1 g4 z40 with ⟨p1, p2⟩ | ⟨i, hi, rfl, p1, p2⟩
      · rw [if_pos p1, if_pos p2]; exact Y2.mk _ _ _ rfl rfl h
      · have im : (40 : Int32) * nI t + nI i = nI (40 * t + i) := by rw [show (40 : Int32) * nI t = nI (40 * t) from pk_mul 40 t, nI_add]
        have fin : ∀ (y : Int32) (y6 : Int64), y6 = y.toInt64 → Y2 (fun sh nu => RS sh so sz nu) (some (1, va_up sh t (shSetItems (sh t) (vp_updL (shItems (sh t)) i y6)))) (some (1, upd nu (40 * t + i) y)) := by
          rintro y _ rfl
          refine Y2.mk _ _ _ rfl rfl (fun u hu => ?_)
          obtain ⟨k1, k2, k3, k4, k5⟩ := h u hu
          by_cases e : u = t
          · subst e
            rw [va_up_self]
            refine ⟨k1, k2, k3, k4, fun j hj => ?_⟩
            show vp_updL (shItems (sh u)) i y.toInt64 j = _
            unfold vp_updL
            by_cases e2 : j = i
            · rw [if_pos e2, e2, upd_s]
            · rw [if_neg e2, upd_n (by omega)]; exact k5 j hj
          · rw [va_up_ne sh _ e]
            refine ⟨k1, k2, k3, k4, fun j hj => ?_⟩
            rw [upd_n (by omega)]; exact k5 j hj
        rw [p1, p2, if_neg n10, if_neg n10]
        simp only [lj, ckA_nI (show i < 40 by omega) (show 40 < 2 ^ 31 by decide), rdA_nI ht (show 4 < 2 ^ 31 by decide), im, ckA_nI (show 40 * t + i < 160 by omega) (show 160 < 2 ^ 31 by decide), nI_clamp (show i < 2 ^ 31 by omega), nI_clamp (show 40 * t + i < 2 ^ 31 by omega)]
        unfold f_X2_narrowed
        rw [g1]
        by_cases c0 : so t = 0
        · rw [if_pos c0, if_pos c0]
          exact fin _ _ rfl
        · rw [if_neg c0, if_neg c0]
          by_cases c1 : so t = 1
          · rw [if_pos c1, if_pos c1]
            exact fin _ _ rfl
          · rw [if_neg c1, if_neg c1]
            exact fin _ _ rfl
theorem lacks_c {so : Nat → Int32} {t : Nat} (ht : t < 4) (x : Int32) : f_X6_lacks so (nI t) x = some (if 0 ≤ so t then (if so t = x then 0 else -13) else -11) := by
  unfold f_X6_lacks
  rw [rdA_nI ht (by decide), rdA_nI ht (by decide)]
  split
  · split <;> rfl
  · rfl
theorem Y_item {sh : Nat → HV} {so sz nu : Nat → Int32} (h : RS sh so sz nu) (x0 x1 x2 : Int32) : ∃ r, f_X5_item sh x0 x1 x2 = some r ∧ f_X6_item so sz nu x0 x1 x2 = some r := by
  unfold f_X5_item f_X6_item
  rcases sheet_c x0 with ⟨q1, q2⟩ | ⟨t, ht, rfl, q1, q2⟩
  · rw [if_pos q1, if_pos q2]; exact ⟨_, rfl, rfl⟩
  · obtain ⟨g1, g2, g3, ⟨z, z40, g4⟩, g5⟩ := h t ht
    rw [q1, q2, if_neg n10, if_neg n10, i03]
    by_cases p : f_X5_within x1 0 3 = 0
    · rw [if_pos p, if_pos p]; exact ⟨_, rfl, rfl⟩
    · rw [if_neg p, if_neg p, ckA_nI ht (by decide), nI_clamp (show t < 2 ^ 31 by omega), lj_s, lacks_c ht, ob1_s, ob1_s, g1, g2, rdA_nI ht (by decide)]
      rcases sort_c g3 with ⟨s1, s2, s3⟩ | ⟨qq, q3, s0, s1, s2, s3⟩
      · rw [if_pos s1, if_neg s2, if_neg (by decide)]; exact ⟨_, rfl, rfl⟩
      · rw [if_neg s1, if_pos s2]
        by_cases c : so t = x1
        · rw [if_pos c, if_pos c, if_pos (show (0 : Int32) = 0 from rfl)]
          rcases cs_c (sz t) x2 g4 z40 with ⟨p1, p2⟩ | ⟨i, hi, rfl, p1, p2⟩
          · rw [if_pos p1, if_pos p2]; exact ⟨_, rfl, rfl⟩
          · have im : (40 : Int32) * nI t + nI i = nI (40 * t + i) := by rw [show (40 : Int32) * nI t = nI (40 * t) from pk_mul 40 t, nI_add]
            rw [p1, p2, if_neg n10, if_neg n10, rdA_nI (show i < 40 by omega) (by decide), lj_s, im, rdA_nI (show 40 * t + i < 160 by omega) (by decide), g5 i (by omega), Int32.toInt32_toInt64]
            exact ⟨_, rfl, rfl⟩
        · rw [if_neg c, if_neg c, if_neg (by decide)]; exact ⟨_, rfl, rfl⟩
