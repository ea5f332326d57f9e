/-! PURE 16: taken, many, fits -/
theorem as_c : ∀ y, y < 14 → f_X5_within (nI y) 10 13 = (if 10 ≤ y then 1 else 0) ∧ f_X5_within (nI y) 0 5 = (if y ≤ 5 then 1 else 0) ∧ f_X5_within (nI y) 6 9 = (if 6 ≤ y ∧ y ≤ 9 then 1 else 0) := by decide
theorem Y_taken {N h : Nat} {v : PV} {s : Nat → Int32} (hr : RP h v s) (hN : 500 ≤ N) {sf : Nat → FV} {ho wh mn : Nat → Int32} (hF : RF sf ho wh mn) (x0 x1 : Int32) : ∃ r, f_X5_taken N v sf x0 x1 = some r ∧ f_X6_taken s ho wh mn x0 x1 = some r := by
  unfold f_X5_taken f_X6_taken f_X5_isKind
  simp only [lj]
  rcases shelf_c x0 with ⟨q1, q2⟩ | ⟨t, ht, rfl, q1, q2⟩
  · rw [if_pos q1, if_pos q2]; exact ⟨_, rfl, rfl⟩
  · rw [q1, q2, if_neg n10, if_neg n10, i013, i69]
    simp only [ckA_nI ht (show 4 < 2 ^ 31 by decide), rdA_nI ht (show 4 < 2 ^ 31 by decide), nI_clamp (show t < 2 ^ 31 by omega)]
    rcases wl_c x1 0 (hi := 13) (by decide) (by decide) with p | ⟨y, -, y13, rfl, p⟩
    · have z1 : f_X5_within x1 0 5 = 0 := by
        rcases wl_c x1 0 (hi := 5) (by decide) (by decide) with z | ⟨k, -, k5, rfl, -⟩
        · exact z
        · rw [within_t (a := 0) (b := 13) (by omega) (by omega) (by decide)] at p
          exact absurd p n10
      have z2 : f_X5_within x1 10 13 = 0 := by
        rcases wl_c x1 10 (hi := 13) (by decide) (by decide) with z | ⟨k, -, k5, rfl, -⟩
        · exact z
        · rw [within_t (a := 0) (b := 13) (by omega) (by omega) (by decide)] at p
          exact absurd p n10
      have p : f_X5_within x1 0 13 = 0 := p
      rw [if_pos z1, if_pos z2, if_pos p]
      exact ⟨_, rfl, rfl⟩
    · have p : f_X5_within (nI y) 0 13 = 1 := p
      obtain ⟨a1, a2, a3⟩ := as_c y (by omega)
      have a4 : (10 ≤ nI y) ↔ 10 ≤ y := nI_leI (a := 10) (by decide) (by omega)
      rw [p, a1, a2, a3, if_neg n10]
      simp only [a4]
      by_cases c5 : y ≤ 5
      · have c10 : ¬ 10 ≤ y := by omega
        have c6 : ¬ 6 ≤ y := by omega
        rcases held_c hr hF ht with ⟨g1, g2, a, j, hv, hs, hw, -, hj, e1, e2⟩ | ⟨g1, g2, e1, e2⟩ | ⟨g1, g2⟩
        · obtain ⟨m1, -, -⟩ := hv.2.2.2.2.1 j hj
          have w1 := (hw.2.2.1 j hj).1
          have h8 := hw.1
          have hu := under_c (N := N) (by omega) w1 (show y < 6 by omega)
          by_cases u : f_X6_isUnder (nI (aKind a j)) (nI y) = 0
          · simp [c5, c10, c6, g1, g2, ob1_s, e1, e2, rdA_nI (show j < 8 by omega) (show 8 < 2 ^ 31 by decide), m1, itsK hs h8 hj, hu, u]
          · simp [c5, c10, c6, g1, g2, ob1_s, e1, e2, rdA_nI (show j < 8 by omega) (show 8 < 2 ^ 31 by decide), m1, itsK hs h8 hj, hu, u]
        · simp [c5, c10, c6, g1, g2, ob1_s]
        · simp [c5, c10, c6, g1, g2, ob1_s]
      · by_cases c10 : 10 ≤ y
        · have c9 : ¬ y ≤ 9 := by omega
          rcases held_c hr hF ht with ⟨g1, g2, -⟩ | ⟨g1, g2, e1, e2⟩ | ⟨g1, g2⟩
          · simp [c5, c10, c9, g1, g2, ob1_s]
          · by_cases u : wh t = nI y - 10
            · simp [c5, c10, c9, g1, g2, ob1_s, e1, e2, u]
            · simp [c5, c10, c9, g1, g2, ob1_s, e1, e2, u]
          · simp [c5, c10, c9, g1, g2, ob1_s]
        · have c6 : 6 ≤ y := by omega
          have c9 : y ≤ 9 := by omega
          simp [c5, c10, c6, c9]
theorem Y_many {N h : Nat} {v : PV} {s : Nat → Int32} (hr : RP h v s) (hN : 9 ≤ N) (n : Int32) {tp : TV} {dd : DV} {tl ra : Int32} (ht : tpLength tp = tl) (hd : ddRan dd = ra) (x0 : Int32) : ∃ r, f_X5_many N n v tp dd x0 = some r ∧ f_X6_many N s tl n ra x0 = some r := by
  obtain ⟨a, hv, hs, hw, hh⟩ := hr
  have h8 := hw.1
  have hm := X1_marked hv hw hN
  have hd256 : gDr a < 256 := sN_256 _ h8
  unfold f_X5_many f_X6_many
  rw [X1_dried hv hw hN, X6_dryOnes hs hw hN, hm.1, X6_marked hs hw hN, X1_touches hv hw hN, X6_many3 hs hw hN, hv.1, hs.1]
  simp only [ob1_s, lj_s, bc_ok hd256, size_ok hd256 hN, bc_ok hm.2, size_ok hm.2 hN, ht, hd]
  have ex : ∀ (c : Prop) [Decidable c] (p q : Option Int32), (∃ r, p = some r) → (∃ r, q = some r) → ∃ r, (if c then p else q) = some r := fun c _ p q h1 h2 => by split <;> assumption
  obtain ⟨r, e⟩ := ex (x0 = 0) _ _ ⟨_, rfl⟩ (ex (x0 = 1) _ _ ⟨_, rfl⟩ (ex (x0 = 2) _ _ ⟨_, rfl⟩ (ex (x0 = 3) _ _ ⟨_, rfl⟩ (ex (x0 = 4) _ _ ⟨_, rfl⟩ (ex (x0 = 5) _ _ ⟨_, rfl⟩ (ex (x0 = 6) _ _ ⟨_, rfl⟩ ⟨_, rfl⟩))))))
  exact ⟨r, e, e⟩
def gFr (M : Nat → Bool) : Nat → Nat → Bool
  | 0, _ => true
  | d + 1, j => if M j = true then gFr M d (j + 1) else false
def gTm (a : AP) (k : Nat) (I : Nat → Int32) (j : Nat) : Bool := decide (I j = -1) || decide (I j = nI (aOn (itN gPh (j + 1) a) k))
theorem lg_e (x y : Int32) : lg_cmp x.toInt64 y.toInt64 = 0 ↔ x = y := by
  have he : x.toInt64 = y.toInt64 ↔ x = y := by rw [← Int64.toInt_inj, ← Int32.toInt_inj, Int32.toInt_toInt64, Int32.toInt_toInt64]
  have hl : y.toInt64 < x.toInt64 ↔ y < x := by rw [Int64.lt_iff_toInt_lt, Int32.lt_iff_toInt_lt, Int32.toInt_toInt64, Int32.toInt_toInt64]
  unfold lg_cmp
  simp only [gt_iff_lt, hl, he]
  by_cases c : y < x
  · rw [if_pos c]
    exact ⟨fun z => absurd z (by decide), fun z => absurd c (by rw [z]; exact Int32.lt_irrefl)⟩
  · rw [if_neg c]
    by_cases d : x = y
    · rw [if_pos d]; exact ⟨fun _ => d, fun _ => rfl⟩
    · rw [if_neg d]; exact ⟨fun z => absurd z (by decide), fun z => absurd z d⟩
theorem X5_fitsFrom {N : Nat} {a : AP} {v : PV} (t : PV) (hv : CV a v) (hw : WF a) (hN : 500 ≤ N) (hh : aH a + 1001 < 2 ^ 31) {k p z : Nat} (hk : k < aN a) (hp : p < 8) (hz : z ≤ 40) {o : HV} {I : Nat → Int32} (ho : shSize o = nI z) (hI : ∀ i, i < 40 → shItems o i = (I i).toInt64) : ∃ t', f_X5_fitsFrom N v t o (nI k) (nI p) = some (bI (gFr (gTm (aSOn a k p) k I) z 0), t') := by
  have h8 := hw.1
  obtain ⟨t1, b1, b2⟩ := X1_become (v := t) hv h8
  have b3 := CV_on b2 k p
  have hw2 : WF (aSOn a k p) := WF_on hw hp
  generalize hA : aSOn a k p = A at *
  have hkA : k < aN A := by rw [← hA]; exact hk
  have hhA : aH A + 1001 < 2 ^ 31 := by rw [← hA]; exact hh
  have key : ∀ (d j f : Nat) (u : PV), j + d = z → d < f → CV (itN gPh j A) u → ∃ t', f_X5_fitsFrom_L24 N o (nI k) f (nI j) u = some (bI (gFr (gTm A k I) d j), t') := by
    intro d
    induction d with
    | zero =>
      intro j f u hj hf hu
      obtain ⟨f, rfl⟩ : ∃ f', f = f' + 1 := ⟨f - 1, by omega⟩
      refine ⟨u, ?_⟩
      rw [f_X5_fitsFrom_L24, ho, if_pos (nI_le (by omega) (by omega)), gFr]
      rfl
    | succ d ih =>
      intro j f u hj hf hu
      obtain ⟨f, rfl⟩ : ∃ f', f = f' + 1 := ⟨f - 1, by omega⟩
      have hwj := itW hw2 j
      have hkj : k < aN (itN gPh (j + 1) A) := by rw [itA]; exact hkA
      have h8j : aN (itN gPh (j + 1) A) ≤ 8 := by rw [itA]; exact hw2.1
      obtain ⟨u2, g1, g2, -⟩ := X1_passHour (N := N) hu hwj (by omega) (by rw [itH]; omega)
      rw [← itN_succ gPh j A] at g2
      have ho2 : pOn u2 k = nI (aOn (itN gPh (j + 1) A) k) := (g2.2.2.2.2.1 k hkj).2.2
      obtain ⟨t', e1⟩ := ih (j + 1) f u2 (by omega) (by omega) g2
      rw [f_X5_fitsFrom_L24, ho, if_neg (nI_ge (by omega) (by omega)), g1, ob1_s, rdA_nI (show j < 40 by omega) (by decide), hI j (by omega), lj_s, lj_s, rdA_nI (show k < 8 by omega) (by decide), ho2, nI_1, gFr, if_cg (show lg_cmp (I j).toInt64 (-1) = 0 ↔ I j = -1 from lg_e (I j) (-1)), if_cg (lg_e (I j) (nI (aOn (itN gPh (j + 1) A) k)))]
      unfold gTm at e1 ⊢
      by_cases c1 : I j = -1
      · rw [if_pos c1, if_pos (by simp [c1])]
        exact ⟨t', e1⟩
      · rw [if_neg c1]
        by_cases c2 : I j = nI (aOn (itN gPh (j + 1) A) k)
        · rw [if_pos c2, if_pos (by simp [c2])]
          exact ⟨t', e1⟩
        · rw [if_neg c2, if_neg (by simp [c1, c2])]
          exact ⟨u2, rfl⟩
  obtain ⟨t', e1⟩ := key z 0 N (pSetOn t1 (upd (pOn t1) k (nI p))) (by omega) (by omega) b3
  refine ⟨t', ?_⟩
  unfold f_X5_fitsFrom
  rw [b1, ob1_s, ckA_nI (show k < 8 by omega) (by decide), nI_clamp (by omega), lj_s]
  exact e1
theorem X6_isTold {N : Nat} {A : AP} {s : Nat → Int32} (q : Nat → Int32) (hs : CM A s) (hw : WF A) (hN : 500 ≤ N) (hh : aH A + 1001 < 2 ^ 31) {k t z : Nat} (hk : k < aN A) (ht : t < 4) (hz : z ≤ 40) {sz nu : Nat → Int32} (ho : sz t = nI z) : ∃ s' q', f_X6_isTold N s q sz nu (nI t) (nI k) = some (bI (gFr (gTm A k (fun i => nu (40 * t + i))) z 0), s', q') ∧ ∀ i, i < 43 → s' i = s i := by
  obtain ⟨v1, c1, c2⟩ := X6_copyRow (N := N) (by omega) s q
  have key : ∀ (j5 : Int32 → (Nat → Int32) → Option (Int32 × (Nat → Int32) × (Nat → Int32))) (d j f : Nat) (u : Nat → Int32), j + d = z → d + 1 < f → CM (itN gPh j A) u → ∃ u', f_X6_isTold_L16 N sz nu (nI t) (nI k) j5 f (nI j) 1 u = j5 (bI (gFr (gTm A k (fun i => nu (40 * t + i))) d j)) u' := by
    intro j5 d
    induction d with
    | zero =>
      intro j f u hj hf hu
      obtain ⟨f, rfl⟩ : ∃ f', f = f' + 1 := ⟨f - 1, by omega⟩
      refine ⟨u, ?_⟩
      rw [f_X6_isTold_L16, rdA_nI ht (by decide), ho, if_pos (nI_le (by omega) (by omega)), gFr]
      rfl
    | succ d ih =>
      intro j f u hj hf hu
      obtain ⟨f, rfl⟩ : ∃ f', f = f' + 1 := ⟨f - 1, by omega⟩
      have hwj := itW hw j
      have hkj : k < aN (itN gPh (j + 1) A) := by rw [itA]; exact hk
      have h8j : aN (itN gPh (j + 1) A) ≤ 8 := by rw [itA]; exact hw.1
      obtain ⟨u2, g1, g2⟩ := X6_goes1 (N := N) hu hwj (by omega) (by rw [itH]; omega)
      rw [← itN_succ gPh j A] at g2
      obtain ⟨u', e1⟩ := ih (j + 1) f u2 (by omega) (by omega) g2
      have im : (40 : Int32) * nI t + nI j = nI (40 * t + j) := by rw [show (40 : Int32) * nI t = nI (40 * t) from pk_mul 40 t, nI_add]
      rw [f_X6_isTold_L16, rdA_nI ht (by decide), ho, if_neg (nI_ge (by omega) (by omega)), if_neg n10, g1, ob1_s, im, rdA_nI (show 40 * t + j < 160 by omega) (by decide)]
      simp only [lj, nI_1, rdA_nI (show 40 * t + j < 160 by omega) (show 160 < 2 ^ 31 by decide), itsO g2 h8j hkj, ob1_s]
      rw [gFr]
      unfold gTm at e1 ⊢
      by_cases d1 : nu (40 * t + j) = -1
      · rw [if_pos d1, if_pos (by simp [d1])]
        exact ⟨u', e1⟩
      · rw [if_neg d1]
        by_cases d2 : nu (40 * t + j) = nI (aOn (itN gPh (j + 1) A) k)
        · rw [if_pos d2, if_pos (by simp [d2])]
          exact ⟨u', e1⟩
        · rw [if_neg d2, if_neg (by simp [d1, d2])]
          obtain ⟨f, rfl⟩ : ∃ f', f = f' + 1 := ⟨f - 1, by omega⟩
          refine ⟨u2, ?_⟩
          rw [f_X6_isTold_L16, rdA_nI ht (by decide), ho]
          by_cases c : nI z ≤ nI (j + 1)
          · rw [if_pos c]; rfl
          · rw [if_neg c, if_pos (by rfl)]; rfl
  obtain ⟨u', d1⟩ := key (fun (i3 : Int32) (v4 : Nat → Int32) => ob1 (f_X6_copyRow N v1 v4) (fun (v6 : Nat → Int32) => gdP (i3 = 0 ∨ i3 = 1) (some (i3, v6, v1)))) z 0 N s (by omega) (by omega) hs
  have d1 : f_X6_isTold_L16 N sz nu (nI t) (nI k) (fun (i3 : Int32) (v4 : Nat → Int32) => ob1 (f_X6_copyRow N v1 v4) (fun (v6 : Nat → Int32) => gdP (i3 = 0 ∨ i3 = 1) (some (i3, v6, v1)))) N 0 1 s = _ := d1
  obtain ⟨v6, c3, c4⟩ := X6_copyRow (N := N) (by omega) v1 u'
  have hb : ∀ b : Bool, bI b = 0 ∨ bI b = 1 := fun b => by cases b <;> simp [bI]
  refine ⟨v6, v1, ?_, fun i hi => (c4 i hi).trans (c2 i hi)⟩
  unfold f_X6_isTold
  rw [c1, ob1_s, lj_s, d1, c3, ob1_s, gdP_t (hb _)]
def gFs (P : Nat → Bool) : Nat → Nat × Int32 → Nat × Int32
  | 0, x => x
  | d + 1, x => gFs P d (if P d = true then (x.1 + 1, nI d) else x)
theorem Y_fits {N h : Nat} {v : PV} {s : Nat → Int32} (t : PV) (q : Nat → Int32) (hr : RP h v s) (hN : 500 ≤ N) (hb : h + 1001 < 2 ^ 31) {sh : Nat → HV} {so sz nu : Nat → Int32} (hS : RS sh so sz nu) (x0 x1 x2 : Int32) : YT h v (f_X5_fits N v t sh x0 x1 x2) (f_X6_fits N s q so sz nu x0 x1 x2) := by
  obtain ⟨a, hv, hs, hw, hh⟩ := id hr
  have hn8 := hw.1
  unfold f_X5_fits f_X6_fits
  rcases sheet_c x0 with ⟨q1, q2⟩ | ⟨u, hu, rfl, q1, q2⟩
  · rw [if_pos q1, if_pos q2]; exact YT.mk _ _ _ _ rfl rfl hr
  · obtain ⟨g1, g2, g3, ⟨z, z40, g4⟩, g5⟩ := hS u hu
    rw [q1, q2, if_neg n10, if_neg n10]
    rcases mark_c hv hs hw x1 with ⟨q1, q2⟩ | ⟨k, hk, rfl, q1, q2⟩
    · rw [if_pos q1, if_pos q2]; exact YT.mk _ _ _ _ rfl rfl hr
    · rw [q1, q2, if_neg n10, if_neg n10, i01]
      by_cases p : f_X5_within x2 0 1 = 0
      · rw [if_pos p, if_pos p]; exact YT.mk _ _ _ _ rfl rfl hr
      · rw [if_neg p, if_neg p, ckA_nI hu (by decide), nI_clamp (show u < 2 ^ 31 by omega), lj_s, g1, rdA_nI hu (by decide)]
        rcases sort_c g3 with ⟨s1, s2, s3⟩ | ⟨qq, q3, s0, s1, s2, s3⟩
        · rw [if_pos s1, if_neg s2]; exact YT.mk _ _ _ _ rfl rfl hr
        · have k8 : k < 8 := by omega
          have nx : ∀ d : Nat, nI d + -1 = nI d - 1 := fun d => (Int32.sub_eq_add_neg ..).symm
          have key1 : ∀ (j14 : Int32 → Int32 → PV → Option (Int32 × PV)) (d f c : Nat) (l : Int32) (w : PV), d ≤ 8 → d < f → ∃ w', f_X5_fits_L53 N v sh (nI u) (nI k) j14 f (nI d - 1) l (nI c) w = j14 (gFs (fun p => gFr (gTm (aSOn a k p) k (fun i => nu (40 * u + i))) z 0) d (c, l)).2 (nI (gFs (fun p => gFr (gTm (aSOn a k p) k (fun i => nu (40 * u + i))) z 0) d (c, l)).1) w' := by
            intro j14 d
            induction d with
            | zero =>
              intro f c l w _ hf
              obtain ⟨f, rfl⟩ : ∃ f', f = f' + 1 := ⟨f - 1, by omega⟩
              refine ⟨w, ?_⟩
              rw [f_X5_fits_L53, if_pos (by decide), gFs]
            | succ d ih =>
              intro f c l w hd hf
              obtain ⟨f, rfl⟩ : ∃ f', f = f' + 1 := ⟨f - 1, by omega⟩
              obtain ⟨w2, e1⟩ := X5_fitsFrom (N := N) w hv hw hN (by omega) (k := k) (p := d) (z := z) hk (by omega) z40 (o := sh u) (I := fun i => nu (40 * u + i)) (by rw [g2, g4]) g5
              rw [f_X5_fits_L53, nI_pred, if_neg (show ¬ nI d < 0 from nI_nlt (b := 0) (a := d) (by omega) (by omega)), ckA_nI hu (by decide), nI_clamp (show u < 2 ^ 31 by omega), lj_s, e1, ob2_s, lj_s, gFs, nx]
              cases hq : gFr (gTm (aSOn a k d) k (fun i => nu (40 * u + i))) z 0 with
              | true =>
                rw [if_neg (by decide), lj_s, if_pos rfl, nI_1]
                dsimp only
                rw [lj_s]
                exact ih f (c + 1) (nI d) w2 (by omega) (by omega)
              | false =>
                rw [if_pos (by rfl), if_neg (by decide)]
                dsimp only
                rw [lj_s]
                exact ih f c l w2 (by omega) (by omega)
          have key2 : ∀ (j17 : Int32 → Int32 → (Nat → Int32) → (Nat → Int32) → Option (Int32 × (Nat → Int32) × (Nat → Int32))) (d f c : Nat) (l : Int32) (w qw : Nat → Int32), d ≤ 8 → d < f → (∀ i, i < 43 → ¬ i = 19 + 3 * k + 2 → w i = s i) → ∃ w' q', f_X6_fits_L69 N sz nu (nI u) (nI k) (nI (19 + 3 * k + 2)) j17 f (nI d - 1) l (nI c) w qw = j17 (gFs (fun p => gFr (gTm (aSOn a k p) k (fun i => nu (40 * u + i))) z 0) d (c, l)).2 (nI (gFs (fun p => gFr (gTm (aSOn a k p) k (fun i => nu (40 * u + i))) z 0) d (c, l)).1) w' q' ∧ ∀ i, i < 43 → ¬ i = 19 + 3 * k + 2 → w' i = s i := by
            intro j17 d
            induction d with
            | zero =>
              intro f c l w qw _ hf hww
              obtain ⟨f, rfl⟩ : ∃ f', f = f' + 1 := ⟨f - 1, by omega⟩
              refine ⟨w, qw, ?_, hww⟩
              rw [f_X6_fits_L69, if_pos (by decide), gFs]
            | succ d ih =>
              intro f c l w qw hd hf hww
              obtain ⟨f, rfl⟩ : ∃ f', f = f' + 1 := ⟨f - 1, by omega⟩
              have hs1 : CM (aSOn a k d) (upd w (19 + 3 * k + 2) (nI d)) := CM_at (CM_on hs k d) hn8 (fun i hi => by
                by_cases e : i = 19 + 3 * k + 2
                · rw [e, upd_s, upd_s]
                · rw [upd_n e, upd_n e]; exact hww i hi e)
              obtain ⟨w2, q2, e1, e2⟩ := X6_isTold (N := N) qw hs1 (WF_on hw (by omega)) hN (by show aH a + 1001 < 2 ^ 31; omega) (k := k) (t := u) (z := z) hk hu z40 (sz := sz) (nu := nu) g4
              have hw3 : ∀ i, i < 43 → ¬ i = 19 + 3 * k + 2 → w2 i = s i := fun i hi e => by rw [e2 i hi, upd_n e]; exact hww i hi e
              rw [f_X6_fits_L69, nI_pred, if_neg (show ¬ nI d < 0 from nI_nlt (b := 0) (a := d) (by omega) (by omega)), ckA_nI (show 19 + 3 * k + 2 < 43 by omega) (by decide), nI_clamp (show 19 + 3 * k + 2 < 2 ^ 31 by omega), lj_s, e1, ob3_s, lj_s, gFs, nx]
              cases hq : gFr (gTm (aSOn a k d) k (fun i => nu (40 * u + i))) z 0 with
              | true =>
                rw [if_neg (by decide), if_pos rfl]
                dsimp only
                rw [lj_s, lj_s, if_neg (by decide)]
                dsimp only
                rw [lj_s, nI_1]
                exact ih f (c + 1) (nI d) w2 q2 (by omega) (by omega) hw3
              | false =>
                rw [if_pos (by rfl), if_neg (by decide)]
                dsimp only
                rw [lj_s, lj_s, if_pos (by rfl)]
                dsimp only
                rw [lj_s, Int32.add_zero]
                exact ih f c l w2 q2 (by omega) (by omega) hw3
          rw [if_neg s1, if_pos s2, lj_s, lj_s, ixM, nI_2, rdA_nI (show 19 + 3 * k + 2 < 43 by omega) (by decide), lj_s]
          obtain ⟨w', e1⟩ := key1 (fun (i11 : Int32) (i12 : Int32) (v13 : PV) => if x2 = 0 then some (i12, v13) else some (i11, v13)) 8 N 0 (-3) t (by decide) (by omega)
          have e1 : f_X5_fits_L53 N v sh (nI u) (nI k) (fun (i11 : Int32) (i12 : Int32) (v13 : PV) => if x2 = 0 then some (i12, v13) else some (i11, v13)) N 7 (-3) 0 t = _ := e1
          obtain ⟨w2, q2, e2, e3⟩ := key2 (fun (i13 : Int32) (i14 : Int32) (v15 : Nat → Int32) (v16 : Nat → Int32) => ckA 43 (nI (19 + 3 * k + 2)) (lj (upd v15 (Int32.toNatClampNeg (nI (19 + 3 * k + 2))) (s (19 + 3 * k + 2))) (fun (v19 : Nat → Int32) => if x2 = 0 then some (i14, v19, v16) else some (i13, v19, v16)))) 8 N 0 (-3) s q (by decide) (by omega) (fun _ _ _ => rfl)
          have e2 : f_X6_fits_L69 N sz nu (nI u) (nI k) (nI (19 + 3 * k + 2)) (fun (i13 : Int32) (i14 : Int32) (v15 : Nat → Int32) (v16 : Nat → Int32) => ckA 43 (nI (19 + 3 * k + 2)) (lj (upd v15 (Int32.toNatClampNeg (nI (19 + 3 * k + 2))) (s (19 + 3 * k + 2))) (fun (v19 : Nat → Int32) => if x2 = 0 then some (i14, v19, v16) else some (i13, v19, v16)))) N 7 (-3) 0 s q = _ := e2
          rw [e1, e2, ckA_nI (show 19 + 3 * k + 2 < 43 by omega) (by decide), nI_clamp (show 19 + 3 * k + 2 < 2 ^ 31 by omega), lj_s]
          have fin : RP h v (upd w2 (19 + 3 * k + 2) (s (19 + 3 * k + 2))) := RP_at hv hs hw hh (fun i hi => by
            by_cases e : i = 19 + 3 * k + 2
            · rw [e, upd_s]
            · rw [upd_n e]; exact e3 i hi e)
          by_cases c : x2 = 0
          · rw [if_pos c, if_pos c]; exact YT.mk _ _ _ _ rfl rfl fin
          · rw [if_neg c, if_neg c]; exact YT.mk _ _ _ _ rfl rfl fin
