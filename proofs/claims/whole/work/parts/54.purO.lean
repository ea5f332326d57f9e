/-! PURE 15: minds, shelf, taken, many -/
def aMin (a : AP) (k : Nat) (F : Nat → Nat) (j : Nat) : AP := (aN a, aH a, aZ a, aLaw a, aKind a, (fun i => if k ≤ i ∧ i < k + j then F (i - k) else aInk a i), aOn a, aFi a, aSe a)
theorem aMin_0 (a : AP) (k : Nat) (F : Nat → Nat) : aMin a k F 0 = a := by
  have e : (fun i => if k ≤ i ∧ i < k + 0 then F (i - k) else aInk a i) = aInk a := by
    funext i
    rw [if_neg (by omega)]
  unfold aMin
  rw [e]
theorem aMin_s (a : AP) (k : Nat) (F : Nat → Nat) (j : Nat) : aSInk (aMin a k F j) (k + j) (F j) = aMin a k F (j + 1) := by
  have e : (fun i => if i = k + j then F j else (if k ≤ i ∧ i < k + j then F (i - k) else aInk a i)) = (fun i => if k ≤ i ∧ i < k + (j + 1) then F (i - k) else aInk a i) := by
    funext i
    by_cases c : i = k + j
    · rw [if_pos c, if_pos (by omega), show i - k = j by omega]
    · rw [if_neg c]
      by_cases d : k ≤ i ∧ i < k + j
      · rw [if_pos d, if_pos (by omega)]
      · rw [if_neg d, if_neg (by omega)]
  show (_, _, _, _, _, (fun i => if i = k + j then F j else (if k ≤ i ∧ i < k + j then F (i - k) else aInk a i)), _, _, _) = _
  rw [e]
  rfl
theorem WF_min {a : AP} (h : WF a) (k : Nat) {F : Nat → Nat} (hF : ∀ i, F i ≤ 99) (j : Nat) : WF (aMin a k F j) := by
  obtain ⟨h1, h2, h3, h4⟩ := h
  refine ⟨h1, h2, fun i hi => ?_, h4⟩
  obtain ⟨g1, g2, g3⟩ := h3 i hi
  refine ⟨g1, ?_, g3⟩
  show (if k ≤ i ∧ i < k + j then F (i - k) else aInk a i) ≤ 99
  split
  · exact hF _
  · exact g2
theorem lgc_le {a b : Nat} (ha : a < 2 ^ 31) (hb : b < 2 ^ 31) : lg_cmp (lN a) (lN b) ≤ 0 ↔ a ≤ b := by
  unfold lg_cmp
  simp only [gt_iff_lt, lN_lt hb ha, lN_eq ha hb]
  by_cases c : b < a
  · rw [if_pos c]
    exact ⟨fun z => absurd z (by decide), fun z => by omega⟩
  · rw [if_neg c]
    by_cases d : a = b
    · rw [if_pos d]
      exact ⟨fun _ => by omega, fun _ => by decide⟩
    · rw [if_neg d]
      exact ⟨fun _ => by omega, fun _ => by decide⟩
theorem Y_minds {N h : Nat} {v : PV} {s : Nat → Int32} (hr : RP h v s) (hN : 500 ≤ N) {sh : Nat → HV} {so sz nu : Nat → Int32} (hS : RS sh so sz nu) (x0 x1 x2 x3 : Int32) : Y2 (RP h) (f_X5_minds N v sh x0 x1 x2 x3) (f_X6_minds N s so sz nu x0 x1 x2 x3) := by
  obtain ⟨a, hv, hs, hw, hh⟩ := id hr
  have hn8 := hw.1
  have no : ∀ r : Int32, Y2 (RP h) (some (r, v)) (some (r, s)) := fun r => Y2.mk _ _ _ rfl rfl hr
  unfold f_X5_minds f_X6_minds
  rcases sheet_c x0 with ⟨q1, q2⟩ | ⟨t, ht, rfl, q1, q2⟩
  · rw [if_pos q1, if_pos q2]; exact no _
  · obtain ⟨g1, g2, g3, ⟨z, z40, g4⟩, g5⟩ := hS t ht
    rw [q1, q2, if_neg n10, if_neg n10]
    rcases mark_c hv hs hw x2 with ⟨q1, q2⟩ | ⟨k, hk, rfl, q1, q2⟩
    · rw [if_pos q1, if_pos q2]; exact no _
    · rw [q1, q2, if_neg n10, if_neg n10, i08]
      rcases wl_c x3 0 (hi := 8) (by decide) (by decide) with p | ⟨n, -, n8, rfl, p⟩
      · have p : f_X5_within x3 0 8 = 0 := p
        rw [if_pos p, if_pos p]; exact no _
      · have p : f_X5_within (nI n) 0 8 = 1 := p
        rw [p, if_neg n10, if_neg n10, hv.1, hs.1, nI_add, ite_le (show k + n < 2 ^ 31 by omega) (show aN a < 2 ^ 31 by omega), ite_le (show k + n < 2 ^ 31 by omega) (show aN a < 2 ^ 31 by omega)]
        by_cases c : k + n ≤ aN a
        · rw [if_pos c, if_pos c, ckA_nI ht (by decide), nI_clamp (show t < 2 ^ 31 by omega), lj_s, lacks_c ht, ob1_s, ob1_s, g1, g2, g4]
          rcases sort_c g3 with ⟨s1, s2, s3⟩ | ⟨qq, q3, s0, s1, s2, s3⟩
          · rw [if_pos s1, if_neg s2, if_neg (by decide)]; exact no _
          · rw [if_neg s1, if_pos s2]
            by_cases c0 : so t = 0
            · rw [if_pos c0, if_pos c0, if_pos (show (0 : Int32) = 0 from rfl), rdA_nI ht (by decide), rdA_nI ht (by decide), g4, show f_X6_isIn x1.toInt64 0 (nI z).toInt64 = f_X5_within x1 0 (nI z) from isIn_eq x1 0 (nI z)]
              rcases wl_c x1 0 (hi := z) (by omega) (by omega) with w | ⟨i, -, iz, rfl, w⟩
              · have w : f_X5_within x1 0 (nI z) = 0 := w
                rw [if_pos w, if_pos w]; exact no _
              · have w : f_X5_within (nI i) 0 (nI z) = 1 := w
                have hl : (nI i).toInt64 + (nI n).toInt64 = lN (i + n) := by rw [nI_l (by omega), nI_l (by omega), lN_add]
                rw [w, if_neg n10, if_neg n10, pk_sub iz, ite_le (show n < 2 ^ 31 by omega) (show z - i < 2 ^ 31 by omega), hl, nI_l (show z < 2 ^ 31 by omega), if_cg (lgc_le (show i + n < 2 ^ 31 by omega) (show z < 2 ^ 31 by omega))]
                by_cases d : i + n ≤ z
                · rw [if_pos d, if_pos (show n ≤ z - i by omega)]
                  have hF : ∀ j, gCl (nu (40 * t + i + j)) ≤ 99 := fun j => (gCl_ok _).2
                  obtain ⟨u, e1, e2⟩ := lpR (L := fun f j (u : PV) => f_X5_minds_L104 (nI i) (nI k) (nI n) (sh t) f j u) (k := fun u => some (nI n, u)) (n := n) (fun j (_ : Unit) (u : PV) => CV (aMin a k (fun j => gCl (nu (40 * t + i + j))) j) u) (fun _ u => u)
                    (fun f _ u _ => by show f_X5_minds_L104 _ _ _ _ (f + 1) (nI n) u = _; rw [f_X5_minds_L104, if_pos (Int32.le_refl _)])
                    (fun f j _ u hj hu => by
                      show ∃ s', f_X5_minds_L104 _ _ _ _ (f + 1) (nI j) u = f_X5_minds_L104 _ _ _ _ f (nI (j + 1)) s' ∧ CV (aMin a k (fun j => gCl (nu (40 * t + i + j))) (j + 1)) s'
                      have eh : f_X5_heldInk (nu (40 * t + (i + j))) = nI (gCl (nu (40 * t + i + j))) := by rw [held_eq, Nat.add_assoc]; exact (gCl_ok _).1
                      rw [f_X5_minds_L104, if_neg (nI_ge hj (by omega)), nI_add, nI_add, rdA_nI (show i + j < 40 by omega) (by decide), g5 _ (by omega), Int32.toInt32_toInt64, eh, lj_s, ckA_nI (show k + j < 8 by omega) (by decide), nI_clamp (by omega), lj_s, lj_s, nI_1, ← aMin_s]
                      exact ⟨_, rfl, CV_ink hu (k + j) _⟩)
                    n 0 N () v (by omega) (by omega) (by rw [aMin_0]; exact hv)
                  obtain ⟨u2, e3, e4⟩ := lpR (L := fun f j (u : Nat → Int32) => f_X6_minds_L98 nu (nI t) (nI i) (nI k) (nI n) f j u) (k := fun u => some (nI n, u)) (n := n) (fun j (_ : Unit) (u : Nat → Int32) => CM (aMin a k (fun j => gCl (nu (40 * t + i + j))) j) u) (fun _ u => u)
                    (fun f _ u _ => by show f_X6_minds_L98 _ _ _ _ _ (f + 1) (nI n) u = _; rw [f_X6_minds_L98, if_pos (Int32.le_refl _)])
                    (fun f j _ u hj hu => by
                      show ∃ s', f_X6_minds_L98 _ _ _ _ _ (f + 1) (nI j) u = f_X6_minds_L98 _ _ _ _ _ f (nI (j + 1)) s' ∧ CM (aMin a k (fun j => gCl (nu (40 * t + i + j))) (j + 1)) s'
                      rw [f_X6_minds_L98, if_neg (nI_ge hj (by omega)), show (40 : Int32) * nI t = nI (40 * t) from pk_mul 40 t, nI_add, nI_add, nI_add, rdA_nI (show 40 * t + i + j < 160 by omega) (by decide), (gCl_ok _).1, lj_s, ixM, nI_1, nI_1, ckA_nI (show 19 + 3 * (k + j) + 1 < 43 by omega) (by decide), nI_clamp (by omega), lj_s, lj_s, ← aMin_s]
                      exact ⟨_, rfl, CM_ink hu (k + j) _⟩)
                    n 0 N () s (by omega) (by omega) (by rw [aMin_0]; exact hs)
                  have e1 : f_X5_minds_L104 (nI i) (nI k) (nI n) (sh t) N 0 v = _ := e1
                  have e3 : f_X6_minds_L98 nu (nI t) (nI i) (nI k) (nI n) N 0 s = _ := e3
                  rw [e1, e3]
                  exact Y2.mk _ _ _ rfl rfl ⟨_, e2, e4, WF_min hw k hF n, hh⟩
                · rw [if_neg d, if_neg (show ¬ n ≤ z - i by omega)]; exact no _
            · rw [if_neg c0, if_neg c0, if_neg (by decide)]; exact no _
        · rw [if_neg c, if_neg c]; exact no _
theorem shelf_c (x : Int32) : (f_X5_isShelf x = 0 ∧ f_X6_isShelf x = 0) ∨ ∃ t : Nat, t < 4 ∧ x = nI t ∧ f_X5_isShelf x = 1 ∧ f_X6_isShelf x = 1 := by
  unfold f_X5_isShelf f_X6_isShelf
  rw [i03]
  rcases wl_c x 0 (hi := 3) (by decide) (by decide) with q | ⟨t, -, t3, rfl, q⟩
  · exact Or.inl ⟨q, q⟩
  · exact Or.inr ⟨t, by omega, rfl, q, q⟩
theorem RF_new {sf : Nat → FV} {ho wh mn : Nat → Int32} (h : RF sf ho wh mn) (t : Nat) {f : FV} {a b c : Int32} (hf : (sfHolding f = 0 ∧ a = 1 ∧ sfNumber f = b) ∨ (sfHolding f = 1 ∧ a = 2 ∧ sfSort f = b ∧ sfSize f = c) ∨ (sfHolding f = 2 ∧ a = 0)) : RF (va_up sf t f) (upd ho t a) (upd wh t b) (upd mn t c) := by
  intro u hu
  by_cases e : u = t
  · subst e
    rw [va_up_self, upd_s, upd_s, upd_s]
    exact hf
  · rw [va_up_ne sf f e, upd_n e, upd_n e, upd_n e]
    exact h u hu
def YF (c : Option (Int32 × (Nat → FV))) (m : Option (Int32 × (Nat → Int32) × (Nat → Int32) × (Nat → Int32))) : Prop := ∃ (r : Int32) (sf : Nat → FV) (ho wh mn : Nat → Int32), c = some (r, sf) ∧ m = some (r, ho, wh, mn) ∧ RF sf ho wh mn
theorem Y_shelf {h : Nat} {v : PV} {s : Nat → Int32} (hr : RP h v s) {sh : Nat → HV} {so sz nu : Nat → Int32} (hS : RS sh so sz nu) {sf : Nat → FV} {ho wh mn : Nat → Int32} (hF : RF sf ho wh mn) (x0 x1 x2 : Int32) : YF (f_X5_shelf v sh sf x0 x1 x2) (f_X6_shelf s so sz ho wh mn x0 x1 x2) := by
  obtain ⟨a, hv, hs, hw, hh⟩ := id hr
  have no : YF (some (-1, sf)) (some (-1, ho, wh, mn)) := ⟨_, _, _, _, _, rfl, rfl, hF⟩
  unfold f_X5_shelf f_X6_shelf
  rcases shelf_c x0 with ⟨q1, q2⟩ | ⟨t, ht, rfl, q1, q2⟩
  · rw [if_pos q1, if_pos q2]; exact no
  · rw [q1, q2, if_neg n10, if_neg n10, i02]
    simp only [lj, ckA_nI ht (show 4 < 2 ^ 31 by decide), nI_clamp (show t < 2 ^ 31 by omega)]
    rcases wl_c x1 0 (hi := 2) (by decide) (by decide) with p | ⟨w, -, w2, rfl, p⟩
    · have nn := nlt_c (n := 2) (by decide) p
      have p : f_X5_within x1 0 2 = 0 := p
      rw [if_pos p, if_neg (show ¬ x1 = 0 from nn 0 (by decide)), if_neg (show ¬ x1 = 1 from nn 1 (by decide)), if_neg (show ¬ x1 = 2 from nn 2 (by decide))]
      exact no
    · have p : f_X5_within (nI w) 0 2 = 1 := p
      rw [p, if_neg n10]
      have e01 : ¬ (nI 0 = 1) := by decide
      have e02 : ¬ (nI 0 = 2) := by decide
      have e10 : ¬ (nI 1 = 0) := by decide
      have e12 : ¬ (nI 1 = 2) := by decide
      have e20 : ¬ (nI 2 = 0) := by decide
      have e21 : ¬ (nI 2 = 1) := by decide
      have e00 : nI 0 = 0 := rfl
      have e11 : nI 1 = 1 := rfl
      have e22 : nI 2 = 2 := rfl
      rcases (show w = 0 ∨ w = 1 ∨ w = 2 by omega) with rfl | rfl | rfl
      · simp only [if_pos e00, if_neg e01]
        rcases mark_c hv hs hw x2 with ⟨q1, q2⟩ | ⟨k, hk, rfl, q1, q2⟩
        · rw [if_pos q1, if_pos q2]; exact no
        · rw [q1, q2, if_neg n10, if_neg n10]
          unfold f_X3_holdMark
          simp only [lj, ob1_s, if_pos e00]
          exact ⟨_, _, _, _, _, rfl, rfl, RF_new hF t (Or.inl ⟨rfl, rfl, rfl⟩)⟩
      · simp only [if_neg e10, if_pos e11]
        rcases sheet_c x2 with ⟨q1, q2⟩ | ⟨u, hu, rfl, q1, q2⟩
        · rw [if_pos q1, if_pos q2]; exact no
        · obtain ⟨g1, g2, g3, -, g5⟩ := hS u hu
          rw [q1, q2, if_neg n10, if_neg n10]
          unfold f_X3_holdRow
          simp only [lj, ckA_nI hu (show 4 < 2 ^ 31 by decide), rdA_nI hu (show 4 < 2 ^ 31 by decide), nI_clamp (show u < 2 ^ 31 by omega), g1, g2]
          rcases sort_c g3 with ⟨s1, s2, s3⟩ | ⟨qq, q3, s0, s1, s2, s3⟩
          · simp only [if_pos s1, if_pos s3, ob1_s]
            exact ⟨_, _, _, _, _, rfl, rfl, RF_new hF t (Or.inr (Or.inr ⟨rfl, rfl⟩))⟩
          · simp only [if_neg s1, if_neg s3, ob1_s, if_neg n10]
            exact ⟨_, _, _, _, _, rfl, rfl, RF_new hF t (Or.inr (Or.inl ⟨rfl, rfl, rfl, rfl⟩))⟩
      · simp only [if_neg e20, if_neg e21, if_pos e22]
        exact ⟨_, _, _, _, _, rfl, rfl, RF_new hF t (Or.inr (Or.inr ⟨rfl, rfl⟩))⟩
theorem held_c {h : Nat} {v : PV} {s : Nat → Int32} (hr : RP h v s) {sf : Nat → FV} {ho wh mn : Nat → Int32} (hF : RF sf ho wh mn) {t : Nat} (ht : t < 4) : (f_X5_heldBy v (sf t) = 0 ∧ f_X6_heldOn s ho wh (nI t) = some 1 ∧ ∃ a j, CV a v ∧ CM a s ∧ WF a ∧ aH a ≤ h ∧ j < aN a ∧ sfNumber (sf t) = nI j ∧ wh t = nI j) ∨ (f_X5_heldBy v (sf t) = 1 ∧ f_X6_heldOn s ho wh (nI t) = some 2 ∧ sfSort (sf t) = wh t ∧ sfSize (sf t) = mn t) ∨ (f_X5_heldBy v (sf t) = 2 ∧ f_X6_heldOn s ho wh (nI t) = some 0) := by
  obtain ⟨a, hv, hs, hw, hh⟩ := hr
  unfold f_X5_heldBy f_X6_heldOn
  simp only [lj, rdA_nI ht (show 4 < 2 ^ 31 by decide)]
  rcases hF t ht with ⟨h1, h2, h3⟩ | ⟨h1, h2, h3, h4⟩ | ⟨h1, h2⟩
  · rw [h1, h2, if_pos rfl, if_pos rfl]
    rcases mark_c hv hs hw (wh t) with ⟨q1, q2⟩ | ⟨k, hk, e, q1, q2⟩
    · right; right
      rw [h3, if_pos q1, if_pos q2]
      exact ⟨rfl, rfl⟩
    · left
      rw [h3, q1, q2, if_neg n10, if_neg n10]
      exact ⟨rfl, rfl, a, k, hv, hs, hw, hh, hk, e, e⟩
  · right; left
    rw [h1, h2, if_neg (by decide), if_neg (by decide)]
    exact ⟨rfl, rfl, h3, h4⟩
  · right; right
    rw [h1, h2, if_neg (by decide), if_neg (by decide)]
    exact ⟨rfl, rfl⟩
theorem under_c {N : Nat} (hN : 9 ≤ N) {k y : Nat} (hk : k < 6) (hy : y < 6) : f_X5_isUnder N (nI k) (nI y) = some (f_X6_isUnder (nI k) (nI y)) := by
  obtain ⟨N, rfl⟩ : ∃ N', N = N' + 7 := ⟨N - 7, by omega⟩
  rcases six hk with rfl | rfl | rfl | rfl | rfl | rfl <;> rcases six hy with rfl | rfl | rfl | rfl | rfl | rfl <;> rfl
