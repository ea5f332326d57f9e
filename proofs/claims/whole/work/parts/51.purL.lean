/-! PURE 12: apartFor -/
def aFF (a : AP) (F : Nat → Nat) : AP := (aN a, aH a, aZ a, aLaw a, aKind a, aInk a, aOn a, F, fun r => if F r = 0 then 0 else aSe a r)
def gFm (a : AP) (m j r : Nat) : Nat := if (decide (r < j) && m.testBit r) = true then 0 else aFi a r
theorem WF_FF {a : AP} (h : WF a) {F : Nat → Nat} (hF : ∀ r, r < 6 → F r = 0 ∨ F r = aFi a r) : WF (aFF a F) := by
  obtain ⟨h1, h2, h3, h4⟩ := h
  refine ⟨h1, h2, h3, fun r hr => ?_⟩
  show (F r = 0 ∧ (if F r = 0 then 0 else aSe a r) = 0) ∨ (1 ≤ F r ∧ F r ≤ 8 ∧ 1 ≤ (if F r = 0 then 0 else aSe a r) ∧ (if F r = 0 then 0 else aSe a r) ≤ 8 ∧ ¬ F r = (if F r = 0 then 0 else aSe a r))
  by_cases e : F r = 0
  · rw [if_pos e]; exact Or.inl ⟨e, rfl⟩
  · rw [if_neg e]
    have := hF r hr
    have := h4 r hr
    omega
theorem gFm_or (a : AP) (m j r : Nat) : gFm a m j r = 0 ∨ gFm a m j r = aFi a r := by
  unfold gFm
  split
  · exact Or.inl rfl
  · exact Or.inr rfl
theorem CV_FF0 {a : AP} {v : PV} (hv : CV a v) (hw : WF a) (m : Nat) : CV (aFF a (gFm a m 0)) v := by
  obtain ⟨h1, h2, h3, h4, h5, h6⟩ := hv
  refine ⟨h1, h2, h3, h4, h5, fun r hr => ?_⟩
  obtain ⟨g1, g2⟩ := h6 r hr
  have e : gFm a m 0 r = aFi a r := by simp [gFm]
  show pFirst v r = nI (gFm a m 0 r) - 1 ∧ pSecond v r = nI (if gFm a m 0 r = 0 then 0 else aSe a r) - 1
  rw [e]
  refine ⟨g1, ?_⟩
  have := hw.2.2.2 r hr
  by_cases c : aFi a r = 0
  · rw [if_pos c, g2, show aSe a r = 0 by omega]
  · rw [if_neg c, g2]
theorem CM_FF {a : AP} {s u : Nat → Int32} (hs : CM a s) (hn : aN a ≤ 8) {F : Nat → Nat} (hu : ∀ i, i < 43 → (i < 7 ∨ 13 ≤ i) → u i = s i) (hF : ∀ r, r < 6 → u (7 + r) = nI (F r)) (hF2 : ∀ r, r < 6 → F r = 0 ∨ F r = aFi a r) : CM (aFF a F) u := by
  obtain ⟨h1, h2, h3, h4, h5, h6⟩ := hs
  refine ⟨(hu 0 (by decide) (by omega)).trans h1, (hu 1 (by decide) (by omega)).trans h2, (hu 2 (by decide) (by omega)).trans h3, fun j hj => (hu _ (by omega) (by omega)).trans (h4 j hj), fun j hj => ?_, fun r hr => ?_⟩
  · obtain ⟨g1, g2, g3⟩ := h5 j hj
    have hj : j < aN a := hj
    exact ⟨(hu _ (by omega) (by omega)).trans g1, (hu _ (by omega) (by omega)).trans g2, (hu _ (by omega) (by omega)).trans g3⟩
  · obtain ⟨g1, g2⟩ := h6 r hr
    show u (7 + r) = nI (F r) ∧ (¬ F r = 0 → u (13 + r) = nI (if F r = 0 then 0 else aSe a r))
    refine ⟨hF r hr, fun q => ?_⟩
    have := hF2 r hr
    rw [if_neg q]
    exact (hu _ (by omega) (by omega)).trans (g2 (by omega))
def gQ (a : AP) (k w n m : Nat) : Bool := decide (n < gSn (gOn k w) n (aFF a (gFm a m 6)))
theorem X5_never {N : Nat} {a : AP} {v : PV} (t : PV) (hv : CV a v) (hw : WF a) (hN : 100 ≤ N) {k w n m : Nat} (hm : m < 64) (hn : n ≤ 30) (hh : aH a + 1001 < 2 ^ 31) (hk : k < aN a) (hw8 : w < 8) : ∃ t', f_X5_neverComesApart N v t (nI k) (nI w) (nI n) (nI m) = some (bI (gQ a k w n m), t') := by
  obtain ⟨t1, b1, b2⟩ := X1_become (v := t) hv hw.1
  unfold f_X5_neverComesApart
  rw [b1, ob1_s, lj_s]
  obtain ⟨t2, e1, e2⟩ := lpR (L := fun f i (u : PV) => f_X5_neverComesApart_L14 (nI m) (fun (v3 : PV) => ob2 (f_X1_hoursUntilOn N v3 (nI k) (nI w) (nI n)) (fun (r5 : Int32) (v6 : PV) => if 0 ≤ r5 then some (0, v6) else some (1, v6))) f i u) (k := fun (v3 : PV) => ob2 (f_X1_hoursUntilOn N v3 (nI k) (nI w) (nI n)) (fun (r5 : Int32) (v6 : PV) => if 0 ≤ r5 then some ((0 : Int32), v6) else some (1, v6))) (n := 6) (fun j (_ : Unit) (u : PV) => CV (aFF a (gFm a m j)) u) (fun _ u => u)
    (fun f _ u _ => by show f_X5_neverComesApart_L14 (nI m) _ (f + 1) (nI 6) u = _; rw [f_X5_neverComesApart_L14, if_pos (by decide)])
    (fun f j _ u hj hu => by
      show ∃ s', f_X5_neverComesApart_L14 (nI m) _ (f + 1) (nI j) u = f_X5_neverComesApart_L14 (nI m) _ f (nI (j + 1)) s' ∧ CV (aFF a (gFm a m (j + 1))) s'
      rw [f_X5_neverComesApart_L14, if_neg (show ¬ (6 : Int32) ≤ nI j from nI_ge hj (by decide)), has_t (show m < 256 by omega) (by omega), lj_s, if_cg (bI_eq0 _), nI_1]
      by_cases c : m.testBit j = false
      · have e : gFm a m (j + 1) = gFm a m j := by
          funext r
          unfold gFm
          by_cases q : r = j
          · rw [q, c, Bool.and_false, Bool.and_false]
          · have : (r < j + 1) ↔ (r < j) := by omega
            simp only [this]
        rw [if_pos c]
        dsimp only
        rw [lj_s]
        exact ⟨u, rfl, by rw [e]; exact hu⟩
      · obtain ⟨u2, g1, g2, -⟩ := X1_join hu hj (f := 0) (g := 0) (x := -1) (y := -1) rfl rfl
        have c' : m.testBit j = true := by simpa using c
        have e : aJoin (aFF a (gFm a m j)) j 0 0 = aFF a (gFm a m (j + 1)) := by
          have e1 : (fun r => if r = j then 0 else gFm a m j r) = gFm a m (j + 1) := by
            funext r
            by_cases q : r = j
            · rw [if_pos q, q]
              unfold gFm
              rw [if_pos (by rw [c']; simp)]
            · rw [if_neg q]
              unfold gFm
              have : (r < j + 1) ↔ (r < j) := by omega
              simp only [this]
          have e2 : (fun r => if r = j then 0 else (if gFm a m j r = 0 then 0 else aSe a r)) = fun r => if gFm a m (j + 1) r = 0 then 0 else aSe a r := by
            funext r
            rw [← congrFun e1 r]
            by_cases q : r = j
            · simp [q]
            · simp [q]
          show (_, _, _, _, _, _, _, (fun r => if r = j then 0 else gFm a m j r), (fun r => if r = j then 0 else (if gFm a m j r = 0 then 0 else aSe a r))) = _
          rw [e1, e2]
          rfl
        rw [if_neg c, g1, ob1_s]
        dsimp only
        rw [lj_s]
        exact ⟨u2, rfl, by rw [← e]; exact g2⟩)
    6 0 N () t1 (by omega) (by omega) (CV_FF0 b2 hw m)
  have hw2 : WF (aFF a (gFm a m 6)) := WF_FF hw (fun r _ => gFm_or a m 6 r)
  obtain ⟨t3, e3⟩ := X1_untilOn (N := N) e2 hw2 (by omega) (k := k) (w := w) (m := n) (by omega) (by omega) hh hk hw8
  have e1 : f_X5_neverComesApart_L14 (nI m) (fun (v3 : PV) => ob2 (f_X1_hoursUntilOn N v3 (nI k) (nI w) (nI n)) (fun (r5 : Int32) (v6 : PV) => if 0 ≤ r5 then some (0, v6) else some (1, v6))) N 0 t1 = _ := e1
  refine ⟨t3, ?_⟩
  rw [e1, e3, ob2_s]
  unfold gQ gRs
  by_cases q : gSn (gOn k w) n (aFF a (gFm a m 6)) ≤ n
  · rw [if_pos q, if_pos (show (0 : Int32) ≤ nI (gSn (gOn k w) n (aFF a (gFm a m 6))) from nI_le (Nat.zero_le _) (by omega)), decide_eq_false (by omega)]
    rfl
  · rw [if_neg q, if_neg (by decide), decide_eq_true (by omega)]
    rfl
def IsB (Q : Nat → Bool) (J : Nat) (r : Int32) : Prop := (r = -3 ∧ ∀ u, u < J → Q u = false) ∨ ∃ t, t < J ∧ r = nI t ∧ Q t = true ∧ ∀ u, u < J → Q u = true → pcN t < pcN u ∨ (pcN t = pcN u ∧ t ≤ u)
theorem IsB_one {Q : Nat → Bool} {J : Nat} {r r' : Int32} (h : IsB Q J r) (h' : IsB Q J r') : r = r' := by
  rcases h with ⟨h1, h2⟩ | ⟨t, t1, t2, t3, t4⟩
  · rcases h' with ⟨g1, -⟩ | ⟨t', g1, g2, g3, -⟩
    · rw [h1, g1]
    · rw [h2 t' g1] at g3; cases g3
  · rcases h' with ⟨g1, g2⟩ | ⟨t', g1, g2, g3, g4⟩
    · rw [g2 t t1] at t3; cases t3
    · have a1 := t4 t' g1 g3
      have a2 := g4 t t1 t3
      rw [t2, g2, show t = t' by omega]
theorem pc6 : ∀ x, x < 64 → pcN x ≤ 6 := by decide +kernel
theorem X5_apart {N : Nat} {a : AP} {v : PV} (hv : CV a v) (hw : WF a) (hN : 100 ≤ N) {k w n : Nat} (hn : n ≤ 30) (hh : aH a + 1001 < 2 ^ 31) (hk : k < aN a) (hw8 : w < 8) (t : PV) : ∃ r t', f_X5_apartFor_L15 N v (nI k) (nI w) (nI n) N 0 t = some (r, t') ∧ IsB (gQ a k w n) 64 r := by
  have inner : ∀ (i : Nat) (j7 : PV → Option (Int32 × PV)), i ≤ 6 → ∀ (d j f : Nat) (u : PV), j + d = 64 → d < f → (∀ x, x < 64 → gQ a k w n x = true → i < pcN x ∨ (pcN x = i ∧ j ≤ x)) → (∃ r t', f_X5_apartFor_L25 N v (nI k) (nI w) (nI n) (nI i) j7 f (nI j) u = some (r, t') ∧ IsB (gQ a k w n) 64 r) ∨ (∃ t', f_X5_apartFor_L25 N v (nI k) (nI w) (nI n) (nI i) j7 f (nI j) u = j7 t' ∧ ∀ x, x < 64 → gQ a k w n x = true → i < pcN x) := by
    intro i j7 hi d
    induction d with
    | zero =>
      intro j f u hj hf hx
      obtain ⟨f, rfl⟩ : ∃ f', f = f' + 1 := ⟨f - 1, by omega⟩
      right
      refine ⟨u, ?_, fun x h1 h2 => ?_⟩
      · rw [f_X5_apartFor_L25, if_pos (show (64 : Int32) ≤ nI j from nI_le (a := 64) (by omega) (by omega))]
      · have := hx x h1 h2
        omega
    | succ d ih =>
      intro j f u hj hf hx
      obtain ⟨f, rfl⟩ : ∃ f', f = f' + 1 := ⟨f - 1, by omega⟩
      have hp := pc6 j (by omega)
      rw [f_X5_apartFor_L25, if_neg (show ¬ (64 : Int32) ≤ nI j from nI_ge (show j < 64 by omega) (by decide)), lj_s, bc_ok (show j < 256 by omega), nI_1, ite_eq (show pcN j < 2 ^ 31 by omega) (show i < 2 ^ 31 by omega)]
      by_cases c : pcN j = i
      · obtain ⟨t1, e1⟩ := X5_never (N := N) u hv hw hN (k := k) (w := w) (n := n) (m := j) (by omega) hn hh hk hw8
        rw [if_pos c, e1, ob2_s]
        cases hq : gQ a k w n j with
        | true =>
          left
          refine ⟨nI j, t1, ?_, Or.inr ⟨j, by omega, rfl, hq, fun x h1 h2 => ?_⟩⟩
          · rw [if_neg (by decide)]
          · have := hx x h1 h2
            omega
        | false =>
          rw [if_pos (by rfl)]
          dsimp only
          rw [lj_s]
          refine ih (j + 1) f t1 (by omega) (by omega) (fun x h1 h2 => ?_)
          have := hx x h1 h2
          by_cases e : x = j
          · rw [e, hq] at h2; cases h2
          · omega
      · rw [if_neg c]
        dsimp only
        rw [lj_s]
        refine ih (j + 1) f u (by omega) (by omega) (fun x h1 h2 => ?_)
        have := hx x h1 h2
        by_cases e : x = j
        · rw [e] at this ⊢; omega
        · omega
  have key : ∀ (d i f : Nat) (u : PV), i + d = 7 → d < f → (∀ x, x < 64 → gQ a k w n x = true → i ≤ pcN x) → ∃ r t', f_X5_apartFor_L15 N v (nI k) (nI w) (nI n) f (nI i) u = some (r, t') ∧ IsB (gQ a k w n) 64 r := by
    intro d
    induction d with
    | zero =>
      intro i f u hi hf hx
      obtain ⟨f, rfl⟩ : ∃ f', f = f' + 1 := ⟨f - 1, by omega⟩
      refine ⟨-3, u, ?_, Or.inl ⟨rfl, fun x h1 => ?_⟩⟩
      · rw [f_X5_apartFor_L15, if_pos (show (6 : Int32) < nI i from nI_lt (a := 6) (by omega) (by omega))]
      · cases hq : gQ a k w n x with
        | false => rfl
        | true =>
          have := hx x h1 hq
          have := pc6 x h1
          omega
    | succ d ih =>
      intro i f u hi hf hx
      obtain ⟨f, rfl⟩ : ∃ f', f = f' + 1 := ⟨f - 1, by omega⟩
      rw [f_X5_apartFor_L15, if_neg (show ¬ (6 : Int32) < nI i from nI_nlt (a := 6) (by omega) (by decide)), lj_s]
      rcases inner i (fun v6 => lj (nI i + 1) (fun t8 => f_X5_apartFor_L15 N v (nI k) (nI w) (nI n) f t8 v6)) (by omega) 64 0 N u (by omega) (by omega) (fun x h1 h2 => by have := hx x h1 h2; omega) with ⟨r, t', e1, e2⟩ | ⟨t', e1, e2⟩
      · exact ⟨r, t', e1, e2⟩
      · obtain ⟨r, t2, e3, e4⟩ := ih (i + 1) f t' (by omega) (by omega) (fun x h1 h2 => e2 x h1 h2)
        refine ⟨r, t2, ?_, e4⟩
        have e1 : f_X5_apartFor_L25 N v (nI k) (nI w) (nI n) (nI i) (fun v6 => lj (nI i + 1) (fun t8 => f_X5_apartFor_L15 N v (nI k) (nI w) (nI n) f t8 v6)) N 0 u = _ := e1
        rw [e1, lj_s, nI_1]
        exact e3
  exact key 7 0 N t (by omega) (by omega) (fun _ _ _ => Nat.zero_le _)
theorem Y_apartFor {N h : Nat} {v : PV} {s : Nat → Int32} (t : PV) (q fs : Nat → Int32) (hr : RP h v s) (hN : 500 ≤ N) (hb : h + 1001 < 2 ^ 31) (x0 x1 x2 : Int32) : YT h v (f_X5_apartFor N v t x0 x1 x2) (f_X6_apartFor N s q fs x0 x1 x2) := by
  obtain ⟨a, hv, hs, hw, hh⟩ := id hr
  have hn8 := hw.1
  unfold f_X5_apartFor f_X6_apartFor
  rcases wish_c hv hs hw x0 x1 x2 with ⟨q1, q2⟩ | ⟨k, w, n, hk, w8, n30, rfl, rfl, rfl, q1, q2⟩
  · rw [if_pos q1, if_pos q2]; exact YT.mk _ _ _ _ rfl rfl hr
  · have k8 : k < 8 := by omega
    obtain ⟨r1, t1, e1, e2⟩ := X5_apart (N := N) hv hw (by omega) n30 (by omega) hk w8 t
    rw [q1, q2, if_neg n10, if_neg n10, e1, lj_s]
    obtain ⟨v3, c1, c2⟩ := lpR (L := fun f i (u : Nat → Int32) => f_X6_apartFor_L15 s (fun (v3 : Nat → Int32) => lj (fun (i5 : Int32) (v6 : Nat → Int32) (v7 : Nat → Int32) => f_X6_apartFor_L154 v3 i5 v7 N 0 v6) (fun j8 => f_X6_apartFor_L52 N (nI k) (nI w) (nI n) v3 j8 N 0 (-3) s q)) f i u) (k := fun (v3 : Nat → Int32) => lj (fun (i5 : Int32) (v6 : Nat → Int32) (v7 : Nat → Int32) => f_X6_apartFor_L154 v3 i5 v7 N 0 v6) (fun j8 => f_X6_apartFor_L52 N (nI k) (nI w) (nI n) v3 j8 N 0 (-3) s q)) (n := 6) (fun j (_ : Unit) (u : Nat → Int32) => ∀ i, i < j → u i = s (7 + i)) (fun _ u => u)
      (fun f _ u _ => by show f_X6_apartFor_L15 s _ (f + 1) (nI 6) u = _; rw [f_X6_apartFor_L15, if_pos (by decide)])
      (fun f j _ u hj hu => by
        show ∃ s', f_X6_apartFor_L15 s _ (f + 1) (nI j) u = f_X6_apartFor_L15 s _ f (nI (j + 1)) s' ∧ _
        rw [f_X6_apartFor_L15, if_neg (show ¬ (6 : Int32) ≤ nI j from nI_ge hj (by decide)), show (7 : Int32) + nI j = nI (7 + j) from nI_add 7 j, rdA_nI (show 7 + j < 43 by omega) (by decide), ckA_nI hj (by decide), nI_clamp (by omega), lj_s, lj_s, nI_1]
        refine ⟨_, rfl, fun i hi => ?_⟩
        by_cases e : i = j
        · rw [e, upd_s]
        · rw [upd_n e]; exact hu i (by omega))
      6 0 N () fs (by omega) (by omega) (fun i hi => absurd hi (by omega))
    have c1 : f_X6_apartFor_L15 s (fun (v3 : Nat → Int32) => lj (fun (i5 : Int32) (v6 : Nat → Int32) (v7 : Nat → Int32) => f_X6_apartFor_L154 v3 i5 v7 N 0 v6) (fun j8 => f_X6_apartFor_L52 N (nI k) (nI w) (nI n) v3 j8 N 0 (-3) s q)) N 0 fs = _ := c1
    rw [c1, lj_s]
    have out : ∀ i : Nat, i < 43 → ∀ P : Prop, ((i < 7 ∨ 13 ≤ i) → P) → (∀ r : Nat, r < 6 → i = 7 + r → P) → P := fun i _ P h1 h2 => by
      by_cases c : i < 7 ∨ 13 ≤ i
      · exact h1 c
      · exact h2 (i - 7) (by omega) (by omega)
    have setf : ∀ (m i18 : Nat) (j29 : (Nat → Int32) → Option (Int32 × (Nat → Int32) × (Nat → Int32) × (Nat → Int32))) (u : Nat → Int32), m < 64 → (∀ i, i < 43 → (i < 7 ∨ 13 ≤ i) → u i = s i) → ∃ u', f_X6_apartFor_L80 v3 (nI m) j29 N 0 u = j29 u' ∧ (∀ i, i < 43 → (i < 7 ∨ 13 ≤ i) → u' i = s i) ∧ ∀ r, r < 6 → u' (7 + r) = nI (gFm a m 6 r) := by
      intro m i18 j29 u hm hu
      obtain ⟨u', g1, g2, g3⟩ := lpR (L := fun f i (u : Nat → Int32) => f_X6_apartFor_L80 v3 (nI m) j29 f i u) (k := j29) (n := 6) (fun j (_ : Unit) (u : Nat → Int32) => (∀ i, i < 43 → (i < 7 ∨ 13 ≤ i) → u i = s i) ∧ ∀ r, r < j → u (7 + r) = nI (gFm a m 6 r)) (fun _ u => u)
        (fun f _ u _ => by show f_X6_apartFor_L80 v3 (nI m) j29 (f + 1) (nI 6) u = _; rw [f_X6_apartFor_L80, if_pos (by decide)])
        (fun f j _ u hj hu => by
          obtain ⟨hu1, hu2⟩ := hu
          show ∃ s', f_X6_apartFor_L80 v3 (nI m) j29 (f + 1) (nI j) u = f_X6_apartFor_L80 v3 (nI m) j29 f (nI (j + 1)) s' ∧ _
          have nx : ∀ x : Int32, x = nI (gFm a m 6 j) → (∀ i, i < 43 → (i < 7 ∨ 13 ≤ i) → upd u (7 + j) x i = s i) ∧ ∀ r, r < j + 1 → upd u (7 + j) x (7 + r) = nI (gFm a m 6 r) := by
            intro x hx
            refine ⟨fun i h1 h2 => by rw [upd_n (by omega)]; exact hu1 i h1 h2, fun r hr => ?_⟩
            by_cases e : r = j
            · rw [e, upd_s, hx]
            · rw [upd_n (by omega)]; exact hu2 r (by omega)
          rw [f_X6_apartFor_L80, if_neg (show ¬ (6 : Int32) ≤ nI j from nI_ge hj (by decide)), lj_s, bitI (show m < 256 by omega) (by omega), show (7 : Int32) + nI j = nI (7 + j) from nI_add 7 j, nI_clamp (show 7 + j < 2 ^ 31 by omega)]
          cases c : m.testBit j with
          | true =>
            rw [if_pos (by decide)]
            dsimp only
            rw [ckA_nI (show 7 + j < 43 by omega) (by decide), lj_s, lj_s, nI_1]
            refine ⟨_, rfl, nx 0 ?_⟩
            unfold gFm
            rw [if_pos (by simp [hj, c])]
            rfl
          | false =>
            rw [if_neg (by decide), rdA_nI hj (by decide)]
            dsimp only
            rw [ckA_nI (show 7 + j < 43 by omega) (by decide), lj_s, lj_s, nI_1]
            refine ⟨_, rfl, nx (v3 j) ?_⟩
            unfold gFm
            rw [if_neg (by simp [hj, c]), c2 j hj, (hs.2.2.2.2.2 j hj).1])
        6 0 N () u (by omega) (by omega) ⟨hu, fun r hr => absurd hr (by omega)⟩
      exact ⟨u', g1, g2, g3⟩
    have key : ∀ (j8 : Int32 → (Nat → Int32) → (Nat → Int32) → Option (Int32 × (Nat → Int32) × (Nat → Int32) × (Nat → Int32))) (d j f : Nat) (b : Int32) (u q : Nat → Int32), j + d = 64 → d < f → (∀ i, i < 43 → (i < 7 ∨ 13 ≤ i) → u i = s i) → IsB (gQ a k w n) j b → ∃ r u' q', f_X6_apartFor_L52 N (nI k) (nI w) (nI n) v3 j8 f (nI j) b u q = j8 r u' q' ∧ IsB (gQ a k w n) 64 r ∧ ∀ i, i < 43 → (i < 7 ∨ 13 ≤ i) → u' i = s i := by
      intro j8 d
      induction d with
      | zero =>
        intro j f b u q hj hf hu hbb
        obtain ⟨f, rfl⟩ : ∃ f', f = f' + 1 := ⟨f - 1, by omega⟩
        have : j = 64 := by omega
        subst this
        refine ⟨b, u, q, ?_, hbb, hu⟩
        rw [f_X6_apartFor_L52, if_pos (by decide)]
      | succ d ih =>
        intro j f b u q hj hf hu hbb
        obtain ⟨f, rfl⟩ : ∃ f', f = f' + 1 := ⟨f - 1, by omega⟩
        -- trying the set j
        have trial : (∀ x, x < j → gQ a k w n x = true → pcN j < pcN x) → (gQ a k w n j = false → IsB (gQ a k w n) (j + 1) b) → ∃ r u' q', f_X6_apartFor_L80 v3 (nI j) (fun (v28 : Nat → Int32) => ob3 (f_X6_comesBy N v28 q (nI k) (nI w) (nI n)) (fun (r30 : Int32) (v31 : Nat → Int32) (v32 : Nat → Int32) => lj (fun (k34 : Int32) => lj (nI j + 1) (fun (t26 : Int32) => f_X6_apartFor_L52 N (nI k) (nI w) (nI n) v3 j8 f t26 k34 v31 v32)) (fun j35 => if r30 ≤ nI n then j35 b else j35 (nI j)))) N 0 u = j8 r u' q' ∧ IsB (gQ a k w n) 64 r ∧ ∀ i, i < 43 → (i < 7 ∨ 13 ≤ i) → u' i = s i := by
          intro hy hno
          obtain ⟨u1, g1, g2, g3⟩ := setf j 0 (fun (v28 : Nat → Int32) => ob3 (f_X6_comesBy N v28 q (nI k) (nI w) (nI n)) (fun (r30 : Int32) (v31 : Nat → Int32) (v32 : Nat → Int32) => lj (fun (k34 : Int32) => lj (nI j + 1) (fun (t26 : Int32) => f_X6_apartFor_L52 N (nI k) (nI w) (nI n) v3 j8 f t26 k34 v31 v32)) (fun j35 => if r30 ≤ nI n then j35 b else j35 (nI j)))) u (by omega) hu
          have hm := CM_FF hs hn8 g2 g3 (fun r _ => gFm_or a j 6 r)
          have hw2 : WF (aFF a (gFm a j 6)) := WF_FF hw (fun r _ => gFm_or a j 6 r)
          obtain ⟨s1, s2, b4, b5⟩ := X6_comesBy (N := N) q hm hw2 (by omega) (k := k) (w := w) (m := n) (by omega) (by show aH a + 1001 < 2 ^ 31; omega) hk w8
          have b6 : ∀ i, i < 43 → (i < 7 ∨ 13 ≤ i) → s1 i = s i := fun i h1 h2 => (b5 i h1).trans (g2 i h1 h2)
          have hT := gSn_le (gOn k w) n (aFF a (gFm a j 6))
          rw [g1, b4, ob3_s, lj_s, nI_1]
          by_cases c : gSn (gOn k w) n (aFF a (gFm a j 6)) ≤ n
          · have hq : gQ a k w n j = false := by unfold gQ; exact decide_eq_false (by omega)
            rw [if_pos (nI_le c (by omega))]
            dsimp only
            rw [lj_s]
            exact ih (j + 1) f b s1 s2 (by omega) (by omega) b6 (hno hq)
          · have hq : gQ a k w n j = true := by unfold gQ; exact decide_eq_true (by omega)
            rw [if_neg (nI_ge (by omega) (by omega))]
            dsimp only
            rw [lj_s]
            refine ih (j + 1) f (nI j) s1 s2 (by omega) (by omega) b6 (Or.inr ⟨j, by omega, rfl, hq, fun x h1 h2 => ?_⟩)
            by_cases e : x = j
            · rw [e]; omega
            · have := hy x (by omega) h2
              omega
        have hpj := pc6 j (by omega)
        rw [f_X6_apartFor_L52, if_neg (show ¬ (64 : Int32) ≤ nI j from nI_ge (show j < 64 by omega) (by decide)), lj_s, lj_s, lj_s]
        dsimp only
        rcases hbb with ⟨rfl, h2⟩ | ⟨t0, t1, rfl, t3, t4⟩
        · rw [if_pos n3lt]
          refine trial (fun x h1 h3 => by rw [h2 x h1] at h3; cases h3) (fun hq => Or.inl ⟨rfl, fun x hx => ?_⟩)
          by_cases e : x = j
          · rw [e]; exact hq
          · exact h2 x (by omega)
        · have hpt := pc6 t0 (by omega)
          rw [if_neg (show ¬ nI t0 < 0 from nI_nlt (b := 0) (a := t0) (by omega) (by omega)), size_ok (show j < 256 by omega) (by omega), ob1_s, size_ok (show t0 < 256 by omega) (by omega), ob1_s, ite_le (show pcN t0 < 2 ^ 31 by omega) (show pcN j < 2 ^ 31 by omega)]
          have keep : (gQ a k w n j = false ∨ pcN t0 ≤ pcN j) → IsB (gQ a k w n) (j + 1) (nI t0) := by
            intro hq
            refine Or.inr ⟨t0, by omega, rfl, t3, fun x h1 h2 => ?_⟩
            by_cases e : x = j
            · subst e
              rcases hq with hq | hq
              · rw [hq] at h2; cases h2
              · omega
            · exact t4 x (by omega) h2
          by_cases c : pcN t0 ≤ pcN j
          · rw [if_pos c, lj_s, nI_1]
            exact ih (j + 1) f (nI t0) u q (by omega) (by omega) hu (keep (Or.inr c))
          · rw [if_neg c]
            exact trial (fun x h1 h2 => by have := t4 x h1 h2; omega) (fun hq => keep (Or.inl hq))
    obtain ⟨r2, u', q', d1, d2, d3⟩ := key (fun (i5 : Int32) (v6 : Nat → Int32) (v7 : Nat → Int32) => f_X6_apartFor_L154 v3 i5 v7 N 0 v6) 64 0 N (-3) s q (by omega) (by omega) (fun _ _ _ => rfl) (Or.inl ⟨rfl, fun x hx => absurd hx (by omega)⟩)
    have d1 : f_X6_apartFor_L52 N (nI k) (nI w) (nI n) v3 (fun (i5 : Int32) (v6 : Nat → Int32) (v7 : Nat → Int32) => f_X6_apartFor_L154 v3 i5 v7 N 0 v6) N 0 (-3) s q = _ := d1
    obtain ⟨s3, d4, d5, d6⟩ := lpR (L := fun f i (u : Nat → Int32) => f_X6_apartFor_L154 v3 r2 q' f i u) (k := fun u => some (r2, u, q', v3)) (n := 6) (fun j (_ : Unit) (u : Nat → Int32) => (∀ i, i < 43 → (i < 7 ∨ 13 ≤ i) → u i = s i) ∧ ∀ r, r < j → u (7 + r) = s (7 + r)) (fun _ u => u)
      (fun f _ u _ => by show f_X6_apartFor_L154 v3 r2 q' (f + 1) (nI 6) u = _; rw [f_X6_apartFor_L154, if_pos (by decide)])
      (fun f j _ u hj hu => by
        obtain ⟨hu1, hu2⟩ := hu
        show ∃ s', f_X6_apartFor_L154 v3 r2 q' (f + 1) (nI j) u = f_X6_apartFor_L154 v3 r2 q' f (nI (j + 1)) s' ∧ _
        rw [f_X6_apartFor_L154, if_neg (show ¬ (6 : Int32) ≤ nI j from nI_ge hj (by decide)), rdA_nI hj (by decide), show (7 : Int32) + nI j = nI (7 + j) from nI_add 7 j, ckA_nI (show 7 + j < 43 by omega) (by decide), nI_clamp (show 7 + j < 2 ^ 31 by omega), lj_s, lj_s, nI_1]
        refine ⟨_, rfl, fun i h1 h2 => by rw [upd_n (by omega)]; exact hu1 i h1 h2, fun r hr => ?_⟩
        by_cases e : r = j
        · rw [e, upd_s, c2 j hj]
        · rw [upd_n (by omega)]; exact hu2 r (by omega))
      6 0 N () u' (by omega) (by omega) ⟨d3, fun r hr => absurd hr (by omega)⟩
    have d4 : f_X6_apartFor_L154 v3 r2 q' N 0 u' = _ := d4
    rw [d1, d4]
    refine YT.mk _ _ _ _ rfl (by rw [IsB_one e2 d2]) (RP_at hv hs hw hh (fun i hi => out i hi _ (d5 i hi) (fun r hr e => by rw [e]; exact d6 r hr)))
