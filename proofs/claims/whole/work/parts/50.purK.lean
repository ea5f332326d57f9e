/-! PURE 11: inkFor, touchFor -/
def gFk (P : Nat → Bool) : Nat → Nat → Int32
  | 0, _ => -3
  | d + 1, j => if P j = true then nI j else gFk P d (j + 1)
theorem gRs_lt {n T : Nat} (hn : n < 100) : gRs n T < 0 ↔ ¬ T ≤ n := by
  unfold gRs
  by_cases q : T ≤ n
  · rw [if_pos q]
    exact ⟨fun z => absurd z (nI_nlt (b := 0) (by omega) (by omega)), fun z => absurd q z⟩
  · rw [if_neg q]
    exact ⟨fun _ => q, fun _ => n3lt⟩
theorem Y_inkFor {N h : Nat} {v : PV} {s : Nat → Int32} (t : PV) (q : Nat → Int32) (hr : RP h v s) (hN : 500 ≤ N) (hb : h + 1001 < 2 ^ 31) (x0 x1 x2 : Int32) : YT h v (f_X5_inkFor N v t x0 x1 x2) (f_X6_inkFor N s q x0 x1 x2) := by
  obtain ⟨a, hv, hs, hw, hh⟩ := id hr
  have hn8 := hw.1
  unfold f_X5_inkFor f_X6_inkFor
  rcases wish_c hv hs hw x0 x1 x2 with ⟨q1, q2⟩ | ⟨k, w, n, hk, w8, n30, rfl, rfl, rfl, q1, q2⟩
  · rw [if_pos q1, if_pos q2]; exact YT.mk _ _ _ _ rfl rfl hr
  · have k8 : k < 8 := by omega
    have key1 : ∀ (d j f : Nat) (t : PV), j + d = 100 → d < f → ∃ t', f_X5_inkFor_L15 N v (nI k) (nI w) (nI n) f (nI j) t = some (gFk (fun j => decide (gSn (gOn k w) n (aSInk a k j) ≤ n)) d j, t') := by
      intro d
      induction d with
      | zero =>
        intro j f t hj hf
        obtain ⟨f, rfl⟩ : ∃ f', f = f' + 1 := ⟨f - 1, by omega⟩
        refine ⟨t, ?_⟩
        rw [f_X5_inkFor_L15, if_pos (show (99 : Int32) < nI j from nI_lt (a := 99) (by omega) (by omega)), gFk]
      | succ d ih =>
        intro j f t hj hf
        obtain ⟨f, rfl⟩ : ∃ f', f = f' + 1 := ⟨f - 1, by omega⟩
        obtain ⟨t1, b1, b2⟩ := X1_become (v := t) hv hn8
        obtain ⟨t2, b4⟩ := X1_untilOn (N := N) (CV_ink b2 k j) (WF_ink hw (show j ≤ 99 by omega)) (by omega) (k := k) (w := w) (m := n) (by omega) (by omega) (by show aH a + 1001 < 2 ^ 31; omega) hk w8
        obtain ⟨t3, b5⟩ := ih (j + 1) f t2 (by omega) (by omega)
        rw [f_X5_inkFor_L15, if_neg (show ¬ (99 : Int32) < nI j from nI_nlt (a := 99) (by omega) (by decide)), b1, ob1_s, ckA_nI k8 (by decide), nI_clamp (by omega), lj_s, b4, ob2_s, gFk, if_cg (gRs_lt (show n < 100 by omega))]
        by_cases c : gSn (gOn k w) n (aSInk a k j) ≤ n
        · rw [if_neg (fun z => z c), if_pos (decide_eq_true c)]
          exact ⟨t2, rfl⟩
        · rw [if_pos c, if_neg (by simpa using c), lj_s, nI_1]
          exact ⟨t3, b5⟩
    have key2 : ∀ (j9 : Int32 → (Nat → Int32) → (Nat → Int32) → Option (Int32 × (Nat → Int32) × (Nat → Int32))) (d j f : Nat) (u q : Nat → Int32), j + d = 100 → d + 1 < f → (∀ i, i < 43 → ¬ i = 19 + 3 * k + 1 → u i = s i) → ∃ u' q', f_X6_inkFor_L38 N (nI k) (nI w) (nI n) (nI (19 + 3 * k + 1)) j9 f (nI j) (-3) u q = j9 (gFk (fun j => decide (gSn (gOn k w) n (aSInk a k j) ≤ n)) d j) u' q' ∧ (∀ i, i < 43 → ¬ i = 19 + 3 * k + 1 → u' i = s i) := by
      intro j9 d
      induction d with
      | zero =>
        intro j f u q hj hf hu
        obtain ⟨f, rfl⟩ : ∃ f', f = f' + 1 := ⟨f - 1, by omega⟩
        refine ⟨u, q, ?_, hu⟩
        rw [f_X6_inkFor_L38, if_pos (show (99 : Int32) < nI j from nI_lt (a := 99) (by omega) (by omega)), gFk]
      | succ d ih =>
        intro j f u q hj hf hu
        obtain ⟨f, rfl⟩ : ∃ f', f = f' + 1 := ⟨f - 1, by omega⟩
        have hs1 : CM (aSInk a k j) (upd u (19 + 3 * k + 1) (nI j)) := CM_at (CM_ink hs k j) hn8 (fun i hi => by
          by_cases e : i = 19 + 3 * k + 1
          · rw [e, upd_s, upd_s]
          · rw [upd_n e, upd_n e]; exact hu i hi e)
        obtain ⟨s1, s2, b4, b5⟩ := X6_comesBy (N := N) q hs1 (WF_ink hw (show j ≤ 99 by omega)) (by omega) (k := k) (w := w) (m := n) (by omega) (by show aH a + 1001 < 2 ^ 31; omega) hk w8
        have b6 : ∀ i, i < 43 → ¬ i = 19 + 3 * k + 1 → s1 i = s i := fun i hi e => by rw [b5 i hi, upd_n e]; exact hu i hi e
        have hT := gSn_le (gOn k w) n (aSInk a k j)
        rw [f_X6_inkFor_L38, if_neg (show ¬ (99 : Int32) < nI j from nI_nlt (a := 99) (by omega) (by decide)), if_neg (by decide), ckA_nI (show 19 + 3 * k + 1 < 43 by omega) (by decide), nI_clamp (by omega), lj_s, b4, ob3_s, lj_s, gFk]
        by_cases c : gSn (gOn k w) n (aSInk a k j) ≤ n
        · rw [if_neg (nI_nlt c (by omega)), if_pos (decide_eq_true c)]
          dsimp only
          rw [lj_s, nI_1]
          refine ⟨s1, s2, ?_, b6⟩
          obtain ⟨f, rfl⟩ : ∃ f', f = f' + 1 := ⟨f - 1, by omega⟩
          rw [f_X6_inkFor_L38]
          by_cases c2 : (99 : Int32) < nI (j + 1)
          · rw [if_pos c2]
          · rw [if_neg c2, if_pos (show (0 : Int32) ≤ nI j from nI_le (Nat.zero_le _) (by omega))]
        · rw [if_pos (nI_lt (by omega) (by omega)), if_neg (by simpa using c)]
          dsimp only
          rw [lj_s, nI_1]
          exact ih (j + 1) f s1 s2 (by omega) (by omega) b6
    obtain ⟨t', e1⟩ := key1 100 0 N t (by omega) (by omega)
    have e1 : f_X5_inkFor_L15 N v (nI k) (nI w) (nI n) N 0 t = _ := e1
    rw [q1, q2, if_neg n10, if_neg n10, e1, lj_s, ixM, nI_1, rdA_nI (show 19 + 3 * k + 1 < 43 by omega) (by decide), lj_s]
    obtain ⟨u', q', g1, g2⟩ := key2 (fun i6 v7 v8 => ckA 43 (nI (19 + 3 * k + 1)) (lj (upd v7 (Int32.toNatClampNeg (nI (19 + 3 * k + 1))) (s (19 + 3 * k + 1))) (fun v11 => some (i6, v11, v8)))) 100 0 N s q (by omega) (by omega) (fun _ _ _ => rfl)
    have g1 : f_X6_inkFor_L38 N (nI k) (nI w) (nI n) (nI (19 + 3 * k + 1)) (fun i6 v7 v8 => ckA 43 (nI (19 + 3 * k + 1)) (lj (upd v7 (Int32.toNatClampNeg (nI (19 + 3 * k + 1))) (s (19 + 3 * k + 1))) (fun v11 => some (i6, v11, v8)))) N 0 (-3) s q = _ := g1
    rw [g1, ckA_nI (show 19 + 3 * k + 1 < 43 by omega) (by decide), nI_clamp (by omega), lj_s]
    refine YT.mk _ _ _ _ rfl rfl (RP_at hv hs hw hh (fun i hi => ?_))
    by_cases e : i = 19 + 3 * k + 1
    · rw [e, upd_s]
    · rw [upd_n e]; exact g2 i hi e
theorem fld_add {α : Type} (g : Nat → α → α) : ∀ (d1 j d2 : Nat) (x : α), fld g j (d1 + d2) x = fld g (j + d1) d2 (fld g j d1 x) := by
  intro d1
  induction d1 with
  | zero => intro j d2 x; rw [Nat.zero_add]; rfl
  | succ d1 ih =>
    intro j d2 x
    rw [show d1 + 1 + d2 = (d1 + d2) + 1 by omega]
    show fld g (j + 1) (d1 + d2) (g j x) = fld g (j + (d1 + 1)) d2 (fld g (j + 1) d1 (g j x))
    rw [ih (j + 1) d2 (g j x), show j + 1 + d1 = j + (d1 + 1) by omega]
theorem fld_shift {α : Type} (G : Nat → α → α) (c : Nat) : ∀ (d j : Nat) (x : α), fld (fun i => G (c + i)) j d x = fld G (c + j) d x := by
  intro d
  induction d with
  | zero => intro j x; rfl
  | succ d ih =>
    intro j x
    show fld (fun i => G (c + i)) (j + 1) d (G (c + j) x) = fld G (c + j + 1) d (G (c + j) x)
    rw [ih (j + 1)]
    rfl
theorem fld_nest {α : Type} (G : Nat → α → α) (m : Nat) : ∀ (n : Nat) (x : α), fld (fun r p => fld (fun i => G (m * r + i)) 0 m p) 0 n x = fld G 0 (m * n) x := by
  intro n
  induction n with
  | zero => intro x; rfl
  | succ n ih =>
    intro x
    rw [fld_succ, ih, Nat.zero_add, fld_shift, Nat.mul_succ, fld_add, Nat.zero_add, Nat.add_zero]
def gTc (a : AP) (k w n c : Nat) : Nat := gSn (gOn k w) n (aJoin a (c / 64) (c / 8 % 8 + 1) (c % 8 + 1))
def gTs (a : AP) (k w n c : Nat) (p : Int32 × Nat) : Int32 × Nat := if c / 8 % 8 < c % 8 then (if gTc a k w n c < p.2 then (nI (100 * (c / 64) + 10 * (c / 8 % 8) + c % 8), gTc a k w n c) else p) else p
theorem gTc_le (a : AP) (k w n c : Nat) : gTc a k w n c ≤ n + 1 := gSn_le _ _ _
theorem gTs_le {a : AP} {k w n c : Nat} {p : Int32 × Nat} (h : p.2 ≤ n + 1) : (gTs a k w n c p).2 ≤ n + 1 := by
  unfold gTs
  split
  · split
    · exact gTc_le a k w n c
    · exact h
  · exact h
theorem Y_touchFor {N h : Nat} {v : PV} {s : Nat → Int32} (t : PV) (q : Nat → Int32) (hr : RP h v s) (hN : 500 ≤ N) (hb : h + 1001 < 2 ^ 31) (x0 x1 x2 : Int32) : YT h v (f_X5_touchFor N v t x0 x1 x2) (f_X6_touchFor N s q x0 x1 x2) := by
  obtain ⟨a, hv, hs, hw, hh⟩ := id hr
  have hn8 := hw.1
  unfold f_X5_touchFor f_X6_touchFor
  rcases wish_c hv hs hw x0 x1 x2 with ⟨q1, q2⟩ | ⟨k, w, n, hk, w8, n30, rfl, rfl, rfl, q1, q2⟩
  · rw [if_pos q1, if_pos q2]; exact YT.mk _ _ _ _ rfl rfl hr
  · have k8 : k < 8 := by omega
    have hT0 := gSn_le (gOn k w) n a
    obtain ⟨t1, b1, b2⟩ := X1_become (v := t) hv hn8
    obtain ⟨t2, b3⟩ := X1_untilOn (N := N) b2 hw (by omega) (k := k) (w := w) (m := n) (by omega) (by omega) (by omega) hk w8
    -- the class's inner loop
    have inner : ∀ (r : Nat) (j18 : Int32 → Int32 → PV → Option (Int32 × PV)) (p : Int32 × Nat) (u : PV), r < 6 → p.2 ≤ n + 1 → ∃ u', f_X5_touchFor_L67 N v (nI k) (nI w) (nI r) j18 N 0 p.1 (nI p.2) u = j18 (fld (fun i => gTs a k w n (64 * r + i)) 0 64 p).1 (nI (fld (fun i => gTs a k w n (64 * r + i)) 0 64 p).2) u' ∧ (fld (fun i => gTs a k w n (64 * r + i)) 0 64 p).2 ≤ n + 1 := by
      intro r j18 p u hr hp
      obtain ⟨z, e1, e2, e3, e4⟩ := lpR (L := fun f i (z : Int32 × Int32 × PV) => f_X5_touchFor_L67 N v (nI k) (nI w) (nI r) j18 f i z.1 z.2.1 z.2.2) (k := fun z => j18 z.1 z.2.1 z.2.2) (n := 64) (fun _ (p : Int32 × Nat) z => z.1 = p.1 ∧ z.2.1 = nI p.2 ∧ p.2 ≤ n + 1) (fun i => gTs a k w n (64 * r + i))
        (fun f p z _ => by show f_X5_touchFor_L67 N v (nI k) (nI w) (nI r) j18 (f + 1) (nI 64) z.1 z.2.1 z.2.2 = _; rw [f_X5_touchFor_L67, if_pos (by decide)])
        (fun f j p z hj hz => by
          obtain ⟨z1, z2, z3⟩ := hz
          show ∃ s' : Int32 × Int32 × PV, f_X5_touchFor_L67 N v (nI k) (nI w) (nI r) j18 (f + 1) (nI j) z.1 z.2.1 z.2.2 = f_X5_touchFor_L67 N v (nI k) (nI w) (nI r) j18 f (nI (j + 1)) s'.1 s'.2.1 s'.2.2 ∧ s'.1 = (gTs a k w n (64 * r + j) p).1 ∧ s'.2.1 = nI (gTs a k w n (64 * r + j) p).2 ∧ (gTs a k w n (64 * r + j) p).2 ≤ n + 1
          have h8 : nI j / 8 = nI (j / 8) := pk_div (d := 8) (by omega) (by decide) (by decide)
          have r8 : nI j - nI (j / 8) * 8 = nI (j % 8) := by rw [← h8]; exact pk_rem (d := 8) (by omega) (by decide) (by decide)
          have c1 : (64 * r + j) / 64 = r := by omega
          have c2 : (64 * r + j) / 8 % 8 = j / 8 := by omega
          have c3 : (64 * r + j) % 8 = j % 8 := by omega
          have hl := gTs_le (a := a) (k := k) (w := w) (n := n) (c := 64 * r + j) z3
          rw [f_X5_touchFor_L67, if_neg (show ¬ (64 : Int32) ≤ nI j from nI_ge hj (by decide)), h8, lj_s, r8, lj_s, lj_s, nI_1, z1, z2]
          by_cases c : j / 8 < j % 8
          · obtain ⟨t1, b1, b2⟩ := X1_become (v := z.2.2) hv hn8
            obtain ⟨t2, b3, b4, -⟩ := X1_join b2 hr (f := j / 8 + 1) (g := j % 8 + 1) (nI_pred (j / 8)).symm (nI_pred (j % 8)).symm
            have hw2 : WF (aJoin a r (j / 8 + 1) (j % 8 + 1)) := WF_join hw (by omega)
            obtain ⟨t3, b5⟩ := X1_untilOnS (N := N) b4 hw2 (by omega) (k := k) (w := w) (n := n) (so := p.2) z3 (by omega) (by show aH a + 1001 < 2 ^ 31; omega) hk w8
            have b6 : f_X5_hoursByTouch N v z.2.2 (nI k) (nI w) (nI p.2 - 1) (nI r) (nI (j / 8)) (nI (j % 8)) = some ((if gTc a k w n (64 * r + j) < p.2 then nI (gTc a k w n (64 * r + j)) else -3), t3) := by
              unfold f_X5_hoursByTouch
              rw [b1, ob1_s, b3, ob1_s, b5, ob2_s]
              unfold gTc
              rw [c1, c2, c3]
            have hTl := gTc_le a k w n (64 * r + j)
            rw [if_neg (nI_ge c (by omega)), b6, ob2_s]
            unfold gTs at hl ⊢
            rw [c2, c3, if_pos c] at hl ⊢
            by_cases d : gTc a k w n (64 * r + j) < p.2
            · rw [if_pos d] at hl ⊢
              rw [if_pos d]
              dsimp only
              rw [lj_s, if_neg (show ¬ nI (gTc a k w n (64 * r + j)) < 0 from nI_nlt (b := 0) (a := gTc a k w n (64 * r + j)) (by omega) (by omega)), lj_s]
              dsimp only
              rw [lj_s]
              refine ⟨(nI (100 * r + 10 * (j / 8) + j % 8), nI (gTc a k w n (64 * r + j)), t3), ?_, by rw [c1], rfl, hl⟩
              rw [show nI r * 100 = nI (100 * r) from (pk_mul r 100).trans (by rw [Nat.mul_comm]), show nI (j / 8) * 10 = nI (10 * (j / 8)) from (pk_mul (j / 8) 10).trans (by rw [Nat.mul_comm]), nI_add, nI_add]
            · rw [if_neg d] at hl ⊢
              rw [if_neg d]
              dsimp only
              rw [lj_s, if_pos n3lt]
              dsimp only
              rw [lj_s]
              exact ⟨(p.1, nI p.2, t3), rfl, rfl, rfl, hl⟩
          · rw [if_pos (nI_le (by omega) (by omega))]
            unfold gTs
            rw [c2, c3, if_neg c]
            dsimp only
            rw [lj_s, if_pos n3lt]
            dsimp only
            rw [lj_s]
            exact ⟨(p.1, nI p.2, z.2.2), rfl, rfl, rfl, z3⟩)
        64 0 N p (p.1, nI p.2, u) (by omega) (by omega) ⟨rfl, rfl, hp⟩
      refine ⟨z.2.2, ?_, e4⟩
      rw [← e2, ← e3]
      exact e1
    obtain ⟨z1, e1, e2, -, -⟩ := lpR (L := fun f i (z : Int32 × Int32 × PV) => f_X5_touchFor_L57 N v (nI k) (nI w) f i z.1 z.2.1 z.2.2) (k := fun z => some (z.1, z.2.2)) (n := 6) (fun _ (p : Int32 × Nat) z => z.1 = p.1 ∧ z.2.1 = nI p.2 ∧ p.2 ≤ n + 1) (fun r p => fld (fun i => gTs a k w n (64 * r + i)) 0 64 p)
      (fun f p z _ => by show f_X5_touchFor_L57 N v (nI k) (nI w) (f + 1) (nI 6) z.1 z.2.1 z.2.2 = _; rw [f_X5_touchFor_L57, if_pos (by decide)])
      (fun f j p z hj hz => by
        obtain ⟨z1, z2, z3⟩ := hz
        show ∃ s' : Int32 × Int32 × PV, f_X5_touchFor_L57 N v (nI k) (nI w) (f + 1) (nI j) z.1 z.2.1 z.2.2 = f_X5_touchFor_L57 N v (nI k) (nI w) f (nI (j + 1)) s'.1 s'.2.1 s'.2.2 ∧ _
        rw [f_X5_touchFor_L57, if_neg (show ¬ (6 : Int32) ≤ nI j from nI_ge hj (by decide)), lj_s, z1, z2]
        obtain ⟨u', g1, g2⟩ := inner j (fun i15 i16 v17 => lj (nI j + 1) (fun t19 => f_X5_touchFor_L57 N v (nI k) (nI w) f t19 i15 i16 v17)) p z.2.2 hj z3
        rw [g1, lj_s, nI_1]
        exact ⟨(_, _, u'), rfl, rfl, rfl, g2⟩)
      6 0 N (-3, gSn (gOn k w) n a) (-3, nI (gSn (gOn k w) n a), t2) (by omega) (by omega) ⟨rfl, rfl, hT0⟩
    have e1 : f_X5_touchFor_L57 N v (nI k) (nI w) N 0 (-3) (nI (gSn (gOn k w) n a)) t2 = some (z1.1, z1.2.2) := e1
    have e2 : z1.1 = (fld (fun r p => fld (fun i => gTs a k w n (64 * r + i)) 0 64 p) 0 6 (-3, gSn (gOn k w) n a)).1 := e2
    rw [fld_nest (fun c => gTs a k w n c) 64 6] at e2
    have cl : (if gRs n (gSn (gOn k w) n a) < 0 then f_X5_touchFor_L57 N v (nI k) (nI w) N 0 (-3) (nI (n + 1)) t2 else f_X5_touchFor_L57 N v (nI k) (nI w) N 0 (-3) (gRs n (gSn (gOn k w) n a)) t2) = some (z1.1, z1.2.2) := by
      rw [if_cg (gRs_lt (show n < 100 by omega))]
      by_cases c : gSn (gOn k w) n a ≤ n
      · rw [if_neg (fun z => z c)]
        unfold gRs
        rw [if_pos c]
        exact e1
      · rw [if_pos c, show n + 1 = gSn (gOn k w) n a by omega]
        exact e1
    -- the model
    obtain ⟨s1, q', c1, c2⟩ := X6_comesBy q hs hw (show 100 ≤ N by omega) (k := k) (w := w) (m := 60) (by omega) (by omega) hk w8
    have c1 : f_X6_comesBy N s q (nI k) (nI w) 60 = _ := c1
    have lst : f_X6_least (nI (n + 1)) (nI (gSn (gOn k w) 60 a)) = nI (gSn (gOn k w) n a) := by
      obtain ⟨g1, g2⟩ := gSn_cut (gOn k w) 60 n a (by omega)
      have g3 := gSn_le (gOn k w) 60 a
      unfold f_X6_least
      rw [ite_le (by omega) (by omega)]
      by_cases d : gSn (gOn k w) 60 a ≤ n
      · rw [if_pos (by omega), g1 d]
      · rw [g2 (by omega)]
        by_cases d2 : gSn (gOn k w) 60 a ≤ n + 1
        · rw [if_pos d2, show gSn (gOn k w) 60 a = n + 1 by omega]
        · rw [if_neg d2]
    obtain ⟨z2, g1, g2, -, g4, -⟩ := lpR (L := fun f i (z : Int32 × Int32 × (Nat → Int32) × (Nat → Int32)) => f_X6_touchFor_L35 N (nI k) (nI w) (nI n) f i z.1 z.2.1 z.2.2.1 z.2.2.2) (k := fun z => some (z.1, z.2.2.1, z.2.2.2)) (n := 384) (fun _ (p : Int32 × Nat) z => z.1 = p.1 ∧ z.2.1 = nI p.2 ∧ (∀ i, i < 43 → z.2.2.1 i = s i) ∧ p.2 ≤ n + 1) (fun c => gTs a k w n c)
      (fun f p z _ => by show f_X6_touchFor_L35 N (nI k) (nI w) (nI n) (f + 1) (nI 384) z.1 z.2.1 z.2.2.1 z.2.2.2 = _; rw [f_X6_touchFor_L35, if_pos (by decide)])
      (fun f j p z hj hz => by
        obtain ⟨z1, z2, z3, z4⟩ := hz
        show ∃ s' : Int32 × Int32 × (Nat → Int32) × (Nat → Int32), f_X6_touchFor_L35 N (nI k) (nI w) (nI n) (f + 1) (nI j) z.1 z.2.1 z.2.2.1 z.2.2.2 = f_X6_touchFor_L35 N (nI k) (nI w) (nI n) f (nI (j + 1)) s'.1 s'.2.1 s'.2.2.1 s'.2.2.2 ∧ s'.1 = (gTs a k w n j p).1 ∧ s'.2.1 = nI (gTs a k w n j p).2 ∧ (∀ i, i < 43 → s'.2.2.1 i = s i) ∧ (gTs a k w n j p).2 ≤ n + 1
        have h64 : nI j / 64 = nI (j / 64) := pk_div (d := 64) (by omega) (by decide) (by decide)
        have h8 : nI j / 8 = nI (j / 8) := pk_div (d := 8) (by omega) (by decide) (by decide)
        have r8 : nI j - nI (j / 8) * 8 = nI (j % 8) := by rw [← h8]; exact pk_rem (d := 8) (by omega) (by decide) (by decide)
        have r88 : nI (j / 8) - nI (j / 8) / 8 * 8 = nI (j / 8 % 8) := pk_rem (d := 8) (by omega) (by decide) (by decide)
        have r6 : j / 64 < 6 := by omega
        have hl := gTs_le (a := a) (k := k) (w := w) (n := n) (c := j) z4
        rw [f_X6_touchFor_L35, if_neg (show ¬ (384 : Int32) ≤ nI j from nI_ge hj (by decide)), h64, lj_s, h8, r88, lj_s, r8, lj_s, lj_s, nI_1, z1, z2]
        by_cases c : j / 8 % 8 < j % 8
        · have a1 : f_X6_becomes z.2.2.1 (7 + nI (j / 64)) (1 + nI (j / 8 % 8)) = some (z.2.2.1 (7 + j / 64), upd z.2.2.1 (7 + j / 64) (nI (j / 8 % 8 + 1))) := by
            unfold f_X6_becomes
            rw [show (7 : Int32) + nI (j / 64) = nI (7 + j / 64) from nI_add 7 _, rdA_nI (show 7 + j / 64 < 43 by omega) (by decide), ckA_nI (show 7 + j / 64 < 43 by omega) (by decide), nI_clamp (by omega), lj_s, show (1 : Int32) + nI (j / 8 % 8) = nI (j / 8 % 8 + 1) by rw [Int32.add_comm, nI_1]]
          have a2 : ∀ u : Nat → Int32, f_X6_becomes u (13 + nI (j / 64)) (1 + nI (j % 8)) = some (u (13 + j / 64), upd u (13 + j / 64) (nI (j % 8 + 1))) := by
            intro u
            unfold f_X6_becomes
            rw [show (13 : Int32) + nI (j / 64) = nI (13 + j / 64) from nI_add 13 _, rdA_nI (show 13 + j / 64 < 43 by omega) (by decide), ckA_nI (show 13 + j / 64 < 43 by omega) (by decide), nI_clamp (by omega), lj_s, show (1 : Int32) + nI (j % 8) = nI (j % 8 + 1) by rw [Int32.add_comm, nI_1]]
          have hs0 : CM a z.2.2.1 := CM_at hs hn8 z3
          have hs1 := CM_join hs0 r6 (f := j / 8 % 8 + 1) (g := j % 8 + 1)
          have hw2 : WF (aJoin a (j / 64) (j / 8 % 8 + 1) (j % 8 + 1)) := WF_join hw (by omega)
          obtain ⟨s1, s2, b4, b5⟩ := X6_comesBy (N := N) z.2.2.2 hs1 hw2 (by omega) (k := k) (w := w) (m := n) (by omega) (by show aH a + 1001 < 2 ^ 31; omega) hk w8
          have b4 : f_X6_comesBy N (upd (upd z.2.2.1 (7 + j / 64) (nI (j / 8 % 8 + 1))) (13 + j / 64) (nI (j % 8 + 1))) z.2.2.2 (nI k) (nI w) (nI n) = some (nI (gTc a k w n j), s1, s2) := b4
          have b6 : ∀ i, i < 43 → (upd (upd s1 (7 + j / 64) (z.2.2.1 (7 + j / 64))) (13 + j / 64) (z.2.2.1 (13 + j / 64))) i = s i := by
            intro i hi
            by_cases e2 : i = 13 + j / 64
            · rw [e2, upd_s]; exact z3 _ (by omega)
            · rw [upd_n e2]
              by_cases e1 : i = 7 + j / 64
              · rw [e1, upd_s]; exact z3 _ (by omega)
              · rw [upd_n e1, b5 i hi, upd_n e2, upd_n e1]; exact z3 i hi
          have hTl := gTc_le a k w n j
          rw [if_neg (nI_ge c (by omega)), a1, ob2_s, a2, ob2_s, b4, ob3_s, lj_s, show (7 : Int32) + nI (j / 64) = nI (7 + j / 64) from nI_add 7 _, show (13 : Int32) + nI (j / 64) = nI (13 + j / 64) from nI_add 13 _, upd_n (show ¬ 13 + j / 64 = 7 + j / 64 by omega)]
          unfold f_X6_least
          unfold gTs at hl ⊢
          rw [if_pos c] at hl ⊢
          by_cases d : gTc a k w n j < p.2
          · rw [if_pos d] at hl ⊢
            rw [if_neg (nI_ge d (by omega)), if_pos (nI_le (Nat.le_of_lt d) (by omega))]
            dsimp only
            rw [lj_s, ckA_nI (show 7 + j / 64 < 43 by omega) (by decide), lj_s, ckA_nI (show 13 + j / 64 < 43 by omega) (by decide), lj_s, lj_s, nI_clamp (by omega), nI_clamp (by omega)]
            refine ⟨(nI (100 * (j / 64) + 10 * (j / 8 % 8) + j % 8), nI (gTc a k w n j), upd (upd s1 (7 + j / 64) (z.2.2.1 (7 + j / 64))) (13 + j / 64) (z.2.2.1 (13 + j / 64)), s2), ?_, rfl, rfl, b6, hl⟩
            rw [show (100 : Int32) * nI (j / 64) = nI (100 * (j / 64)) from pk_mul 100 _, show (10 : Int32) * nI (j / 8 % 8) = nI (10 * (j / 8 % 8)) from pk_mul 10 _, nI_add, nI_add]
          · rw [if_neg d] at hl ⊢
            have le : (if nI (gTc a k w n j) ≤ nI p.2 then nI (gTc a k w n j) else nI p.2) = nI p.2 := by
              by_cases d2 : nI (gTc a k w n j) ≤ nI p.2
              · have d3 := (nI_leI (by omega) (by omega)).mp d2
                rw [if_pos d2, show gTc a k w n j = p.2 by omega]
              · rw [if_neg d2]
            rw [if_pos (nI_le (by omega) (by omega)), le]
            dsimp only
            rw [lj_s, ckA_nI (show 7 + j / 64 < 43 by omega) (by decide), lj_s, ckA_nI (show 13 + j / 64 < 43 by omega) (by decide), lj_s, lj_s, nI_clamp (by omega), nI_clamp (by omega)]
            exact ⟨(p.1, nI p.2, upd (upd s1 (7 + j / 64) (z.2.2.1 (7 + j / 64))) (13 + j / 64) (z.2.2.1 (13 + j / 64)), s2), rfl, rfl, rfl, b6, hl⟩
        · rw [if_pos (nI_le (by omega) (by omega))]
          dsimp only
          rw [lj_s]
          unfold gTs
          rw [if_neg c]
          exact ⟨(p.1, nI p.2, z.2.2.1, z.2.2.2), rfl, rfl, rfl, z3, z4⟩)
      384 0 N (-3, gSn (gOn k w) n a) (-3, nI (gSn (gOn k w) n a), s1, q') (by omega) (by omega) ⟨rfl, rfl, c2, hT0⟩
    have g1 : f_X6_touchFor_L35 N (nI k) (nI w) (nI n) N 0 (-3) (nI (gSn (gOn k w) n a)) s1 q' = some (z2.1, z2.2.2.1, z2.2.2.2) := g1
    rw [q1, q2, if_neg n10, if_neg n10, b1, ob1_s, b3, ob2_s, lj_s, nI_1]
    dsimp only
    rw [cl, c1, ob3_s, lst, lj_s, g1]
    exact YT.mk _ _ _ _ (by rw [e2]) (by rw [g2]) (RP_at hv hs hw hh g4)
