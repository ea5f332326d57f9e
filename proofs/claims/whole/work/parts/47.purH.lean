/-! PURE 8: more single calls -/
theorem RP.mono {h h' : Nat} {v : PV} {s : Nat → Int32} (hr : RP h v s) (hl : h ≤ h') : RP h' v s := by
  obtain ⟨a, hv, hs, hw, hh⟩ := hr
  exact ⟨a, hv, hs, hw, Nat.le_trans hh hl⟩
theorem X1_goesNow {N : Nat} {a : AP} {v : PV} (hv : CV a v) (hw : WF a) (hN : 9 ≤ N) (hh : aH a < 2 ^ 31) {k : Nat} (hk : k < aN a) : f_X1_goesNow N v (nI k) = some (bI ((gWs a).testBit k)) := by
  obtain ⟨hc, hho, -, -, hm, hp⟩ := id hv
  have hn : aN a ≤ 8 := hw.1
  have hr : aH a % 6 < 6 := Nat.mod_lt _ (by decide)
  obtain ⟨p1, p2⟩ := hp _ hr
  obtain ⟨-, -, m3⟩ := hm k hk
  have w3 := (hw.2.2.1 k hk).2.2
  unfold f_X1_goesNow f_X1_restNow
  rw [hho, fm6 hh, ob1_s, ob1_s, rdA_nI hr (by decide), rdA_nI hr (by decide), p1, p2]
  have nt : ∀ t, t < 8 → ¬ nI t = -1 := by decide
  by_cases hf : aFi a (aH a % 6) = 0
  · have hse : aSe a (aH a % 6) = 0 := by have := hw.2.2.2 _ hr; omega
    rw [hf, hse]
    have e : f_X1_targetOf v (nI k) (nI 0 - 1) (nI 0 - 1) = some (-1) := by
      unfold f_X1_targetOf
      rw [rdA_nI (show k < 8 by omega) (by decide), m3]
      rw [if_neg (show ¬ nI (aOn a k) = nI 0 - 1 from nt _ w3), rdA_nI (show k < 8 by omega) (by decide), m3, if_neg (show ¬ nI (aOn a k) = nI 0 - 1 from nt _ w3)]
    rw [e, ob1_s, if_pos (by rfl)]
    unfold gWs
    rw [if_pos hf, Nat.zero_testBit]
    rfl
  · obtain ⟨q1, q2, q3, q4⟩ := hw.two hr hf
    rw [nI_pd hf, nI_pd q4, X1_targetOf hv hw hk q1 q2, ob1_s]
    unfold gWs
    rw [if_neg hf, gS_bit a _ _ hk]
    unfold gW
    have go : ∀ t, t < 8 → (if nI t = -1 then some 0 else ob1 (f_X1_goesTo N v (nI k) (nI t)) (fun (r10 : Int32) => if r10 = 0 then some 0 else some 1)) = some (bI (gGo a k t)) := by
      intro t ht
      rw [if_neg (nt t ht), X1_goesTo hv hw hN hh hk ht, ob1_s]
      cases gGo a k t <;> rfl
    by_cases c1 : aOn a k = aFi a (aH a % 6) - 1
    · rw [if_pos c1, if_pos c1]
      exact go _ q2
    · rw [if_neg c1, if_neg c1]
      by_cases c2 : aOn a k = aSe a (aH a % 6) - 1
      · rw [if_pos c2, if_pos c2]
        exact go _ q1
      · rw [if_neg c2, if_neg c2, if_pos (by rfl)]
        rfl
theorem X6_goingNow {N : Nat} {a : AP} {s : Nat → Int32} (hs : CM a s) (hw : WF a) (hN : 9 ≤ N) (hh : aH a < 2 ^ 31) : f_X6_goingNow N s = some (nI (gWs a)) := by
  obtain ⟨hc, hho, -, -, -, hp⟩ := id hs
  have hr : aH a % 6 < 6 := Nat.mod_lt _ (by decide)
  obtain ⟨p1, p2⟩ := hp _ hr
  have er : nI (aH a) - nI (aH a) / 6 * 6 = nI (aH a % 6) := pk_rem (d := 6) (by omega) (by decide) (by decide)
  unfold f_X6_goingNow
  rw [lj_s, hho, er, show (7 : Int32) + nI (aH a % 6) = nI (7 + aH a % 6) from nI_add 7 _, show (13 : Int32) + nI (aH a % 6) = nI (13 + aH a % 6) from nI_add 13 _, rdA_nI (show 7 + aH a % 6 < 43 by omega) (by decide), p1]
  unfold gWs
  by_cases hf : aFi a (aH a % 6) = 0
  · rw [if_pos hf, hf, if_pos (show nI 0 = 0 from rfl)]
    rfl
  · obtain ⟨q1, q2, q3, q4⟩ := hw.two hr hf
    rw [if_neg hf, if_neg (show ¬ nI (aFi a (aH a % 6)) = 0 from eq_n (b := 0) (by omega) (by decide) hf), rdA_nI (show 7 + aH a % 6 < 43 by omega) (by decide), rdA_nI (show 13 + aH a % 6 < 43 by omega) (by decide), p1, p2 hf, nI_pd hf, nI_pd q4, X6_goingOver hs hw hN hh q1 q2, ob1_s]
theorem five_c {x : Nat} (h : x ≤ 4) : x = 0 ∨ x = 1 ∨ x = 2 ∨ x = 3 ∨ x = 4 := by omega
theorem nlt_c {x : Int32} {n : Nat} (hn : n < 2 ^ 31) (h : f_X5_within x 0 (nI n) = 0) : ∀ j : Nat, j ≤ n → ¬ x = nI j := by
  intro j hj e
  have h' : f_X5_within x (nI 0) (nI n) = 0 := h
  rw [e, within_t (a := 0) (by omega) hj hn] at h'
  exact n10 h'
theorem Y_of {N h : Nat} {v : PV} {s : Nat → Int32} (hr : RP h v s) (hN : 9 ≤ N) (hb : h < 2 ^ 31) (x0 x1 : Int32) : ∃ r, f_X5_of N v x0 x1 = some r ∧ f_X6_of N s x0 x1 = some r := by
  obtain ⟨a, hv, hs, hw, hh⟩ := hr
  have hn := hw.1
  unfold f_X5_of f_X6_of
  rcases mark_c hv hs hw x0 with ⟨q1, q2⟩ | ⟨k, hk, rfl, q1, q2⟩
  · rw [if_pos q1, if_pos q2]; exact ⟨_, rfl, rfl⟩
  · rw [q1, q2, if_neg n10, if_neg n10, i04]
    rcases wl_c x1 0 (hi := 4) (by decide) (by decide) with q | ⟨w, -, w4, rfl, q⟩
    · have z := nlt_c (n := 4) (by decide) q
      have q : f_X5_within x1 0 4 = 0 := q
      rw [if_pos q, if_neg (show ¬ x1 = 0 from z 0 (by decide)), if_neg (show ¬ x1 = 1 from z 1 (by decide)), if_neg (show ¬ x1 = 2 from z 2 (by decide)), if_neg (show ¬ x1 = 3 from z 3 (by decide)), if_neg (show ¬ x1 = 4 from z 4 (by decide))]
      exact ⟨_, rfl, rfl⟩
    · have q : f_X5_within (nI w) 0 4 = 1 := q
      rw [q, if_neg n10]
      obtain ⟨m1, m2, m3⟩ := hv.2.2.2.2.1 k hk
      have k8 : k < 8 := by omega
      rcases five_c w4 with rfl | rfl | rfl | rfl | rfl
      · refine ⟨nI (aKind a k), ?_, ?_⟩
        · rw [if_pos (by rfl), rdA_nI k8 (by decide), m1]
        · rw [if_neg (by decide), show nI 0 = 0 from rfl, itsK hs hn hk, ob1_s]
      · refine ⟨nI (aInk a k), ?_, ?_⟩
        · rw [if_neg (by decide), if_pos (by rfl), rdA_nI k8 (by decide), m2]
        · rw [if_neg (by decide), show nI 1 = 1 from rfl, itsI hs hn hk, ob1_s]
      · refine ⟨nI (aOn a k), ?_, ?_⟩
        · rw [if_neg (by decide), if_neg (by decide), if_pos (by rfl), rdA_nI k8 (by decide), m3]
        · rw [if_neg (by decide), show nI 2 = 2 from rfl, itsO hs hn hk, ob1_s]
      · refine ⟨gF a k + 1000, ?_, ?_⟩
        · rw [if_neg (by decide), if_neg (by decide), if_neg (by decide), if_pos (by rfl), X1_fading hv hw hk, ob1_s, lj_s]
        · rw [if_pos (by decide), if_pos (by rfl), X6_fades hs hw hk, ob1_s, lj_s, Int32.add_comm]
      · refine ⟨bI ((gWs a).testBit k), ?_, ?_⟩
        · rw [if_neg (by decide), if_neg (by decide), if_neg (by decide), if_neg (by decide), if_pos (by rfl), X1_goesNow hv hw hN (by omega) hk, ob1_s]
          cases (gWs a).testBit k <;> rfl
        · rw [if_pos (by decide), if_neg (by decide), X6_goingNow hs hw hN (by omega), ob1_s, lj_s, bitI (gWs_256 hw) k8]
          cases (gWs a).testBit k <;> rfl
theorem Y_mind {h : Nat} {v : PV} {s : Nat → Int32} (hr : RP h v s) (x0 x1 x2 : Int32) : Y2 (RP h) (f_X5_mind v x0 x1 x2) (f_X6_mind s x0 x1 x2) := by
  obtain ⟨a, hv, hs, hw, hh⟩ := hr
  have hn := hw.1
  unfold f_X5_mind f_X6_mind f_X5_isKind f_X5_isInk
  rw [i05, i099]
  have no : Y2 (RP h) (some (-1, v)) (some (-1, s)) := Y2.mk _ _ _ rfl rfl ⟨a, hv, hs, hw, hh⟩
  rcases mark_c hv hs hw x0 with ⟨q1, q2⟩ | ⟨k, hk, rfl, q1, q2⟩
  · rw [if_pos q1, if_pos q2]; exact no
  · rw [q1, q2, if_neg n10, if_neg n10]
    rcases wl_c x1 0 (hi := 5) (by decide) (by decide) with q | ⟨d, -, d5, rfl, q⟩
    · have q : f_X5_within x1 0 5 = 0 := q
      rw [if_pos q, if_pos q]; exact no
    · have q : f_X5_within (nI d) 0 5 = 1 := q
      rw [q, if_neg n10, if_neg n10]
      rcases wl_c x2 0 (hi := 99) (by decide) (by decide) with p | ⟨i, -, i3, rfl, p⟩
      · have p : f_X5_within x2 0 99 = 0 := p
        rw [if_pos p, if_pos p]; exact no
      · have p : f_X5_within (nI i) 0 99 = 1 := p
        have k8 : k < 8 := by omega
        have m1 := (hv.2.2.2.2.1 k hk).1
        have hs2 := CM_ink hs k i
        have m2 : (upd s (19 + 3 * k + 1) (nI i)) (19 + 3 * k) = nI (aKind a k) := (hs2.2.2.2.2.1 k hk).1
        rw [p, if_neg n10, if_neg n10, rdA_nI k8 (by decide), ckA_nI k8 (by decide), nI_clamp (by omega), m1]
        simp only [lj]
        rw [ckA_nI k8 (by decide), ixM, nI_1, ckA_nI (show 19 + 3 * k + 1 < 43 by omega) (by decide), nI_clamp (by omega)]
        unfold f_X6_becomes
        rw [rdA_nI (show 19 + 3 * k < 43 by omega) (by decide), ckA_nI (show 19 + 3 * k < 43 by omega) (by decide), nI_clamp (by omega), m2]
        exact Y2.mk _ _ _ rfl rfl ⟨_, CV_ink (CV_kind hv k d) k i, CM_kind hs2 k d, WF_kind (WF_ink hw i3) (by omega), hh⟩
theorem Y_move {h : Nat} {v : PV} {s : Nat → Int32} (hr : RP h v s) (x0 x1 : Int32) : Y2 (RP h) (f_X5_move v x0 x1) (f_X6_move s x0 x1) := by
  obtain ⟨a, hv, hs, hw, hh⟩ := hr
  have hn := hw.1
  unfold f_X5_move f_X6_move
  have no : Y2 (RP h) (some (-1, v)) (some (-1, s)) := Y2.mk _ _ _ rfl rfl ⟨a, hv, hs, hw, hh⟩
  rcases mark_c hv hs hw x0 with ⟨q1, q2⟩ | ⟨k, hk, rfl, q1, q2⟩
  · rw [if_pos q1, if_pos q2]; exact no
  · rw [q1, q2, if_neg n10, if_neg n10]
    rcases one_c x1 with ⟨p1, p2⟩ | ⟨o, o8, rfl, p1, p2⟩
    · rw [if_pos p1, if_pos p2]; exact no
    · have k8 : k < 8 := by omega
      have m1 := (hv.2.2.2.2.1 k hk).2.2
      have m2 := (hs.2.2.2.2.1 k hk).2.2
      rw [p1, p2, if_neg n10, if_neg n10, rdA_nI k8 (by decide), ckA_nI k8 (by decide), nI_clamp (by omega), m1, ixM, nI_2]
      unfold f_X6_becomes
      rw [rdA_nI (show 19 + 3 * k + 2 < 43 by omega) (by decide), ckA_nI (show 19 + 3 * k + 2 < 43 by omega) (by decide), nI_clamp (by omega), m2]
      exact Y2.mk _ _ _ rfl rfl ⟨_, CV_on hv k o, CM_on hs k o, WF_on hw o8, hh⟩
def aJoin (a : AP) (r f g : Nat) : AP := (aN a, aH a, aZ a, aLaw a, aKind a, aInk a, aOn a, (fun j => if j = r then f else aFi a j), (fun j => if j = r then g else aSe a j))
theorem WF_join {a : AP} (h : WF a) {r f g : Nat} (hf : (f = 0 ∧ g = 0) ∨ (1 ≤ f ∧ f ≤ 8 ∧ 1 ≤ g ∧ g ≤ 8 ∧ ¬ f = g)) : WF (aJoin a r f g) := by
  obtain ⟨h1, h2, h3, h4⟩ := h
  refine ⟨h1, h2, h3, fun j hj => ?_⟩
  show ((if j = r then f else aFi a j) = 0 ∧ (if j = r then g else aSe a j) = 0) ∨ (1 ≤ (if j = r then f else aFi a j) ∧ (if j = r then f else aFi a j) ≤ 8 ∧ 1 ≤ (if j = r then g else aSe a j) ∧ (if j = r then g else aSe a j) ≤ 8 ∧ ¬ (if j = r then f else aFi a j) = (if j = r then g else aSe a j))
  by_cases e : j = r
  · simp only [if_pos e]; exact hf
  · simp only [if_neg e]; exact h4 j hj
theorem X1_join {a : AP} {v : PV} (hv : CV a v) {r f g : Nat} (hr : r < 6) {x y : Int32} (hx : x = nI f - 1) (hy : y = nI g - 1) : ∃ v', f_X1_join v (nI r) x y = some v' ∧ CV (aJoin a r f g) v' ∧ pWent v' = pWent v := by
  obtain ⟨h1, h2, h3, h4, h5, h6⟩ := hv
  unfold f_X1_join
  simp only [lj]
  rw [ckA_nI hr (by decide), ckA_nI hr (by decide), nI_clamp (by omega)]
  refine ⟨_, rfl, ⟨h1, h2, h3, h4, h5, fun j hj => ?_⟩, rfl⟩
  show upd (pFirst v) r x j = nI (if j = r then f else aFi a j) - 1 ∧ upd (pSecond v) r y j = nI (if j = r then g else aSe a j) - 1
  by_cases e : j = r
  · rw [if_pos e, if_pos e, e, upd_s, upd_s]; exact ⟨hx, hy⟩
  · rw [if_neg e, if_neg e, upd_n e, upd_n e]; exact h6 j hj
theorem CM_join {a : AP} {s : Nat → Int32} (hs : CM a s) {r f g : Nat} (hr : r < 6) : CM (aJoin a r f g) (upd (upd s (7 + r) (nI f)) (13 + r) (nI g)) := by
  obtain ⟨h1, h2, h3, h4, h5, h6⟩ := hs
  refine ⟨?_, ?_, ?_, fun j hj => ?_, fun j hj => ?_, fun j hj => ?_⟩
  · rw [upd_n (by omega), upd_n (by omega)]; exact h1
  · rw [upd_n (by omega), upd_n (by omega)]; exact h2
  · rw [upd_n (by omega), upd_n (by omega)]; exact h3
  · rw [upd_n (by omega), upd_n (by omega)]; exact h4 j hj
  · obtain ⟨g1, g2, g3⟩ := h5 j hj
    refine ⟨?_, ?_, ?_⟩
    · rw [upd_n (by omega), upd_n (by omega)]; exact g1
    · rw [upd_n (by omega), upd_n (by omega)]; exact g2
    · rw [upd_n (by omega), upd_n (by omega)]; exact g3
  · show _ = nI (if j = r then f else aFi a j) ∧ (¬ (if j = r then f else aFi a j) = 0 → _ = nI (if j = r then g else aSe a j))
    by_cases e : j = r
    · subst e
      rw [if_pos (by rfl), if_pos (by rfl)]
      refine ⟨?_, fun _ => upd_s⟩
      rw [upd_n (by omega), upd_s]
    · rw [if_neg e, if_neg e]
      refine ⟨?_, fun q => ?_⟩
      · rw [upd_n (by omega), upd_n (by omega)]; exact (h6 j hj).1
      · rw [upd_n (by omega), upd_n (by omega)]; exact (h6 j hj).2 q
theorem Y_touch {h : Nat} {v : PV} {s : Nat → Int32} (hr : RP h v s) (x0 x1 x2 : Int32) : Y2 (RP h) (f_X5_touch v x0 x1 x2) (f_X6_touch s x0 x1 x2) := by
  obtain ⟨a, hv, hs, hw, hh⟩ := hr
  unfold f_X5_touch f_X6_touch
  have no : Y2 (RP h) (some (-1, v)) (some (-1, s)) := Y2.mk _ _ _ rfl rfl ⟨a, hv, hs, hw, hh⟩
  rcases rest_c x0 with ⟨q1, q2⟩ | ⟨r, hr, rfl, q1, q2⟩
  · rw [if_pos q1, if_pos q2]; exact no
  · rw [q1, q2, if_neg n10, if_neg n10]
    rcases one_c x1 with ⟨p1, p2⟩ | ⟨x, x8, rfl, p1, p2⟩
    · rw [if_pos p1, if_pos p2]; exact no
    · rw [p1, p2, if_neg n10, if_neg n10]
      rcases one_c x2 with ⟨p3, p4⟩ | ⟨y, y8, rfl, p3, p4⟩
      · rw [if_pos p3, if_pos p4]; exact no
      · rw [p3, p4, if_neg n10, if_neg n10]
        by_cases e : nI x = nI y
        · rw [if_pos e, if_pos e]; exact no
        · have e' : ¬ x = y := fun z => e (by rw [z])
          obtain ⟨v', e1, e2, -⟩ := X1_join hv hr (f := x + 1) (g := y + 1) (nI_pred x).symm (nI_pred y).symm
          rw [if_neg e, if_neg e, e1, ob1_s]
          simp only [lj]
          rw [show (1 : Int32) + nI x = nI (x + 1) by rw [Int32.add_comm, nI_1], show (1 : Int32) + nI y = nI (y + 1) by rw [Int32.add_comm, nI_1], show (7 : Int32) + nI r = nI (7 + r) from nI_add 7 r, show (13 : Int32) + nI r = nI (13 + r) from nI_add 13 r, ckA_nI (show 7 + r < 43 by omega) (by decide), ckA_nI (show 13 + r < 43 by omega) (by decide), nI_clamp (by omega), nI_clamp (by omega)]
          exact Y2.mk _ _ _ rfl rfl ⟨_, e2, CM_join hs hr, WF_join hw (by omega), hh⟩
theorem Y_part {h : Nat} {v : PV} {s : Nat → Int32} (hr : RP h v s) (x0 : Int32) : Y2 (RP h) (f_X5_part v x0) (f_X6_part s x0) := by
  obtain ⟨a, hv, hs, hw, hh⟩ := hr
  unfold f_X5_part f_X6_part
  have no : Y2 (RP h) (some (-1, v)) (some (-1, s)) := Y2.mk _ _ _ rfl rfl ⟨a, hv, hs, hw, hh⟩
  rcases rest_c x0 with ⟨q1, q2⟩ | ⟨r, hr, rfl, q1, q2⟩
  · rw [if_pos q1, if_pos q2]; exact no
  · have hb := hw.2.2.2 r hr
    have nt : ∀ t, t < 8 → ¬ nI t = -1 := by decide
    obtain ⟨v', e1, e2, -⟩ := X1_join hv hr (f := 0) (g := 0) (x := -1) (y := -1) rfl rfl
    have fin := CM_join hs hr (f := 0) (g := 0)
    rw [q1, q2, if_neg n10, if_neg n10, rdA_nI hr (by decide), (hv.2.2.2.2.2 r hr).1, show (7 : Int32) + nI r = nI (7 + r) from nI_add 7 r, show (13 : Int32) + nI r = nI (13 + r) from nI_add 13 r, rdA_nI (show 7 + r < 43 by omega) (by decide), (hs.2.2.2.2.2 r hr).1, ckA_nI (show 7 + r < 43 by omega) (by decide)]
    simp only [lj]
    rw [ckA_nI (show 13 + r < 43 by omega) (by decide), nI_clamp (by omega), nI_clamp (by omega), e1, ob1_s]
    by_cases e : aFi a r = 0
    · rw [e, if_pos (by rfl), if_pos trivial, if_pos (show nI 0 = 0 from rfl)]
      exact Y2.mk _ _ _ rfl rfl ⟨_, e2, fin, WF_join hw (by omega), hh⟩
    · rw [nI_pd e, if_neg (nt _ (by omega)), ob1_s, if_neg n10, if_neg (show ¬ nI (aFi a r) = 0 from eq_n (b := 0) (by omega) (by omega) e)]
      exact Y2.mk _ _ _ rfl rfl ⟨_, e2, fin, WF_join hw (by omega), hh⟩
theorem Y_touchOf {h : Nat} {v : PV} {s : Nat → Int32} (hr : RP h v s) (x0 x1 : Int32) : ∃ r, f_X5_touchOf v x0 x1 = some r ∧ f_X6_touchOf s x0 x1 = some r := by
  obtain ⟨a, hv, hs, hw, hh⟩ := hr
  unfold f_X5_touchOf f_X6_touchOf
  rcases rest_c x0 with ⟨q1, q2⟩ | ⟨r, hr, rfl, q1, q2⟩
  · rw [if_pos q1, if_pos q2]; exact ⟨_, rfl, rfl⟩
  · rw [q1, q2, if_neg n10, if_neg n10, i01]
    rcases wl_c x1 0 (hi := 1) (by decide) (by decide) with p | ⟨w, -, w1, rfl, p⟩
    · have p : f_X5_within x1 0 1 = 0 := p
      rw [if_pos p, if_pos p]; exact ⟨_, rfl, rfl⟩
    · have p : f_X5_within (nI w) 0 1 = 1 := p
      have hb := hw.2.2.2 r hr
      have nt : ∀ t, t < 8 → ¬ nI t = -1 := by decide
      obtain ⟨g1, g2⟩ := hv.2.2.2.2.2 r hr
      obtain ⟨g3, g4⟩ := hs.2.2.2.2.2 r hr
      rw [p, if_neg n10, if_neg n10, rdA_nI hr (by decide), g1, show (7 : Int32) + nI r = nI (7 + r) from nI_add 7 r, rdA_nI (show 7 + r < 43 by omega) (by decide), g3]
      by_cases e : aFi a r = 0
      · rw [e, if_pos (by rfl), if_pos (show nI 0 = 0 from rfl)]; exact ⟨_, rfl, rfl⟩
      · rw [if_neg (show ¬ nI (aFi a r) = 0 from eq_n (b := 0) (by omega) (by omega) e), rdA_nI hr (by decide), rdA_nI hr (by decide), g1, g2]
        simp only [lj]
        rw [show (7 : Int32) + nI r = nI (7 + r) from nI_add 7 r, show (13 : Int32) + nI r = nI (13 + r) from nI_add 13 r, rdA_nI (show 7 + r < 43 by omega) (by decide), rdA_nI (show 13 + r < 43 by omega) (by decide), g3, g4 e, nI_pd e, if_neg (nt _ (by omega))]
        rcases (show w = 0 ∨ w = 1 by omega) with rfl | rfl
        · rw [if_pos (by rfl)]; exact ⟨_, rfl, rfl⟩
        · rw [if_neg (by decide), nI_pd (by omega)]; exact ⟨_, rfl, rfl⟩
theorem Y_who {N h : Nat} {v : PV} {s : Nat → Int32} (hr : RP h v s) (hN : 9 ≤ N) (x0 x1 : Int32) : ∃ r, f_X5_who N v x0 x1 = some r ∧ f_X6_who N s x0 x1 = some r := by
  obtain ⟨a, hv, hs, hw, hh⟩ := hr
  unfold f_X5_who f_X6_who
  rcases one_c x0 with ⟨q1, q2⟩ | ⟨r, hr, rfl, q1, q2⟩
  · rw [if_pos q1, if_pos q2]; exact ⟨_, rfl, rfl⟩
  · rw [q1, q2, if_neg n10, if_neg n10, i01, X1_marksOn hv hw hN hr, X6_marksOn hs hw hN hr, X1_circle hv hw hN hr, X6_circleOf hs hw hN hr, ob1_s, ob1_s]
    by_cases p : f_X5_within x1 0 1 = 0
    · simp only [if_pos p]; exact ⟨_, rfl, rfl⟩
    · simp only [if_neg p, ob1_s]
      by_cases e : x1 = 0
      · simp only [if_pos e]; exact ⟨_, rfl, rfl⟩
      · simp only [if_neg e]; exact ⟨_, rfl, rfl⟩
theorem Y_seed {h : Nat} {v : PV} {s : Nat → Int32} (hr : RP h v s) (x0 : Int32) : Y2 (RP h) (f_X5_seed v x0) (f_X6_seed s x0) := by
  obtain ⟨a, hv, hs, hw, hh⟩ := hr
  have e : f_X6_seed s x0 = some (s 2, upd s 2 x0) := by
    unfold f_X6_seed f_X6_becomes
    rw [show (2 : Int32) = nI 2 from rfl, rdA_nI (by decide) (by decide), ckA_nI (by decide) (by decide), nI_clamp (by decide)]
    rfl
  rw [e, hs.2.2.1]
  exact Y2.mk (aZ a) (pSetZ v x0) _ (by rw [← hv.2.2.1]; rfl) rfl ⟨_, CV_z hv x0, CM_z hs x0, WF_z hw x0, hh⟩
theorem X5_hoursL {N n : Nat} (hN : 9 ≤ N) (hn2 : n < 2 ^ 31) (j4 : PV → Option (Int32 × PV)) : ∀ (d j f : Nat) (a : AP) (v : PV), j + d = n → d < f → CV a v → WF a → aH a + d < 2 ^ 31 → ∃ v', f_X5_hours_L14 N (nI n) j4 f (nI j) v = j4 v' ∧ CV (itN gPh d a) v' := by
  intro d
  induction d with
  | zero =>
    intro j f a v hj hf hv _ _
    obtain ⟨f, rfl⟩ : ∃ f', f = f' + 1 := ⟨f - 1, by omega⟩
    refine ⟨v, ?_, hv⟩
    rw [f_X5_hours_L14, if_pos (nI_le (by omega) (by omega))]
  | succ d ih =>
    intro j f a v hj hf hv hw hh
    obtain ⟨f, rfl⟩ : ∃ f', f = f' + 1 := ⟨f - 1, by omega⟩
    obtain ⟨v1, q1, q2, -⟩ := X1_passHour hv hw hN (by omega)
    obtain ⟨v2, q3, q4⟩ := ih (j + 1) f (gPh a) v1 (by omega) (by omega) q2 (WF_Ph hw) (by rw [gPh_h]; omega)
    refine ⟨v2, ?_, q4⟩
    rw [f_X5_hours_L14, if_neg (nI_ge (by omega) (by omega)), q1, ob1_s, nI_1, lj_s]
    exact q3
theorem Y_hours {N h : Nat} {v : PV} {s : Nat → Int32} (hr : RP h v s) (hN : 100 ≤ N) (hb : h + 100 < 2 ^ 31) (x0 : Int32) : Y2 (RP (h + 60)) (f_X5_hours N v x0) (f_X6_hours N s x0) := by
  obtain ⟨a, hv, hs, hw, hh⟩ := hr
  unfold f_X5_hours f_X6_hours
  rw [i160]
  rcases wl_c x0 1 (hi := 60) (by decide) (by decide) with q | ⟨n, n1, n60, rfl, q⟩
  · have q : f_X5_within x0 1 60 = 0 := q
    rw [if_pos q, if_pos q]
    exact Y2.mk _ _ _ rfl rfl ⟨a, hv, hs, hw, by omega⟩
  · have q : f_X5_within (nI n) 1 60 = 1 := q
    rw [q, if_neg n10, if_neg n10, lj_s]
    obtain ⟨v', e1, e2⟩ := X5_hoursL (N := N) (n := n) (by omega) (by omega) (fun v3 => ob1 (f_X1_marked N v3) (fun r5 => lj (f_J6_bitCount_0f7a4 r5) (fun t7 => some (t7, v3)))) n 0 N a v (by omega) (by omega) hv hw (by omega)
    obtain ⟨s', e3, e4⟩ := X6_goes hs hw (show 9 ≤ N by omega) (n := n) (by omega) (by omega) (by omega)
    have hw' := itW hw n
    have hm := X1_marked e2 hw' (show 9 ≤ N by omega)
    have e1 : f_X5_hours_L14 N (nI n) (fun v3 => ob1 (f_X1_marked N v3) (fun r5 => lj (f_J6_bitCount_0f7a4 r5) (fun t7 => some (t7, v3)))) N 0 v = _ := e1
    rw [e1, hm.1, ob1_s, bc_ok hm.2, lj_s, e3, ob1_s, X6_marked e4 hw' (by omega), ob1_s, size_ok hm.2 (by omega), ob1_s]
    exact Y2.mk _ _ _ rfl rfl ⟨_, e2, e4, hw', by rw [itH]; omega⟩
theorem Y_hour {N h : Nat} {v : PV} {s : Nat → Int32} (hr : RP h v s) (hN : 100 ≤ N) (hb : h + 100 < 2 ^ 31) : Y2 (RP (h + 60)) (f_X5_hour N v) (f_X6_hour N s) := by
  obtain ⟨a, hv, hs, hw, hh⟩ := hr
  obtain ⟨v', e1, e2⟩ := X1_hourBD hv hw (show 9 ≤ N by omega) (by omega)
  obtain ⟨s', e3, e4⟩ := X6_hour hs hw (show 9 ≤ N by omega) (by omega)
  have hw' := WF_Hr hw
  have hm := X1_marked e2 hw' (show 9 ≤ N by omega)
  unfold f_X5_hour
  rw [e1, ob1_s, hm.1, ob1_s, bc_ok hm.2, lj_s, e3]
  exact Y2.mk _ _ _ rfl rfl ⟨_, e2, e4, hw', by rw [gHr_h]; omega⟩
theorem Y_state {N h : Nat} {v : PV} {s : Nat → Int32} (hr : RP h v s) (hN : 9 ≤ N) (x0 : Int32) : ∃ r, f_X5_state N v x0 = some r ∧ f_X6_state N s x0 = some r := by
  obtain ⟨a, hv, hs, hw, hh⟩ := hr
  unfold f_X5_state f_X6_state
  rw [(X1_allInk hv hw hN).1, X6_inkOfAll hs hw hN, (X1_marked hv hw hN).1, X6_marked hs hw hN, X1_circles hv hw hN, X6_circles hs hw hN, X1_dried hv hw hN, X6_dryOnes hs hw hN, X1_mostOnOne hv hw hN, X6_mostOnOne hs hw hN, hv.2.1, hs.2.1]
  simp only [ob1_s, lj_s]
  have ex : ∀ (c : Prop) [Decidable c] (p q : Option Int32), (∃ r, p = some r) → (∃ r, q = some r) → ∃ r, (if c then p else q) = some r := fun c _ p q h1 h2 => by split <;> assumption
  obtain ⟨r, e⟩ := ex (x0 = 0) _ _ ⟨_, rfl⟩ (ex (x0 = 1) _ _ ⟨_, rfl⟩ (ex (x0 = 2) _ _ ⟨_, rfl⟩ (ex (x0 = 3) _ _ ⟨_, rfl⟩ (ex (x0 = 4) _ _ ⟨_, rfl⟩ (ex (x0 = 5) _ _ ⟨_, rfl⟩ ⟨_, rfl⟩)))))
  exact ⟨r, e, e⟩
