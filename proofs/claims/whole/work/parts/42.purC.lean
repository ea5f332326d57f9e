/-! PURE 3: two touch, an hour passes -/
abbrev aSInk (a : AP) (k x : Nat) : AP := (a.1, a.2.1, a.2.2.1, a.2.2.2.1, a.2.2.2.2.1, (fun j => if j = k then x else aInk a j), a.2.2.2.2.2.2)
abbrev aSOn (a : AP) (k x : Nat) : AP := (a.1, a.2.1, a.2.2.1, a.2.2.2.1, a.2.2.2.2.1, a.2.2.2.2.2.1, (fun j => if j = k then x else aOn a j), a.2.2.2.2.2.2.2)
abbrev aSKind (a : AP) (k x : Nat) : AP := (a.1, a.2.1, a.2.2.1, a.2.2.2.1, (fun j => if j = k then x else aKind a j), a.2.2.2.2.2)
abbrev aSH (a : AP) (x : Nat) : AP := (a.1, x, a.2.2)
abbrev aSZ (a : AP) (x : Int32) : AP := (a.1, a.2.1, x, a.2.2.2)
theorem upd_s {f : Nat → Int32} {k : Nat} {x : Int32} : upd f k x k = x := if_pos rfl
theorem upd_n {f : Nat → Int32} {k j : Nat} {x : Int32} (h : ¬ j = k) : upd f k x j = f j := if_neg h
theorem CV_ink {a : AP} {v : PV} (h : CV a v) (k x : Nat) : CV (aSInk a k x) (pSetInk v (upd (pInk v) k (nI x))) := by
  obtain ⟨h1, h2, h3, h4, h5, h6⟩ := h
  refine ⟨h1, h2, h3, h4, fun j hj => ?_, h6⟩
  obtain ⟨g1, g2, g3⟩ := h5 j hj
  refine ⟨g1, ?_, g3⟩
  show upd (pInk v) k (nI x) j = nI (if j = k then x else aInk a j)
  by_cases e : j = k
  · rw [if_pos e, e, upd_s]
  · rw [if_neg e, upd_n e]; exact g2
theorem CV_on {a : AP} {v : PV} (h : CV a v) (k x : Nat) : CV (aSOn a k x) (pSetOn v (upd (pOn v) k (nI x))) := by
  obtain ⟨h1, h2, h3, h4, h5, h6⟩ := h
  refine ⟨h1, h2, h3, h4, fun j hj => ?_, h6⟩
  obtain ⟨g1, g2, g3⟩ := h5 j hj
  refine ⟨g1, g2, ?_⟩
  show upd (pOn v) k (nI x) j = nI (if j = k then x else aOn a j)
  by_cases e : j = k
  · rw [if_pos e, e, upd_s]
  · rw [if_neg e, upd_n e]; exact g3
theorem CV_kind {a : AP} {v : PV} (h : CV a v) (k x : Nat) : CV (aSKind a k x) (pSetKind v (upd (pKind v) k (nI x))) := by
  obtain ⟨h1, h2, h3, h4, h5, h6⟩ := h
  refine ⟨h1, h2, h3, h4, fun j hj => ?_, h6⟩
  obtain ⟨g1, g2, g3⟩ := h5 j hj
  refine ⟨?_, g2, g3⟩
  show upd (pKind v) k (nI x) j = nI (if j = k then x else aKind a j)
  by_cases e : j = k
  · rw [if_pos e, e, upd_s]
  · rw [if_neg e, upd_n e]; exact g1
theorem CM_at {a : AP} {s t : Nat → Int32} (h : CM a s) (hn : aN a ≤ 8) (e : ∀ i, i < 43 → t i = s i) : CM a t := by
  obtain ⟨h1, h2, h3, h4, h5, h6⟩ := h
  refine ⟨(e 0 (by decide)).trans h1, (e 1 (by decide)).trans h2, (e 2 (by decide)).trans h3, fun k hk => (e _ (by omega)).trans (h4 k hk), fun k hk => ?_, fun r hr => ?_⟩
  · obtain ⟨g1, g2, g3⟩ := h5 k hk
    exact ⟨(e _ (by omega)).trans g1, (e _ (by omega)).trans g2, (e _ (by omega)).trans g3⟩
  · obtain ⟨g1, g2⟩ := h6 r hr
    exact ⟨(e _ (by omega)).trans g1, fun q => (e _ (by omega)).trans (g2 q)⟩
theorem CM_ink {a : AP} {s : Nat → Int32} (h : CM a s) (k x : Nat) : CM (aSInk a k x) (upd s (19 + 3 * k + 1) (nI x)) := by
  obtain ⟨h1, h2, h3, h4, h5, h6⟩ := h
  refine ⟨(upd_n (by omega)).trans h1, (upd_n (by omega)).trans h2, (upd_n (by omega)).trans h3, fun j hj => (upd_n (by omega)).trans (h4 j hj), fun j hj => ?_, fun r hr => ?_⟩
  · obtain ⟨g1, g2, g3⟩ := h5 j hj
    refine ⟨(upd_n (by omega)).trans g1, ?_, (upd_n (by omega)).trans g3⟩
    show _ = nI (if j = k then x else aInk a j)
    by_cases e : j = k
    · rw [if_pos e, e, upd_s]
    · rw [if_neg e, upd_n (by omega)]; exact g2
  · obtain ⟨g1, g2⟩ := h6 r hr
    exact ⟨(upd_n (by omega)).trans g1, fun q => (upd_n (by omega)).trans (g2 q)⟩
theorem CM_on {a : AP} {s : Nat → Int32} (h : CM a s) (k x : Nat) : CM (aSOn a k x) (upd s (19 + 3 * k + 2) (nI x)) := by
  obtain ⟨h1, h2, h3, h4, h5, h6⟩ := h
  refine ⟨(upd_n (by omega)).trans h1, (upd_n (by omega)).trans h2, (upd_n (by omega)).trans h3, fun j hj => (upd_n (by omega)).trans (h4 j hj), fun j hj => ?_, fun r hr => ?_⟩
  · obtain ⟨g1, g2, g3⟩ := h5 j hj
    refine ⟨(upd_n (by omega)).trans g1, (upd_n (by omega)).trans g2, ?_⟩
    show _ = nI (if j = k then x else aOn a j)
    by_cases e : j = k
    · rw [if_pos e, e, upd_s]
    · rw [if_neg e, upd_n (by omega)]; exact g3
  · obtain ⟨g1, g2⟩ := h6 r hr
    exact ⟨(upd_n (by omega)).trans g1, fun q => (upd_n (by omega)).trans (g2 q)⟩
theorem CM_kind {a : AP} {s : Nat → Int32} (h : CM a s) (k x : Nat) : CM (aSKind a k x) (upd s (19 + 3 * k) (nI x)) := by
  obtain ⟨h1, h2, h3, h4, h5, h6⟩ := h
  refine ⟨(upd_n (by omega)).trans h1, (upd_n (by omega)).trans h2, (upd_n (by omega)).trans h3, fun j hj => (upd_n (by omega)).trans (h4 j hj), fun j hj => ?_, fun r hr => ?_⟩
  · obtain ⟨g1, g2, g3⟩ := h5 j hj
    refine ⟨?_, (upd_n (by omega)).trans g2, (upd_n (by omega)).trans g3⟩
    show _ = nI (if j = k then x else aKind a j)
    by_cases e : j = k
    · rw [if_pos e, e, upd_s]
    · rw [if_neg e, upd_n (by omega)]; exact g1
  · obtain ⟨g1, g2⟩ := h6 r hr
    exact ⟨(upd_n (by omega)).trans g1, fun q => (upd_n (by omega)).trans (g2 q)⟩
theorem WF_ink {a : AP} (h : WF a) {k x : Nat} (hx : x ≤ 99) : WF (aSInk a k x) := by
  obtain ⟨h1, h2, h3, h4⟩ := h
  refine ⟨h1, h2, fun j hj => ?_, h4⟩
  obtain ⟨g1, g2, g3⟩ := h3 j hj
  refine ⟨g1, ?_, g3⟩
  show (if j = k then x else aInk a j) ≤ 99
  split
  · exact hx
  · exact g2
theorem WF_on {a : AP} (h : WF a) {k x : Nat} (hx : x < 8) : WF (aSOn a k x) := by
  obtain ⟨h1, h2, h3, h4⟩ := h
  refine ⟨h1, h2, fun j hj => ?_, h4⟩
  obtain ⟨g1, g2, g3⟩ := h3 j hj
  refine ⟨g1, g2, ?_⟩
  show (if j = k then x else aOn a j) < 8
  split
  · exact hx
  · exact g3
theorem WF_kind {a : AP} (h : WF a) {k x : Nat} (hx : x < 6) : WF (aSKind a k x) := by
  obtain ⟨h1, h2, h3, h4⟩ := h
  refine ⟨h1, h2, fun j hj => ?_, h4⟩
  obtain ⟨g1, g2, g3⟩ := h3 j hj
  refine ⟨?_, g2, g3⟩
  show (if j = k then x else aKind a j) < 6
  split
  · exact hx
  · exact g1
theorem nI_2 (a : Nat) : nI a + 2 = nI (a + 2) := nI_add a 2
theorem ixM (k : Nat) : (19 : Int32) + 3 * nI k = nI (19 + 3 * k) := by
  show nI 19 + nI 3 * nI k = _
  rw [pk_mul, nI_add]
theorem nI_pd {f : Nat} (h : ¬ f = 0) : nI f - 1 = nI (f - 1) := by
  obtain ⟨g, rfl⟩ : ∃ g, f = g + 1 := ⟨f - 1, by omega⟩
  rw [← nI_1, Int32.add_sub_cancel]
  rfl
theorem has_t {m j : Nat} (hm : m < 256) (hj : j < 8) : f_X5_has (nI m) (nI j) = bI (m.testBit j) := by
  unfold f_X5_has
  rw [bitI hm hj]
  cases m.testBit j <;> rfl
theorem bI_eq0 (b : Bool) : (bI b = 0) ↔ b = false := by cases b <;> simp [bI]
/-! who goes over -/
def gW (a : AP) (x y k : Nat) : Bool := if aOn a k = x then gGo a k y else if aOn a k = y then gGo a k x else false
def gS (a : AP) (x y : Nat) : Nat := sN (gW a x y) (aN a)
def gMtP (a : AP) (x y j : Nat) : AP := (aN a, aH a, aZ a, aLaw a, aKind a, (fun k => if (decide (k < j) && gW a x y k) = true then gCl (nI (aInk a k) - gF a k) else aInk a k), (fun k => if (decide (k < j) && gW a x y k) = true then (if aOn a k = x then y else x) else aOn a k), aFi a, aSe a)
def gMt (a : AP) (x y : Nat) : AP := gMtP a x y (aN a)
theorem gMtP_0 (a : AP) (x y : Nat) : gMtP a x y 0 = a := by
  unfold gMtP
  simp
theorem gMtP_no {a : AP} {x y j : Nat} (h : gW a x y j = false) : gMtP a x y (j + 1) = gMtP a x y j := by
  have e : ∀ k, (decide (k < j + 1) && gW a x y k) = (decide (k < j) && gW a x y k) := by
    intro k
    by_cases q : k = j
    · rw [q, h, Bool.and_false, Bool.and_false]
    · have : (k < j + 1) ↔ (k < j) := by omega
      simp only [this]
  unfold gMtP
  simp only [e]
theorem gMtP_ink (a : AP) (x y j : Nat) : aInk (gMtP a x y j) j = aInk a j := by simp [gMtP, aInk]
theorem gMtP_on (a : AP) (x y j : Nat) : aOn (gMtP a x y j) j = aOn a j := by simp [gMtP, aOn]
theorem gMtP_yes {a : AP} {x y j : Nat} (h : gW a x y j = true) : gMtP a x y (j + 1) = aSInk (aSOn (gMtP a x y j) j (if aOn a j = x then y else x)) j (gCl (nI (aInk a j) - gF a j)) := by
  have e1 : ∀ k, ¬ k = j → (decide (k < j + 1) && gW a x y k) = (decide (k < j) && gW a x y k) := by
    intro k q
    have : (k < j + 1) ↔ (k < j) := by omega
    simp only [this]
  have e2 : (decide (j < j + 1) && gW a x y j) = true := by rw [h]; simp
  unfold gMtP
  show (_, _, _, _, _, _, _, _, _) = (_, _, _, _, _, (fun k => if k = j then gCl (nI (aInk a j) - gF a j) else if (decide (k < j) && gW a x y k) = true then gCl (nI (aInk a k) - gF a k) else aInk a k), (fun k => if k = j then (if aOn a j = x then y else x) else if (decide (k < j) && gW a x y k) = true then (if aOn a k = x then y else x) else aOn a k), _, _)
  congr 6
  · funext k
    by_cases q : k = j
    · rw [if_pos q, q, if_pos e2]
    · rw [if_neg q, e1 k q]
  · congr 1
    funext k
    by_cases q : k = j
    · rw [if_pos q, q, if_pos e2]
    · rw [if_neg q, e1 k q]
theorem WF_MtP {a : AP} (h : WF a) {x y : Nat} (hx : x < 8) (hy : y < 8) (j : Nat) : WF (gMtP a x y j) := by
  obtain ⟨h1, h2, h3, h4⟩ := h
  refine ⟨h1, h2, fun k hk => ?_, h4⟩
  obtain ⟨g1, g2, g3⟩ := h3 k hk
  refine ⟨g1, ?_, ?_⟩
  · show (if (decide (k < j) && gW a x y k) = true then gCl (nI (aInk a k) - gF a k) else aInk a k) ≤ 99
    split
    · exact (gCl_ok _).2
    · exact g2
  · show (if (decide (k < j) && gW a x y k) = true then (if aOn a k = x then y else x) else aOn a k) < 8
    split
    · split
      · exact hy
      · exact hx
    · exact g3
theorem gS_bit (a : AP) (x y : Nat) {j : Nat} (hj : j < aN a) : (gS a x y).testBit j = gW a x y j := by
  unfold gS
  rw [sN_bit]
  simp [hj]
theorem gS_256 {a : AP} (h : WF a) (x y : Nat) : gS a x y < 256 := sN_256 _ h.1
theorem CV_went {a : AP} {v : PV} (h : CV a v) (m : Int32) : CV a (pSetWent v m) := h
theorem X1_meet {N : Nat} {a : AP} {v : PV} (hv : CV a v) (hw : WF a) (hN : 9 ≤ N) (hh : aH a < 2 ^ 31) {x y : Nat} (hx : x < 8) (hy : y < 8) : ∃ v', f_X1_meet N v (nI x) (nI y) = some v' ∧ CV (gMt a x y) v' ∧ pWent v' = nI (gS a x y) := by
  have hn : aN a ≤ 8 := hw.1
  obtain ⟨s1, e1, e2, e2b⟩ := lpR (L := fun f i (u : PV) => f_X1_meet_L7 N (nI x) (nI y) (fun v2 => f_X1_meet_L60 (nI x) (nI y) N 0 v2) f i u) (k := fun v2 => f_X1_meet_L60 (nI x) (nI y) N 0 v2) (n := aN a) (fun _ m (u : PV) => CV a u ∧ pWent u = nI m) (fun j m => if gW a x y j = true then m ||| 2 ^ j else m)
    (fun f m u hu => by
      obtain ⟨hc, -⟩ := id hu.1
      show f_X1_meet_L7 N (nI x) (nI y) _ (f + 1) (nI (aN a)) u = _
      rw [f_X1_meet_L7, hc, if_pos (Int32.le_refl _)])
    (fun f j m u hj hu => by
      obtain ⟨hu, hm⟩ := hu
      obtain ⟨hc, -⟩ := id hu
      have hon := (hw.2.2.1 j hj).2.2
      show ∃ s', f_X1_meet_L7 N (nI x) (nI y) _ (f + 1) (nI j) u = f_X1_meet_L7 N (nI x) (nI y) _ f (nI (j + 1)) s' ∧ _
      rw [f_X1_meet_L7, hc, if_neg (nI_ge hj (by omega)), X1_targetOf hu hw hj hx hy, ob1_s]
      simp only [lj, nI_1]
      have go : ∀ t, t < 8 → gW a x y j = gGo a j t → ∃ s', (if nI t = -1 then f_X1_meet_L7 N (nI x) (nI y) (fun v2 => f_X1_meet_L60 (nI x) (nI y) N 0 v2) f (nI (j + 1)) u else ob1 (f_X1_goesTo N u (nI j) (nI t)) (fun (r35 : Int32) => if r35 = 0 then f_X1_meet_L7 N (nI x) (nI y) (fun v2 => f_X1_meet_L60 (nI x) (nI y) N 0 v2) f (nI (j + 1)) u else f_X1_meet_L7 N (nI x) (nI y) (fun v2 => f_X1_meet_L60 (nI x) (nI y) N 0 v2) f (nI (j + 1)) (pSetWent u (pWent u ||| 1 <<< (nI j &&& 31))))) = f_X1_meet_L7 N (nI x) (nI y) (fun v2 => f_X1_meet_L60 (nI x) (nI y) N 0 v2) f (nI (j + 1)) s' ∧ CV a s' ∧ pWent s' = nI (if gW a x y j = true then m ||| 2 ^ j else m) := by
        intro t ht eg
        have nt : ¬ nI t = -1 := by
          have : ∀ t, t < 8 → ¬ nI t = -1 := by decide
          exact this t ht
        rw [if_neg nt, X1_goesTo hu hw hN hh hj ht, ob1_s, eg]
        cases gGo a j t
        · exact ⟨u, rfl, hu, hm⟩
        · refine ⟨pSetWent u (nI (m ||| 2 ^ j)), ?_, CV_went hu _, rfl⟩
          rw [hm, one_shl j (by omega), nI_or]
          rfl
      by_cases c1 : aOn a j = x
      · rw [if_pos c1]
        exact go y hy (if_pos c1)
      · rw [if_neg c1]
        by_cases c2 : aOn a j = y
        · rw [if_pos c2]
          exact go x hx (by unfold gW; rw [if_neg c1, if_pos c2])
        · rw [if_neg c2, if_pos rfl]
          have eg : gW a x y j = false := by unfold gW; rw [if_neg c1, if_neg c2]
          exact ⟨u, rfl, hu, by rw [eg]; exact hm⟩)
    (aN a) 0 N 0 (pSetWent v 0) (by omega) (by omega) ⟨CV_went hv _, rfl⟩
  have e2b : pWent s1 = nI (gS a x y) := e2b
  have hs := gS_256 hw x y
  obtain ⟨s2, e3, e4, e5⟩ := lpR (L := fun f i (u : PV) => f_X1_meet_L60 (nI x) (nI y) f i u) (k := fun v2 => some v2) (n := aN a) (fun j (_ : Unit) (u : PV) => CV (gMtP a x y j) u ∧ pWent u = nI (gS a x y)) (fun _ m => m)
    (fun f m u hu => by
      obtain ⟨hc, -⟩ := id hu.1
      show f_X1_meet_L60 (nI x) (nI y) (f + 1) (nI (aN a)) u = _
      have hc : pCount u = nI (aN a) := hc
      rw [f_X1_meet_L60, hc, if_pos (Int32.le_refl _)])
    (fun f j m u hj hu => by
      obtain ⟨hu, hm⟩ := hu
      obtain ⟨hc, -, -, -, hmk, -⟩ := id hu
      have hc : pCount u = nI (aN a) := hc
      have hon := (hw.2.2.1 j hj).2.2
      obtain ⟨-, -, q3⟩ := hmk j hj
      rw [gMtP_on] at q3
      show ∃ s', f_X1_meet_L60 (nI x) (nI y) (f + 1) (nI j) u = f_X1_meet_L60 (nI x) (nI y) f (nI (j + 1)) s' ∧ _
      rw [f_X1_meet_L60, hc, if_neg (nI_ge hj (by omega)), hm, has_t hs (by omega), gS_bit a x y hj]
      simp only [lj, nI_1]
      cases eg : gW a x y j with
      | false =>
        rw [if_pos (by rfl)]
        exact ⟨u, rfl, by rw [gMtP_no eg]; exact hu, hm⟩
      | true =>
        rw [if_neg (by decide), rdA_nI (by omega) (by decide), q3]
        have hq : (if aOn a j = x then y else x) < 8 := by split <;> assumption
        have hu2 := CV_on hu j (if aOn a j = x then y else x)
        have hw2 : WF (aSOn (gMtP a x y j) j (if aOn a j = x then y else x)) := WF_on (WF_MtP hw hx hy j) hq
        have hf := X1_fading hu2 hw2 (k := j) hj
        have hf : f_X1_fading (pSetOn u (upd (pOn u) j (nI (if aOn a j = x then y else x)))) (nI j) = some (gF a j) := hf
        have hi : pInk u j = nI (aInk a j) := by rw [(hmk j hj).2.1, gMtP_ink]
        have ew : f_X5_heldInk (nI (aInk a j) - gF a j) = nI (gCl (nI (aInk a j) - gF a j)) := by rw [held_eq]; exact (gCl_ok _).1
        refine ⟨pSetInk (pSetOn u (upd (pOn u) j (nI (if aOn a j = x then y else x)))) (upd (pInk u) j (nI (gCl (nI (aInk a j) - gF a j)))), ?_, ?_, hm⟩
        · rw [ite_eq (show aOn a j < 2 ^ 31 by omega) (show x < 2 ^ 31 by omega)]
          by_cases c : aOn a j = x
          · simp only [if_pos c] at hf ⊢
            rw [ckA_nI (show j < 8 by omega) (by decide), nI_clamp (show j < 2 ^ 31 by omega), rdA_nI (show j < 8 by omega) (by decide), hf, ob1_s, ckA_nI (show j < 8 by omega) (by decide)]
            show f_X1_meet_L60 (nI x) (nI y) f (nI (j + 1)) (pSetInk _ (upd (pInk u) j (f_X5_heldInk (pInk u j - gF a j)))) = _
            rw [hi, ew]
          · simp only [if_neg c] at hf ⊢
            rw [ckA_nI (show j < 8 by omega) (by decide), nI_clamp (show j < 2 ^ 31 by omega), rdA_nI (show j < 8 by omega) (by decide), hf, ob1_s, ckA_nI (show j < 8 by omega) (by decide)]
            show f_X1_meet_L60 (nI x) (nI y) f (nI (j + 1)) (pSetInk _ (upd (pInk u) j (f_X5_heldInk (pInk u j - gF a j)))) = _
            rw [hi, ew]
        · rw [gMtP_yes eg]
          exact CV_ink hu2 j _)
    (aN a) 0 N () s1 (by omega) (by omega) ⟨by rw [gMtP_0]; exact e2, e2b⟩
  refine ⟨s2, ?_, e4, e5⟩
  exact e1.trans e3
theorem nI_xor (a b : Nat) : nI a ^^^ nI b = nI (a ^^^ b) := by
  apply Int32.toBitVec_inj.mp
  show BitVec.ofNat 32 a ^^^ BitVec.ofNat 32 b = BitVec.ofNat 32 (a ^^^ b)
  simp
theorem fm6 {h : Nat} (hh : h < 2 ^ 31) : f_J9_floorMod_7cf53 (nI h) 6 = some (nI (h % 6)) := by
  have e : nI h - nI h / 6 * 6 = nI (h % 6) := pk_rem (d := 6) hh (by decide) (by decide)
  have ex : nI h ^^^ 6 = nI (h ^^^ 6) := nI_xor h 6
  have hx : h ^^^ 6 < 2 ^ 31 := Nat.xor_lt_two_pow hh (by decide)
  unfold f_J9_floorMod_7cf53
  rw [gdP_t (by decide)]
  simp only [lj]
  rw [e, ex, if_pos (show (0 : Int32) ≤ nI (h ^^^ 6) from nI_le (Nat.zero_le _) hx)]
def gB (a : AP) : AP := if aFi a (aH a % 6) = 0 then a else gMt a (aFi a (aH a % 6) - 1) (aSe a (aH a % 6) - 1)
def gPh (a : AP) : AP := aSH (gB a) (aH a + 1)
def gWs (a : AP) : Nat := if aFi a (aH a % 6) = 0 then 0 else gS a (aFi a (aH a % 6) - 1) (aSe a (aH a % 6) - 1)
theorem gPh_h (a : AP) : aH (gPh a) = aH a + 1 := rfl
theorem gPh_n (a : AP) : aN (gPh a) = aN a := by
  show aN (gB a) = aN a
  unfold gB
  split <;> rfl
theorem WF.two {a : AP} (h : WF a) {r : Nat} (hr : r < 6) (hf : ¬ aFi a r = 0) : aFi a r - 1 < 8 ∧ aSe a r - 1 < 8 ∧ ¬ aFi a r - 1 = aSe a r - 1 ∧ ¬ aSe a r = 0 := by
  have := h.2.2.2 r hr
  omega
theorem WF_B {a : AP} (h : WF a) : WF (gB a) := by
  unfold gB
  split
  · exact h
  · obtain ⟨h1, h2, -, -⟩ := h.two (Nat.mod_lt _ (by decide)) (by assumption)
    exact WF_MtP h h1 h2 _
theorem WF_Ph {a : AP} (h : WF a) : WF (gPh a) := WF_B h
theorem gWs_256 {a : AP} (h : WF a) : gWs a < 256 := by
  unfold gWs
  split
  · decide
  · exact gS_256 h _ _
theorem X1_passHour {N : Nat} {a : AP} {v : PV} (hv : CV a v) (hw : WF a) (hN : 9 ≤ N) (hh : aH a + 1 < 2 ^ 31) : ∃ v', f_X1_passHour N v = some v' ∧ CV (gPh a) v' ∧ pWent v' = nI (gWs a) := by
  obtain ⟨hc, hho, -, -, -, hp⟩ := id hv
  have hr : aH a % 6 < 6 := Nat.mod_lt _ (by decide)
  obtain ⟨p1, p2⟩ := hp _ hr
  have up : ∀ u : PV, CV (gB a) u → pWent u = nI (gWs a) → ∃ v', lj (pHour u + 1) (fun (t8 : Int32) => lj (pSetHour u t8) (fun (v9 : PV) => some v9)) = some v' ∧ CV (gPh a) v' ∧ pWent v' = nI (gWs a) := by
    intro u hu hm
    obtain ⟨g1, g2, g3, g4, g5, g6⟩ := hu
    have g2 : pHour u = nI (aH a) := by
      rw [g2]
      unfold gB
      split <;> rfl
    refine ⟨_, rfl, ⟨g1, ?_, g3, g4, g5, g6⟩, hm⟩
    show pHour u + 1 = nI (aH a + 1)
    rw [g2, nI_1]
  unfold f_X1_passHour f_X1_restNow
  rw [hho, fm6 (by omega), ob1_s, ob1_s]
  simp only [lj] at up ⊢
  rw [rdA_nI hr (by decide)]
  have p1' : pFirst (pSetWent v 0) (aH a % 6) = nI (aFi a (aH a % 6)) - 1 := p1
  rw [p1']
  by_cases hf : aFi a (aH a % 6) = 0
  · rw [hf, if_pos (by rfl)]
    exact up (pSetWent v 0) (by unfold gB; rw [if_pos hf]; exact hv) (by unfold gWs; rw [if_pos hf]; rfl)
  · obtain ⟨q1, q2, q3, q4⟩ := hw.two hr hf
    have nt : ∀ t, t < 8 → ¬ nI t = -1 := by decide
    rw [nI_pd hf, if_neg (nt _ q1), rdA_nI hr (by decide), rdA_nI hr (by decide), p1']
    have p2' : pSecond (pSetWent v 0) (aH a % 6) = nI (aSe a (aH a % 6)) - 1 := p2
    rw [p2', nI_pd hf, nI_pd q4]
    obtain ⟨u, e1, e2, e3⟩ := X1_meet (v := pSetWent v 0) hv hw hN (by omega) q1 q2
    rw [e1, ob1_s]
    exact up u (by unfold gB; rw [if_neg hf]; exact e2) (by unfold gWs; rw [if_neg hf]; exact e3)
/-! the model's hour -/
theorem X6_goingOver {N : Nat} {a : AP} {s : Nat → Int32} (hs : CM a s) (hw : WF a) (hN : 9 ≤ N) (hh : aH a < 2 ^ 31) {x y : Nat} (hx : x < 8) (hy : y < 8) : f_X6_goingOver N s (nI x) (nI y) = some (nI (gS a x y)) := by
  have hn : aN a ≤ 8 := hw.1
  have hc := hs.1
  obtain ⟨s', e1, e2⟩ := lpR (L := fun f i (c : Int32) => f_X6_goingOver_L5 N s (nI x) (nI y) f i c) (k := fun c => some c) (n := aN a) (fun _ c (s : Int32) => s = nI c) (fun j m => if gW a x y j = true then m ||| 2 ^ j else m)
    (fun f c z _ => by show f_X6_goingOver_L5 N s (nI x) (nI y) (f + 1) (nI (aN a)) z = _; rw [f_X6_goingOver_L5, hc, if_pos (Int32.le_refl _)])
    (fun f j c z hj hz => by
      subst hz
      have hon := (hw.2.2.1 j hj).2.2
      refine ⟨nI (if gW a x y j = true then c ||| 2 ^ j else c), ?_, rfl⟩
      show f_X6_goingOver_L5 N s (nI x) (nI y) (f + 1) (nI j) (nI c) = f_X6_goingOver_L5 N s (nI x) (nI y) f (nI (j + 1)) _
      rw [f_X6_goingOver_L5, hc, if_neg (nI_ge hj (by omega)), itsO hs hn hj, ob1_s]
      simp only [lj, nI_1, X6_goesTo hs hw hN hh hj hx, X6_goesTo hs hw hN hh hj hy, ob1_s, one_shl j (by omega), ite_eq (show aOn a j < 2 ^ 31 by omega) (show x < 2 ^ 31 by omega), ite_eq (show aOn a j < 2 ^ 31 by omega) (show y < 2 ^ 31 by omega), if_cg (bI_eq0 _)]
      unfold gW
      have z0 : nI c ||| (0 : Int32) = nI c := by rw [show (0 : Int32) = nI 0 from rfl, nI_or, Nat.or_zero]
      by_cases c1 : aOn a j = x
      · by_cases c2 : aOn a j = y
        · have c3 : x = y := c1.symm.trans c2
          subst c3
          cases c4 : gGo a j x <;> simp [c1, c4, z0, nI_or]
        · cases c4 : gGo a j y <;> simp [c1, c2, c4, z0, nI_or, show ¬ x = y from fun q => c2 (c1.trans q)]
      · rw [if_neg c1, if_neg c1]
        by_cases c2 : aOn a j = y
        · rw [if_pos c2, if_pos c2]
          cases c4 : gGo a j x
          · simp [z0]
          · simp [nI_or]
        · rw [if_neg c2, if_neg c2]
          simp [z0])
    (aN a) 0 N 0 0 (by omega) (by omega) rfl
  have e1 : f_X6_goingOver_L5 N s (nI x) (nI y) N 0 0 = some s' := e1
  unfold f_X6_goingOver
  rw [e1, e2]
  rfl
theorem X6_touches {N : Nat} {a : AP} {s : Nat → Int32} (hs : CM a s) (hw : WF a) (hN : 9 ≤ N) (hh : aH a < 2 ^ 31) {x y : Nat} (hx : x < 8) (hy : y < 8) : ∃ s', f_X6_touches N s (nI x) (nI y) = some (nI (gS a x y), s') ∧ CM (gMt a x y) s' := by
  have hn : aN a ≤ 8 := hw.1
  unfold f_X6_touches
  rw [X6_goingOver hs hw hN hh hx hy, ob1_s]
  have h2 := gS_256 hw x y
  obtain ⟨s2, e3, e4⟩ := lpR (L := fun f i (u : Nat → Int32) => f_X6_touches_L10 (nI x) (nI y) (nI (gS a x y)) f i u) (k := fun v2 => some (nI (gS a x y), v2)) (n := aN a) (fun j (_ : Unit) (u : Nat → Int32) => CM (gMtP a x y j) u) (fun _ m => m)
    (fun f m u hu => by
      have hc : u 0 = nI (aN a) := hu.1
      show f_X6_touches_L10 (nI x) (nI y) (nI (gS a x y)) (f + 1) (nI (aN a)) u = _
      rw [f_X6_touches_L10, hc, if_pos (Int32.le_refl _)])
    (fun f j m u hj hu => by
      have hc : u 0 = nI (aN a) := hu.1
      have hon := (hw.2.2.1 j hj).2.2
      have hww := WF_MtP hw hx hy j
      show ∃ s', f_X6_touches_L10 (nI x) (nI y) (nI (gS a x y)) (f + 1) (nI j) u = f_X6_touches_L10 (nI x) (nI y) (nI (gS a x y)) f (nI (j + 1)) s' ∧ _
      rw [f_X6_touches_L10, hc, if_neg (nI_ge hj (by omega)), bitI h2 (by omega), gS_bit a x y hj]
      simp only [lj, nI_1]
      cases eg : gW a x y j with
      | false =>
        rw [if_neg (by decide)]
        exact ⟨u, rfl, by rw [gMtP_no eg]; exact hu⟩
      | true =>
        have g1 : f_X6_its u (nI j) 1 = some (nI (aInk a j)) := by rw [itsI hu hn hj, gMtP_ink]
        have g2 : f_X6_fades u (nI j) = some (gF a j) := X6_fades hu hww hj
        rw [if_pos (by decide), g1, ob1_s, g2, ob1_s, (gCl_ok _).1]
        have hu2 := CM_ink hu j (gCl (nI (aInk a j) - gF a j))
        have hw2 : WF (aSInk (gMtP a x y j) j (gCl (nI (aInk a j) - gF a j))) := WF_ink hww (gCl_ok _).2
        have g3 : f_X6_its (upd u (19 + 3 * j + 1) (nI (gCl (nI (aInk a j) - gF a j)))) (nI j) 2 = some (nI (aOn a j)) := by rw [itsO hu2 hn hj]; exact congrArg (fun q => some (nI q)) (gMtP_on a x y j)
        rw [ixM, nI_1, nI_2, ckA_nI (show 19 + 3 * j + 1 < 43 by omega) (by decide), nI_clamp (show 19 + 3 * j + 1 < 2 ^ 31 by omega), g3, ob1_s]
        simp only [ckA_nI (show 19 + 3 * j + 2 < 43 by omega) (show 43 < 2 ^ 31 by decide), nI_clamp (show 19 + 3 * j + 2 < 2 ^ 31 by omega), ite_eq (show aOn a j < 2 ^ 31 by omega) (show x < 2 ^ 31 by omega)]
        refine ⟨upd (upd u (19 + 3 * j + 1) (nI (gCl (nI (aInk a j) - gF a j)))) (19 + 3 * j + 2) (nI (if aOn a j = x then y else x)), ?_, ?_⟩
        · split <;> rfl
        · rw [gMtP_yes eg]
          exact CM_on hu2 j _)
    (aN a) 0 N () s (by omega) (by omega) (by rw [gMtP_0]; exact hs)
  exact ⟨s2, e3, e4⟩
theorem X6_goesOn {N : Nat} {a : AP} {s : Nat → Int32} (hs : CM a s) (hw : WF a) (hN : 9 ≤ N) (hh : aH a + 1 < 2 ^ 31) : ∃ s', f_X6_goesOn N s = some (nI (gWs a), s') ∧ CM (gPh a) s' := by
  obtain ⟨hc, hho, -, -, -, hp⟩ := id hs
  have hr : aH a % 6 < 6 := Nat.mod_lt _ (by decide)
  obtain ⟨p1, p2⟩ := hp _ hr
  have er : nI (aH a) - nI (aH a) / 6 * 6 = nI (aH a % 6) := pk_rem (d := 6) (by omega) (by decide) (by decide)
  have i7 : (7 : Int32) + nI (aH a % 6) = nI (7 + aH a % 6) := nI_add 7 _
  have i13 : (13 : Int32) + nI (aH a % 6) = nI (13 + aH a % 6) := nI_add 13 _
  have up : ∀ u : Nat → Int32, CM (gB a) u → CM (gPh a) (upd u 1 (u 1 + 1)) := by
    intro u hu
    obtain ⟨g1, g2, g3, g4, g5, g6⟩ := hu
    have g2 : u 1 = nI (aH a) := by
      rw [g2]
      unfold gB
      split <;> rfl
    refine ⟨(upd_n (by decide)).trans g1, ?_, (upd_n (by decide)).trans g3, fun k hk => (upd_n (by omega)).trans (g4 k hk), fun k hk => ?_, fun r hr => ?_⟩
    · rw [upd_s, g2, nI_1]; rfl
    · obtain ⟨q1, q2, q3⟩ := g5 k hk
      exact ⟨(upd_n (by omega)).trans q1, (upd_n (by omega)).trans q2, (upd_n (by omega)).trans q3⟩
    · obtain ⟨q1, q2⟩ := g6 r hr
      exact ⟨(upd_n (by omega)).trans q1, fun q => (upd_n (by omega)).trans (q2 q)⟩
  unfold f_X6_goesOn
  simp only [lj]
  rw [hho, er, i7, i13, rdA_nI (show 7 + aH a % 6 < 43 by omega) (by decide), p1]
  by_cases hf : aFi a (aH a % 6) = 0
  · rw [hf, if_pos (by rfl)]
    refine ⟨_, ?_, up s (by unfold gB; rw [if_pos hf]; exact hs)⟩
    unfold gWs
    rw [if_pos hf, hho]
    rfl
  · obtain ⟨q1, q2, q3, q4⟩ := hw.two hr hf
    rw [if_neg (show ¬ nI (aFi a (aH a % 6)) = 0 from eq_n (b := 0) (by omega) (by decide) hf), rdA_nI (show 7 + aH a % 6 < 43 by omega) (by decide), rdA_nI (show 13 + aH a % 6 < 43 by omega) (by decide), p1, p2 hf, nI_pd hf, nI_pd q4]
    obtain ⟨u, e1, e2⟩ := X6_touches hs hw hN (by omega) q1 q2
    rw [e1, ob2_s]
    refine ⟨_, ?_, up u (by unfold gB; rw [if_neg hf]; exact e2)⟩
    unfold gWs
    rw [if_neg hf]
