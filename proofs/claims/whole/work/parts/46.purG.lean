/-! PURE 7: what is in range; single calls on both sides -/
theorem wn_c (x : Int32) {n : Nat} (hn : n < 2 ^ 30) : (f_X5_within x 0 (nI n - 1) = 0 ∧ (x < 0 ∨ nI n ≤ x)) ∨ ∃ j : Nat, j < n ∧ x = nI j ∧ f_X5_within x 0 (nI n - 1) = 1 := by
  have hs : (nI n - nI 1).toInt = (n : Int) - 1 := pk_sub_toInt hn (by decide)
  rcases pk_ix x (n := n) (by omega) with h | h | ⟨j, h1, h2⟩
  · left
    exact ⟨by unfold f_X5_within; rw [if_pos h], Or.inl h⟩
  · left
    refine ⟨?_, Or.inr h⟩
    unfold f_X5_within
    by_cases q : x < 0
    · rw [if_pos q]
    · rw [if_neg q]
      have : nI n - 1 < x := by
        rw [Int32.lt_iff_toInt_lt]
        rw [Int32.le_iff_toInt_le, nI_toInt (by omega)] at h
        show (nI n - nI 1).toInt < x.toInt
        omega
      rw [if_pos this]
  · right
    refine ⟨j, h1, h2, ?_⟩
    subst h2
    rw [nI_pd (by omega)]
    exact within_t (a := 0) (by omega) (by omega) (by omega)
theorem wl_c (x : Int32) (lo : Nat) {hi : Nat} (h : hi < 2 ^ 31) (hl : lo ≤ hi) : f_X5_within x (nI lo) (nI hi) = 0 ∨ ∃ k : Nat, lo ≤ k ∧ k ≤ hi ∧ x = nI k ∧ f_X5_within x (nI lo) (nI hi) = 1 := by
  by_cases q : f_X5_within x (nI lo) (nI hi) = 0
  · exact Or.inl q
  · right
    obtain ⟨h1, h2⟩ := within_of q
    have h0 : ¬ x < 0 := by
      intro z
      have : x < nI lo := by
        rw [Int32.lt_iff_toInt_lt] at z ⊢
        rw [nI_toInt (by omega)]
        have e0 : (0 : Int32).toInt = 0 := rfl
        rw [e0] at z
        omega
      exact absurd h1 (Int32.not_le.mpr this)
    obtain ⟨j, e1, e2⟩ := nI_of2 (n := hi) (nI_toInt h) h0 h2
    subst e2
    refine ⟨j, (nI_leI (by omega) (by omega)).mp h1, e1, rfl, within_t ((nI_leI (by omega) (by omega)).mp h1) e1 h⟩
theorem one_c (x : Int32) : (f_X5_isOne x = 0 ∧ f_X6_isPerson x = 0) ∨ ∃ j : Nat, j < 8 ∧ x = nI j ∧ f_X5_isOne x = 1 ∧ f_X6_isPerson x = 1 := by
  rcases wn_c x (n := 8) (by decide) with ⟨h, q⟩ | ⟨j, h1, h2, h3⟩
  · left
    refine ⟨h, ?_⟩
    unfold f_X6_isPerson
    by_cases z : x < 0
    · rw [if_pos z]
    · rw [if_neg z, if_pos (show (8 : Int32) ≤ x from q.resolve_left z)]
  · right
    refine ⟨j, h1, h2, h3, ?_⟩
    unfold f_X6_isPerson
    rw [h2, if_neg (show ¬ nI j < 0 from nI_nlt (a := j) (b := 0) (by omega) (by omega)), if_neg (show ¬ (8 : Int32) ≤ nI j from nI_ge h1 (by decide))]
theorem rest_c (x : Int32) : (f_X5_isRest x = 0 ∧ f_X6_isRest x = 0) ∨ ∃ j : Nat, j < 6 ∧ x = nI j ∧ f_X5_isRest x = 1 ∧ f_X6_isRest x = 1 := by
  rcases wn_c x (n := 6) (by decide) with ⟨h, q⟩ | ⟨j, h1, h2, h3⟩
  · left
    refine ⟨h, ?_⟩
    unfold f_X6_isRest
    by_cases z : x < 0
    · rw [if_pos z]
    · rw [if_neg z, if_pos (show (6 : Int32) ≤ x from q.resolve_left z)]
  · right
    refine ⟨j, h1, h2, h3, ?_⟩
    unfold f_X6_isRest
    rw [h2, if_neg (show ¬ nI j < 0 from nI_nlt (a := j) (b := 0) (by omega) (by omega)), if_neg (show ¬ (6 : Int32) ≤ nI j from nI_ge h1 (by decide))]
theorem mark_c {a : AP} {v : PV} {s : Nat → Int32} (hv : CV a v) (hs : CM a s) (hw : WF a) (x : Int32) : (f_X5_isMark v x = 0 ∧ f_X6_isOne s x = 0) ∨ ∃ j : Nat, j < aN a ∧ x = nI j ∧ f_X5_isMark v x = 1 ∧ f_X6_isOne s x = 1 := by
  have hn := hw.1
  unfold f_X5_isMark f_X6_isOne
  rw [hv.1, hs.1]
  rcases wn_c x (n := aN a) (by omega) with ⟨h, q⟩ | ⟨j, h1, h2, h3⟩
  · left
    refine ⟨h, ?_⟩
    by_cases z : x < 0
    · rw [if_pos z]
    · rw [if_neg z, if_pos (q.resolve_left z)]
  · right
    refine ⟨j, h1, h2, h3, ?_⟩
    rw [h2, if_neg (show ¬ nI j < 0 from nI_nlt (a := j) (b := 0) (by omega) (by omega)), if_neg (nI_ge h1 (by omega))]
theorem n10 : ¬ (1 : Int32) = 0 := by decide
theorem i03 (x : Int32) : f_X6_isIn x.toInt64 0 3 = f_X5_within x 0 3 := isIn_eq x 0 3
theorem i05 (x : Int32) : f_X6_isIn x.toInt64 0 5 = f_X5_within x 0 5 := isIn_eq x 0 5
theorem i099 (x : Int32) : f_X6_isIn x.toInt64 0 99 = f_X5_within x 0 99 := isIn_eq x 0 99
theorem i04 (x : Int32) : f_X6_isIn x.toInt64 0 4 = f_X5_within x 0 4 := isIn_eq x 0 4
theorem i01 (x : Int32) : f_X6_isIn x.toInt64 0 1 = f_X5_within x 0 1 := isIn_eq x 0 1
theorem i02 (x : Int32) : f_X6_isIn x.toInt64 0 2 = f_X5_within x 0 2 := isIn_eq x 0 2
theorem i08 (x : Int32) : f_X6_isIn x.toInt64 0 8 = f_X5_within x 0 8 := isIn_eq x 0 8
theorem i160 (x : Int32) : f_X6_isIn x.toInt64 1 60 = f_X5_within x 1 60 := isIn_eq x 1 60
theorem i130 (x : Int32) : f_X6_isIn x.toInt64 1 30 = f_X5_within x 1 30 := isIn_eq x 1 30
theorem i110 (x : Int32) : f_X6_isIn x.toInt64 1 10 = f_X5_within x 1 10 := isIn_eq x 1 10
theorem i18 (x : Int32) : f_X6_isIn x.toInt64 1 8 = f_X5_within x 1 8 := isIn_eq x 1 8
theorem i060 (x : Int32) : f_X6_isIn x.toInt64 0 60 = f_X5_within x 0 60 := isIn_eq x 0 60
theorem i030 (x : Int32) : f_X6_isIn x.toInt64 0 30 = f_X5_within x 0 30 := isIn_eq x 0 30
theorem i013 (x : Int32) : f_X6_isIn x.toInt64 0 13 = f_X5_within x 0 13 := isIn_eq x 0 13
theorem i69 (x : Int32) : f_X6_isIn x.toInt64 6 9 = f_X5_within x 6 9 := isIn_eq x 6 9
theorem im13 (x : Int32) : f_X6_isIn x.toInt64 (-1) 3 = f_X5_within x (-1) 3 := isIn_eq x (-1) 3
/-- two answers, one port behind them -/
def Y2 {α β : Type} (P : α → β → Prop) (c : Option (Int32 × α)) (m : Option (Int32 × β)) : Prop := ∃ (r : Int32) (x : α) (y : β), c = some (r, x) ∧ m = some (r, y) ∧ P x y
theorem Y2.mk {α β : Type} {P : α → β → Prop} {c : Option (Int32 × α)} {m : Option (Int32 × β)} (r : Int32) (x : α) (y : β) (h1 : c = some (r, x)) (h2 : m = some (r, y)) (h3 : P x y) : Y2 P c m := ⟨r, x, y, h1, h2, h3⟩
def RP (h : Nat) (v : PV) (s : Nat → Int32) : Prop := ∃ a : AP, CV a v ∧ CM a s ∧ WF a ∧ aH a ≤ h
theorem four_c {x : Nat} (h : x < 4) : x = 0 ∨ x = 1 ∨ x = 2 ∨ x = 3 := by omega
abbrev aSLaw (a : AP) (k x : Nat) : AP := (a.1, a.2.1, a.2.2.1, (fun j => if j = k then x else aLaw a j), a.2.2.2.2)
theorem CV_law {a : AP} {v : PV} (h : CV a v) (k x : Nat) : CV (aSLaw a k x) (pSetLaws v (upd (pLaws v) k (nI x))) := by
  obtain ⟨h1, h2, h3, h4, h5, h6⟩ := h
  refine ⟨h1, h2, h3, fun j hj => ?_, h5, h6⟩
  show upd (pLaws v) k (nI x) j = nI (if j = k then x else aLaw a j)
  by_cases e : j = k
  · rw [if_pos e, e, upd_s]
  · rw [if_neg e, upd_n e]; exact h4 j hj
theorem CM_law {a : AP} {s : Nat → Int32} (h : CM a s) {k : Nat} (hk : k < 4) (x : Nat) : CM (aSLaw a k x) (upd s (3 + k) (nI x)) := by
  obtain ⟨h1, h2, h3, h4, h5, h6⟩ := h
  refine ⟨(upd_n (by omega)).trans h1, (upd_n (by omega)).trans h2, (upd_n (by omega)).trans h3, fun j hj => ?_, fun j hj => ?_, fun r hr => ?_⟩
  · show _ = nI (if j = k then x else aLaw a j)
    by_cases e : j = k
    · rw [if_pos e, e, upd_s]
    · rw [if_neg e, upd_n (by omega)]; exact h4 j hj
  · obtain ⟨g1, g2, g3⟩ := h5 j hj
    exact ⟨(upd_n (by omega)).trans g1, (upd_n (by omega)).trans g2, (upd_n (by omega)).trans g3⟩
  · obtain ⟨g1, g2⟩ := h6 r hr
    exact ⟨(upd_n (by omega)).trans g1, fun q => (upd_n (by omega)).trans (g2 q)⟩
def lwMin (k : Nat) : Nat := if k = 0 then 1 else 0
def lwMax (k : Nat) : Nat := if k = 0 then 8 else if k = 3 then 99 else 9
theorem WF_law {a : AP} (h : WF a) {k x : Nat} (hk : k < 4) (h1 : lwMin k ≤ x) (h2 : x ≤ lwMax k) : WF (aSLaw a k x) := by
  obtain ⟨w1, ⟨l0, l1, l2, l3, l4⟩, w3, w4⟩ := h
  refine ⟨w1, ?_, w3, w4⟩
  show 1 ≤ (if 0 = k then x else aLaw a 0) ∧ (if 0 = k then x else aLaw a 0) ≤ 8 ∧ (if 1 = k then x else aLaw a 1) ≤ 9 ∧ (if 2 = k then x else aLaw a 2) ≤ 9 ∧ (if 3 = k then x else aLaw a 3) ≤ 99
  unfold lwMin at h1
  unfold lwMax at h2
  rcases four_c hk with rfl | rfl | rfl | rfl <;> simp at h1 h2 ⊢ <;> omega
theorem Y_set {h : Nat} {v : PV} {s : Nat → Int32} (hr : RP h v s) (x0 x1 : Int32) : Y2 (RP h) (f_X5_set v x0 x1) (f_X6_set s x0 x1) := by
  obtain ⟨a, hv, hs, hw, hh⟩ := hr
  unfold f_X5_set f_X6_set
  rw [i03]
  rcases wl_c x0 0 (hi := 3) (by decide) (by decide) with q | ⟨k, -, k3, rfl, q⟩
  · have q : f_X5_within x0 0 3 = 0 := q
    rw [if_pos q, if_pos q]
    exact Y2.mk _ _ _ rfl rfl ⟨a, hv, hs, hw, hh⟩
  · have q : f_X5_within (nI k) 0 3 = 1 := q
    have hk : k < 4 := by omega
    have t1 : tbLeast k = nI (lwMin k) := by rcases four_c hk with rfl | rfl | rfl | rfl <;> rfl
    have t2 : tbMost k = nI (lwMax k) := by rcases four_c hk with rfl | rfl | rfl | rfl <;> rfl
    have t3 : f_X6_mostOf (nI k) = nI (lwMax k) := by rcases four_c hk with rfl | rfl | rfl | rfl <;> rfl
    have t4 : lwMax k ≤ 99 ∧ lwMin k ≤ lwMax k := by rcases four_c hk with rfl | rfl | rfl | rfl <;> decide
    have t5 : (if nI k = 0 then (1 : Int64) else 0) = (nI (lwMin k)).toInt64 := by rcases four_c hk with rfl | rfl | rfl | rfl <;> rfl
    rw [q, if_neg n10, if_neg n10]
    simp only [rdA_nI hk (show 4 < 2 ^ 31 by decide), t1, t2, t3, lj]
    have sw : ∀ (F : Int64 → Option (Int32 × (Nat → Int32))), (if nI k = 0 then F 1 else F 0) = F (if nI k = 0 then (1 : Int64) else 0) := fun F => by split <;> rfl
    rw [sw (fun k3 => if f_X6_isIn x1.toInt64 k3 (nI (lwMax k)).toInt64 = 0 then some (-1, s) else ob2 (f_X6_becomes s (3 + nI k) x1) (fun r7 v8 => some (r7, v8))), t5, isIn_eq]
    rcases wl_c x1 (lwMin k) (hi := lwMax k) (by omega) t4.2 with p | ⟨x, p1, p2, rfl, p⟩
    · rw [if_pos p, if_pos p]
      exact Y2.mk _ _ _ rfl rfl ⟨a, hv, hs, hw, hh⟩
    · rw [p, if_neg n10, if_neg n10, ckA_nI hk (by decide), nI_clamp (by omega)]
      have g1 : pLaws v k = nI (aLaw a k) := hv.2.2.2.1 k hk
      have g2 : s (3 + k) = nI (aLaw a k) := hs.2.2.2.1 k hk
      unfold f_X6_becomes
      rw [show (3 : Int32) + nI k = nI (3 + k) from nI_add 3 k, rdA_nI (show 3 + k < 43 by omega) (by decide), ckA_nI (show 3 + k < 43 by omega) (by decide), nI_clamp (by omega), g1, g2]
      exact Y2.mk _ _ _ rfl rfl ⟨aSLaw a k x, CV_law hv k x, CM_law hs hk x, WF_law hw hk p1 p2, hh⟩
theorem Y_lawOf {h : Nat} {v : PV} {s : Nat → Int32} (hr : RP h v s) (x0 : Int32) : ∃ r, f_X5_lawOf v x0 = some r ∧ f_X6_lawOf s x0 = some r := by
  obtain ⟨a, hv, hs, hw, hh⟩ := hr
  unfold f_X5_lawOf f_X6_lawOf
  rw [i03]
  rcases wl_c x0 0 (hi := 3) (by decide) (by decide) with q | ⟨k, -, k3, rfl, q⟩
  · have q : f_X5_within x0 0 3 = 0 := q
    rw [if_pos q, if_pos q]
    exact ⟨_, rfl, rfl⟩
  · have q : f_X5_within (nI k) 0 3 = 1 := q
    have hk : k < 4 := by omega
    have g1 : pLaws v k = nI (aLaw a k) := hv.2.2.2.1 k hk
    have g2 : s (3 + k) = nI (aLaw a k) := hs.2.2.2.1 k hk
    rw [q, if_neg n10, if_neg n10, rdA_nI hk (by decide), show (3 : Int32) + nI k = nI (3 + k) from nI_add 3 k, rdA_nI (show 3 + k < 43 by omega) (by decide), g1, g2]
    exact ⟨_, rfl, rfl⟩
def aAdd (a : AP) (k i o : Nat) : AP := (aN a + 1, aH a, aZ a, aLaw a, (fun j => if j = aN a then k else aKind a j), (fun j => if j = aN a then i else aInk a j), (fun j => if j = aN a then o else aOn a j), aFi a, aSe a)
theorem WF_add {a : AP} (h : WF a) (hn : aN a < 8) {k i o : Nat} (hk : k < 6) (hi : i ≤ 99) (ho : o < 8) : WF (aAdd a k i o) := by
  obtain ⟨h1, h2, h3, h4⟩ := h
  refine ⟨hn, h2, fun j hj => ?_, h4⟩
  have hj : j < aN a + 1 := hj
  show (if j = aN a then k else aKind a j) < 6 ∧ (if j = aN a then i else aInk a j) ≤ 99 ∧ (if j = aN a then o else aOn a j) < 8
  by_cases e : j = aN a
  · rw [if_pos e, if_pos e, if_pos e]; exact ⟨hk, hi, ho⟩
  · rw [if_neg e, if_neg e, if_neg e]; exact h3 j (by omega)
theorem X1_add {a : AP} {v : PV} (hv : CV a v) (hw : WF a) {k i o : Nat} : (aN a < 8 → ∃ v', f_X1_add v (nI k) (nI i) (nI o) = some (1, v') ∧ CV (aAdd a k i o) v') ∧ (¬ aN a < 8 → f_X1_add v (nI k) (nI i) (nI o) = some (0, v)) := by
  obtain ⟨h1, h2, h3, h4, h5, h6⟩ := hv
  have hn := hw.1
  unfold f_X1_add
  simp only [lj]
  rw [h1]
  refine ⟨fun q => ?_, fun q => ?_⟩
  · rw [if_pos (show nI (aN a) < 8 from nI_lt (b := 8) q (by decide)), ckA_nI q (by decide), ckA_nI q (by decide), ckA_nI q (by decide), nI_clamp (by omega), nI_1]
    refine ⟨_, rfl, rfl, h2, h3, h4, fun j hj => ?_, h6⟩
    have hj : j < aN a + 1 := hj
    show upd (pKind v) (aN a) (nI k) j = nI (if j = aN a then k else aKind a j) ∧ upd (pInk v) (aN a) (nI i) j = nI (if j = aN a then i else aInk a j) ∧ upd (pOn v) (aN a) (nI o) j = nI (if j = aN a then o else aOn a j)
    by_cases e : j = aN a
    · rw [if_pos e, if_pos e, if_pos e, e, upd_s, upd_s, upd_s]; exact ⟨rfl, rfl, rfl⟩
    · rw [if_neg e, if_neg e, if_neg e, upd_n e, upd_n e, upd_n e]; exact h5 j (by omega)
  · rw [if_neg (show ¬ nI (aN a) < 8 from nI_nlt (b := 8) (by omega) (by omega))]
theorem X6_comes0 {a : AP} {s : Nat → Int32} (hs : CM a s) (hn : aN a < 8) (k i o : Nat) : ∃ s', f_X6_comes0 s (nI k) (nI i) (nI o) = some s' ∧ CM (aAdd a k i o) s' := by
  obtain ⟨h1, h2, h3, h4, h5, h6⟩ := hs
  unfold f_X6_comes0
  simp only [lj]
  rw [h1, ixM, nI_1, nI_2, ckA_nI (show 19 + 3 * aN a < 43 by omega) (by decide), ckA_nI (show 19 + 3 * aN a + 1 < 43 by omega) (by decide), ckA_nI (show 19 + 3 * aN a + 2 < 43 by omega) (by decide), nI_clamp (by omega), nI_clamp (by omega), nI_clamp (by omega)]
  have e0 : (upd (upd (upd s (19 + 3 * aN a) (nI k)) (19 + 3 * aN a + 1) (nI i)) (19 + 3 * aN a + 2) (nI o)) 0 = nI (aN a) := by rw [upd_n (by omega), upd_n (by omega), upd_n (by omega), h1]
  rw [e0, nI_1]
  refine ⟨_, rfl, upd_s, ?_, ?_, fun j hj => ?_, fun j hj => ?_, fun r hr => ?_⟩
  · rw [upd_n (by omega), upd_n (by omega), upd_n (by omega), upd_n (by omega)]; exact h2
  · rw [upd_n (by omega), upd_n (by omega), upd_n (by omega), upd_n (by omega)]; exact h3
  · rw [upd_n (by omega), upd_n (by omega), upd_n (by omega), upd_n (by omega)]; exact h4 j hj
  · have hj : j < aN a + 1 := hj
    show _ = nI (if j = aN a then k else aKind a j) ∧ _ = nI (if j = aN a then i else aInk a j) ∧ _ = nI (if j = aN a then o else aOn a j)
    by_cases e : j = aN a
    · subst e
      rw [if_pos rfl, if_pos rfl, if_pos rfl]
      refine ⟨?_, ?_, ?_⟩
      · rw [upd_n (by omega), upd_n (by omega), upd_n (by omega), upd_s]
      · rw [upd_n (by omega), upd_n (by omega), upd_s]
      · rw [upd_n (by omega), upd_s]
    · rw [if_neg e, if_neg e, if_neg e]
      obtain ⟨g1, g2, g3⟩ := h5 j (by omega)
      refine ⟨?_, ?_, ?_⟩
      · rw [upd_n (by omega), upd_n (by omega), upd_n (by omega), upd_n (by omega)]; exact g1
      · rw [upd_n (by omega), upd_n (by omega), upd_n (by omega), upd_n (by omega)]; exact g2
      · rw [upd_n (by omega), upd_n (by omega), upd_n (by omega), upd_n (by omega)]; exact g3
  · obtain ⟨g1, g2⟩ := h6 r hr
    refine ⟨?_, fun q => ?_⟩
    · rw [upd_n (by omega), upd_n (by omega), upd_n (by omega), upd_n (by omega)]; exact g1
    · rw [upd_n (by omega), upd_n (by omega), upd_n (by omega), upd_n (by omega)]; exact g2 q
theorem Y_mark {h : Nat} {v : PV} {s : Nat → Int32} (hr : RP h v s) (x0 x1 x2 : Int32) : Y2 (RP h) (f_X5_mark v x0 x1 x2) (f_X6_mark s x0 x1 x2) := by
  obtain ⟨a, hv, hs, hw, hh⟩ := hr
  have hn := hw.1
  unfold f_X5_mark f_X6_mark f_X5_isKind f_X5_isInk
  rw [i05, i099]
  have no : Y2 (RP h) (some (-1, v)) (some (-1, s)) := Y2.mk _ _ _ rfl rfl ⟨a, hv, hs, hw, hh⟩
  rcases wl_c x0 0 (hi := 5) (by decide) (by decide) with q | ⟨k, -, k3, rfl, q⟩
  · have q : f_X5_within x0 0 5 = 0 := q
    rw [if_pos q, if_pos q]; exact no
  · have q : f_X5_within (nI k) 0 5 = 1 := q
    rw [q, if_neg n10, if_neg n10]
    rcases wl_c x1 0 (hi := 99) (by decide) (by decide) with p | ⟨i, -, i3, rfl, p⟩
    · have p : f_X5_within x1 0 99 = 0 := p
      rw [if_pos p, if_pos p]; exact no
    · have p : f_X5_within (nI i) 0 99 = 1 := p
      rw [p, if_neg n10, if_neg n10]
      rcases one_c x2 with ⟨p1, p2⟩ | ⟨o, o8, rfl, p1, p2⟩
      · rw [if_pos p1, if_pos p2]; exact no
      · rw [p1, p2, if_neg n10, if_neg n10, hs.1]
        by_cases n8 : aN a < 8
        · obtain ⟨v', e1, e2⟩ := (X1_add hv hw (k := k) (i := i) (o := o)).1 n8
          obtain ⟨s', e3, e4⟩ := X6_comes0 hs n8 k i o
          rw [if_neg (show ¬ nI (aN a) = 8 from eq_n (b := 8) (by omega) (by decide) (by omega)), e1, ob2_s, if_neg n10, e3, ob1_s]
          simp only [lj]
          rw [e2.1, e4.1]
          exact Y2.mk _ _ _ rfl rfl ⟨_, e2, e4, WF_add hw n8 (by omega) i3 o8, hh⟩
        · have e1 := (X1_add hv hw (k := k) (i := i) (o := o)).2 n8
          rw [if_pos (show nI (aN a) = 8 from by rw [show aN a = 8 by omega]; rfl), e1, ob2_s, if_pos rfl]
          exact Y2.mk _ _ _ rfl rfl ⟨a, hv, hs, hw, hh⟩
