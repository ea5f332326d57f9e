/-! PURE 28: the model's tokens; words -/
def bt (b : Nat → Nat) (n i : Nat) : Int32 := if i < n then nI (b i) else -1
theorem m_at {b : Nat → Nat} {n : Nat} {tm : Nat → Int32} {l : Int32} (h : TM b n tm l) {i : Nat} (hi : i < 1000) : f_X6_byteAt tm l (nI i) = some (bt b n i) := by
  obtain ⟨h1, h2, h3⟩ := h
  unfold f_X6_byteAt bt
  rw [h2]
  by_cases q : i < n
  · rw [if_neg (nI_ge q (by omega)), if_pos q, rdA_nI (by omega) (by decide), (h3 i q).2]
  · rw [if_pos (nI_le (by omega) (by omega)), if_neg q]
theorem bt_in {b : Nat → Nat} {n i : Nat} (h : i < n) : bt b n i = nI (b i) := if_pos h
theorem bt_out {b : Nat → Nat} {n i : Nat} (h : ¬ i < n) : bt b n i = -1 := if_neg h
theorem M_L8 {b : Nat → Nat} {n : Nat} {tm : Nat → Int32} {l : Int32} (h : TM b n tm l) (k : Int32 → Option (Int32 × Int32 × Int32 × Int32)) : ∀ (d i f : Nat), i + d = n → d < f → f_X6_nextToken_L8 tm l k f (nI i) = k (nI (rnN (isBk b) d i)) := by
  have hn := h.1
  intro d
  induction d with
  | zero =>
    intro i f hi hf
    obtain ⟨f, rfl⟩ : ∃ f', f = f' + 1 := ⟨f - 1, by omega⟩
    rw [f_X6_nextToken_L8, m_at h (by omega), bt_out (by omega), ob1_s, if_neg (by decide)]
    rfl
  | succ d ih =>
    intro i f hi hf
    obtain ⟨f, rfl⟩ : ∃ f', f = f' + 1 := ⟨f - 1, by omega⟩
    have g1 := (h.2.2 i (by omega)).1
    rw [f_X6_nextToken_L8, m_at h (by omega), bt_in (by omega), ob1_s, rnN]
    by_cases q : b i = 32
    · rw [if_pos (show nI (b i) = 32 by rw [q]; rfl), if_pos (show isBk b i = true from decide_eq_true q), lj_s, nI_1]
      exact ih (i + 1) f (by omega) (by omega)
    · rw [if_neg (show ¬ nI (b i) = 32 from eq_n (b := 32) (by omega) (by decide) q), if_neg (show ¬ isBk b i = true by unfold isBk; simpa using q)]
theorem M_L91 {b : Nat → Nat} {n : Nat} {tm : Nat → Int32} {l : Int32} (h : TM b n tm l) (k : Int32 → Option (Int32 × Int32 × Int32 × Int32)) : ∀ (d i f : Nat), i + d = n → d < f → f_X6_nextToken_L91 tm l 1 k f (nI i) = k (nI (rnN (fun i => isLt (b i)) d i)) := by
  have hn := h.1
  intro d
  induction d with
  | zero =>
    intro i f hi hf
    obtain ⟨f, rfl⟩ : ∃ f', f = f' + 1 := ⟨f - 1, by omega⟩
    rw [f_X6_nextToken_L91, if_pos rfl, m_at h (by omega), bt_out (by omega), ob1_s, if_pos (by decide)]
    rfl
  | succ d ih =>
    intro i f hi hf
    obtain ⟨f, rfl⟩ : ∃ f', f = f' + 1 := ⟨f - 1, by omega⟩
    have g1 := (h.2.2 i (by omega)).1
    rw [f_X6_nextToken_L91, if_pos rfl, m_at h (by omega), bt_in (by omega), ob1_s, ml_l _ g1, bI_if, rnN]
    by_cases q : isLt (b i) = true
    · rw [if_pos q, if_pos q, lj_s, nI_1]
      exact ih (i + 1) f (by omega) (by omega)
    · rw [if_neg q, if_neg q]
theorem M_L126 {b : Nat → Nat} {n : Nat} {tm : Nat → Int32} {l : Int32} (h : TM b n tm l) (k : Int32 → Int32 → Option (Int32 × Int32 × Int32 × Int32)) : ∀ (d i f : Nat) (x : Int32), i + d = n → d < f → ∃ y, f_X6_nextToken_L126 tm l 2 k f (nI i) x = k (nI (rnN (fun i => isDt (b i)) d i)) y ∧ ∀ a g : Nat, x = nI a → a < 10 ^ g → g + (rnN (fun i => isDt (b i)) d i - i) ≤ 3 → y = nI (numN b (rnN (fun i => isDt (b i)) d i - i) i a) := by
  have hn := h.1
  intro d
  induction d with
  | zero =>
    intro i f x hi hf
    obtain ⟨f, rfl⟩ : ∃ f', f = f' + 1 := ⟨f - 1, by omega⟩
    refine ⟨x, ?_, fun a g e _ _ => ?_⟩
    · rw [f_X6_nextToken_L126, if_pos rfl, m_at h (by omega), bt_out (by omega), ob1_s, if_pos (by decide)]
      rfl
    · show x = nI (numN b (i - i) i a)
      rw [Nat.sub_self]
      exact e
  | succ d ih =>
    intro i f x hi hf
    obtain ⟨f, rfl⟩ : ∃ f', f = f' + 1 := ⟨f - 1, by omega⟩
    have g1 := (h.2.2 i (by omega)).1
    rw [f_X6_nextToken_L126, if_pos rfl, m_at h (by omega), bt_in (by omega), ob1_s, ml_d _ g1, bI_if, rnN]
    by_cases q : isDt (b i) = true
    · obtain ⟨q1, q2⟩ := isDt_r q
      rw [if_pos q, if_pos q, lj_s]
      obtain ⟨y, e1, e2⟩ := ih (i + 1) f (if x ≤ 999 then 10 * x + nI (b i) - 48 else x) (by omega) (by omega)
      refine ⟨y, ?_, fun a g ex ha hg => ?_⟩
      · by_cases z : x ≤ 999
        · rw [if_pos z] at e1
          rw [if_pos z, ob1_s]
          show lj (nI i + 1) (fun t25 => f_X6_nextToken_L126 tm l 2 k f t25 (10 * x + nI (b i) - 48)) = _
          rw [lj_s, nI_1]
          exact e1
        · rw [if_neg z] at e1
          rw [if_neg z]
          show lj (nI i + 1) (fun t25 => f_X6_nextToken_L126 tm l 2 k f t25 x) = _
          rw [lj_s, nI_1]
          exact e1
      · have gt : i + 1 ≤ rnN (fun i => isDt (b i)) d (i + 1) := rnN_ge _ _ _
        have p2 : (10 : Nat) ^ g ≤ 10 ^ 2 := Nat.pow_le_pow_right (by decide) (by omega)
        have a9 : a < 100 := Nat.lt_of_lt_of_le ha p2
        have ev : 10 * nI a + nI (b i) - 48 = nI (10 * a + b i - 48) := by
          show nI 10 * nI a + nI (b i) - nI 48 = _
          rw [pk_mul, nI_add, pk_sub (by omega)]
        have z : x ≤ 999 := by rw [ex]; exact nI_le (b := 999) (by omega) (by decide)
        rw [if_pos z] at e2
        have r := e2 (10 * a + b i - 48) (g + 1) (by rw [ex]; exact ev) (by rw [Nat.pow_succ]; omega) (by omega)
        rw [r, show rnN (fun i => isDt (b i)) d (i + 1) - i = (rnN (fun i => isDt (b i)) d (i + 1) - (i + 1)) + 1 by omega]
        rfl
    · rw [if_neg q, if_neg q]
      refine ⟨x, rfl, fun a g e _ _ => ?_⟩
      rw [Nat.sub_self]
      exact e
def mx3 (N : Nat) (tm : Nat → Int32) (l v1 k5 : Int32) : Option (Int32 × Int32 × Int32 × Int32) := f_X6_nextToken_L91 tm l k5 (fun v7 => f_X6_nextToken_L126 tm l k5 (fun v9 v10 => if k5 ≤ 2 then some (k5, v1, v9 + 0, v10) else some (k5, v1, v9 + 1, v10)) N v7 0) N v1
theorem mx2_e (N : Nat) (tm : Nat → Int32) (l tok fr to val : Int32) : f_X6_nextToken N tm l tok fr to val = f_X6_nextToken_L8 tm l (fun v1 => ob1 (f_X6_byteAt tm l v1) (fun r3 => if 0 ≤ r3 then if (f_X6_isAlpha r3) = 0 then if (f_X6_isDigit r3) = 0 then mx3 N tm l v1 3 else mx3 N tm l v1 2 else mx3 N tm l v1 1 else mx3 N tm l v1 0)) N to := rfl
theorem M_L91n {tm : Nat → Int32} {l : Int32} {N : Nat} (hN : 500 ≤ N) {k5 : Int32} (h : ¬ k5 = 1) (k : Int32 → Option (Int32 × Int32 × Int32 × Int32)) (x : Int32) : f_X6_nextToken_L91 tm l k5 k N x = k x := by
  obtain ⟨N, rfl⟩ : ∃ f', N = f' + 1 := ⟨N - 1, by omega⟩
  rw [f_X6_nextToken_L91, if_neg h]
theorem M_L126n {tm : Nat → Int32} {l : Int32} {N : Nat} (hN : 500 ≤ N) {k5 : Int32} (h : ¬ k5 = 2) (k : Int32 → Int32 → Option (Int32 × Int32 × Int32 × Int32)) (x y : Int32) : f_X6_nextToken_L126 tm l k5 k N x y = k x y := by
  obtain ⟨N, rfl⟩ : ∃ f', N = f' + 1 := ⟨N - 1, by omega⟩
  rw [f_X6_nextToken_L126, if_neg h]
theorem M_next {b : Nat → Nat} {n p N : Nat} (hN : 500 ≤ N) (hp : p ≤ n) {tm : Nat → Int32} {l : Int32} (h : TM b n tm l) (tok fr val : Int32) : ∃ y, f_X6_nextToken N tm l tok fr (nI p) val = some (nI (tT b n p), nI (tS b n p), nI (tE b n p), y) ∧ (tT b n p = 2 → tE b n p - tS b n p ≤ 3 → y = tV b n p) := by
  have hn := h.1
  have hsn := tS_le b hp
  have e0 : rnN (isBk b) (n - p) p = tS b n p := rfl
  rw [mx2_e, M_L8 h _ (n - p) p N (by omega) (by omega), e0]
  show ∃ y, ob1 (f_X6_byteAt tm l (nI (tS b n p))) _ = _ ∧ _
  rw [m_at h (by omega), ob1_s]
  by_cases q : tS b n p < n
  · have g1 := (h.2.2 _ q).1
    rw [bt_in q, if_pos (nI_pos' (by omega)), ml_l _ g1, bI_if, ml_d _ g1, bI_if]
    by_cases lt : isLt (b (tS b n p)) = true
    · have hT : tT b n p = 1 := by unfold tT; rw [if_pos q, if_pos lt]
      have hE : tE b n p = rnN (fun i => isLt (b i)) (n - tS b n p) (tS b n p) := by unfold tE; rw [if_pos hT]
      rw [if_pos lt]
      unfold mx3
      rw [M_L91 h _ (n - tS b n p) (tS b n p) N (by omega) (by omega), M_L126n hN (by decide), ← hE, hT, if_pos (by decide), Int32.add_zero]
      exact ⟨_, rfl, fun z => by cases z⟩
    · rw [if_neg lt]
      by_cases dg : isDt (b (tS b n p)) = true
      · have hT : tT b n p = 2 := by unfold tT; rw [if_pos q, if_neg lt, if_pos dg]
        have hE : tE b n p = rnN (fun i => isDt (b i)) (n - tS b n p) (tS b n p) := by unfold tE; rw [hT]; rfl
        rw [if_pos dg]
        unfold mx3
        rw [M_L91n hN (by decide)]
        obtain ⟨y, e1, e2⟩ := M_L126 h (fun v9 v10 => if (2 : Int32) ≤ 2 then some (2, nI (tS b n p), v9 + 0, v10) else some (2, nI (tS b n p), v9 + 1, v10)) (n - tS b n p) (tS b n p) N 0 (by omega) (by omega)
        rw [e1, ← hE, hT, if_pos (by decide), Int32.add_zero]
        refine ⟨y, rfl, fun _ z => ?_⟩
        rw [← hE] at e2
        have r := e2 0 0 rfl (by decide) (by omega)
        rw [r]
        unfold tV
        rw [if_pos z]
      · have hT : tT b n p = 3 := by unfold tT; rw [if_pos q, if_neg lt, if_neg dg]
        have hE : tE b n p = tS b n p + 1 := by unfold tE; rw [hT]; rfl
        rw [if_neg dg]
        unfold mx3
        rw [M_L91n hN (by decide), M_L126n hN (by decide), hE, hT, if_neg (by decide), nI_1]
        exact ⟨_, rfl, fun z => by cases z⟩
  · have hT : tT b n p = 0 := by unfold tT; rw [if_neg q]
    have hE : tE b n p = tS b n p := by unfold tE; rw [hT]; rfl
    rw [bt_out q, if_neg (by decide)]
    unfold mx3
    rw [M_L91n hN (by decide), M_L126n hN (by decide), hE, hT, if_pos (by decide), Int32.add_zero]
    exact ⟨_, rfl, fun z => by cases z⟩
/-! words -/
def stN (w : Nat) : List Nat := ([[109, 97, 114, 107], [115, 104, 105, 112], [115, 110, 97, 107, 101], [97, 110, 99, 104, 111, 114], [100, 114, 97, 103, 111, 110], [110, 97, 109, 101], [111, 110], [105, 110, 107], [116, 111, 117, 99, 104], [119, 105, 116, 104], [108, 111, 97, 100], [102, 97, 100, 101], [116, 105, 100, 101], [99, 104, 97, 110, 99, 101]] : List (List Nat)).getD w []
def wdm (b : Nat → Nat) (s : Nat) : List Nat → Nat → Bool
  | [], _ => true
  | c :: cs, k => decide (b (s + k) = c) && wdm b s cs (k + 1)
def wd (b : Nat → Nat) (n p w : Nat) : Bool := decide (tT b n p = 1) && (decide (tE b n p - tS b n p = (stN w).length) && wdm b (tS b n p) (stN w) 0)
theorem st_len : ∀ w, w < 14 → stLen w = nI (stN w).length ∧ stL.getD w 0 = (stN w).length ∧ (stN w).length ≤ 6 := by decide +kernel
theorem st_ch : ∀ w, w < 14 → ∀ j, j < (stN w).length → stCh w j = nI ((stN w).getD j 0) ∧ (stN w).getD j 0 < 128 ∧ (stN w).drop j = (stN w).getD j 0 :: (stN w).drop (j + 1) := by decide +kernel
theorem C_L28 {b : Nat → Nat} {n S w : Nat} {v : TV} (hw : w < 14) (hc : TC b n v) (hs : tpStart v = nI S) (hS : S + (stN w).length ≤ n) : ∀ (d j f : Nat), j + d = (stN w).length → d < f → f_X4_isWord_L28 v w f (nI j) = some (bI (wdm b S ((stN w).drop j) j)) := by
  obtain ⟨h1, h2, h3⟩ := hc
  obtain ⟨l1, l2, l6⟩ := st_len w hw
  intro d
  induction d with
  | zero =>
    intro j f hj hf
    obtain ⟨f, rfl⟩ : ∃ f', f = f' + 1 := ⟨f - 1, by omega⟩
    rw [f_X4_isWord_L28, l1, if_pos (nI_le (by omega) (by omega)), List.drop_eq_nil_of_le (by omega)]
    rfl
  | succ d ih =>
    intro j f hj hf
    obtain ⟨f, rfl⟩ : ∃ f', f = f' + 1 := ⟨f - 1, by omega⟩
    obtain ⟨k1, k2, k3⟩ := st_ch w hw j (by omega)
    obtain ⟨g1, g2⟩ := h3 (S + j) (by omega)
    rw [f_X4_isWord_L28, l1, if_neg (nI_ge (by omega) (by omega)), hs, nI_add, rdA_nI (by omega) (by decide), g2, l2, rdA_nI (by omega) (by omega), k1, k3]
    show _ = some (bI (decide (b (S + j) = (stN w).getD j 0) && wdm b S ((stN w).drop (j + 1)) (j + 1)))
    by_cases q : b (S + j) = (stN w).getD j 0
    · rw [if_pos ((sgn_eq g1 k2).mpr q), lj_s, nI_1, ih (j + 1) f (by omega) (by omega), decide_eq_true q, Bool.true_and]
    · rw [if_neg (fun z => q ((sgn_eq g1 k2).mp z)), decide_eq_false q, Bool.false_and]
      rfl
theorem C_isWord {b : Nat → Nat} {n p N w : Nat} (hN : 500 ≤ N) (hw : w < 14) {v : TV} (h : CT b n p v) : f_X4_isWord N v w = some (bI (wd b n p w)) := by
  obtain ⟨hp, hc, h1, h2, h3, h4⟩ := h
  obtain ⟨b1, b2, b3⟩ := tE_b b hp
  have hn := hc.1
  obtain ⟨l1, l2, l6⟩ := st_len w hw
  have t3 := tT_3 b n p
  unfold f_X4_isWord wd
  rw [h1, h2, h3, l1, pk_sub b1]
  by_cases q : tT b n p = 1
  · rw [if_pos (show nI (tT b n p) = 1 by rw [q]; rfl), decide_eq_true q, Bool.true_and]
    by_cases z : tE b n p - tS b n p = (stN w).length
    · rw [if_pos (by rw [z]), decide_eq_true z, Bool.true_and]
      exact C_L28 hw hc h2 (by omega) (stN w).length 0 N (by omega) (by omega)
    · rw [if_neg (eq_n (by omega) (by omega) z), decide_eq_false z, Bool.false_and]
      rfl
  · rw [if_neg (show ¬ nI (tT b n p) = 1 from eq_n (b := 1) (by omega) (by decide) q), decide_eq_false q, Bool.false_and]
    rfl
/-- the model's name of so many letters, by its three first ones and its last one -/
theorem M_name {b : Nat → Nat} {n p : Nat} (hp : p ≤ n) {tm : Nat → Int32} {l : Int32} (h : TM b n tm l) {L c1 c2 c3 c4 : Nat} (hL : 3 ≤ L) (hL2 : L < 100) (k1 : c1 < 128) (k2 : c2 < 128) (k3 : c3 < 128) (k4 : c4 < 128) : f_X6_isName tm l (nI (tT b n p)) (nI (tS b n p)) (nI (tE b n p)) (nI L) (nI c1) (nI c2) (nI c3) (nI c4) = some (bI (decide (tT b n p = 1) && (decide (tE b n p - tS b n p = L) && (decide (b (tS b n p) = c1) && (decide (b (tS b n p + 1) = c2) && (decide (b (tS b n p + 2) = c3) && decide (b (tS b n p + (L - 1)) = c4))))))) := by
  obtain ⟨b1, b2, b3⟩ := tE_b b hp
  have hn := h.1
  have t3 := tT_3 b n p
  unfold f_X6_isName
  by_cases q : tT b n p = 1
  · rw [if_pos (show nI (tT b n p) = 1 by rw [q]; rfl), decide_eq_true q, Bool.true_and, pk_sub b1]
    by_cases z : tE b n p - tS b n p = L
    · rw [if_pos (by rw [z]), decide_eq_true z, Bool.true_and]
      have e1 : nI (tE b n p) - 1 = nI (tS b n p + (L - 1)) := by
        rw [show tE b n p = (tS b n p + (L - 1)) + 1 by omega]
        exact nI_pred _
      rw [e1, nI_1, nI_2, m_at h (by omega), m_at h (by omega), m_at h (by omega), m_at h (by omega), bt_in (by omega), bt_in (by omega), bt_in (by omega), bt_in (by omega), ob1_s, ob1_s, ob1_s, ob1_s]
      have g1 := (h.2.2 (tS b n p) (by omega)).1
      have g2 := (h.2.2 (tS b n p + 1) (by omega)).1
      have g3 := (h.2.2 (tS b n p + 2) (by omega)).1
      have g4 := (h.2.2 (tS b n p + (L - 1)) (by omega)).1
      rw [ite_eq (by omega) (by omega), ite_eq (by omega) (by omega), ite_eq (by omega) (by omega), ite_eq (by omega) (by omega)]
      by_cases w1 : b (tS b n p) = c1
      · rw [if_pos w1, decide_eq_true w1, Bool.true_and]
        by_cases w2 : b (tS b n p + 1) = c2
        · rw [if_pos w2, decide_eq_true w2, Bool.true_and]
          by_cases w3 : b (tS b n p + 2) = c3
          · rw [if_pos w3, decide_eq_true w3, Bool.true_and]
            by_cases w4 : b (tS b n p + (L - 1)) = c4
            · rw [if_pos w4, decide_eq_true w4]; rfl
            · rw [if_neg w4, decide_eq_false w4]; rfl
          · rw [if_neg w3, decide_eq_false w3, Bool.false_and]; rfl
        · rw [if_neg w2, decide_eq_false w2, Bool.false_and]; rfl
      · rw [if_neg w1, decide_eq_false w1, Bool.false_and]; rfl
    · rw [if_neg (eq_n (by omega) (by omega) z), decide_eq_false z, Bool.false_and]
      rfl
  · rw [if_neg (show ¬ nI (tT b n p) = 1 from eq_n (b := 1) (by omega) (by decide) q), decide_eq_false q, Bool.false_and]
    rfl
