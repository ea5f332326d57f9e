/-! PURE 5: circles, hours by draws, hours on end -/
def itN {α : Type} (g : α → α) : Nat → α → α
  | 0, a => a
  | n + 1, a => itN g n (g a)
theorem itN_succ {α : Type} (g : α → α) : ∀ (n : Nat) (a : α), itN g (n + 1) a = g (itN g n a) := by
  intro n
  induction n with
  | zero => intro a; rfl
  | succ n ih => intro a; exact ih (g a)
def gTwo (a : AP) (r : Nat) : Nat := 2 ^ (aFi a r - 1) ||| 2 ^ (aSe a r - 1)
def gCi (a : AP) (r m : Nat) : Nat := if aFi a r = 0 then m else if m &&& gTwo a r = 0 then m else m ||| gTwo a r
def gRo (a : AP) (m : Nat) : Nat := fld (fun r m => gCi a r m) 0 6 m
def gCc (a : AP) (w : Nat) : Nat := itN (gRo a) 6 (2 ^ w)
def gPr (a : AP) (r m : Nat) : Bool := decide (¬ aFi a r = 0) && decide (m ||| gTwo a r = m)
def gPo (a : AP) (m : Nat) : Nat := cnt (fun r => gPr a r m) 6
theorem gTwo_lt {a : AP} (h : WF a) {r : Nat} (hr : r < 6) (hf : ¬ aFi a r = 0) : gTwo a r < 256 := by
  obtain ⟨h1, h2, -, -⟩ := h.two hr hf
  exact Nat.or_lt_two_pow (n := 8) (Nat.pow_lt_pow_right (by decide) h1) (Nat.pow_lt_pow_right (by decide) h2)
theorem gCi_lt {a : AP} (h : WF a) {r m : Nat} (hr : r < 6) (hm : m < 256) : gCi a r m < 256 := by
  unfold gCi
  by_cases hf : aFi a r = 0
  · rw [if_pos hf]; exact hm
  · rw [if_neg hf]
    split
    · exact hm
    · exact Nat.or_lt_two_pow (n := 8) hm (gTwo_lt h hr hf)
theorem cnt_mono {p q : Nat → Bool} {n : Nat} (h : ∀ i, i < n → p i = true → q i = true) : cnt p n ≤ cnt q n := by
  induction n with
  | zero => exact Nat.le_refl _
  | succ n ih =>
    have := ih (fun i hi => h i (by omega))
    rw [cnt_succ, cnt_succ]
    by_cases hp : p n = true
    · rw [if_pos hp, if_pos (h n (by omega) hp)]; omega
    · rw [if_neg hp]; split <;> omega
theorem cnt_lt {p q : Nat → Bool} {n r : Nat} (h : ∀ i, i < n → p i = true → q i = true) (hr : r < n) (hp : p r = false) (hq : q r = true) : cnt p n < cnt q n := by
  induction n with
  | zero => omega
  | succ n ih =>
    rw [cnt_succ, cnt_succ]
    by_cases e : r = n
    · subst e
      have := cnt_mono (p := p) (q := q) (n := r) (fun i hi => h i (by omega))
      rw [if_neg (by rw [hp]; decide), if_pos hq]
      omega
    · have := ih (fun i hi => h i (by omega)) (by omega)
      by_cases hpn : p n = true
      · rw [if_pos hpn, if_pos (h n (by omega) hpn)]; omega
      · rw [if_neg hpn]; split <;> omega
theorem or_absorb {m t u : Nat} (h : m ||| u = m) : (m ||| t) ||| u = m ||| t := by
  apply Nat.eq_of_testBit_eq
  intro i
  have := congrArg (fun x => x.testBit i) h
  simp only [Nat.testBit_or] at this ⊢
  cases hm : m.testBit i <;> cases ht : t.testBit i <;> cases hu : u.testBit i <;> simp_all
theorem or_self (m t : Nat) : (m ||| t) ||| t = m ||| t := by
  apply Nat.eq_of_testBit_eq
  intro i
  simp only [Nat.testBit_or]
  cases m.testBit i <;> cases t.testBit i <;> rfl
theorem gCi_or (a : AP) (r m u : Nat) (h : m ||| u = m) : gCi a r m ||| u = gCi a r m := by
  unfold gCi
  split
  · exact h
  · split
    · exact h
    · exact or_absorb h
theorem gCi_po (a : AP) {r m : Nat} (hr : r < 6) : gCi a r m = m ∨ gPo a m < gPo a (gCi a r m) := by
  by_cases e : gCi a r m = m
  · exact Or.inl e
  · right
    have hf : ¬ aFi a r = 0 := fun q => e (by unfold gCi; rw [if_pos q])
    have h2 : ¬ m &&& gTwo a r = 0 := fun q => e (by unfold gCi; rw [if_neg hf, if_pos q])
    have e2 : gCi a r m = m ||| gTwo a r := by unfold gCi; rw [if_neg hf, if_neg h2]
    refine cnt_lt (r := r) (fun i hi hp => ?_) hr ?_ ?_
    · simp only [gPr, Bool.and_eq_true, decide_eq_true_eq] at hp ⊢
      exact ⟨hp.1, gCi_or a r m _ hp.2⟩
    · simp only [gPr, Bool.and_eq_false_iff, decide_eq_false_iff_not]
      exact Or.inr (fun q => e (e2.trans q))
    · simp only [gPr, Bool.and_eq_true, decide_eq_true_eq]
      exact ⟨hf, by rw [e2]; exact or_self _ _⟩
theorem gRo_po (a : AP) : ∀ (d j m : Nat), j + d ≤ 6 → fld (fun r m => gCi a r m) j d m = m ∨ gPo a m < gPo a (fld (fun r m => gCi a r m) j d m) := by
  intro d
  induction d with
  | zero => intro j m _; exact Or.inl rfl
  | succ d ih =>
    intro j m hj
    show fld _ (j + 1) d (gCi a j m) = m ∨ gPo a m < gPo a (fld _ (j + 1) d (gCi a j m))
    rcases gCi_po a (r := j) (m := m) (by omega) with e | e
    · rw [e]; exact ih (j + 1) m (by omega)
    · rcases ih (j + 1) (gCi a j m) (by omega) with q | q
      · rw [q]; exact Or.inr e
      · exact Or.inr (Nat.lt_trans e q)
theorem gRo_it (a : AP) (m : Nat) : ∀ k, gRo a (itN (gRo a) k m) = itN (gRo a) k m ∨ k + 1 ≤ gPo a (itN (gRo a) (k + 1) m) := by
  intro k
  induction k with
  | zero =>
    rcases gRo_po a 6 0 m (by decide) with e | e
    · exact Or.inl e
    · right
      show 0 + 1 ≤ gPo a (gRo a m)
      unfold gRo
      omega
  | succ k ih =>
    rw [itN_succ (gRo a) (k + 1), itN_succ (gRo a) k]
    rw [itN_succ (gRo a) k] at ih
    rcases ih with e | e
    · left; rw [e, e]
    · rcases gRo_po a 6 0 (gRo a (itN (gRo a) k m)) (by decide) with q | q
      · exact Or.inl q
      · right
        have : gPo a (gRo a (itN (gRo a) k m)) < gPo a (gRo a (gRo a (itN (gRo a) k m))) := q
        omega
theorem gRo_six (a : AP) (m : Nat) : gRo a (itN (gRo a) 6 m) = itN (gRo a) 6 m := by
  rcases gRo_it a m 6 with e | e
  · exact e
  · have : gPo a (itN (gRo a) (6 + 1) m) ≤ 6 := cnt_le (fun r => gPr a r (itN (gRo a) (6 + 1) m)) 6
    omega
theorem gRo_fix (a : AP) {m : Nat} (h : gRo a m = m) : ∀ k, itN (gRo a) k m = m := by
  intro k
  induction k with
  | zero => rfl
  | succ k ih => rw [itN_succ, ih, h]
theorem nI_and (a b : Nat) : nI a &&& nI b = nI (a &&& b) := by
  apply Int32.toBitVec_inj.mp
  show BitVec.ofNat 32 a &&& BitVec.ofNat 32 b = BitVec.ofNat 32 (a &&& b)
  simp
theorem and_two {m x y : Nat} : m &&& (2 ^ x ||| 2 ^ y) = 0 ↔ m.testBit x = false ∧ m.testBit y = false := by
  constructor
  · intro h
    have hb : ∀ i, (m &&& (2 ^ x ||| 2 ^ y)).testBit i = false := fun i => by rw [h, Nat.zero_testBit]
    have h1 := hb x
    have h2 := hb y
    simp only [Nat.testBit_and, Nat.testBit_or, Nat.testBit_two_pow, decide_true, Bool.true_or, Bool.or_true, Bool.and_true] at h1 h2
    exact ⟨h1, h2⟩
  · intro h
    apply Nat.eq_of_testBit_eq
    intro i
    simp only [Nat.testBit_and, Nat.testBit_or, Nat.testBit_two_pow, Nat.zero_testBit]
    by_cases hx : x = i
    · subst hx; rw [h.1]; rfl
    · by_cases hy : y = i
      · subst hy; rw [h.2]; rfl
      · simp [hx, hy]
theorem gRo_lt {a : AP} (h : WF a) {m : Nat} (hm : m < 256) : gRo a m < 256 := by
  have : ∀ (d j m : Nat), j + d ≤ 6 → m < 256 → fld (fun r m => gCi a r m) j d m < 256 := by
    intro d
    induction d with
    | zero => intro j m _ hm; exact hm
    | succ d ih => intro j m hj hm; exact ih (j + 1) _ (by omega) (gCi_lt h (by omega) hm)
  exact this 6 0 m (by decide) hm
theorem gIt_lt {a : AP} (h : WF a) : ∀ (k m : Nat), m < 256 → itN (gRo a) k m < 256 := by
  intro k
  induction k with
  | zero => intro m hm; exact hm
  | succ k ih => intro m hm; exact ih _ (gRo_lt h hm)
theorem p8 {w : Nat} (h : w < 8) : 2 ^ w < 256 := Nat.pow_lt_pow_right (n := 8) (by decide) h
theorem X1_circle {N : Nat} {a : AP} {v : PV} (hv : CV a v) (hw : WF a) (hN : 9 ≤ N) {w : Nat} (hw8 : w < 8) : f_X1_circle N v (nI w) = some (nI (gCc a w)) := by
  obtain ⟨-, -, -, -, -, hp⟩ := id hv
  have inner : ∀ (j6 : Int32 → Option Int32) (m : Nat), m < 256 → f_X1_circle_L15 v j6 N 0 (nI m) = j6 (nI (gRo a m)) := by
    intro j6 m hm
    obtain ⟨s', e1, e2, -⟩ := lpR (L := fun f i (c : Int32) => f_X1_circle_L15 v j6 f i c) (k := j6) (n := 6) (fun _ c (s : Int32) => s = nI c ∧ c < 256) (fun r c => gCi a r c)
      (fun f c s _ => by show f_X1_circle_L15 v j6 (f + 1) (nI 6) s = _; rw [f_X1_circle_L15, if_pos (by decide)])
      (fun f j c s hj hs => by
        obtain ⟨rfl, hc⟩ := hs
        refine ⟨nI (gCi a j c), ?_, rfl, gCi_lt hw hj hc⟩
        show f_X1_circle_L15 v j6 (f + 1) (nI j) (nI c) = f_X1_circle_L15 v j6 f (nI (j + 1)) _
        rw [f_X1_circle_L15, if_neg (show ¬ (6 : Int32) ≤ nI j from nI_ge hj (by decide)), rdA_nI hj (by decide), (hp j hj).1]
        simp only [lj, nI_1]
        by_cases e : aFi a j = 0
        · rw [e, if_pos (by rfl)]
          unfold gCi
          rw [if_pos e]
        · obtain ⟨q1, q2, q3, q4⟩ := hw.two hj e
          have nt : ∀ t, t < 8 → ¬ nI t = -1 := by decide
          rw [nI_pd e, if_neg (nt _ q1)]
          simp only [rdA_nI hj (show 6 < 2 ^ 31 by decide), (hp j hj).1, (hp j hj).2, nI_pd e, nI_pd q4, has_t hc q1, has_t hc q2, if_cg (bI_eq0 _), one_shl _ (show aFi a j - 1 < 31 by omega), one_shl _ (show aSe a j - 1 < 31 by omega), nI_or]
          unfold gCi gTwo
          rw [if_neg e, if_cg and_two]
          by_cases b1 : c.testBit (aFi a j - 1) = false
          · by_cases b2 : c.testBit (aSe a j - 1) = false
            · rw [if_pos b1, if_pos b2, if_pos ⟨b1, b2⟩]
            · rw [if_pos b1, if_neg b2, if_neg (fun q => b2 q.2)]
          · rw [if_neg b1, if_neg (fun q => b1 q.1)])
      6 0 N m (nI m) (by omega) (by omega) ⟨rfl, hm⟩
    subst e2
    exact e1
  obtain ⟨s', e1, e2, -⟩ := lpR (L := fun f i (c : Int32) => f_X1_circle_L6 N v f i c) (k := fun c => some c) (n := 6) (fun _ c (s : Int32) => s = nI c ∧ c < 256) (fun _ c => gRo a c)
    (fun f c s _ => by show f_X1_circle_L6 N v (f + 1) (nI 6) s = _; rw [f_X1_circle_L6, if_pos (by decide)])
    (fun f j c s hj hs => by
      obtain ⟨rfl, hc⟩ := hs
      refine ⟨nI (gRo a c), ?_, rfl, gRo_lt hw hc⟩
      show f_X1_circle_L6 N v (f + 1) (nI j) (nI c) = f_X1_circle_L6 N v f (nI (j + 1)) _
      rw [f_X1_circle_L6, if_neg (show ¬ (6 : Int32) ≤ nI j from nI_ge hj (by decide))]
      simp only [lj, nI_1]
      exact inner _ c hc)
    6 0 N (2 ^ w) (nI (2 ^ w)) (by omega) (by omega) ⟨rfl, p8 hw8⟩
  subst e2
  unfold f_X1_circle
  simp only [lj]
  rw [one_shl w (by omega)]
  exact e1
theorem X6_circleOf {N : Nat} {a : AP} {s : Nat → Int32} (hs : CM a s) (hw : WF a) (hN : 9 ≤ N) {w : Nat} (hw8 : w < 8) : f_X6_circleOf N s (nI w) = some (nI (gCc a w)) := by
  have hp := hs.2.2.2.2.2
  have inner : ∀ (j6 : Int32 → Option Int32) (m : Nat), m < 256 → f_X6_circleOf_L16 s j6 N 0 (nI m) = j6 (nI (gRo a m)) := by
    intro j6 m hm
    obtain ⟨s', e1, e2, -⟩ := lpR (L := fun f i (c : Int32) => f_X6_circleOf_L16 s j6 f i c) (k := j6) (n := 6) (fun _ c (s : Int32) => s = nI c ∧ c < 256) (fun r c => gCi a r c)
      (fun f c z _ => by show f_X6_circleOf_L16 s j6 (f + 1) (nI 6) z = _; rw [f_X6_circleOf_L16, if_pos (by decide)])
      (fun f j c z hj hz => by
        obtain ⟨rfl, hc⟩ := hz
        refine ⟨nI (gCi a j c), ?_, rfl, gCi_lt hw hj hc⟩
        show f_X6_circleOf_L16 s j6 (f + 1) (nI j) (nI c) = f_X6_circleOf_L16 s j6 f (nI (j + 1)) _
        have z0 : nI c ||| (0 : Int32) = nI c := by rw [show (0 : Int32) = nI 0 from rfl, nI_or, Nat.or_zero]
        rw [f_X6_circleOf_L16, if_neg (show ¬ (6 : Int32) ≤ nI j from nI_ge hj (by decide)), show (7 : Int32) + nI j = nI (7 + j) from nI_add 7 j, show (13 : Int32) + nI j = nI (13 + j) from nI_add 13 j, rdA_nI (show 7 + j < 43 by omega) (by decide), (hp j hj).1]
        simp only [lj, nI_1]
        have hb := hw.2.2.2 j hj
        by_cases e : aFi a j = 0
        · rw [e, if_pos (by rfl)]
          unfold gCi
          rw [if_pos e]
          have : nI c &&& 0 = 0 := by rw [show (0 : Int32) = nI 0 from rfl, nI_and, Nat.and_zero]
          rw [if_pos this, z0]
        · obtain ⟨q1, q2, q3, q4⟩ := hw.two hj e
          rw [if_neg (show ¬ nI (aFi a j) = 0 from eq_n (b := 0) (by omega) (by omega) e)]
          rw [rdA_nI (show 7 + j < 43 by omega) (by decide), rdA_nI (show 13 + j < 43 by omega) (by decide), (hp j hj).1, (hp j hj).2 e, nI_pd e, nI_pd q4, one_shl _ (show aFi a j - 1 < 31 by omega), one_shl _ (show aSe a j - 1 < 31 by omega), nI_or, nI_and]
          unfold gCi
          rw [if_neg e]
          have hl := gTwo_lt hw hj e
          have ha : c &&& gTwo a j < 256 := Nat.and_lt_two_pow (n := 8) c hl
          by_cases b1 : c &&& gTwo a j = 0
          · rw [if_pos b1]
            have b2 : nI (c &&& (2 ^ (aFi a j - 1) ||| 2 ^ (aSe a j - 1))) = 0 := congrArg nI b1
            rw [if_pos b2, z0]
          · rw [if_neg b1]
            have b2 : ¬ nI (c &&& (2 ^ (aFi a j - 1) ||| 2 ^ (aSe a j - 1))) = 0 := eq_n (b := 0) (show c &&& gTwo a j < 2 ^ 31 by omega) (by decide) b1
            rw [if_neg b2, nI_or]
            rfl)
      6 0 N m (nI m) (by omega) (by omega) ⟨rfl, hm⟩
    subst e2
    exact e1
  have m0 := p8 hw8
  have key : ∀ (d k f : Nat) (was : Nat), k + d = 7 → d < f → was < 256 → (k = 0 ∧ was = 0) ∨ (∃ k', k = k' + 1 ∧ was = itN (gRo a) k' (2 ^ w)) → f_X6_circleOf_L6 N s f (nI was) (nI (itN (gRo a) k (2 ^ w))) = some (nI (gCc a w)) := by
    intro d
    induction d with
    | zero =>
      intro k f was hk hf hwas h
      obtain ⟨f, rfl⟩ : ∃ f', f = f' + 1 := ⟨f - 1, by omega⟩
      rcases h with ⟨h1, -⟩ | ⟨k', h1, h2⟩
      · omega
      · have : k' = 6 := by omega
        subst this
        have hk7 : k = 7 := h1
        subst hk7
        have e7 : itN (gRo a) 7 (2 ^ w) = itN (gRo a) 6 (2 ^ w) := by rw [itN_succ, gRo_six]
        rw [f_X6_circleOf_L6, h2, e7, if_pos rfl]
        rfl
    | succ d ih =>
      intro k f was hk hf hwas h
      obtain ⟨f, rfl⟩ : ∃ f', f = f' + 1 := ⟨f - 1, by omega⟩
      have hm := gIt_lt hw k _ m0
      rw [f_X6_circleOf_L6]
      by_cases e : itN (gRo a) k (2 ^ w) = was
      · rw [e, if_pos rfl]
        rcases h with ⟨h1, h2⟩ | ⟨k', h1, h2⟩
        · subst h1
          subst h2
          have : (0 : Nat) < 2 ^ w := Nat.two_pow_pos w
          have e : 2 ^ w = 0 := e
          omega
        · subst h1
          have hfix : gRo a was = was := by
            rw [itN_succ (gRo a) k', ← h2] at e
            exact e
          have : ∀ i, itN (gRo a) (k' + i) (2 ^ w) = was := by
            intro i
            induction i with
            | zero => exact h2.symm
            | succ i ih => rw [show k' + (i + 1) = (k' + i) + 1 by omega, itN_succ, ih, hfix]
          have h6 := this (6 - k')
          rw [show k' + (6 - k') = 6 by omega] at h6
          unfold gCc
          rw [h6]
      · rw [if_neg (eq_n (by omega) (by omega) e)]
        simp only [lj]
        rw [inner _ _ hm, ← itN_succ (gRo a) k]
        exact ih (k + 1) f _ (by omega) (by omega) hm (Or.inr ⟨k, rfl, rfl⟩)
  unfold f_X6_circleOf
  simp only [lj]
  rw [one_shl w (by omega)]
  exact key 7 0 N 0 (by omega) (by omega) (by decide) (Or.inl ⟨rfl, rfl⟩)
def gCs (a : AP) : Nat := cnt (fun p => decide (gCc a p &&& (2 ^ p - 1) = 0)) 8
theorem circ_c {a : AP} (hw : WF a) {j : Nat} (hj : j < 8) (x y : Option Int32) : (if nI (gCc a j) &&& ((1 : Int32) <<< (nI j &&& 31) - 1) = 0 then x else y) = if gCc a j &&& (2 ^ j - 1) = 0 then x else y := by
  have hp : 0 < 2 ^ j := Nat.two_pow_pos j
  have := p8 hj
  rw [one_shl j (by omega), nI_pd (by omega), nI_and]
  exact ite_eq (b := 0) (Nat.lt_of_lt_of_le (Nat.and_lt_two_pow (n := 8) _ (show 2 ^ j - 1 < 2 ^ 8 by omega)) (by decide)) (by decide) x y
theorem X1_circles {N : Nat} {a : AP} {v : PV} (hv : CV a v) (hw : WF a) (hN : 9 ≤ N) : f_X1_circles N v = some (nI (gCs a)) := by
  exact (lpS (L := fun f i (c : Int32) => f_X1_circles_L4 N v f i c) (n := 8) (fun _ _ => True) (fun j c => if decide (gCc a j &&& (2 ^ j - 1) = 0) = true then c + 1 else c)
    (fun f c _ => by show f_X1_circles_L4 N v (f + 1) (nI 8) _ = _; rw [f_X1_circles_L4, if_pos (by decide)])
    (fun f j c hj _ => by
      refine ⟨?_, trivial⟩
      show f_X1_circles_L4 N v (f + 1) (nI j) (nI c) = f_X1_circles_L4 N v f (nI (j + 1)) _
      rw [f_X1_circles_L4, if_neg (show ¬ (8 : Int32) ≤ nI j from nI_ge hj (by decide)), X1_circle hv hw hN hj, ob1_s]
      simp only [lj, nI_1]
      rw [circ_c hw hj]
      by_cases e : gCc a j &&& (2 ^ j - 1) = 0
      · rw [if_pos e, if_pos (decide_eq_true e)]
      · rw [if_neg e, if_neg (by simpa using e)]) trivial (by omega)).1
theorem X6_circles {N : Nat} {a : AP} {s : Nat → Int32} (hs : CM a s) (hw : WF a) (hN : 9 ≤ N) : f_X6_circles N s = some (nI (gCs a)) := by
  exact (lpS (L := fun f i (c : Int32) => f_X6_circles_L4 N s f i c) (n := 8) (fun _ _ => True) (fun j c => if decide (gCc a j &&& (2 ^ j - 1) = 0) = true then c + 1 else c)
    (fun f c _ => by show f_X6_circles_L4 N s (f + 1) (nI 8) _ = _; rw [f_X6_circles_L4, if_pos (by decide)])
    (fun f j c hj _ => by
      refine ⟨?_, trivial⟩
      show f_X6_circles_L4 N s (f + 1) (nI j) (nI c) = f_X6_circles_L4 N s f (nI (j + 1)) _
      rw [f_X6_circles_L4, if_neg (show ¬ (8 : Int32) ≤ nI j from nI_ge hj (by decide)), X6_circleOf hs hw hN hj, ob1_s]
      simp only [lj, nI_1]
      rw [circ_c hw hj]
      by_cases e : gCc a j &&& (2 ^ j - 1) = 0
      · rw [if_pos e, if_pos (decide_eq_true e)]
      · rw [if_neg e, if_neg (by simpa using e), Int32.add_zero]) trivial (by omega)).1
