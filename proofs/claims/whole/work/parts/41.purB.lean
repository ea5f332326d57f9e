/-! PURE 2: small methods of both sides over an abstract port -/
def gld (a : AP) (t : Nat) : Nat := cnt (fun j => decide (aOn a j = t)) (aN a)
def gnm (a : AP) (t : Nat) : Bool := fld (fun j b => b || (decide (aOn a j = t) && decide (aKind a j = 5))) 0 (aN a) false
def gGo (a : AP) (k t : Nat) : Bool :=
  if aKind a k = 1 then decide (0 < aInk a k) && decide (gld a t < aLaw a 0)
  else if aKind a k = 2 then decide (0 < aInk a k) && decide (aOn a k < t)
  else if aKind a k = 3 then decide (0 < aInk a k) && (decide (gld a t < aLaw a 0) && decide (aH a % 2 = 0))
  else if aKind a k = 4 then (decide (0 < aInk a k) && decide (aOn a k < t)) || decide (aLaw a 2 ≤ aInk a k)
  else if aKind a k = 5 then decide (0 < aInk a k) && !gnm a t
  else decide (0 < aInk a k)
def gF (a : AP) (k : Nat) : Int32 :=
  if aKind a k = 1 then nI (aLaw a 1) + 1
  else if aKind a k = 2 then nI (aLaw a 1) - 2
  else if aKind a k = 3 then (nI (aLaw a 1) + 1) * 2
  else if aKind a k = 4 then nI (aLaw a 1) - 2 - nI (aLaw a 2)
  else if aKind a k = 5 then 0 else nI (aLaw a 1)
def bI (b : Bool) : Int32 := if b then 1 else 0
theorem bI_t : bI true = 1 := rfl
theorem bI_f : bI false = 0 := rfl
theorem if_cg {α : Type} {c d : Prop} [Decidable c] [Decidable d] (h : c ↔ d) {x y : α} : (if c then x else y) = if d then x else y := by
  by_cases q : c
  · rw [if_pos q, if_pos (h.mp q)]
  · rw [if_neg q, if_neg (fun z => q (h.mpr z))]
theorem ite_le {α : Type} {a b : Nat} (ha : a < 2 ^ 31) (hb : b < 2 ^ 31) (x y : α) : (if nI a ≤ nI b then x else y) = if a ≤ b then x else y := if_cg (nI_leI ha hb)
theorem ite_lt {α : Type} {a b : Nat} (ha : a < 2 ^ 31) (hb : b < 2 ^ 31) (x y : α) : (if nI a < nI b then x else y) = if a < b then x else y := if_cg (nI_ltI ha hb)
theorem ite_eq {α : Type} {a b : Nat} (ha : a < 2 ^ 31) (hb : b < 2 ^ 31) (x y : α) : (if nI a = nI b then x else y) = if a = b then x else y := if_cg (nI_eq ha hb)
theorem ite_le0 {α : Type} {a : Nat} (ha : a < 2 ^ 31) (x y : α) : (if nI a ≤ 0 then x else y) = if a = 0 then x else y := if_cg (by rw [show (0 : Int32) = nI 0 from rfl, nI_leI ha (by decide)]; omega)
theorem six {k : Nat} (h : k < 6) : k = 0 ∨ k = 1 ∨ k = 2 ∨ k = 3 ∨ k = 4 ∨ k = 5 := by omega
theorem X1_loadOf {N : Nat} {a : AP} {v : PV} (hv : CV a v) (hw : WF a) (hN : 9 ≤ N) {t : Nat} (ht : t < 8) : f_X1_loadOf N v (nI t) = some (nI (gld a t)) := by
  obtain ⟨hc, -, -, -, hm, -⟩ := id hv
  have hn : aN a ≤ 8 := hw.1
  obtain ⟨s', e1, e2⟩ := lpR (L := fun f i (c : Int32) => f_X1_loadOf_L4 v (nI t) f i c) (k := fun c => some c) (n := aN a) (fun _ c (s : Int32) => s = nI c) (fun j c => if decide (aOn a j = t) = true then c + 1 else c)
    (fun f c s _ => by show f_X1_loadOf_L4 v (nI t) (f + 1) (nI (aN a)) s = _; rw [f_X1_loadOf_L4, hc, if_pos (Int32.le_refl _)])
    (fun f j c s hj hs => by
      subst hs
      obtain ⟨-, -, h3⟩ := hm j hj
      have hon := (hw.2.2.1 j hj).2.2
      refine ⟨nI (if decide (aOn a j = t) = true then c + 1 else c), ?_, rfl⟩
      show f_X1_loadOf_L4 v (nI t) (f + 1) (nI j) (nI c) = f_X1_loadOf_L4 v (nI t) f (nI (j + 1)) _
      rw [f_X1_loadOf_L4, hc, if_neg (nI_ge hj (by omega)), rdA_nI (by omega) (by decide), h3]
      simp only [lj, nI_1]
      by_cases e : aOn a j = t
      · rw [if_pos (by rw [e]), if_pos (decide_eq_true e)]
      · rw [if_neg (eq_n (by omega) (by omega) e), if_neg (by simpa using e)])
    (aN a) 0 N 0 0 (by omega) (by omega) rfl
  have e1 : f_X1_loadOf_L4 v (nI t) N 0 0 = some s' := e1
  unfold f_X1_loadOf
  rw [e1, e2]
  rfl
theorem gnm_tt (a : AP) (t : Nat) : ∀ (d j : Nat), fld (fun j b => b || (decide (aOn a j = t) && decide (aKind a j = 5))) j d true = true := by
  intro d
  induction d with
  | zero => intro j; rfl
  | succ d ih => intro j; exact ih (j + 1)
theorem X1_isNameOn {N : Nat} {a : AP} {v : PV} (hv : CV a v) (hw : WF a) (hN : 9 ≤ N) {t : Nat} (ht : t < 8) : f_X1_isNameOn N v (nI t) = some (bI (gnm a t)) := by
  obtain ⟨hc, -, -, -, hm, -⟩ := id hv
  have hn : aN a ≤ 8 := hw.1
  have key : ∀ (d j f : Nat), j + d = aN a → d < f → f_X1_isNameOn_L2 v (nI t) f (nI j) = some (bI (fld (fun j b => b || (decide (aOn a j = t) && decide (aKind a j = 5))) j d false)) := by
    intro d
    induction d with
    | zero =>
      intro j f hj hf
      obtain ⟨f, rfl⟩ : ∃ f', f = f' + 1 := ⟨f - 1, by omega⟩
      rw [f_X1_isNameOn_L2, hc, if_pos (nI_le (by omega) (by omega))]
      rfl
    | succ d ih =>
      intro j f hj hf
      obtain ⟨f, rfl⟩ : ∃ f', f = f' + 1 := ⟨f - 1, by omega⟩
      obtain ⟨h1, -, h3⟩ := hm j (by omega)
      have hon := (hw.2.2.1 j (by omega)).2.2
      have hkd := (hw.2.2.1 j (by omega)).1
      rw [f_X1_isNameOn_L2, hc, if_neg (nI_ge (by omega) (by omega)), rdA_nI (by omega) (by decide), h3]
      simp only [lj, nI_1]
      show _ = some (bI (fld _ (j + 1) d (false || (decide (aOn a j = t) && decide (aKind a j = 5)))))
      by_cases e : aOn a j = t
      · rw [if_pos (by rw [e]), rdA_nI (by omega) (by decide), h1]
        by_cases e5 : aKind a j = 5
        · rw [if_pos (by rw [e5]; rfl), decide_eq_true e, decide_eq_true e5]
          show some 1 = some (bI (fld _ (j + 1) d true))
          rw [gnm_tt]
          rfl
        · rw [if_neg (show ¬ nI (aKind a j) = 5 from eq_n (b := 5) (by omega) (by omega) e5), decide_eq_true e, decide_eq_false e5]
          exact ih (j + 1) f (by omega) (by omega)
      · rw [if_neg (eq_n (by omega) (by omega) e), decide_eq_false e]
        exact ih (j + 1) f (by omega) (by omega)
  exact key (aN a) 0 N (by omega) (by omega)
theorem gld_le (a : AP) (t : Nat) : gld a t ≤ aN a := cnt_le _ _
theorem par_I {h : Nat} (hh : h < 2 ^ 31) : ((nI h) &&& 1) = 0 ↔ h % 2 = 0 := by
  rw [pk_andN (by omega) (m := 1) 1 (by decide), show (0 : Int32) = nI 0 from rfl, nI_eq (by omega) (by omega)]
theorem X1_goesTo {N : Nat} {a : AP} {v : PV} (hv : CV a v) (hw : WF a) (hN : 9 ≤ N) (hh : aH a < 2 ^ 31) {k t : Nat} (hk : k < aN a) (ht : t < 8) : f_X1_goesTo N v (nI k) (nI t) = some (bI (gGo a k t)) := by
  obtain ⟨hc, hho, -, hl, hm, -⟩ := id hv
  have hn : aN a ≤ 8 := hw.1
  obtain ⟨m1, m2, m3⟩ := hm k hk
  obtain ⟨w1, w2, w3⟩ := hw.2.2.1 k hk
  have l0 := hl 0 (by decide)
  have l2 := hl 2 (by decide)
  have g0 := hw.law (k := 0) (by decide)
  have g2 := hw.law (k := 2) (by decide)
  have hld := gld_le a t
  have e0 : nI 0 = 0 := rfl
  unfold f_X1_goesTo
  simp only [lj, rdA_nI (show k < 8 by omega) (show 8 < 2 ^ 31 by decide), m1, m2, m3, X1_loadOf hv hw hN ht, X1_isNameOn hv hw hN ht, ob1_s, l0, l2, hho, ite_le0 (show aInk a k < 2 ^ 31 by omega), ite_le (show aLaw a 0 < 2 ^ 31 by omega) (show gld a t < 2 ^ 31 by omega), ite_le (show t < 2 ^ 31 by omega) (show aOn a k < 2 ^ 31 by omega), ite_lt (show aOn a k < 2 ^ 31 by omega) (show t < 2 ^ 31 by omega), ite_lt (show aInk a k < 2 ^ 31 by omega) (show aLaw a 2 < 2 ^ 31 by omega), if_cg (par_I hh)]
  unfold gGo
  rcases six w1 with h | h | h | h | h | h
  all_goals
    rw [h]
    by_cases hi : aInk a k = 0
    · by_cases c4 : aLaw a 2 = 0
      · simp [hi, c4, gdP, bI, nI]
      · have c5 : 0 < aLaw a 2 := by omega
        simp [hi, c4, c5, gdP, bI, nI]
    · have hi2 : 0 < aInk a k := by omega
      by_cases c1 : gld a t < aLaw a 0 <;> by_cases c2 : aOn a k < t <;> by_cases c3 : aH a % 2 = 0 <;> by_cases c4 : aLaw a 2 ≤ aInk a k <;> cases c5 : gnm a t <;> simp [hi, hi2, c1, c2, c3, c4, gdP, bI, nI, Nat.not_le, Nat.not_lt]
theorem X1_fading {a : AP} {v : PV} (hv : CV a v) (hw : WF a) {k : Nat} (hk : k < aN a) : f_X1_fading v (nI k) = some (gF a k) := by
  obtain ⟨hc, -, -, hl, hm, -⟩ := id hv
  have hn : aN a ≤ 8 := hw.1
  obtain ⟨m1, -, -⟩ := hm k hk
  obtain ⟨w1, -, -⟩ := hw.2.2.1 k hk
  have l1 := hl 1 (by decide)
  have l2 := hl 2 (by decide)
  unfold f_X1_fading gF
  simp only [lj, rdA_nI (show k < 8 by omega) (show 8 < 2 ^ 31 by decide), m1, l1, l2]
  rcases six w1 with h | h | h | h | h | h <;> rw [h] <;> rfl
theorem X1_targetOf {a : AP} {v : PV} (hv : CV a v) (hw : WF a) {k x y : Nat} (hk : k < aN a) (hx : x < 8) (hy : y < 8) : f_X1_targetOf v (nI k) (nI x) (nI y) = some (if aOn a k = x then nI y else if aOn a k = y then nI x else -1) := by
  obtain ⟨hc, -, -, -, hm, -⟩ := id hv
  have hn : aN a ≤ 8 := hw.1
  obtain ⟨-, -, m3⟩ := hm k hk
  obtain ⟨-, -, w3⟩ := hw.2.2.1 k hk
  unfold f_X1_targetOf
  simp only [rdA_nI (show k < 8 by omega) (show 8 < 2 ^ 31 by decide), m3, ite_eq (show aOn a k < 2 ^ 31 by omega) (show x < 2 ^ 31 by omega), ite_eq (show aOn a k < 2 ^ 31 by omega) (show y < 2 ^ 31 by omega)]
  by_cases c1 : aOn a k = x
  · rw [if_pos c1, if_pos c1]
  · rw [if_neg c1, if_neg c1]
    by_cases c2 : aOn a k = y
    · rw [if_pos c2, if_pos c2]
    · rw [if_neg c2, if_neg c2]
theorem held_eq (x : Int32) : f_X5_heldInk x = f_X6_within x := by
  unfold f_X5_heldInk f_X6_within
  by_cases h1 : 0 ≤ x
  · rw [if_pos h1]
    by_cases h2 : x ≤ 99
    · rw [if_pos h2]
      by_cases h3 : x < 99
      · rw [if_pos h3]
        by_cases h4 : 0 < x
        · rw [if_pos h4]
        · rw [if_neg h4]; exact Int32.le_antisymm h1 (Int32.not_lt.mp h4)
      · rw [if_neg h3, if_pos (by decide)]; exact Int32.le_antisymm (Int32.not_lt.mp h3) h2
    · rw [if_neg h2, if_neg (fun q => h2 (Int32.le_of_lt q)), if_pos (by decide)]
  · rw [if_neg h1]
    have h2 : x < 0 := Int32.not_le.mp h1
    have h3 : x < 99 := Int32.lt_trans h2 (by decide)
    rw [if_pos h3, if_neg (fun q => h1 (Int32.le_of_lt q))]
def gCl (x : Int32) : Nat := (f_X6_within x).toNatClampNeg
theorem gCl_ok (x : Int32) : f_X6_within x = nI (gCl x) ∧ gCl x ≤ 99 := by
  have h : ¬ f_X6_within x < 0 ∧ f_X6_within x ≤ 99 := by
    unfold f_X6_within
    by_cases h1 : 0 ≤ x
    · rw [if_pos h1]
      by_cases h2 : x ≤ 99
      · rw [if_pos h2]; exact ⟨Int32.not_lt.mpr h1, h2⟩
      · rw [if_neg h2]; exact ⟨by decide, by decide⟩
    · rw [if_neg h1]; exact ⟨by decide, by decide⟩
  obtain ⟨j, h1, h2⟩ := nI_of2 (M := 99) (n := 99) rfl h.1 h.2
  unfold gCl
  rw [h2, nI_clamp (by omega)]
  exact ⟨rfl, h1⟩
/-! the model's small methods -/
theorem rd_its {s : Nat → Int32} {k w : Nat} (hk : k < 8) (hw : w < 3) : f_X6_its s (nI k) (nI w) = some (s (19 + 3 * k + w)) := by
  unfold f_X6_its
  rw [show ((19 : Int32) + 3 * nI k) + nI w = nI (19 + 3 * k + w) by
    show (nI 19 + nI 3 * nI k) + nI w = _
    rw [pk_mul, nI_add, nI_add]]
  exact rdA_nI (by omega) (by decide)
theorem itsK {a : AP} {s : Nat → Int32} (hs : CM a s) (hn : aN a ≤ 8) {k : Nat} (hk : k < aN a) : f_X6_its s (nI k) 0 = some (nI (aKind a k)) := by
  have h := rd_its (s := s) (k := k) (w := 0) (by omega) (by decide)
  have h : f_X6_its s (nI k) 0 = some (s (19 + 3 * k)) := h
  rw [h, (hs.2.2.2.2.1 k hk).1]
theorem itsI {a : AP} {s : Nat → Int32} (hs : CM a s) (hn : aN a ≤ 8) {k : Nat} (hk : k < aN a) : f_X6_its s (nI k) 1 = some (nI (aInk a k)) := by
  have h := rd_its (s := s) (k := k) (w := 1) (by omega) (by decide)
  have h : f_X6_its s (nI k) 1 = some (s (19 + 3 * k + 1)) := h
  rw [h, (hs.2.2.2.2.1 k hk).2.1]
theorem itsO {a : AP} {s : Nat → Int32} (hs : CM a s) (hn : aN a ≤ 8) {k : Nat} (hk : k < aN a) : f_X6_its s (nI k) 2 = some (nI (aOn a k)) := by
  have h := rd_its (s := s) (k := k) (w := 2) (by omega) (by decide)
  have h : f_X6_its s (nI k) 2 = some (s (19 + 3 * k + 2)) := h
  rw [h, (hs.2.2.2.2.1 k hk).2.2]
theorem X6_marksOn {N : Nat} {a : AP} {s : Nat → Int32} (hs : CM a s) (hw : WF a) (hN : 9 ≤ N) {t : Nat} (ht : t < 8) : f_X6_marksOn N s (nI t) = some (nI (sN (fun j => decide (aOn a j = t)) (aN a))) := by
  have hn : aN a ≤ 8 := hw.1
  have hc := hs.1
  obtain ⟨s', e1, e2⟩ := lpR (L := fun f i (c : Int32) => f_X6_marksOn_L4 s (nI t) f i c) (k := fun c => some c) (n := aN a) (fun _ c (s : Int32) => s = nI c) (fun j m => if decide (aOn a j = t) = true then m ||| 2 ^ j else m)
    (fun f c x _ => by show f_X6_marksOn_L4 s (nI t) (f + 1) (nI (aN a)) x = _; rw [f_X6_marksOn_L4, hc, if_pos (Int32.le_refl _)])
    (fun f j c x hj hx => by
      subst hx
      have hon := (hw.2.2.1 j hj).2.2
      refine ⟨nI (if decide (aOn a j = t) = true then c ||| 2 ^ j else c), ?_, rfl⟩
      show f_X6_marksOn_L4 s (nI t) (f + 1) (nI j) (nI c) = f_X6_marksOn_L4 s (nI t) f (nI (j + 1)) _
      rw [f_X6_marksOn_L4, hc, if_neg (nI_ge hj (by omega)), itsO hs hn hj, ob1_s]
      simp only [lj, nI_1, one_shl j (by omega), ite_eq (show aOn a j < 2 ^ 31 by omega) (show t < 2 ^ 31 by omega)]
      by_cases e : aOn a j = t
      · rw [if_pos e, if_pos (decide_eq_true e), nI_or]
      · rw [if_neg e, if_neg (by simpa using e), show (0 : Int32) = nI 0 from rfl, nI_or, Nat.or_zero])
    (aN a) 0 N 0 0 (by omega) (by omega) rfl
  have e1 : f_X6_marksOn_L4 s (nI t) N 0 0 = some s' := e1
  unfold f_X6_marksOn
  rw [e1, e2]
  rfl
theorem sN_256 (p : Nat → Bool) {n : Nat} (hn : n ≤ 8) : sN p n < 256 := Nat.lt_of_lt_of_le (sN_lt p n) (Nat.pow_le_pow_right (by decide) hn)
theorem X6_hasName {N : Nat} {a : AP} {s : Nat → Int32} (hs : CM a s) (hw : WF a) (hN : 9 ≤ N) {t : Nat} (ht : t < 8) : f_X6_hasName N s (nI t) = some (bI (gnm a t)) := by
  have hn : aN a ≤ 8 := hw.1
  have hc := hs.1
  have hbb : ∀ b : Bool, bI b = 0 ∨ bI b = 1 := fun b => by cases b <;> simp [bI]
  have hor : ∀ b c : Bool, bI b ||| bI c = bI (b || c) := by decide
  obtain ⟨s', e1, e2⟩ := lpR (L := fun f i (c : Int32) => f_X6_hasName_L4 s (nI t) f i c) (k := fun c => some c) (n := aN a) (fun _ b (x : Int32) => x = bI b) (fun j b => b || (decide (aOn a j = t) && decide (aKind a j = 5)))
    (fun f b x hx => by subst hx; show f_X6_hasName_L4 s (nI t) (f + 1) (nI (aN a)) _ = _; rw [f_X6_hasName_L4, hc, if_pos (Int32.le_refl _), gdP_t (hbb b)])
    (fun f j b x hj hx => by
      subst hx
      have hon := (hw.2.2.1 j hj).2.2
      have hkd := (hw.2.2.1 j hj).1
      refine ⟨bI (b || (decide (aOn a j = t) && decide (aKind a j = 5))), ?_, rfl⟩
      show f_X6_hasName_L4 s (nI t) (f + 1) (nI j) (bI b) = f_X6_hasName_L4 s (nI t) f (nI (j + 1)) _
      rw [f_X6_hasName_L4, hc, if_neg (nI_ge hj (by omega)), itsO hs hn hj, ob1_s]
      have k5 : ∀ (x y : Option Int32), (if nI (aKind a j) = 5 then x else y) = if aKind a j = 5 then x else y := fun x y => ite_eq (b := 5) (by omega) (by omega) x y
      simp only [lj, nI_1, itsK hs hn hj, ob1_s, k5, ite_eq (show aOn a j < 2 ^ 31 by omega) (show t < 2 ^ 31 by omega)]
      by_cases e : aOn a j = t
      · by_cases e5 : aKind a j = 5
        · rw [if_pos e, if_pos e5, decide_eq_true e, decide_eq_true e5, show (1 : Int32) = bI true from rfl, hor]
          rfl
        · rw [if_pos e, if_neg e5, decide_eq_true e, decide_eq_false e5, show (0 : Int32) = bI false from rfl, hor]
          rfl
      · rw [if_neg e, decide_eq_false e, show (0 : Int32) = bI false from rfl, hor]
        rfl)
    (aN a) 0 N false 0 (by omega) (by omega) rfl
  have e1 : f_X6_hasName_L4 s (nI t) N 0 0 = some s' := e1
  unfold f_X6_hasName
  rw [e1, e2]
  rfl
theorem X6_fades {a : AP} {s : Nat → Int32} (hs : CM a s) (hw : WF a) {k : Nat} (hk : k < aN a) : f_X6_fades s (nI k) = some (gF a k) := by
  have hn : aN a ≤ 8 := hw.1
  obtain ⟨w1, -, -⟩ := hw.2.2.1 k hk
  have l1 : s 4 = nI (aLaw a 1) := hs.2.2.2.1 1 (by decide)
  have l2 : s 5 = nI (aLaw a 2) := hs.2.2.2.1 2 (by decide)
  have hcm : ∀ x : Int32, 2 * x = x * 2 := fun x => Int32.mul_comm 2 x
  unfold f_X6_fades gF
  simp only [lj, itsK hs hn hk, ob1_s, l1, l2, hcm]
  rcases six w1 with h | h | h | h | h | h <;> rw [h] <;> rfl
theorem X6_goesTo {N : Nat} {a : AP} {s : Nat → Int32} (hs : CM a s) (hw : WF a) (hN : 9 ≤ N) (hh : aH a < 2 ^ 31) {k t : Nat} (hk : k < aN a) (ht : t < 8) : f_X6_goesTo N s (nI k) (nI t) = some (bI (gGo a k t)) := by
  have hn : aN a ≤ 8 := hw.1
  obtain ⟨w1, w2, w3⟩ := hw.2.2.1 k hk
  have l0 : s 3 = nI (aLaw a 0) := hs.2.2.2.1 0 (by decide)
  have l2 : s 5 = nI (aLaw a 2) := hs.2.2.2.1 2 (by decide)
  have hho : s 1 = nI (aH a) := hs.2.1
  have g0 := hw.law (k := 0) (by decide)
  have g2 := hw.law (k := 2) (by decide)
  have hld := gld_le a t
  have hsz : f_X6_size N (nI (sN (fun j => decide (aOn a j = t)) (aN a))) = some (nI (gld a t)) := by
    rw [size_ok (sN_256 _ hn) hN, pcN_sN _ hn]
    rfl
  have hpar : ∀ (x y : Option Int32), (if nI (aH a) - nI (aH a) / 2 * 2 = 0 then x else y) = if aH a % 2 = 0 then x else y := fun x y => by
    have e : nI (aH a) - nI (aH a) / 2 * 2 = nI (aH a % 2) := pk_rem (d := 2) hh (by decide) (by decide)
    rw [e]
    exact ite_eq (b := 0) (by omega) (by decide) x y
  unfold f_X6_goesTo
  simp only [lj, itsK hs hn hk, itsI hs hn hk, itsO hs hn hk, X6_marksOn hs hw hN ht, X6_hasName hs hw hN ht, hsz, ob1_s, l0, l2, hho, hpar, ite_le0 (show aInk a k < 2 ^ 31 by omega), ite_le (show aLaw a 0 < 2 ^ 31 by omega) (show gld a t < 2 ^ 31 by omega), ite_le (show t < 2 ^ 31 by omega) (show aOn a k < 2 ^ 31 by omega), ite_lt (show aInk a k < 2 ^ 31 by omega) (show aLaw a 2 < 2 ^ 31 by omega)]
  have q1 : (t ≤ aOn a k) = ¬ (aOn a k < t) := propext Nat.not_lt.symm
  have q2 : (aInk a k < aLaw a 2) = ¬ (aLaw a 2 ≤ aInk a k) := propext Nat.not_le.symm
  have q3 : (aLaw a 0 ≤ gld a t) = ¬ (gld a t < aLaw a 0) := propext Nat.not_lt.symm
  simp only [q1, q2, q3]
  unfold gGo
  rcases six w1 with h | h | h | h | h | h
  all_goals
    rw [h]
    by_cases hi : aInk a k = 0
    · by_cases c4 : aLaw a 2 = 0
      · simp [hi, c4, gdP, bI, nI]
      · have c5 : 0 < aLaw a 2 := by omega
        simp [hi, c4, c5, gdP, bI, nI]
    · have hi2 : 0 < aInk a k := by omega
      by_cases c1 : gld a t < aLaw a 0 <;> by_cases c2 : aOn a k < t <;> by_cases c3 : aH a % 2 = 0 <;> by_cases c4 : aLaw a 2 ≤ aInk a k <;> cases c5 : gnm a t <;> simp [hi, hi2, c1, c2, c3, c4, gdP, bI, nI]
