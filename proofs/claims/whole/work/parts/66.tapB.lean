/-! PURE 27: tokens -/
def rnN (P : Nat → Bool) : Nat → Nat → Nat
  | 0, i => i
  | d + 1, i => if P i = true then rnN P d (i + 1) else i
theorem rnN_ge (P : Nat → Bool) : ∀ d i, i ≤ rnN P d i := by
  intro d
  induction d with
  | zero => intro i; exact Nat.le_refl _
  | succ d ih =>
    intro i
    rw [rnN]
    by_cases h : P i = true
    · rw [if_pos h]; exact Nat.le_trans (Nat.le_succ i) (ih (i + 1))
    · rw [if_neg h]; exact Nat.le_refl _
theorem rnN_le (P : Nat → Bool) : ∀ d i, rnN P d i ≤ i + d := by
  intro d
  induction d with
  | zero => intro i; exact Nat.le_refl _
  | succ d ih =>
    intro i
    rw [rnN]
    by_cases h : P i = true
    · rw [if_pos h]; have := ih (i + 1); omega
    · rw [if_neg h]; omega
theorem rnN_gt {P : Nat → Bool} {d i : Nat} (hd : 0 < d) (h : P i = true) : i < rnN P d i := by
  obtain ⟨d, rfl⟩ : ∃ d', d = d' + 1 := ⟨d - 1, by omega⟩
  rw [rnN, if_pos h]
  exact rnN_ge P d (i + 1)
theorem rnN_in (P : Nat → Bool) : ∀ d i k, i ≤ k → k < rnN P d i → P k = true := by
  intro d
  induction d with
  | zero => intro i k h1 h2; exact absurd h2 (Nat.not_lt.mpr h1)
  | succ d ih =>
    intro i k h1 h2
    rw [rnN] at h2
    by_cases h : P i = true
    · rw [if_pos h] at h2
      by_cases e : i = k
      · rw [← e]; exact h
      · exact ih (i + 1) k (by omega) h2
    · rw [if_neg h] at h2; omega
def isBk (b : Nat → Nat) (i : Nat) : Bool := decide (b i = 32)
def isLt (c : Nat) : Bool := decide (97 ≤ c) && decide (c ≤ 122)
def isDt (c : Nat) : Bool := decide (48 ≤ c) && decide (c ≤ 57)
def tS (b : Nat → Nat) (n p : Nat) : Nat := rnN (isBk b) (n - p) p
def tT (b : Nat → Nat) (n p : Nat) : Nat := if tS b n p < n then (if isLt (b (tS b n p)) = true then 1 else if isDt (b (tS b n p)) = true then 2 else 3) else 0
def tE (b : Nat → Nat) (n p : Nat) : Nat := if tT b n p = 1 then rnN (fun i => isLt (b i)) (n - tS b n p) (tS b n p) else if tT b n p = 2 then rnN (fun i => isDt (b i)) (n - tS b n p) (tS b n p) else if tT b n p = 3 then tS b n p + 1 else tS b n p
def numN (b : Nat → Nat) : Nat → Nat → Nat → Nat
  | 0, _, a => a
  | d + 1, i, a => numN b d (i + 1) (10 * a + b i - 48)
def tV (b : Nat → Nat) (n p : Nat) : Int32 := if tE b n p - tS b n p ≤ 3 then nI (numN b (tE b n p - tS b n p) (tS b n p) 0) else -1
theorem tS_ge (b : Nat → Nat) (n p : Nat) : p ≤ tS b n p := rnN_ge _ _ _
theorem tS_le (b : Nat → Nat) {n p : Nat} (h : p ≤ n) : tS b n p ≤ n := by
  have := rnN_le (isBk b) (n - p) p
  unfold tS
  omega
theorem tT_lt (b : Nat → Nat) {n p : Nat} (h : ¬ tT b n p = 0) : tS b n p < n := by
  by_cases q : tS b n p < n
  · exact q
  · exact absurd (if_neg q) h
theorem tT_3 (b : Nat → Nat) (n p : Nat) : tT b n p = 0 ∨ tT b n p = 1 ∨ tT b n p = 2 ∨ tT b n p = 3 := by
  unfold tT
  split
  · split
    · exact Or.inr (Or.inl rfl)
    · split
      · exact Or.inr (Or.inr (Or.inl rfl))
      · exact Or.inr (Or.inr (Or.inr rfl))
  · exact Or.inl rfl
theorem tT_1l (b : Nat → Nat) {n p : Nat} (h : tT b n p = 1) : isLt (b (tS b n p)) = true := by
  by_cases q : isLt (b (tS b n p)) = true
  · exact q
  · unfold tT at h
    rw [if_neg q] at h
    split at h
    · split at h <;> cases h
    · cases h
theorem tT_2d (b : Nat → Nat) {n p : Nat} (h : tT b n p = 2) : isDt (b (tS b n p)) = true := by
  by_cases q : isDt (b (tS b n p)) = true
  · exact q
  · unfold tT at h
    rw [if_neg q] at h
    split at h
    · split at h <;> cases h
    · cases h
theorem tE_b (b : Nat → Nat) {n p : Nat} (h : p ≤ n) : tS b n p ≤ tE b n p ∧ tE b n p ≤ n ∧ (¬ tT b n p = 0 → tS b n p < tE b n p) := by
  have hs := tS_le b h
  rcases tT_3 b n p with e | e | e | e
  · have : tE b n p = tS b n p := by unfold tE; rw [e]; rfl
    rw [this]
    exact ⟨Nat.le_refl _, hs, fun q => absurd e q⟩
  · have : tE b n p = rnN (fun i => isLt (b i)) (n - tS b n p) (tS b n p) := by unfold tE; rw [if_pos e]
    have g := tT_lt b (n := n) (p := p) (by omega)
    have g1 := rnN_gt (P := fun i => isLt (b i)) (d := n - tS b n p) (i := tS b n p) (by omega) (tT_1l b e)
    have g2 := rnN_le (fun i => isLt (b i)) (n - tS b n p) (tS b n p)
    rw [this]
    exact ⟨by omega, by omega, fun _ => g1⟩
  · have : tE b n p = rnN (fun i => isDt (b i)) (n - tS b n p) (tS b n p) := by unfold tE; rw [e]; rfl
    have g := tT_lt b (n := n) (p := p) (by omega)
    have g1 := rnN_gt (P := fun i => isDt (b i)) (d := n - tS b n p) (i := tS b n p) (by omega) (tT_2d b e)
    have g2 := rnN_le (fun i => isDt (b i)) (n - tS b n p) (tS b n p)
    rw [this]
    exact ⟨by omega, by omega, fun _ => g1⟩
  · have : tE b n p = tS b n p + 1 := by unfold tE; rw [e]; rfl
    have g := tT_lt b (n := n) (p := p) (by omega)
    rw [this]
    exact ⟨by omega, by omega, fun _ => by omega⟩
/-! bytes of both sides -/
theorem cl_l : ∀ c, c < 256 → f_X4_isLetter (sgn c) = bI (isLt c) := by decide +kernel
theorem cl_d : ∀ c, c < 256 → f_X4_isDigit (sgn c) = bI (isDt c) := by decide +kernel
theorem ml_l : ∀ c, c < 256 → f_X6_isAlpha (nI c) = bI (isLt c) := by decide +kernel
theorem ml_d : ∀ c, c < 256 → f_X6_isDigit (nI c) = bI (isDt c) := by decide +kernel
theorem sgn_eq {b c : Nat} (hb : b < 256) (hc : c < 128) : sgn b = nI c ↔ b = c := by
  by_cases q : b < 128
  · rw [sgn_lt b q, nI_eq (by omega) (by omega)]
  · refine ⟨fun e => ?_, fun e => by omega⟩
    have h1 := sgn_neg b hb (by omega)
    rw [e] at h1
    exact absurd h1 (nI_pos (by omega))
theorem isDt_r {c : Nat} (h : isDt c = true) : 48 ≤ c ∧ c ≤ 57 := by
  unfold isDt at h
  simpa using h
theorem bI_0 (x : Bool) : bI x = 0 ↔ ¬ x = true := by cases x <;> decide
theorem bI_if {α : Type} (x : Bool) (A B : α) : (if bI x = 0 then A else B) = if x = true then B else A := by cases x <;> rfl
/-! the class's -/
theorem C_L8 {b : Nat → Nat} {n : Nat} (k : TV → Option TV) : ∀ (d i f : Nat) (v : TV), i + d = n → d < f → TC b n v → tpStart v = nI i → f_X4_next_L8 k f v = k (tpSetStart v (nI (rnN (isBk b) d i))) := by
  intro d
  induction d with
  | zero =>
    intro i f v hi hf hc hs
    obtain ⟨f, rfl⟩ : ∃ f', f = f' + 1 := ⟨f - 1, by omega⟩
    obtain ⟨h1, h2, h3⟩ := hc
    rw [f_X4_next_L8, h2, hs, if_pos (nI_le (by omega) (by omega))]
    show k v = k (tpSetStart v (nI i))
    rw [← hs]
  | succ d ih =>
    intro i f v hi hf hc hs
    obtain ⟨f, rfl⟩ : ∃ f', f = f' + 1 := ⟨f - 1, by omega⟩
    obtain ⟨h1, h2, h3⟩ := id hc
    obtain ⟨g1, g2⟩ := h3 i (by omega)
    rw [f_X4_next_L8, h2, hs, if_neg (nI_ge (by omega) (by omega)), rdA_nI (by omega) (by decide), g2, rnN]
    by_cases q : b i = 32
    · have c1 : sgn (b i) = 32 := (sgn_eq (c := 32) g1 (by decide)).mpr q
      rw [if_pos c1, if_pos (show isBk b i = true from decide_eq_true q), lj_s, lj_s, nI_1]
      exact ih (i + 1) f (tpSetStart v (nI (i + 1))) (by omega) (by omega) hc rfl
    · have c1 : ¬ sgn (b i) = 32 := fun z => q ((sgn_eq (c := 32) g1 (by decide)).mp z)
      rw [if_neg c1, if_neg (show ¬ isBk b i = true by unfold isBk; simpa using q)]
      show k v = k (tpSetStart v (nI i))
      rw [← hs]
theorem C_L93 {b : Nat → Nat} {n : Nat} : ∀ (d i f : Nat) (v : TV), i + d = n → d < f → TC b n v → tpEnd v = nI i → f_X4_next_L93 f v = some (tpSetEnd v (nI (rnN (fun i => isLt (b i)) d i))) := by
  intro d
  induction d with
  | zero =>
    intro i f v hi hf hc hs
    obtain ⟨f, rfl⟩ : ∃ f', f = f' + 1 := ⟨f - 1, by omega⟩
    obtain ⟨h1, h2, h3⟩ := hc
    rw [f_X4_next_L93, h2, hs, if_pos (nI_le (by omega) (by omega))]
    show some v = some (tpSetEnd v (nI i))
    rw [← hs]
  | succ d ih =>
    intro i f v hi hf hc hs
    obtain ⟨f, rfl⟩ : ∃ f', f = f' + 1 := ⟨f - 1, by omega⟩
    obtain ⟨h1, h2, h3⟩ := id hc
    obtain ⟨g1, g2⟩ := h3 i (by omega)
    rw [f_X4_next_L93, h2, hs, if_neg (nI_ge (by omega) (by omega)), rdA_nI (by omega) (by decide), g2, cl_l _ g1, bI_if, rnN]
    by_cases q : isLt (b i) = true
    · rw [if_pos q, if_pos q, lj_s, lj_s, nI_1]
      exact ih (i + 1) f (tpSetEnd v (nI (i + 1))) (by omega) (by omega) hc rfl
    · rw [if_neg q, if_neg q]
      show some v = some (tpSetEnd v (nI i))
      rw [← hs]
theorem C_L152 {b : Nat → Nat} {n : Nat} (k : TV → Option TV) : ∀ (d i f : Nat) (v : TV), i + d = n → d < f → TC b n v → tpEnd v = nI i → f_X4_next_L152 k f v = k (tpSetEnd v (nI (rnN (fun i => isDt (b i)) d i))) := by
  intro d
  induction d with
  | zero =>
    intro i f v hi hf hc hs
    obtain ⟨f, rfl⟩ : ∃ f', f = f' + 1 := ⟨f - 1, by omega⟩
    obtain ⟨h1, h2, h3⟩ := hc
    rw [f_X4_next_L152, h2, hs, if_pos (nI_le (by omega) (by omega))]
    show k v = k (tpSetEnd v (nI i))
    rw [← hs]
  | succ d ih =>
    intro i f v hi hf hc hs
    obtain ⟨f, rfl⟩ : ∃ f', f = f' + 1 := ⟨f - 1, by omega⟩
    obtain ⟨h1, h2, h3⟩ := id hc
    obtain ⟨g1, g2⟩ := h3 i (by omega)
    rw [f_X4_next_L152, h2, hs, if_neg (nI_ge (by omega) (by omega)), rdA_nI (by omega) (by decide), g2, cl_d _ g1, bI_if, rnN]
    by_cases q : isDt (b i) = true
    · rw [if_pos q, if_pos q, lj_s, lj_s, nI_1]
      exact ih (i + 1) f (tpSetEnd v (nI (i + 1))) (by omega) (by omega) hc rfl
    · rw [if_neg q, if_neg q]
      show k v = k (tpSetEnd v (nI i))
      rw [← hs]
theorem C_L22 {b : Nat → Nat} {n e : Nat} {v : TV} (hc : TC b n v) (he : tpEnd v = nI e) (hn : e ≤ n) : ∀ (d i f a : Nat), i + d = e → d < f → (∀ k, i ≤ k → k < e → isDt (b k) = true) → f_X4_numberTold_L22 v f (nI i) (nI a) = some (nI (numN b d i a)) := by
  obtain ⟨h1, h2, h3⟩ := hc
  intro d
  induction d with
  | zero =>
    intro i f a hi hf hd
    obtain ⟨f, rfl⟩ : ∃ f', f = f' + 1 := ⟨f - 1, by omega⟩
    rw [f_X4_numberTold_L22, he, if_pos (nI_le (by omega) (by omega))]
    rfl
  | succ d ih =>
    intro i f a hi hf hd
    obtain ⟨f, rfl⟩ : ∃ f', f = f' + 1 := ⟨f - 1, by omega⟩
    obtain ⟨g1, g2⟩ := h3 i (by omega)
    obtain ⟨q1, q2⟩ := isDt_r (hd i (Nat.le_refl _) (by omega))
    have ev : nI a * 10 + nI (b i) - 48 = nI (10 * a + b i - 48) := by
      show nI a * nI 10 + nI (b i) - nI 48 = _
      rw [pk_mul, nI_add, pk_sub (by omega), Nat.mul_comm]
    rw [f_X4_numberTold_L22, he, if_neg (nI_ge (by omega) (by omega)), rdA_nI (by omega) (by decide), g2, sgn_lt _ (by omega), ev, lj_s, lj_s, nI_1]
    exact ih (i + 1) f _ (by omega) (by omega) (fun k z1 z2 => hd k (by omega) z2)
def CT (b : Nat → Nat) (n p : Nat) (v : TV) : Prop := p ≤ n ∧ TC b n v ∧ tpToken v = nI (tT b n p) ∧ tpStart v = nI (tS b n p) ∧ tpEnd v = nI (tE b n p) ∧ (tT b n p = 2 → tpValue v = tV b n p)
def nx2 (N : Nat) (v6 : TV) : Option TV := if (tpStart v6) < (tpLength v6) then rdA (tpBytes v6) 200 (tpStart v6) (fun (y9 : Int32) => if (f_X4_isLetter y9) = 0 then rdA (tpBytes v6) 200 (tpStart v6) (fun (y13 : Int32) => if (f_X4_isDigit y13) = 0 then some (tpSetEnd (tpSetToken v6 3) ((tpEnd v6) + 1)) else f_X4_next_L152 (fun (v20 : TV) => ob1 (f_X4_numberTold N v20) (fun (r22 : Int32) => some (tpSetValue v20 r22))) N (tpSetToken v6 2)) else f_X4_next_L93 N (tpSetToken v6 1)) else some (tpSetToken v6 0)
theorem nx2_e (N : Nat) (v : TV) : f_X4_next N v = f_X4_next_L8 (fun v3 => nx2 N (tpSetEnd v3 (tpStart v3))) N (tpSetStart v (tpEnd v)) := rfl
theorem nx2_ok {b : Nat → Nat} {n p N : Nat} (hN : 500 ≤ N) (hp : p ≤ n) {w : TV} (hc : TC b n w) (hs : tpStart w = nI (tS b n p)) (he : tpEnd w = nI (tS b n p)) : ∃ v', nx2 N w = some v' ∧ CT b n p v' := by
  obtain ⟨h1, h2, h3⟩ := id hc
  have hsn := tS_le b hp
  unfold nx2
  rw [hs, h2]
  by_cases q : tS b n p < n
  · obtain ⟨g1, g2⟩ := h3 _ q
    rw [if_pos (nI_lt q (by omega)), rdA_nI (by omega) (by decide), g2, cl_l _ g1, bI_if]
    by_cases l : isLt (b (tS b n p)) = true
    · have hT : tT b n p = 1 := by unfold tT; rw [if_pos q, if_pos l]
      have hE : tE b n p = rnN (fun i => isLt (b i)) (n - tS b n p) (tS b n p) := by unfold tE; rw [if_pos hT]
      rw [if_pos l, C_L93 (b := b) (n := n) (n - tS b n p) (tS b n p) N (tpSetToken w 1) (by omega) (by omega) hc he, ← hE]
      exact ⟨_, rfl, hp, hc, by rw [hT]; rfl, hs, rfl, fun z => by rw [hT] at z; cases z⟩
    · rw [if_neg l, rdA_nI (by omega) (by decide), g2, cl_d _ g1, bI_if]
      by_cases dg : isDt (b (tS b n p)) = true
      · have hT : tT b n p = 2 := by unfold tT; rw [if_pos q, if_neg l, if_pos dg]
        have hE : tE b n p = rnN (fun i => isDt (b i)) (n - tS b n p) (tS b n p) := by unfold tE; rw [hT]; rfl
        obtain ⟨b1, b2, -⟩ := tE_b b hp
        rw [if_pos dg, C_L152 (b := b) (n := n) _ (n - tS b n p) (tS b n p) N (tpSetToken w 2) (by omega) (by omega) hc he, ← hE]
        have hnt : f_X4_numberTold N (tpSetEnd (tpSetToken w 2) (nI (tE b n p))) = some (tV b n p) := by
          have key : ∀ u : TV, TC b n u → tpStart u = nI (tS b n p) → tpEnd u = nI (tE b n p) → f_X4_numberTold N u = some (tV b n p) := by
            intro u hu k1 k2
            unfold f_X4_numberTold tV
            rw [k1, k2, pk_sub b1]
            by_cases z : tE b n p - tS b n p ≤ 3
            · rw [if_pos (show nI (tE b n p - tS b n p) ≤ 3 from nI_le (b := 3) z (by decide)), if_pos z, lj_s]
              exact C_L22 hu k2 b2 (tE b n p - tS b n p) (tS b n p) N 0 (by omega) (by omega) (fun k z1 z2 => rnN_in (fun i => isDt (b i)) (n - tS b n p) (tS b n p) k z1 (by rw [← hE]; exact z2))
            · rw [if_neg (show ¬ nI (tE b n p - tS b n p) ≤ 3 from nI_ge (a := 3) (by omega) (by omega)), if_neg z]
          exact key _ hc hs rfl
        rw [hnt, ob1_s]
        exact ⟨_, rfl, hp, hc, by rw [hT]; rfl, hs, rfl, fun _ => rfl⟩
      · have hT : tT b n p = 3 := by unfold tT; rw [if_pos q, if_neg l, if_neg dg]
        have hE : tE b n p = tS b n p + 1 := by unfold tE; rw [hT]; rfl
        rw [if_neg dg, he, nI_1]
        exact ⟨_, rfl, hp, hc, by rw [hT]; rfl, hs, by rw [hE], fun z => by rw [hT] at z; cases z⟩
  · have hT : tT b n p = 0 := by unfold tT; rw [if_neg q]
    have hE : tE b n p = tS b n p := by unfold tE; rw [hT]; rfl
    rw [if_neg (nI_nlt (by omega) (by omega))]
    exact ⟨_, rfl, hp, hc, by rw [hT]; rfl, hs, by rw [hE]; exact he, fun z => by rw [hT] at z; cases z⟩
theorem C_next {b : Nat → Nat} {n p N : Nat} (hN : 500 ≤ N) (hp : p ≤ n) {v : TV} (hc : TC b n v) (he : tpEnd v = nI p) : ∃ v', f_X4_next N v = some v' ∧ CT b n p v' := by
  have hn := hc.1
  rw [nx2_e, C_L8 (b := b) (n := n) _ (n - p) p N (tpSetStart v (tpEnd v)) (by omega) (by omega) hc he]
  exact nx2_ok hN hp hc rfl rfl
theorem C_nextT {b : Nat → Nat} {n p N : Nat} (hN : 500 ≤ N) {v : TV} (h : CT b n p v) : ∃ v', f_X4_next N v = some v' ∧ CT b n (tE b n p) v' := C_next hN (tE_b b h.1).2.1 h.2.1 h.2.2.2.2.1
