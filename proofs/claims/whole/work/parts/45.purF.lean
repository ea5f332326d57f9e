/-! PURE 6: hours by draws, hours on end, copies -/
def gHrN (a : AP) (z2 z3 : Int32) (u1 u2 u3 : Nat) : AP :=
  if u2 % 100 < aLaw a 3 then
    gPh (if u3 % 8 = u1 % 8 then aSZ a z3 else gMt (aSZ a z3) (u1 % 8) (u3 % 8))
  else gPh (aSZ a z2)
theorem gHrN_n (a : AP) (z2 z3 : Int32) (u1 u2 u3 : Nat) : aN (gHrN a z2 z3 u1 u2 u3) = aN a := by
  unfold gHrN
  split
  · rw [gPh_n]
    split
    · exact Eq.refl (aN a)
    · exact Eq.refl (aN a)
  · rw [gPh_n]
theorem WF_Mt {a : AP} (h : WF a) {x y : Nat} (hx : x < 8) (hy : y < 8) : WF (gMt a x y) := WF_MtP h hx hy _
theorem WF_HrN {a : AP} (h : WF a) (z2 z3 : Int32) (u1 u2 u3 : Nat) : WF (gHrN a z2 z3 u1 u2 u3) := by
  unfold gHrN
  split
  · split
    · exact WF_Ph (WF_z h _)
    · exact WF_Ph (WF_Mt (WF_z h _) (Nat.mod_lt _ (by decide)) (Nat.mod_lt _ (by decide)))
  · exact WF_Ph (WF_z h _)
theorem gHrN_h (a : AP) (z2 z3 : Int32) (u1 u2 u3 : Nat) : aH (gHrN a z2 z3 u1 u2 u3) = aH a + 1 := by
  unfold gHrN
  split
  · rw [gPh_h]
    split
    · exact Eq.refl (aH a + 1)
    · exact Eq.refl (aH a + 1)
  · rw [gPh_h]
def gHr (a : AP) : AP := gHrN a (gZ (gZ (aZ a))) (gZ (gZ (gZ (aZ a)))) (gU (gZ (aZ a))) (gU (gZ (gZ (aZ a)))) (gU (gZ (gZ (gZ (aZ a)))))
theorem gHr_n (a : AP) : aN (gHr a) = aN a := gHrN_n a _ _ _ _ _
theorem WF_Hr {a : AP} (h : WF a) : WF (gHr a) := WF_HrN h _ _ _ _ _
theorem gHr_h (a : AP) : aH (gHr a) = aH a + 1 := gHrN_h a _ _ _ _ _
theorem rem8 {u : Nat} (hu : u < 65536) : nI u - nI u / 8 * 8 = nI (u % 8) := pk_rem (d := 8) (by omega) (by decide) (by decide)
theorem rem100 {u : Nat} (hu : u < 65536) : nI u - nI u / 100 * 100 = nI (u % 100) := pk_rem (d := 100) (by omega) (by decide) (by decide)
theorem lj_s {κ ρ : Type} (k : κ) (f : κ → ρ) : lj k f = f k := rfl
theorem X1_hourBDZ {N : Nat} {a : AP} {v : PV} (hv : CV a v) (hw : WF a) (hN : 9 ≤ N) (hh : aH a + 1 < 2 ^ 31) {z1 z2 z3 : Int32} {u1 u2 u3 : Nat} (e1 : gZ (aZ a) = z1) (e2 : gZ z1 = z2) (e3 : gZ z2 = z3) (f1 : gU z1 = u1) (f2 : gU z2 = u2) (f3 : gU z3 = u3) : ∃ v', f_X1_passHourByDraws N v = some v' ∧ CV (gHrN a z2 z3 u1 u2 u3) v' := by
  unfold gHrN
  have d1 : f_X1_draw v = some (nI u1, pSetZ v z1) := by rw [X1_draw hv, e1, f1]
  have d2 : f_X1_draw (pSetZ v z1) = some (nI u2, pSetZ (pSetZ v z1) z2) := by rw [X1_draw (CV_z hv z1)]; show some (nI (gU (gZ z1)), pSetZ _ (gZ z1)) = _; rw [e2, f2]
  have d3 : f_X1_draw (pSetZ (pSetZ v z1) z2) = some (nI u3, pSetZ (pSetZ (pSetZ v z1) z2) z3) := by rw [X1_draw (CV_z (CV_z hv z1) z2)]; show some (nI (gU (gZ z2)), pSetZ _ (gZ z2)) = _; rw [e3, f3]
  have u1' := gU_lt z1
  have u2' := gU_lt z2
  have u3' := gU_lt z3
  rw [f1] at u1'
  rw [f2] at u2'
  rw [f3] at u3'
  clear e1 e2 e3 f1 f2 f3
  have hl : pLaws (pSetZ (pSetZ v z1) z2) 3 = nI (aLaw a 3) := hv.2.2.2.1 3 (by decide)
  have gl := hw.law (k := 3) (by decide)
  have c1 := CV_z (CV_z hv z1) z2
  have c3 := CV_z c1 z3
  unfold f_X1_passHourByDraws
  rw [d1, ob2_s, lj_s, d2, ob2_s, lj_s, hl, rem100 u2', d3, ob2_s, lj_s, rem8 u1', rem8 u3']
  by_cases c : u2 % 100 < aLaw a 3
  · rw [if_pos c, if_neg (nI_ge c (by omega))]
    by_cases c2 : u3 % 8 = u1 % 8
    · rw [if_pos c2, if_pos (by rw [c2])]
      obtain ⟨v', q1, q2, -⟩ := X1_passHour c3 (WF_z hw _) hN hh
      exact ⟨v', by show ob1 (f_X1_passHour N _) (fun v10 => some v10) = _; rw [q1, ob1_s], q2⟩
    · rw [if_neg c2, if_neg (eq_n (by omega) (by omega) c2)]
      obtain ⟨u, q1, q2, -⟩ := X1_meet (x := u1 % 8) (y := u3 % 8) c3 (WF_z hw _) hN (by show aH a < 2 ^ 31; omega) (Nat.mod_lt _ (by decide)) (Nat.mod_lt _ (by decide))
      rw [q1, ob1_s]
      obtain ⟨v', q3, q4, -⟩ := X1_passHour q2 (WF_Mt (WF_z hw _) (Nat.mod_lt _ (by decide)) (Nat.mod_lt _ (by decide))) hN hh
      exact ⟨v', by show ob1 (f_X1_passHour N _) (fun v10 => some v10) = _; rw [q3, ob1_s], q4⟩
  · rw [if_neg c, if_pos (nI_le (by omega) (by omega))]
    obtain ⟨v', q1, q2, -⟩ := X1_passHour c1 (WF_z hw _) hN hh
    exact ⟨v', by show ob1 (f_X1_passHour N _) (fun v10 => some v10) = _; rw [q1, ob1_s], q2⟩
theorem X1_hourBD {N : Nat} {a : AP} {v : PV} (hv : CV a v) (hw : WF a) (hN : 9 ≤ N) (hh : aH a + 1 < 2 ^ 31) : ∃ v', f_X1_passHourByDraws N v = some v' ∧ CV (gHr a) v' := X1_hourBDZ hv hw hN hh rfl rfl rfl rfl rfl rfl
theorem itH (a : AP) : ∀ (n : Nat), aH (itN gPh n a) = aH a + n := by
  intro n
  induction n with
  | zero => rfl
  | succ n ih => rw [itN_succ, gPh_h, ih]; omega
theorem itA (a : AP) : ∀ (n : Nat), aN (itN gPh n a) = aN a := by
  intro n
  induction n with
  | zero => rfl
  | succ n ih => rw [itN_succ, gPh_n, ih]
theorem itW {a : AP} (h : WF a) : ∀ (n : Nat), WF (itN gPh n a) := by
  intro n
  induction n with
  | zero => exact h
  | succ n ih => rw [itN_succ]; exact WF_Ph ih
theorem X6_goes {N : Nat} {a : AP} {s : Nat → Int32} (hs : CM a s) (hw : WF a) (hN : 9 ≤ N) {n : Nat} (hn : n < N) (hn2 : n < 2 ^ 31) (hh : aH a + n < 2 ^ 31) : ∃ s', f_X6_goes N s (nI n) = some s' ∧ CM (itN gPh n a) s' := by
  have key : ∀ (d j f : Nat) (a : AP) (s : Nat → Int32), j + d = n → d < f → CM a s → WF a → aH a + d < 2 ^ 31 → ∃ s', f_X6_goes_L2 N (nI n) f (nI j) s = some s' ∧ CM (itN gPh d a) s' := by
    intro d
    induction d with
    | zero =>
      intro j f a s hj hf hs _ _
      obtain ⟨f, rfl⟩ : ∃ f', f = f' + 1 := ⟨f - 1, by omega⟩
      refine ⟨s, ?_, hs⟩
      rw [f_X6_goes_L2, if_pos (nI_le (by omega) (by omega))]
    | succ d ih =>
      intro j f a s hj hf hs hw hh
      obtain ⟨f, rfl⟩ : ∃ f', f = f' + 1 := ⟨f - 1, by omega⟩
      obtain ⟨s1, q1, q2⟩ := X6_goesOn hs hw hN (by omega)
      obtain ⟨s2, q3, q4⟩ := ih (j + 1) f (gPh a) s1 (by omega) (by omega) q2 (WF_Ph hw) (by rw [gPh_h]; omega)
      refine ⟨s2, ?_, q4⟩
      rw [f_X6_goes_L2, if_neg (nI_ge (by omega) (by omega)), q1, ob2_s]
      simp only [lj, nI_1]
      exact q3
  exact key n 0 N a s (by omega) hn hs hw hh
theorem X6_goes1 {N : Nat} {a : AP} {s : Nat → Int32} (hs : CM a s) (hw : WF a) (hN : 9 ≤ N) (hh : aH a + 1 < 2 ^ 31) : ∃ s', f_X6_goes N s 1 = some s' ∧ CM (gPh a) s' := X6_goes hs hw hN (n := 1) (by omega) (by decide) hh
theorem gMk_lt {a : AP} (hw : WF a) : gMk a < 256 := by
  have : ∀ (d j m : Nat), j + d = aN a → m < 256 → fld (fun j m => m ||| 2 ^ aOn a j) j d m < 256 := by
    intro d
    induction d with
    | zero => intro j m _ hm; exact hm
    | succ d ih => intro j m hj hm; exact ih (j + 1) _ (by omega) (Nat.or_lt_two_pow (n := 8) hm (Nat.pow_lt_pow_right (by decide) (hw.2.2.1 j (by omega)).2.2))
  exact this (aN a) 0 0 (by omega) (by decide)
theorem X6_hourZ {N : Nat} {a : AP} {s : Nat → Int32} (hs : CM a s) (hw : WF a) (hN : 9 ≤ N) (hh : aH a + 1 < 2 ^ 31) {z1 z2 z3 : Int32} {u1 u2 u3 : Nat} (e1 : gZ (aZ a) = z1) (e2 : gZ z1 = z2) (e3 : gZ z2 = z3) (f1 : gU z1 = u1) (f2 : gU z2 = u2) (f3 : gU z3 = u3) : ∃ s', f_X6_hour N s = some (nI (pcN (gMk (gHrN a z2 z3 u1 u2 u3))), s') ∧ CM (gHrN a z2 z3 u1 u2 u3) s' := by
  have fin : ∀ (b : AP) (u : Nat → Int32), CM b u → WF b → aH b + 1 < 2 ^ 31 → ∃ s', ob1 (f_X6_goes N u 1) (fun (v10 : Nat → Int32) => ob1 (f_X6_marked N v10) (fun (r12 : Int32) => ob1 (f_X6_size N r12) (fun (r14 : Int32) => some (r14, v10)))) = some (nI (pcN (gMk (gPh b))), s') ∧ CM (gPh b) s' := by
    intro b u hu hb hbh
    obtain ⟨s1, q1, q2⟩ := X6_goes1 hu hb hN hbh
    refine ⟨s1, ?_, q2⟩
    rw [q1, ob1_s, X6_marked q2 (WF_Ph hb) hN, ob1_s, size_ok (gMk_lt (WF_Ph hb)) hN, ob1_s]
  have d1 : f_X6_drawn s = some (nI u1, upd s 2 z1) := by rw [X6_drawn hs, e1, f1]
  have d2 : f_X6_drawn (upd s 2 z1) = some (nI u2, upd (upd s 2 z1) 2 z2) := by rw [X6_drawn (CM_z hs z1)]; show some (nI (gU (gZ z1)), upd _ 2 (gZ z1)) = _; rw [e2, f2]
  have d3 : f_X6_drawn (upd (upd s 2 z1) 2 z2) = some (nI u3, upd (upd (upd s 2 z1) 2 z2) 2 z3) := by rw [X6_drawn (CM_z (CM_z hs z1) z2)]; show some (nI (gU (gZ z2)), upd _ 2 (gZ z2)) = _; rw [e3, f3]
  have u1' := gU_lt z1
  have u2' := gU_lt z2
  have u3' := gU_lt z3
  rw [f1] at u1'
  rw [f2] at u2'
  rw [f3] at u3'
  clear e1 e2 e3 f1 f2 f3
  have c1 := CM_z (CM_z hs z1) z2
  have c3 := CM_z c1 z3
  have hl : (upd (upd s 2 z1) 2 z2) 6 = nI (aLaw a 3) := c1.2.2.2.1 3 (by decide)
  have gl := hw.law (k := 3) (by decide)
  unfold f_X6_hour
  rw [d1, ob2_s, lj_s, d2, ob2_s, lj_s, hl, rem8 u1', rem100 u2', d3, ob2_s, lj_s, rem8 u3', lj_s]
  unfold gHrN
  by_cases c : u2 % 100 < aLaw a 3
  · rw [if_pos c, if_neg (nI_ge c (by omega))]
    by_cases c2 : u3 % 8 = u1 % 8
    · rw [if_pos c2, if_pos (by rw [c2])]
      exact fin _ _ c3 (WF_z hw _) hh
    · rw [if_neg c2, if_neg (eq_n (by omega) (by omega) (fun q => c2 q.symm))]
      obtain ⟨u, q1, q2⟩ := X6_touches (x := u1 % 8) (y := u3 % 8) c3 (WF_z hw _) hN (by show aH a < 2 ^ 31; omega) (Nat.mod_lt _ (by decide)) (Nat.mod_lt _ (by decide))
      rw [q1, ob2_s]
      exact fin _ _ q2 (WF_Mt (WF_z hw _) (Nat.mod_lt _ (by decide)) (Nat.mod_lt _ (by decide))) hh
  · rw [if_neg c, if_pos (nI_le (by omega) (by omega))]
    exact fin _ _ c1 (WF_z hw _) hh
theorem X6_hour {N : Nat} {a : AP} {s : Nat → Int32} (hs : CM a s) (hw : WF a) (hN : 9 ≤ N) (hh : aH a + 1 < 2 ^ 31) : ∃ s', f_X6_hour N s = some (nI (pcN (gMk (gHr a))), s') ∧ CM (gHr a) s' := X6_hourZ hs hw hN hh rfl rfl rfl rfl rfl rfl
/-! copies -/
theorem cpy_lt {f g : Nat → Int32} {n k : Nat} (h : k < n) : va_cpy f g 0 0 n k = f k := by
  rw [pk_cpy_in (Nat.zero_le _) (by omega)]
  simp
theorem X1_become {a : AP} {v w : PV} (hw : CV a w) (hn : aN a ≤ 8) : ∃ v', f_X1_become v w = some v' ∧ CV a v' := by
  obtain ⟨h1, h2, h3, h4, h5, h6⟩ := hw
  refine ⟨_, rfl, h1, h2, h3, fun k hk => (cpy_lt hk).trans (h4 k hk), fun k hk => ?_, fun r hr => ?_⟩
  · obtain ⟨g1, g2, g3⟩ := h5 k hk
    exact ⟨(cpy_lt (by omega)).trans g1, (cpy_lt (by omega)).trans g2, (cpy_lt (by omega)).trans g3⟩
  · obtain ⟨g1, g2⟩ := h6 r hr
    exact ⟨(cpy_lt hr).trans g1, (cpy_lt hr).trans g2⟩
theorem X6_copyRow {N : Nat} (hN : 44 ≤ N) (s t : Nat → Int32) : ∃ t', f_X6_copyRow N s t = some t' ∧ ∀ i, i < 43 → t' i = s i := by
  obtain ⟨t', e1, e2⟩ := lpR (L := fun f i (u : Nat → Int32) => f_X6_copyRow_L2 s f i u) (k := fun u => some u) (n := 43) (fun j (_ : Unit) (u : Nat → Int32) => ∀ i, i < j → u i = s i) (fun _ u => u)
    (fun f _ u _ => by show f_X6_copyRow_L2 s (f + 1) (nI 43) u = _; rw [f_X6_copyRow_L2, if_pos (by decide)])
    (fun f j _ u hj hu => by
      show ∃ s', f_X6_copyRow_L2 s (f + 1) (nI j) u = f_X6_copyRow_L2 s f (nI (j + 1)) s' ∧ _
      rw [f_X6_copyRow_L2, if_neg (show ¬ (43 : Int32) ≤ nI j from nI_ge hj (by decide)), rdA_nI hj (by decide), ckA_nI hj (by decide), nI_clamp (by omega)]
      simp only [lj, nI_1]
      refine ⟨_, rfl, fun i hi => ?_⟩
      by_cases e : i = j
      · rw [e, upd_s]
      · rw [upd_n e]; exact hu i (by omega))
    43 0 N () t (by omega) (by omega) (fun i hi => absurd hi (by omega))
  exact ⟨t', e1, e2⟩
/-! the first hour of something -/
def gSn (P : AP → Bool) : Nat → AP → Nat
  | 0, a => if P a = true then 0 else 1
  | d + 1, a => if P a = true then 0 else gSn P d (gPh a) + 1
theorem gSn_le (P : AP → Bool) : ∀ (d : Nat) (a : AP), gSn P d a ≤ d + 1 := by
  intro d
  induction d with
  | zero => intro a; unfold gSn; split <;> omega
  | succ d ih => intro a; unfold gSn; have := ih (gPh a); split <;> omega
theorem gSn_cut (P : AP → Bool) : ∀ (n m : Nat) (a : AP), m ≤ n → (gSn P n a ≤ m → gSn P m a = gSn P n a) ∧ (m < gSn P n a → gSn P m a = m + 1) := by
  intro n
  induction n with
  | zero => intro m a hm; have : m = 0 := by omega
            subst this; have := gSn_le P 0 a; exact ⟨fun _ => rfl, fun h => by omega⟩
  | succ n ih =>
    intro m a hm
    cases m with
    | zero =>
      unfold gSn
      by_cases h : P a = true
      · rw [if_pos h, if_pos h]; exact ⟨fun _ => rfl, fun q => by omega⟩
      · rw [if_neg h, if_neg h]; exact ⟨fun q => by omega, fun _ => rfl⟩
    | succ m =>
      unfold gSn
      by_cases h : P a = true
      · rw [if_pos h, if_pos h]; exact ⟨fun _ => rfl, fun q => by omega⟩
      · rw [if_neg h, if_neg h]
        obtain ⟨q1, q2⟩ := ih m (gPh a) (by omega)
        exact ⟨fun q => by rw [q1 (by omega)], fun q => by rw [q2 (by omega)]⟩
theorem lpSn {σ β : Type} (P : AP → Bool) {L : Nat → Int32 → σ → Option β} {R : Nat → AP → σ → Prop} {m : Nat} (ok : Nat → σ → Option β) (no : σ → Option β)
    (h0 : ∀ (f : Nat) (a : AP) (s : σ), R (m + 1) a s → L (f + 1) (nI (m + 1)) s = no s)
    (h1 : ∀ (f j : Nat) (a : AP) (s : σ), j ≤ m → R j a s → (P a = true → L (f + 1) (nI j) s = ok j s) ∧ (P a = false → ∃ s', L (f + 1) (nI j) s = L f (nI (j + 1)) s' ∧ R (j + 1) (gPh a) s')) :
    ∀ (d j f : Nat) (a : AP) (s : σ), j + d = m → d + 1 < f → R j a s → ∃ s', (j + gSn P d a ≤ m → L f (nI j) s = ok (j + gSn P d a) s') ∧ (m < j + gSn P d a → L f (nI j) s = no s') := by
  intro d
  induction d with
  | zero =>
    intro j f a s hj hf hr
    obtain ⟨f, rfl⟩ : ∃ f', f = f' + 1 := ⟨f - 1, by omega⟩
    obtain ⟨f, rfl⟩ : ∃ f', f = f' + 1 := ⟨f - 1, by omega⟩
    obtain ⟨q1, q2⟩ := h1 (f + 1) j a s (by omega) hr
    unfold gSn
    cases h : P a with
    | true => exact ⟨s, fun _ => q1 h, fun q => by rw [if_pos rfl] at q; omega⟩
    | false =>
      obtain ⟨s', e1, e2⟩ := q2 h
      refine ⟨s', fun q => by rw [if_neg (by decide)] at q; omega, fun _ => ?_⟩
      have ej : j + 1 = m + 1 := by omega
      rw [e1, ej]
      rw [ej] at e2
      exact h0 f _ _ e2
  | succ d ih =>
    intro j f a s hj hf hr
    obtain ⟨f, rfl⟩ : ∃ f', f = f' + 1 := ⟨f - 1, by omega⟩
    obtain ⟨q1, q2⟩ := h1 f j a s (by omega) hr
    unfold gSn
    cases h : P a with
    | true => exact ⟨s, fun _ => q1 h, fun q => by rw [if_pos rfl] at q; omega⟩
    | false =>
      obtain ⟨s1, e1, e2⟩ := q2 h
      obtain ⟨s2, e3, e4⟩ := ih (j + 1) f (gPh a) s1 (by omega) (by omega) e2
      refine ⟨s2, fun q => ?_, fun q => ?_⟩
      · rw [if_neg (by decide)] at q ⊢
        rw [e1, e3 (by omega), show j + 1 + gSn P d (gPh a) = j + (gSn P d (gPh a) + 1) by omega]
      · rw [if_neg (by decide)] at q
        rw [e1, e4 (by omega)]
def gOn (k w : Nat) : AP → Bool := fun a => decide (aOn a k = w)
def gBr (w : Nat) : AP → Bool := fun a => decide (sN (fun j => decide (aOn a j = w)) (aN a) = 0)
def gDy : AP → Bool := fun a => decide (gIn a = 0)
def gRs (m r : Nat) : Int32 := if r ≤ m then nI r else -3
theorem rs_of {β : Type} {m r : Nat} {X : Option (Int32 × β)} {s : β} (h1 : r ≤ m → X = some (nI r, s)) (h2 : m < r → X = some (-3, s)) : X = some (gRs m r, s) := by
  unfold gRs
  by_cases h : r ≤ m
  · rw [if_pos h]; exact h1 h
  · rw [if_neg h]; exact h2 (by omega)
def RV (m : Nat) (j : Nat) (a : AP) (v : PV) : Prop := CV a v ∧ WF a ∧ aH a + (m + 1 - j) < 2 ^ 31
def RM (m : Nat) (j : Nat) (a : AP) (s : Nat → Int32) : Prop := CM a s ∧ WF a ∧ aH a + (m + 1 - j) < 2 ^ 31
theorem X1_untilOn {N : Nat} {a : AP} {v : PV} (hv : CV a v) (hw : WF a) (hN : 9 ≤ N) {k w m : Nat} (hm : m + 2 < N) (hm2 : m < 1000) (hh : aH a + 1001 < 2 ^ 31) (hk : k < aN a) (hw8 : w < 8) : ∃ v', f_X1_hoursUntilOn N v (nI k) (nI w) (nI m) = some (gRs m (gSn (gOn k w) m a), v') := by
  obtain ⟨v', q1, q2⟩ := lpSn (gOn k w) (L := fun f i u => f_X1_hoursUntilOn_L3 N (nI k) (nI w) (nI m) f i u) (R := fun j b u => RV m j b u ∧ k < aN b) (m := m) (fun j u => some (nI j, u)) (fun u => some (-3, u))
    (fun f b u hu => by
      show f_X1_hoursUntilOn_L3 N (nI k) (nI w) (nI m) (f + 1) (nI (m + 1)) u = _
      rw [f_X1_hoursUntilOn_L3, if_pos (nI_lt (by omega) (by omega))])
    (fun f j b u hj hu => by
      obtain ⟨⟨hu, hb, hbh⟩, hkb⟩ := hu
      have hb8 : aN b ≤ 8 := hb.1
      have hon := (hb.2.2.1 k hkb).2.2
      have ho : pOn u k = nI (aOn b k) := (hu.2.2.2.2.1 k hkb).2.2
      show (gOn k w b = true → f_X1_hoursUntilOn_L3 N (nI k) (nI w) (nI m) (f + 1) (nI j) u = _) ∧ (gOn k w b = false → ∃ s', f_X1_hoursUntilOn_L3 N (nI k) (nI w) (nI m) (f + 1) (nI j) u = f_X1_hoursUntilOn_L3 N (nI k) (nI w) (nI m) f (nI (j + 1)) s' ∧ _)
      rw [f_X1_hoursUntilOn_L3, if_neg (nI_nlt hj (by omega)), rdA_nI (show k < 8 by omega) (by decide), ho]
      refine ⟨fun e => ?_, fun e => ?_⟩
      · have e : aOn b k = w := by simpa [gOn] using e
        rw [if_pos (by rw [e])]
      · have e : ¬ aOn b k = w := by simpa [gOn] using e
        obtain ⟨u', p1, p2, -⟩ := X1_passHour hu hb hN (by omega)
        rw [if_neg (eq_n (by omega) (by omega) e), p1, ob1_s]
        simp only [lj, nI_1]
        exact ⟨u', rfl, ⟨p2, WF_Ph hb, by rw [gPh_h]; omega⟩, by rw [gPh_n]; exact hkb⟩)
    m 0 N a v (by omega) (by omega) ⟨⟨hv, hw, by omega⟩, hk⟩
  rw [Nat.zero_add] at q1 q2
  exact ⟨v', rs_of q1 q2⟩
