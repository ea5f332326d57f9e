/-! PURE 10: stir, kindFor, inkFor, touchFor -/
def gDi (b c : AP) : Bool := fld (fun j q => q || !decide (aOn b j = aOn c j)) 0 (aN b) false
theorem gDi_tt (b c : AP) : ∀ (d j : Nat), fld (fun j q => q || !decide (aOn b j = aOn c j)) j d true = true := by
  intro d
  induction d with
  | zero => intro j; rfl
  | succ d ih => intro j; exact ih (j + 1)
theorem X1_liesAs {N : Nat} {b c : AP} {v w : PV} (hv : CV b v) (hc : CV c w) (hb : WF b) (hcw : WF c) (hn : aN c = aN b) (hN : 9 ≤ N) : f_X1_liesAs N v w = some (bI (!gDi b c)) := by
  have hb8 := hb.1
  have key : ∀ (d j f : Nat), j + d = aN b → d < f → f_X1_liesAs_L2 v w f (nI j) = some (bI (!fld (fun j q => q || !decide (aOn b j = aOn c j)) j d false)) := by
    intro d
    induction d with
    | zero =>
      intro j f hj hf
      obtain ⟨f, rfl⟩ : ∃ f', f = f' + 1 := ⟨f - 1, by omega⟩
      rw [f_X1_liesAs_L2, hv.1, if_pos (nI_le (by omega) (by omega))]
      rfl
    | succ d ih =>
      intro j f hj hf
      obtain ⟨f, rfl⟩ : ∃ f', f = f' + 1 := ⟨f - 1, by omega⟩
      have g1 := (hv.2.2.2.2.1 j (by omega)).2.2
      have g2 := (hc.2.2.2.2.1 j (by omega)).2.2
      have w1 := (hb.2.2.1 j (by omega)).2.2
      have w2 := (hcw.2.2.1 j (by omega)).2.2
      rw [f_X1_liesAs_L2, hv.1, if_neg (nI_ge (by omega) (by omega)), rdA_nI (by omega) (by decide), g1, rdA_nI (by omega) (by decide), g2, lj_s, nI_1]
      show _ = some (bI (!fld _ (j + 1) d (false || !decide (aOn b j = aOn c j))))
      by_cases e : aOn b j = aOn c j
      · rw [if_pos (by rw [e]), decide_eq_true e]
        exact ih (j + 1) f (by omega) (by omega)
      · rw [if_neg (eq_n (by omega) (by omega) e), decide_eq_false e]
        show _ = some (bI (!fld _ (j + 1) d true))
        rw [gDi_tt]
        rfl
  exact key (aN b) 0 N (by omega) (by omega)
def gTF (D : Int32 → Bool) (Z : Int32 → Int32) : Nat → Nat → Int32 → Nat
  | 0, c, _ => c
  | d + 1, c, z => gTF D Z d (if D z = true then c + 1 else c) (Z z)
theorem gTF_s (D : Int32 → Bool) (Z : Int32 → Int32) (d c : Nat) (z : Int32) : gTF D Z (d + 1) c z = gTF D Z d (if D z = true then c + 1 else c) (Z z) := rfl
def gTi (a : AP) : Nat → Nat → Int32 → Nat := gTF (fun z => gDi (gHr (aSZ a z)) (gPh a)) (fun z => aZ (gHr (aSZ a z)))
theorem gTi_0 (a : AP) (c : Nat) (z : Int32) : gTi a 0 c z = c := rfl
theorem gTi_s (a : AP) (d c : Nat) (z : Int32) : gTi a (d + 1) c z = gTi a d (if gDi (gHr (aSZ a z)) (gPh a) = true then c + 1 else c) (aZ (gHr (aSZ a z))) := by
  unfold gTi
  rw [gTF_s]
theorem X5_stirL {N n : Nat} {a : AP} {v v5 : PV} (hN : 9 ≤ N) (hv : CV a v) (hw : WF a) (hc : CV (gPh a) v5) (hh : aH a + 1 < 2 ^ 31) (hn2 : n < 2 ^ 31) : ∀ (d j f c : Nat) (z : Int32) (t : PV), j + d = n → d < f → ∃ t', f_X5_stir_L43 N v (nI n) v5 f (nI j) (nI c) z t = some (nI (gTi a d c z), t', v5) := by
  intro d
  induction d with
  | zero =>
    intro j f c z t hj hf
    obtain ⟨f, rfl⟩ : ∃ f', f = f' + 1 := ⟨f - 1, by omega⟩
    refine ⟨t, ?_⟩
    rw [f_X5_stir_L43, if_pos (nI_le (by omega) (by omega)), gTi_0]
  | succ d ih =>
    intro j f c z t hj hf
    obtain ⟨f, rfl⟩ : ∃ f', f = f' + 1 := ⟨f - 1, by omega⟩
    obtain ⟨t1, b1, b2⟩ := X1_become (v := t) hv hw.1
    have b3 := CV_z b2 z
    obtain ⟨t2, b4, b5⟩ := X1_hourBD b3 (WF_z hw z) hN hh
    have b6 := X1_liesAs b5 hc (WF_Hr (WF_z hw z)) (WF_Ph hw) (by rw [gHr_n, gPh_n]) hN
    rw [f_X5_stir_L43, if_neg (nI_ge (by omega) (by omega)), b1, ob1_s, lj_s, b4, ob1_s, b6, lj_s, ob1_s, lj_s, gTi_s, b5.2.2.1]
    generalize aZ (gHr (aSZ a z)) = z'
    cases gDi (gHr (aSZ a z)) (gPh a) with
    | false =>
      obtain ⟨t', q⟩ := ih (j + 1) f c z' t2 (by omega) (by omega)
      refine ⟨t', ?_⟩
      rw [if_neg (by decide), if_neg (by decide)]
      show lj (nI j + 1) _ = _
      rw [lj_s, nI_1]
      exact q
    | true =>
      obtain ⟨t', q⟩ := ih (j + 1) f (c + 1) z' t2 (by omega) (by omega)
      refine ⟨t', ?_⟩
      rw [if_pos (by decide), if_pos (by decide), lj_s]
      show lj (nI j + 1) _ = _
      rw [lj_s, nI_1, nI_1]
      exact q
theorem X6_stirL {N n : Nat} {a : AP} {v3 v7 : Nat → Int32} (j12 : Int32 → (Nat → Int32) → Option (Int32 × (Nat → Int32) × (Nat → Int32) × (Nat → Int32))) (hN : 100 ≤ N) (hs : CM a v3) (hw : WF a) (hd : ∀ i, i < aN a → v7 i = nI (aOn (gPh a) i)) (hh : aH a + 1 < 2 ^ 31) (hn2 : n < 2 ^ 31) : ∀ (d j f c : Nat) (z : Int32) (u : Nat → Int32), j + d = n → d < f → ∃ u', f_X6_stir_L72 N (nI n) v3 v7 j12 f (nI j) (nI c) z u = j12 (nI (gTi a d c z)) u' := by
  intro d
  induction d with
  | zero =>
    intro j f c z u hj hf
    obtain ⟨f, rfl⟩ : ∃ f', f = f' + 1 := ⟨f - 1, by omega⟩
    refine ⟨u, ?_⟩
    rw [f_X6_stir_L72, if_pos (nI_le (by omega) (by omega)), gTi_0]
  | succ d ih =>
    intro j f c z u hj hf
    obtain ⟨f, rfl⟩ : ∃ f', f = f' + 1 := ⟨f - 1, by omega⟩
    obtain ⟨u1, b1, b2⟩ := X6_copyRow (N := N) (by omega) v3 u
    have b3 := CM_z (CM_at hs hw.1 b2) z
    obtain ⟨u2, b4, b5⟩ := X6_hour b3 (WF_z hw z) (show 9 ≤ N by omega) hh
    have hwb := WF_Hr (WF_z hw z)
    have hn8 := hw.1
    have hnb : aN (gHr (aSZ a z)) = aN a := gHr_n _
    have hor : ∀ b c : Bool, bI b ||| bI c = bI (b || c) := by decide
    have inner : ∀ (j27 : Int32 → Option (Int32 × (Nat → Int32) × (Nat → Int32) × (Nat → Int32))), f_X6_stir_L108 v7 u2 j27 N 0 0 = j27 (bI (gDi (gHr (aSZ a z)) (gPh a))) := by
      intro j27
      obtain ⟨s', e1, e2⟩ := lpR (L := fun f i (c : Int32) => f_X6_stir_L108 v7 u2 j27 f i c) (k := j27) (n := aN (gHr (aSZ a z))) (fun _ b (x : Int32) => x = bI b) (fun j q => q || !decide (aOn (gHr (aSZ a z)) j = aOn (gPh a) j))
        (fun f b x _ => by show f_X6_stir_L108 v7 u2 j27 (f + 1) (nI (aN (gHr (aSZ a z)))) x = _; rw [f_X6_stir_L108, b5.1, if_pos (Int32.le_refl _)])
        (fun f j b x hj hx => by
          subst hx
          have w1 := (hwb.2.2.1 j hj).2.2
          have w2 := ((WF_Ph hw).2.2.1 j (by rw [gPh_n]; omega)).2.2
          refine ⟨_, ?_, rfl⟩
          show f_X6_stir_L108 v7 u2 j27 (f + 1) (nI j) (bI b) = f_X6_stir_L108 v7 u2 j27 f (nI (j + 1)) _
          rw [f_X6_stir_L108, b5.1, if_neg (nI_ge hj (by omega)), itsO b5 (by omega) hj, ob1_s, rdA_nI (by omega) (by decide), hd j (by omega), lj_s]
          by_cases e : aOn (gHr (aSZ a z)) j = aOn (gPh a) j
          · rw [if_pos (by rw [e])]
            show lj _ _ = _
            rw [lj_s, lj_s, nI_1, decide_eq_true e, show (0 : Int32) = bI false from rfl, hor]
            rfl
          · rw [if_neg (eq_n (by omega) (by omega) e)]
            show lj _ _ = _
            rw [lj_s, lj_s, nI_1, decide_eq_false e, show (1 : Int32) = bI true from rfl, hor]
            rfl)
        (aN (gHr (aSZ a z))) 0 N false 0 (by omega) (by omega) rfl
      subst e2
      exact e1
    rw [f_X6_stir_L72, if_neg (nI_ge (by omega) (by omega)), b1, ob1_s, lj_s, b4, ob2_s, lj_s, inner, lj_s, gTi_s, b5.2.2.1]
    generalize aZ (gHr (aSZ a z)) = z'
    cases gDi (gHr (aSZ a z)) (gPh a) with
    | false =>
      obtain ⟨t', q⟩ := ih (j + 1) f c z' u2 (by omega) (by omega)
      refine ⟨t', ?_⟩
      rw [if_pos (by decide), if_neg (by decide)]
      show lj _ _ = _
      rw [lj_s, lj_s, lj_s, nI_1, Int32.add_zero]
      exact q
    | true =>
      obtain ⟨t', q⟩ := ih (j + 1) f (c + 1) z' u2 (by omega) (by omega)
      refine ⟨t', ?_⟩
      rw [if_neg (by decide), if_pos (by decide)]
      show lj _ _ = _
      rw [lj_s, lj_s, lj_s, nI_1, nI_1]
      exact q
theorem Y_stir {N h : Nat} {v : PV} {s : Nat → Int32} (t tc : PV) (q du : Nat → Int32) (hr : RP h v s) (hN : 100 ≤ N) (hb : h + 1001 < 2 ^ 31) (x0 : Int32) : YT h v (f_X5_stir N v t tc x0) (f_X6_stir N s q du x0) := by
  obtain ⟨a, hv, hs, hw, hh⟩ := id hr
  have hn := hw.1
  unfold f_X5_stir f_X6_stir
  rw [i130]
  rcases wl_c x0 1 (hi := 30) (by decide) (by decide) with p | ⟨n, n1, n30, rfl, p⟩
  · have p : f_X5_within x0 1 30 = 0 := p
    rw [if_pos p, if_pos p]; exact YT.mk _ _ _ _ rfl rfl hr
  · have p : f_X5_within (nI n) 1 30 = 1 := p
    obtain ⟨t1, b1, b2⟩ := X1_become (v := tc) hv hn
    obtain ⟨t2, b3, b4, -⟩ := X1_passHour b2 hw (show 9 ≤ N by omega) (by omega)
    obtain ⟨t3, b5⟩ := X5_stirL (N := N) (n := n) (by omega) hv hw b4 (by omega) (by omega) n 0 N 0 (aZ a) t (by omega) (by omega)
    have b5 : f_X5_stir_L43 N v (nI n) t2 N 0 0 (aZ a) t = _ := b5
    obtain ⟨v3, c1, c2⟩ := X6_copyRow (N := N) (by omega) s q
    have hs3 := CM_at hs hn c2
    obtain ⟨v5, c3, c4⟩ := X6_goes1 hs hw (show 9 ≤ N by omega) (by omega)
    have hn5 : aN (gPh a) = aN a := gPh_n a
    have due : ∀ (j8 : (Nat → Int32) → Option (Int32 × (Nat → Int32) × (Nat → Int32) × (Nat → Int32))), ∃ v7, f_X6_stir_L32 v5 j8 N 0 du = j8 v7 ∧ ∀ i, i < aN (gPh a) → v7 i = nI (aOn (gPh a) i) := by
      intro j8
      obtain ⟨v7, e1, e2⟩ := lpR (L := fun f i (u : Nat → Int32) => f_X6_stir_L32 v5 j8 f i u) (k := j8) (n := aN (gPh a)) (fun j (_ : Unit) (u : Nat → Int32) => ∀ i, i < j → u i = nI (aOn (gPh a) i)) (fun _ u => u)
        (fun f _ u _ => by show f_X6_stir_L32 v5 j8 (f + 1) (nI (aN (gPh a))) u = _; rw [f_X6_stir_L32, c4.1, if_pos (Int32.le_refl _)])
        (fun f j _ u hj hu => by
          show ∃ s', f_X6_stir_L32 v5 j8 (f + 1) (nI j) u = f_X6_stir_L32 v5 j8 f (nI (j + 1)) s' ∧ _
          rw [f_X6_stir_L32, c4.1, if_neg (nI_ge hj (by omega)), itsO c4 (by omega) hj, ob1_s, ckA_nI (show j < 8 by omega) (by decide), nI_clamp (by omega), nI_1, lj_s, lj_s]
          refine ⟨_, rfl, fun i hi => ?_⟩
          by_cases e : i = j
          · rw [e, upd_s]
          · rw [upd_n e]; exact hu i (by omega))
        (aN (gPh a)) 0 N () du (by omega) (by omega) (fun i hi => absurd hi (by omega))
      exact ⟨v7, e1, e2⟩
    rw [p, if_neg n10, if_neg n10, b1, ob1_s, b3, ob1_s, lj_s, hv.2.2.1, b5, c1, ob1_s, c3, ob1_s, lj_s]
    obtain ⟨v7, d1, d2⟩ := due _
    rw [d1, lj_s, lj_s, hs3.2.2.1]
    obtain ⟨u', d3⟩ := X6_stirL (N := N) (n := n) (fun (i10 : Int32) (v11 : Nat → Int32) => ob1 (f_X6_copyRow N v3 v11) (fun (v13 : Nat → Int32) => some (i10, v13, v3, v7))) hN hs3 hw (fun i hi => d2 i (by omega)) (by omega) (by omega) n 0 N 0 (aZ a) v5 (by omega) (by omega)
    have d3 : f_X6_stir_L72 N (nI n) v3 v7 (fun (i10 : Int32) (v11 : Nat → Int32) => ob1 (f_X6_copyRow N v3 v11) (fun (v13 : Nat → Int32) => some (i10, v13, v3, v7))) N 0 0 (aZ a) v5 = _ := d3
    obtain ⟨v13, d4, d5⟩ := X6_copyRow (N := N) (by omega) v3 u'
    rw [d3, d4, ob1_s]
    exact YT.mk _ _ _ _ rfl rfl (RP_at hv hs hw hh (fun i hi => (d5 i hi).trans (c2 i hi)))
/-! wishes -/
theorem wish_c {a : AP} {v : PV} {s : Nat → Int32} (hv : CV a v) (hs : CM a s) (hw : WF a) (x0 x1 x2 : Int32) : (f_X5_isWish v x0 x1 x2 = 0 ∧ f_X6_mayTry s x0 x1 x2 = 0) ∨ ∃ k w n : Nat, k < aN a ∧ w < 8 ∧ n ≤ 30 ∧ x0 = nI k ∧ x1 = nI w ∧ x2 = nI n ∧ f_X5_isWish v x0 x1 x2 = 1 ∧ f_X6_mayTry s x0 x1 x2 = 1 := by
  unfold f_X5_isWish f_X6_mayTry
  rw [i030]
  rcases mark_c hv hs hw x0 with ⟨q1, q2⟩ | ⟨k, hk, rfl, q1, q2⟩
  · left; rw [if_pos q1, if_pos q2]; exact ⟨rfl, rfl⟩
  · rw [q1, q2, if_neg n10, if_neg n10]
    rcases one_c x1 with ⟨q1, q2⟩ | ⟨w, w8, rfl, q1, q2⟩
    · left; rw [if_pos q1, if_pos q2]; exact ⟨rfl, rfl⟩
    · rw [q1, q2, if_neg n10]
      rcases wl_c x2 0 (hi := 30) (by decide) (by decide) with p | ⟨n, -, n30, rfl, p⟩
      · have p : f_X5_within x2 0 30 = 0 := p
        left; rw [if_pos p]; exact ⟨rfl, rfl⟩
      · have p : f_X5_within (nI n) 0 30 = 1 := p
        right; rw [p, if_neg n10]; exact ⟨k, w, n, hk, w8, n30, rfl, rfl, rfl, rfl, rfl⟩
theorem X1_untilOnS {N : Nat} {a : AP} {v : PV} (hv : CV a v) (hw : WF a) (hN : 100 ≤ N) {k w n so : Nat} (hso : so ≤ n + 1) (hn : n ≤ 60) (hh : aH a + 1001 < 2 ^ 31) (hk : k < aN a) (hw8 : w < 8) : ∃ v', f_X1_hoursUntilOn N v (nI k) (nI w) (nI so - 1) = some ((if gSn (gOn k w) n a < so then nI (gSn (gOn k w) n a) else -3), v') := by
  cases so with
  | zero =>
    refine ⟨v, ?_⟩
    obtain ⟨N, rfl⟩ : ∃ N', N = N' + 1 := ⟨N - 1, by omega⟩
    unfold f_X1_hoursUntilOn
    rw [f_X1_hoursUntilOn_L3, if_pos (show nI 0 - 1 < 0 by decide), if_neg (by omega)]
  | succ so =>
    rw [nI_pred]
    obtain ⟨v', e⟩ := X1_untilOn (N := N) hv hw (by omega) (k := k) (w := w) (m := so) (by omega) (by omega) hh hk hw8
    refine ⟨v', ?_⟩
    obtain ⟨c1, c2⟩ := gSn_cut (gOn k w) n so a (by omega)
    rw [e]
    unfold gRs
    by_cases q : gSn (gOn k w) n a ≤ so
    · rw [c1 q, if_pos q, if_pos (by omega)]
    · rw [c2 (by omega), if_neg (by omega), if_neg (by omega)]
theorem n3lt : (-3 : Int32) < 0 := by decide
def gBs (T : Nat → Nat) (j : Nat) (p : Nat × Nat) : Nat × Nat := if T j < p.2 then (j, T j) else p
theorem Y_kindFor {N h : Nat} {v : PV} {s : Nat → Int32} (t : PV) (q : Nat → Int32) (hr : RP h v s) (hN : 100 ≤ N) (hb : h + 1001 < 2 ^ 31) (x0 x1 x2 : Int32) : YT h v (f_X5_kindFor N v t x0 x1 x2) (f_X6_kindFor N s q x0 x1 x2) := by
  obtain ⟨a, hv, hs, hw, hh⟩ := id hr
  have hn8 := hw.1
  unfold f_X5_kindFor f_X6_kindFor
  rcases wish_c hv hs hw x0 x1 x2 with ⟨q1, q2⟩ | ⟨k, w, n, hk, w8, n30, rfl, rfl, rfl, q1, q2⟩
  · rw [if_pos q1, if_pos q2]; exact YT.mk _ _ _ _ rfl rfl hr
  · have k8 : k < 8 := by omega
    have hT : ∀ j, gSn (gOn k w) n (aSKind a k j) ≤ n + 1 := fun j => gSn_le _ _ _
    rw [q1, q2, if_neg n10, if_neg n10, lj_s, lj_s, nI_1, ixM, rdA_nI (show 19 + 3 * k < 43 by omega) (by decide), lj_s]
    obtain ⟨z1, e1, e2, e3, e4⟩ := lpR (L := fun f i (z : Int32 × Int32 × PV) => f_X5_kindFor_L23 N v (nI k) (nI w) f i z.1 z.2.1 z.2.2) (k := fun z => some (z.2.1, z.2.2)) (n := 6) (fun _ (p : Nat × Nat) z => z.1 = nI p.2 ∧ z.2.1 = nI p.1 ∧ p.2 ≤ n + 1) (gBs (fun j => gSn (gOn k w) n (aSKind a k j)))
      (fun f p z _ => by show f_X5_kindFor_L23 N v (nI k) (nI w) (f + 1) (nI 6) z.1 z.2.1 z.2.2 = _; rw [f_X5_kindFor_L23, if_pos (by decide)])
      (fun f j p z hj hz => by
        obtain ⟨z1, z2, z3⟩ := hz
        obtain ⟨t1, b1, b2⟩ := X1_become (v := z.2.2) hv hn8
        have b3 := CV_kind b2 k j
        obtain ⟨t2, b4⟩ := X1_untilOnS (N := N) b3 (WF_kind hw hj) hN (k := k) (w := w) (n := n) (so := p.2) z3 (by omega) (by show aH a + 1001 < 2 ^ 31; omega) hk w8
        show ∃ s' : Int32 × Int32 × PV, f_X5_kindFor_L23 N v (nI k) (nI w) (f + 1) (nI j) z.1 z.2.1 z.2.2 = f_X5_kindFor_L23 N v (nI k) (nI w) f (nI (j + 1)) s'.1 s'.2.1 s'.2.2 ∧ _
        rw [f_X5_kindFor_L23, if_neg (show ¬ (6 : Int32) ≤ nI j from nI_ge hj (by decide)), b1, ob1_s, ckA_nI k8 (by decide), nI_clamp (by omega), lj_s, z1, z2, b4, ob2_s, lj_s, nI_1]
        unfold gBs
        by_cases c : gSn (gOn k w) n (aSKind a k j) < p.2
        · rw [if_pos c, if_pos c, if_neg (show ¬ nI (gSn (gOn k w) n (aSKind a k j)) < 0 from nI_nlt (b := 0) (a := gSn (gOn k w) n (aSKind a k j)) (by omega) (by have := hT j; omega))]
          dsimp only
          rw [lj_s]
          exact ⟨(nI (gSn (gOn k w) n (aSKind a k j)), nI j, t2), rfl, rfl, rfl, hT j⟩
        · rw [if_neg c, if_neg c, if_pos n3lt]
          dsimp only
          rw [lj_s]
          exact ⟨(nI p.2, nI p.1, t2), rfl, rfl, rfl, z3⟩)
      6 0 N (0, n + 1) (nI (n + 1), 0, t) (by omega) (by omega) ⟨rfl, rfl, Nat.le_refl _⟩
    have e1 : f_X5_kindFor_L23 N v (nI k) (nI w) N 0 (nI (n + 1)) 0 t = some (z1.2.1, z1.2.2) := e1
    obtain ⟨z2, g1, g2, g3⟩ := lpR (L := fun f i (z : Int32 × Int32 × (Nat → Int32) × (Nat → Int32)) => f_X6_kindFor_L40 N (nI k) (nI w) (nI n) (nI (19 + 3 * k)) (fun i6 v7 v8 => ckA 43 (nI (19 + 3 * k)) (lj (upd v7 (Int32.toNatClampNeg (nI (19 + 3 * k))) (s (19 + 3 * k))) (fun v11 => some (i6, v11, v8)))) f i z.1 z.2.1 z.2.2.1 z.2.2.2) (k := fun z => some (z.2.1, upd z.2.2.1 (19 + 3 * k) (s (19 + 3 * k)), z.2.2.2)) (n := 6) (fun j (p : Nat × Nat) z => ((j = 0 ∧ z.1 = nI 1000 ∧ z.2.1 = nI 0 ∧ p = (0, n + 1)) ∨ (0 < j ∧ z.1 = nI p.2 ∧ z.2.1 = nI p.1 ∧ p.2 ≤ n + 1)) ∧ ∀ i, i < 43 → ¬ i = 19 + 3 * k → z.2.2.1 i = s i) (gBs (fun j => gSn (gOn k w) n (aSKind a k j)))
      (fun f p z _ => by
        show f_X6_kindFor_L40 N (nI k) (nI w) (nI n) (nI (19 + 3 * k)) _ (f + 1) (nI 6) z.1 z.2.1 z.2.2.1 z.2.2.2 = _
        rw [f_X6_kindFor_L40, if_pos (by decide), ckA_nI (show 19 + 3 * k < 43 by omega) (by decide), nI_clamp (by omega), lj_s])
      (fun f j p z hj hz => by
        obtain ⟨hz, hu⟩ := hz
        have hs1 : CM (aSKind a k j) (upd z.2.2.1 (19 + 3 * k) (nI j)) := CM_at (CM_kind hs k j) hn8 (fun i hi => by
          by_cases e : i = 19 + 3 * k
          · rw [e, upd_s, upd_s]
          · rw [upd_n e, upd_n e]; exact hu i hi e)
        obtain ⟨s1, s2, b4, b5⟩ := X6_comesBy (N := N) z.2.2.2 hs1 (WF_kind hw hj) hN (k := k) (w := w) (m := n) (by omega) (by show aH a + 1001 < 2 ^ 31; omega) hk w8
        have b6 : ∀ i, i < 43 → ¬ i = 19 + 3 * k → s1 i = s i := fun i hi e => by rw [b5 i hi, upd_n e]; exact hu i hi e
        have hTj := hT j
        show ∃ s' : Int32 × Int32 × (Nat → Int32) × (Nat → Int32), f_X6_kindFor_L40 N (nI k) (nI w) (nI n) (nI (19 + 3 * k)) _ (f + 1) (nI j) z.1 z.2.1 z.2.2.1 z.2.2.2 = f_X6_kindFor_L40 N (nI k) (nI w) (nI n) (nI (19 + 3 * k)) _ f (nI (j + 1)) s'.1 s'.2.1 s'.2.2.1 s'.2.2.2 ∧ _
        rw [f_X6_kindFor_L40, if_neg (show ¬ (5 : Int32) < nI j from nI_nlt (a := 5) (by omega) (by decide)), ckA_nI (show 19 + 3 * k < 43 by omega) (by decide), nI_clamp (by omega), lj_s, b4, ob3_s, lj_s]
        unfold f_X6_least gBs
        rcases hz with ⟨rfl, z1, z2, rfl⟩ | ⟨h0, z1, z2, z3⟩
        · rw [z1, z2, if_neg (nI_ge (show gSn (gOn k w) n (aSKind a k 0) < 1000 by omega) (by decide)), if_pos (nI_le (show gSn (gOn k w) n (aSKind a k 0) ≤ 1000 by omega) (by decide))]
          dsimp only
          rw [lj_s, lj_s, nI_1]
          refine ⟨(nI (gSn (gOn k w) n (aSKind a k 0)), nI 0, s1, s2), rfl, Or.inr ⟨by omega, ?_, ?_, ?_⟩, b6⟩
          · show nI _ = nI (if gSn (gOn k w) n (aSKind a k 0) < n + 1 then (0, gSn (gOn k w) n (aSKind a k 0)) else (0, n + 1)).2
            split
            · rfl
            · show nI _ = nI (n + 1)
              rw [show gSn (gOn k w) n (aSKind a k 0) = n + 1 by omega]
          · show nI 0 = nI (if gSn (gOn k w) n (aSKind a k 0) < n + 1 then (0, gSn (gOn k w) n (aSKind a k 0)) else (0, n + 1)).1
            split <;> rfl
          · show (if gSn (gOn k w) n (aSKind a k 0) < n + 1 then (0, gSn (gOn k w) n (aSKind a k 0)) else (0, n + 1)).2 ≤ n + 1
            split
            · exact hTj
            · exact Nat.le_refl _
        · rw [z1, z2]
          by_cases c : gSn (gOn k w) n (aSKind a k j) < p.2
          · rw [if_neg (nI_ge c (by omega)), if_pos (nI_le (Nat.le_of_lt c) (by omega))]
            dsimp only
            rw [lj_s, lj_s, nI_1, if_pos c]
            exact ⟨(nI (gSn (gOn k w) n (aSKind a k j)), nI j, s1, s2), rfl, Or.inr ⟨by omega, rfl, rfl, hTj⟩, b6⟩
          · rw [if_pos (nI_le (by omega) (by omega))]
            dsimp only
            rw [lj_s, lj_s, nI_1, if_neg c]
            refine ⟨(nI p.2, nI p.1, s1, s2), ?_, Or.inr ⟨by omega, rfl, rfl, z3⟩, b6⟩
            by_cases c2 : nI (gSn (gOn k w) n (aSKind a k j)) ≤ nI p.2
            · have c3 := (nI_leI (by omega) (by omega)).mp c2
              rw [if_pos c2, show gSn (gOn k w) n (aSKind a k j) = p.2 by omega]
            · rw [if_neg c2])
      6 0 N (0, n + 1) (nI 1000, 0, s, q) (by omega) (by omega) ⟨Or.inl ⟨rfl, rfl, rfl, rfl⟩, fun _ _ _ => rfl⟩
    have g1 : f_X6_kindFor_L40 N (nI k) (nI w) (nI n) (nI (19 + 3 * k)) (fun i6 v7 v8 => ckA 43 (nI (19 + 3 * k)) (lj (upd v7 (Int32.toNatClampNeg (nI (19 + 3 * k))) (s (19 + 3 * k))) (fun v11 => some (i6, v11, v8)))) N 0 1000 0 s q = some (z2.2.1, upd z2.2.2.1 (19 + 3 * k) (s (19 + 3 * k)), z2.2.2.2) := g1
    rcases g2 with ⟨g2, -⟩ | ⟨-, -, g4, -⟩
    · omega
    · rw [e1, g1]
      refine YT.mk _ _ _ _ (by rw [e3]) (by rw [g4]) (RP_at hv hs hw hh (fun i hi => ?_))
      by_cases e : i = 19 + 3 * k
      · rw [e, upd_s]
      · rw [upd_n e]; exact g3 i hi e
