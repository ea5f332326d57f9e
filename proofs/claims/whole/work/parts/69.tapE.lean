/-! PURE 30: steps of the two readers -/
def nm (b : Nat → Nat) (n p : Nat) (lo hi : Int32) : Bool := decide (tT b n p = 2) && !decide (f_X5_within (tV b n p) lo hi = 0)
def sg (b : Nat → Nat) (n p c : Nat) : Bool := decide (tT b n p = 3) && decide (b (tS b n p) = c)
def MZ (b : Nat → Nat) (n : Nat) (o : Bool) (p : Nat) (tok fr to val wr : Int32) : Prop := p ≤ n ∧ fr = nI (tS b n p) ∧ tok = nI (tT b n p) ∧ to = nI (tE b n p) ∧ (tT b n p = 2 → tE b n p - tS b n p ≤ 3 → val = tV b n p) ∧ wr = bI (!o)
def rs2 (N : Nat) (v : TV) (k1 : Int32) : Option (Int32 × TV) := if k1 = 0 then gdP (k1 = 0 ∨ k1 = 1) (some (k1, v)) else ob1 (f_X4_next N v) (fun (v5 : TV) => gdP (k1 = 0 ∨ k1 = 1) (some (k1, v5)))
theorem rs_e (N : Nat) (v : TV) (x0 : Int32) : f_X4_readSign N v x0 = if (tpToken v) = 3 then rdA (tpBytes v) 200 (tpStart v) (fun (y11 : Int32) => if y11 = x0 then rs2 N v 1 else rs2 N v 0) else rs2 N v 0 := rfl
theorem rs2_0 (N : Nat) (v : TV) : rs2 N v 0 = some (0, v) := by
  unfold rs2
  rw [if_pos rfl, gdP_t (Or.inl rfl)]
theorem rs2_1 (N : Nat) (v : TV) : rs2 N v 1 = ob1 (f_X4_next N v) (fun (v5 : TV) => some (1, v5)) := by
  unfold rs2
  rw [if_neg n10]
  cases f_X4_next N v with
  | none => rfl
  | some u => exact gdP_t (Or.inr rfl)
def nd2 (N : Nat) (tm : Nat → Int32) (l tok fr to val k1 : Int32) : Option (Int32 × Int32 × Int32 × Int32 × Int32) := gdP (k1 = 0 ∨ k1 = 1) (if k1 = 0 then ob4 (f_X6_nextToken N tm l tok fr to val) (fun (v5 : Int32) (v6 : Int32) (v7 : Int32) (v8 : Int32) => some (v5, v6, v7, v8, k1)) else some (tok, fr, to, val, k1))
theorem nd_e (N : Nat) (tm : Nat → Int32) (l tok fr to val wr x0 : Int32) : f_X6_needs N tm l tok fr to val wr x0 = if wr = 0 then if x0 = 0 then nd2 N tm l tok fr to val 1 else nd2 N tm l tok fr to val 0 else nd2 N tm l tok fr to val 1 := rfl
theorem nd2_0 (N : Nat) (tm : Nat → Int32) (l tok fr to val : Int32) : nd2 N tm l tok fr to val 0 = ob4 (f_X6_nextToken N tm l tok fr to val) (fun (v5 : Int32) (v6 : Int32) (v7 : Int32) (v8 : Int32) => some (v5, v6, v7, v8, 0)) := by
  unfold nd2
  rw [gdP_t (Or.inl rfl), if_pos rfl]
theorem nd2_1 (N : Nat) (tm : Nat → Int32) (l tok fr to val : Int32) : nd2 N tm l tok fr to val 1 = some (tok, fr, to, val, 1) := by
  unfold nd2
  rw [gdP_t (Or.inr rfl), if_neg n10]
def nt2 (N : Nat) (tm : Nat → Int32) (l tok fr to val wr t2 : Int32) (v3 : Nat → Int32) : Option ((Nat → Int32) × Int32 × Int32 × Int32 × Int32 × Int32) := ob5 (f_X6_needs N tm l tok fr to val wr t2) (fun (v5 : Int32) (v6 : Int32) (v7 : Int32) (v8 : Int32) (v9 : Int32) => some (v3, v5, v6, v7, v8, v9))
theorem nt_e (N : Nat) (s tm : Nat → Int32) (l tok fr to val wr x0 x1 x2 : Int32) : f_X6_numberTo N s tm l tok fr to val wr x0 x1 x2 = if f_X6_isNumber tok fr to val x1 x2 = 0 then nt2 N tm l tok fr to val wr (f_X6_isNumber tok fr to val x1 x2) s else if wr = 0 then ckA 43 x0 (nt2 N tm l tok fr to val wr (f_X6_isNumber tok fr to val x1 x2) (upd s (Int32.toNatClampNeg x0) val)) else nt2 N tm l tok fr to val wr (f_X6_isNumber tok fr to val x1 x2) s := rfl
theorem nt2_s {N : Nat} {tm : Nat → Int32} {l tok fr to val wr t2 a1 a2 a3 a4 a5 : Int32} {v3 : Nat → Int32} (h : f_X6_needs N tm l tok fr to val wr t2 = some (a1, a2, a3, a4, a5)) : nt2 N tm l tok fr to val wr t2 v3 = some (v3, a1, a2, a3, a4, a5) := by
  unfold nt2
  rw [h, ob5_s]
section STEPS
variable {b : Nat → Nat} {n p N : Nat} {tm : Nat → Int32} {l : Int32}
theorem T_2 (b : Nat → Nat) (n p : Nat) : nI (tT b n p) = 2 ↔ tT b n p = 2 := nI_eq (b := 2) (by have := tT_3 b n p; omega) (by decide)
theorem T_3 (b : Nat → Nat) (n p : Nat) : nI (tT b n p) = 3 ↔ tT b n p = 3 := nI_eq (b := 3) (by have := tT_3 b n p; omega) (by decide)
theorem T_1 (b : Nat → Nat) (n p : Nat) : nI (tT b n p) = 1 ↔ tT b n p = 1 := nI_eq (b := 1) (by have := tT_3 b n p; omega) (by decide)
theorem T_0 (b : Nat → Nat) (n p : Nat) : nI (tT b n p) = 0 ↔ tT b n p = 0 := nI_eq (b := 0) (by have := tT_3 b n p; omega) (by decide)
/-! the class's steps -/
theorem C_number (hN : 500 ≤ N) {v : TV} (h : CT b n p v) (lo hi : Int32) : (nm b n p lo hi = true → ∃ v', f_X4_readNumber N v lo hi = some (tV b n p, v') ∧ CT b n (tE b n p) v') ∧ (nm b n p lo hi = false → f_X4_readNumber N v lo hi = some (-1, v)) := by
  obtain ⟨hp, hc, h1, h2, h3, h4⟩ := id h
  unfold nm f_X4_readNumber
  rw [h1]
  by_cases q : tT b n p = 2
  · rw [if_pos ((T_2 b n p).mpr q), h4 q, decide_eq_true q, Bool.true_and]
    by_cases z : f_X5_within (tV b n p) lo hi = 0
    · rw [if_pos z, decide_eq_true z]
      exact ⟨fun e => (by cases e), fun _ => rfl⟩
    · rw [if_neg z, decide_eq_false z, lj_s]
      obtain ⟨v', e1, e2⟩ := C_nextT hN h
      rw [e1, ob1_s]
      exact ⟨fun _ => ⟨v', rfl, e2⟩, fun e => (by cases e)⟩
  · rw [if_neg (fun z => q ((T_2 b n p).mp z)), decide_eq_false q, Bool.false_and]
    exact ⟨fun e => (by cases e), fun _ => rfl⟩
theorem C_word (hN : 500 ≤ N) {v : TV} (h : CT b n p v) {w : Nat} (hw : w < 14) : (wd b n p w = true → ∃ v', f_X4_readWord N v w = some (1, v') ∧ CT b n (tE b n p) v') ∧ (wd b n p w = false → f_X4_readWord N v w = some (0, v)) := by
  unfold f_X4_readWord
  rw [C_isWord hN hw h, ob1_s, bI_if]
  cases q : wd b n p w with
  | true =>
    rw [if_pos rfl]
    obtain ⟨v', e1, e2⟩ := C_nextT hN h
    rw [e1, ob1_s]
    exact ⟨fun _ => ⟨v', rfl, e2⟩, fun e => (by cases e)⟩
  | false =>
    rw [if_neg (by decide)]
    exact ⟨fun e => (by cases e), fun _ => rfl⟩
theorem C_sign (hN : 500 ≤ N) {v : TV} (h : CT b n p v) (c : Nat) (hc : c < 128) {c' : Int32} (hq : c' = nI c) : (sg b n p c = true → ∃ v', f_X4_readSign N v c' = some (1, v') ∧ CT b n (tE b n p) v') ∧ (sg b n p c = false → f_X4_readSign N v c' = some (0, v)) := by
  subst hq
  obtain ⟨hp, hcc, h1, h2, h3, h4⟩ := id h
  unfold sg
  rw [rs_e, h1, h2]
  by_cases q : tT b n p = 3
  · have ht := tT_lt b (n := n) (p := p) (by omega)
    obtain ⟨g1, g2⟩ := hcc.2.2 _ ht
    have hn := hcc.1
    rw [if_pos ((T_3 b n p).mpr q), rdA_nI (by omega) (by decide), g2, decide_eq_true q, Bool.true_and]
    by_cases z : b (tS b n p) = c
    · obtain ⟨v', e1, e2⟩ := C_nextT hN h
      rw [if_pos ((sgn_eq g1 hc).mpr z), decide_eq_true z, rs2_1, e1, ob1_s]
      exact ⟨fun _ => ⟨v', rfl, e2⟩, fun e => (by cases e)⟩
    · rw [if_neg (fun y => z ((sgn_eq g1 hc).mp y)), decide_eq_false z, rs2_0]
      exact ⟨fun e => (by cases e), fun _ => rfl⟩
  · rw [if_neg (fun z => q ((T_3 b n p).mp z)), decide_eq_false q, Bool.false_and, rs2_0]
    exact ⟨fun e => (by cases e), fun _ => rfl⟩
/-! the model's steps -/
theorem M_needs (hN : 500 ≤ N) (ht : TM b n tm l) {o : Bool} {tok fr to val wr : Int32} (h : MZ b n o p tok fr to val wr) (k : Int32) : ∃ o' p' tok' fr' to' val' wr', f_X6_needs N tm l tok fr to val wr k = some (tok', fr', to', val', wr') ∧ MZ b n o' p' tok' fr' to' val' wr' ∧ (o = true → ¬ k = 0 → o' = true ∧ p' = tE b n p) ∧ ((o = false ∨ k = 0) → o' = false ∧ p' = p) := by
  obtain ⟨hp, h1, h2, h3, h4, h5⟩ := id h
  rw [nd_e]
  cases o with
  | true =>
    have g1 : wr = 0 := h5
    rw [if_pos g1]
    by_cases z : k = 0
    · rw [if_pos z, nd2_1]
      exact ⟨false, p, _, _, _, _, _, rfl, ⟨hp, h1, h2, h3, h4, rfl⟩, fun _ e => absurd z e, fun _ => ⟨rfl, rfl⟩⟩
    · rw [if_neg z, nd2_0, h3]
      obtain ⟨y, e1, e2⟩ := M_next hN (tE_b b hp).2.1 ht tok fr val
      rw [e1, ob4_s]
      refine ⟨true, tE b n p, _, _, _, _, _, rfl, ⟨(tE_b b hp).2.1, rfl, rfl, rfl, e2, rfl⟩, fun _ _ => ⟨rfl, rfl⟩, fun e => ?_⟩
      rcases e with e | e
      · cases e
      · exact absurd e z
  | false =>
    have g : wr = 1 := h5
    rw [if_neg (by rw [g]; exact n10), nd2_1]
    exact ⟨false, p, _, _, _, _, _, rfl, ⟨hp, h1, h2, h3, h4, rfl⟩, fun e => (by cases e), fun _ => ⟨rfl, rfl⟩⟩
theorem M_isNumber (hbig : n < 2 ^ 31) {o : Bool} {tok fr to val wr : Int32} (h : MZ b n o p tok fr to val wr) {lo hi : Int32} (hlo : (-1 : Int32) < lo) : f_X6_isNumber tok fr to val lo hi = bI (nm b n p lo hi) := by
  obtain ⟨hp, h1, g2, g3, g4, -⟩ := h
  obtain ⟨b1, b2, b3⟩ := tE_b b hp
  have hn := tS_le b hp
  unfold f_X6_isNumber nm
  rw [g2, g3, h1, pk_sub b1]
  by_cases q : tT b n p = 2
  · rw [if_pos ((T_2 b n p).mpr q), decide_eq_true q, Bool.true_and]
    by_cases z : tE b n p - tS b n p ≤ 3
    · rw [if_neg (show ¬ (3 : Int32) < nI (tE b n p - tS b n p) from nI_nlt (a := 3) z (by decide)), g4 q z]
      unfold f_X5_within
      by_cases y : tV b n p < lo
      · rw [if_pos y]; rfl
      · rw [if_neg y]
        by_cases x : hi < tV b n p
        · rw [if_pos x]; rfl
        · rw [if_neg x]; rfl
    · have hv : tV b n p = -1 := by unfold tV; rw [if_neg z]
      rw [hv]
      have w0 : f_X5_within (-1) lo hi = 0 := by unfold f_X5_within; rw [if_pos hlo]
      rw [w0]
      rw [if_pos (show (3 : Int32) < nI (tE b n p - tS b n p) from nI_lt (a := 3) (by omega) (by omega))]
      rfl
  · rw [if_neg (fun z => q ((T_2 b n p).mp z)), decide_eq_false q, Bool.false_and]
    rfl
theorem nm_v {lo hi : Int32} (h : nm b n p lo hi = true) : tT b n p = 2 ∧ ¬ f_X5_within (tV b n p) lo hi = 0 := by
  unfold nm at h
  simp only [Bool.and_eq_true, decide_eq_true_eq, Bool.not_eq_true', decide_eq_false_iff_not] at h
  exact h
theorem nm_n {lo hi : Int32} (L H : Nat) (hl : lo = nI L) (hh : hi = nI H) (hH : H < 2 ^ 31) (hL : L ≤ H) (h : nm b n p lo hi = true) : ∃ k : Nat, L ≤ k ∧ k ≤ H ∧ tV b n p = nI k := by
  subst hl
  subst hh
  rcases wl_c (tV b n p) L hH hL with q | ⟨k, k1, k2, e, -⟩
  · exact absurd q (nm_v h).2
  · exact ⟨k, k1, k2, e⟩
theorem nm_3 {o : Bool} {tok fr to val wr : Int32} (h : MZ b n o p tok fr to val wr) {lo hi : Int32} (L H : Nat) (hl : lo = nI L) (hh : hi = nI H) (hH : H < 2 ^ 31) (hL : L ≤ H) (hn : nm b n p lo hi = true) : val = tV b n p := by
  obtain ⟨t2, w⟩ := nm_v hn
  by_cases z : tE b n p - tS b n p ≤ 3
  · exact h.2.2.2.2.1 t2 z
  · exfalso
    have hv : tV b n p = -1 := by unfold tV; rw [if_neg z]
    obtain ⟨k, -, k2, e⟩ := nm_n L H hl hh hH hL hn
    rw [hv] at e
    have h0 := nI_pos' (n := k) (by omega)
    rw [← e] at h0
    exact absurd h0 (by decide)
theorem lo_m1 {L : Nat} (h : L < 2 ^ 31) : (-1 : Int32) < nI L := Int32.lt_of_lt_of_le (show (-1 : Int32) < 0 by decide) (nI_pos' h)
theorem M_numTo (hN : 500 ≤ N) (ht : TM b n tm l) {o : Bool} {tok fr to val wr : Int32} (h : MZ b n o p tok fr to val wr) (s : Nat → Int32) {x0 lo hi : Int32} (q L H : Nat) (hx : x0 = nI q) (hl : lo = nI L) (hh : hi = nI H) (hq : q < 43) (hH : H < 2 ^ 31) (hL : L ≤ H) : ∃ s' o' p' tok' fr' to' val' wr', f_X6_numberTo N s tm l tok fr to val wr x0 lo hi = some (s', tok', fr', to', val', wr') ∧ MZ b n o' p' tok' fr' to' val' wr' ∧ (o = true → nm b n p lo hi = true → o' = true ∧ p' = tE b n p ∧ s' = upd s q (tV b n p)) ∧ ((o = false ∨ nm b n p lo hi = false) → o' = false ∧ p' = p ∧ s' = s) := by
  subst hx
  have hn := ht.1
  have hlo : (-1 : Int32) < lo := by rw [hl]; exact lo_m1 (by omega)
  rw [nt_e, M_isNumber (by omega) h hlo, bI_if]
  obtain ⟨o', p', tok', fr', to', val', wr', e1, e2, e3, e4⟩ := M_needs hN ht h (bI (nm b n p lo hi))
  cases z : nm b n p lo hi with
  | true =>
    rw [z] at e1 e3
    rw [if_pos rfl]
    cases o with
    | true =>
      have hv := nm_3 h L H hl hh hH hL z
      have g1 : wr = 0 := h.2.2.2.2.2
      rw [if_pos g1, ckA_nI hq (by decide), nI_clamp (by omega)]
      obtain ⟨r1, r2⟩ := e3 rfl n10
      refine ⟨upd s q (tV b n p), o', p', tok', fr', to', val', wr', ?_, e2, fun _ _ => ⟨r1, r2, rfl⟩, fun e => by rcases e with e | e <;> cases e⟩
      rw [nt2_s e1, hv]
    | false =>
      have g : wr = 1 := h.2.2.2.2.2
      obtain ⟨r1, r2⟩ := e4 (Or.inl rfl)
      rw [if_neg (by rw [g]; exact n10), nt2_s e1]
      exact ⟨s, o', p', tok', fr', to', val', wr', rfl, e2, fun e => (by cases e), fun _ => ⟨r1, r2, rfl⟩⟩
  | false =>
    rw [z] at e1 e4
    obtain ⟨r1, r2⟩ := e4 (Or.inr rfl)
    rw [if_neg (by decide), nt2_s e1]
    exact ⟨s, o', p', tok', fr', to', val', wr', rfl, e2, fun _ e => (by cases e), fun _ => ⟨r1, r2, rfl⟩⟩
theorem M_sign (ht : TM b n tm l) {o : Bool} {tok fr to val wr : Int32} (h : MZ b n o p tok fr to val wr) (c : Nat) (hc : c < 128) {c' : Int32} (hq : c' = nI c) (β : Type) (F : Int32 → Option β) : lj F (fun j14 => lj (j14 0) (fun j56 => if tok = 3 then ob1 (f_X6_byteAt tm l fr) (fun (r58 : Int32) => if r58 = c' then j14 1 else j56) else j56)) = F (bI (sg b n p c)) := by
  subst hq
  obtain ⟨hp, h1, g2, g3, g4, -⟩ := h
  have hs := tS_le b hp
  have hn := ht.1
  rw [lj_s, lj_s, h1, m_at ht (by omega), ob1_s, g2]
  unfold sg
  by_cases q : tT b n p = 3
  · have ht2 := tT_lt b (n := n) (p := p) (by omega)
    have g := (ht.2.2 _ ht2).1
    rw [if_pos ((T_3 b n p).mpr q), bt_in ht2, ite_eq (by omega) (by omega), decide_eq_true q, Bool.true_and]
    by_cases z : b (tS b n p) = c
    · rw [if_pos z, decide_eq_true z]; rfl
    · rw [if_neg z, decide_eq_false z]; rfl
  · rw [if_neg (fun z => q ((T_3 b n p).mp z)), decide_eq_false q, Bool.false_and]
    rfl
/-- the word on, as the model looks at it -/
theorem M_on (ht : TM b n tm l) {o : Bool} {tok fr to val wr : Int32} (h : MZ b n o p tok fr to val wr) (β : Type) (F : Int32 → Option β) : lj F (fun j11 => lj (j11 0) (fun j50 => if tok = 1 then if (to - fr) = 2 then ob1 (f_X6_byteAt tm l fr) (fun (r53 : Int32) => if r53 = 111 then ob1 (f_X6_byteAt tm l (fr + 1)) (fun (r56 : Int32) => if r56 = 110 then j11 1 else j50) else j50) else j50 else j50)) = F (bI (wd b n p 6)) := by
  obtain ⟨hp, h1, g2, g3, g4, -⟩ := h
  have hs := tS_le b hp
  have hn := ht.1
  obtain ⟨b1, b2, b3⟩ := tE_b b hp
  rw [lj_s, lj_s, h1, nI_1, m_at ht (by omega), m_at ht (by omega), ob1_s, ob1_s, g2, g3, pk_sub b1]
  unfold wd
  show _ = F (bI (decide (tT b n p = 1) && (decide (tE b n p - tS b n p = 2) && (decide (b (tS b n p) = 111) && (decide (b (tS b n p + 1) = 110) && true)))))
  by_cases q : tT b n p = 1
  · rw [if_pos ((T_1 b n p).mpr q), decide_eq_true q, Bool.true_and]
    by_cases z : tE b n p - tS b n p = 2
    · have g5 := (ht.2.2 (tS b n p) (by omega)).1
      have g6 := (ht.2.2 (tS b n p + 1) (by omega)).1
      rw [if_pos (show nI (tE b n p - tS b n p) = 2 by rw [z]; rfl), decide_eq_true z, Bool.true_and, bt_in (by omega), bt_in (by omega)]
      by_cases w1 : b (tS b n p) = 111
      · rw [if_pos (show nI (b (tS b n p)) = 111 by rw [w1]; rfl), decide_eq_true w1, Bool.true_and]
        by_cases w2 : b (tS b n p + 1) = 110
        · rw [if_pos (show nI (b (tS b n p + 1)) = 110 by rw [w2]; rfl), decide_eq_true w2]; rfl
        · rw [if_neg (show ¬ nI (b (tS b n p + 1)) = 110 from eq_n (b := 110) (by omega) (by decide) w2), decide_eq_false w2]; rfl
      · rw [if_neg (show ¬ nI (b (tS b n p)) = 111 from eq_n (b := 111) (by omega) (by decide) w1), decide_eq_false w1, Bool.false_and]; rfl
    · rw [if_neg (show ¬ nI (tE b n p - tS b n p) = 2 from eq_n (b := 2) (by omega) (by decide) z), decide_eq_false z, Bool.false_and]
      rfl
  · rw [if_neg (fun z => q ((T_1 b n p).mp z)), decide_eq_false q, Bool.false_and]
    rfl
theorem M_ink (ht : TM b n tm l) {o : Bool} {tok fr to val wr : Int32} (h : MZ b n o p tok fr to val wr) : f_X6_isName tm l tok fr to 3 105 110 107 107 = some (bI (wd b n p 7)) := by
  obtain ⟨hp, h1, g2, g3, g4, -⟩ := h
  have e := M_name hp ht (L := 3) (c1 := 105) (c2 := 110) (c3 := 107) (c4 := 107) (by decide) (by decide) (by decide) (by decide) (by decide) (by decide)
  rw [g2, h1, g3]
  refine (show f_X6_isName tm l (nI (tT b n p)) (nI (tS b n p)) (nI (tE b n p)) 3 105 110 107 107 = _ from e).trans ?_
  unfold wd
  show _ = some (bI (decide (tT b n p = 1) && (decide (tE b n p - tS b n p = 3) && (decide (b (tS b n p) = 105) && (decide (b (tS b n p + 1) = 110) && (decide (b (tS b n p + 2) = 107) && true))))))
  simp
theorem M_with (ht : TM b n tm l) {o : Bool} {tok fr to val wr : Int32} (h : MZ b n o p tok fr to val wr) : f_X6_isFour tm l tok fr to 119 105 116 104 = some (bI (wd b n p 9)) := by
  obtain ⟨hp, h1, g2, g3, g4, -⟩ := h
  rw [g2, h1, g3]
  exact M_w9 hp ht
end STEPS
