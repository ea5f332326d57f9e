/-! PURE 13: rows -/
def RW (n : Int32) (c m : Nat → Int32) (n' : Int32) : Prop := n = n' ∧ (∃ q : Nat, q ≤ 10 ∧ n = nI q) ∧ ∀ i, i < 30 → c i = m i
def gRv (a : AP) (k i : Nat) : Int32 := if i % 3 = 0 then nI (aOn (itN gPh (i / 3 + 1) a) k) else if i % 3 = 1 then nI (aInk (itN gPh (i / 3 + 1) a) k) else bI ((gWs (itN gPh (i / 3) a)).testBit k)
theorem rwP0 {b : AP} {v : PV} (hv : CV b v) {k : Nat} (hk : k < aN b) (h8 : aN b ≤ 8) : f_X1_rowPart v (nI k) 0 = some (nI (aOn b k)) := by
  unfold f_X1_rowPart
  rw [if_pos (by rfl), rdA_nI (show k < 8 by omega) (by decide), (hv.2.2.2.2.1 k hk).2.2]
theorem rwP1 {b : AP} {v : PV} (hv : CV b v) {k : Nat} (hk : k < aN b) (h8 : aN b ≤ 8) : f_X1_rowPart v (nI k) 1 = some (nI (aInk b k)) := by
  unfold f_X1_rowPart
  rw [if_neg (by decide), if_pos (by rfl), rdA_nI (show k < 8 by omega) (by decide), (hv.2.2.2.2.1 k hk).2.1]
theorem rwP2 {m : Nat} {v : PV} (hv : pWent v = nI m) (hm : m < 256) {k : Nat} (hk : k < 8) : f_X1_rowPart v (nI k) 2 = some (bI (m.testBit k)) := by
  unfold f_X1_rowPart
  rw [if_neg (by decide), if_neg (by decide), hv, has_t hm hk]
  cases m.testBit k <;> rfl
def PR (a : AP) (k n : Nat) (r0 r : Nat → Int32) : Prop := ∀ i, i < 30 → r i = if i < 3 * n then gRv a k i else r0 i
theorem PR_step {a : AP} {k n : Nat} {r0 r r' : Nat → Int32} (h : PR a k n r0 r) (h0 : r' (3 * n) = nI (aOn (itN gPh (n + 1) a) k)) (h1 : r' (3 * n + 1) = nI (aInk (itN gPh (n + 1) a) k)) (h2 : r' (3 * n + 2) = bI ((gWs (itN gPh n a)).testBit k)) (ho : ∀ i, ¬ i = 3 * n → ¬ i = 3 * n + 1 → ¬ i = 3 * n + 2 → r' i = r i) : PR a k (n + 1) r0 r' := by
  intro i hi
  by_cases e0 : i = 3 * n
  · subst e0
    rw [h0, if_pos (by omega)]
    unfold gRv
    rw [if_pos (by omega), show 3 * n / 3 = n by omega]
  · by_cases e1 : i = 3 * n + 1
    · subst e1
      rw [h1, if_pos (by omega)]
      unfold gRv
      rw [if_neg (by omega), if_pos (by omega), show (3 * n + 1) / 3 = n by omega]
    · by_cases e2 : i = 3 * n + 2
      · subst e2
        rw [h2, if_pos (by omega)]
        unfold gRv
        rw [if_neg (by omega), if_neg (by omega), show (3 * n + 2) / 3 = n by omega]
      · rw [ho i e0 e1 e2, h i hi]
        by_cases c : i < 3 * n
        · rw [if_pos c, if_pos (by omega)]
        · rw [if_neg c, if_neg (by omega)]
theorem X5_proveIn {N : Nat} {b : AP} {v : PV} {m k i : Nat} (hv : CV b v) (hm : pWent v = nI m) (hm2 : m < 256) (hk : k < aN b) (h8 : aN b ≤ 8) (hi : i < 10) (hN : 9 ≤ N) (j17 : (Nat → Int32) → Option (Int32 × Int32 × PV × (Nat → Int32))) (r : Nat → Int32) : f_X5_prove_L48 (nI k) (nI i) v j17 N 0 r = j17 (upd (upd (upd r (3 * i) (nI (aOn b k))) (3 * i + 1) (nI (aInk b k))) (3 * i + 2) (bI (m.testBit k))) := by
  obtain ⟨N, rfl⟩ : ∃ N', N = N' + 4 := ⟨N - 4, by omega⟩
  have im : nI i * 3 = nI (3 * i) := (pk_mul i 3).trans (by rw [Nat.mul_comm])
  have z0 : nI (3 * i) + 0 = nI (3 * i) := Int32.add_zero _
  have a1 : (0 : Int32) + 1 = 1 := rfl
  have a2 : (1 : Int32) + 1 = 2 := rfl
  have a3 : (2 : Int32) + 1 = 3 := rfl
  rw [f_X5_prove_L48, if_neg (by decide), rwP0 hv hk h8, ob1_s, im, z0, ckA_nI (show 3 * i < 30 by omega) (by decide), nI_clamp (by omega), lj_s, lj_s, a1]
  rw [f_X5_prove_L48, if_neg (by decide), rwP1 hv hk h8, ob1_s, im, nI_1, ckA_nI (show 3 * i + 1 < 30 by omega) (by decide), nI_clamp (by omega), lj_s, lj_s, a2]
  rw [f_X5_prove_L48, if_neg (by decide), rwP2 hm hm2 (by omega), ob1_s, im, nI_2, ckA_nI (show 3 * i + 2 < 30 by omega) (by decide), nI_clamp (by omega), lj_s, lj_s, a3]
  rw [f_X5_prove_L48, if_pos (by decide)]
def YP (h : Nat) (v : PV) (c : Option (Int32 × Int32 × PV × (Nat → Int32))) (m : Option (Int32 × (Nat → Int32) × (Nat → Int32) × (Nat → Int32) × Int32)) : Prop := ∃ (r n : Int32) (t : PV) (rc s' q' rm : Nat → Int32) (n' : Int32), c = some (r, n, t, rc) ∧ m = some (r, s', q', rm, n') ∧ RP h v s' ∧ RW n rc rm n'
theorem Y_prove {N h : Nat} {v : PV} {s : Nat → Int32} (t : PV) (q : Nat → Int32) (hr : RP h v s) (hN : 500 ≤ N) (hb : h + 1001 < 2 ^ 31) {n n' : Int32} {rc rm : Nat → Int32} (hrw : RW n rc rm n') (x0 x1 : Int32) : YP h v (f_X5_prove N n v t rc x0 x1) (f_X6_prove N s q rm n' x0 x1) := by
  obtain ⟨a, hv, hs, hw, hh⟩ := id hr
  have hn8 := hw.1
  unfold f_X5_prove f_X6_prove
  rcases mark_c hv hs hw x0 with ⟨q1, q2⟩ | ⟨k, hk, rfl, q1, q2⟩
  · rw [if_pos q1, if_pos q2]; exact ⟨_, _, _, _, _, _, _, _, rfl, rfl, hr, hrw⟩
  · rw [q1, q2, if_neg n10, if_neg n10, i110]
    rcases wl_c x1 1 (hi := 10) (by decide) (by decide) with p | ⟨m, m1, m10, rfl, p⟩
    · have p : f_X5_within x1 1 10 = 0 := p
      rw [if_pos p, if_pos p]; exact ⟨_, _, _, _, _, _, _, _, rfl, rfl, hr, hrw⟩
    · have p : f_X5_within (nI m) 1 10 = 1 := p
      obtain ⟨t1, b1, b2⟩ := X1_become (v := t) hv hn8
      obtain ⟨z, e1, e2, e3⟩ := lpR (L := fun f i (z : PV × (Nat → Int32)) => f_X5_prove_L33 N (nI k) (nI m) (fun (v7 : PV) (v8 : Nat → Int32) => some (nI m, nI m, v7, v8)) f i z.1 z.2) (k := fun z => some (nI m, nI m, z.1, z.2)) (n := m) (fun j (_ : Unit) z => CV (itN gPh j a) z.1 ∧ PR a k j rc z.2) (fun _ u => u)
        (fun f _ z _ => by show f_X5_prove_L33 N (nI k) (nI m) _ (f + 1) (nI m) z.1 z.2 = _; rw [f_X5_prove_L33, if_pos (Int32.le_refl _)])
        (fun f j _ z hj hz => by
          obtain ⟨z1, z2⟩ := hz
          have hwj := itW hw j
          have hkj : k < aN (itN gPh (j + 1) a) := by rw [itA]; exact hk
          obtain ⟨u, g1, g2, g3⟩ := X1_passHour (N := N) z1 hwj (by omega) (by rw [itH]; omega)
          rw [← itN_succ gPh j a] at g2
          show ∃ s' : PV × (Nat → Int32), f_X5_prove_L33 N (nI k) (nI m) _ (f + 1) (nI j) z.1 z.2 = f_X5_prove_L33 N (nI k) (nI m) _ f (nI (j + 1)) s'.1 s'.2 ∧ _
          rw [f_X5_prove_L33, if_neg (nI_ge hj (by omega)), g1, ob1_s, lj_s, X5_proveIn g2 g3 (gWs_256 hwj) hkj (by rw [itA]; exact hn8) (show j < 10 by omega) (by omega), lj_s, nI_1]
          refine ⟨(u, upd (upd (upd z.2 (3 * j) (nI (aOn (itN gPh (j + 1) a) k))) (3 * j + 1) (nI (aInk (itN gPh (j + 1) a) k))) (3 * j + 2) (bI ((gWs (itN gPh j a)).testBit k))), rfl, g2, PR_step (r' := upd (upd (upd z.2 (3 * j) (nI (aOn (itN gPh (j + 1) a) k))) (3 * j + 1) (nI (aInk (itN gPh (j + 1) a) k))) (3 * j + 2) (bI ((gWs (itN gPh j a)).testBit k))) z2 ?_ ?_ upd_s (fun i h0 h1 h2 => ?_)⟩
          · rw [upd_n (by omega), upd_n (by omega), upd_s]
          · rw [upd_n (by omega), upd_s]
          · rw [upd_n h2, upd_n h1, upd_n h0])
        m 0 N () (t1, rc) (by omega) (by omega) ⟨b2, fun i hi => by rw [if_neg (by omega)]⟩
      have e1 : f_X5_prove_L33 N (nI k) (nI m) (fun (v7 : PV) (v8 : Nat → Int32) => some (nI m, nI m, v7, v8)) N 0 t1 rc = _ := e1
      obtain ⟨v5, c1, c2⟩ := X6_copyRow (N := N) (by omega) s q
      obtain ⟨y, d1, d2, d3⟩ := lpR (L := fun f i (z : (Nat → Int32) × (Nat → Int32)) => f_X6_prove_L35 N (nI k) (nI m) (fun (v7 : Nat → Int32) (v8 : Nat → Int32) => ob1 (f_X6_copyRow N v5 v7) (fun (v10 : Nat → Int32) => some (nI m, v10, v5, v8, nI m))) f i z.1 z.2) (k := fun z => ob1 (f_X6_copyRow N v5 z.1) (fun (v10 : Nat → Int32) => some (nI m, v10, v5, z.2, nI m))) (n := m) (fun j (_ : Unit) z => CM (itN gPh j a) z.1 ∧ PR a k j rm z.2) (fun _ u => u)
        (fun f _ z _ => by show f_X6_prove_L35 N (nI k) (nI m) _ (f + 1) (nI m) z.1 z.2 = _; rw [f_X6_prove_L35, if_pos (Int32.le_refl _)])
        (fun f j _ z hj hz => by
          obtain ⟨z1, z2⟩ := hz
          have hwj := itW hw j
          have hkj : k < aN (itN gPh (j + 1) a) := by rw [itA]; exact hk
          have h8j : aN (itN gPh (j + 1) a) ≤ 8 := by rw [itA]; exact hn8
          obtain ⟨u, g1, g2⟩ := X6_goesOn (N := N) z1 hwj (by omega) (by rw [itH]; omega)
          rw [← itN_succ gPh j a] at g2
          have im : (3 : Int32) * nI j = nI (3 * j) := pk_mul 3 j
          show ∃ s' : (Nat → Int32) × (Nat → Int32), f_X6_prove_L35 N (nI k) (nI m) _ (f + 1) (nI j) z.1 z.2 = f_X6_prove_L35 N (nI k) (nI m) _ f (nI (j + 1)) s'.1 s'.2 ∧ _
          have hbit : (nI (gWs (itN gPh j a)) >>> (nI k &&& 31)) &&& 1 = bI ((gWs (itN gPh j a)).testBit k) := bitI (gWs_256 hwj) (by omega)
          rw [f_X6_prove_L35, if_neg (nI_ge hj (by omega)), g1, ob2_s, lj_s, hbit, im, nI_2, nI_1, ckA_nI (show 3 * j + 2 < 30 by omega) (by decide), nI_clamp (show 3 * j + 2 < 2 ^ 31 by omega), lj_s, itsO g2 h8j hkj, ob1_s, ckA_nI (show 3 * j < 30 by omega) (by decide), nI_clamp (show 3 * j < 2 ^ 31 by omega), lj_s, itsI g2 h8j hkj, ob1_s, ckA_nI (show 3 * j + 1 < 30 by omega) (by decide), nI_clamp (show 3 * j + 1 < 2 ^ 31 by omega), lj_s, lj_s, nI_1]
          refine ⟨(u, upd (upd (upd z.2 (3 * j + 2) (bI ((gWs (itN gPh j a)).testBit k))) (3 * j) (nI (aOn (itN gPh (j + 1) a) k))) (3 * j + 1) (nI (aInk (itN gPh (j + 1) a) k))), rfl, g2, PR_step (r' := upd (upd (upd z.2 (3 * j + 2) (bI ((gWs (itN gPh j a)).testBit k))) (3 * j) (nI (aOn (itN gPh (j + 1) a) k))) (3 * j + 1) (nI (aInk (itN gPh (j + 1) a) k))) z2 ?_ upd_s ?_ (fun i h0 h1 h2 => ?_)⟩
          · rw [upd_n (by omega), upd_s]
          · rw [upd_n (by omega), upd_n (by omega), upd_s]
          · rw [upd_n h1, upd_n h0, upd_n h2])
        m 0 N () (s, rm) (by omega) (by omega) ⟨hs, fun i hi => by rw [if_neg (by omega)]⟩
      have d1 : f_X6_prove_L35 N (nI k) (nI m) (fun (v7 : Nat → Int32) (v8 : Nat → Int32) => ob1 (f_X6_copyRow N v5 v7) (fun (v10 : Nat → Int32) => some (nI m, v10, v5, v8, nI m))) N 0 s rm = _ := d1
      obtain ⟨v10, c3, c4⟩ := X6_copyRow (N := N) (by omega) v5 y.1
      rw [p, if_neg n10, if_neg n10, b1, ob1_s, lj_s, e1, c1, ob1_s, lj_s, d1, c3, ob1_s]
      refine ⟨_, _, _, _, _, _, _, _, rfl, rfl, RP_at hv hs hw hh (fun i hi => (c4 i hi).trans (c2 i hi)), rfl, ⟨m, m10, rfl⟩, fun i hi => ?_⟩
      rw [e3 i hi, d3 i hi, hrw.2.2 i hi]
theorem rowp_c {n n' : Int32} {rc rm : Nat → Int32} (h : RW n rc rm n') (x0 x1 : Int32) : (f_X5_isRowPart n x0 x1 = 0 ∧ f_X6_isRow n' x0 x1 = 0) ∨ ∃ i w : Nat, i < 10 ∧ w < 3 ∧ x0 = nI i ∧ x1 = nI w ∧ f_X5_isRowPart n x0 x1 = 1 ∧ f_X6_isRow n' x0 x1 = 1 := by
  obtain ⟨rfl, ⟨q, q10, rfl⟩, -⟩ := h
  unfold f_X5_isRowPart f_X6_isRow
  rw [show f_X6_isIn x0.toInt64 0 (nI q - 1).toInt64 = f_X5_within x0 0 (nI q - 1) from isIn_eq x0 0 (nI q - 1), i02]
  rcases wn_c x0 (n := q) (by omega) with ⟨p, -⟩ | ⟨i, i1, rfl, p⟩
  · left; rw [if_pos p]; exact ⟨rfl, rfl⟩
  · rw [p, if_neg n10]
    rcases wl_c x1 0 (hi := 2) (by decide) (by decide) with z | ⟨w, -, w2, rfl, z⟩
    · have z : f_X5_within x1 0 2 = 0 := z
      left; rw [if_pos z]; exact ⟨rfl, rfl⟩
    · have z : f_X5_within (nI w) 0 2 = 1 := z
      right
      rw [z, if_neg n10]
      exact ⟨i, w, by omega, by omega, rfl, rfl, rfl, rfl⟩
theorem ix3 (i w : Nat) : nI i * 3 + nI w = nI (3 * i + w) ∧ 3 * nI i + nI w = nI (3 * i + w) := by
  rw [show nI i * 3 = nI (3 * i) from (pk_mul i 3).trans (by rw [Nat.mul_comm]), show 3 * nI i = nI (3 * i) from pk_mul 3 i, nI_add]
  exact ⟨rfl, rfl⟩
theorem Y_row {n n' : Int32} {rc rm : Nat → Int32} (h : RW n rc rm n') (x0 x1 : Int32) : ∃ r, f_X5_row n rc x0 x1 = some r ∧ f_X6_row rm n' x0 x1 = some r := by
  unfold f_X5_row f_X6_row
  rcases rowp_c h x0 x1 with ⟨q1, q2⟩ | ⟨i, w, hi, hw, rfl, rfl, q1, q2⟩
  · rw [if_pos q1, if_pos q2]; exact ⟨_, rfl, rfl⟩
  · rw [q1, q2, if_neg n10, if_neg n10, (ix3 i w).1, (ix3 i w).2, rdA_nI (show 3 * i + w < 30 by omega) (by decide), rdA_nI (show 3 * i + w < 30 by omega) (by decide), h.2.2 _ (by omega)]
    exact ⟨_, rfl, rfl⟩
theorem Y_alterRow {n n' : Int32} {rc rm : Nat → Int32} (h : RW n rc rm n') (x0 x1 x2 : Int32) : Y2 (fun rc rm => RW n rc rm n') (f_X5_alterRow n rc x0 x1 x2) (f_X6_alterRow rm n' x0 x1 x2) := by
  unfold f_X5_alterRow f_X6_alterRow
  rcases rowp_c h x0 x1 with ⟨q1, q2⟩ | ⟨i, w, hi, hw, rfl, rfl, q1, q2⟩
  · rw [if_pos q1, if_pos q2]; exact Y2.mk _ _ _ rfl rfl h
  · rw [q1, q2, if_neg n10, if_neg n10, (ix3 i w).1, (ix3 i w).2, rdA_nI (show 3 * i + w < 30 by omega) (by decide), rdA_nI (show 3 * i + w < 30 by omega) (by decide), ckA_nI (show 3 * i + w < 30 by omega) (by decide), ckA_nI (show 3 * i + w < 30 by omega) (by decide), nI_clamp (by omega), h.2.2 _ (by omega)]
    refine Y2.mk _ _ _ rfl rfl ⟨h.1, h.2.1, fun j hj => ?_⟩
    by_cases e : j = 3 * i + w
    · rw [e, upd_s, upd_s]
    · rw [upd_n e, upd_n e]; exact h.2.2 j hj
def gJr (M : Nat → Bool) : Nat → Nat → Nat
  | 0, _ => 0
  | d + 1, i => if M i = true then gJr M d (i + 1) else i + 1
def gMa (a : AP) (k : Nat) (r : Nat → Int32) (i : Nat) : Bool := decide (r (3 * i) = nI (aOn (itN gPh (i + 1) a) k)) && (decide (r (3 * i + 1) = nI (aInk (itN gPh (i + 1) a) k)) && decide (r (3 * i + 2) = bI ((gWs (itN gPh i a)).testBit k)))
theorem Y_judge {N h : Nat} {v : PV} {s : Nat → Int32} (t : PV) (q : Nat → Int32) (hr : RP h v s) (hN : 500 ≤ N) (hb : h + 1001 < 2 ^ 31) {n n' : Int32} {rc rm : Nat → Int32} (hrw : RW n rc rm n') (x0 : Int32) : YT h v (f_X5_judge N n v t rc x0) (f_X6_judge N s q rm n' x0) := by
  obtain ⟨a, hv, hs, hw, hh⟩ := id hr
  have hn8 := hw.1
  obtain ⟨rfl, ⟨m, m10, rfl⟩, he⟩ := hrw
  unfold f_X5_judge f_X6_judge
  rcases mark_c hv hs hw x0 with ⟨q1, q2⟩ | ⟨k, hk, rfl, q1, q2⟩
  · rw [if_pos q1, if_pos q2]; exact YT.mk _ _ _ _ rfl rfl hr
  · have k8 : k < 8 := by omega
    obtain ⟨t1, b1, b2⟩ := X1_become (v := t) hv hn8
    have a1 : (0 : Int32) + 1 = 1 := rfl
    have a2 : (1 : Int32) + 1 = 2 := rfl
    have a3 : (2 : Int32) + 1 = 3 := rfl
    have key1 : ∀ (d j f : Nat) (u : PV), j + d = m → d < f → CV (itN gPh j a) u → ∃ t', f_X5_judge_L23 N (nI m) rc (nI k) f (nI j) u = some (nI (gJr (gMa a k rm) d j), t') := by
      intro d
      induction d with
      | zero =>
        intro j f u hj hf hu
        obtain ⟨f, rfl⟩ : ∃ f', f = f' + 1 := ⟨f - 1, by omega⟩
        refine ⟨u, ?_⟩
        rw [f_X5_judge_L23, if_pos (nI_le (by omega) (by omega)), gJr]
        rfl
      | succ d ih =>
        intro j f u hj hf hu
        obtain ⟨f, rfl⟩ : ∃ f', f = f' + 1 := ⟨f - 1, by omega⟩
        have hwj := itW hw j
        have hkj : k < aN (itN gPh (j + 1) a) := by rw [itA]; exact hk
        have h8j : aN (itN gPh (j + 1) a) ≤ 8 := by rw [itA]; exact hn8
        obtain ⟨u2, g1, g2, g3⟩ := X1_passHour (N := N) hu hwj (by omega) (by rw [itH]; omega)
        rw [← itN_succ gPh j a] at g2
        obtain ⟨t', e1⟩ := ih (j + 1) f u2 (by omega) (by omega) g2
        obtain ⟨N', hN'⟩ : ∃ N', N = N' + 4 := ⟨N - 4, by omega⟩
        have im : nI j * 3 = nI (3 * j) := (pk_mul j 3).trans (by rw [Nat.mul_comm])
        have z0 : nI (3 * j) + 0 = nI (3 * j) := Int32.add_zero _
        rw [f_X5_judge_L23, if_neg (nI_ge (by omega) (by omega)), g1, ob1_s, lj_s, lj_s, gJr]
        have inn : ∀ (J : Option (Int32 × PV)), f_X5_judge_L40 rc (nI k) (nI j) u2 J N 0 = if gMa a k rm j = true then J else some (nI (j + 1), u2) := by
          intro J
          rw [hN']
          unfold gMa
          rw [f_X5_judge_L40, if_neg (by decide), im, z0, rdA_nI (show 3 * j < 30 by omega) (by decide), rwP0 g2 hkj h8j, ob1_s, he _ (show 3 * j < 30 by omega), lj_s, lj_s, nI_1, a1]
          by_cases c0 : rm (3 * j) = nI (aOn (itN gPh (j + 1) a) k)
          · rw [if_pos c0, f_X5_judge_L40, if_neg (by decide), im, nI_1, rdA_nI (show 3 * j + 1 < 30 by omega) (by decide), rwP1 g2 hkj h8j, ob1_s, he _ (show 3 * j + 1 < 30 by omega), lj_s, lj_s, nI_1, a2]
            by_cases c1 : rm (3 * j + 1) = nI (aInk (itN gPh (j + 1) a) k)
            · rw [if_pos c1, f_X5_judge_L40, if_neg (by decide), im, nI_2, rdA_nI (show 3 * j + 2 < 30 by omega) (by decide), rwP2 g3 (gWs_256 hwj) k8, ob1_s, he _ (show 3 * j + 2 < 30 by omega), lj_s, lj_s, nI_1, a3]
              by_cases c2 : rm (3 * j + 2) = bI ((gWs (itN gPh j a)).testBit k)
              · rw [if_pos c2, f_X5_judge_L40, if_pos (by decide), if_pos (by simp [c0, c1, c2])]
              · rw [if_neg c2, if_neg (by simp [c2])]
            · rw [if_neg c1, if_neg (by simp [c1])]
          · rw [if_neg c0, if_neg (by simp [c0])]
        rw [inn]
        cases hM : gMa a k rm j with
        | true =>
          refine ⟨t', ?_⟩
          rw [if_pos rfl, if_pos rfl, nI_1]
          exact e1
        | false =>
          refine ⟨u2, ?_⟩
          rw [if_neg (by decide), if_neg (by decide)]
    have key2 : ∀ (j8 : Int32 → Int32 → (Nat → Int32) → Option (Int32 × (Nat → Int32) × (Nat → Int32))) (d j f : Nat) (u : Nat → Int32), j + d = m → d + 1 < f → CM (itN gPh j a) u → ∃ (u' : Nat → Int32) (b : Bool) (x : Int32), f_X6_judge_L25 N rm (nI m) (nI k) j8 f 1 (nI j) u = j8 (bI b) x u' ∧ (if bI b = 0 then x else 0) = nI (gJr (gMa a k rm) d j) := by
      intro j8 d
      induction d with
      | zero =>
        intro j f u hj hf hu
        obtain ⟨f, rfl⟩ : ∃ f', f = f' + 1 := ⟨f - 1, by omega⟩
        refine ⟨u, true, nI j, ?_, ?_⟩
        · rw [f_X6_judge_L25, if_pos (nI_le (by omega) (by omega))]
          rfl
        · rw [if_neg (by decide), gJr]
          rfl
      | succ d ih =>
        intro j f u hj hf hu
        obtain ⟨f, rfl⟩ : ∃ f', f = f' + 1 := ⟨f - 1, by omega⟩
        have hwj := itW hw j
        have hkj : k < aN (itN gPh (j + 1) a) := by rw [itA]; exact hk
        have h8j : aN (itN gPh (j + 1) a) ≤ 8 := by rw [itA]; exact hn8
        obtain ⟨u2, g1, g2⟩ := X6_goesOn (N := N) hu hwj (by omega) (by rw [itH]; omega)
        rw [← itN_succ gPh j a] at g2
        have hbit : (nI (gWs (itN gPh j a)) >>> (nI k &&& 31)) &&& 1 = bI ((gWs (itN gPh j a)).testBit k) := bitI (gWs_256 hwj) k8
        have im : (3 : Int32) * nI j = nI (3 * j) := pk_mul 3 j
        rw [f_X6_judge_L25, if_neg (nI_ge (by omega) (by omega)), if_neg n10, im, nI_2, nI_1, rdA_nI (show 3 * j + 2 < 30 by omega) (by decide), g1, ob2_s, lj_s, lj_s, hbit, nI_1, rdA_nI (show 3 * j < 30 by omega) (by decide), itsO g2 h8j hkj, ob1_s, rdA_nI (show 3 * j + 1 < 30 by omega) (by decide), itsI g2 h8j hkj, ob1_s, gJr]
        dsimp only
        cases hM : gMa a k rm j with
        | true =>
          unfold gMa at hM
          simp only [Bool.and_eq_true, decide_eq_true_eq] at hM
          obtain ⟨c0, c1, c2⟩ := hM
          rw [if_pos c2, if_pos c0, if_pos c1, if_pos rfl, lj_s]
          exact ih (j + 1) f u2 (by omega) (by omega) g2
        | false =>
          obtain ⟨f, rfl⟩ : ∃ f', f = f' + 1 := ⟨f - 1, by omega⟩
          have stop : ∃ (u' : Nat → Int32) (b : Bool) (x : Int32), lj (nI (j + 1)) (fun t24 => f_X6_judge_L25 N rm (nI m) (nI k) j8 (f + 1) 0 t24 u2) = j8 (bI b) x u' ∧ (if bI b = 0 then x else 0) = nI (if false = true then gJr (gMa a k rm) d (j + 1) else j + 1) := by
            refine ⟨u2, false, nI (j + 1), ?_, ?_⟩
            · rw [lj_s, f_X6_judge_L25]
              by_cases c : nI m ≤ nI (j + 1)
              · rw [if_pos c]; rfl
              · rw [if_neg c, if_pos (by rfl)]; rfl
            · rw [if_pos (by rfl), if_neg (by decide)]
          unfold gMa at hM
          by_cases c2 : rm (3 * j + 2) = bI ((gWs (itN gPh j a)).testBit k)
          · rw [if_pos c2]
            by_cases c0 : rm (3 * j) = nI (aOn (itN gPh (j + 1) a) k)
            · rw [if_pos c0]
              by_cases c1 : rm (3 * j + 1) = nI (aInk (itN gPh (j + 1) a) k)
              · simp [c0, c1, c2] at hM
              · rw [if_neg c1]; exact stop
            · rw [if_neg c0]; exact stop
          · rw [if_neg c2]; exact stop
    obtain ⟨t', e1⟩ := key1 m 0 N t1 (by omega) (by omega) b2
    have e1 : f_X5_judge_L23 N (nI m) rc (nI k) N 0 t1 = _ := e1
    obtain ⟨v3, c1, c2⟩ := X6_copyRow (N := N) (by omega) s q
    obtain ⟨u', b, x, d1, d2⟩ := key2 (fun (i5 : Int32) (i6 : Int32) (v7 : Nat → Int32) => ob1 (f_X6_copyRow N v3 v7) (fun (v9 : Nat → Int32) => if i5 = 0 then some (i6, v9, v3) else some (0, v9, v3))) m 0 N s (by omega) (by omega) hs
    have d1 : f_X6_judge_L25 N rm (nI m) (nI k) (fun (i5 : Int32) (i6 : Int32) (v7 : Nat → Int32) => ob1 (f_X6_copyRow N v3 v7) (fun (v9 : Nat → Int32) => if i5 = 0 then some (i6, v9, v3) else some (0, v9, v3))) N 1 0 s = _ := d1
    obtain ⟨v9, c3, c4⟩ := X6_copyRow (N := N) (by omega) v3 u'
    rw [q1, q2, if_neg n10, if_neg n10, b1, ob1_s, e1, c1, ob1_s, lj_s, d1, c3, ob1_s]
    refine YT.mk _ _ v9 v3 rfl ?_ (RP_at hv hs hw hh (fun i hi => (c4 i hi).trans (c2 i hi)))
    rw [← d2]
    split <;> rfl
