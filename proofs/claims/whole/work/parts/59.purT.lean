/-! PURE 20: act and trace -/
def YA (c : Option (Int32 × DV)) (m : Option (Int32 × (Nat → Int32) × Int32 × Int32 × Int32 × Int32 × Int32)) : Prop := ∃ (r : Int32) (d' : DV) (bo' : Nat → Int32) (ra' k' n' a' p' : Int32), c = some (r, d') ∧ m = some (r, bo', ra', k', n', a', p') ∧ RD d' bo' ra'
theorem Y_act {N h : Nat} {v : PV} {s : Nat → Int32} (hr : RP h v s) (hN : 500 ≤ N) {sf : Nat → FV} {ho wh mn : Nat → Int32} (hF : RF sf ho wh mn) {dd : DV} {bo : Nat → Int32} {ra : Int32} (hD : RD dd bo ra) (k0 n0 a0 p0 x0 x1 x2 : Int32) : YA (f_X5_act N v dd sf x0 x1 x2) (f_X6_act s ho wh bo ra k0 n0 a0 p0 x0 x1 x2) := by
  have fg : f_X0_forget dd = some (ddSetPartedBy0 (ddSetRan dd 0) 0) := rfl
  have h1 : RD (ddSetPartedBy0 (ddSetRan dd 0) 0) bo 0 := ⟨⟨0, by decide, rfl⟩, rfl, hD.2.2⟩
  have no : YA (some (0, ddSetPartedBy0 (ddSetRan dd 0) 0)) (some (0, bo, 0, k0, n0, a0, p0)) := ⟨_, _, _, _, _, _, _, _, rfl, rfl, h1⟩
  unfold f_X5_act f_X6_act
  rw [fg, ob1_s]
  have hp1 : ddPartedBy0 (ddSetPartedBy0 (ddSetRan dd 0) 0) = 0 := rfl
  clear fg
  generalize ddSetPartedBy0 (ddSetRan dd 0) 0 = d1 at *
  rcases shelf_c x0 with ⟨q1, q2⟩ | ⟨t, ht, rfl, q1, q2⟩
  · rw [if_pos q1, if_pos q2]; exact no
  · rw [q1, q2, if_neg n10, if_neg n10, i03]
    rcases wl_c x1 0 (hi := 3) (by decide) (by decide) with p | ⟨w, -, w3, rfl, p⟩
    · have p : f_X5_within x1 0 3 = 0 := p
      rw [if_pos p, if_pos p]; exact no
    · have p : f_X5_within (nI w) 0 3 = 1 := p
      rw [p, if_neg n10, if_neg n10, ckA_nI ht (by decide), ckA_nI ht (by decide), nI_clamp (show t < 2 ^ 31 by omega), lj_s, lj_s]
      rcases held_c hr hF ht with ⟨g1, g2, a, j, hv, hs, hw, -, hj, e1, e2⟩ | ⟨g1, g2, -⟩ | ⟨g1, g2⟩
      · obtain ⟨m1, -, m3⟩ := hv.2.2.2.2.1 j hj
        obtain ⟨w1, -, -⟩ := hw.2.2.1 j hj
        have h8 := hw.1
        rw [g1, g2, ob1_s, if_pos (by rfl), if_pos (by rfl), e1, lj_s, rdA_nI (show j < 8 by omega) (by decide), rdA_nI (show j < 8 by omega) (by decide), m1, m3, rdA_nI ht (by decide), e2, itsK hs h8 hj, ob1_s, rdA_nI ht (by decide), rdA_nI ht (by decide), e2, itsO hs h8 hj, ob1_s, lj_s]
        unfold f_X0_doAct
        rw [lj_s, lj_s, lj_s]
        have h3 : RD (ddSetKind (ddSetOn (ddSetNumber d1 (nI j)) (nI (aOn a j))) (nI (aKind a j))) bo 0 := ⟨h1.1, h1.2.1, h1.2.2⟩
        have hp3 : ddPartedBy0 (ddSetKind (ddSetOn (ddSetNumber d1 (nI j)) (nI (aOn a j))) (nI (aKind a j))) = 0 := hp1
        have hk3 : ddKind (ddSetKind (ddSetOn (ddSetNumber d1 (nI j)) (nI (aOn a j))) (nI (aKind a j))) = nI (aKind a j) := rfl
        have hn3 : ddNumber (ddSetKind (ddSetOn (ddSetNumber d1 (nI j)) (nI (aOn a j))) (nI (aKind a j))) = nI j := rfl
        have ho3 : ddOn (ddSetKind (ddSetOn (ddSetNumber d1 (nI j)) (nI (aOn a j))) (nI (aKind a j))) = nI (aOn a j) := rfl
        generalize ddSetKind (ddSetOn (ddSetNumber d1 (nI j)) (nI (aOn a j))) (nI (aKind a j)) = d3 at *
        have fin : ∀ (r : Int32) (d' : DV) (bo' : Nat → Int32) (ra' p : Int32), RD d' bo' ra' → ddPartedBy0 d' = p → YA (ob2 (ob2 (some (r, d')) (fun (r4 : Int32) (v5 : DV) => if ddPartedBy0 v5 = 0 then some (r4, v5) else some (-15, v5))) (fun (r19 : Int32) (v20 : DV) => some (r19, v20))) (if p = 0 then some (r, bo', ra', nI (aKind a j), nI j, nI (aOn a j), p) else some (-15, bo', ra', nI (aKind a j), nI j, nI (aOn a j), p)) := by
          rintro r d' bo' ra' p hd rfl
          rw [ob2_s]
          by_cases c : ddPartedBy0 d' = 0
          · rw [if_pos c, if_pos c, ob2_s]
            exact ⟨_, _, _, _, _, _, _, _, rfl, rfl, hd⟩
          · rw [if_neg c, if_neg c, ob2_s]
            exact ⟨_, _, _, _, _, _, _, _, rfl, rfl, hd⟩
        rw [hk3]
        rcases (show w = 0 ∨ w = 1 ∨ w = 2 ∨ w = 3 by omega) with rfl | rfl | rfl | rfl
        · obtain ⟨r, d', bo', ra', k1, k2, k3, k4⟩ := T_it (N := N) (D := 9) (m := 0) (by omega) w1 h3 hp3 x2 (by decide)
          have k1 : f_X0_run N 12 d3 (nI (aKind a j)) (nI 0) x2 0 = _ := k1
          rw [hn3, ho3] at k2
          rw [k1, if_pos (by rfl), k2, ob3_s]
          exact fin _ _ _ _ _ k3 (k4.2.2.2.trans hp3)
        · obtain ⟨r, d', bo', ra', k1, k2, k3, k4⟩ := T_cr (N := N) (D := 7) (m := 0) (by omega) w1 h3 hp3 hk3 x2 (by decide)
          have k1 : f_X0_run N 12 d3 (nI (aKind a j)) (nI 1) x2 0 = _ := k1
          rw [hn3, ho3] at k2
          rw [k1, if_neg (by decide), if_pos (by rfl), k2, ob3_s]
          exact fin _ _ _ _ _ k3 (k4.2.2.2.trans hp3)
        · obtain ⟨r, d', bo', ra', p, k1, k2, k3, k4⟩ := T_pa (N := N) (D := 8) (m := 0) (by omega) w1 h3 hp3 hk3 x2 (by decide)
          have k1 : f_X0_run N 12 d3 (nI (aKind a j)) (nI 2) x2 0 = _ := k1
          rw [hn3, ho3] at k2
          rw [k1, if_neg (by decide), if_neg (by decide), if_pos (by rfl), k2, ob4_s]
          exact fin _ _ _ _ _ k3 k4
        · obtain ⟨r, d', bo', ra', p, k1, k2, k3, k4⟩ := T_bi (N := N) (D := 5) (m := 0) (by omega) w1 h3 hp3 hk3 x2 (by decide)
          have k1 : f_X0_run N 12 d3 (nI (aKind a j)) (nI 3) x2 0 = _ := k1
          rw [hn3, ho3] at k2
          rw [k1, if_neg (by decide), if_neg (by decide), if_neg (by decide), k2, ob4_s]
          exact fin _ _ _ _ _ k3 k4
      · rw [g1, g2, ob1_s, if_neg (by decide), if_neg (by decide)]; exact no
      · rw [g1, g2, ob1_s, if_neg (by decide), if_neg (by decide)]; exact no
theorem Y_trace {dd : DV} {bo : Nat → Int32} {ra : Int32} (hD : RD dd bo ra) (x0 : Int32) : ∃ r, f_X5_trace dd x0 = some r ∧ f_X6_trace bo ra x0 = some r := by
  obtain ⟨⟨q, q30, e⟩, e2, hb⟩ := hD
  unfold f_X5_trace f_X6_trace
  rw [← e2, e, show f_X6_isIn x0.toInt64 0 (nI q - 1).toInt64 = f_X5_within x0 0 (nI q - 1) from isIn_eq x0 0 (nI q - 1)]
  rcases wn_c x0 (n := q) (by omega) with ⟨p, -⟩ | ⟨i, hi, rfl, p⟩
  · rw [if_pos p, if_pos p]; exact ⟨_, rfl, rfl⟩
  · rw [p, if_neg n10, if_neg n10, rdA_nI (show i < 30 by omega) (by decide), rdA_nI (show i < 30 by omega) (by decide), hb i (by omega)]
    exact ⟨_, rfl, rfl⟩
