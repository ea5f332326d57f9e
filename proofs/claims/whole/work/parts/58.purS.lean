/-! PURE 19: acts on both sides, crawls, parts, bites -/
theorem T_cp {N D m k f : Nat} (hN : 9 ≤ N) (hk : k < 6) (hf : f = 0 ∨ f = 2 ∨ f = 5) {d : DV} {bo : Nat → Int32} {ra : Int32} (h : RD d bo ra) (hp : ddPartedBy0 d = 0) (hkd : ddKind d = nI k) (x : Int32) (hm : m + 3 ≤ 40) : ER d (f_X0_run N (D + 1 + 1 + 1 + 1) d (nI f) 1 x (nI m)) (f_X6_crawlsPlain bo ra (nI k) (ddNumber d) (ddOn d) x) := by
  obtain ⟨bo1, ra1, e1, h1⟩ := note2 h 11
  have F := nD_F d 11
  obtain ⟨r, d', bo2, ra2, g1, g2, g3, g4⟩ := T_it (N := N) (D := D) (m := m + 1) hN hk h1 (F.2.2.2.trans hp) x (by omega)
  have st : f_X0_run N (D + 1 + 1 + 1 + 1) d (nI f) 1 x (nI m) = ob2 (f_X0_run N (D + 1 + 1 + 1) (nD d 11) (ddKind (nD d 11)) 0 x (nI m + 1)) (fun r v => some (r - ddOn v, v)) := by
    rcases hf with rfl | rfl | rfl
    · exact S_0_1 hN h.1 hp x (e40 (by omega))
    · exact S_2_1 hN h.1 hp x (e40 (by omega))
    · exact S_5_1 hN h.1 hp x (e40 (by omega))
  unfold f_X6_crawlsPlain
  rw [st, nI_1, F.2.2.1, hkd, g1, ob2_s, e1, ob2_s, ← F.1, ← F.2.1, g2, ob3_s, lj_s, ← g4.2.1]
  exact ⟨_, _, _, _, rfl, rfl, g3, g4.trans F⟩
theorem T_cr {N D m k : Nat} (hN : 9 ≤ N) (hk : k < 6) {d : DV} {bo : Nat → Int32} {ra : Int32} (h : RD d bo ra) (hp : ddPartedBy0 d = 0) (hkd : ddKind d = nI k) (x : Int32) (hm : m + 4 ≤ 40) : ER d (f_X0_run N (D + 1 + 1 + 1 + 1 + 1) d (nI k) 1 x (nI m)) (f_X6_crawls bo ra (nI k) (ddNumber d) (ddOn d) x) := by
  obtain ⟨bo2, ra2, e2, h2⟩ := note2 h 20
  obtain ⟨bo4, ra4, e4, h4⟩ := note2 h 41
  have F2 := nD_F d 20
  have F4 := nD_F d 41
  have ship : ∀ st : f_X0_run N (D + 1 + 1 + 1 + 1 + 1) d (nI k) 1 x (nI m) = ob2 (f_X0_run N (D + 1 + 1 + 1 + 1) (nD d 20) 0 1 x (nI m + 1)) (fun r v => some (r * 4, v)), ER d (f_X0_run N (D + 1 + 1 + 1 + 1 + 1) d (nI k) 1 x (nI m)) (ob2 (f_X6_runs bo ra 20) (fun (v2 : Nat → Int32) (v3 : Int32) => ob3 (f_X6_crawlsPlain v2 v3 (nI k) (ddNumber d) (ddOn d) x) (fun (r5 : Int32) (v6 : Nat → Int32) (v7 : Int32) => lj (r5 * 4) (fun (t9 : Int32) => some (t9, v6, v7))))) := by
    intro st
    obtain ⟨r, d', bo3, ra3, g1, g2, g3, g4⟩ := T_cp (N := N) (D := D) (m := m + 1) (f := 0) hN hk (Or.inl rfl) h2 (F2.2.2.2.trans hp) (F2.2.2.1.trans hkd) x (by omega)
    have g1 : f_X0_run N (D + 1 + 1 + 1 + 1) (nD d 20) 0 1 x (nI (m + 1)) = _ := g1
    rw [st, nI_1, g1, ob2_s, e2, ob2_s, ← F2.1, ← F2.2.1, g2, ob3_s, lj_s]
    exact ⟨_, _, _, _, rfl, rfl, g3, g4.trans F2⟩
  have plain : ∀ (f : Nat), k = f → (f = 0 ∨ f = 2 ∨ f = 5) → ER d (f_X0_run N (D + 1 + 1 + 1 + 1 + 1) d (nI k) 1 x (nI m)) (ob3 (f_X6_crawlsPlain bo ra (nI k) (ddNumber d) (ddOn d) x) (fun (r13 : Int32) (v14 : Nat → Int32) (v15 : Int32) => some (r13, v14, v15))) := by
    rintro f rfl hf
    obtain ⟨r, d', bo3, ra3, g1, g2, g3, g4⟩ := T_cp (N := N) (D := D + 1) (m := m) (f := k) hN hk hf h hp hkd x (by omega)
    rw [g1, g2, ob3_s]
    exact ⟨_, _, _, _, rfl, rfl, g3, g4⟩
  unfold f_X6_crawls
  rw [lj_s]
  rcases six hk with rfl | rfl | rfl | rfl | rfl | rfl
  · rw [if_neg (by decide), if_neg (by decide), if_neg (by decide)]
    exact plain 0 rfl (by omega)
  · rw [if_pos (by rfl)]
    exact ship (S_1_1 hN h.1 hp x (e40 (by omega)))
  · rw [if_neg (by decide), if_neg (by decide), if_neg (by decide)]
    exact plain 2 rfl (by omega)
  · rw [if_neg (by decide), if_pos (by rfl)]
    exact ship (S_3_1 hN h.1 hp x (e40 (by omega)))
  · rw [if_neg (by decide), if_neg (by decide), if_pos (by rfl)]
    obtain ⟨r, d', bo3, ra3, g1, g2, g3, g4⟩ := T_cp (N := N) (D := D) (m := m + 1) (f := 2) hN hk (Or.inr (Or.inl rfl)) h4 (F4.2.2.2.trans hp) (F4.2.2.1.trans hkd) x (by omega)
    have G := g4.trans F4
    obtain ⟨r5, d5, bo5, ra5, k1, k2, k3, k4⟩ := T_it (N := N) (D := D + 1) (m := m + 1) hN hk g3 (G.2.2.2.trans hp) (ddOn d') (by omega)
    have g1 : f_X0_run N (D + 1 + 1 + 1 + 1) (nD d 41) 2 1 x (nI (m + 1)) = _ := g1
    have st : f_X0_run N (D + 1 + 1 + 1 + 1 + 1) d (nI 4) 1 x (nI m) = _ := S_4_1 (D := D + 1 + 1 + 1 + 1) hN h.1 hp x (e40 (show m ≤ 40 by omega))
    rw [st, nI_1, g1, ob2_s, F4.2.2.1, hkd, k1, ob2_s, e4, ob2_s, ← F4.1, ← F4.2.1, g2, ob3_s, ← g4.1, ← g4.2.1, k2, ob3_s, lj_s]
    exact ⟨_, _, _, _, rfl, rfl, k3, k4.trans G⟩
  · rw [if_neg (by decide), if_neg (by decide), if_neg (by decide)]
    exact plain 5 rfl (by omega)
def EP (d : DV) (c : Option (Int32 × DV)) (m : Option (Int32 × (Nat → Int32) × Int32 × Int32)) : Prop := ∃ r d' bo' ra' p, c = some (r, d') ∧ m = some (r, bo', ra', p) ∧ RD d' bo' ra' ∧ (ddNumber d' = ddNumber d ∧ ddOn d' = ddOn d ∧ ddKind d' = ddKind d) ∧ ddPartedBy0 d' = p ∧ (p = 0 ∨ (p = 1 ∧ r = 0))
theorem T_pp {N D m f : Nat} (hN : 9 ≤ N) (hf : f = 0 ∨ f = 1 ∨ f = 2 ∨ f = 4) {d : DV} {bo : Nat → Int32} {ra : Int32} (h : RD d bo ra) (hp : ddPartedBy0 d = 0) (x : Int32) (hm : m ≤ 40) : EP d (f_X0_run N (D + 1) d (nI f) 2 x (nI m)) (f_X6_partsPlain bo ra (ddNumber d) (ddOn d) 0 x) := by
  obtain ⟨bo1, ra1, e1, h1⟩ := note2 h 12
  have F := nD_F d 12
  have st : f_X0_run N (D + 1) d (nI f) 2 x (nI m) = ob2 (f_X0_parted (nD d 12) x) (fun r v => some (r, v)) := by
    rcases hf with rfl | rfl | rfl | rfl
    · exact S_0_2 hN h.1 hp x (e40 hm)
    · exact S_1_2 hN h.1 hp x (e40 hm)
    · exact S_2_2 hN h.1 hp x (e40 hm)
    · exact S_4_2 hN h.1 hp x (e40 hm)
  unfold f_X6_partsPlain f_X0_parted at *
  rw [st, e1, ob2_s, F.1, F.2.1]
  simp only [lj]
  by_cases c : ddOn d = ddNumber d
  · rw [if_pos c, if_pos trivial, if_pos c.symm, gdP_t (Or.inr trivial), if_neg n10, ob2_s]
    exact ⟨_, _, _, _, _, rfl, rfl, ⟨h1.1, h1.2.1, h1.2.2⟩, ⟨F.1, F.2.1, F.2.2.1⟩, rfl, Or.inr ⟨rfl, rfl⟩⟩
  · have nz : ¬ (ddOn d - ddNumber d) = 0 := by
      intro z
      apply c
      have := Int32.sub_add_cancel (ddOn d) (ddNumber d)
      rw [z, Int32.zero_add] at this
      exact this.symm
    rw [if_neg c, if_pos trivial, if_neg (fun z => c z.symm), gdP_t (Or.inl trivial), if_pos trivial, gdP_t nz, gdP_t nz, ob2_s]
    exact ⟨_, _, _, _, _, rfl, rfl, h1, ⟨F.1, F.2.1, F.2.2.1⟩, F.2.2.2.trans hp, Or.inl rfl⟩
theorem T_pa {N D m k : Nat} (hN : 9 ≤ N) (hk : k < 6) {d : DV} {bo : Nat → Int32} {ra : Int32} (h : RD d bo ra) (hp : ddPartedBy0 d = 0) (hkd : ddKind d = nI k) (x : Int32) (hm : m + 4 ≤ 40) : ∃ r d' bo' ra' p, f_X0_run N (D + 1 + 1 + 1 + 1) d (nI k) 2 x (nI m) = some (r, d') ∧ f_X6_parts bo ra (nI k) (ddNumber d) (ddOn d) 0 x = some (r, bo', ra', p) ∧ RD d' bo' ra' ∧ ddPartedBy0 d' = p := by
  obtain ⟨bo5, ra5, e5, h5⟩ := note2 h 50
  obtain ⟨bo6, ra6, e6, h6⟩ := note2 h 61
  have F5 := nD_F d 50
  have F6 := nD_F d 61
  have plain : ∀ f, k = f → (f = 0 ∨ f = 1 ∨ f = 2 ∨ f = 4) → ∃ r d' bo' ra' p, f_X0_run N (D + 1 + 1 + 1 + 1) d (nI k) 2 x (nI m) = some (r, d') ∧ (ob4 (f_X6_partsPlain bo ra (ddNumber d) (ddOn d) 0 x) (fun (r3 : Int32) (v4 : Nat → Int32) (v5 : Int32) (v6 : Int32) => some (r3, v4, v5, v6))) = some (r, bo', ra', p) ∧ RD d' bo' ra' ∧ ddPartedBy0 d' = p := by
    rintro f rfl hf
    obtain ⟨r, d', bo2, ra2, p, g1, g2, g3, -, g5, -⟩ := T_pp (N := N) (D := D + 1 + 1 + 1) (m := m) hN hf h hp x (by omega)
    rw [g1, g2, ob4_s]
    exact ⟨_, _, _, _, _, rfl, rfl, g3, g5⟩
  unfold f_X6_parts
  rcases six hk with rfl | rfl | rfl | rfl | rfl | rfl
  · rw [if_neg (by decide), if_neg (by decide)]
    exact plain 0 rfl (by omega)
  · rw [if_neg (by decide), if_neg (by decide)]
    exact plain 1 rfl (by omega)
  · rw [if_neg (by decide), if_neg (by decide)]
    exact plain 2 rfl (by omega)
  · obtain ⟨r, d', bo2, ra2, p, g1, g2, g3, -, g5, -⟩ := T_pp (N := N) (D := D + 1 + 1) (m := m + 1) (f := 1) hN (by omega) h5 (F5.2.2.2.trans hp) (x * 2) (by omega)
    have g1 : f_X0_run N (D + 1 + 1 + 1) (nD d 50) 1 2 (x * 2) (nI (m + 1)) = _ := g1
    have st : f_X0_run N (D + 1 + 1 + 1 + 1) d (nI 3) 2 x (nI m) = _ := S_3_2 (D := D + 1 + 1 + 1) hN h.1 hp x (e40 (show m ≤ 40 by omega))
    rw [st, nI_1, g1, ob2_s, if_pos (by rfl), e5, ob2_s, ← F5.1, ← F5.2.1, g2, ob4_s, lj_s]
    exact ⟨_, _, _, _, _, rfl, rfl, g3, g5⟩
  · rw [if_neg (by decide), if_neg (by decide)]
    exact plain 4 rfl (by omega)
  · obtain ⟨r, d', bo2, ra2, p, g1, g2, g3, g4, g5, g6⟩ := T_pp (N := N) (D := D + 1 + 1) (m := m + 1) (f := 0) hN (by omega) h6 (F6.2.2.2.trans hp) x (by omega)
    have g1 : f_X0_run N (D + 1 + 1 + 1) (nD d 61) 0 2 x (nI (m + 1)) = _ := g1
    have st : f_X0_run N (D + 1 + 1 + 1 + 1) d (nI 5) 2 x (nI m) = _ := S_5_2 (D := D + 1 + 1 + 1) hN h.1 hp x (e40 (show m ≤ 40 by omega))
    rw [st, nI_1, g1, ob2_s, if_neg (by decide), if_pos (by rfl), e6, ob2_s, ← F6.1, ← F6.2.1, g2, ob4_s, F6.2.2.1, hkd]
    rcases g6 with rfl | ⟨rfl, rfl⟩
    · obtain ⟨r7, d7, bo7, ra7, k1, k2, k3, k4⟩ := T_it (N := N) (D := D) (m := m + 1) hN hk g3 g5 (ddNumber d') (by omega)
      rw [k1, ob2_s, if_pos (by rfl), ← g4.1, ← g4.2.1, k2, ob3_s, lj_s]
      exact ⟨_, _, _, _, _, rfl, rfl, k3, k4.2.2.2.trans g5⟩
    · have hb : f_X0_withBody N (nI 5) 0 = some 0 := by
        obtain ⟨N, rfl⟩ : ∃ N', N = N' + 7 := ⟨N - 7, by omega⟩
        rfl
      have z : f_X0_run N (D + 1 + 1 + 1) d' (nI 5) 0 (ddNumber d') (nI (m + 1)) = some (0, d') := by
        rw [f_X0_run, hb, ob1_s, if_neg (by rw [g5]; decide)]
      rw [z, ob2_s, if_neg n10]
      exact ⟨_, _, _, _, _, rfl, rfl, g3, g5⟩
theorem T_bp {N D m k f : Nat} (hN : 9 ≤ N) (hk : k < 6) (hf : f = 0 ∨ f = 1 ∨ f = 3) {d : DV} {bo : Nat → Int32} {ra : Int32} (h : RD d bo ra) (hp : ddPartedBy0 d = 0) (hkd : ddKind d = nI k) (x : Int32) (hm : m + 5 ≤ 40) : ER d (f_X0_run N (D + 1 + 1 + 1 + 1 + 1 + 1) d (nI f) 3 x (nI m)) (f_X6_bitesPlain bo ra (nI k) (ddNumber d) (ddOn d) x) := by
  obtain ⟨bo1, ra1, e1, h1⟩ := note2 h 13
  have F := nD_F d 13
  obtain ⟨r, d', bo2, ra2, g1, g2, g3, g4⟩ := T_cr (N := N) (D := D) (m := m + 1) hN hk h1 (F.2.2.2.trans hp) (F.2.2.1.trans hkd) x (by omega)
  have st : f_X0_run N (D + 1 + 1 + 1 + 1 + 1 + 1) d (nI f) 3 x (nI m) = ob2 (f_X0_run N (D + 1 + 1 + 1 + 1 + 1) (nD d 13) (ddKind (nD d 13)) 1 x (nI m + 1)) (fun r v => some (r ^^^ 120, v)) := by
    rcases hf with rfl | rfl | rfl
    · exact S_0_3 hN h.1 hp x (e40 (by omega))
    · exact S_1_3 hN h.1 hp x (e40 (by omega))
    · exact S_3_3 hN h.1 hp x (e40 (by omega))
  unfold f_X6_bitesPlain
  rw [st, nI_1, F.2.2.1, hkd, g1, ob2_s, e1, ob2_s, ← F.1, ← F.2.1, g2, ob3_s, lj_s]
  exact ⟨_, _, _, _, rfl, rfl, g3, g4.trans F⟩
theorem T_bi {N D m k : Nat} (hN : 9 ≤ N) (hk : k < 6) {d : DV} {bo : Nat → Int32} {ra : Int32} (h : RD d bo ra) (hp : ddPartedBy0 d = 0) (hkd : ddKind d = nI k) (x : Int32) (hm : m + 10 ≤ 40) : ∃ r d' bo' ra' p, f_X0_run N (D + 1 + 1 + 1 + 1 + 1 + 1 + 1) d (nI k) 3 x (nI m) = some (r, d') ∧ f_X6_bites bo ra (nI k) (ddNumber d) (ddOn d) 0 x = some (r, bo', ra', p) ∧ RD d' bo' ra' ∧ ddPartedBy0 d' = p := by
  obtain ⟨bo3, ra3, e3, h3⟩ := note2 h 31
  obtain ⟨bo6, ra6, e6, h6⟩ := note2 h 60
  have F3 := nD_F d 31
  have F6 := nD_F d 60
  have plain : ∀ f, k = f → (f = 0 ∨ f = 1 ∨ f = 3) → ∃ r d' bo' ra' p, f_X0_run N (D + 1 + 1 + 1 + 1 + 1 + 1 + 1) d (nI k) 3 x (nI m) = some (r, d') ∧ (ob3 (f_X6_bitesPlain bo ra (nI k) (ddNumber d) (ddOn d) x) (fun (r18 : Int32) (v19 : Nat → Int32) (v20 : Int32) => some (r18, v19, v20, (0 : Int32)))) = some (r, bo', ra', p) ∧ RD d' bo' ra' ∧ ddPartedBy0 d' = p := by
    rintro f rfl hf
    obtain ⟨r, d', bo2, ra2, g1, g2, g3, g4⟩ := T_bp (N := N) (D := D + 1) (m := m) hN hk hf h hp hkd x (by omega)
    rw [g1, g2, ob3_s]
    exact ⟨_, _, _, _, _, rfl, rfl, g3, g4.2.2.2.trans hp⟩
  have snake : ∀ (st : f_X0_run N (D + 1 + 1 + 1 + 1 + 1 + 1 + 1) d (nI k) 3 x (nI m) = ob2 (f_X0_run N (D + 1 + 1 + 1 + 1 + 1 + 1) (nD d 31) 0 3 x (nI m + 1)) (fun r v => ob2 (f_X0_run N (D + 1 + 1 + 1 + 1 + 1 + 1) v (ddKind (nD d 31)) 2 (ddNumber v) (nI m + 1)) (fun r2 v2 => some (r + r2, v2)))), ∃ r d' bo' ra' p, f_X0_run N (D + 1 + 1 + 1 + 1 + 1 + 1 + 1) d (nI k) 3 x (nI m) = some (r, d') ∧ (ob2 (f_X6_runs bo ra 31) (fun (v2 : Nat → Int32) (v3 : Int32) => ob3 (f_X6_bitesPlain v2 v3 (nI k) (ddNumber d) (ddOn d) x) (fun (r5 : Int32) (v6 : Nat → Int32) (v7 : Int32) => ob4 (f_X6_parts v6 v7 (nI k) (ddNumber d) (ddOn d) 0 (ddNumber d)) (fun (r9 : Int32) (v10 : Nat → Int32) (v11 : Int32) (v12 : Int32) => lj (r5 + r9) (fun (t14 : Int32) => some (t14, v10, v11, v12)))))) = some (r, bo', ra', p) ∧ RD d' bo' ra' ∧ ddPartedBy0 d' = p := by
    intro st
    obtain ⟨r, d', bo2, ra2, g1, g2, g3, g4⟩ := T_bp (N := N) (D := D) (m := m + 1) (f := 0) hN hk (Or.inl rfl) h3 (F3.2.2.2.trans hp) (F3.2.2.1.trans hkd) x (by omega)
    have g1 : f_X0_run N (D + 1 + 1 + 1 + 1 + 1 + 1) (nD d 31) 0 3 x (nI (m + 1)) = _ := g1
    have G := g4.trans F3
    obtain ⟨r5, d5, bo5, ra5, p5, k1, k2, k3, k4⟩ := T_pa (N := N) (D := D + 1 + 1) (m := m + 1) hN hk g3 (G.2.2.2.trans hp) (G.2.2.1.trans hkd) (ddNumber d') (by omega)
    rw [st, nI_1, g1, ob2_s, F3.2.2.1, hkd, k1, ob2_s, e3, ob2_s, ← F3.1, ← F3.2.1, g2, ob3_s, ← g4.1, ← g4.2.1, k2, ob4_s, lj_s]
    exact ⟨_, _, _, _, _, rfl, rfl, k3, k4⟩
  unfold f_X6_bites
  rw [lj_s]
  rcases six hk with rfl | rfl | rfl | rfl | rfl | rfl
  · rw [if_neg (by decide), if_neg (by decide), if_neg (by decide)]
    exact plain 0 rfl (by omega)
  · rw [if_neg (by decide), if_neg (by decide), if_neg (by decide)]
    exact plain 1 rfl (by omega)
  · rw [if_pos (by rfl)]
    exact snake (S_2_3 hN h.1 hp x (e40 (by omega)))
  · rw [if_neg (by decide), if_neg (by decide), if_neg (by decide)]
    exact plain 3 rfl (by omega)
  · rw [if_neg (by decide), if_pos (by rfl)]
    exact snake (S_4_3 hN h.1 hp x (e40 (by omega)))
  · rw [if_neg (by decide), if_neg (by decide), if_pos (by rfl)]
    obtain ⟨r, d', bo2, ra2, g1, g2, g3, g4⟩ := T_bp (N := N) (D := D) (m := m + 1) (f := 0) hN hk (Or.inl rfl) h6 (F6.2.2.2.trans hp) (F6.2.2.1.trans hkd) x (by omega)
    have g1 : f_X0_run N (D + 1 + 1 + 1 + 1 + 1 + 1) (nD d 60) 0 3 x (nI (m + 1)) = _ := g1
    have st : f_X0_run N (D + 1 + 1 + 1 + 1 + 1 + 1 + 1) d (nI 5) 3 x (nI m) = _ := S_5_3 (D := D + 1 + 1 + 1 + 1 + 1 + 1) hN h.1 hp x (e40 (show m ≤ 40 by omega))
    rw [st, nI_1, g1, ob2_s, e6, ob2_s, ← F6.1, ← F6.2.1, g2, ob3_s, lj_s]
    exact ⟨_, _, _, _, _, rfl, rfl, g3, (g4.trans F6).2.2.2.trans hp⟩
