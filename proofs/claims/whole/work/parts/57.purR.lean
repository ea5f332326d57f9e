/-! PURE 18: acts on both sides -/
def RD (d : DV) (bo : Nat → Int32) (ra : Int32) : Prop := GD d ∧ ddRan d = ra ∧ ∀ i, i < 30 → ddBodies d i = bo i
def SF (d' d : DV) : Prop := ddNumber d' = ddNumber d ∧ ddOn d' = ddOn d ∧ ddKind d' = ddKind d ∧ ddPartedBy0 d' = ddPartedBy0 d
theorem SF.trans {a b c : DV} (h : SF a b) (g : SF b c) : SF a c := ⟨h.1.trans g.1, h.2.1.trans g.2.1, h.2.2.1.trans g.2.2.1, h.2.2.2.trans g.2.2.2⟩
theorem nD_F (d : DV) (b : Int32) : SF (nD d b) d := nD_s d b
theorem note2 {d : DV} {bo : Nat → Int32} {ra : Int32} (h : RD d bo ra) (b : Int32) : ∃ bo' ra', f_X6_runs bo ra b = some (bo', ra') ∧ RD (nD d b) bo' ra' := by
  obtain ⟨hg, e, hb⟩ := h
  obtain ⟨q, q30, e2⟩ := id hg
  have G := nD_G hg b
  subst e
  unfold f_X6_runs
  by_cases c : 30 ≤ ddRan d
  · rw [if_pos c]
    have en : nD d b = d := by unfold nD; rw [if_pos c]
    rw [en]
    exact ⟨_, _, rfl, hg, rfl, hb⟩
  · have q29 : q < 30 := by
      by_cases z : q < 30
      · exact z
      · exact absurd (by rw [e2, show q = 30 by omega]; decide) c
    have en : nD d b = ddSetRan (ddSetBodies d (upd (ddBodies d) (Int32.toNatClampNeg (ddRan d)) b)) (ddRan d + 1) := by unfold nD; rw [if_neg c]
    rw [if_neg c]
    have ck : ∀ (x : Option ((Nat → Int32) × Int32)), ckA 30 (ddRan d) x = x := fun x => by rw [e2]; exact ckA_nI q29 (by decide)
    rw [ck, lj_s, lj_s]
    refine ⟨_, _, rfl, G, ?_, fun i hi => ?_⟩
    · rw [en]
    · rw [en]
      show upd (ddBodies d) _ b i = upd bo _ b i
      by_cases z : i = Int32.toNatClampNeg (ddRan d)
      · rw [z, upd_s, upd_s]
      · rw [upd_n z, upd_n z]; exact hb i hi
def ER (d : DV) (c : Option (Int32 × DV)) (m : Option (Int32 × (Nat → Int32) × Int32)) : Prop := ∃ r d' bo' ra', c = some (r, d') ∧ m = some (r, bo', ra') ∧ RD d' bo' ra' ∧ SF d' d
theorem e40 {m : Nat} (h : m ≤ 40) : nI m ≤ 40 := nI_le (b := 40) h (by decide)
theorem T_plain {N D m : Nat} (hN : 9 ≤ N) {d : DV} {bo : Nat → Int32} {ra : Int32} (h : RD d bo ra) (hp : ddPartedBy0 d = 0) (x : Int32) (hm : m ≤ 40) : ER d (f_X0_run N (D + 1) d 0 0 x (nI m)) (f_X6_itchesPlain bo ra (ddNumber d) x) := by
  obtain ⟨bo1, ra1, e1, h1⟩ := note2 h 10
  unfold f_X6_itchesPlain
  rw [S_0_0 hN h.1 hp x (e40 hm), e1, ob2_s, lj_s, (nD_F d 10).1]
  exact ⟨_, _, _, _, rfl, rfl, h1, nD_F d 10⟩
theorem T_snake {N D m : Nat} (hN : 9 ≤ N) {d : DV} {bo : Nat → Int32} {ra : Int32} (h : RD d bo ra) (hp : ddPartedBy0 d = 0) (x : Int32) (hm : m + 1 ≤ 40) : ER d (f_X0_run N (D + 1 + 1) d 2 0 x (nI m)) (f_X6_itchesOfSnake bo ra (ddNumber d) x) := by
  obtain ⟨bo1, ra1, e1, h1⟩ := note2 h 30
  have F := nD_F d 30
  obtain ⟨r, d', bo2, ra2, g1, g2, g3, g4⟩ := T_plain (N := N) (D := D) hN h1 (F.2.2.2.trans hp) x hm
  unfold f_X6_itchesOfSnake
  rw [S_2_0 hN h.1 hp x (e40 (by omega)), nI_1, g1, ob2_s, e1, ob2_s, ← F.1, g2, ob3_s, lj_s]
  exact ⟨_, _, _, _, rfl, rfl, g3, g4.trans F⟩
theorem T_it {N D m k : Nat} (hN : 9 ≤ N) (hk : k < 6) {d : DV} {bo : Nat → Int32} {ra : Int32} (h : RD d bo ra) (hp : ddPartedBy0 d = 0) (x : Int32) (hm : m + 2 ≤ 40) : ER d (f_X0_run N (D + 1 + 1 + 1) d (nI k) 0 x (nI m)) (f_X6_itches bo ra (nI k) (ddNumber d) (ddOn d) x) := by
  obtain ⟨bo1, ra1, e1, h1⟩ := note2 h 10
  obtain ⟨bo3, ra3, e3, h3⟩ := note2 h 51
  obtain ⟨bo4, ra4, e4, h4⟩ := note2 h 40
  have F3 := nD_F d 51
  have F4 := nD_F d 40
  have plain : f_X6_itchesPlain bo ra (ddNumber d) x = some (x * 3 + ddNumber (nD d 10) * 2, bo1, ra1) := by
    unfold f_X6_itchesPlain
    rw [e1, ob2_s, lj_s, (nD_F d 10).1]
  unfold f_X6_itches
  rcases six hk with rfl | rfl | rfl | rfl | rfl | rfl
  · show ER d (f_X0_run N (D + 1 + 1 + 1) d 0 0 x (nI m)) _
    rw [S_0_0 hN h.1 hp x (e40 (by omega)), if_neg (by decide), if_neg (by decide), if_neg (by decide), plain, ob3_s]
    exact ⟨_, _, _, _, rfl, rfl, h1, nD_F d 10⟩
  · show ER d (f_X0_run N (D + 1 + 1 + 1) d 1 0 x (nI m)) _
    rw [S_1_0 hN h.1 hp x (e40 (by omega)), if_neg (by decide), if_neg (by decide), if_neg (by decide), plain, ob3_s]
    exact ⟨_, _, _, _, rfl, rfl, h1, nD_F d 10⟩
  · obtain ⟨r, d', bo2, ra2, g1, g2, g3, g4⟩ := T_snake (N := N) (D := D + 1) hN h hp x (show m + 1 ≤ 40 by omega)
    show ER d (f_X0_run N (D + 1 + 1 + 1) d 2 0 x (nI m)) _
    rw [g1, if_pos (by rfl), g2, ob3_s]
    exact ⟨_, _, _, _, rfl, rfl, g3, g4⟩
  · obtain ⟨r, d', bo2, ra2, g1, g2, g3, g4⟩ := T_plain (N := N) (D := D + 1) (m := m + 1) hN h3 (F3.2.2.2.trans hp) x (by omega)
    show ER d (f_X0_run N (D + 1 + 1 + 1) d 3 0 x (nI m)) _
    have r3 : f_X0_run N (D + 1 + 1) (nD d 51) 1 0 x (nI (m + 1)) = some (r, d') := by
      rw [S_1_0 hN h3.1 (F3.2.2.2.trans hp) x (e40 (by omega)), ← S_0_0 (D := D + 1) hN h3.1 (F3.2.2.2.trans hp) x (e40 (show m + 1 ≤ 40 by omega))]
      exact g1
    rw [S_3_0 hN h.1 hp x (e40 (by omega)), nI_1, r3, ob2_s, if_neg (by decide), if_pos (by rfl), e3, ob2_s, ← F3.1, g2, ob3_s, lj_s, ← F3.2.1, ← g4.2.1]
    exact ⟨_, _, _, _, rfl, rfl, g3, g4.trans F3⟩
  · obtain ⟨r, d', bo2, ra2, g1, g2, g3, g4⟩ := T_snake (N := N) (D := D) (m := m + 1) hN h4 (F4.2.2.2.trans hp) x (by omega)
    show ER d (f_X0_run N (D + 1 + 1 + 1) d 4 0 x (nI m)) _
    rw [S_4_0 hN h.1 hp x (e40 (by omega)), nI_1, g1, ob2_s, if_neg (by decide), if_neg (by decide), if_pos (by rfl), e4, ob2_s, ← F4.1, g2, ob3_s, lj_s]
    exact ⟨_, _, _, _, rfl, rfl, g3, g4.trans F4⟩
  · show ER d (f_X0_run N (D + 1 + 1 + 1) d 5 0 x (nI m)) _
    rw [S_5_0 hN h.1 hp x (e40 (by omega)), if_neg (by decide), if_neg (by decide), if_neg (by decide), plain, ob3_s]
    exact ⟨_, _, _, _, rfl, rfl, h1, nD_F d 10⟩
