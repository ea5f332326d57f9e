/-! PURE 17: deeds, step by step -/
def GD (d : DV) : Prop := ∃ q : Nat, q ≤ 30 ∧ ddRan d = nI q
def nD (d : DV) (b : Int32) : DV := if 30 ≤ ddRan d then d else ddSetRan (ddSetBodies d (upd (ddBodies d) (Int32.toNatClampNeg (ddRan d)) b)) (ddRan d + 1)
theorem nD_e {d : DV} (h : GD d) (b : Int32) : f_X0_note d b = some (nD d b) := by
  obtain ⟨q, q30, e⟩ := h
  unfold f_X0_note nD
  by_cases c : 30 ≤ ddRan d
  · rw [if_pos c, if_pos c]
  · rw [if_neg c, if_neg c, e]
    have q29 : q < 30 := by
      by_cases z : q < 30
      · exact z
      · exact absurd (by rw [e, show q = 30 by omega]; decide) c
    rw [ckA_nI q29 (by decide), lj_s, lj_s, lj_s]
    show some (ddSetRan _ (ddRan d + 1)) = _
    rw [e]
theorem nD_G {d : DV} (h : GD d) (b : Int32) : GD (nD d b) := by
  obtain ⟨q, q30, e⟩ := h
  unfold nD
  by_cases c : 30 ≤ ddRan d
  · rw [if_pos c]; exact ⟨q, q30, e⟩
  · rw [if_neg c]
    have q29 : q < 30 := by
      by_cases z : q < 30
      · exact z
      · exact absurd (by rw [e, show q = 30 by omega]; decide) c
    refine ⟨q + 1, q29, ?_⟩
    show ddRan d + 1 = _
    rw [e, nI_1]
theorem nD_s (d : DV) (b : Int32) : ddNumber (nD d b) = ddNumber d ∧ ddOn (nD d b) = ddOn d ∧ ddKind (nD d b) = ddKind d ∧ ddPartedBy0 (nD d b) = ddPartedBy0 d := by
  unfold nD
  split <;> exact ⟨rfl, rfl, rfl, rfl⟩
theorem S_0_0 {N D : Nat} (hN : 9 ≤ N) {d : DV} (hd : GD d) (hp : ddPartedBy0 d = 0) (x : Int32) {e : Int32} (he : e ≤ 40) : f_X0_run N (D + 1) d 0 0 x e = some (x * 3 + ddNumber (nD d 10) * 2, nD d 10) := by
  have hb : f_X0_withBody N 0 0 = some 0 := by
    obtain ⟨N, rfl⟩ : ∃ N', N = N' + 7 := ⟨N - 7, by omega⟩
    rfl
  rw [f_X0_run, hb, ob1_s, if_pos hp, if_neg (show ¬ (0 : Int32) = -1 by decide), if_pos he, show ((0 : Int32) * 4 + 0) = nI 0 from rfl, rdA_nI (by decide) (by decide), show tbBodies 0 = 10 from rfl, nD_e hd, ob1_s, lj_s, show (0 : Int32) = nI 0 from rfl, rdA_nI (by decide) (by decide), show tbAbove 0 = (-1) from rfl, lj_s, if_pos rfl]
  simp only [lj]
theorem S_0_1 {N D : Nat} (hN : 9 ≤ N) {d : DV} (hd : GD d) (hp : ddPartedBy0 d = 0) (x : Int32) {e : Int32} (he : e ≤ 40) : f_X0_run N (D + 1) d 0 1 x e = ob2 (f_X0_run N D (nD d 11) (ddKind (nD d 11)) 0 x (e + 1)) (fun r v => some (r - ddOn v, v)) := by
  have hb : f_X0_withBody N 0 1 = some 0 := by
    obtain ⟨N, rfl⟩ : ∃ N', N = N' + 7 := ⟨N - 7, by omega⟩
    rfl
  rw [f_X0_run, hb, ob1_s, if_pos hp, if_neg (show ¬ (0 : Int32) = -1 by decide), if_pos he, show ((0 : Int32) * 4 + 1) = nI 1 from rfl, rdA_nI (by decide) (by decide), show tbBodies 1 = 11 from rfl, nD_e hd, ob1_s, lj_s, show (0 : Int32) = nI 0 from rfl, rdA_nI (by decide) (by decide), show tbAbove 0 = (-1) from rfl, lj_s, if_neg (show ¬ (11 : Int32) = 10 by decide), if_pos rfl]
  simp only [lj]
theorem S_0_2 {N D : Nat} (hN : 9 ≤ N) {d : DV} (hd : GD d) (hp : ddPartedBy0 d = 0) (x : Int32) {e : Int32} (he : e ≤ 40) : f_X0_run N (D + 1) d 0 2 x e = ob2 (f_X0_parted (nD d 12) x) (fun r v => some (r, v)) := by
  have hb : f_X0_withBody N 0 2 = some 0 := by
    obtain ⟨N, rfl⟩ : ∃ N', N = N' + 7 := ⟨N - 7, by omega⟩
    rfl
  rw [f_X0_run, hb, ob1_s, if_pos hp, if_neg (show ¬ (0 : Int32) = -1 by decide), if_pos he, show ((0 : Int32) * 4 + 2) = nI 2 from rfl, rdA_nI (by decide) (by decide), show tbBodies 2 = 12 from rfl, nD_e hd, ob1_s, lj_s, show (0 : Int32) = nI 0 from rfl, rdA_nI (by decide) (by decide), show tbAbove 0 = (-1) from rfl, lj_s, if_neg (show ¬ (12 : Int32) = 10 by decide), if_neg (show ¬ (12 : Int32) = 11 by decide), if_pos rfl]
theorem S_0_3 {N D : Nat} (hN : 9 ≤ N) {d : DV} (hd : GD d) (hp : ddPartedBy0 d = 0) (x : Int32) {e : Int32} (he : e ≤ 40) : f_X0_run N (D + 1) d 0 3 x e = ob2 (f_X0_run N D (nD d 13) (ddKind (nD d 13)) 1 x (e + 1)) (fun r v => some (r ^^^ 120, v)) := by
  have hb : f_X0_withBody N 0 3 = some 0 := by
    obtain ⟨N, rfl⟩ : ∃ N', N = N' + 7 := ⟨N - 7, by omega⟩
    rfl
  rw [f_X0_run, hb, ob1_s, if_pos hp, if_neg (show ¬ (0 : Int32) = -1 by decide), if_pos he, show ((0 : Int32) * 4 + 3) = nI 3 from rfl, rdA_nI (by decide) (by decide), show tbBodies 3 = 13 from rfl, nD_e hd, ob1_s, lj_s, show (0 : Int32) = nI 0 from rfl, rdA_nI (by decide) (by decide), show tbAbove 0 = (-1) from rfl, lj_s, if_neg (show ¬ (13 : Int32) = 10 by decide), if_neg (show ¬ (13 : Int32) = 11 by decide), if_neg (show ¬ (13 : Int32) = 12 by decide), if_pos rfl]
  simp only [lj]
theorem S_1_0 {N D : Nat} (hN : 9 ≤ N) {d : DV} (hd : GD d) (hp : ddPartedBy0 d = 0) (x : Int32) {e : Int32} (he : e ≤ 40) : f_X0_run N (D + 1) d 1 0 x e = some (x * 3 + ddNumber (nD d 10) * 2, nD d 10) := by
  have hb : f_X0_withBody N 1 0 = some 0 := by
    obtain ⟨N, rfl⟩ : ∃ N', N = N' + 7 := ⟨N - 7, by omega⟩
    rfl
  rw [f_X0_run, hb, ob1_s, if_pos hp, if_neg (show ¬ (0 : Int32) = -1 by decide), if_pos he, show ((0 : Int32) * 4 + 0) = nI 0 from rfl, rdA_nI (by decide) (by decide), show tbBodies 0 = 10 from rfl, nD_e hd, ob1_s, lj_s, show (0 : Int32) = nI 0 from rfl, rdA_nI (by decide) (by decide), show tbAbove 0 = (-1) from rfl, lj_s, if_pos rfl]
  simp only [lj]
theorem S_1_1 {N D : Nat} (hN : 9 ≤ N) {d : DV} (hd : GD d) (hp : ddPartedBy0 d = 0) (x : Int32) {e : Int32} (he : e ≤ 40) : f_X0_run N (D + 1) d 1 1 x e = ob2 (f_X0_run N D (nD d 20) 0 1 x (e + 1)) (fun r v => some (r * 4, v)) := by
  have hb : f_X0_withBody N 1 1 = some 1 := by
    obtain ⟨N, rfl⟩ : ∃ N', N = N' + 7 := ⟨N - 7, by omega⟩
    rfl
  rw [f_X0_run, hb, ob1_s, if_pos hp, if_neg (show ¬ (1 : Int32) = -1 by decide), if_pos he, show ((1 : Int32) * 4 + 1) = nI 5 from rfl, rdA_nI (by decide) (by decide), show tbBodies 5 = 20 from rfl, nD_e hd, ob1_s, lj_s, show (1 : Int32) = nI 1 from rfl, rdA_nI (by decide) (by decide), show tbAbove 1 = 0 from rfl, lj_s, if_neg (show ¬ (20 : Int32) = 10 by decide), if_neg (show ¬ (20 : Int32) = 11 by decide), if_neg (show ¬ (20 : Int32) = 12 by decide), if_neg (show ¬ (20 : Int32) = 13 by decide), if_neg (show ¬ (20 : Int32) = 14 by decide), if_neg (show ¬ (20 : Int32) = 15 by decide), if_neg (show ¬ (20 : Int32) = 16 by decide), if_neg (show ¬ (20 : Int32) = 17 by decide), if_neg (show ¬ (20 : Int32) = 18 by decide), if_neg (show ¬ (20 : Int32) = 19 by decide), if_pos rfl]
  simp only [lj]
theorem S_1_2 {N D : Nat} (hN : 9 ≤ N) {d : DV} (hd : GD d) (hp : ddPartedBy0 d = 0) (x : Int32) {e : Int32} (he : e ≤ 40) : f_X0_run N (D + 1) d 1 2 x e = ob2 (f_X0_parted (nD d 12) x) (fun r v => some (r, v)) := by
  have hb : f_X0_withBody N 1 2 = some 0 := by
    obtain ⟨N, rfl⟩ : ∃ N', N = N' + 7 := ⟨N - 7, by omega⟩
    rfl
  rw [f_X0_run, hb, ob1_s, if_pos hp, if_neg (show ¬ (0 : Int32) = -1 by decide), if_pos he, show ((0 : Int32) * 4 + 2) = nI 2 from rfl, rdA_nI (by decide) (by decide), show tbBodies 2 = 12 from rfl, nD_e hd, ob1_s, lj_s, show (0 : Int32) = nI 0 from rfl, rdA_nI (by decide) (by decide), show tbAbove 0 = (-1) from rfl, lj_s, if_neg (show ¬ (12 : Int32) = 10 by decide), if_neg (show ¬ (12 : Int32) = 11 by decide), if_pos rfl]
theorem S_1_3 {N D : Nat} (hN : 9 ≤ N) {d : DV} (hd : GD d) (hp : ddPartedBy0 d = 0) (x : Int32) {e : Int32} (he : e ≤ 40) : f_X0_run N (D + 1) d 1 3 x e = ob2 (f_X0_run N D (nD d 13) (ddKind (nD d 13)) 1 x (e + 1)) (fun r v => some (r ^^^ 120, v)) := by
  have hb : f_X0_withBody N 1 3 = some 0 := by
    obtain ⟨N, rfl⟩ : ∃ N', N = N' + 7 := ⟨N - 7, by omega⟩
    rfl
  rw [f_X0_run, hb, ob1_s, if_pos hp, if_neg (show ¬ (0 : Int32) = -1 by decide), if_pos he, show ((0 : Int32) * 4 + 3) = nI 3 from rfl, rdA_nI (by decide) (by decide), show tbBodies 3 = 13 from rfl, nD_e hd, ob1_s, lj_s, show (0 : Int32) = nI 0 from rfl, rdA_nI (by decide) (by decide), show tbAbove 0 = (-1) from rfl, lj_s, if_neg (show ¬ (13 : Int32) = 10 by decide), if_neg (show ¬ (13 : Int32) = 11 by decide), if_neg (show ¬ (13 : Int32) = 12 by decide), if_pos rfl]
  simp only [lj]
theorem S_2_0 {N D : Nat} (hN : 9 ≤ N) {d : DV} (hd : GD d) (hp : ddPartedBy0 d = 0) (x : Int32) {e : Int32} (he : e ≤ 40) : f_X0_run N (D + 1) d 2 0 x e = ob2 (f_X0_run N D (nD d 30) 0 0 x (e + 1)) (fun r v => some (0 - r, v)) := by
  have hb : f_X0_withBody N 2 0 = some 2 := by
    obtain ⟨N, rfl⟩ : ∃ N', N = N' + 7 := ⟨N - 7, by omega⟩
    rfl
  rw [f_X0_run, hb, ob1_s, if_pos hp, if_neg (show ¬ (2 : Int32) = -1 by decide), if_pos he, show ((2 : Int32) * 4 + 0) = nI 8 from rfl, rdA_nI (by decide) (by decide), show tbBodies 8 = 30 from rfl, nD_e hd, ob1_s, lj_s, show (2 : Int32) = nI 2 from rfl, rdA_nI (by decide) (by decide), show tbAbove 2 = 0 from rfl, lj_s, if_neg (show ¬ (30 : Int32) = 10 by decide), if_neg (show ¬ (30 : Int32) = 11 by decide), if_neg (show ¬ (30 : Int32) = 12 by decide), if_neg (show ¬ (30 : Int32) = 13 by decide), if_neg (show ¬ (30 : Int32) = 14 by decide), if_neg (show ¬ (30 : Int32) = 15 by decide), if_neg (show ¬ (30 : Int32) = 16 by decide), if_neg (show ¬ (30 : Int32) = 17 by decide), if_neg (show ¬ (30 : Int32) = 18 by decide), if_neg (show ¬ (30 : Int32) = 19 by decide), if_neg (show ¬ (30 : Int32) = 20 by decide), if_neg (show ¬ (30 : Int32) = 21 by decide), if_neg (show ¬ (30 : Int32) = 22 by decide), if_neg (show ¬ (30 : Int32) = 23 by decide), if_neg (show ¬ (30 : Int32) = 24 by decide), if_neg (show ¬ (30 : Int32) = 25 by decide), if_neg (show ¬ (30 : Int32) = 26 by decide), if_neg (show ¬ (30 : Int32) = 27 by decide), if_neg (show ¬ (30 : Int32) = 28 by decide), if_neg (show ¬ (30 : Int32) = 29 by decide), if_pos rfl]
  simp only [lj]
theorem S_2_1 {N D : Nat} (hN : 9 ≤ N) {d : DV} (hd : GD d) (hp : ddPartedBy0 d = 0) (x : Int32) {e : Int32} (he : e ≤ 40) : f_X0_run N (D + 1) d 2 1 x e = ob2 (f_X0_run N D (nD d 11) (ddKind (nD d 11)) 0 x (e + 1)) (fun r v => some (r - ddOn v, v)) := by
  have hb : f_X0_withBody N 2 1 = some 0 := by
    obtain ⟨N, rfl⟩ : ∃ N', N = N' + 7 := ⟨N - 7, by omega⟩
    rfl
  rw [f_X0_run, hb, ob1_s, if_pos hp, if_neg (show ¬ (0 : Int32) = -1 by decide), if_pos he, show ((0 : Int32) * 4 + 1) = nI 1 from rfl, rdA_nI (by decide) (by decide), show tbBodies 1 = 11 from rfl, nD_e hd, ob1_s, lj_s, show (0 : Int32) = nI 0 from rfl, rdA_nI (by decide) (by decide), show tbAbove 0 = (-1) from rfl, lj_s, if_neg (show ¬ (11 : Int32) = 10 by decide), if_pos rfl]
  simp only [lj]
theorem S_2_2 {N D : Nat} (hN : 9 ≤ N) {d : DV} (hd : GD d) (hp : ddPartedBy0 d = 0) (x : Int32) {e : Int32} (he : e ≤ 40) : f_X0_run N (D + 1) d 2 2 x e = ob2 (f_X0_parted (nD d 12) x) (fun r v => some (r, v)) := by
  have hb : f_X0_withBody N 2 2 = some 0 := by
    obtain ⟨N, rfl⟩ : ∃ N', N = N' + 7 := ⟨N - 7, by omega⟩
    rfl
  rw [f_X0_run, hb, ob1_s, if_pos hp, if_neg (show ¬ (0 : Int32) = -1 by decide), if_pos he, show ((0 : Int32) * 4 + 2) = nI 2 from rfl, rdA_nI (by decide) (by decide), show tbBodies 2 = 12 from rfl, nD_e hd, ob1_s, lj_s, show (0 : Int32) = nI 0 from rfl, rdA_nI (by decide) (by decide), show tbAbove 0 = (-1) from rfl, lj_s, if_neg (show ¬ (12 : Int32) = 10 by decide), if_neg (show ¬ (12 : Int32) = 11 by decide), if_pos rfl]
theorem S_2_3 {N D : Nat} (hN : 9 ≤ N) {d : DV} (hd : GD d) (hp : ddPartedBy0 d = 0) (x : Int32) {e : Int32} (he : e ≤ 40) : f_X0_run N (D + 1) d 2 3 x e = ob2 (f_X0_run N D (nD d 31) 0 3 x (e + 1)) (fun r v => ob2 (f_X0_run N D v (ddKind (nD d 31)) 2 (ddNumber v) (e + 1)) (fun r2 v2 => some (r + r2, v2))) := by
  have hb : f_X0_withBody N 2 3 = some 2 := by
    obtain ⟨N, rfl⟩ : ∃ N', N = N' + 7 := ⟨N - 7, by omega⟩
    rfl
  rw [f_X0_run, hb, ob1_s, if_pos hp, if_neg (show ¬ (2 : Int32) = -1 by decide), if_pos he, show ((2 : Int32) * 4 + 3) = nI 11 from rfl, rdA_nI (by decide) (by decide), show tbBodies 11 = 31 from rfl, nD_e hd, ob1_s, lj_s, show (2 : Int32) = nI 2 from rfl, rdA_nI (by decide) (by decide), show tbAbove 2 = 0 from rfl, lj_s, if_neg (show ¬ (31 : Int32) = 10 by decide), if_neg (show ¬ (31 : Int32) = 11 by decide), if_neg (show ¬ (31 : Int32) = 12 by decide), if_neg (show ¬ (31 : Int32) = 13 by decide), if_neg (show ¬ (31 : Int32) = 14 by decide), if_neg (show ¬ (31 : Int32) = 15 by decide), if_neg (show ¬ (31 : Int32) = 16 by decide), if_neg (show ¬ (31 : Int32) = 17 by decide), if_neg (show ¬ (31 : Int32) = 18 by decide), if_neg (show ¬ (31 : Int32) = 19 by decide), if_neg (show ¬ (31 : Int32) = 20 by decide), if_neg (show ¬ (31 : Int32) = 21 by decide), if_neg (show ¬ (31 : Int32) = 22 by decide), if_neg (show ¬ (31 : Int32) = 23 by decide), if_neg (show ¬ (31 : Int32) = 24 by decide), if_neg (show ¬ (31 : Int32) = 25 by decide), if_neg (show ¬ (31 : Int32) = 26 by decide), if_neg (show ¬ (31 : Int32) = 27 by decide), if_neg (show ¬ (31 : Int32) = 28 by decide), if_neg (show ¬ (31 : Int32) = 29 by decide), if_neg (show ¬ (31 : Int32) = 30 by decide), if_pos rfl]
  simp only [lj]
theorem S_3_0 {N D : Nat} (hN : 9 ≤ N) {d : DV} (hd : GD d) (hp : ddPartedBy0 d = 0) (x : Int32) {e : Int32} (he : e ≤ 40) : f_X0_run N (D + 1) d 3 0 x e = ob2 (f_X0_run N D (nD d 51) 1 0 x (e + 1)) (fun r v => some (r + ddOn v, v)) := by
  have hb : f_X0_withBody N 3 0 = some 3 := by
    obtain ⟨N, rfl⟩ : ∃ N', N = N' + 7 := ⟨N - 7, by omega⟩
    rfl
  rw [f_X0_run, hb, ob1_s, if_pos hp, if_neg (show ¬ (3 : Int32) = -1 by decide), if_pos he, show ((3 : Int32) * 4 + 0) = nI 12 from rfl, rdA_nI (by decide) (by decide), show tbBodies 12 = 51 from rfl, nD_e hd, ob1_s, lj_s, show (3 : Int32) = nI 3 from rfl, rdA_nI (by decide) (by decide), show tbAbove 3 = 1 from rfl, lj_s, if_neg (show ¬ (51 : Int32) = 10 by decide), if_neg (show ¬ (51 : Int32) = 11 by decide), if_neg (show ¬ (51 : Int32) = 12 by decide), if_neg (show ¬ (51 : Int32) = 13 by decide), if_neg (show ¬ (51 : Int32) = 14 by decide), if_neg (show ¬ (51 : Int32) = 15 by decide), if_neg (show ¬ (51 : Int32) = 16 by decide), if_neg (show ¬ (51 : Int32) = 17 by decide), if_neg (show ¬ (51 : Int32) = 18 by decide), if_neg (show ¬ (51 : Int32) = 19 by decide), if_neg (show ¬ (51 : Int32) = 20 by decide), if_neg (show ¬ (51 : Int32) = 21 by decide), if_neg (show ¬ (51 : Int32) = 22 by decide), if_neg (show ¬ (51 : Int32) = 23 by decide), if_neg (show ¬ (51 : Int32) = 24 by decide), if_neg (show ¬ (51 : Int32) = 25 by decide), if_neg (show ¬ (51 : Int32) = 26 by decide), if_neg (show ¬ (51 : Int32) = 27 by decide), if_neg (show ¬ (51 : Int32) = 28 by decide), if_neg (show ¬ (51 : Int32) = 29 by decide), if_neg (show ¬ (51 : Int32) = 30 by decide), if_neg (show ¬ (51 : Int32) = 31 by decide), if_neg (show ¬ (51 : Int32) = 32 by decide), if_neg (show ¬ (51 : Int32) = 33 by decide), if_neg (show ¬ (51 : Int32) = 34 by decide), if_neg (show ¬ (51 : Int32) = 35 by decide), if_neg (show ¬ (51 : Int32) = 36 by decide), if_neg (show ¬ (51 : Int32) = 37 by decide), if_neg (show ¬ (51 : Int32) = 38 by decide), if_neg (show ¬ (51 : Int32) = 39 by decide), if_neg (show ¬ (51 : Int32) = 40 by decide), if_neg (show ¬ (51 : Int32) = 41 by decide), if_neg (show ¬ (51 : Int32) = 42 by decide), if_neg (show ¬ (51 : Int32) = 43 by decide), if_neg (show ¬ (51 : Int32) = 44 by decide), if_neg (show ¬ (51 : Int32) = 45 by decide), if_neg (show ¬ (51 : Int32) = 46 by decide), if_neg (show ¬ (51 : Int32) = 47 by decide), if_neg (show ¬ (51 : Int32) = 48 by decide), if_neg (show ¬ (51 : Int32) = 49 by decide), if_neg (show ¬ (51 : Int32) = 50 by decide), if_pos rfl]
  simp only [lj]
theorem S_3_1 {N D : Nat} (hN : 9 ≤ N) {d : DV} (hd : GD d) (hp : ddPartedBy0 d = 0) (x : Int32) {e : Int32} (he : e ≤ 40) : f_X0_run N (D + 1) d 3 1 x e = ob2 (f_X0_run N D (nD d 20) 0 1 x (e + 1)) (fun r v => some (r * 4, v)) := by
  have hb : f_X0_withBody N 3 1 = some 1 := by
    obtain ⟨N, rfl⟩ : ∃ N', N = N' + 7 := ⟨N - 7, by omega⟩
    rfl
  rw [f_X0_run, hb, ob1_s, if_pos hp, if_neg (show ¬ (1 : Int32) = -1 by decide), if_pos he, show ((1 : Int32) * 4 + 1) = nI 5 from rfl, rdA_nI (by decide) (by decide), show tbBodies 5 = 20 from rfl, nD_e hd, ob1_s, lj_s, show (1 : Int32) = nI 1 from rfl, rdA_nI (by decide) (by decide), show tbAbove 1 = 0 from rfl, lj_s, if_neg (show ¬ (20 : Int32) = 10 by decide), if_neg (show ¬ (20 : Int32) = 11 by decide), if_neg (show ¬ (20 : Int32) = 12 by decide), if_neg (show ¬ (20 : Int32) = 13 by decide), if_neg (show ¬ (20 : Int32) = 14 by decide), if_neg (show ¬ (20 : Int32) = 15 by decide), if_neg (show ¬ (20 : Int32) = 16 by decide), if_neg (show ¬ (20 : Int32) = 17 by decide), if_neg (show ¬ (20 : Int32) = 18 by decide), if_neg (show ¬ (20 : Int32) = 19 by decide), if_pos rfl]
  simp only [lj]
theorem S_3_2 {N D : Nat} (hN : 9 ≤ N) {d : DV} (hd : GD d) (hp : ddPartedBy0 d = 0) (x : Int32) {e : Int32} (he : e ≤ 40) : f_X0_run N (D + 1) d 3 2 x e = ob2 (f_X0_run N D (nD d 50) 1 2 (x * 2) (e + 1)) (fun r v => some (r - 3, v)) := by
  have hb : f_X0_withBody N 3 2 = some 3 := by
    obtain ⟨N, rfl⟩ : ∃ N', N = N' + 7 := ⟨N - 7, by omega⟩
    rfl
  rw [f_X0_run, hb, ob1_s, if_pos hp, if_neg (show ¬ (3 : Int32) = -1 by decide), if_pos he, show ((3 : Int32) * 4 + 2) = nI 14 from rfl, rdA_nI (by decide) (by decide), show tbBodies 14 = 50 from rfl, nD_e hd, ob1_s, lj_s, show (3 : Int32) = nI 3 from rfl, rdA_nI (by decide) (by decide), show tbAbove 3 = 1 from rfl, lj_s, if_neg (show ¬ (50 : Int32) = 10 by decide), if_neg (show ¬ (50 : Int32) = 11 by decide), if_neg (show ¬ (50 : Int32) = 12 by decide), if_neg (show ¬ (50 : Int32) = 13 by decide), if_neg (show ¬ (50 : Int32) = 14 by decide), if_neg (show ¬ (50 : Int32) = 15 by decide), if_neg (show ¬ (50 : Int32) = 16 by decide), if_neg (show ¬ (50 : Int32) = 17 by decide), if_neg (show ¬ (50 : Int32) = 18 by decide), if_neg (show ¬ (50 : Int32) = 19 by decide), if_neg (show ¬ (50 : Int32) = 20 by decide), if_neg (show ¬ (50 : Int32) = 21 by decide), if_neg (show ¬ (50 : Int32) = 22 by decide), if_neg (show ¬ (50 : Int32) = 23 by decide), if_neg (show ¬ (50 : Int32) = 24 by decide), if_neg (show ¬ (50 : Int32) = 25 by decide), if_neg (show ¬ (50 : Int32) = 26 by decide), if_neg (show ¬ (50 : Int32) = 27 by decide), if_neg (show ¬ (50 : Int32) = 28 by decide), if_neg (show ¬ (50 : Int32) = 29 by decide), if_neg (show ¬ (50 : Int32) = 30 by decide), if_neg (show ¬ (50 : Int32) = 31 by decide), if_neg (show ¬ (50 : Int32) = 32 by decide), if_neg (show ¬ (50 : Int32) = 33 by decide), if_neg (show ¬ (50 : Int32) = 34 by decide), if_neg (show ¬ (50 : Int32) = 35 by decide), if_neg (show ¬ (50 : Int32) = 36 by decide), if_neg (show ¬ (50 : Int32) = 37 by decide), if_neg (show ¬ (50 : Int32) = 38 by decide), if_neg (show ¬ (50 : Int32) = 39 by decide), if_neg (show ¬ (50 : Int32) = 40 by decide), if_neg (show ¬ (50 : Int32) = 41 by decide), if_neg (show ¬ (50 : Int32) = 42 by decide), if_neg (show ¬ (50 : Int32) = 43 by decide), if_neg (show ¬ (50 : Int32) = 44 by decide), if_neg (show ¬ (50 : Int32) = 45 by decide), if_neg (show ¬ (50 : Int32) = 46 by decide), if_neg (show ¬ (50 : Int32) = 47 by decide), if_neg (show ¬ (50 : Int32) = 48 by decide), if_neg (show ¬ (50 : Int32) = 49 by decide), if_pos rfl]
  simp only [lj]
theorem S_3_3 {N D : Nat} (hN : 9 ≤ N) {d : DV} (hd : GD d) (hp : ddPartedBy0 d = 0) (x : Int32) {e : Int32} (he : e ≤ 40) : f_X0_run N (D + 1) d 3 3 x e = ob2 (f_X0_run N D (nD d 13) (ddKind (nD d 13)) 1 x (e + 1)) (fun r v => some (r ^^^ 120, v)) := by
  have hb : f_X0_withBody N 3 3 = some 0 := by
    obtain ⟨N, rfl⟩ : ∃ N', N = N' + 7 := ⟨N - 7, by omega⟩
    rfl
  rw [f_X0_run, hb, ob1_s, if_pos hp, if_neg (show ¬ (0 : Int32) = -1 by decide), if_pos he, show ((0 : Int32) * 4 + 3) = nI 3 from rfl, rdA_nI (by decide) (by decide), show tbBodies 3 = 13 from rfl, nD_e hd, ob1_s, lj_s, show (0 : Int32) = nI 0 from rfl, rdA_nI (by decide) (by decide), show tbAbove 0 = (-1) from rfl, lj_s, if_neg (show ¬ (13 : Int32) = 10 by decide), if_neg (show ¬ (13 : Int32) = 11 by decide), if_neg (show ¬ (13 : Int32) = 12 by decide), if_pos rfl]
  simp only [lj]
theorem S_4_0 {N D : Nat} (hN : 9 ≤ N) {d : DV} (hd : GD d) (hp : ddPartedBy0 d = 0) (x : Int32) {e : Int32} (he : e ≤ 40) : f_X0_run N (D + 1) d 4 0 x e = ob2 (f_X0_run N D (nD d 40) 2 0 x (e + 1)) (fun r v => some (r ^^^ 9, v)) := by
  have hb : f_X0_withBody N 4 0 = some 4 := by
    obtain ⟨N, rfl⟩ : ∃ N', N = N' + 7 := ⟨N - 7, by omega⟩
    rfl
  rw [f_X0_run, hb, ob1_s, if_pos hp, if_neg (show ¬ (4 : Int32) = -1 by decide), if_pos he, show ((4 : Int32) * 4 + 0) = nI 16 from rfl, rdA_nI (by decide) (by decide), show tbBodies 16 = 40 from rfl, nD_e hd, ob1_s, lj_s, show (4 : Int32) = nI 4 from rfl, rdA_nI (by decide) (by decide), show tbAbove 4 = 2 from rfl, lj_s, if_neg (show ¬ (40 : Int32) = 10 by decide), if_neg (show ¬ (40 : Int32) = 11 by decide), if_neg (show ¬ (40 : Int32) = 12 by decide), if_neg (show ¬ (40 : Int32) = 13 by decide), if_neg (show ¬ (40 : Int32) = 14 by decide), if_neg (show ¬ (40 : Int32) = 15 by decide), if_neg (show ¬ (40 : Int32) = 16 by decide), if_neg (show ¬ (40 : Int32) = 17 by decide), if_neg (show ¬ (40 : Int32) = 18 by decide), if_neg (show ¬ (40 : Int32) = 19 by decide), if_neg (show ¬ (40 : Int32) = 20 by decide), if_neg (show ¬ (40 : Int32) = 21 by decide), if_neg (show ¬ (40 : Int32) = 22 by decide), if_neg (show ¬ (40 : Int32) = 23 by decide), if_neg (show ¬ (40 : Int32) = 24 by decide), if_neg (show ¬ (40 : Int32) = 25 by decide), if_neg (show ¬ (40 : Int32) = 26 by decide), if_neg (show ¬ (40 : Int32) = 27 by decide), if_neg (show ¬ (40 : Int32) = 28 by decide), if_neg (show ¬ (40 : Int32) = 29 by decide), if_neg (show ¬ (40 : Int32) = 30 by decide), if_neg (show ¬ (40 : Int32) = 31 by decide), if_neg (show ¬ (40 : Int32) = 32 by decide), if_neg (show ¬ (40 : Int32) = 33 by decide), if_neg (show ¬ (40 : Int32) = 34 by decide), if_neg (show ¬ (40 : Int32) = 35 by decide), if_neg (show ¬ (40 : Int32) = 36 by decide), if_neg (show ¬ (40 : Int32) = 37 by decide), if_neg (show ¬ (40 : Int32) = 38 by decide), if_neg (show ¬ (40 : Int32) = 39 by decide), if_pos rfl]
  simp only [lj]
theorem S_4_1 {N D : Nat} (hN : 9 ≤ N) {d : DV} (hd : GD d) (hp : ddPartedBy0 d = 0) (x : Int32) {e : Int32} (he : e ≤ 40) : f_X0_run N (D + 1) d 4 1 x e = ob2 (f_X0_run N D (nD d 41) 2 1 x (e + 1)) (fun r v => ob2 (f_X0_run N D v (ddKind (nD d 41)) 0 (ddOn v) (e + 1)) (fun r2 v2 => some (r + r2, v2))) := by
  have hb : f_X0_withBody N 4 1 = some 4 := by
    obtain ⟨N, rfl⟩ : ∃ N', N = N' + 7 := ⟨N - 7, by omega⟩
    rfl
  rw [f_X0_run, hb, ob1_s, if_pos hp, if_neg (show ¬ (4 : Int32) = -1 by decide), if_pos he, show ((4 : Int32) * 4 + 1) = nI 17 from rfl, rdA_nI (by decide) (by decide), show tbBodies 17 = 41 from rfl, nD_e hd, ob1_s, lj_s, show (4 : Int32) = nI 4 from rfl, rdA_nI (by decide) (by decide), show tbAbove 4 = 2 from rfl, lj_s, if_neg (show ¬ (41 : Int32) = 10 by decide), if_neg (show ¬ (41 : Int32) = 11 by decide), if_neg (show ¬ (41 : Int32) = 12 by decide), if_neg (show ¬ (41 : Int32) = 13 by decide), if_neg (show ¬ (41 : Int32) = 14 by decide), if_neg (show ¬ (41 : Int32) = 15 by decide), if_neg (show ¬ (41 : Int32) = 16 by decide), if_neg (show ¬ (41 : Int32) = 17 by decide), if_neg (show ¬ (41 : Int32) = 18 by decide), if_neg (show ¬ (41 : Int32) = 19 by decide), if_neg (show ¬ (41 : Int32) = 20 by decide), if_neg (show ¬ (41 : Int32) = 21 by decide), if_neg (show ¬ (41 : Int32) = 22 by decide), if_neg (show ¬ (41 : Int32) = 23 by decide), if_neg (show ¬ (41 : Int32) = 24 by decide), if_neg (show ¬ (41 : Int32) = 25 by decide), if_neg (show ¬ (41 : Int32) = 26 by decide), if_neg (show ¬ (41 : Int32) = 27 by decide), if_neg (show ¬ (41 : Int32) = 28 by decide), if_neg (show ¬ (41 : Int32) = 29 by decide), if_neg (show ¬ (41 : Int32) = 30 by decide), if_neg (show ¬ (41 : Int32) = 31 by decide), if_neg (show ¬ (41 : Int32) = 32 by decide), if_neg (show ¬ (41 : Int32) = 33 by decide), if_neg (show ¬ (41 : Int32) = 34 by decide), if_neg (show ¬ (41 : Int32) = 35 by decide), if_neg (show ¬ (41 : Int32) = 36 by decide), if_neg (show ¬ (41 : Int32) = 37 by decide), if_neg (show ¬ (41 : Int32) = 38 by decide), if_neg (show ¬ (41 : Int32) = 39 by decide), if_neg (show ¬ (41 : Int32) = 40 by decide), if_pos rfl]
  simp only [lj]
theorem S_4_2 {N D : Nat} (hN : 9 ≤ N) {d : DV} (hd : GD d) (hp : ddPartedBy0 d = 0) (x : Int32) {e : Int32} (he : e ≤ 40) : f_X0_run N (D + 1) d 4 2 x e = ob2 (f_X0_parted (nD d 12) x) (fun r v => some (r, v)) := by
  have hb : f_X0_withBody N 4 2 = some 0 := by
    obtain ⟨N, rfl⟩ : ∃ N', N = N' + 7 := ⟨N - 7, by omega⟩
    rfl
  rw [f_X0_run, hb, ob1_s, if_pos hp, if_neg (show ¬ (0 : Int32) = -1 by decide), if_pos he, show ((0 : Int32) * 4 + 2) = nI 2 from rfl, rdA_nI (by decide) (by decide), show tbBodies 2 = 12 from rfl, nD_e hd, ob1_s, lj_s, show (0 : Int32) = nI 0 from rfl, rdA_nI (by decide) (by decide), show tbAbove 0 = (-1) from rfl, lj_s, if_neg (show ¬ (12 : Int32) = 10 by decide), if_neg (show ¬ (12 : Int32) = 11 by decide), if_pos rfl]
theorem S_4_3 {N D : Nat} (hN : 9 ≤ N) {d : DV} (hd : GD d) (hp : ddPartedBy0 d = 0) (x : Int32) {e : Int32} (he : e ≤ 40) : f_X0_run N (D + 1) d 4 3 x e = ob2 (f_X0_run N D (nD d 31) 0 3 x (e + 1)) (fun r v => ob2 (f_X0_run N D v (ddKind (nD d 31)) 2 (ddNumber v) (e + 1)) (fun r2 v2 => some (r + r2, v2))) := by
  have hb : f_X0_withBody N 4 3 = some 2 := by
    obtain ⟨N, rfl⟩ : ∃ N', N = N' + 7 := ⟨N - 7, by omega⟩
    rfl
  rw [f_X0_run, hb, ob1_s, if_pos hp, if_neg (show ¬ (2 : Int32) = -1 by decide), if_pos he, show ((2 : Int32) * 4 + 3) = nI 11 from rfl, rdA_nI (by decide) (by decide), show tbBodies 11 = 31 from rfl, nD_e hd, ob1_s, lj_s, show (2 : Int32) = nI 2 from rfl, rdA_nI (by decide) (by decide), show tbAbove 2 = 0 from rfl, lj_s, if_neg (show ¬ (31 : Int32) = 10 by decide), if_neg (show ¬ (31 : Int32) = 11 by decide), if_neg (show ¬ (31 : Int32) = 12 by decide), if_neg (show ¬ (31 : Int32) = 13 by decide), if_neg (show ¬ (31 : Int32) = 14 by decide), if_neg (show ¬ (31 : Int32) = 15 by decide), if_neg (show ¬ (31 : Int32) = 16 by decide), if_neg (show ¬ (31 : Int32) = 17 by decide), if_neg (show ¬ (31 : Int32) = 18 by decide), if_neg (show ¬ (31 : Int32) = 19 by decide), if_neg (show ¬ (31 : Int32) = 20 by decide), if_neg (show ¬ (31 : Int32) = 21 by decide), if_neg (show ¬ (31 : Int32) = 22 by decide), if_neg (show ¬ (31 : Int32) = 23 by decide), if_neg (show ¬ (31 : Int32) = 24 by decide), if_neg (show ¬ (31 : Int32) = 25 by decide), if_neg (show ¬ (31 : Int32) = 26 by decide), if_neg (show ¬ (31 : Int32) = 27 by decide), if_neg (show ¬ (31 : Int32) = 28 by decide), if_neg (show ¬ (31 : Int32) = 29 by decide), if_neg (show ¬ (31 : Int32) = 30 by decide), if_pos rfl]
  simp only [lj]
theorem S_5_0 {N D : Nat} (hN : 9 ≤ N) {d : DV} (hd : GD d) (hp : ddPartedBy0 d = 0) (x : Int32) {e : Int32} (he : e ≤ 40) : f_X0_run N (D + 1) d 5 0 x e = some (x * 3 + ddNumber (nD d 10) * 2, nD d 10) := by
  have hb : f_X0_withBody N 5 0 = some 0 := by
    obtain ⟨N, rfl⟩ : ∃ N', N = N' + 7 := ⟨N - 7, by omega⟩
    rfl
  rw [f_X0_run, hb, ob1_s, if_pos hp, if_neg (show ¬ (0 : Int32) = -1 by decide), if_pos he, show ((0 : Int32) * 4 + 0) = nI 0 from rfl, rdA_nI (by decide) (by decide), show tbBodies 0 = 10 from rfl, nD_e hd, ob1_s, lj_s, show (0 : Int32) = nI 0 from rfl, rdA_nI (by decide) (by decide), show tbAbove 0 = (-1) from rfl, lj_s, if_pos rfl]
  simp only [lj]
theorem S_5_1 {N D : Nat} (hN : 9 ≤ N) {d : DV} (hd : GD d) (hp : ddPartedBy0 d = 0) (x : Int32) {e : Int32} (he : e ≤ 40) : f_X0_run N (D + 1) d 5 1 x e = ob2 (f_X0_run N D (nD d 11) (ddKind (nD d 11)) 0 x (e + 1)) (fun r v => some (r - ddOn v, v)) := by
  have hb : f_X0_withBody N 5 1 = some 0 := by
    obtain ⟨N, rfl⟩ : ∃ N', N = N' + 7 := ⟨N - 7, by omega⟩
    rfl
  rw [f_X0_run, hb, ob1_s, if_pos hp, if_neg (show ¬ (0 : Int32) = -1 by decide), if_pos he, show ((0 : Int32) * 4 + 1) = nI 1 from rfl, rdA_nI (by decide) (by decide), show tbBodies 1 = 11 from rfl, nD_e hd, ob1_s, lj_s, show (0 : Int32) = nI 0 from rfl, rdA_nI (by decide) (by decide), show tbAbove 0 = (-1) from rfl, lj_s, if_neg (show ¬ (11 : Int32) = 10 by decide), if_pos rfl]
  simp only [lj]
theorem S_5_2 {N D : Nat} (hN : 9 ≤ N) {d : DV} (hd : GD d) (hp : ddPartedBy0 d = 0) (x : Int32) {e : Int32} (he : e ≤ 40) : f_X0_run N (D + 1) d 5 2 x e = ob2 (f_X0_run N D (nD d 61) 0 2 x (e + 1)) (fun r v => ob2 (f_X0_run N D v (ddKind (nD d 61)) 0 (ddNumber v) (e + 1)) (fun r2 v2 => some (r - r2, v2))) := by
  have hb : f_X0_withBody N 5 2 = some 5 := by
    obtain ⟨N, rfl⟩ : ∃ N', N = N' + 7 := ⟨N - 7, by omega⟩
    rfl
  rw [f_X0_run, hb, ob1_s, if_pos hp, if_neg (show ¬ (5 : Int32) = -1 by decide), if_pos he, show ((5 : Int32) * 4 + 2) = nI 22 from rfl, rdA_nI (by decide) (by decide), show tbBodies 22 = 61 from rfl, nD_e hd, ob1_s, lj_s, show (5 : Int32) = nI 5 from rfl, rdA_nI (by decide) (by decide), show tbAbove 5 = 0 from rfl, lj_s, if_neg (show ¬ (61 : Int32) = 10 by decide), if_neg (show ¬ (61 : Int32) = 11 by decide), if_neg (show ¬ (61 : Int32) = 12 by decide), if_neg (show ¬ (61 : Int32) = 13 by decide), if_neg (show ¬ (61 : Int32) = 14 by decide), if_neg (show ¬ (61 : Int32) = 15 by decide), if_neg (show ¬ (61 : Int32) = 16 by decide), if_neg (show ¬ (61 : Int32) = 17 by decide), if_neg (show ¬ (61 : Int32) = 18 by decide), if_neg (show ¬ (61 : Int32) = 19 by decide), if_neg (show ¬ (61 : Int32) = 20 by decide), if_neg (show ¬ (61 : Int32) = 21 by decide), if_neg (show ¬ (61 : Int32) = 22 by decide), if_neg (show ¬ (61 : Int32) = 23 by decide), if_neg (show ¬ (61 : Int32) = 24 by decide), if_neg (show ¬ (61 : Int32) = 25 by decide), if_neg (show ¬ (61 : Int32) = 26 by decide), if_neg (show ¬ (61 : Int32) = 27 by decide), if_neg (show ¬ (61 : Int32) = 28 by decide), if_neg (show ¬ (61 : Int32) = 29 by decide), if_neg (show ¬ (61 : Int32) = 30 by decide), if_neg (show ¬ (61 : Int32) = 31 by decide), if_neg (show ¬ (61 : Int32) = 32 by decide), if_neg (show ¬ (61 : Int32) = 33 by decide), if_neg (show ¬ (61 : Int32) = 34 by decide), if_neg (show ¬ (61 : Int32) = 35 by decide), if_neg (show ¬ (61 : Int32) = 36 by decide), if_neg (show ¬ (61 : Int32) = 37 by decide), if_neg (show ¬ (61 : Int32) = 38 by decide), if_neg (show ¬ (61 : Int32) = 39 by decide), if_neg (show ¬ (61 : Int32) = 40 by decide), if_neg (show ¬ (61 : Int32) = 41 by decide), if_neg (show ¬ (61 : Int32) = 42 by decide), if_neg (show ¬ (61 : Int32) = 43 by decide), if_neg (show ¬ (61 : Int32) = 44 by decide), if_neg (show ¬ (61 : Int32) = 45 by decide), if_neg (show ¬ (61 : Int32) = 46 by decide), if_neg (show ¬ (61 : Int32) = 47 by decide), if_neg (show ¬ (61 : Int32) = 48 by decide), if_neg (show ¬ (61 : Int32) = 49 by decide), if_neg (show ¬ (61 : Int32) = 50 by decide), if_neg (show ¬ (61 : Int32) = 51 by decide), if_neg (show ¬ (61 : Int32) = 52 by decide), if_neg (show ¬ (61 : Int32) = 53 by decide), if_neg (show ¬ (61 : Int32) = 54 by decide), if_neg (show ¬ (61 : Int32) = 55 by decide), if_neg (show ¬ (61 : Int32) = 56 by decide), if_neg (show ¬ (61 : Int32) = 57 by decide), if_neg (show ¬ (61 : Int32) = 58 by decide), if_neg (show ¬ (61 : Int32) = 59 by decide), if_neg (show ¬ (61 : Int32) = 60 by decide), if_pos rfl]
  simp only [lj]
theorem S_5_3 {N D : Nat} (hN : 9 ≤ N) {d : DV} (hd : GD d) (hp : ddPartedBy0 d = 0) (x : Int32) {e : Int32} (he : e ≤ 40) : f_X0_run N (D + 1) d 5 3 x e = ob2 (f_X0_run N D (nD d 60) 0 3 x (e + 1)) (fun r v => some (7 - r, v)) := by
  have hb : f_X0_withBody N 5 3 = some 5 := by
    obtain ⟨N, rfl⟩ : ∃ N', N = N' + 7 := ⟨N - 7, by omega⟩
    rfl
  rw [f_X0_run, hb, ob1_s, if_pos hp, if_neg (show ¬ (5 : Int32) = -1 by decide), if_pos he, show ((5 : Int32) * 4 + 3) = nI 23 from rfl, rdA_nI (by decide) (by decide), show tbBodies 23 = 60 from rfl, nD_e hd, ob1_s, lj_s, show (5 : Int32) = nI 5 from rfl, rdA_nI (by decide) (by decide), show tbAbove 5 = 0 from rfl, lj_s, if_neg (show ¬ (60 : Int32) = 10 by decide), if_neg (show ¬ (60 : Int32) = 11 by decide), if_neg (show ¬ (60 : Int32) = 12 by decide), if_neg (show ¬ (60 : Int32) = 13 by decide), if_neg (show ¬ (60 : Int32) = 14 by decide), if_neg (show ¬ (60 : Int32) = 15 by decide), if_neg (show ¬ (60 : Int32) = 16 by decide), if_neg (show ¬ (60 : Int32) = 17 by decide), if_neg (show ¬ (60 : Int32) = 18 by decide), if_neg (show ¬ (60 : Int32) = 19 by decide), if_neg (show ¬ (60 : Int32) = 20 by decide), if_neg (show ¬ (60 : Int32) = 21 by decide), if_neg (show ¬ (60 : Int32) = 22 by decide), if_neg (show ¬ (60 : Int32) = 23 by decide), if_neg (show ¬ (60 : Int32) = 24 by decide), if_neg (show ¬ (60 : Int32) = 25 by decide), if_neg (show ¬ (60 : Int32) = 26 by decide), if_neg (show ¬ (60 : Int32) = 27 by decide), if_neg (show ¬ (60 : Int32) = 28 by decide), if_neg (show ¬ (60 : Int32) = 29 by decide), if_neg (show ¬ (60 : Int32) = 30 by decide), if_neg (show ¬ (60 : Int32) = 31 by decide), if_neg (show ¬ (60 : Int32) = 32 by decide), if_neg (show ¬ (60 : Int32) = 33 by decide), if_neg (show ¬ (60 : Int32) = 34 by decide), if_neg (show ¬ (60 : Int32) = 35 by decide), if_neg (show ¬ (60 : Int32) = 36 by decide), if_neg (show ¬ (60 : Int32) = 37 by decide), if_neg (show ¬ (60 : Int32) = 38 by decide), if_neg (show ¬ (60 : Int32) = 39 by decide), if_neg (show ¬ (60 : Int32) = 40 by decide), if_neg (show ¬ (60 : Int32) = 41 by decide), if_neg (show ¬ (60 : Int32) = 42 by decide), if_neg (show ¬ (60 : Int32) = 43 by decide), if_neg (show ¬ (60 : Int32) = 44 by decide), if_neg (show ¬ (60 : Int32) = 45 by decide), if_neg (show ¬ (60 : Int32) = 46 by decide), if_neg (show ¬ (60 : Int32) = 47 by decide), if_neg (show ¬ (60 : Int32) = 48 by decide), if_neg (show ¬ (60 : Int32) = 49 by decide), if_neg (show ¬ (60 : Int32) = 50 by decide), if_neg (show ¬ (60 : Int32) = 51 by decide), if_neg (show ¬ (60 : Int32) = 52 by decide), if_neg (show ¬ (60 : Int32) = 53 by decide), if_neg (show ¬ (60 : Int32) = 54 by decide), if_neg (show ¬ (60 : Int32) = 55 by decide), if_neg (show ¬ (60 : Int32) = 56 by decide), if_neg (show ¬ (60 : Int32) = 57 by decide), if_neg (show ¬ (60 : Int32) = 58 by decide), if_neg (show ¬ (60 : Int32) = 59 by decide), if_pos rfl]
  simp only [lj]
