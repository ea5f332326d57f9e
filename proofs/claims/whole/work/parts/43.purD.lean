/-! PURE 4: sets and sums over the marks, circles, draws -/
theorem lpS {L : Nat → Int32 → Int32 → Option Int32} {n : Nat} (P : Nat → Nat → Prop) (g : Nat → Nat → Nat)
    (h0 : ∀ f c, P n c → L (f + 1) (nI n) (nI c) = some (nI c))
    (h1 : ∀ f j c, j < n → P j c → L (f + 1) (nI j) (nI c) = L f (nI (j + 1)) (nI (g j c)) ∧ P (j + 1) (g j c)) (hP : P 0 0) {N : Nat} (hN : n < N) :
    L N 0 0 = some (nI (fld g 0 n 0)) ∧ P n (fld g 0 n 0) := by
  obtain ⟨s', e1, e2, e3⟩ := lpR (L := L) (k := fun c => some c) (n := n) (fun j c s => s = nI c ∧ P j c) g
    (fun f c s hs => by obtain ⟨rfl, hp⟩ := hs; exact h0 f c hp)
    (fun f j c s hj hs => by obtain ⟨rfl, hp⟩ := hs; exact ⟨_, (h1 f j c hj hp).1, rfl, (h1 f j c hj hp).2⟩)
    n 0 N 0 (nI 0) (by omega) hN ⟨rfl, hP⟩
  subst e2
  exact ⟨e1, e3⟩
def gMk (a : AP) : Nat := fld (fun j m => m ||| 2 ^ aOn a j) 0 (aN a) 0
def gDr (a : AP) : Nat := sN (fun j => decide (aInk a j = 0)) (aN a)
def gIn (a : AP) : Nat := fld (fun j c => c + aInk a j) 0 (aN a) 0
def gMx (a : AP) : Nat := fld (fun p c => if c < gld a p then gld a p else c) 0 8 0
def gTo (a : AP) : Nat := cnt (fun r => decide (¬ aFi a r = 0)) 6
theorem X1_marked {N : Nat} {a : AP} {v : PV} (hv : CV a v) (hw : WF a) (hN : 9 ≤ N) : f_X1_marked N v = some (nI (gMk a)) ∧ gMk a < 256 := by
  obtain ⟨hc, -, -, -, hm, -⟩ := id hv
  have hn : aN a ≤ 8 := hw.1
  exact lpS (L := fun f i (c : Int32) => f_X1_marked_L4 v f i c) (n := aN a) (fun _ c => c < 256) (fun j m => m ||| 2 ^ aOn a j)
    (fun f c _ => by show f_X1_marked_L4 v (f + 1) (nI (aN a)) _ = _; rw [f_X1_marked_L4, hc, if_pos (Int32.le_refl _)])
    (fun f j c hj hb => by
      obtain ⟨-, -, h3⟩ := hm j hj
      have hon := (hw.2.2.1 j hj).2.2
      refine ⟨?_, Nat.or_lt_two_pow (n := 8) hb (Nat.pow_lt_pow_right (by decide) hon)⟩
      show f_X1_marked_L4 v (f + 1) (nI j) (nI c) = f_X1_marked_L4 v f (nI (j + 1)) _
      rw [f_X1_marked_L4, hc, if_neg (nI_ge hj (by omega)), rdA_nI (by omega) (by decide), h3]
      simp only [lj, nI_1]
      rw [one_shl _ (by omega), nI_or]) (by decide) (by omega)
theorem X6_marked {N : Nat} {a : AP} {s : Nat → Int32} (hs : CM a s) (hw : WF a) (hN : 9 ≤ N) : f_X6_marked N s = some (nI (gMk a)) := by
  have hn : aN a ≤ 8 := hw.1
  have hc := hs.1
  exact (lpS (L := fun f i (c : Int32) => f_X6_marked_L4 s f i c) (n := aN a) (fun _ _ => True) (fun j m => m ||| 2 ^ aOn a j)
    (fun f c _ => by show f_X6_marked_L4 s (f + 1) (nI (aN a)) _ = _; rw [f_X6_marked_L4, hc, if_pos (Int32.le_refl _)])
    (fun f j c hj _ => by
      have hon := (hw.2.2.1 j hj).2.2
      refine ⟨?_, trivial⟩
      show f_X6_marked_L4 s (f + 1) (nI j) (nI c) = f_X6_marked_L4 s f (nI (j + 1)) _
      rw [f_X6_marked_L4, hc, if_neg (nI_ge hj (by omega)), itsO hs hn hj, ob1_s]
      simp only [lj, nI_1]
      rw [one_shl _ (by omega), nI_or]) trivial (by omega)).1
theorem X1_marksOn {N : Nat} {a : AP} {v : PV} (hv : CV a v) (hw : WF a) (hN : 9 ≤ N) {t : Nat} (ht : t < 8) : f_X1_marksOn N v (nI t) = some (nI (sN (fun j => decide (aOn a j = t)) (aN a))) := by
  obtain ⟨hc, -, -, -, hm, -⟩ := id hv
  have hn : aN a ≤ 8 := hw.1
  exact (lpS (L := fun f i (c : Int32) => f_X1_marksOn_L4 v (nI t) f i c) (n := aN a) (fun _ _ => True) (fun j m => if decide (aOn a j = t) = true then m ||| 2 ^ j else m)
    (fun f c _ => by show f_X1_marksOn_L4 v (nI t) (f + 1) (nI (aN a)) _ = _; rw [f_X1_marksOn_L4, hc, if_pos (Int32.le_refl _)])
    (fun f j c hj _ => by
      obtain ⟨-, -, h3⟩ := hm j hj
      have hon := (hw.2.2.1 j hj).2.2
      refine ⟨?_, trivial⟩
      show f_X1_marksOn_L4 v (nI t) (f + 1) (nI j) (nI c) = f_X1_marksOn_L4 v (nI t) f (nI (j + 1)) _
      rw [f_X1_marksOn_L4, hc, if_neg (nI_ge hj (by omega)), rdA_nI (by omega) (by decide), h3]
      simp only [lj, nI_1, one_shl j (by omega), ite_eq (show aOn a j < 2 ^ 31 by omega) (show t < 2 ^ 31 by omega)]
      by_cases e : aOn a j = t
      · rw [if_pos e, if_pos (decide_eq_true e), nI_or]
      · rw [if_neg e, if_neg (by simpa using e)]) trivial (by omega)).1
theorem X1_dried {N : Nat} {a : AP} {v : PV} (hv : CV a v) (hw : WF a) (hN : 9 ≤ N) : f_X1_dried N v = some (nI (gDr a)) := by
  obtain ⟨hc, -, -, -, hm, -⟩ := id hv
  have hn : aN a ≤ 8 := hw.1
  exact (lpS (L := fun f i (c : Int32) => f_X1_dried_L4 v f i c) (n := aN a) (fun _ _ => True) (fun j m => if decide (aInk a j = 0) = true then m ||| 2 ^ j else m)
    (fun f c _ => by show f_X1_dried_L4 v (f + 1) (nI (aN a)) _ = _; rw [f_X1_dried_L4, hc, if_pos (Int32.le_refl _)])
    (fun f j c hj _ => by
      obtain ⟨-, h3, -⟩ := hm j hj
      have hon := (hw.2.2.1 j hj).2.1
      refine ⟨?_, trivial⟩
      show f_X1_dried_L4 v (f + 1) (nI j) (nI c) = f_X1_dried_L4 v f (nI (j + 1)) _
      have k0 : ∀ (x y : Option Int32), (if nI (aInk a j) = 0 then x else y) = if aInk a j = 0 then x else y := fun x y => ite_eq (b := 0) (by omega) (by omega) x y
      rw [f_X1_dried_L4, hc, if_neg (nI_ge hj (by omega)), rdA_nI (by omega) (by decide), h3]
      simp only [lj, nI_1, one_shl j (by omega), k0]
      by_cases e : aInk a j = 0
      · rw [if_pos e, if_pos (decide_eq_true e), nI_or]
      · rw [if_neg e, if_neg (by simpa using e)]) trivial (by omega)).1
theorem X6_dryOnes {N : Nat} {a : AP} {s : Nat → Int32} (hs : CM a s) (hw : WF a) (hN : 9 ≤ N) : f_X6_dryOnes N s = some (nI (gDr a)) := by
  have hn : aN a ≤ 8 := hw.1
  have hc := hs.1
  exact (lpS (L := fun f i (c : Int32) => f_X6_dryOnes_L4 s f i c) (n := aN a) (fun _ _ => True) (fun j m => if decide (aInk a j = 0) = true then m ||| 2 ^ j else m)
    (fun f c _ => by show f_X6_dryOnes_L4 s (f + 1) (nI (aN a)) _ = _; rw [f_X6_dryOnes_L4, hc, if_pos (Int32.le_refl _)])
    (fun f j c hj _ => by
      have hon := (hw.2.2.1 j hj).2.1
      refine ⟨?_, trivial⟩
      show f_X6_dryOnes_L4 s (f + 1) (nI j) (nI c) = f_X6_dryOnes_L4 s f (nI (j + 1)) _
      have k0 : ∀ (x y : Option Int32), (if nI (aInk a j) = 0 then x else y) = if aInk a j = 0 then x else y := fun x y => ite_eq (b := 0) (by omega) (by omega) x y
      rw [f_X6_dryOnes_L4, hc, if_neg (nI_ge hj (by omega)), itsI hs hn hj, ob1_s]
      simp only [lj, nI_1, one_shl j (by omega), k0]
      by_cases e : aInk a j = 0
      · rw [if_pos e, if_pos (decide_eq_true e), nI_or]
      · rw [if_neg e, if_neg (by simpa using e), show (0 : Int32) = nI 0 from rfl, nI_or, Nat.or_zero]) trivial (by omega)).1
theorem X1_allInk {N : Nat} {a : AP} {v : PV} (hv : CV a v) (hw : WF a) (hN : 9 ≤ N) : f_X1_allInk N v = some (nI (gIn a)) ∧ gIn a ≤ 99 * aN a := by
  obtain ⟨hc, -, -, -, hm, -⟩ := id hv
  have hn : aN a ≤ 8 := hw.1
  exact lpS (L := fun f i (c : Int32) => f_X1_allInk_L4 v f i c) (n := aN a) (fun j c => c ≤ 99 * j) (fun j m => m + aInk a j)
    (fun f c _ => by show f_X1_allInk_L4 v (f + 1) (nI (aN a)) _ = _; rw [f_X1_allInk_L4, hc, if_pos (Int32.le_refl _)])
    (fun f j c hj hb => by
      obtain ⟨-, h3, -⟩ := hm j hj
      have hon := (hw.2.2.1 j hj).2.1
      refine ⟨?_, by omega⟩
      show f_X1_allInk_L4 v (f + 1) (nI j) (nI c) = f_X1_allInk_L4 v f (nI (j + 1)) _
      rw [f_X1_allInk_L4, hc, if_neg (nI_ge hj (by omega)), rdA_nI (by omega) (by decide), h3]
      simp only [lj, nI_1, nI_add]) (by decide) (by omega)
theorem X6_inkOfAll {N : Nat} {a : AP} {s : Nat → Int32} (hs : CM a s) (hw : WF a) (hN : 9 ≤ N) : f_X6_inkOfAll N s = some (nI (gIn a)) := by
  have hn : aN a ≤ 8 := hw.1
  have hc := hs.1
  exact (lpS (L := fun f i (c : Int32) => f_X6_inkOfAll_L4 s f i c) (n := aN a) (fun _ _ => True) (fun j m => m + aInk a j)
    (fun f c _ => by show f_X6_inkOfAll_L4 s (f + 1) (nI (aN a)) _ = _; rw [f_X6_inkOfAll_L4, hc, if_pos (Int32.le_refl _)])
    (fun f j c hj _ => by
      refine ⟨?_, trivial⟩
      show f_X6_inkOfAll_L4 s (f + 1) (nI j) (nI c) = f_X6_inkOfAll_L4 s f (nI (j + 1)) _
      rw [f_X6_inkOfAll_L4, hc, if_neg (nI_ge hj (by omega)), itsI hs hn hj, ob1_s]
      simp only [lj, nI_1, nI_add]) trivial (by omega)).1
theorem X1_mostOnOne {N : Nat} {a : AP} {v : PV} (hv : CV a v) (hw : WF a) (hN : 9 ≤ N) : f_X1_mostOnOne N v = some (nI (gMx a)) := by
  have hn : aN a ≤ 8 := hw.1
  exact (lpS (L := fun f i (c : Int32) => f_X1_mostOnOne_L4 N v f i c) (n := 8) (fun _ c => c ≤ 8) (fun p c => if c < gld a p then gld a p else c)
    (fun f c _ => by show f_X1_mostOnOne_L4 N v (f + 1) (nI 8) _ = _; rw [f_X1_mostOnOne_L4, if_pos (by decide)])
    (fun f j c hj hb => by
      have hl := gld_le a j
      refine ⟨?_, by split <;> omega⟩
      show f_X1_mostOnOne_L4 N v (f + 1) (nI j) (nI c) = f_X1_mostOnOne_L4 N v f (nI (j + 1)) _
      rw [f_X1_mostOnOne_L4, if_neg (show ¬ (8 : Int32) ≤ nI j from nI_ge hj (by decide)), X1_loadOf hv hw hN hj, ob1_s]
      simp only [lj, nI_1, ite_lt (show c < 2 ^ 31 by omega) (show gld a j < 2 ^ 31 by omega)]
      split <;> rfl) (by decide) (by omega)).1
theorem X6_mostOnOne {N : Nat} {a : AP} {s : Nat → Int32} (hs : CM a s) (hw : WF a) (hN : 9 ≤ N) : f_X6_mostOnOne N s = some (nI (gMx a)) := by
  have hn : aN a ≤ 8 := hw.1
  exact (lpS (L := fun f i (c : Int32) => f_X6_mostOnOne_L4 N s f i c) (n := 8) (fun _ c => c ≤ 8) (fun p c => if c < gld a p then gld a p else c)
    (fun f c _ => by show f_X6_mostOnOne_L4 N s (f + 1) (nI 8) _ = _; rw [f_X6_mostOnOne_L4, if_pos (by decide)])
    (fun f j c hj hb => by
      have hl := gld_le a j
      have hsz : f_X6_size N (nI (sN (fun i => decide (aOn a i = j)) (aN a))) = some (nI (gld a j)) := by
        rw [size_ok (sN_256 _ hn) hN, pcN_sN _ hn]
        rfl
      refine ⟨?_, by split <;> omega⟩
      show f_X6_mostOnOne_L4 N s (f + 1) (nI j) (nI c) = f_X6_mostOnOne_L4 N s f (nI (j + 1)) _
      rw [f_X6_mostOnOne_L4, if_neg (show ¬ (8 : Int32) ≤ nI j from nI_ge hj (by decide)), X6_marksOn hs hw hN hj, ob1_s, hsz, ob1_s]
      unfold f_X6_greatest
      simp only [lj, nI_1, ite_le (show c < 2 ^ 31 by omega) (show gld a j < 2 ^ 31 by omega)]
      by_cases h1 : c < gld a j
      · rw [if_pos h1, if_pos (by omega)]
      · rw [if_neg h1]
        by_cases h2 : c ≤ gld a j
        · rw [if_pos h2, show gld a j = c by omega]
        · rw [if_neg h2]) (by decide) (by omega)).1
theorem X1_touches {N : Nat} {a : AP} {v : PV} (hv : CV a v) (hw : WF a) (hN : 9 ≤ N) : f_X1_touches N v = some (nI (gTo a)) := by
  obtain ⟨-, -, -, -, -, hp⟩ := id hv
  exact (lpS (L := fun f i (c : Int32) => f_X1_touches_L4 v f i c) (n := 6) (fun _ _ => True) (fun j c => if decide (¬ aFi a j = 0) = true then c + 1 else c)
    (fun f c _ => by show f_X1_touches_L4 v (f + 1) (nI 6) _ = _; rw [f_X1_touches_L4, if_pos (by decide)])
    (fun f j c hj _ => by
      have hb := hw.2.2.2 j hj
      refine ⟨?_, trivial⟩
      show f_X1_touches_L4 v (f + 1) (nI j) (nI c) = f_X1_touches_L4 v f (nI (j + 1)) _
      rw [f_X1_touches_L4, if_neg (show ¬ (6 : Int32) ≤ nI j from nI_ge hj (by decide)), rdA_nI hj (by decide), (hp j hj).1]
      simp only [lj, nI_1]
      by_cases e : aFi a j = 0
      · rw [e, if_pos (by rfl), if_neg (by simp)]
      · have nt : ∀ t, t < 8 → ¬ nI t = -1 := by decide
        rw [nI_pd e, if_neg (nt _ (by omega)), if_pos (by simpa using e)]) trivial (by omega)).1
theorem X6_many3 {N : Nat} {a : AP} {s : Nat → Int32} (hs : CM a s) (hw : WF a) (hN : 9 ≤ N) : f_X6_many_L76 s N 0 0 = some (nI (gTo a)) := by
  exact (lpS (L := fun f i (c : Int32) => f_X6_many_L76 s f i c) (n := 6) (fun _ _ => True) (fun j c => if decide (¬ aFi a j = 0) = true then c + 1 else c)
    (fun f c _ => by show f_X6_many_L76 s (f + 1) (nI 6) _ = _; rw [f_X6_many_L76, if_pos (by decide)])
    (fun f j c hj _ => by
      have hb := hw.2.2.2 j hj
      refine ⟨?_, trivial⟩
      show f_X6_many_L76 s (f + 1) (nI j) (nI c) = f_X6_many_L76 s f (nI (j + 1)) _
      rw [f_X6_many_L76, if_neg (show ¬ (6 : Int32) ≤ nI j from nI_ge hj (by decide)), show (7 : Int32) + nI j = nI (7 + j) from nI_add 7 j, rdA_nI (show 7 + j < 43 by omega) (by decide), (hs.2.2.2.2.2 j hj).1]
      simp only [lj, nI_1]
      by_cases e : aFi a j = 0
      · rw [e, if_pos (by rfl), if_neg (by simp), Int32.add_zero]
      · rw [if_neg (show ¬ nI (aFi a j) = 0 from eq_n (b := 0) (by omega) (by omega) e), if_pos (by simpa using e)]) trivial (by omega)).1
/-! draws -/
def gZ (z : Int32) : Int32 := z * 1103515245 + 12345
def gU (z : Int32) : Nat := z.toBitVec.toNat / 2 ^ 16
theorem gU_lt (z : Int32) : gU z < 65536 := by
  have := z.toBitVec.isLt
  unfold gU
  omega
theorem gU_e (z : Int32) : (Int32.toUInt32 z >>> (Int32.toUInt32 16 &&& Int32.toUInt32 31)).toInt32 = nI (gU z) := by
  apply Int32.toBitVec_inj.mp
  apply BitVec.eq_of_toNat_eq
  rw [pk_ushr z 16 16 (by decide)]
  have := gU_lt z
  exact (pk_tn (show gU z < 2 ^ 32 by omega)).symm
theorem CV_z {a : AP} {v : PV} (h : CV a v) (z : Int32) : CV (aSZ a z) (pSetZ v z) := ⟨h.1, h.2.1, rfl, h.2.2.2⟩
theorem CM_z {a : AP} {s : Nat → Int32} (h : CM a s) (z : Int32) : CM (aSZ a z) (upd s 2 z) := by
  obtain ⟨h1, h2, h3, h4, h5, h6⟩ := h
  refine ⟨(upd_n (by omega)).trans h1, (upd_n (by omega)).trans h2, upd_s, fun j hj => (upd_n (by omega)).trans (h4 j hj), fun j hj => ?_, fun r hr => ?_⟩
  · obtain ⟨g1, g2, g3⟩ := h5 j hj
    exact ⟨(upd_n (by omega)).trans g1, (upd_n (by omega)).trans g2, (upd_n (by omega)).trans g3⟩
  · obtain ⟨g1, g2⟩ := h6 r hr
    exact ⟨(upd_n (by omega)).trans g1, fun q => (upd_n (by omega)).trans (g2 q)⟩
theorem WF_z {a : AP} (h : WF a) (z : Int32) : WF (aSZ a z) := h
theorem X1_draw {a : AP} {v : PV} (hv : CV a v) : f_X1_draw v = some (nI (gU (gZ (aZ a))), pSetZ v (gZ (aZ a))) := by
  have hz : pZ v = aZ a := hv.2.2.1
  unfold f_X1_draw
  simp only [lj]
  rw [hz, gU_e]
  rfl
theorem X6_drawn {a : AP} {s : Nat → Int32} (hs : CM a s) : f_X6_drawn s = some (nI (gU (gZ (aZ a))), upd s 2 (gZ (aZ a))) := by
  have hz : s 2 = aZ a := hs.2.2.1
  unfold f_X6_drawn
  simp only [lj]
  rw [hz, gU_e, upd_s]
  rfl
