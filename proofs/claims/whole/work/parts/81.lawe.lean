/-! LAW 3: the law from its entry -/
def fl1 : List Cond := flatC (Jvm.Cond.and given_1 narrow_1)
theorem fa_0 : fl1[17]? = some (Cond.arrayOf (.static "TravelMarks" "LAW_LEAST" "[I") .int) := by decide +kernel
theorem fb_0 : fl1[18]? = some (Cond.eq (.length (.static "TravelMarks" "LAW_LEAST" "[I")) (.int (Int32.ofNat 4))) := by decide +kernel
theorem fc_0 : ∀ j, j < 4 → fl1[19 + j]? = some (Cond.eq (.elem (.static "TravelMarks" "LAW_LEAST" "[I") (.int (Int32.ofNat j))) (.int (tbLeast j))) := by decide +kernel
theorem fa_1 : fl1[24]? = some (Cond.arrayOf (.static "TravelMarks" "LAW_MOST" "[I") .int) := by decide +kernel
theorem fb_1 : fl1[25]? = some (Cond.eq (.length (.static "TravelMarks" "LAW_MOST" "[I")) (.int (Int32.ofNat 4))) := by decide +kernel
theorem fc_1 : ∀ j, j < 4 → fl1[26 + j]? = some (Cond.eq (.elem (.static "TravelMarks" "LAW_MOST" "[I") (.int (Int32.ofNat j))) (.int (tbMost j))) := by decide +kernel
theorem fa_2 : fl1[5]? = some (Cond.arrayOf (.static "TravelMarks" "LAW_AT_FIRST" "[I") .int) := by decide +kernel
theorem fb_2 : fl1[6]? = some (Cond.eq (.length (.static "TravelMarks" "LAW_AT_FIRST" "[I")) (.int (Int32.ofNat 4))) := by decide +kernel
theorem fc_2 : ∀ j, j < 4 → fl1[7 + j]? = some (Cond.eq (.elem (.static "TravelMarks" "LAW_AT_FIRST" "[I") (.int (Int32.ofNat j))) (.int (tbFirst j))) := by decide +kernel
theorem fa_3 : fl1[31]? = some (Cond.arrayOf (.static "TravelMarks" "ABOVE" "[I") .int) := by decide +kernel
theorem fb_3 : fl1[32]? = some (Cond.eq (.length (.static "TravelMarks" "ABOVE" "[I")) (.int (Int32.ofNat 6))) := by decide +kernel
theorem fc_3 : ∀ j, j < 6 → fl1[33 + j]? = some (Cond.eq (.elem (.static "TravelMarks" "ABOVE" "[I") (.int (Int32.ofNat j))) (.int (tbAbove j))) := by decide +kernel
theorem fa_4 : fl1[40]? = some (Cond.arrayOf (.static "TravelMarks$Deed" "BODIES" "[I") .int) := by decide +kernel
theorem fb_4 : fl1[41]? = some (Cond.eq (.length (.static "TravelMarks$Deed" "BODIES" "[I")) (.int (Int32.ofNat 24))) := by decide +kernel
theorem fc_4 : ∀ j, j < 24 → fl1[42 + j]? = some (Cond.eq (.elem (.static "TravelMarks$Deed" "BODIES" "[I") (.int (Int32.ofNat j))) (.int (tbBodies j))) := by decide +kernel
def sB (i : Nat) : Nat := ([80, 88, 97, 108, 121, 135, 148, 160, 174, 191, 208, 226, 245, 265] : List Nat).getD i 0
def sW (i : Nat) : Nat := ([111, 113, 115, 117, 119, 121, 76, 85, 56, 95, 123, 125, 127, 129] : List Nat).getD i 0
def sT (i : Nat) : Term := .string "TravelMarks$Tape" (sW i)
def sV (i : Nat) : Term := .field (sT i) "java/lang/String" "value" "[B"
theorem fs_1 : ∀ i, i < 14 → fl1[sB i]? = some (Cond.exactly (sT i) "java/lang/String") := by decide +kernel
theorem fs_2 : ∀ i, i < 14 → fl1[sB i + 1]? = some (Cond.eq (.field (sT i) "java/lang/String" "coder" "B") (.int 0)) := by decide +kernel
theorem fs_3 : ∀ i, i < 14 → fl1[sB i + 2]? = some (Cond.arrayOf (sV i) .byte) := by decide +kernel
theorem fs_4 : ∀ i, i < 14 → fl1[sB i + 3]? = some (Cond.eq (.length (sV i)) (.int (Int32.ofNat (stL.getD i 0)))) := by decide +kernel
theorem fs_5 : ∀ i, i < 14 → ∀ j, j < stL.getD i 0 → fl1[sB i + 4 + j]? = some (Cond.eq (.elem (sV i) (.int (Int32.ofNat j))) (.int ((stB.getD i []).getD j 0))) := by decide +kernel
theorem fs_6 : ∀ i, i < 14 → ∀ k, k < i → fl1[sB i + 4 + stL.getD i 0 + k]? = some (Cond.not (Cond.eq (sT k) (sT i))) := by decide +kernel
theorem fp_1 : fl1[11]? = some (Cond.eq (.static "java/lang/String" "COMPACT_STRINGS" "Z") (.int 1)) := by decide +kernel
theorem fp_2 : fl1[12]? = some (Cond.isRef (.static "jdk/internal/util/Preconditions" "SIOOBE_FORMATTER" "Ljava/util/function/BiFunction;")) := by decide +kernel
def sR (i : Nat) : Nat := ([322, 375, 376, 377, 378, 379, 384, 394, 403, 408, 414, 415, 416, 417] : List Nat).getD i 0
theorem fr_1 : ∀ i, i < 14 → lw_tbl[sR i]? = some (Cond.stringRef "TravelMarks$Tape" (sW i) ((stW.getD i (0, "")).2)) := by decide +kernel
theorem stW_at : ∀ k q, stW[k]? = some q → k < 14 ∧ q.1 = sW k ∧ q.2 = (stW.getD k (0, "")).2 := by
  intro k q h
  have hk : k < 14 := (List.getElem?_eq_some_iff.mp h).1
  have all : ∀ k, k < 14 → (stW.getD k (0, "")).1 = sW k := by decide +kernel
  have e : q = stW.getD k (0, "") := by
    rw [List.getD_eq_getElem?_getD, h]
    rfl
  exact ⟨hk, by rw [e]; exact all k hk, by rw [e]⟩
def nF (i : Nat) : Nat := ([422, 424, 93, 802] : List Nat).getD i 0
def nM (i : Nat) : Nat := ([393, 545, 529, 799, 225, 204, 174, 147] : List Nat).getD i 0
theorem fn_1 : ∀ i, i < 4 → ∃ q, neF[i]? = some q ∧ lw_tbl[nF i]? = some (Cond.fieldLinkNest q.1 q.2.1 q.2.2.1 q.2.2.2.1 q.2.2.2.2.1 q.2.2.2.2.2) := by
  intro i hi
  rcases (show i = 0 ∨ i = 1 ∨ i = 2 ∨ i = 3 by omega) with rfl | rfl | rfl | rfl
  · exact ⟨_, rfl, by decide +kernel⟩
  · exact ⟨_, rfl, by decide +kernel⟩
  · exact ⟨_, rfl, by decide +kernel⟩
  · exact ⟨_, rfl, by decide +kernel⟩
theorem fn_2 : ∀ i, i < 8 → ∃ q, neM[i]? = some q ∧ lw_tbl[nM i]? = some (Cond.methodLinkNest q.1 q.2.1 q.2.2.1 q.2.2.2) := by
  intro i hi
  rcases (show i = 0 ∨ i = 1 ∨ i = 2 ∨ i = 3 ∨ i = 4 ∨ i = 5 ∨ i = 6 ∨ i = 7 by omega) with rfl | rfl | rfl | rfl | rfl | rfl | rfl | rfl
  · exact ⟨_, rfl, by decide +kernel⟩
  · exact ⟨_, rfl, by decide +kernel⟩
  · exact ⟨_, rfl, by decide +kernel⟩
  · exact ⟨_, rfl, by decide +kernel⟩
  · exact ⟨_, rfl, by decide +kernel⟩
  · exact ⟨_, rfl, by decide +kernel⟩
  · exact ⟨_, rfl, by decide +kernel⟩
  · exact ⟨_, rfl, by decide +kernel⟩
set_option maxHeartbeats 4000000 in
set_option maxRecDepth 100000 in
theorem SE_of {args : Array Value} {s : State} (hf : ∀ w ∈ fl1, w.before args s = true) (ht : ∀ w ∈ lw_tbl, w.before args s = true) : ∃ E : Nat → Nat, SE E (fun z : Nat => s.heap.size ≤ z) s s.heap := by
  have hA : ∀ a : Nat, a < s.heap.size → ¬ (fun z : Nat => s.heap.size ≤ z) a := fun a h => Nat.not_le.mpr h
  have at1 : ∀ {i : Nat} {w : Cond}, fl1[i]? = some w → w.before args s = true := fun h => hf _ (List.mem_of_getElem? h)
  have at2 : ∀ {i : Nat} {w : Cond}, lw_tbl[i]? = some w → w.before args s = true := fun h => ht _ (List.mem_of_getElem? h)
  obtain ⟨t0, e0, T0⟩ := va_Tof (f := fun j => .int (tbLeast j)) (A := fun z : Nat => s.heap.size ≤ z) (N := 4) (by decide) (at1 fa_0) (va_eqt (at1 fb_0)) (fun j hj => va_eqt (at1 (fc_0 j hj))) hA
  have Z0 : va_Z "TravelMarks" "LAW_LEAST" "[I" (.ref t0) (fun z : Nat => s.heap.size ≤ z) s s.heap := va_Zof (ht _ (List.mem_of_getElem? (i := 423) (show lw_tbl[423]? = some (Cond.laysStatic "TravelMarks" "LAW_LEAST" "[I") by decide +kernel))) (ht _ (List.mem_of_getElem? (i := 61) (show lw_tbl[61]? = some (Cond.initialized "TravelMarks") by decide +kernel))) e0 hA
  obtain ⟨t1, e1, T1⟩ := va_Tof (f := fun j => .int (tbMost j)) (A := fun z : Nat => s.heap.size ≤ z) (N := 4) (by decide) (at1 fa_1) (va_eqt (at1 fb_1)) (fun j hj => va_eqt (at1 (fc_1 j hj))) hA
  have Z1 : va_Z "TravelMarks" "LAW_MOST" "[I" (.ref t1) (fun z : Nat => s.heap.size ≤ z) s s.heap := va_Zof (ht _ (List.mem_of_getElem? (i := 425) (show lw_tbl[425]? = some (Cond.laysStatic "TravelMarks" "LAW_MOST" "[I") by decide +kernel))) (ht _ (List.mem_of_getElem? (i := 61) (show lw_tbl[61]? = some (Cond.initialized "TravelMarks") by decide +kernel))) e1 hA
  obtain ⟨t2, e2, T2⟩ := va_Tof (f := fun j => .int (tbFirst j)) (A := fun z : Nat => s.heap.size ≤ z) (N := 4) (by decide) (at1 fa_2) (va_eqt (at1 fb_2)) (fun j hj => va_eqt (at1 (fc_2 j hj))) hA
  have Z2 : va_Z "TravelMarks" "LAW_AT_FIRST" "[I" (.ref t2) (fun z : Nat => s.heap.size ≤ z) s s.heap := va_Zof (ht _ (List.mem_of_getElem? (i := 94) (show lw_tbl[94]? = some (Cond.laysStatic "TravelMarks" "LAW_AT_FIRST" "[I") by decide +kernel))) (ht _ (List.mem_of_getElem? (i := 61) (show lw_tbl[61]? = some (Cond.initialized "TravelMarks") by decide +kernel))) e2 hA
  obtain ⟨t3, e3, T3⟩ := va_Tof (f := fun j => .int (tbAbove j)) (A := fun z : Nat => s.heap.size ≤ z) (N := 6) (by decide) (at1 fa_3) (va_eqt (at1 fb_3)) (fun j hj => va_eqt (at1 (fc_3 j hj))) hA
  have Z3 : va_Z "TravelMarks" "ABOVE" "[I" (.ref t3) (fun z : Nat => s.heap.size ≤ z) s s.heap := va_Zof (ht _ (List.mem_of_getElem? (i := 780) (show lw_tbl[780]? = some (Cond.laysStatic "TravelMarks" "ABOVE" "[I") by decide +kernel))) (ht _ (List.mem_of_getElem? (i := 61) (show lw_tbl[61]? = some (Cond.initialized "TravelMarks") by decide +kernel))) e3 hA
  obtain ⟨t4, e4, T4⟩ := va_Tof (f := fun j => .int (tbBodies j)) (A := fun z : Nat => s.heap.size ≤ z) (N := 24) (by decide) (at1 fa_4) (va_eqt (at1 fb_4)) (fun j hj => va_eqt (at1 (fc_4 j hj))) hA
  have Z4 : va_Z "TravelMarks$Deed" "BODIES" "[I" (.ref t4) (fun z : Nat => s.heap.size ≤ z) s s.heap := va_Zof (ht _ (List.mem_of_getElem? (i := 801) (show lw_tbl[801]? = some (Cond.laysStatic "TravelMarks$Deed" "BODIES" "[I") by decide +kernel))) (ht _ (List.mem_of_getElem? (i := 65) (show lw_tbl[65]? = some (Cond.initialized "TravelMarks$Deed") by decide +kernel))) e4 hA
  obtain ⟨aK, aV, hSt, hSe⟩ := vk_Sof (N := 14) (tm := sT) (len := stL) (byt := stB) (A := fun z : Nat => s.heap.size ≤ z) (by decide +kernel) (fun i hi => at1 (fs_1 i hi)) (fun i hi => at1 (fs_2 i hi)) (fun i hi => at1 (fs_3 i hi)) (fun i hi => at1 (fs_4 i hi)) (fun i hi j hj => at1 (fs_5 i hi j hj)) (fun i j hi hj hij => by
    rcases Nat.lt_or_gt_of_ne hij with g | g
    · exact Or.inl (at1 (fs_6 j hj i g))
    · exact Or.inr (at1 (fs_6 i hi j g))) hA
  obtain ⟨E, hE⟩ := nm_ex (fun k : Nat => if k < 10 then ([t0, t1, t2, t3, t4] : List Nat).getD k 0 else if k < 30 then aK (k - 10) else aV (k - 30))
  have g0 : ∀ k, k < 5 → E k = ([t0, t1, t2, t3, t4] : List Nat).getD k 0 := fun k hk => by
    rw [hE]
    exact if_pos (by omega)
  have g1 : ∀ i, i < 14 → E (10 + i) = aK i := fun i hi => by
    rw [hE]
    show (if 10 + i < 10 then _ else if 10 + i < 30 then aK (10 + i - 10) else aV (10 + i - 30)) = _
    rw [if_neg (by omega), if_pos (by omega), show 10 + i - 10 = i by omega]
  have g2 : ∀ i, i < 14 → E (30 + i) = aV i := fun i hi => by
    rw [hE]
    show (if 30 + i < 10 then _ else if 30 + i < 30 then aK (30 + i - 10) else aV (30 + i - 30)) = _
    rw [if_neg (by omega), if_neg (by omega), show 30 + i - 30 = i by omega]
  refine ⟨E, ⟨fun q hq => ?_, fun q hq => ?_⟩, fun k q hq => ?_, fun k q hq => ?_, ⟨fun i hi => ?_, fun i j hi hj e => ?_⟩, ?_, ?_, ?_, ?_⟩
  · obtain ⟨i, hi⟩ := List.mem_iff_getElem?.mp hq
    obtain ⟨q2, h1, h2⟩ := fn_1 i (List.getElem?_eq_some_iff.mp hi).1
    rw [hi] at h1
    cases h1
    exact va_Nw.of rfl (at2 h2)
  · obtain ⟨i, hi⟩ := List.mem_iff_getElem?.mp hq
    obtain ⟨q2, h1, h2⟩ := fn_2 i (List.getElem?_eq_some_iff.mp hi).1
    rw [hi] at h1
    cases h1
    exact va_Nw.of rfl (at2 h2)
  · obtain ⟨k14, q1, q2⟩ := stW_at k q hq
    rw [q1, q2, g1 k k14]
    exact vk_R.of (at2 (fr_1 k k14)) (hSe k k14)
  · have k5 : k < 5 := (List.getElem?_eq_some_iff.mp hq).1
    rw [g0 k k5]
    rcases (show k = 0 ∨ k = 1 ∨ k = 2 ∨ k = 3 ∨ k = 4 by omega) with rfl | rfl | rfl | rfl | rfl
    · cases hq; exact ⟨Z0, T0⟩
    · cases hq; exact ⟨Z1, T1⟩
    · cases hq; exact ⟨Z2, T2⟩
    · cases hq; exact ⟨Z3, T3⟩
    · cases hq; exact ⟨Z4, T4⟩
  · have h := hSt.1 i hi
    rw [← g1 i hi, ← g2 i hi] at h
    exact h
  · have e : E (10 + i) = E (10 + j) := e
    rw [g1 i hi, g1 j hj] at e
    exact hSt.2 i j hi hj e
  · exact va_Zof (ht _ (List.mem_of_getElem? (i := 336) (show lw_tbl[336]? = some (Cond.laysStatic "java/lang/String" "COMPACT_STRINGS" "Z") by decide +kernel))) (ht _ (List.mem_of_getElem? (i := 69) (show lw_tbl[69]? = some (Cond.initialized "java/lang/String") by decide +kernel))) (va_eqt (at1 fp_1)) hA
  · exact va_Zqof (ht _ (List.mem_of_getElem? (i := 352) (show lw_tbl[352]? = some (Cond.laysStatic "jdk/internal/util/Preconditions" "SIOOBE_FORMATTER" "Ljava/util/function/BiFunction;") by decide +kernel))) (ht _ (List.mem_of_getElem? (i := 71) (show lw_tbl[71]? = some (Cond.initialized "jdk/internal/util/Preconditions") by decide +kernel))) (at1 fp_2) hA
  · exact va_AO.of (ht _ (List.mem_of_getElem? (i := 200) (show lw_tbl[200]? = some (Cond.arrayOver (.object "TravelMarks$Sheet")) by decide +kernel)))
  · exact va_AO.of (ht _ (List.mem_of_getElem? (i := 202) (show lw_tbl[202]? = some (Cond.arrayOver (.object "TravelMarks$Shelf")) by decide +kernel)))
theorem ar_I {args : Array Value} {s : State} (h : (Cond.arrayClass .int).before args s = true) : ∃ cA, ArrOfT s cA .int ∧ va_RA s cA .int := by
  obtain ⟨c, k, comp, h1, h2, h3⟩ := Cond.arrayClass_spec (args := args) (first := s) (o := none) (s := s) (idx := []) h
  exact ⟨c, fun n z => ⟨fun k h => (by cases h), k, h2, comp, h3⟩, h1⟩
theorem ar_B {args : Array Value} {s : State} (h : (Cond.arrayClass .byte).before args s = true) : ∃ cA, ArrOfT s cA .byte ∧ va_RA s cA .byte := by
  obtain ⟨c, k, comp, h1, h2, h3⟩ := Cond.arrayClass_spec (args := args) (first := s) (o := none) (s := s) (idx := []) h
  exact ⟨c, fun n z => ⟨fun k h => (by cases h), k, h2, comp, h3⟩, h1⟩
theorem ar_J {args : Array Value} {s : State} (h : (Cond.arrayClass .long).before args s = true) : ∃ cA, ArrOfT s cA .long ∧ va_RA s cA .long := by
  obtain ⟨c, k, comp, h1, h2, h3⟩ := Cond.arrayClass_spec (args := args) (first := s) (o := none) (s := s) (idx := []) h
  exact ⟨c, fun n z => ⟨fun k h => (by cases h), k, h2, comp, h3⟩, h1⟩
theorem ar_O {args : Array Value} {s : State} {n : String} (h : (Cond.arrayOver (.object n)).before args s = true) : ∃ cA, ArrOfT s cA (.object n) ∧ va_RA s cA (.object n) := by
  obtain ⟨comp, c, k, f1, -, f2, f3, f4⟩ := Cond.arrayOver_spec (args := args) (first := s) (o := none) (idx := []) h
  exact ⟨c, fun n z => ⟨fun k h => (by cases h), k, f2, comp, f3⟩, k, comp, f2, f3, f1, f4⟩
theorem K_of {args : Array Value} {s : State} (ht : ∀ w ∈ lw_tbl, w.before args s = true) : ∃ (D : va_G) (C : Nat → ClassId), va_K D vwCl (tyL C) s := by
  obtain ⟨c0, i0, k0⟩ := u_known (C := RX0) (T := TX0) (N := 6) (n := 6) ht in_wsX00 (ht _ (List.mem_of_getElem? (i := 173) (show lw_tbl[173]? = some (Cond.instantiable RX0 6) by decide +kernel)))
  obtain ⟨c1, i1, k1⟩ := u_known (C := RX1) (T := TX1) (N := 10) (n := 10) ht in_wsX10 (ht _ (List.mem_of_getElem? (i := 84) (show lw_tbl[84]? = some (Cond.instantiable RX1 10) by decide +kernel)))
  obtain ⟨c2, i2, k2⟩ := u_known (C := RX2) (T := TX2) (N := 3) (n := 3) ht in_wsX20 (ht _ (List.mem_of_getElem? (i := 203) (show lw_tbl[203]? = some (Cond.instantiable RX2 3) by decide +kernel)))
  obtain ⟨c3, i3, k3⟩ := u_known (C := RX3) (T := TX3) (N := 4) (n := 4) ht in_wsX30 (ht _ (List.mem_of_getElem? (i := 224) (show lw_tbl[224]? = some (Cond.instantiable RX3 4) by decide +kernel)))
  obtain ⟨c4, i4, k4⟩ := u_known (C := RX4) (T := TX4) (N := 6) (n := 6) ht in_wsX40 (ht _ (List.mem_of_getElem? (i := 146) (show lw_tbl[146]? = some (Cond.instantiable RX4 6) by decide +kernel)))
  obtain ⟨c5, i5, k5⟩ := u_known (C := RX5) (T := TX5) (N := 11) (n := 11) ht in_wsX50 (ht _ (List.mem_of_getElem? (i := 76) (show lw_tbl[76]? = some (Cond.instantiable RX5 11) by decide +kernel)))
  obtain ⟨c6, i6, k6⟩ := u_known (C := RX6) (T := TX6) (N := 28) (n := 28) ht in_wsX60 (ht _ (List.mem_of_getElem? (i := 832) (show lw_tbl[832]? = some (Cond.instantiable RX6 28) by decide +kernel)))
  obtain ⟨aI, rI⟩ := ar_I (ht _ (List.mem_of_getElem? (i := 144) (show lw_tbl[144]? = some (Cond.arrayClass .int) by decide +kernel)))
  obtain ⟨aB, rB⟩ := ar_B (ht _ (List.mem_of_getElem? (i := 171) (show lw_tbl[171]? = some (Cond.arrayClass .byte) by decide +kernel)))
  obtain ⟨aJ, rJ⟩ := ar_J (ht _ (List.mem_of_getElem? (i := 223) (show lw_tbl[223]? = some (Cond.arrayClass .long) by decide +kernel)))
  obtain ⟨aS, rS⟩ := ar_O (ht _ (List.mem_of_getElem? (i := 200) (show lw_tbl[200]? = some (Cond.arrayOver (.object "TravelMarks$Sheet")) by decide +kernel)))
  obtain ⟨aF, rF⟩ := ar_O (ht _ (List.mem_of_getElem? (i := 202) (show lw_tbl[202]? = some (Cond.arrayOver (.object "TravelMarks$Shelf")) by decide +kernel)))
  refine ⟨(fun k => if k = 0 then c0 else if k = 1 then c1 else if k = 2 then c2 else if k = 3 then c3 else if k = 4 then c4 else if k = 5 then c5 else c6, fun k => if k = 0 then i0 else if k = 1 then i1 else if k = 2 then i2 else if k = 3 then i3 else if k = 4 then i4 else if k = 5 then i5 else i6), fun k => if k = 0 then aI else if k = 1 then aB else if k = 2 then aJ else if k = 3 then aS else aF, fun k q hq => ?_, fun k q hq => ?_⟩
  · match k, hq with
    | 0, hq => cases hq; exact k0
    | 1, hq => cases hq; exact k1
    | 2, hq => cases hq; exact k2
    | 3, hq => cases hq; exact k3
    | 4, hq => cases hq; exact k4
    | 5, hq => cases hq; exact k5
    | 6, hq => cases hq; exact k6
    | k + 7, hq => exact absurd (List.getElem?_eq_some_iff.mp hq).1 (by show ¬ k + 7 < 7; omega)
  · match k, hq with
    | 0, hq => cases hq; exact rI
    | 1, hq => cases hq; exact rB
    | 2, hq => cases hq; exact rJ
    | 3, hq => cases hq; exact rS
    | 4, hq => cases hq; exact rF
    | k + 5, hq => exact absurd (List.getElem?_eq_some_iff.mp hq).1 (by show ¬ k + 5 < 5; omega)
