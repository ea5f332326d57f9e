/-! PURE 34: port -/
def law0 (k : Nat) : Nat := ([3, 1, 5, 20] : List Nat).getD k 0
def aP0 (z : Int32) : AP := (0, 0, z, law0, fun _ => 0, fun _ => 0, fun _ => 0, fun _ => 0, fun _ => 0)
theorem WF_0 (z : Int32) : WF (aP0 z) := by
  refine ⟨Nat.zero_le _, ⟨(by decide : 1 ≤ law0 0), (by decide : law0 0 ≤ 8), (by decide : law0 1 ≤ 9), (by decide : law0 2 ≤ 9), (by decide : law0 3 ≤ 99)⟩, fun k hk => absurd hk (Nat.not_lt_zero k), fun r _ => Or.inl ⟨rfl, rfl⟩⟩
theorem join_m1 (v : PV) {j : Nat} (hj : j < 6) : f_X1_join v (nI j) (-1) (-1) = some (pSetSecond (pSetFirst v (upd (pFirst v) j (-1))) (upd (pSecond v) j (-1))) := by
  unfold f_X1_join
  rw [ckA_nI hj (by decide), lj_s, ckA_nI hj (by decide), lj_s, nI_clamp (by omega)]
theorem clear_L (k : PV → Option PV) : ∀ (d j f : Nat) (v : PV), j + d = 6 → d < f → ∃ v', f_X1_clear_L15 k f (nI j) v = k v' ∧ pLaws v' = pLaws v ∧ pZ v' = pZ v ∧ ∀ r, (r < j → pFirst v' r = pFirst v r ∧ pSecond v' r = pSecond v r) ∧ (j ≤ r → r < 6 → pFirst v' r = -1 ∧ pSecond v' r = -1) := by
  intro d
  induction d with
  | zero =>
    intro j f v hj hf
    obtain ⟨f, rfl⟩ : ∃ f', f = f' + 1 := ⟨f - 1, by omega⟩
    refine ⟨v, ?_, rfl, rfl, fun r => ⟨fun _ => ⟨rfl, rfl⟩, fun h1 h2 => absurd h2 (by omega)⟩⟩
    rw [f_X1_clear_L15, if_pos (show (6 : Int32) ≤ nI j from nI_le (a := 6) (by omega) (by omega))]
  | succ d ih =>
    intro j f v hj hf
    obtain ⟨f, rfl⟩ : ∃ f', f = f' + 1 := ⟨f - 1, by omega⟩
    obtain ⟨v', e1, e2, e4, e3⟩ := ih (j + 1) f (pSetSecond (pSetFirst v (upd (pFirst v) j (-1))) (upd (pSecond v) j (-1))) (by omega) (by omega)
    refine ⟨v', ?_, e2, e4, fun r => ⟨fun h => ?_, fun h1 h2 => ?_⟩⟩
    · rw [f_X1_clear_L15, if_neg (show ¬ (6 : Int32) ≤ nI j from nI_ge (b := 6) (by omega) (by decide)), join_m1 v (by omega), ob1_s, lj_s, nI_1]
      exact e1
    · obtain ⟨g1, g2⟩ := (e3 r).1 (by omega)
      exact ⟨g1.trans (upd_n (by omega)), g2.trans (upd_n (by omega))⟩
    · by_cases q : r = j
      · obtain ⟨g1, g2⟩ := (e3 r).1 (by omega)
        subst q
        exact ⟨g1.trans upd_s, g2.trans upd_s⟩
      · exact (e3 r).2 (by omega) h2
theorem X1_clear {N : Nat} (hN : 500 ≤ N) (v : PV) : ∃ v', f_X1_clear N v = some v' ∧ pZ v' = pZ v ∧ ∀ z, CV (aP0 z) (pSetZ v' z) := by
  unfold f_X1_clear
  rw [lj_s, lj_s]
  obtain ⟨v', e1, e2, e4, e3⟩ := clear_L (fun (v2 : PV) => lj (pSetCount v2 0) (fun (v4 : PV) => lj (pSetHour v4 0) (fun (v5 : PV) => some v5))) 6 0 N (pSetLaws v (va_cpy tbFirst (pLaws v) 0 0 4)) (by omega) (by omega)
  have e1 : f_X1_clear_L15 (fun (v2 : PV) => lj (pSetCount v2 0) (fun (v4 : PV) => lj (pSetHour v4 0) (fun (v5 : PV) => some v5))) N 0 (pSetLaws v (va_cpy tbFirst (pLaws v) 0 0 4)) = lj (pSetCount v' 0) (fun (v4 : PV) => lj (pSetHour v4 0) (fun (v5 : PV) => some v5)) := e1
  refine ⟨pSetHour (pSetCount v' 0) 0, e1, e4, fun z => ⟨rfl, rfl, rfl, fun k hk => ?_, fun k hk => absurd hk (Nat.not_lt_zero k), fun r hr => ?_⟩⟩
  · show pLaws v' k = nI (law0 k)
    rw [e2]
    show va_cpy tbFirst (pLaws v) 0 0 4 k = nI (law0 k)
    rw [pk_cpy_in (Nat.zero_le k) (by omega)]
    rcases four_c hk with rfl | rfl | rfl | rfl <;> rfl
  · obtain ⟨g1, g2⟩ := (e3 r).2 (Nat.zero_le r) hr
    exact ⟨g1, g2⟩
theorem begins_L (k : (Nat → Int32) → Option (Nat → Int32)) : ∀ (d j f : Nat) (s : Nat → Int32), j + d = 43 → d < f → ∃ s', f_X6_begins_L9 k f (nI j) s = k s' ∧ ∀ i, (i < j → s' i = s i) ∧ (j ≤ i → i < 43 → s' i = 0) := by
  intro d
  induction d with
  | zero =>
    intro j f s hj hf
    obtain ⟨f, rfl⟩ : ∃ f', f = f' + 1 := ⟨f - 1, by omega⟩
    refine ⟨s, ?_, fun i => ⟨fun _ => rfl, fun h1 h2 => absurd h2 (by omega)⟩⟩
    rw [f_X6_begins_L9, if_pos (show (43 : Int32) ≤ nI j from nI_le (a := 43) (by omega) (by omega))]
  | succ d ih =>
    intro j f s hj hf
    obtain ⟨f, rfl⟩ : ∃ f', f = f' + 1 := ⟨f - 1, by omega⟩
    obtain ⟨s', e1, e3⟩ := ih (j + 1) f (upd s j 0) (by omega) (by omega)
    refine ⟨s', ?_, fun i => ⟨fun h => ?_, fun h1 h2 => ?_⟩⟩
    · rw [f_X6_begins_L9, if_neg (show ¬ (43 : Int32) ≤ nI j from nI_ge (b := 43) (by omega) (by decide)), ckA_nI (by omega) (by decide), lj_s, lj_s, nI_clamp (by omega), nI_1]
      exact e1
    · exact ((e3 i).1 (by omega)).trans (upd_n (by omega))
    · by_cases q : i = j
      · subst q
        exact ((e3 i).1 (by omega)).trans upd_s
      · exact (e3 i).2 (by omega) h2
theorem X6_begins {N : Nat} (hN : 500 ≤ N) (s : Nat → Int32) : ∃ s', f_X6_begins N s = some s' ∧ CM (aP0 (s 2)) s' := by
  unfold f_X6_begins
  rw [lj_s, lj_s]
  obtain ⟨s', e1, e3⟩ := begins_L (fun (v2 : Nat → Int32) => lj (upd v2 2 (s 2)) (fun (v4 : Nat → Int32) => lj (upd v4 3 3) (fun (v5 : Nat → Int32) => lj (upd v5 4 1) (fun (v6 : Nat → Int32) => lj (upd v6 5 5) (fun (v7 : Nat → Int32) => lj (upd v7 6 20) (fun (v8 : Nat → Int32) => some v8)))))) 43 0 N s (by omega) (by omega)
  have e1 : f_X6_begins_L9 (fun (v2 : Nat → Int32) => lj (upd v2 2 (s 2)) (fun (v4 : Nat → Int32) => lj (upd v4 3 3) (fun (v5 : Nat → Int32) => lj (upd v5 4 1) (fun (v6 : Nat → Int32) => lj (upd v6 5 5) (fun (v7 : Nat → Int32) => lj (upd v7 6 20) (fun (v8 : Nat → Int32) => some v8)))))) N 0 s = some (upd (upd (upd (upd (upd s' 2 (s 2)) 3 3) 4 1) 5 5) 6 20) := e1
  have f : ∀ i, i < 43 → s' i = 0 := fun i hi => (e3 i).2 (Nat.zero_le i) hi
  refine ⟨_, e1, ?_, ?_, ?_, fun k hk => ?_, fun k hk => absurd hk (Nat.not_lt_zero k), fun r hr => ⟨?_, fun z => absurd rfl z⟩⟩
  · rw [upd_n (by decide), upd_n (by decide), upd_n (by decide), upd_n (by decide), upd_n (by decide)]; exact f 0 (by decide)
  · rw [upd_n (by decide), upd_n (by decide), upd_n (by decide), upd_n (by decide), upd_n (by decide)]; exact f 1 (by decide)
  · rw [upd_n (by decide), upd_n (by decide), upd_n (by decide), upd_n (by decide), upd_s]; rfl
  · rcases four_c hk with rfl | rfl | rfl | rfl <;> rfl
  · rw [upd_n (by omega), upd_n (by omega), upd_n (by omega), upd_n (by omega), upd_n (by omega)]; exact f (7 + r) (by omega)
def YPt (h : Nat) (tm : Nat → Int32) (n rn : Int32) (c : Option (Int32 × Int32 × PV × PV × TV)) (m : Option (Int32 × (Nat → Int32) × (Nat → Int32) × Int32 × Int32 × Int32 × Int32 × Int32 × Int32 × Int32)) : Prop := ∃ (r n' : Int32) (v' t' : PV) (tp' : TV) (s' q' : Nat → Int32) (tok fr to val wr rn' : Int32), c = some (r, n', v', t', tp') ∧ m = some (r, s', q', 0, tok, fr, to, val, wr, rn') ∧ RP h v' s' ∧ RT tp' tm 0 ∧ ((n' = 0 ∧ rn' = 0) ∨ (n' = n ∧ rn' = rn))
theorem Y_port {N h : Nat} {v : PV} {s : Nat → Int32} (t : PV) (q : Nat → Int32) (hr : RP h v s) (hN : 500 ≤ N) {tp : TV} {tm : Nat → Int32} {l : Int32} (hT : RT tp tm l) (n rn tok fr to val wr : Int32) : YPt h tm n rn (f_X5_port N n v t tp) (f_X6_port N s q tm l tok fr to val wr rn) := by
  obtain ⟨b, k, hc, ht⟩ := hT
  obtain ⟨a, hv, hs, hw, hh⟩ := id hr
  obtain ⟨v1, e1, -, cv1⟩ := X1_clear hN t
  obtain ⟨q1, g1, hq1⟩ := X6_copyRow (N := N) (by omega) s q
  obtain ⟨s1, g2, cm1⟩ := X6_begins hN s
  have ez : s 2 = pZ v := hs.2.2.1.trans hv.2.2.1.symm
  rw [ez] at cm1
  obtain ⟨tp1, e2, ct1⟩ := C_next (p := 0) hN (Nat.zero_le k) (v := tpSetEnd tp 0) hc rfl
  obtain ⟨y, g3, my⟩ := M_next (p := 0) hN (Nat.zero_le k) ht tok fr val
  have g3 : f_X6_nextToken N tm l tok fr 0 val = _ := g3
  have m1 : MZ b k true 0 _ _ _ y 0 := ⟨Nat.zero_le k, rfl, rfl, rfl, my, rfl⟩
  have k200 := ht.1
  obtain ⟨r, v3, w3, s3, t3, f3, x3, y3, z3, o1, o2, o3, o4⟩ := O_text hN ht (fun (v10 : Nat → Int32) (v11 : Int32) (v12 : Int32) (v13 : Int32) (v14 : Int32) (v15 : Int32) => if v15 = 0 then lj (v10 0) (fun (t18 : Int32) => some (t18, v10, q1, 0, v11, v12, v13, v14, v15, 0)) else ob1 (f_X6_copyRow N q1 v10) (fun (v19 : Nat → Int32) => lj ((-100) - v12) (fun (t21 : Int32) => some (t21, v19, q1, 0, v11, v12, v13, v14, v15, rn)))) k 0 0 N N tp1 (pSetZ v1 (pZ v)) s1 _ _ _ y 0 (aP0 (pZ v)) (by omega) (Nat.zero_le _) (by omega) (by omega) ct1 m1 (cv1 (pZ v)) cm1 (WF_0 _)
  have o1 : f_X4_readInto_L11 N N 0 tp1 (pSetZ v1 (pZ v)) = some (r, v3, w3) := o1
  have hc5 : f_X5_port N n v t tp = if r < 0 then ob1 (f_X1_become v w3) (fun (v11 : PV) => lj (pCount v11) (fun (t13 : Int32) => some (t13, 0, v11, w3, tpSetLength v3 0))) else lj ((-100) - r) (fun (t14 : Int32) => some (t14, n, v, w3, tpSetLength v3 0)) := by
    unfold f_X5_port
    rw [e1, ob1_s, lj_s, lj_s]
    unfold f_X4_readInto
    rw [lj_s, e2, ob1_s, o1, ob3_s, lj_s]
  have hm5 : f_X6_port N s q tm l tok fr to val wr rn = if z3 = 0 then lj (s3 0) (fun (t18 : Int32) => some (t18, s3, q1, 0, t3, f3, x3, y3, z3, 0)) else ob1 (f_X6_copyRow N q1 s3) (fun (v19 : Nat → Int32) => lj ((-100) - f3) (fun (t21 : Int32) => some (t21, v19, q1, 0, t3, f3, x3, y3, z3, rn))) := by
    unfold f_X6_port
    rw [g1, ob1_s, g2, ob1_s, g3, ob4_s, lj_s, o2]
  have hrt : RT (tpSetLength v3 0) tm 0 := ⟨b, 0, ⟨by decide, rfl, fun j hj => absurd hj (Nat.not_lt_zero j)⟩, by decide, rfl, fun j hj => absurd hj (Nat.not_lt_zero j)⟩
  rw [hc5, hm5]
  rcases o4 with ⟨z0, r1, a', cv, cm, wf, ah⟩ | ⟨z1, u, u2, r1, f1⟩
  · obtain ⟨v', b1, b2⟩ := X1_become (v := v) cv wf.1
    rw [if_pos z0, r1, if_pos (by decide), b1, ob1_s, lj_s, lj_s, b2.1, cm.1]
    exact ⟨_, _, _, _, _, _, _, _, _, _, _, _, _, rfl, rfl, ⟨a', b2, cm, wf, by rw [ah]; exact Nat.zero_le h⟩, hrt, Or.inl ⟨rfl, rfl⟩⟩
  · obtain ⟨s4, g4, hs4⟩ := X6_copyRow (N := N) (by omega) q1 s3
    have hz : ¬ z3 = 0 := by rw [z1]; exact n10
    have hr0 : ¬ r < 0 := by rw [r1]; exact nI_pos (by omega)
    rw [if_neg hr0, if_neg hz, g4, ob1_s, lj_s, lj_s, r1, f1]
    refine ⟨_, _, _, _, _, _, _, _, _, _, _, _, _, rfl, rfl, ⟨a, hv, CM_at hs hw.1 (fun i hi => (hs4 i hi).trans (hq1 i hi)), hw, hh⟩, hrt, Or.inr ⟨rfl, rfl⟩⟩
